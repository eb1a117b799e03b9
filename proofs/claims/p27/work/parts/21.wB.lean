def f_X4_accepted (k : Nat) (f_acceptedSet : Int64) : Option (Int64) := some f_acceptedSet
abbrev rm_X4_accepted : Room := { frames := 0, cells := 0, slots := 0, locals := 0 }
set_option maxHeartbeats 4000000 in
set_option maxRecDepth 100000 in
theorem c_X4_accepted (l : Launch) (G : va_G) (cy : ClassId × ClassId × ClassId) (k : Nat) (aT aT_begins aT_ends aT_weights aT_givenRooms aT_oneRoom aT_manyRooms : Nat) (f_added : Int32) (f_presentSet : Int64) (f_factor : Int32) (f_offeredSet : Int64) (f_acceptedSet : Int64) (f_dropped : Int32) {r : Int64} (hf : f_X4_accepted k f_acceptedSet = some r) : Cl l yX4_accepted wsX4_accepted rm_X4_accepted 0 0 G cy [.ref aT] [(aT, .inr (4, [.ref aT_begins, .ref aT_ends, .ref aT_weights, .int f_added, .long f_presentSet, .int f_factor, .long f_offeredSet, .long f_acceptedSet, .int f_dropped, .ref aT_givenRooms, .ref aT_oneRoom, .ref aT_manyRooms]))] [(aT, .inr (4, [.ref aT_begins, .ref aT_ends, .ref aT_weights, .int f_added, .long f_presentSet, .int f_factor, .long f_offeredSet, .long f_acceptedSet, .int f_dropped, .ref aT_givenRooms, .ref aT_oneRoom, .ref aT_manyRooms]))] r := by
  refine kMetL (cc := cX4_accepted) (maxL := 1) (by decide) rfl (Nat.le_of_ble_eq_true rfl) ?_
  intro p e s m args below meth c Q A ls hx hb hml hts hown hv hl kret
  replace hown : s.vm.findClass RX4 = some m.cls := hown
  replace hl : lv_has ls 1 [(0, .ref aT)] := hl
  have hk75 : (Cond.fieldLink RX4 75 "Roomcolour" "acceptedSet" "J").before args s = true := hts _ (by decide +kernel)
  have hinX4 : ∀ w ∈ wsX40, w ∈ wsX4_accepted := by decide +kernel
  unfold f_X4_accepted at hf
  refine lv_aload_n hx hb dX4_accepted_0 rfl (lv_at hl 0 rfl) ?_
  refine kGet (v := .long f_acceptedSet) (C := RX4) (T := TX4) (N := 12) hx hb hts hinX4 hown hv 0 rfl rfl 7 (by decide) hk75 (fun _ h9 => h9) rfl dX4_accepted_1 ?_
  cases hf
  exact kret _ _ _ _ hv dX4_accepted_4

def f_X4_contains (k : Nat) (p0 : Int64) (p2 : Int32) : Option (Int32) := xb (f_X4_only k p2) (fun r1 => if (lg_cmp (p0 &&& r1) 0) = 0 then some 0 else some 1)
abbrev rm_X4_contains : Room := { frames := 1, cells := 0, slots := 0, locals := 20 }
set_option maxHeartbeats 4000000 in
set_option maxRecDepth 100000 in
theorem c_X4_contains (l : Launch) (G : va_G) (cy : ClassId × ClassId × ClassId) (k : Nat) (p0 : Int64) (p2 : Int32) {r : Int32} (hf : f_X4_contains k p0 p2 = some r) : Ci l yX4_contains wsX4_contains rm_X4_contains 0 0 G cy [.long p0, .int p2] [] [] r := by
  refine kMetZ (cc := cX4_contains) (maxL := 3) (by decide) rfl (Nat.le_of_ble_eq_true rfl) ?_
  intro p e s m args below meth c Q A ls hx hb hml hts hown hv hl kret
  replace hown : s.vm.findClass RX4 = some m.cls := hown
  replace hl : lv_has ls 3 [(0, .long p0), (2, .int p2)] := hl
  unfold f_X4_contains at hf
  refine lv_lload_n hx hb dX4_contains_0 rfl (lv_at hl 0 rfl) ?_
  refine lv_iload_n hx hb dX4_contains_1 rfl (lv_at hl 1 rfl) ?_
  obtain ⟨r1, hcl2, hf⟩ := xb_some hf
  refine kS_l (r := r1) ⟨hx, hb, hml, hown, hts⟩ (c_X4_only l G cy k p2 hcl2) (va_cwS 1 hts gX4_contains_X4_only rfl rfl rfl (by decide +kernel) ⟨Nat.le_of_ble_eq_true rfl, Nat.le_of_ble_eq_true rfl⟩) hv rfl hl.1 rfl (Nat.le_of_ble_eq_true rfl) dX4_contains_2 ⟨Nat.le_of_ble_eq_true rfl, Nat.le_of_ble_eq_true rfl⟩ (fun H locs hv => ?_)
  refine lv_land hx hb dX4_contains_5 ?_
  refine lv_lconst (v := 0) hx hb dX4_contains_6 (by decide) ?_
  refine W.lcmp hx hb dX4_contains_7 ?_
  refine lv_if_eq (tgt := 15) hx hb dX4_contains_8 (by decide) (fun hc3 => ?_) (fun hc3 => ?_)
  · replace hf := ite_t hf hc3
    refine lv_iconst (v := 0) hx hb dX4_contains_15 (by decide) ?_
    cases hf
    exact kret _ _ _ _ hv dX4_contains_16 rfl
  · replace hf := ite_f hf hc3
    refine lv_iconst (v := 1) hx hb dX4_contains_11 (by decide) ?_
    refine lv_goto (tgt := 16) hx hb dX4_contains_12 (by decide) ?_
    cases hf
    exact kret _ _ _ _ hv dX4_contains_16 rfl

def f_X4_weightOf_L5 (k : Nat) (v1 : Int64) (f_added : Int32) (A_weights : Nat → Int32) (κ : Int32 → Int32 → Option (Int32)) : Nat → Int32 → Int32 → Option (Int32)
  | 0, _, _ => none
  | n + 1, v3, v4 => if f_added ≤ v4 then κ v3 v4 else xb (f_X4_contains k v1 v4) (fun r2 => if r2 = 0 then f_X4_weightOf_L5 k v1 f_added A_weights κ n v3 (v4 + 1) else xi v4 40 (f_X4_weightOf_L5 k v1 f_added A_weights κ n (v3 + (A_weights v4.toNatClampNeg)) (v4 + 1)))
theorem f_X4_weightOf_L5_z (k : Nat) (v1 : Int64) (f_added : Int32) (A_weights : Nat → Int32) (κ : Int32 → Int32 → Option (Int32)) (v3 : Int32) (v4 : Int32) : f_X4_weightOf_L5 k v1 f_added A_weights κ 0 v3 v4 = none := rfl
theorem f_X4_weightOf_L5_s (k : Nat) (v1 : Int64) (f_added : Int32) (A_weights : Nat → Int32) (κ : Int32 → Int32 → Option (Int32)) (n : Nat) (v3 : Int32) (v4 : Int32) : f_X4_weightOf_L5 k v1 f_added A_weights κ (n + 1) v3 v4 = if f_added ≤ v4 then κ v3 v4 else xb (f_X4_contains k v1 v4) (fun r2 => if r2 = 0 then f_X4_weightOf_L5 k v1 f_added A_weights κ n v3 (v4 + 1) else xi v4 40 (f_X4_weightOf_L5 k v1 f_added A_weights κ n (v3 + (A_weights v4.toNatClampNeg)) (v4 + 1))) := rfl
def f_X4_weightOf (k : Nat) (p1 : Int64) (f_added : Int32) (A_weights : Nat → Int32) : Option (Int32) := f_X4_weightOf_L5 k p1 f_added A_weights (fun (v3_6 : Int32) (v4_7 : Int32) => some v3_6) k 0 0
abbrev rm_X4_weightOf : Room := { frames := 2, cells := 0, slots := 0, locals := 42 }
set_option maxHeartbeats 4000000 in
set_option maxRecDepth 100000 in
theorem c_X4_weightOf (l : Launch) (G : va_G) (cy : ClassId × ClassId × ClassId) (k : Nat) (aT aT_begins aT_ends aT_weights aT_givenRooms aT_oneRoom aT_manyRooms : Nat) (f_added : Int32) (f_presentSet : Int64) (f_factor : Int32) (f_offeredSet : Int64) (f_acceptedSet : Int64) (f_dropped : Int32) (A_weights : Nat → Int32) (p1 : Int64) {r : Int32} (hf : f_X4_weightOf k p1 f_added A_weights = some r) : Ci l yX4_weightOf wsX4_weightOf rm_X4_weightOf 0 0 G cy [.ref aT, .long p1] [(aT, .inr (4, [.ref aT_begins, .ref aT_ends, .ref aT_weights, .int f_added, .long f_presentSet, .int f_factor, .long f_offeredSet, .long f_acceptedSet, .int f_dropped, .ref aT_givenRooms, .ref aT_oneRoom, .ref aT_manyRooms])), (aT_weights, .inl (cy.1, 40, .inl A_weights))] [(aT, .inr (4, [.ref aT_begins, .ref aT_ends, .ref aT_weights, .int f_added, .long f_presentSet, .int f_factor, .long f_offeredSet, .long f_acceptedSet, .int f_dropped, .ref aT_givenRooms, .ref aT_oneRoom, .ref aT_manyRooms])), (aT_weights, .inl (cy.1, 40, .inl A_weights))] r := by
  refine kMetI (cc := cX4_weightOf) (maxL := 5) (by decide) rfl (Nat.le_of_ble_eq_true rfl) ?_
  intro p e s m args below meth c Q A ls hx hb hml hts hown hv hl kret
  replace hown : s.vm.findClass RX4 = some m.cls := hown
  replace hl : lv_has ls 5 [(0, .ref aT), (1, .long p1)] := hl
  have hk53 : (Cond.fieldLink RX4 53 "Roomcolour" "added" "I").before args s = true := hts _ (by decide +kernel)
  have hinX4 : ∀ w ∈ wsX40, w ∈ wsX4_weightOf := by decide +kernel
  have hk16 : (Cond.fieldLink RX4 16 "Roomcolour" "weights" "[I").before args s = true := hts _ (by decide +kernel)
  have L5 : ∀ (v1 : Int64) (κ : Int32 → Int32 → Option (Int32)) (n : Nat) (v3 : Int32) (v4 : Int32), f_X4_weightOf_L5 k v1 f_added A_weights κ n v3 v4 = some r → ∀ (H : Heap) (locs : List Loc) (ls : Array Slot), Hv s H locs G cy A [(aT, .inr (4, [.ref aT_begins, .ref aT_ends, .ref aT_weights, .int f_added, .long f_presentSet, .int f_factor, .long f_offeredSet, .long f_acceptedSet, .int f_dropped, .ref aT_givenRooms, .ref aT_oneRoom, .ref aT_manyRooms])), (aT_weights, .inl (cy.1, 40, .inl A_weights))] → lv_has ls 5 [(0, .ref aT), (1, .long v1), (3, .int v3), (4, .int v4)] → (∀ (v3 : Int32) (v4 : Int32), κ v3 v4 = some r → ∀ (H : Heap) (locs : List Loc) (ls : Array Slot), Hv s H locs G cy A [(aT, .inr (4, [.ref aT_begins, .ref aT_ends, .ref aT_weights, .int f_added, .long f_presentSet, .int f_factor, .long f_offeredSet, .long f_acceptedSet, .int f_dropped, .ref aT_givenRooms, .ref aT_oneRoom, .ref aT_manyRooms])), (aT_weights, .inl (cy.1, 40, .inl A_weights))] → lv_has ls 5 [(3, .int v3)] → W p l e rm_X4_weightOf s m args below meth c H locs 0 0 Q (F0 m 39 ls [])) → W p l e rm_X4_weightOf s m args below meth c H locs 0 0 Q (F0 m 5 ls []) := by
    intro v1 κ n
    induction n with
    | zero =>
      intro v3 v4 hf
      rw [f_X4_weightOf_L5_z] at hf
      cases hf
    | succ n ih =>
      intro v3 v4 hf H locs ls hv hl hκ
      rw [f_X4_weightOf_L5_s] at hf
      refine lv_iload hx hb dX4_weightOf_5 (lv_at hl 3 rfl) ?_
      refine lv_aload_n hx hb dX4_weightOf_7 rfl (lv_at hl 0 rfl) ?_
      refine kGet (v := .int f_added) (C := RX4) (T := TX4) (N := 12) hx hb hts hinX4 hown hv 0 rfl rfl 3 (by decide) hk53 (fun _ h9 => h9) rfl dX4_weightOf_8 ?_
      refine lv_icmp_ge (tgt := 39) hx hb dX4_weightOf_11 (by decide) (fun hc1 => ?_) (fun hc1 => ?_)
      · replace hf := ite_t hf hc1
        exact hκ v3 v4 hf _ _ _ hv (lv_sub hl [2] rfl)
      · replace hf := ite_f hf hc1
        refine lv_lload_n hx hb dX4_weightOf_14 rfl (lv_at hl 1 rfl) ?_
        refine lv_iload hx hb dX4_weightOf_15 (lv_at hl 3 rfl) ?_
        obtain ⟨r2, hcl3, hf⟩ := xb_some hf
        refine kS_i (r := r2) ⟨hx, hb, hml, hown, hts⟩ (c_X4_contains l G cy k v1 v4 hcl3) (va_cwS 2 hts gX4_weightOf_X4_contains rfl rfl rfl (by decide +kernel) ⟨Nat.le_of_ble_eq_true rfl, Nat.le_of_ble_eq_true rfl⟩) hv rfl hl.1 rfl (Nat.le_of_ble_eq_true rfl) dX4_weightOf_17 ⟨Nat.le_of_ble_eq_true rfl, Nat.le_of_ble_eq_true rfl⟩ (fun H locs hv => ?_)
        refine lv_if_eq (tgt := 33) hx hb dX4_weightOf_20 (by decide) (fun hc4 => ?_) (fun hc4 => ?_)
        · replace hf := ite_t hf hc4
          refine lv_iinc (v := v4 + 1) (lv' := [(4, .int (v4 + 1)), (0, .ref aT), (1, .long v1), (3, .int v3)]) hx hb dX4_weightOf_33 hl (k := 3) rfl rfl (by decide) rfl (fun ls hl => ?_)
          refine lv_goto (tgt := 5) hx hb dX4_weightOf_36 (by decide) ?_
          exact ih v3 (v4 + 1) hf _ _ _ hv (lv_sub hl [1, 2, 3, 0] rfl) hκ
        · replace hf := ite_f hf hc4
          refine lv_iload_n hx hb dX4_weightOf_23 rfl (lv_at hl 2 rfl) ?_
          refine lv_aload_n hx hb dX4_weightOf_24 rfl (lv_at hl 0 rfl) ?_
          refine kGet (v := .ref aT_weights) (C := RX4) (T := TX4) (N := 12) hx hb hts hinX4 hown hv 0 rfl rfl 2 (by decide) hk16 (fun _ h9 => h9) rfl dX4_weightOf_25 ?_
          refine lv_iload hx hb dX4_weightOf_28 (lv_at hl 3 rfl) ?_
          obtain ⟨hi5, hf⟩ := xi_some hf
          refine kIald hx hb hv 1 rfl hi5 dX4_weightOf_30 ?_
          refine lv_iadd hx hb dX4_weightOf_31 ?_
          refine lv_istore_n (lv' := [(3, .int (v3 + (A_weights v4.toNatClampNeg))), (0, .ref aT), (1, .long v1), (4, .int v4)]) hx hb dX4_weightOf_32 rfl hl (by decide) rfl (fun ls hl => ?_)
          refine lv_iinc (v := v4 + 1) (lv' := [(4, .int (v4 + 1)), (3, .int (v3 + (A_weights v4.toNatClampNeg))), (0, .ref aT), (1, .long v1)]) hx hb dX4_weightOf_33 hl (k := 3) rfl rfl (by decide) rfl (fun ls hl => ?_)
          refine lv_goto (tgt := 5) hx hb dX4_weightOf_36 (by decide) ?_
          exact ih (v3 + (A_weights v4.toNatClampNeg)) (v4 + 1) hf _ _ _ hv (lv_sub hl [2, 3, 1, 0] rfl) hκ
  unfold f_X4_weightOf at hf
  refine lv_iconst (v := 0) hx hb dX4_weightOf_0 (by decide) ?_
  refine lv_istore_n (lv' := [(3, .int 0), (0, .ref aT), (1, .long p1)]) hx hb dX4_weightOf_1 rfl hl (by decide) rfl (fun ls hl => ?_)
  refine lv_iconst (v := 0) hx hb dX4_weightOf_2 (by decide) ?_
  refine lv_istore (lv' := [(4, .int 0), (3, .int 0), (0, .ref aT), (1, .long p1)]) hx hb dX4_weightOf_3 hl (by decide) rfl (fun ls hl => ?_)
  refine L5 _ _ _ _ _ hf _ _ _ hv (lv_sub hl [2, 3, 1, 0] rfl) (fun v3_6 v4_7 hf H locs ls hv hl => ?_)
  try dsimp only at hf
  refine lv_iload_n hx hb dX4_weightOf_39 rfl (lv_at hl 0 rfl) ?_
  cases hf
  exact kret _ _ _ _ hv dX4_weightOf_40

def f_X4_acceptedWeight (k : Nat) (f_added : Int32) (f_acceptedSet : Int64) (A_weights : Nat → Int32) : Option (Int32) := xb (f_X4_weightOf k f_acceptedSet f_added A_weights) (fun r1 => some r1)
abbrev rm_X4_acceptedWeight : Room := { frames := 3, cells := 0, slots := 0, locals := 66 }
set_option maxHeartbeats 4000000 in
set_option maxRecDepth 100000 in
theorem c_X4_acceptedWeight (l : Launch) (G : va_G) (cy : ClassId × ClassId × ClassId) (k : Nat) (aT aT_begins aT_ends aT_weights aT_givenRooms aT_oneRoom aT_manyRooms : Nat) (f_added : Int32) (f_presentSet : Int64) (f_factor : Int32) (f_offeredSet : Int64) (f_acceptedSet : Int64) (f_dropped : Int32) (A_weights : Nat → Int32) {r : Int32} (hf : f_X4_acceptedWeight k f_added f_acceptedSet A_weights = some r) : Ci l yX4_acceptedWeight wsX4_acceptedWeight rm_X4_acceptedWeight 0 0 G cy [.ref aT] [(aT, .inr (4, [.ref aT_begins, .ref aT_ends, .ref aT_weights, .int f_added, .long f_presentSet, .int f_factor, .long f_offeredSet, .long f_acceptedSet, .int f_dropped, .ref aT_givenRooms, .ref aT_oneRoom, .ref aT_manyRooms])), (aT_weights, .inl (cy.1, 40, .inl A_weights))] [(aT, .inr (4, [.ref aT_begins, .ref aT_ends, .ref aT_weights, .int f_added, .long f_presentSet, .int f_factor, .long f_offeredSet, .long f_acceptedSet, .int f_dropped, .ref aT_givenRooms, .ref aT_oneRoom, .ref aT_manyRooms])), (aT_weights, .inl (cy.1, 40, .inl A_weights))] r := by
  refine kMetI (cc := cX4_acceptedWeight) (maxL := 1) (by decide) rfl (Nat.le_of_ble_eq_true rfl) ?_
  intro p e s m args below meth c Q A ls hx hb hml hts hown hv hl kret
  replace hown : s.vm.findClass RX4 = some m.cls := hown
  replace hl : lv_has ls 1 [(0, .ref aT)] := hl
  have hk75 : (Cond.fieldLink RX4 75 "Roomcolour" "acceptedSet" "J").before args s = true := hts _ (by decide +kernel)
  have hinX4 : ∀ w ∈ wsX40, w ∈ wsX4_acceptedWeight := by decide +kernel
  unfold f_X4_acceptedWeight at hf
  refine lv_aload_n hx hb dX4_acceptedWeight_0 rfl (lv_at hl 0 rfl) ?_
  refine lv_aload_n hx hb dX4_acceptedWeight_1 rfl (lv_at hl 0 rfl) ?_
  refine kGet (v := .long f_acceptedSet) (C := RX4) (T := TX4) (N := 12) hx hb hts hinX4 hown hv 0 rfl rfl 7 (by decide) hk75 (fun _ h9 => h9) rfl dX4_acceptedWeight_2 ?_
  obtain ⟨r1, hcl2, hf⟩ := xb_some hf
  refine kV_i (r := r1) (wr := []) (w2 := [(aT, .inr (4, [.ref aT_begins, .ref aT_ends, .ref aT_weights, .int f_added, .long f_presentSet, .int f_factor, .long f_offeredSet, .long f_acceptedSet, .int f_dropped, .ref aT_givenRooms, .ref aT_oneRoom, .ref aT_manyRooms])), (aT_weights, .inl (cy.1, 40, .inl A_weights))]) ⟨hx, hb, hml, hown, hts⟩ (c_X4_weightOf l G cy k aT aT_begins aT_ends aT_weights aT_givenRooms aT_oneRoom aT_manyRooms f_added f_presentSet f_factor f_offeredSet f_acceptedSet f_dropped A_weights f_acceptedSet hcl2) (cwV 1 hts gX4_acceptedWeight_X4_weightOf rfl rfl rfl (by decide +kernel) ⟨Nat.le_of_ble_eq_true rfl, Nat.le_of_ble_eq_true rfl⟩) hv (isC := [0, 1]) ⟨rfl, rfl⟩ (hv.recv 4 0 rfl rfl) [] [0, 1] rfl rfl (by decide) rfl rfl rfl hl.1 rfl (Nat.le_of_ble_eq_true rfl) dX4_acceptedWeight_5 ⟨Nat.le_of_ble_eq_true rfl, Nat.le_of_ble_eq_true rfl⟩ (fun H locs hv => ?_)
  cases hf
  exact kret _ _ _ _ hv dX4_acceptedWeight_8

def f_X4_add (k : Nat) (p1 : Int32) (p2 : Int32) (p3 : Int32) (f_added : Int32) (f_presentSet : Int64) (A_begins : Nat → Int32) (A_ends : Nat → Int32) (A_weights : Nat → Int32) : Option (Except String (Int32 × Int32 × Int64 × (Nat → Int32) × (Nat → Int32) × (Nat → Int32))) := if p1 < 0 then some (.error "java/lang/IllegalArgumentException") else if (1000 : Int32) ≤ p1 then some (.error "java/lang/IllegalArgumentException") else if p2 ≤ p1 then some (.error "java/lang/IllegalArgumentException") else if p2 ≤ 1000 then if p3 < 1 then some (.error "java/lang/IllegalArgumentException") else if p3 ≤ 1000 then if f_added < 40 then xi f_added 40 (xi f_added 40 (xi f_added 40 (xb (f_X4_only k f_added) (fun r11 => some (.ok (f_added, f_added + 1, f_presentSet ||| r11, upd A_begins f_added.toNatClampNeg p1, upd A_ends f_added.toNatClampNeg p2, upd A_weights f_added.toNatClampNeg p3)))))) else some (.error "java/lang/IllegalStateException") else some (.error "java/lang/IllegalArgumentException") else some (.error "java/lang/IllegalArgumentException")
abbrev rm_X4_add : Room := { frames := 6, cells := 1, slots := 6, locals := 90 }
set_option maxHeartbeats 4000000 in
set_option maxRecDepth 100000 in
theorem c_X4_add (l : Launch) (hl9 : l.stackTraces = false) (G : va_G) (cy : ClassId × ClassId × ClassId) (k : Nat) (aT aT_begins aT_ends aT_weights aT_givenRooms aT_oneRoom aT_manyRooms : Nat) (f_added : Int32) (f_presentSet : Int64) (f_factor : Int32) (f_offeredSet : Int64) (f_acceptedSet : Int64) (f_dropped : Int32) (A_begins : Nat → Int32) (A_ends : Nat → Int32) (A_weights : Nat → Int32) (p1 : Int32) (p2 : Int32) (p3 : Int32) {o : Except String (Int32 × Int32 × Int64 × (Nat → Int32) × (Nat → Int32) × (Nat → Int32))} (hf : f_X4_add k p1 p2 p3 f_added f_presentSet A_begins A_ends A_weights = some o) : Xi l yX4_add wsX4_add rm_X4_add 1 6 G cy [.ref aT, .int p1, .int p2, .int p3] [(aT, .inr (4, [.ref aT_begins, .ref aT_ends, .ref aT_weights, .int f_added, .long f_presentSet, .int f_factor, .long f_offeredSet, .long f_acceptedSet, .int f_dropped, .ref aT_givenRooms, .ref aT_oneRoom, .ref aT_manyRooms])), (aT_begins, .inl (cy.1, 40, .inl A_begins)), (aT_ends, .inl (cy.1, 40, .inl A_ends)), (aT_weights, .inl (cy.1, 40, .inl A_weights))] (kmo (fun (q : Int32 × Int32 × Int64 × (Nat → Int32) × (Nat → Int32) × (Nat → Int32)) => (q.1, [(aT, .inr (4, [.ref aT_begins, .ref aT_ends, .ref aT_weights, .int q.2.1, .long q.2.2.1, .int f_factor, .long f_offeredSet, .long f_acceptedSet, .int f_dropped, .ref aT_givenRooms, .ref aT_oneRoom, .ref aT_manyRooms])), (aT_begins, .inl (cy.1, 40, .inl q.2.2.2.1)), (aT_ends, .inl (cy.1, 40, .inl q.2.2.2.2.1)), (aT_weights, .inl (cy.1, 40, .inl q.2.2.2.2.2))])) o) := by
  refine kMetXI (cc := cX4_add) (maxL := 5) (by decide) rfl (Nat.le_of_ble_eq_true rfl) ?_
  intro p e s m args below meth c Q A ls Qc hx hb hml hts hown hv hl kret hT htab hlocks
  replace hown : s.vm.findClass RX4 = some m.cls := hown
  replace hl : lv_has ls 5 [(0, .ref aT), (1, .int p1), (2, .int p2), (3, .int p3)] := hl
  have hk53 : (Cond.fieldLink RX4 53 "Roomcolour" "added" "I").before args s = true := hts _ (by decide +kernel)
  have hinX4 : ∀ w ∈ wsX40, w ∈ wsX4_add := by decide +kernel
  have hk9 : (Cond.fieldLink RX4 9 "Roomcolour" "begins" "[I").before args s = true := hts _ (by decide +kernel)
  have hk13 : (Cond.fieldLink RX4 13 "Roomcolour" "ends" "[I").before args s = true := hts _ (by decide +kernel)
  have hk16 : (Cond.fieldLink RX4 16 "Roomcolour" "weights" "[I").before args s = true := hts _ (by decide +kernel)
  have hk61 : (Cond.fieldLink RX4 61 "Roomcolour" "presentSet" "J").before args s = true := hts _ (by decide +kernel)
  unfold f_X4_add at hf
  refine lv_iload_n hx hb dX4_add_0 rfl (lv_at hl 1 rfl) ?_
  refine lv_if_lt (tgt := 23) hx hb dX4_add_1 (by decide) (fun hc1 => ?_) (fun hc1 => ?_)
  · replace hf := ite_t hf hc1
    cases hf
    exact kThrow hx hb hl9 hts hown hv hT htab hlocks (by rw [hml]; exact hl.1) (cls := "java/lang/IllegalArgumentException") (text := "begin or end is out of range") (ik := 44) (is := 46) (ic := 48) rfl (by decide +kernel) (by decide +kernel) (by decide +kernel) (by decide +kernel) (by decide +kernel) (by decide +kernel) (by decide +kernel) dX4_add_23 dX4_add_26 dX4_add_27 dX4_add_29 dX4_add_32 (by decide) (by decide) (by decide) (by decide) (by decide) (by decide)
  · replace hf := ite_f hf hc1
    refine lv_iload_n hx hb dX4_add_4 rfl (lv_at hl 1 rfl) ?_
    refine lv_sipush (v := 1000) hx hb dX4_add_5 (by decide) ?_
    refine lv_icmp_ge (tgt := 23) hx hb dX4_add_8 (by decide) (fun hc2 => ?_) (fun hc2 => ?_)
    · replace hf := ite_t hf hc2
      cases hf
      exact kThrow hx hb hl9 hts hown hv hT htab hlocks (by rw [hml]; exact hl.1) (cls := "java/lang/IllegalArgumentException") (text := "begin or end is out of range") (ik := 44) (is := 46) (ic := 48) rfl (by decide +kernel) (by decide +kernel) (by decide +kernel) (by decide +kernel) (by decide +kernel) (by decide +kernel) (by decide +kernel) dX4_add_23 dX4_add_26 dX4_add_27 dX4_add_29 dX4_add_32 (by decide) (by decide) (by decide) (by decide) (by decide) (by decide)
    · replace hf := ite_f hf hc2
      refine lv_iload_n hx hb dX4_add_11 rfl (lv_at hl 2 rfl) ?_
      refine lv_iload_n hx hb dX4_add_12 rfl (lv_at hl 1 rfl) ?_
      refine lv_icmp_le (tgt := 23) hx hb dX4_add_13 (by decide) (fun hc3 => ?_) (fun hc3 => ?_)
      · replace hf := ite_t hf hc3
        cases hf
        exact kThrow hx hb hl9 hts hown hv hT htab hlocks (by rw [hml]; exact hl.1) (cls := "java/lang/IllegalArgumentException") (text := "begin or end is out of range") (ik := 44) (is := 46) (ic := 48) rfl (by decide +kernel) (by decide +kernel) (by decide +kernel) (by decide +kernel) (by decide +kernel) (by decide +kernel) (by decide +kernel) dX4_add_23 dX4_add_26 dX4_add_27 dX4_add_29 dX4_add_32 (by decide) (by decide) (by decide) (by decide) (by decide) (by decide)
      · replace hf := ite_f hf hc3
        refine lv_iload_n hx hb dX4_add_16 rfl (lv_at hl 2 rfl) ?_
        refine lv_sipush (v := 1000) hx hb dX4_add_17 (by decide) ?_
        refine lv_icmp_le (tgt := 33) hx hb dX4_add_20 (by decide) (fun hc4 => ?_) (fun hc4 => ?_)
        · replace hf := ite_t hf hc4
          refine lv_iload_n hx hb dX4_add_33 rfl (lv_at hl 3 rfl) ?_
          refine lv_iconst (v := 1) hx hb dX4_add_34 (by decide) ?_
          refine lv_icmp_lt (tgt := 45) hx hb dX4_add_35 (by decide) (fun hc5 => ?_) (fun hc5 => ?_)
          · replace hf := ite_t hf hc5
            cases hf
            exact kThrow hx hb hl9 hts hown hv hT htab hlocks (by rw [hml]; exact hl.1) (cls := "java/lang/IllegalArgumentException") (text := "weight is out of range") (ik := 44) (is := 51) (ic := 48) rfl (by decide +kernel) (by decide +kernel) (by decide +kernel) (by decide +kernel) (by decide +kernel) (by decide +kernel) (by decide +kernel) dX4_add_45 dX4_add_48 dX4_add_49 dX4_add_51 dX4_add_54 (by decide) (by decide) (by decide) (by decide) (by decide) (by decide)
          · replace hf := ite_f hf hc5
            refine lv_iload_n hx hb dX4_add_38 rfl (lv_at hl 3 rfl) ?_
            refine lv_sipush (v := 1000) hx hb dX4_add_39 (by decide) ?_
            refine lv_icmp_le (tgt := 55) hx hb dX4_add_42 (by decide) (fun hc6 => ?_) (fun hc6 => ?_)
            · replace hf := ite_t hf hc6
              refine lv_aload_n hx hb dX4_add_55 rfl (lv_at hl 0 rfl) ?_
              refine kGet (v := .int f_added) (C := RX4) (T := TX4) (N := 12) hx hb hts hinX4 hown hv 0 rfl rfl 3 (by decide) hk53 (fun _ h9 => h9) rfl dX4_add_56 ?_
              refine lv_bipush (v := 40) hx hb dX4_add_59 (by decide) ?_
              refine lv_icmp_lt (tgt := 74) hx hb dX4_add_61 (by decide) (fun hc7 => ?_) (fun hc7 => ?_)
              · replace hf := ite_t hf hc7
                refine lv_aload_n hx hb dX4_add_74 rfl (lv_at hl 0 rfl) ?_
                refine kGet (v := .int f_added) (C := RX4) (T := TX4) (N := 12) hx hb hts hinX4 hown hv 0 rfl rfl 3 (by decide) hk53 (fun _ h9 => h9) rfl dX4_add_75 ?_
                refine lv_istore (lv' := [(4, .int f_added), (0, .ref aT), (1, .int p1), (2, .int p2), (3, .int p3)]) hx hb dX4_add_78 hl (by decide) rfl (fun ls hl => ?_)
                refine lv_aload_n hx hb dX4_add_80 rfl (lv_at hl 1 rfl) ?_
                refine kGet (v := .ref aT_begins) (C := RX4) (T := TX4) (N := 12) hx hb hts hinX4 hown hv 0 rfl rfl 0 (by decide) hk9 (fun _ h9 => h9) rfl dX4_add_81 ?_
                refine lv_iload hx hb dX4_add_84 (lv_at hl 0 rfl) ?_
                refine lv_iload_n hx hb dX4_add_86 rfl (lv_at hl 2 rfl) ?_
                obtain ⟨hi8, hf⟩ := xi_some hf
                refine kIast hx hb hv 1 rfl hi8 dX4_add_87 (fun H locs hv => ?_)
                replace hv : Hv s H locs G cy A [(aT, .inr (4, [.ref aT_begins, .ref aT_ends, .ref aT_weights, .int f_added, .long f_presentSet, .int f_factor, .long f_offeredSet, .long f_acceptedSet, .int f_dropped, .ref aT_givenRooms, .ref aT_oneRoom, .ref aT_manyRooms])), (aT_begins, .inl (cy.1, 40, .inl (upd A_begins f_added.toNatClampNeg p1))), (aT_ends, .inl (cy.1, 40, .inl A_ends)), (aT_weights, .inl (cy.1, 40, .inl A_weights))] := hv
                refine lv_aload_n hx hb dX4_add_88 rfl (lv_at hl 1 rfl) ?_
                refine kGet (v := .ref aT_ends) (C := RX4) (T := TX4) (N := 12) hx hb hts hinX4 hown hv 0 rfl rfl 1 (by decide) hk13 (fun _ h9 => h9) rfl dX4_add_89 ?_
                refine lv_iload hx hb dX4_add_92 (lv_at hl 0 rfl) ?_
                refine lv_iload_n hx hb dX4_add_94 rfl (lv_at hl 3 rfl) ?_
                obtain ⟨hi9, hf⟩ := xi_some hf
                refine kIast hx hb hv 2 rfl hi9 dX4_add_95 (fun H locs hv => ?_)
                replace hv : Hv s H locs G cy A [(aT, .inr (4, [.ref aT_begins, .ref aT_ends, .ref aT_weights, .int f_added, .long f_presentSet, .int f_factor, .long f_offeredSet, .long f_acceptedSet, .int f_dropped, .ref aT_givenRooms, .ref aT_oneRoom, .ref aT_manyRooms])), (aT_begins, .inl (cy.1, 40, .inl (upd A_begins f_added.toNatClampNeg p1))), (aT_ends, .inl (cy.1, 40, .inl (upd A_ends f_added.toNatClampNeg p2))), (aT_weights, .inl (cy.1, 40, .inl A_weights))] := hv
                refine lv_aload_n hx hb dX4_add_96 rfl (lv_at hl 1 rfl) ?_
                refine kGet (v := .ref aT_weights) (C := RX4) (T := TX4) (N := 12) hx hb hts hinX4 hown hv 0 rfl rfl 2 (by decide) hk16 (fun _ h9 => h9) rfl dX4_add_97 ?_
                refine lv_iload hx hb dX4_add_100 (lv_at hl 0 rfl) ?_
                refine lv_iload_n hx hb dX4_add_102 rfl (lv_at hl 4 rfl) ?_
                obtain ⟨hi10, hf⟩ := xi_some hf
                refine kIast hx hb hv 3 rfl hi10 dX4_add_103 (fun H locs hv => ?_)
                replace hv : Hv s H locs G cy A [(aT, .inr (4, [.ref aT_begins, .ref aT_ends, .ref aT_weights, .int f_added, .long f_presentSet, .int f_factor, .long f_offeredSet, .long f_acceptedSet, .int f_dropped, .ref aT_givenRooms, .ref aT_oneRoom, .ref aT_manyRooms])), (aT_begins, .inl (cy.1, 40, .inl (upd A_begins f_added.toNatClampNeg p1))), (aT_ends, .inl (cy.1, 40, .inl (upd A_ends f_added.toNatClampNeg p2))), (aT_weights, .inl (cy.1, 40, .inl (upd A_weights f_added.toNatClampNeg p3)))] := hv
                refine lv_aload_n hx hb dX4_add_104 rfl (lv_at hl 1 rfl) ?_
                refine lv_dup hx hb dX4_add_105 rfl ?_
                refine kGet (v := .long f_presentSet) (C := RX4) (T := TX4) (N := 12) hx hb hts hinX4 hown hv 0 rfl rfl 4 (by decide) hk61 (fun _ h9 => h9) rfl dX4_add_106 ?_
                refine lv_iload hx hb dX4_add_109 (lv_at hl 0 rfl) ?_
                obtain ⟨r11, hcl12, hf⟩ := xb_some hf
                refine kS_l (r := r11) ⟨hx, hb, hml, hown, hts⟩ (c_X4_only l G cy k f_added hcl12) (va_cwS 1 hts gX4_add_X4_only rfl rfl rfl (by decide +kernel) ⟨Nat.le_of_ble_eq_true rfl, Nat.le_of_ble_eq_true rfl⟩) hv rfl hl.1 rfl (Nat.le_of_ble_eq_true rfl) dX4_add_111 ⟨Nat.le_of_ble_eq_true rfl, Nat.le_of_ble_eq_true rfl⟩ (fun H locs hv => ?_)
                refine lv_lor hx hb dX4_add_114 ?_
                refine kPut (v := .long (f_presentSet ||| r11)) (ty := .long) (C := RX4) (T := TX4) (N := 12) hx hb hts hinX4 tyX4 tyX4_ok nmX4 hown hv 0 rfl rfl 4 (by decide) hk61 (fun _ h9 => h9) rfl (by decide +kernel) rfl rfl (Nat.le_of_ble_eq_true rfl) dX4_add_115 (fun H locs hv => ?_)
                replace hv : Hv s H locs G cy A [(aT, .inr (4, [.ref aT_begins, .ref aT_ends, .ref aT_weights, .int f_added, .long (f_presentSet ||| r11), .int f_factor, .long f_offeredSet, .long f_acceptedSet, .int f_dropped, .ref aT_givenRooms, .ref aT_oneRoom, .ref aT_manyRooms])), (aT_begins, .inl (cy.1, 40, .inl (upd A_begins f_added.toNatClampNeg p1))), (aT_ends, .inl (cy.1, 40, .inl (upd A_ends f_added.toNatClampNeg p2))), (aT_weights, .inl (cy.1, 40, .inl (upd A_weights f_added.toNatClampNeg p3)))] := hv
                refine lv_aload_n hx hb dX4_add_118 rfl (lv_at hl 1 rfl) ?_
                refine lv_dup hx hb dX4_add_119 rfl ?_
                refine kGet (v := .int f_added) (C := RX4) (T := TX4) (N := 12) hx hb hts hinX4 hown hv 0 rfl rfl 3 (by decide) hk53 (fun _ h9 => h9) rfl dX4_add_120 ?_
                refine lv_iconst (v := 1) hx hb dX4_add_123 (by decide) ?_
                refine lv_iadd hx hb dX4_add_124 ?_
                refine kPut (v := .int (f_added + 1)) (ty := .int) (C := RX4) (T := TX4) (N := 12) hx hb hts hinX4 tyX4 tyX4_ok nmX4 hown hv 0 rfl rfl 3 (by decide) hk53 (fun _ h9 => h9) rfl (by decide +kernel) rfl rfl (Nat.le_of_ble_eq_true rfl) dX4_add_125 (fun H locs hv => ?_)
                replace hv : Hv s H locs G cy A [(aT, .inr (4, [.ref aT_begins, .ref aT_ends, .ref aT_weights, .int (f_added + 1), .long (f_presentSet ||| r11), .int f_factor, .long f_offeredSet, .long f_acceptedSet, .int f_dropped, .ref aT_givenRooms, .ref aT_oneRoom, .ref aT_manyRooms])), (aT_begins, .inl (cy.1, 40, .inl (upd A_begins f_added.toNatClampNeg p1))), (aT_ends, .inl (cy.1, 40, .inl (upd A_ends f_added.toNatClampNeg p2))), (aT_weights, .inl (cy.1, 40, .inl (upd A_weights f_added.toNatClampNeg p3)))] := hv
                refine lv_iload hx hb dX4_add_128 (lv_at hl 0 rfl) ?_
                cases hf
                refine W.widen (k := 1) (n := 6) (by omega) (by omega) ?_
                exact kret _ _ _ _ _ _ rfl hv dX4_add_130
              · replace hf := ite_f hf hc7
                cases hf
                exact kThrow hx hb hl9 hts hown hv hT htab hlocks (by rw [hml]; exact hl.1) (cls := "java/lang/IllegalStateException") (text := "40 intervals have been added") (ik := 56) (is := 58) (ic := 60) rfl (by decide +kernel) (by decide +kernel) (by decide +kernel) (by decide +kernel) (by decide +kernel) (by decide +kernel) (by decide +kernel) dX4_add_64 dX4_add_67 dX4_add_68 dX4_add_70 dX4_add_73 (by decide) (by decide) (by decide) (by decide) (by decide) (by decide)
            · replace hf := ite_f hf hc6
              cases hf
              exact kThrow hx hb hl9 hts hown hv hT htab hlocks (by rw [hml]; exact hl.1) (cls := "java/lang/IllegalArgumentException") (text := "weight is out of range") (ik := 44) (is := 51) (ic := 48) rfl (by decide +kernel) (by decide +kernel) (by decide +kernel) (by decide +kernel) (by decide +kernel) (by decide +kernel) (by decide +kernel) dX4_add_45 dX4_add_48 dX4_add_49 dX4_add_51 dX4_add_54 (by decide) (by decide) (by decide) (by decide) (by decide) (by decide)
        · replace hf := ite_f hf hc4
          cases hf
          exact kThrow hx hb hl9 hts hown hv hT htab hlocks (by rw [hml]; exact hl.1) (cls := "java/lang/IllegalArgumentException") (text := "begin or end is out of range") (ik := 44) (is := 46) (ic := 48) rfl (by decide +kernel) (by decide +kernel) (by decide +kernel) (by decide +kernel) (by decide +kernel) (by decide +kernel) (by decide +kernel) dX4_add_23 dX4_add_26 dX4_add_27 dX4_add_29 dX4_add_32 (by decide) (by decide) (by decide) (by decide) (by decide) (by decide)

def f_X4_fill_L7 (k : Nat) (v2 : Int64) (f_added : Int32) (A_begins : Nat → Int32) (A_ends : Nat → Int32) (A_weights : Nat → Int32) (f_P1_byEnd : Int32) (κ : Int32 → Int32 → (Nat → Int32) → (Nat → Int32) → (Nat → Int32) → (Nat → Int32) → Option (Int32 × (Nat → Int32) × (Nat → Int32) × (Nat → Int32) × (Nat → Int32))) : Nat → Int32 → Int32 → (Nat → Int32) → (Nat → Int32) → (Nat → Int32) → (Nat → Int32) → Option (Int32 × (Nat → Int32) × (Nat → Int32) × (Nat → Int32) × (Nat → Int32))
  | 0, _, _, _, _, _, _ => none
  | n + 1, v4, f_P1_count, A_P1_numbers, A_P1_begins, A_P1_ends, A_P1_weights => if f_added ≤ v4 then κ v4 f_P1_count A_P1_numbers A_P1_begins A_P1_ends A_P1_weights else xb (f_X4_contains k v2 v4) (fun r4 => if r4 = 0 then f_X4_fill_L7 k v2 f_added A_begins A_ends A_weights f_P1_byEnd κ n (v4 + 1) f_P1_count A_P1_numbers A_P1_begins A_P1_ends A_P1_weights else xi v4 40 (xi v4 40 (xi v4 40 (xb (f_X3_put k v4 (A_begins v4.toNatClampNeg) (A_ends v4.toNatClampNeg) (A_weights v4.toNatClampNeg) f_P1_byEnd f_P1_count A_P1_numbers A_P1_begins A_P1_ends A_P1_weights) (fun (f_P1_count_10, A_P1_numbers_11, A_P1_begins_12, A_P1_ends_13, A_P1_weights_14) => f_X4_fill_L7 k v2 f_added A_begins A_ends A_weights f_P1_byEnd κ n (v4 + 1) f_P1_count_10 A_P1_numbers_11 A_P1_begins_12 A_P1_ends_13 A_P1_weights_14)))))
theorem f_X4_fill_L7_z (k : Nat) (v2 : Int64) (f_added : Int32) (A_begins : Nat → Int32) (A_ends : Nat → Int32) (A_weights : Nat → Int32) (f_P1_byEnd : Int32) (κ : Int32 → Int32 → (Nat → Int32) → (Nat → Int32) → (Nat → Int32) → (Nat → Int32) → Option (Int32 × (Nat → Int32) × (Nat → Int32) × (Nat → Int32) × (Nat → Int32))) (v4 : Int32) (f_P1_count : Int32) (A_P1_numbers : Nat → Int32) (A_P1_begins : Nat → Int32) (A_P1_ends : Nat → Int32) (A_P1_weights : Nat → Int32) : f_X4_fill_L7 k v2 f_added A_begins A_ends A_weights f_P1_byEnd κ 0 v4 f_P1_count A_P1_numbers A_P1_begins A_P1_ends A_P1_weights = none := rfl
theorem f_X4_fill_L7_s (k : Nat) (v2 : Int64) (f_added : Int32) (A_begins : Nat → Int32) (A_ends : Nat → Int32) (A_weights : Nat → Int32) (f_P1_byEnd : Int32) (κ : Int32 → Int32 → (Nat → Int32) → (Nat → Int32) → (Nat → Int32) → (Nat → Int32) → Option (Int32 × (Nat → Int32) × (Nat → Int32) × (Nat → Int32) × (Nat → Int32))) (n : Nat) (v4 : Int32) (f_P1_count : Int32) (A_P1_numbers : Nat → Int32) (A_P1_begins : Nat → Int32) (A_P1_ends : Nat → Int32) (A_P1_weights : Nat → Int32) : f_X4_fill_L7 k v2 f_added A_begins A_ends A_weights f_P1_byEnd κ (n + 1) v4 f_P1_count A_P1_numbers A_P1_begins A_P1_ends A_P1_weights = if f_added ≤ v4 then κ v4 f_P1_count A_P1_numbers A_P1_begins A_P1_ends A_P1_weights else xb (f_X4_contains k v2 v4) (fun r4 => if r4 = 0 then f_X4_fill_L7 k v2 f_added A_begins A_ends A_weights f_P1_byEnd κ n (v4 + 1) f_P1_count A_P1_numbers A_P1_begins A_P1_ends A_P1_weights else xi v4 40 (xi v4 40 (xi v4 40 (xb (f_X3_put k v4 (A_begins v4.toNatClampNeg) (A_ends v4.toNatClampNeg) (A_weights v4.toNatClampNeg) f_P1_byEnd f_P1_count A_P1_numbers A_P1_begins A_P1_ends A_P1_weights) (fun (f_P1_count_10, A_P1_numbers_11, A_P1_begins_12, A_P1_ends_13, A_P1_weights_14) => f_X4_fill_L7 k v2 f_added A_begins A_ends A_weights f_P1_byEnd κ n (v4 + 1) f_P1_count_10 A_P1_numbers_11 A_P1_begins_12 A_P1_ends_13 A_P1_weights_14))))) := rfl
def f_X4_fill (k : Nat) (p2 : Int64) (f_added : Int32) (A_begins : Nat → Int32) (A_ends : Nat → Int32) (A_weights : Nat → Int32) (f_P1_byEnd : Int32) (f_P1_count : Int32) (A_P1_numbers : Nat → Int32) (A_P1_begins : Nat → Int32) (A_P1_ends : Nat → Int32) (A_P1_weights : Nat → Int32) : Option (Int32 × (Nat → Int32) × (Nat → Int32) × (Nat → Int32) × (Nat → Int32)) := xb (f_X3_clear k f_P1_count) (fun f_P1_count_1 => f_X4_fill_L7 k p2 f_added A_begins A_ends A_weights f_P1_byEnd (fun (v4_16 : Int32) (f_P1_count_17 : Int32) (A_P1_numbers_18 : Nat → Int32) (A_P1_begins_19 : Nat → Int32) (A_P1_ends_20 : Nat → Int32) (A_P1_weights_21 : Nat → Int32) => some (f_P1_count_17, A_P1_numbers_18, A_P1_begins_19, A_P1_ends_20, A_P1_weights_21)) k 0 f_P1_count_1 A_P1_numbers A_P1_begins A_P1_ends A_P1_weights)
abbrev rm_X4_fill : Room := { frames := 2, cells := 0, slots := 0, locals := 48 }
set_option maxHeartbeats 4000000 in
set_option maxRecDepth 100000 in
theorem c_X4_fill (l : Launch) (G : va_G) (cy : ClassId × ClassId × ClassId) (k : Nat) (aT aT_begins aT_ends aT_weights aT_givenRooms aT_oneRoom aT_manyRooms aP1 aP1_numbers aP1_begins aP1_ends aP1_weights : Nat) (f_added : Int32) (f_presentSet : Int64) (f_factor : Int32) (f_offeredSet : Int64) (f_acceptedSet : Int64) (f_dropped : Int32) (A_begins : Nat → Int32) (A_ends : Nat → Int32) (A_weights : Nat → Int32) (f_P1_byEnd : Int32) (f_P1_count : Int32) (A_P1_numbers : Nat → Int32) (A_P1_begins : Nat → Int32) (A_P1_ends : Nat → Int32) (A_P1_weights : Nat → Int32) (p2 : Int64) {wf_P1_count : Int32} {wA_P1_numbers : Nat → Int32} {wA_P1_begins : Nat → Int32} {wA_P1_ends : Nat → Int32} {wA_P1_weights : Nat → Int32} (hf : f_X4_fill k p2 f_added A_begins A_ends A_weights f_P1_byEnd f_P1_count A_P1_numbers A_P1_begins A_P1_ends A_P1_weights = some (wf_P1_count, wA_P1_numbers, wA_P1_begins, wA_P1_ends, wA_P1_weights)) : Cv l yX4_fill wsX4_fill rm_X4_fill 0 0 G cy [.ref aT, .ref aP1, .long p2] [(aT, .inr (4, [.ref aT_begins, .ref aT_ends, .ref aT_weights, .int f_added, .long f_presentSet, .int f_factor, .long f_offeredSet, .long f_acceptedSet, .int f_dropped, .ref aT_givenRooms, .ref aT_oneRoom, .ref aT_manyRooms])), (aT_begins, .inl (cy.1, 40, .inl A_begins)), (aT_ends, .inl (cy.1, 40, .inl A_ends)), (aT_weights, .inl (cy.1, 40, .inl A_weights)), (aP1, .inr (3, [.int f_P1_byEnd, .ref aP1_numbers, .ref aP1_begins, .ref aP1_ends, .ref aP1_weights, .int f_P1_count])), (aP1_numbers, .inl (cy.1, 40, .inl A_P1_numbers)), (aP1_begins, .inl (cy.1, 40, .inl A_P1_begins)), (aP1_ends, .inl (cy.1, 40, .inl A_P1_ends)), (aP1_weights, .inl (cy.1, 40, .inl A_P1_weights))] [(aT, .inr (4, [.ref aT_begins, .ref aT_ends, .ref aT_weights, .int f_added, .long f_presentSet, .int f_factor, .long f_offeredSet, .long f_acceptedSet, .int f_dropped, .ref aT_givenRooms, .ref aT_oneRoom, .ref aT_manyRooms])), (aT_begins, .inl (cy.1, 40, .inl A_begins)), (aT_ends, .inl (cy.1, 40, .inl A_ends)), (aT_weights, .inl (cy.1, 40, .inl A_weights)), (aP1, .inr (3, [.int f_P1_byEnd, .ref aP1_numbers, .ref aP1_begins, .ref aP1_ends, .ref aP1_weights, .int wf_P1_count])), (aP1_numbers, .inl (cy.1, 40, .inl wA_P1_numbers)), (aP1_begins, .inl (cy.1, 40, .inl wA_P1_begins)), (aP1_ends, .inl (cy.1, 40, .inl wA_P1_ends)), (aP1_weights, .inl (cy.1, 40, .inl wA_P1_weights))] := by
  refine kMetV (cc := cX4_fill) (maxL := 5) (by decide) rfl (Nat.le_of_ble_eq_true rfl) ?_
  intro p e s m args below meth c Q A ls hx hb hml hts hown hv hl kret
  replace hown : s.vm.findClass RX4 = some m.cls := hown
  replace hl : lv_has ls 5 [(0, .ref aT), (1, .ref aP1), (2, .long p2)] := hl
  have hk53 : (Cond.fieldLink RX4 53 "Roomcolour" "added" "I").before args s = true := hts _ (by decide +kernel)
  have hinX4 : ∀ w ∈ wsX40, w ∈ wsX4_fill := by decide +kernel
  have hk9 : (Cond.fieldLink RX4 9 "Roomcolour" "begins" "[I").before args s = true := hts _ (by decide +kernel)
  have hk13 : (Cond.fieldLink RX4 13 "Roomcolour" "ends" "[I").before args s = true := hts _ (by decide +kernel)
  have hk16 : (Cond.fieldLink RX4 16 "Roomcolour" "weights" "[I").before args s = true := hts _ (by decide +kernel)
  have L7 : ∀ (v2 : Int64) (κ : Int32 → Int32 → (Nat → Int32) → (Nat → Int32) → (Nat → Int32) → (Nat → Int32) → Option (Int32 × (Nat → Int32) × (Nat → Int32) × (Nat → Int32) × (Nat → Int32))) (n : Nat) (v4 : Int32) (f_P1_count : Int32) (A_P1_numbers : Nat → Int32) (A_P1_begins : Nat → Int32) (A_P1_ends : Nat → Int32) (A_P1_weights : Nat → Int32), f_X4_fill_L7 k v2 f_added A_begins A_ends A_weights f_P1_byEnd κ n v4 f_P1_count A_P1_numbers A_P1_begins A_P1_ends A_P1_weights = some (wf_P1_count, wA_P1_numbers, wA_P1_begins, wA_P1_ends, wA_P1_weights) → ∀ (H : Heap) (locs : List Loc) (ls : Array Slot), Hv s H locs G cy A [(aT, .inr (4, [.ref aT_begins, .ref aT_ends, .ref aT_weights, .int f_added, .long f_presentSet, .int f_factor, .long f_offeredSet, .long f_acceptedSet, .int f_dropped, .ref aT_givenRooms, .ref aT_oneRoom, .ref aT_manyRooms])), (aT_begins, .inl (cy.1, 40, .inl A_begins)), (aT_ends, .inl (cy.1, 40, .inl A_ends)), (aT_weights, .inl (cy.1, 40, .inl A_weights)), (aP1, .inr (3, [.int f_P1_byEnd, .ref aP1_numbers, .ref aP1_begins, .ref aP1_ends, .ref aP1_weights, .int f_P1_count])), (aP1_numbers, .inl (cy.1, 40, .inl A_P1_numbers)), (aP1_begins, .inl (cy.1, 40, .inl A_P1_begins)), (aP1_ends, .inl (cy.1, 40, .inl A_P1_ends)), (aP1_weights, .inl (cy.1, 40, .inl A_P1_weights))] → lv_has ls 5 [(0, .ref aT), (1, .ref aP1), (2, .long v2), (4, .int v4)] → (∀ (v4 : Int32) (f_P1_count : Int32) (A_P1_numbers : Nat → Int32) (A_P1_begins : Nat → Int32) (A_P1_ends : Nat → Int32) (A_P1_weights : Nat → Int32), κ v4 f_P1_count A_P1_numbers A_P1_begins A_P1_ends A_P1_weights = some (wf_P1_count, wA_P1_numbers, wA_P1_begins, wA_P1_ends, wA_P1_weights) → ∀ (H : Heap) (locs : List Loc) (ls : Array Slot), Hv s H locs G cy A [(aT, .inr (4, [.ref aT_begins, .ref aT_ends, .ref aT_weights, .int f_added, .long f_presentSet, .int f_factor, .long f_offeredSet, .long f_acceptedSet, .int f_dropped, .ref aT_givenRooms, .ref aT_oneRoom, .ref aT_manyRooms])), (aT_begins, .inl (cy.1, 40, .inl A_begins)), (aT_ends, .inl (cy.1, 40, .inl A_ends)), (aT_weights, .inl (cy.1, 40, .inl A_weights)), (aP1, .inr (3, [.int f_P1_byEnd, .ref aP1_numbers, .ref aP1_begins, .ref aP1_ends, .ref aP1_weights, .int f_P1_count])), (aP1_numbers, .inl (cy.1, 40, .inl A_P1_numbers)), (aP1_begins, .inl (cy.1, 40, .inl A_P1_begins)), (aP1_ends, .inl (cy.1, 40, .inl A_P1_ends)), (aP1_weights, .inl (cy.1, 40, .inl A_P1_weights))] → lv_has ls 5 [] → W p l e rm_X4_fill s m args below meth c H locs 0 0 Q (F0 m 58 ls [])) → W p l e rm_X4_fill s m args below meth c H locs 0 0 Q (F0 m 7 ls []) := by
    intro v2 κ n
    induction n with
    | zero =>
      intro v4 f_P1_count A_P1_numbers A_P1_begins A_P1_ends A_P1_weights hf
      rw [f_X4_fill_L7_z] at hf
      cases hf
    | succ n ih =>
      intro v4 f_P1_count A_P1_numbers A_P1_begins A_P1_ends A_P1_weights hf H locs ls hv hl hκ
      rw [f_X4_fill_L7_s] at hf
      refine lv_iload hx hb dX4_fill_7 (lv_at hl 3 rfl) ?_
      refine lv_aload_n hx hb dX4_fill_9 rfl (lv_at hl 0 rfl) ?_
      refine kGet (v := .int f_added) (C := RX4) (T := TX4) (N := 12) hx hb hts hinX4 hown hv 0 rfl rfl 3 (by decide) hk53 (fun _ h9 => h9) rfl dX4_fill_10 ?_
      refine lv_icmp_ge (tgt := 58) hx hb dX4_fill_13 (by decide) (fun hc3 => ?_) (fun hc3 => ?_)
      · replace hf := ite_t hf hc3
        exact hκ v4 f_P1_count A_P1_numbers A_P1_begins A_P1_ends A_P1_weights hf _ _ _ hv (lv_sub hl [] rfl)
      · replace hf := ite_f hf hc3
        refine lv_lload_n hx hb dX4_fill_16 rfl (lv_at hl 2 rfl) ?_
        refine lv_iload hx hb dX4_fill_17 (lv_at hl 3 rfl) ?_
        obtain ⟨r4, hcl5, hf⟩ := xb_some hf
        refine kS_i (r := r4) ⟨hx, hb, hml, hown, hts⟩ (c_X4_contains l G cy k v2 v4 hcl5) (va_cwS 2 hts gX4_fill_X4_contains rfl rfl rfl (by decide +kernel) ⟨Nat.le_of_ble_eq_true rfl, Nat.le_of_ble_eq_true rfl⟩) hv rfl hl.1 rfl (Nat.le_of_ble_eq_true rfl) dX4_fill_19 ⟨Nat.le_of_ble_eq_true rfl, Nat.le_of_ble_eq_true rfl⟩ (fun H locs hv => ?_)
        refine lv_if_eq (tgt := 52) hx hb dX4_fill_22 (by decide) (fun hc6 => ?_) (fun hc6 => ?_)
        · replace hf := ite_t hf hc6
          refine lv_iinc (v := v4 + 1) (lv' := [(4, .int (v4 + 1)), (0, .ref aT), (1, .ref aP1), (2, .long v2)]) hx hb dX4_fill_52 hl (k := 3) rfl rfl (by decide) rfl (fun ls hl => ?_)
          refine lv_goto (tgt := 7) hx hb dX4_fill_55 (by decide) ?_
          exact ih (v4 + 1) f_P1_count A_P1_numbers A_P1_begins A_P1_ends A_P1_weights hf _ _ _ hv (lv_sub hl [1, 2, 3, 0] rfl) hκ
        · replace hf := ite_f hf hc6
          refine lv_aload_n hx hb dX4_fill_25 rfl (lv_at hl 1 rfl) ?_
          refine lv_iload hx hb dX4_fill_26 (lv_at hl 3 rfl) ?_
          refine lv_aload_n hx hb dX4_fill_28 rfl (lv_at hl 0 rfl) ?_
          refine kGet (v := .ref aT_begins) (C := RX4) (T := TX4) (N := 12) hx hb hts hinX4 hown hv 0 rfl rfl 0 (by decide) hk9 (fun _ h9 => h9) rfl dX4_fill_29 ?_
          refine lv_iload hx hb dX4_fill_32 (lv_at hl 3 rfl) ?_
          obtain ⟨hi7, hf⟩ := xi_some hf
          refine kIald hx hb hv 1 rfl hi7 dX4_fill_34 ?_
          refine lv_aload_n hx hb dX4_fill_35 rfl (lv_at hl 0 rfl) ?_
          refine kGet (v := .ref aT_ends) (C := RX4) (T := TX4) (N := 12) hx hb hts hinX4 hown hv 0 rfl rfl 1 (by decide) hk13 (fun _ h9 => h9) rfl dX4_fill_36 ?_
          refine lv_iload hx hb dX4_fill_39 (lv_at hl 3 rfl) ?_
          obtain ⟨hi8, hf⟩ := xi_some hf
          refine kIald hx hb hv 2 rfl hi8 dX4_fill_41 ?_
          refine lv_aload_n hx hb dX4_fill_42 rfl (lv_at hl 0 rfl) ?_
          refine kGet (v := .ref aT_weights) (C := RX4) (T := TX4) (N := 12) hx hb hts hinX4 hown hv 0 rfl rfl 2 (by decide) hk16 (fun _ h9 => h9) rfl dX4_fill_43 ?_
          refine lv_iload hx hb dX4_fill_46 (lv_at hl 3 rfl) ?_
          obtain ⟨hi9, hf⟩ := xi_some hf
          refine kIald hx hb hv 3 rfl hi9 dX4_fill_48 ?_
          obtain ⟨⟨f_P1_count_10, A_P1_numbers_11, A_P1_begins_12, A_P1_ends_13, A_P1_weights_14⟩, hcl15, hf⟩ := xb_some hf
          dsimp only at hf
          refine kV_v (wr := [(aT, .inr (4, [.ref aT_begins, .ref aT_ends, .ref aT_weights, .int f_added, .long f_presentSet, .int f_factor, .long f_offeredSet, .long f_acceptedSet, .int f_dropped, .ref aT_givenRooms, .ref aT_oneRoom, .ref aT_manyRooms])), (aT_begins, .inl (cy.1, 40, .inl A_begins)), (aT_ends, .inl (cy.1, 40, .inl A_ends)), (aT_weights, .inl (cy.1, 40, .inl A_weights))]) (w2 := [(aT, .inr (4, [.ref aT_begins, .ref aT_ends, .ref aT_weights, .int f_added, .long f_presentSet, .int f_factor, .long f_offeredSet, .long f_acceptedSet, .int f_dropped, .ref aT_givenRooms, .ref aT_oneRoom, .ref aT_manyRooms])), (aT_begins, .inl (cy.1, 40, .inl A_begins)), (aT_ends, .inl (cy.1, 40, .inl A_ends)), (aT_weights, .inl (cy.1, 40, .inl A_weights)), (aP1, .inr (3, [.int f_P1_byEnd, .ref aP1_numbers, .ref aP1_begins, .ref aP1_ends, .ref aP1_weights, .int f_P1_count_10])), (aP1_numbers, .inl (cy.1, 40, .inl A_P1_numbers_11)), (aP1_begins, .inl (cy.1, 40, .inl A_P1_begins_12)), (aP1_ends, .inl (cy.1, 40, .inl A_P1_ends_13)), (aP1_weights, .inl (cy.1, 40, .inl A_P1_weights_14))]) ⟨hx, hb, hml, hown, hts⟩ (c_X3_put l G cy k aP1 aP1_numbers aP1_begins aP1_ends aP1_weights f_P1_byEnd f_P1_count A_P1_numbers A_P1_begins A_P1_ends A_P1_weights v4 (A_begins v4.toNatClampNeg) (A_ends v4.toNatClampNeg) (A_weights v4.toNatClampNeg) hcl15) (cwV 4 hts gX4_fill_X3_put rfl rfl rfl (by decide +kernel) ⟨Nat.le_of_ble_eq_true rfl, Nat.le_of_ble_eq_true rfl⟩) hv (isC := [4, 5, 6, 7, 8]) ⟨rfl, rfl⟩ (hv.recv 3 4 rfl rfl) [0, 1, 2, 3] [0, 1, 2, 3, 4, 5, 6, 7, 8] rfl rfl (by decide) rfl rfl rfl hl.1 rfl (Nat.le_of_ble_eq_true rfl) dX4_fill_49 ⟨Nat.le_of_ble_eq_true rfl, Nat.le_of_ble_eq_true rfl⟩ (fun H locs hv => ?_)
          refine lv_iinc (v := v4 + 1) (lv' := [(4, .int (v4 + 1)), (0, .ref aT), (1, .ref aP1), (2, .long v2)]) hx hb dX4_fill_52 hl (k := 3) rfl rfl (by decide) rfl (fun ls hl => ?_)
          refine lv_goto (tgt := 7) hx hb dX4_fill_55 (by decide) ?_
          exact ih (v4 + 1) f_P1_count_10 A_P1_numbers_11 A_P1_begins_12 A_P1_ends_13 A_P1_weights_14 hf _ _ _ hv (lv_sub hl [1, 2, 3, 0] rfl) hκ
  unfold f_X4_fill at hf
  refine lv_aload_n hx hb dX4_fill_0 rfl (lv_at hl 1 rfl) ?_
  obtain ⟨f_P1_count_1, hcl2, hf⟩ := xb_some hf
  refine kV_v (wr := [(aT, .inr (4, [.ref aT_begins, .ref aT_ends, .ref aT_weights, .int f_added, .long f_presentSet, .int f_factor, .long f_offeredSet, .long f_acceptedSet, .int f_dropped, .ref aT_givenRooms, .ref aT_oneRoom, .ref aT_manyRooms])), (aT_begins, .inl (cy.1, 40, .inl A_begins)), (aT_ends, .inl (cy.1, 40, .inl A_ends)), (aT_weights, .inl (cy.1, 40, .inl A_weights)), (aP1_numbers, .inl (cy.1, 40, .inl A_P1_numbers)), (aP1_begins, .inl (cy.1, 40, .inl A_P1_begins)), (aP1_ends, .inl (cy.1, 40, .inl A_P1_ends)), (aP1_weights, .inl (cy.1, 40, .inl A_P1_weights))]) (w2 := [(aT, .inr (4, [.ref aT_begins, .ref aT_ends, .ref aT_weights, .int f_added, .long f_presentSet, .int f_factor, .long f_offeredSet, .long f_acceptedSet, .int f_dropped, .ref aT_givenRooms, .ref aT_oneRoom, .ref aT_manyRooms])), (aT_begins, .inl (cy.1, 40, .inl A_begins)), (aT_ends, .inl (cy.1, 40, .inl A_ends)), (aT_weights, .inl (cy.1, 40, .inl A_weights)), (aP1, .inr (3, [.int f_P1_byEnd, .ref aP1_numbers, .ref aP1_begins, .ref aP1_ends, .ref aP1_weights, .int f_P1_count_1])), (aP1_numbers, .inl (cy.1, 40, .inl A_P1_numbers)), (aP1_begins, .inl (cy.1, 40, .inl A_P1_begins)), (aP1_ends, .inl (cy.1, 40, .inl A_P1_ends)), (aP1_weights, .inl (cy.1, 40, .inl A_P1_weights))]) ⟨hx, hb, hml, hown, hts⟩ (c_X3_clear l G cy k aP1 aP1_numbers aP1_begins aP1_ends aP1_weights f_P1_byEnd f_P1_count hcl2) (cwV 0 hts gX4_fill_X3_clear rfl rfl rfl (by decide +kernel) ⟨Nat.le_of_ble_eq_true rfl, Nat.le_of_ble_eq_true rfl⟩) hv (isC := [4]) ⟨rfl, rfl⟩ (hv.recv 3 4 rfl rfl) [0, 1, 2, 3, 5, 6, 7, 8] [0, 1, 2, 3, 8, 4, 5, 6, 7] rfl rfl (by decide) rfl rfl rfl hl.1 rfl (Nat.le_of_ble_eq_true rfl) dX4_fill_1 ⟨Nat.le_of_ble_eq_true rfl, Nat.le_of_ble_eq_true rfl⟩ (fun H locs hv => ?_)
  refine lv_iconst (v := 0) hx hb dX4_fill_4 (by decide) ?_
  refine lv_istore (lv' := [(4, .int 0), (0, .ref aT), (1, .ref aP1), (2, .long p2)]) hx hb dX4_fill_5 hl (by decide) rfl (fun ls hl => ?_)
  refine L7 _ _ _ _ _ _ _ _ _ hf _ _ _ hv (lv_sub hl [1, 2, 3, 0] rfl) (fun v4_16 f_P1_count_17 A_P1_numbers_18 A_P1_begins_19 A_P1_ends_20 A_P1_weights_21 hf H locs ls hv hl => ?_)
  try dsimp only at hf
  cases hf
  exact kret _ _ _ _ hv dX4_fill_58

def f_X4_heaviestForOne (k : Nat) (p1 : Int64) (f_added : Int32) (A_begins : Nat → Int32) (A_ends : Nat → Int32) (A_weights : Nat → Int32) (f_oneRoom_row_byEnd : Int32) (f_oneRoom_row_count : Int32) (A_oneRoom_row_numbers : Nat → Int32) (A_oneRoom_row_begins : Nat → Int32) (A_oneRoom_row_ends : Nat → Int32) (A_oneRoom_row_weights : Nat → Int32) (A_oneRoom_best : Nat → Int32) : Option (Int32 × Int32 × (Nat → Int32) × (Nat → Int32) × (Nat → Int32) × (Nat → Int32) × (Nat → Int32)) := xb (f_X4_fill k p1 f_added A_begins A_ends A_weights f_oneRoom_row_byEnd f_oneRoom_row_count A_oneRoom_row_numbers A_oneRoom_row_begins A_oneRoom_row_ends A_oneRoom_row_weights) (fun (f_oneRoom_row_count_1, A_oneRoom_row_numbers_2, A_oneRoom_row_begins_3, A_oneRoom_row_ends_4, A_oneRoom_row_weights_5) => xb (f_X2_greatestWeight k f_oneRoom_row_count_1 A_oneRoom_row_begins_3 A_oneRoom_row_ends_4 A_oneRoom_row_weights_5 A_oneRoom_best) (fun (r7, A_oneRoom_best_8) => some (r7, f_oneRoom_row_count_1, A_oneRoom_row_numbers_2, A_oneRoom_row_begins_3, A_oneRoom_row_ends_4, A_oneRoom_row_weights_5, A_oneRoom_best_8)))
abbrev rm_X4_heaviestForOne : Room := { frames := 3, cells := 0, slots := 0, locals := 72 }
set_option maxHeartbeats 4000000 in
set_option maxRecDepth 100000 in
theorem c_X4_heaviestForOne (l : Launch) (G : va_G) (cy : ClassId × ClassId × ClassId) (k : Nat) (aT aT_begins aT_ends aT_weights aT_givenRooms aT_oneRoom aT_manyRooms aT_oneRoom_row aT_oneRoom_best aT_oneRoom_row_numbers aT_oneRoom_row_begins aT_oneRoom_row_ends aT_oneRoom_row_weights : Nat) (f_added : Int32) (f_presentSet : Int64) (f_factor : Int32) (f_offeredSet : Int64) (f_acceptedSet : Int64) (f_dropped : Int32) (A_begins : Nat → Int32) (A_ends : Nat → Int32) (A_weights : Nat → Int32) (f_oneRoom_row_byEnd : Int32) (f_oneRoom_row_count : Int32) (A_oneRoom_row_numbers : Nat → Int32) (A_oneRoom_row_begins : Nat → Int32) (A_oneRoom_row_ends : Nat → Int32) (A_oneRoom_row_weights : Nat → Int32) (A_oneRoom_best : Nat → Int32) (p1 : Int64) {r : Int32} {wf_oneRoom_row_count : Int32} {wA_oneRoom_row_numbers : Nat → Int32} {wA_oneRoom_row_begins : Nat → Int32} {wA_oneRoom_row_ends : Nat → Int32} {wA_oneRoom_row_weights : Nat → Int32} {wA_oneRoom_best : Nat → Int32} (hf : f_X4_heaviestForOne k p1 f_added A_begins A_ends A_weights f_oneRoom_row_byEnd f_oneRoom_row_count A_oneRoom_row_numbers A_oneRoom_row_begins A_oneRoom_row_ends A_oneRoom_row_weights A_oneRoom_best = some (r, wf_oneRoom_row_count, wA_oneRoom_row_numbers, wA_oneRoom_row_begins, wA_oneRoom_row_ends, wA_oneRoom_row_weights, wA_oneRoom_best)) : Ci l yX4_heaviestForOne wsX4_heaviestForOne rm_X4_heaviestForOne 0 0 G cy [.ref aT, .long p1] [(aT, .inr (4, [.ref aT_begins, .ref aT_ends, .ref aT_weights, .int f_added, .long f_presentSet, .int f_factor, .long f_offeredSet, .long f_acceptedSet, .int f_dropped, .ref aT_givenRooms, .ref aT_oneRoom, .ref aT_manyRooms])), (aT_begins, .inl (cy.1, 40, .inl A_begins)), (aT_ends, .inl (cy.1, 40, .inl A_ends)), (aT_weights, .inl (cy.1, 40, .inl A_weights)), (aT_oneRoom, .inr (2, [.ref aT_oneRoom_row, .ref aT_oneRoom_best])), (aT_oneRoom_row, .inr (3, [.int f_oneRoom_row_byEnd, .ref aT_oneRoom_row_numbers, .ref aT_oneRoom_row_begins, .ref aT_oneRoom_row_ends, .ref aT_oneRoom_row_weights, .int f_oneRoom_row_count])), (aT_oneRoom_row_numbers, .inl (cy.1, 40, .inl A_oneRoom_row_numbers)), (aT_oneRoom_row_begins, .inl (cy.1, 40, .inl A_oneRoom_row_begins)), (aT_oneRoom_row_ends, .inl (cy.1, 40, .inl A_oneRoom_row_ends)), (aT_oneRoom_row_weights, .inl (cy.1, 40, .inl A_oneRoom_row_weights)), (aT_oneRoom_best, .inl (cy.1, 41, .inl A_oneRoom_best))] [(aT, .inr (4, [.ref aT_begins, .ref aT_ends, .ref aT_weights, .int f_added, .long f_presentSet, .int f_factor, .long f_offeredSet, .long f_acceptedSet, .int f_dropped, .ref aT_givenRooms, .ref aT_oneRoom, .ref aT_manyRooms])), (aT_begins, .inl (cy.1, 40, .inl A_begins)), (aT_ends, .inl (cy.1, 40, .inl A_ends)), (aT_weights, .inl (cy.1, 40, .inl A_weights)), (aT_oneRoom, .inr (2, [.ref aT_oneRoom_row, .ref aT_oneRoom_best])), (aT_oneRoom_row, .inr (3, [.int f_oneRoom_row_byEnd, .ref aT_oneRoom_row_numbers, .ref aT_oneRoom_row_begins, .ref aT_oneRoom_row_ends, .ref aT_oneRoom_row_weights, .int wf_oneRoom_row_count])), (aT_oneRoom_row_numbers, .inl (cy.1, 40, .inl wA_oneRoom_row_numbers)), (aT_oneRoom_row_begins, .inl (cy.1, 40, .inl wA_oneRoom_row_begins)), (aT_oneRoom_row_ends, .inl (cy.1, 40, .inl wA_oneRoom_row_ends)), (aT_oneRoom_row_weights, .inl (cy.1, 40, .inl wA_oneRoom_row_weights)), (aT_oneRoom_best, .inl (cy.1, 41, .inl wA_oneRoom_best))] r := by
  refine kMetI (cc := cX4_heaviestForOne) (maxL := 3) (by decide) rfl (Nat.le_of_ble_eq_true rfl) ?_
  intro p e s m args below meth c Q A ls hx hb hml hts hown hv hl kret
  replace hown : s.vm.findClass RX4 = some m.cls := hown
  replace hl : lv_has ls 3 [(0, .ref aT), (1, .long p1)] := hl
  have hk33 : (Cond.fieldLink RX4 33 "Roomcolour" "oneRoom" "LRoomcolour$OneRoomPlan;").before args s = true := hts _ (by decide +kernel)
  have hinX4 : ∀ w ∈ wsX40, w ∈ wsX4_heaviestForOne := by decide +kernel
  have hn128 : (Cond.fieldLinkNest RX4 128 "Roomcolour$OneRoomPlan" "row" "LRoomcolour$Row;" RX4).before args s = true := va_Nw.use rfl (hv.2.2.2.2.2.1 _ (by decide +kernel))
  have hinX2 : ∀ w ∈ wsX20, w ∈ wsX4_heaviestForOne := by decide +kernel
  unfold f_X4_heaviestForOne at hf
  refine lv_aload_n hx hb dX4_heaviestForOne_0 rfl (lv_at hl 0 rfl) ?_
  refine lv_aload_n hx hb dX4_heaviestForOne_1 rfl (lv_at hl 0 rfl) ?_
  refine kGet (v := .ref aT_oneRoom) (C := RX4) (T := TX4) (N := 12) hx hb hts hinX4 hown hv 0 rfl rfl 10 (by decide) hk33 (fun _ h9 => h9) rfl dX4_heaviestForOne_2 ?_
  refine kGetN (v := .ref aT_oneRoom_row) (C := RX2) (T := TX2) (N := 2) hx hb hts hinX2 hown hv 4 rfl rfl 0 (by decide) hn128 (fun _ h9 => h9) rfl dX4_heaviestForOne_5 ?_
  refine lv_lload_n hx hb dX4_heaviestForOne_8 rfl (lv_at hl 1 rfl) ?_
  obtain ⟨⟨f_oneRoom_row_count_1, A_oneRoom_row_numbers_2, A_oneRoom_row_begins_3, A_oneRoom_row_ends_4, A_oneRoom_row_weights_5⟩, hcl6, hf⟩ := xb_some hf
  dsimp only at hf
  refine kV_v (wr := [(aT_oneRoom, .inr (2, [.ref aT_oneRoom_row, .ref aT_oneRoom_best])), (aT_oneRoom_best, .inl (cy.1, 41, .inl A_oneRoom_best))]) (w2 := [(aT, .inr (4, [.ref aT_begins, .ref aT_ends, .ref aT_weights, .int f_added, .long f_presentSet, .int f_factor, .long f_offeredSet, .long f_acceptedSet, .int f_dropped, .ref aT_givenRooms, .ref aT_oneRoom, .ref aT_manyRooms])), (aT_begins, .inl (cy.1, 40, .inl A_begins)), (aT_ends, .inl (cy.1, 40, .inl A_ends)), (aT_weights, .inl (cy.1, 40, .inl A_weights)), (aT_oneRoom, .inr (2, [.ref aT_oneRoom_row, .ref aT_oneRoom_best])), (aT_oneRoom_row, .inr (3, [.int f_oneRoom_row_byEnd, .ref aT_oneRoom_row_numbers, .ref aT_oneRoom_row_begins, .ref aT_oneRoom_row_ends, .ref aT_oneRoom_row_weights, .int f_oneRoom_row_count_1])), (aT_oneRoom_row_numbers, .inl (cy.1, 40, .inl A_oneRoom_row_numbers_2)), (aT_oneRoom_row_begins, .inl (cy.1, 40, .inl A_oneRoom_row_begins_3)), (aT_oneRoom_row_ends, .inl (cy.1, 40, .inl A_oneRoom_row_ends_4)), (aT_oneRoom_row_weights, .inl (cy.1, 40, .inl A_oneRoom_row_weights_5)), (aT_oneRoom_best, .inl (cy.1, 41, .inl A_oneRoom_best))]) ⟨hx, hb, hml, hown, hts⟩ (c_X4_fill l G cy k aT aT_begins aT_ends aT_weights aT_givenRooms aT_oneRoom aT_manyRooms aT_oneRoom_row aT_oneRoom_row_numbers aT_oneRoom_row_begins aT_oneRoom_row_ends aT_oneRoom_row_weights f_added f_presentSet f_factor f_offeredSet f_acceptedSet f_dropped A_begins A_ends A_weights f_oneRoom_row_byEnd f_oneRoom_row_count A_oneRoom_row_numbers A_oneRoom_row_begins A_oneRoom_row_ends A_oneRoom_row_weights p1 hcl6) (cwV 2 hts gX4_heaviestForOne_X4_fill rfl rfl rfl (by decide +kernel) ⟨Nat.le_of_ble_eq_true rfl, Nat.le_of_ble_eq_true rfl⟩) hv (isC := [0, 1, 2, 3, 5, 6, 7, 8, 9]) ⟨rfl, rfl⟩ (hv.recv 4 0 rfl rfl) [4, 10] [2, 3, 4, 5, 0, 6, 7, 8, 9, 10, 1] rfl rfl (by decide) rfl rfl rfl hl.1 rfl (Nat.le_of_ble_eq_true rfl) dX4_heaviestForOne_9 ⟨Nat.le_of_ble_eq_true rfl, Nat.le_of_ble_eq_true rfl⟩ (fun H locs hv => ?_)
  refine lv_aload_n hx hb dX4_heaviestForOne_12 rfl (lv_at hl 0 rfl) ?_
  refine kGet (v := .ref aT_oneRoom) (C := RX4) (T := TX4) (N := 12) hx hb hts hinX4 hown hv 0 rfl rfl 10 (by decide) hk33 (fun _ h9 => h9) rfl dX4_heaviestForOne_13 ?_
  obtain ⟨⟨r7, A_oneRoom_best_8⟩, hcl9, hf⟩ := xb_some hf
  dsimp only at hf
  refine kV_i (r := r7) (wr := [(aT, .inr (4, [.ref aT_begins, .ref aT_ends, .ref aT_weights, .int f_added, .long f_presentSet, .int f_factor, .long f_offeredSet, .long f_acceptedSet, .int f_dropped, .ref aT_givenRooms, .ref aT_oneRoom, .ref aT_manyRooms])), (aT_begins, .inl (cy.1, 40, .inl A_begins)), (aT_ends, .inl (cy.1, 40, .inl A_ends)), (aT_weights, .inl (cy.1, 40, .inl A_weights)), (aT_oneRoom_row_numbers, .inl (cy.1, 40, .inl A_oneRoom_row_numbers_2))]) (w2 := [(aT, .inr (4, [.ref aT_begins, .ref aT_ends, .ref aT_weights, .int f_added, .long f_presentSet, .int f_factor, .long f_offeredSet, .long f_acceptedSet, .int f_dropped, .ref aT_givenRooms, .ref aT_oneRoom, .ref aT_manyRooms])), (aT_begins, .inl (cy.1, 40, .inl A_begins)), (aT_ends, .inl (cy.1, 40, .inl A_ends)), (aT_weights, .inl (cy.1, 40, .inl A_weights)), (aT_oneRoom, .inr (2, [.ref aT_oneRoom_row, .ref aT_oneRoom_best])), (aT_oneRoom_row, .inr (3, [.int f_oneRoom_row_byEnd, .ref aT_oneRoom_row_numbers, .ref aT_oneRoom_row_begins, .ref aT_oneRoom_row_ends, .ref aT_oneRoom_row_weights, .int f_oneRoom_row_count_1])), (aT_oneRoom_row_numbers, .inl (cy.1, 40, .inl A_oneRoom_row_numbers_2)), (aT_oneRoom_row_begins, .inl (cy.1, 40, .inl A_oneRoom_row_begins_3)), (aT_oneRoom_row_ends, .inl (cy.1, 40, .inl A_oneRoom_row_ends_4)), (aT_oneRoom_row_weights, .inl (cy.1, 40, .inl A_oneRoom_row_weights_5)), (aT_oneRoom_best, .inl (cy.1, 41, .inl A_oneRoom_best_8))]) ⟨hx, hb, hml, hown, hts⟩ (c_X2_greatestWeight l G cy k aT_oneRoom aT_oneRoom_row aT_oneRoom_best aT_oneRoom_row_numbers aT_oneRoom_row_begins aT_oneRoom_row_ends aT_oneRoom_row_weights f_oneRoom_row_byEnd f_oneRoom_row_count_1 A_oneRoom_row_begins_3 A_oneRoom_row_ends_4 A_oneRoom_row_weights_5 A_oneRoom_best hcl9) (cwV 0 hts gX4_heaviestForOne_X2_greatestWeight rfl rfl rfl (by decide +kernel) ⟨Nat.le_of_ble_eq_true rfl, Nat.le_of_ble_eq_true rfl⟩) hv (isC := [4, 5, 7, 8, 9, 10]) ⟨rfl, rfl⟩ (hv.recv 2 4 rfl rfl) [0, 1, 2, 3, 6] [0, 1, 2, 3, 5, 6, 4, 7, 8, 9, 10] rfl rfl (by decide) rfl rfl rfl hl.1 rfl (Nat.le_of_ble_eq_true rfl) dX4_heaviestForOne_16 ⟨Nat.le_of_ble_eq_true rfl, Nat.le_of_ble_eq_true rfl⟩ (fun H locs hv => ?_)
  cases hf
  exact kret _ _ _ _ hv dX4_heaviestForOne_19

def f_X4_bestOfOffered (k : Nat) (f_added : Int32) (f_presentSet : Int64) (f_offeredSet : Int64) (A_begins : Nat → Int32) (A_ends : Nat → Int32) (A_weights : Nat → Int32) (f_oneRoom_row_byEnd : Int32) (f_oneRoom_row_count : Int32) (A_oneRoom_row_numbers : Nat → Int32) (A_oneRoom_row_begins : Nat → Int32) (A_oneRoom_row_ends : Nat → Int32) (A_oneRoom_row_weights : Nat → Int32) (A_oneRoom_best : Nat → Int32) : Option (Int32 × Int32 × (Nat → Int32) × (Nat → Int32) × (Nat → Int32) × (Nat → Int32) × (Nat → Int32)) := xb (f_X4_heaviestForOne k (f_presentSet &&& f_offeredSet) f_added A_begins A_ends A_weights f_oneRoom_row_byEnd f_oneRoom_row_count A_oneRoom_row_numbers A_oneRoom_row_begins A_oneRoom_row_ends A_oneRoom_row_weights A_oneRoom_best) (fun (r1, f_oneRoom_row_count_2, A_oneRoom_row_numbers_3, A_oneRoom_row_begins_4, A_oneRoom_row_ends_5, A_oneRoom_row_weights_6, A_oneRoom_best_7) => some (r1, f_oneRoom_row_count_2, A_oneRoom_row_numbers_3, A_oneRoom_row_begins_4, A_oneRoom_row_ends_5, A_oneRoom_row_weights_6, A_oneRoom_best_7))
abbrev rm_X4_bestOfOffered : Room := { frames := 4, cells := 0, slots := 0, locals := 94 }
set_option maxHeartbeats 4000000 in
set_option maxRecDepth 100000 in
theorem c_X4_bestOfOffered (l : Launch) (G : va_G) (cy : ClassId × ClassId × ClassId) (k : Nat) (aT aT_begins aT_ends aT_weights aT_givenRooms aT_oneRoom aT_manyRooms aT_oneRoom_row aT_oneRoom_best aT_oneRoom_row_numbers aT_oneRoom_row_begins aT_oneRoom_row_ends aT_oneRoom_row_weights : Nat) (f_added : Int32) (f_presentSet : Int64) (f_factor : Int32) (f_offeredSet : Int64) (f_acceptedSet : Int64) (f_dropped : Int32) (A_begins : Nat → Int32) (A_ends : Nat → Int32) (A_weights : Nat → Int32) (f_oneRoom_row_byEnd : Int32) (f_oneRoom_row_count : Int32) (A_oneRoom_row_numbers : Nat → Int32) (A_oneRoom_row_begins : Nat → Int32) (A_oneRoom_row_ends : Nat → Int32) (A_oneRoom_row_weights : Nat → Int32) (A_oneRoom_best : Nat → Int32) {r : Int32} {wf_oneRoom_row_count : Int32} {wA_oneRoom_row_numbers : Nat → Int32} {wA_oneRoom_row_begins : Nat → Int32} {wA_oneRoom_row_ends : Nat → Int32} {wA_oneRoom_row_weights : Nat → Int32} {wA_oneRoom_best : Nat → Int32} (hf : f_X4_bestOfOffered k f_added f_presentSet f_offeredSet A_begins A_ends A_weights f_oneRoom_row_byEnd f_oneRoom_row_count A_oneRoom_row_numbers A_oneRoom_row_begins A_oneRoom_row_ends A_oneRoom_row_weights A_oneRoom_best = some (r, wf_oneRoom_row_count, wA_oneRoom_row_numbers, wA_oneRoom_row_begins, wA_oneRoom_row_ends, wA_oneRoom_row_weights, wA_oneRoom_best)) : Ci l yX4_bestOfOffered wsX4_bestOfOffered rm_X4_bestOfOffered 0 0 G cy [.ref aT] [(aT, .inr (4, [.ref aT_begins, .ref aT_ends, .ref aT_weights, .int f_added, .long f_presentSet, .int f_factor, .long f_offeredSet, .long f_acceptedSet, .int f_dropped, .ref aT_givenRooms, .ref aT_oneRoom, .ref aT_manyRooms])), (aT_begins, .inl (cy.1, 40, .inl A_begins)), (aT_ends, .inl (cy.1, 40, .inl A_ends)), (aT_weights, .inl (cy.1, 40, .inl A_weights)), (aT_oneRoom, .inr (2, [.ref aT_oneRoom_row, .ref aT_oneRoom_best])), (aT_oneRoom_row, .inr (3, [.int f_oneRoom_row_byEnd, .ref aT_oneRoom_row_numbers, .ref aT_oneRoom_row_begins, .ref aT_oneRoom_row_ends, .ref aT_oneRoom_row_weights, .int f_oneRoom_row_count])), (aT_oneRoom_row_numbers, .inl (cy.1, 40, .inl A_oneRoom_row_numbers)), (aT_oneRoom_row_begins, .inl (cy.1, 40, .inl A_oneRoom_row_begins)), (aT_oneRoom_row_ends, .inl (cy.1, 40, .inl A_oneRoom_row_ends)), (aT_oneRoom_row_weights, .inl (cy.1, 40, .inl A_oneRoom_row_weights)), (aT_oneRoom_best, .inl (cy.1, 41, .inl A_oneRoom_best))] [(aT, .inr (4, [.ref aT_begins, .ref aT_ends, .ref aT_weights, .int f_added, .long f_presentSet, .int f_factor, .long f_offeredSet, .long f_acceptedSet, .int f_dropped, .ref aT_givenRooms, .ref aT_oneRoom, .ref aT_manyRooms])), (aT_begins, .inl (cy.1, 40, .inl A_begins)), (aT_ends, .inl (cy.1, 40, .inl A_ends)), (aT_weights, .inl (cy.1, 40, .inl A_weights)), (aT_oneRoom, .inr (2, [.ref aT_oneRoom_row, .ref aT_oneRoom_best])), (aT_oneRoom_row, .inr (3, [.int f_oneRoom_row_byEnd, .ref aT_oneRoom_row_numbers, .ref aT_oneRoom_row_begins, .ref aT_oneRoom_row_ends, .ref aT_oneRoom_row_weights, .int wf_oneRoom_row_count])), (aT_oneRoom_row_numbers, .inl (cy.1, 40, .inl wA_oneRoom_row_numbers)), (aT_oneRoom_row_begins, .inl (cy.1, 40, .inl wA_oneRoom_row_begins)), (aT_oneRoom_row_ends, .inl (cy.1, 40, .inl wA_oneRoom_row_ends)), (aT_oneRoom_row_weights, .inl (cy.1, 40, .inl wA_oneRoom_row_weights)), (aT_oneRoom_best, .inl (cy.1, 41, .inl wA_oneRoom_best))] r := by
  refine kMetI (cc := cX4_bestOfOffered) (maxL := 1) (by decide) rfl (Nat.le_of_ble_eq_true rfl) ?_
  intro p e s m args below meth c Q A ls hx hb hml hts hown hv hl kret
  replace hown : s.vm.findClass RX4 = some m.cls := hown
  replace hl : lv_has ls 1 [(0, .ref aT)] := hl
  have hk61 : (Cond.fieldLink RX4 61 "Roomcolour" "presentSet" "J").before args s = true := hts _ (by decide +kernel)
  have hinX4 : ∀ w ∈ wsX40, w ∈ wsX4_bestOfOffered := by decide +kernel
  have hk148 : (Cond.fieldLink RX4 148 "Roomcolour" "offeredSet" "J").before args s = true := hts _ (by decide +kernel)
  unfold f_X4_bestOfOffered at hf
  refine lv_aload_n hx hb dX4_bestOfOffered_0 rfl (lv_at hl 0 rfl) ?_
  refine lv_aload_n hx hb dX4_bestOfOffered_1 rfl (lv_at hl 0 rfl) ?_
  refine kGet (v := .long f_presentSet) (C := RX4) (T := TX4) (N := 12) hx hb hts hinX4 hown hv 0 rfl rfl 4 (by decide) hk61 (fun _ h9 => h9) rfl dX4_bestOfOffered_2 ?_
  refine lv_aload_n hx hb dX4_bestOfOffered_5 rfl (lv_at hl 0 rfl) ?_
  refine kGet (v := .long f_offeredSet) (C := RX4) (T := TX4) (N := 12) hx hb hts hinX4 hown hv 0 rfl rfl 6 (by decide) hk148 (fun _ h9 => h9) rfl dX4_bestOfOffered_6 ?_
  refine lv_land hx hb dX4_bestOfOffered_9 ?_
  obtain ⟨⟨r1, f_oneRoom_row_count_2, A_oneRoom_row_numbers_3, A_oneRoom_row_begins_4, A_oneRoom_row_ends_5, A_oneRoom_row_weights_6, A_oneRoom_best_7⟩, hcl8, hf⟩ := xb_some hf
  dsimp only at hf
  refine kV_i (r := r1) (wr := []) (w2 := [(aT, .inr (4, [.ref aT_begins, .ref aT_ends, .ref aT_weights, .int f_added, .long f_presentSet, .int f_factor, .long f_offeredSet, .long f_acceptedSet, .int f_dropped, .ref aT_givenRooms, .ref aT_oneRoom, .ref aT_manyRooms])), (aT_begins, .inl (cy.1, 40, .inl A_begins)), (aT_ends, .inl (cy.1, 40, .inl A_ends)), (aT_weights, .inl (cy.1, 40, .inl A_weights)), (aT_oneRoom, .inr (2, [.ref aT_oneRoom_row, .ref aT_oneRoom_best])), (aT_oneRoom_row, .inr (3, [.int f_oneRoom_row_byEnd, .ref aT_oneRoom_row_numbers, .ref aT_oneRoom_row_begins, .ref aT_oneRoom_row_ends, .ref aT_oneRoom_row_weights, .int f_oneRoom_row_count_2])), (aT_oneRoom_row_numbers, .inl (cy.1, 40, .inl A_oneRoom_row_numbers_3)), (aT_oneRoom_row_begins, .inl (cy.1, 40, .inl A_oneRoom_row_begins_4)), (aT_oneRoom_row_ends, .inl (cy.1, 40, .inl A_oneRoom_row_ends_5)), (aT_oneRoom_row_weights, .inl (cy.1, 40, .inl A_oneRoom_row_weights_6)), (aT_oneRoom_best, .inl (cy.1, 41, .inl A_oneRoom_best_7))]) ⟨hx, hb, hml, hown, hts⟩ (c_X4_heaviestForOne l G cy k aT aT_begins aT_ends aT_weights aT_givenRooms aT_oneRoom aT_manyRooms aT_oneRoom_row aT_oneRoom_best aT_oneRoom_row_numbers aT_oneRoom_row_begins aT_oneRoom_row_ends aT_oneRoom_row_weights f_added f_presentSet f_factor f_offeredSet f_acceptedSet f_dropped A_begins A_ends A_weights f_oneRoom_row_byEnd f_oneRoom_row_count A_oneRoom_row_numbers A_oneRoom_row_begins A_oneRoom_row_ends A_oneRoom_row_weights A_oneRoom_best (f_presentSet &&& f_offeredSet) hcl8) (cwV 1 hts gX4_bestOfOffered_X4_heaviestForOne rfl rfl rfl (by decide +kernel) ⟨Nat.le_of_ble_eq_true rfl, Nat.le_of_ble_eq_true rfl⟩) hv (isC := [0, 1, 2, 3, 4, 5, 6, 7, 8, 9, 10]) ⟨rfl, rfl⟩ (hv.recv 4 0 rfl rfl) [] [0, 1, 2, 3, 4, 5, 6, 7, 8, 9, 10] rfl rfl (by decide) rfl rfl rfl hl.1 rfl (Nat.le_of_ble_eq_true rfl) dX4_bestOfOffered_10 ⟨Nat.le_of_ble_eq_true rfl, Nat.le_of_ble_eq_true rfl⟩ (fun H locs hv => ?_)
  cases hf
  exact kret _ _ _ _ hv dX4_bestOfOffered_13

def f_X4_depthAt_L4 (k : Nat) (v1 : Int32) (f_added : Int32) (f_presentSet : Int64) (A_begins : Nat → Int32) (A_ends : Nat → Int32) (κ : Int32 → Int32 → Option (Int32)) : Nat → Int32 → Int32 → Option (Int32)
  | 0, _, _ => none
  | n + 1, v2, v3 => if f_added ≤ v3 then κ v2 v3 else xb (f_X4_contains k f_presentSet v3) (fun r2 => if r2 = 0 then f_X4_depthAt_L4 k v1 f_added f_presentSet A_begins A_ends κ n v2 (v3 + 1) else xi v3 40 (if v1 < (A_begins v3.toNatClampNeg) then f_X4_depthAt_L4 k v1 f_added f_presentSet A_begins A_ends κ n v2 (v3 + 1) else xi v3 40 (if (A_ends v3.toNatClampNeg) ≤ v1 then f_X4_depthAt_L4 k v1 f_added f_presentSet A_begins A_ends κ n v2 (v3 + 1) else f_X4_depthAt_L4 k v1 f_added f_presentSet A_begins A_ends κ n (v2 + 1) (v3 + 1))))
theorem f_X4_depthAt_L4_z (k : Nat) (v1 : Int32) (f_added : Int32) (f_presentSet : Int64) (A_begins : Nat → Int32) (A_ends : Nat → Int32) (κ : Int32 → Int32 → Option (Int32)) (v2 : Int32) (v3 : Int32) : f_X4_depthAt_L4 k v1 f_added f_presentSet A_begins A_ends κ 0 v2 v3 = none := rfl
theorem f_X4_depthAt_L4_s (k : Nat) (v1 : Int32) (f_added : Int32) (f_presentSet : Int64) (A_begins : Nat → Int32) (A_ends : Nat → Int32) (κ : Int32 → Int32 → Option (Int32)) (n : Nat) (v2 : Int32) (v3 : Int32) : f_X4_depthAt_L4 k v1 f_added f_presentSet A_begins A_ends κ (n + 1) v2 v3 = if f_added ≤ v3 then κ v2 v3 else xb (f_X4_contains k f_presentSet v3) (fun r2 => if r2 = 0 then f_X4_depthAt_L4 k v1 f_added f_presentSet A_begins A_ends κ n v2 (v3 + 1) else xi v3 40 (if v1 < (A_begins v3.toNatClampNeg) then f_X4_depthAt_L4 k v1 f_added f_presentSet A_begins A_ends κ n v2 (v3 + 1) else xi v3 40 (if (A_ends v3.toNatClampNeg) ≤ v1 then f_X4_depthAt_L4 k v1 f_added f_presentSet A_begins A_ends κ n v2 (v3 + 1) else f_X4_depthAt_L4 k v1 f_added f_presentSet A_begins A_ends κ n (v2 + 1) (v3 + 1)))) := rfl
def f_X4_depthAt (k : Nat) (p1 : Int32) (f_added : Int32) (f_presentSet : Int64) (A_begins : Nat → Int32) (A_ends : Nat → Int32) : Option (Int32) := f_X4_depthAt_L4 k p1 f_added f_presentSet A_begins A_ends (fun (v2_9 : Int32) (v3_10 : Int32) => some v2_9) k 0 0
abbrev rm_X4_depthAt : Room := { frames := 2, cells := 0, slots := 0, locals := 42 }
set_option maxHeartbeats 4000000 in
set_option maxRecDepth 100000 in
theorem c_X4_depthAt (l : Launch) (G : va_G) (cy : ClassId × ClassId × ClassId) (k : Nat) (aT aT_begins aT_ends aT_weights aT_givenRooms aT_oneRoom aT_manyRooms : Nat) (f_added : Int32) (f_presentSet : Int64) (f_factor : Int32) (f_offeredSet : Int64) (f_acceptedSet : Int64) (f_dropped : Int32) (A_begins : Nat → Int32) (A_ends : Nat → Int32) (p1 : Int32) {r : Int32} (hf : f_X4_depthAt k p1 f_added f_presentSet A_begins A_ends = some r) : Ci l yX4_depthAt wsX4_depthAt rm_X4_depthAt 0 0 G cy [.ref aT, .int p1] [(aT, .inr (4, [.ref aT_begins, .ref aT_ends, .ref aT_weights, .int f_added, .long f_presentSet, .int f_factor, .long f_offeredSet, .long f_acceptedSet, .int f_dropped, .ref aT_givenRooms, .ref aT_oneRoom, .ref aT_manyRooms])), (aT_begins, .inl (cy.1, 40, .inl A_begins)), (aT_ends, .inl (cy.1, 40, .inl A_ends))] [(aT, .inr (4, [.ref aT_begins, .ref aT_ends, .ref aT_weights, .int f_added, .long f_presentSet, .int f_factor, .long f_offeredSet, .long f_acceptedSet, .int f_dropped, .ref aT_givenRooms, .ref aT_oneRoom, .ref aT_manyRooms])), (aT_begins, .inl (cy.1, 40, .inl A_begins)), (aT_ends, .inl (cy.1, 40, .inl A_ends))] r := by
  refine kMetI (cc := cX4_depthAt) (maxL := 4) (by decide) rfl (Nat.le_of_ble_eq_true rfl) ?_
  intro p e s m args below meth c Q A ls hx hb hml hts hown hv hl kret
  replace hown : s.vm.findClass RX4 = some m.cls := hown
  replace hl : lv_has ls 4 [(0, .ref aT), (1, .int p1)] := hl
  have hk53 : (Cond.fieldLink RX4 53 "Roomcolour" "added" "I").before args s = true := hts _ (by decide +kernel)
  have hinX4 : ∀ w ∈ wsX40, w ∈ wsX4_depthAt := by decide +kernel
  have hk61 : (Cond.fieldLink RX4 61 "Roomcolour" "presentSet" "J").before args s = true := hts _ (by decide +kernel)
  have hk9 : (Cond.fieldLink RX4 9 "Roomcolour" "begins" "[I").before args s = true := hts _ (by decide +kernel)
  have hk13 : (Cond.fieldLink RX4 13 "Roomcolour" "ends" "[I").before args s = true := hts _ (by decide +kernel)
  have L4 : ∀ (v1 : Int32) (κ : Int32 → Int32 → Option (Int32)) (n : Nat) (v2 : Int32) (v3 : Int32), f_X4_depthAt_L4 k v1 f_added f_presentSet A_begins A_ends κ n v2 v3 = some r → ∀ (H : Heap) (locs : List Loc) (ls : Array Slot), Hv s H locs G cy A [(aT, .inr (4, [.ref aT_begins, .ref aT_ends, .ref aT_weights, .int f_added, .long f_presentSet, .int f_factor, .long f_offeredSet, .long f_acceptedSet, .int f_dropped, .ref aT_givenRooms, .ref aT_oneRoom, .ref aT_manyRooms])), (aT_begins, .inl (cy.1, 40, .inl A_begins)), (aT_ends, .inl (cy.1, 40, .inl A_ends))] → lv_has ls 4 [(0, .ref aT), (1, .int v1), (2, .int v2), (3, .int v3)] → (∀ (v2 : Int32) (v3 : Int32), κ v2 v3 = some r → ∀ (H : Heap) (locs : List Loc) (ls : Array Slot), Hv s H locs G cy A [(aT, .inr (4, [.ref aT_begins, .ref aT_ends, .ref aT_weights, .int f_added, .long f_presentSet, .int f_factor, .long f_offeredSet, .long f_acceptedSet, .int f_dropped, .ref aT_givenRooms, .ref aT_oneRoom, .ref aT_manyRooms])), (aT_begins, .inl (cy.1, 40, .inl A_begins)), (aT_ends, .inl (cy.1, 40, .inl A_ends))] → lv_has ls 4 [(2, .int v2)] → W p l e rm_X4_depthAt s m args below meth c H locs 0 0 Q (F0 m 52 ls [])) → W p l e rm_X4_depthAt s m args below meth c H locs 0 0 Q (F0 m 4 ls []) := by
    intro v1 κ n
    induction n with
    | zero =>
      intro v2 v3 hf
      rw [f_X4_depthAt_L4_z] at hf
      cases hf
    | succ n ih =>
      intro v2 v3 hf H locs ls hv hl hκ
      rw [f_X4_depthAt_L4_s] at hf
      refine lv_iload_n hx hb dX4_depthAt_4 rfl (lv_at hl 3 rfl) ?_
      refine lv_aload_n hx hb dX4_depthAt_5 rfl (lv_at hl 0 rfl) ?_
      refine kGet (v := .int f_added) (C := RX4) (T := TX4) (N := 12) hx hb hts hinX4 hown hv 0 rfl rfl 3 (by decide) hk53 (fun _ h9 => h9) rfl dX4_depthAt_6 ?_
      refine lv_icmp_ge (tgt := 52) hx hb dX4_depthAt_9 (by decide) (fun hc1 => ?_) (fun hc1 => ?_)
      · replace hf := ite_t hf hc1
        exact hκ v2 v3 hf _ _ _ hv (lv_sub hl [2] rfl)
      · replace hf := ite_f hf hc1
        refine lv_aload_n hx hb dX4_depthAt_12 rfl (lv_at hl 0 rfl) ?_
        refine kGet (v := .long f_presentSet) (C := RX4) (T := TX4) (N := 12) hx hb hts hinX4 hown hv 0 rfl rfl 4 (by decide) hk61 (fun _ h9 => h9) rfl dX4_depthAt_13 ?_
        refine lv_iload_n hx hb dX4_depthAt_16 rfl (lv_at hl 3 rfl) ?_
        obtain ⟨r2, hcl3, hf⟩ := xb_some hf
        refine kS_i (r := r2) ⟨hx, hb, hml, hown, hts⟩ (c_X4_contains l G cy k f_presentSet v3 hcl3) (va_cwS 2 hts gX4_depthAt_X4_contains rfl rfl rfl (by decide +kernel) ⟨Nat.le_of_ble_eq_true rfl, Nat.le_of_ble_eq_true rfl⟩) hv rfl hl.1 rfl (Nat.le_of_ble_eq_true rfl) dX4_depthAt_17 ⟨Nat.le_of_ble_eq_true rfl, Nat.le_of_ble_eq_true rfl⟩ (fun H locs hv => ?_)
        refine lv_if_eq (tgt := 46) hx hb dX4_depthAt_20 (by decide) (fun hc4 => ?_) (fun hc4 => ?_)
        · replace hf := ite_t hf hc4
          refine lv_iinc (v := v3 + 1) (lv' := [(3, .int (v3 + 1)), (0, .ref aT), (1, .int v1), (2, .int v2)]) hx hb dX4_depthAt_46 hl (k := 3) rfl rfl (by decide) rfl (fun ls hl => ?_)
          refine lv_goto (tgt := 4) hx hb dX4_depthAt_49 (by decide) ?_
          exact ih v2 (v3 + 1) hf _ _ _ hv (lv_sub hl [1, 2, 3, 0] rfl) hκ
        · replace hf := ite_f hf hc4
          refine lv_aload_n hx hb dX4_depthAt_23 rfl (lv_at hl 0 rfl) ?_
          refine kGet (v := .ref aT_begins) (C := RX4) (T := TX4) (N := 12) hx hb hts hinX4 hown hv 0 rfl rfl 0 (by decide) hk9 (fun _ h9 => h9) rfl dX4_depthAt_24 ?_
          refine lv_iload_n hx hb dX4_depthAt_27 rfl (lv_at hl 3 rfl) ?_
          obtain ⟨hi5, hf⟩ := xi_some hf
          refine kIald hx hb hv 1 rfl hi5 dX4_depthAt_28 ?_
          refine lv_iload_n hx hb dX4_depthAt_29 rfl (lv_at hl 1 rfl) ?_
          refine lv_icmp_gt (tgt := 46) hx hb dX4_depthAt_30 (by decide) (fun hc6 => ?_) (fun hc6 => ?_)
          · replace hf := ite_t hf hc6
            refine lv_iinc (v := v3 + 1) (lv' := [(3, .int (v3 + 1)), (0, .ref aT), (1, .int v1), (2, .int v2)]) hx hb dX4_depthAt_46 hl (k := 3) rfl rfl (by decide) rfl (fun ls hl => ?_)
            refine lv_goto (tgt := 4) hx hb dX4_depthAt_49 (by decide) ?_
            exact ih v2 (v3 + 1) hf _ _ _ hv (lv_sub hl [1, 2, 3, 0] rfl) hκ
          · replace hf := ite_f hf hc6
            refine lv_iload_n hx hb dX4_depthAt_33 rfl (lv_at hl 1 rfl) ?_
            refine lv_aload_n hx hb dX4_depthAt_34 rfl (lv_at hl 0 rfl) ?_
            refine kGet (v := .ref aT_ends) (C := RX4) (T := TX4) (N := 12) hx hb hts hinX4 hown hv 0 rfl rfl 1 (by decide) hk13 (fun _ h9 => h9) rfl dX4_depthAt_35 ?_
            refine lv_iload_n hx hb dX4_depthAt_38 rfl (lv_at hl 3 rfl) ?_
            obtain ⟨hi7, hf⟩ := xi_some hf
            refine kIald hx hb hv 2 rfl hi7 dX4_depthAt_39 ?_
            refine lv_icmp_ge (tgt := 46) hx hb dX4_depthAt_40 (by decide) (fun hc8 => ?_) (fun hc8 => ?_)
            · replace hf := ite_t hf hc8
              refine lv_iinc (v := v3 + 1) (lv' := [(3, .int (v3 + 1)), (0, .ref aT), (1, .int v1), (2, .int v2)]) hx hb dX4_depthAt_46 hl (k := 3) rfl rfl (by decide) rfl (fun ls hl => ?_)
              refine lv_goto (tgt := 4) hx hb dX4_depthAt_49 (by decide) ?_
              exact ih v2 (v3 + 1) hf _ _ _ hv (lv_sub hl [1, 2, 3, 0] rfl) hκ
            · replace hf := ite_f hf hc8
              refine lv_iinc (v := v2 + 1) (lv' := [(2, .int (v2 + 1)), (0, .ref aT), (1, .int v1), (3, .int v3)]) hx hb dX4_depthAt_43 hl (k := 2) rfl rfl (by decide) rfl (fun ls hl => ?_)
              refine lv_iinc (v := v3 + 1) (lv' := [(3, .int (v3 + 1)), (2, .int (v2 + 1)), (0, .ref aT), (1, .int v1)]) hx hb dX4_depthAt_46 hl (k := 3) rfl rfl (by decide) rfl (fun ls hl => ?_)
              refine lv_goto (tgt := 4) hx hb dX4_depthAt_49 (by decide) ?_
              exact ih (v2 + 1) (v3 + 1) hf _ _ _ hv (lv_sub hl [2, 3, 1, 0] rfl) hκ
  unfold f_X4_depthAt at hf
  refine lv_iconst (v := 0) hx hb dX4_depthAt_0 (by decide) ?_
  refine lv_istore_n (lv' := [(2, .int 0), (0, .ref aT), (1, .int p1)]) hx hb dX4_depthAt_1 rfl hl (by decide) rfl (fun ls hl => ?_)
  refine lv_iconst (v := 0) hx hb dX4_depthAt_2 (by decide) ?_
  refine lv_istore_n (lv' := [(3, .int 0), (2, .int 0), (0, .ref aT), (1, .int p1)]) hx hb dX4_depthAt_3 rfl hl (by decide) rfl (fun ls hl => ?_)
  refine L4 _ _ _ _ _ hf _ _ _ hv (lv_sub hl [2, 3, 1, 0] rfl) (fun v2_9 v3_10 hf H locs ls hv hl => ?_)
  try dsimp only at hf
  refine lv_iload_n hx hb dX4_depthAt_52 rfl (lv_at hl 0 rfl) ?_
  cases hf
  exact kret _ _ _ _ hv dX4_depthAt_53

def f_X4_leastDeepestTime_L6 (k : Nat) (f_added : Int32) (f_presentSet : Int64) (A_begins : Nat → Int32) (A_ends : Nat → Int32) (κ : Int32 → Int32 → Int32 → Option (Int32)) : Nat → Int32 → Int32 → Int32 → Option (Int32)
  | 0, _, _, _ => none
  | n + 1, v1, v2, v3 => if f_added ≤ v3 then κ v1 v2 v3 else xi v3 40 (xb (f_X4_contains k f_presentSet v3) (fun r3 => xj (fun (x7 : Int32) => if v2 < x7 then f_X4_leastDeepestTime_L6 k f_added f_presentSet A_begins A_ends κ n (A_begins v3.toNatClampNeg) x7 (v3 + 1) else if x7 = v2 then if v1 ≤ (A_begins v3.toNatClampNeg) then f_X4_leastDeepestTime_L6 k f_added f_presentSet A_begins A_ends κ n v1 v2 (v3 + 1) else f_X4_leastDeepestTime_L6 k f_added f_presentSet A_begins A_ends κ n (A_begins v3.toNatClampNeg) x7 (v3 + 1) else f_X4_leastDeepestTime_L6 k f_added f_presentSet A_begins A_ends κ n v1 v2 (v3 + 1)) (fun (j43_6 : Int32 → Option (Int32)) => if r3 = 0 then j43_6 0 else xb (f_X4_depthAt k (A_begins v3.toNatClampNeg) f_added f_presentSet A_begins A_ends) (fun r11 => j43_6 r11))))
theorem f_X4_leastDeepestTime_L6_z (k : Nat) (f_added : Int32) (f_presentSet : Int64) (A_begins : Nat → Int32) (A_ends : Nat → Int32) (κ : Int32 → Int32 → Int32 → Option (Int32)) (v1 : Int32) (v2 : Int32) (v3 : Int32) : f_X4_leastDeepestTime_L6 k f_added f_presentSet A_begins A_ends κ 0 v1 v2 v3 = none := rfl
theorem f_X4_leastDeepestTime_L6_s (k : Nat) (f_added : Int32) (f_presentSet : Int64) (A_begins : Nat → Int32) (A_ends : Nat → Int32) (κ : Int32 → Int32 → Int32 → Option (Int32)) (n : Nat) (v1 : Int32) (v2 : Int32) (v3 : Int32) : f_X4_leastDeepestTime_L6 k f_added f_presentSet A_begins A_ends κ (n + 1) v1 v2 v3 = if f_added ≤ v3 then κ v1 v2 v3 else xi v3 40 (xb (f_X4_contains k f_presentSet v3) (fun r3 => xj (fun (x7 : Int32) => if v2 < x7 then f_X4_leastDeepestTime_L6 k f_added f_presentSet A_begins A_ends κ n (A_begins v3.toNatClampNeg) x7 (v3 + 1) else if x7 = v2 then if v1 ≤ (A_begins v3.toNatClampNeg) then f_X4_leastDeepestTime_L6 k f_added f_presentSet A_begins A_ends κ n v1 v2 (v3 + 1) else f_X4_leastDeepestTime_L6 k f_added f_presentSet A_begins A_ends κ n (A_begins v3.toNatClampNeg) x7 (v3 + 1) else f_X4_leastDeepestTime_L6 k f_added f_presentSet A_begins A_ends κ n v1 v2 (v3 + 1)) (fun (j43_6 : Int32 → Option (Int32)) => if r3 = 0 then j43_6 0 else xb (f_X4_depthAt k (A_begins v3.toNatClampNeg) f_added f_presentSet A_begins A_ends) (fun r11 => j43_6 r11)))) := rfl
def f_X4_leastDeepestTime (k : Nat) (f_added : Int32) (f_presentSet : Int64) (A_begins : Nat → Int32) (A_ends : Nat → Int32) : Option (Int32) := f_X4_leastDeepestTime_L6 k f_added f_presentSet A_begins A_ends (fun (v1_13 : Int32) (v2_14 : Int32) (v3_15 : Int32) => some v1_13) k (-1) 0 0
abbrev rm_X4_leastDeepestTime : Room := { frames := 3, cells := 0, slots := 0, locals := 65 }
set_option maxHeartbeats 4000000 in
set_option maxRecDepth 100000 in
theorem c_X4_leastDeepestTime (l : Launch) (G : va_G) (cy : ClassId × ClassId × ClassId) (k : Nat) (aT aT_begins aT_ends aT_weights aT_givenRooms aT_oneRoom aT_manyRooms : Nat) (f_added : Int32) (f_presentSet : Int64) (f_factor : Int32) (f_offeredSet : Int64) (f_acceptedSet : Int64) (f_dropped : Int32) (A_begins : Nat → Int32) (A_ends : Nat → Int32) {r : Int32} (hf : f_X4_leastDeepestTime k f_added f_presentSet A_begins A_ends = some r) : Ci l yX4_leastDeepestTime wsX4_leastDeepestTime rm_X4_leastDeepestTime 0 0 G cy [.ref aT] [(aT, .inr (4, [.ref aT_begins, .ref aT_ends, .ref aT_weights, .int f_added, .long f_presentSet, .int f_factor, .long f_offeredSet, .long f_acceptedSet, .int f_dropped, .ref aT_givenRooms, .ref aT_oneRoom, .ref aT_manyRooms])), (aT_begins, .inl (cy.1, 40, .inl A_begins)), (aT_ends, .inl (cy.1, 40, .inl A_ends))] [(aT, .inr (4, [.ref aT_begins, .ref aT_ends, .ref aT_weights, .int f_added, .long f_presentSet, .int f_factor, .long f_offeredSet, .long f_acceptedSet, .int f_dropped, .ref aT_givenRooms, .ref aT_oneRoom, .ref aT_manyRooms])), (aT_begins, .inl (cy.1, 40, .inl A_begins)), (aT_ends, .inl (cy.1, 40, .inl A_ends))] r := by
  refine kMetI (cc := cX4_leastDeepestTime) (maxL := 6) (by decide) rfl (Nat.le_of_ble_eq_true rfl) ?_
  intro p e s m args below meth c Q A ls hx hb hml hts hown hv hl kret
  replace hown : s.vm.findClass RX4 = some m.cls := hown
  replace hl : lv_has ls 6 [(0, .ref aT)] := hl
  have hk53 : (Cond.fieldLink RX4 53 "Roomcolour" "added" "I").before args s = true := hts _ (by decide +kernel)
  have hinX4 : ∀ w ∈ wsX40, w ∈ wsX4_leastDeepestTime := by decide +kernel
  have hk9 : (Cond.fieldLink RX4 9 "Roomcolour" "begins" "[I").before args s = true := hts _ (by decide +kernel)
  have hk61 : (Cond.fieldLink RX4 61 "Roomcolour" "presentSet" "J").before args s = true := hts _ (by decide +kernel)
  have L6 : ∀ (κ : Int32 → Int32 → Int32 → Option (Int32)) (n : Nat) (v1 : Int32) (v2 : Int32) (v3 : Int32), f_X4_leastDeepestTime_L6 k f_added f_presentSet A_begins A_ends κ n v1 v2 v3 = some r → ∀ (H : Heap) (locs : List Loc) (ls : Array Slot), Hv s H locs G cy A [(aT, .inr (4, [.ref aT_begins, .ref aT_ends, .ref aT_weights, .int f_added, .long f_presentSet, .int f_factor, .long f_offeredSet, .long f_acceptedSet, .int f_dropped, .ref aT_givenRooms, .ref aT_oneRoom, .ref aT_manyRooms])), (aT_begins, .inl (cy.1, 40, .inl A_begins)), (aT_ends, .inl (cy.1, 40, .inl A_ends))] → lv_has ls 6 [(0, .ref aT), (1, .int v1), (2, .int v2), (3, .int v3)] → (∀ (v1 : Int32) (v2 : Int32) (v3 : Int32), κ v1 v2 v3 = some r → ∀ (H : Heap) (locs : List Loc) (ls : Array Slot), Hv s H locs G cy A [(aT, .inr (4, [.ref aT_begins, .ref aT_ends, .ref aT_weights, .int f_added, .long f_presentSet, .int f_factor, .long f_offeredSet, .long f_acceptedSet, .int f_dropped, .ref aT_givenRooms, .ref aT_oneRoom, .ref aT_manyRooms])), (aT_begins, .inl (cy.1, 40, .inl A_begins)), (aT_ends, .inl (cy.1, 40, .inl A_ends))] → lv_has ls 6 [(1, .int v1)] → W p l e rm_X4_leastDeepestTime s m args below meth c H locs 0 0 Q (F0 m 75 ls [])) → W p l e rm_X4_leastDeepestTime s m args below meth c H locs 0 0 Q (F0 m 6 ls []) := by
    intro κ n
    induction n with
    | zero =>
      intro v1 v2 v3 hf
      rw [f_X4_leastDeepestTime_L6_z] at hf
      cases hf
    | succ n ih =>
      intro v1 v2 v3 hf H locs ls hv hl hκ
      rw [f_X4_leastDeepestTime_L6_s] at hf
      refine lv_iload_n hx hb dX4_leastDeepestTime_6 rfl (lv_at hl 3 rfl) ?_
      refine lv_aload_n hx hb dX4_leastDeepestTime_7 rfl (lv_at hl 0 rfl) ?_
      refine kGet (v := .int f_added) (C := RX4) (T := TX4) (N := 12) hx hb hts hinX4 hown hv 0 rfl rfl 3 (by decide) hk53 (fun _ h9 => h9) rfl dX4_leastDeepestTime_8 ?_
      refine lv_icmp_ge (tgt := 75) hx hb dX4_leastDeepestTime_11 (by decide) (fun hc1 => ?_) (fun hc1 => ?_)
      · replace hf := ite_t hf hc1
        exact hκ v1 v2 v3 hf _ _ _ hv (lv_sub hl [1] rfl)
      · replace hf := ite_f hf hc1
        refine lv_aload_n hx hb dX4_leastDeepestTime_14 rfl (lv_at hl 0 rfl) ?_
        refine kGet (v := .ref aT_begins) (C := RX4) (T := TX4) (N := 12) hx hb hts hinX4 hown hv 0 rfl rfl 0 (by decide) hk9 (fun _ h9 => h9) rfl dX4_leastDeepestTime_15 ?_
        refine lv_iload_n hx hb dX4_leastDeepestTime_18 rfl (lv_at hl 3 rfl) ?_
        obtain ⟨hi2, hf⟩ := xi_some hf
        refine kIald hx hb hv 1 rfl hi2 dX4_leastDeepestTime_19 ?_
        refine lv_istore (lv' := [(4, .int (A_begins v3.toNatClampNeg)), (0, .ref aT), (1, .int v1), (2, .int v2), (3, .int v3)]) hx hb dX4_leastDeepestTime_20 hl (by decide) rfl (fun ls hl => ?_)
        refine lv_aload_n hx hb dX4_leastDeepestTime_22 rfl (lv_at hl 1 rfl) ?_
        refine kGet (v := .long f_presentSet) (C := RX4) (T := TX4) (N := 12) hx hb hts hinX4 hown hv 0 rfl rfl 4 (by decide) hk61 (fun _ h9 => h9) rfl dX4_leastDeepestTime_23 ?_
        refine lv_iload_n hx hb dX4_leastDeepestTime_26 rfl (lv_at hl 4 rfl) ?_
        obtain ⟨r3, hcl4, hf⟩ := xb_some hf
        refine kS_i (r := r3) ⟨hx, hb, hml, hown, hts⟩ (c_X4_contains l G cy k f_presentSet v3 hcl4) (va_cwS 2 hts gX4_leastDeepestTime_X4_contains rfl rfl rfl (by decide +kernel) ⟨Nat.le_of_ble_eq_true rfl, Nat.le_of_ble_eq_true rfl⟩) hv rfl hl.1 rfl (Nat.le_of_ble_eq_true rfl) dX4_leastDeepestTime_27 ⟨Nat.le_of_ble_eq_true rfl, Nat.le_of_ble_eq_true rfl⟩ (fun H locs hv => ?_)
        refine xj_elim hf (fun j43_6 ej43_6 hf => ?_)
        have J43_6 : ∀ (x7 : Int32), j43_6 x7 = some r → ∀ (H : Heap) (locs : List Loc) (ls : Array Slot), Hv s H locs G cy A [(aT, .inr (4, [.ref aT_begins, .ref aT_ends, .ref aT_weights, .int f_added, .long f_presentSet, .int f_factor, .long f_offeredSet, .long f_acceptedSet, .int f_dropped, .ref aT_givenRooms, .ref aT_oneRoom, .ref aT_manyRooms])), (aT_begins, .inl (cy.1, 40, .inl A_begins)), (aT_ends, .inl (cy.1, 40, .inl A_ends))] → lv_has ls 6 [(0, .ref aT), (1, .int v1), (2, .int v2), (3, .int v3), (4, .int (A_begins v3.toNatClampNeg))] → W p l e rm_X4_leastDeepestTime s m args below meth c H locs 0 0 Q (F0 m 43 ls [.int x7]) := by
          intro x7 hf H locs ls hv hl
          rw [ej43_6] at hf
          try dsimp only at hf
          refine lv_istore (lv' := [(5, .int x7), (0, .ref aT), (1, .int v1), (2, .int v2), (3, .int v3), (4, .int (A_begins v3.toNatClampNeg))]) hx hb dX4_leastDeepestTime_43 hl (by decide) rfl (fun ls hl => ?_)
          refine lv_iload hx hb dX4_leastDeepestTime_45 (lv_at hl 0 rfl) ?_
          refine lv_iload_n hx hb dX4_leastDeepestTime_47 rfl (lv_at hl 3 rfl) ?_
          refine lv_icmp_gt (tgt := 63) hx hb dX4_leastDeepestTime_48 (by decide) (fun hc8 => ?_) (fun hc8 => ?_)
          · replace hf := ite_t hf hc8
            refine lv_iload hx hb dX4_leastDeepestTime_63 (lv_at hl 5 rfl) ?_
            refine lv_istore_n (lv' := [(1, .int (A_begins v3.toNatClampNeg)), (5, .int x7), (0, .ref aT), (2, .int v2), (3, .int v3), (4, .int (A_begins v3.toNatClampNeg))]) hx hb dX4_leastDeepestTime_65 rfl hl (by decide) rfl (fun ls hl => ?_)
            refine lv_iload hx hb dX4_leastDeepestTime_66 (lv_at hl 1 rfl) ?_
            refine lv_istore_n (lv' := [(2, .int x7), (1, .int (A_begins v3.toNatClampNeg)), (5, .int x7), (0, .ref aT), (3, .int v3), (4, .int (A_begins v3.toNatClampNeg))]) hx hb dX4_leastDeepestTime_68 rfl hl (by decide) rfl (fun ls hl => ?_)
            refine lv_iinc (v := v3 + 1) (lv' := [(3, .int (v3 + 1)), (2, .int x7), (1, .int (A_begins v3.toNatClampNeg)), (5, .int x7), (0, .ref aT), (4, .int (A_begins v3.toNatClampNeg))]) hx hb dX4_leastDeepestTime_69 hl (k := 4) rfl rfl (by decide) rfl (fun ls hl => ?_)
            refine lv_goto (tgt := 6) hx hb dX4_leastDeepestTime_72 (by decide) ?_
            exact ih (A_begins v3.toNatClampNeg) x7 (v3 + 1) hf _ _ _ hv (lv_sub hl [4, 2, 1, 0] rfl) hκ
          · replace hf := ite_f hf hc8
            refine lv_iload hx hb dX4_leastDeepestTime_51 (lv_at hl 0 rfl) ?_
            refine lv_iload_n hx hb dX4_leastDeepestTime_53 rfl (lv_at hl 3 rfl) ?_
            refine lv_icmp_ne (tgt := 69) hx hb dX4_leastDeepestTime_54 (by decide) (fun hc9 => ?_) (fun hc9 => ?_)
            · replace hf := ite_f hf hc9
              refine lv_iinc (v := v3 + 1) (lv' := [(3, .int (v3 + 1)), (5, .int x7), (0, .ref aT), (1, .int v1), (2, .int v2), (4, .int (A_begins v3.toNatClampNeg))]) hx hb dX4_leastDeepestTime_69 hl (k := 4) rfl rfl (by decide) rfl (fun ls hl => ?_)
              refine lv_goto (tgt := 6) hx hb dX4_leastDeepestTime_72 (by decide) ?_
              exact ih v1 v2 (v3 + 1) hf _ _ _ hv (lv_sub hl [2, 3, 4, 0] rfl) hκ
            · replace hf := ite_t hf hc9
              refine lv_iload hx hb dX4_leastDeepestTime_57 (lv_at hl 5 rfl) ?_
              refine lv_iload_n hx hb dX4_leastDeepestTime_59 rfl (lv_at hl 2 rfl) ?_
              refine lv_icmp_ge (tgt := 69) hx hb dX4_leastDeepestTime_60 (by decide) (fun hc10 => ?_) (fun hc10 => ?_)
              · replace hf := ite_t hf hc10
                refine lv_iinc (v := v3 + 1) (lv' := [(3, .int (v3 + 1)), (5, .int x7), (0, .ref aT), (1, .int v1), (2, .int v2), (4, .int (A_begins v3.toNatClampNeg))]) hx hb dX4_leastDeepestTime_69 hl (k := 4) rfl rfl (by decide) rfl (fun ls hl => ?_)
                refine lv_goto (tgt := 6) hx hb dX4_leastDeepestTime_72 (by decide) ?_
                exact ih v1 v2 (v3 + 1) hf _ _ _ hv (lv_sub hl [2, 3, 4, 0] rfl) hκ
              · replace hf := ite_f hf hc10
                refine lv_iload hx hb dX4_leastDeepestTime_63 (lv_at hl 5 rfl) ?_
                refine lv_istore_n (lv' := [(1, .int (A_begins v3.toNatClampNeg)), (5, .int x7), (0, .ref aT), (2, .int v2), (3, .int v3), (4, .int (A_begins v3.toNatClampNeg))]) hx hb dX4_leastDeepestTime_65 rfl hl (by decide) rfl (fun ls hl => ?_)
                refine lv_iload hx hb dX4_leastDeepestTime_66 (lv_at hl 1 rfl) ?_
                refine lv_istore_n (lv' := [(2, .int x7), (1, .int (A_begins v3.toNatClampNeg)), (5, .int x7), (0, .ref aT), (3, .int v3), (4, .int (A_begins v3.toNatClampNeg))]) hx hb dX4_leastDeepestTime_68 rfl hl (by decide) rfl (fun ls hl => ?_)
                refine lv_iinc (v := v3 + 1) (lv' := [(3, .int (v3 + 1)), (2, .int x7), (1, .int (A_begins v3.toNatClampNeg)), (5, .int x7), (0, .ref aT), (4, .int (A_begins v3.toNatClampNeg))]) hx hb dX4_leastDeepestTime_69 hl (k := 4) rfl rfl (by decide) rfl (fun ls hl => ?_)
                refine lv_goto (tgt := 6) hx hb dX4_leastDeepestTime_72 (by decide) ?_
                exact ih (A_begins v3.toNatClampNeg) x7 (v3 + 1) hf _ _ _ hv (lv_sub hl [4, 2, 1, 0] rfl) hκ
        refine lv_if_eq (tgt := 42) hx hb dX4_leastDeepestTime_30 (by decide) (fun hc5 => ?_) (fun hc5 => ?_)
        · replace hf := ite_t hf hc5
          refine lv_iconst (v := 0) hx hb dX4_leastDeepestTime_42 (by decide) ?_
          exact J43_6 0 hf _ _ _ hv (lv_sub hl [1, 2, 3, 4, 0] rfl)
        · replace hf := ite_f hf hc5
          refine lv_aload_n hx hb dX4_leastDeepestTime_33 rfl (lv_at hl 1 rfl) ?_
          refine lv_iload hx hb dX4_leastDeepestTime_34 (lv_at hl 0 rfl) ?_
          obtain ⟨r11, hcl12, hf⟩ := xb_some hf
          refine kV_i (r := r11) (wr := []) (w2 := [(aT, .inr (4, [.ref aT_begins, .ref aT_ends, .ref aT_weights, .int f_added, .long f_presentSet, .int f_factor, .long f_offeredSet, .long f_acceptedSet, .int f_dropped, .ref aT_givenRooms, .ref aT_oneRoom, .ref aT_manyRooms])), (aT_begins, .inl (cy.1, 40, .inl A_begins)), (aT_ends, .inl (cy.1, 40, .inl A_ends))]) ⟨hx, hb, hml, hown, hts⟩ (c_X4_depthAt l G cy k aT aT_begins aT_ends aT_weights aT_givenRooms aT_oneRoom aT_manyRooms f_added f_presentSet f_factor f_offeredSet f_acceptedSet f_dropped A_begins A_ends (A_begins v3.toNatClampNeg) hcl12) (cwV 1 hts gX4_leastDeepestTime_X4_depthAt rfl rfl rfl (by decide +kernel) ⟨Nat.le_of_ble_eq_true rfl, Nat.le_of_ble_eq_true rfl⟩) hv (isC := [0, 1, 2]) ⟨rfl, rfl⟩ (hv.recv 4 0 rfl rfl) [] [0, 1, 2] rfl rfl (by decide) rfl rfl rfl hl.1 rfl (Nat.le_of_ble_eq_true rfl) dX4_leastDeepestTime_36 ⟨Nat.le_of_ble_eq_true rfl, Nat.le_of_ble_eq_true rfl⟩ (fun H locs hv => ?_)
          refine lv_goto (tgt := 43) hx hb dX4_leastDeepestTime_39 (by decide) ?_
          exact J43_6 r11 hf _ _ _ hv (lv_sub hl [1, 2, 3, 4, 0] rfl)
  unfold f_X4_leastDeepestTime at hf
  refine lv_iconst (v := (-1)) hx hb dX4_leastDeepestTime_0 (by decide) ?_
  refine lv_istore_n (lv' := [(1, .int (-1)), (0, .ref aT)]) hx hb dX4_leastDeepestTime_1 rfl hl (by decide) rfl (fun ls hl => ?_)
  refine lv_iconst (v := 0) hx hb dX4_leastDeepestTime_2 (by decide) ?_
  refine lv_istore_n (lv' := [(2, .int 0), (1, .int (-1)), (0, .ref aT)]) hx hb dX4_leastDeepestTime_3 rfl hl (by decide) rfl (fun ls hl => ?_)
  refine lv_iconst (v := 0) hx hb dX4_leastDeepestTime_4 (by decide) ?_
  refine lv_istore_n (lv' := [(3, .int 0), (2, .int 0), (1, .int (-1)), (0, .ref aT)]) hx hb dX4_leastDeepestTime_5 rfl hl (by decide) rfl (fun ls hl => ?_)
  refine L6 _ _ _ _ _ hf _ _ _ hv (lv_sub hl [3, 2, 1, 0] rfl) (fun v1_13 v2_14 v3_15 hf H locs ls hv hl => ?_)
  try dsimp only at hf
  refine lv_iload_n hx hb dX4_leastDeepestTime_75 rfl (lv_at hl 0 rfl) ?_
  cases hf
  exact kret _ _ _ _ hv dX4_leastDeepestTime_76

def f_X4_busiest (k : Nat) (f_added : Int32) (f_presentSet : Int64) (A_begins : Nat → Int32) (A_ends : Nat → Int32) : Option (Int32) := xb (f_X4_leastDeepestTime k f_added f_presentSet A_begins A_ends) (fun r1 => some r1)
abbrev rm_X4_busiest : Room := { frames := 4, cells := 0, slots := 0, locals := 90 }
set_option maxHeartbeats 4000000 in
set_option maxRecDepth 100000 in
theorem c_X4_busiest (l : Launch) (G : va_G) (cy : ClassId × ClassId × ClassId) (k : Nat) (aT aT_begins aT_ends aT_weights aT_givenRooms aT_oneRoom aT_manyRooms : Nat) (f_added : Int32) (f_presentSet : Int64) (f_factor : Int32) (f_offeredSet : Int64) (f_acceptedSet : Int64) (f_dropped : Int32) (A_begins : Nat → Int32) (A_ends : Nat → Int32) {r : Int32} (hf : f_X4_busiest k f_added f_presentSet A_begins A_ends = some r) : Ci l yX4_busiest wsX4_busiest rm_X4_busiest 0 0 G cy [.ref aT] [(aT, .inr (4, [.ref aT_begins, .ref aT_ends, .ref aT_weights, .int f_added, .long f_presentSet, .int f_factor, .long f_offeredSet, .long f_acceptedSet, .int f_dropped, .ref aT_givenRooms, .ref aT_oneRoom, .ref aT_manyRooms])), (aT_begins, .inl (cy.1, 40, .inl A_begins)), (aT_ends, .inl (cy.1, 40, .inl A_ends))] [(aT, .inr (4, [.ref aT_begins, .ref aT_ends, .ref aT_weights, .int f_added, .long f_presentSet, .int f_factor, .long f_offeredSet, .long f_acceptedSet, .int f_dropped, .ref aT_givenRooms, .ref aT_oneRoom, .ref aT_manyRooms])), (aT_begins, .inl (cy.1, 40, .inl A_begins)), (aT_ends, .inl (cy.1, 40, .inl A_ends))] r := by
  refine kMetI (cc := cX4_busiest) (maxL := 1) (by decide) rfl (Nat.le_of_ble_eq_true rfl) ?_
  intro p e s m args below meth c Q A ls hx hb hml hts hown hv hl kret
  replace hown : s.vm.findClass RX4 = some m.cls := hown
  replace hl : lv_has ls 1 [(0, .ref aT)] := hl
  unfold f_X4_busiest at hf
  refine lv_aload_n hx hb dX4_busiest_0 rfl (lv_at hl 0 rfl) ?_
  obtain ⟨r1, hcl2, hf⟩ := xb_some hf
  refine kV_i (r := r1) (wr := []) (w2 := [(aT, .inr (4, [.ref aT_begins, .ref aT_ends, .ref aT_weights, .int f_added, .long f_presentSet, .int f_factor, .long f_offeredSet, .long f_acceptedSet, .int f_dropped, .ref aT_givenRooms, .ref aT_oneRoom, .ref aT_manyRooms])), (aT_begins, .inl (cy.1, 40, .inl A_begins)), (aT_ends, .inl (cy.1, 40, .inl A_ends))]) ⟨hx, hb, hml, hown, hts⟩ (c_X4_leastDeepestTime l G cy k aT aT_begins aT_ends aT_weights aT_givenRooms aT_oneRoom aT_manyRooms f_added f_presentSet f_factor f_offeredSet f_acceptedSet f_dropped A_begins A_ends hcl2) (cwV 0 hts gX4_busiest_X4_leastDeepestTime rfl rfl rfl (by decide +kernel) ⟨Nat.le_of_ble_eq_true rfl, Nat.le_of_ble_eq_true rfl⟩) hv (isC := [0, 1, 2]) ⟨rfl, rfl⟩ (hv.recv 4 0 rfl rfl) [] [0, 1, 2] rfl rfl (by decide) rfl rfl rfl hl.1 rfl (Nat.le_of_ble_eq_true rfl) dX4_busiest_1 ⟨Nat.le_of_ble_eq_true rfl, Nat.le_of_ble_eq_true rfl⟩ (fun H locs hv => ?_)
  cases hf
  exact kret _ _ _ _ hv dX4_busiest_4

def f_X4_chosen (k : Nat) (f_added : Int32) (f_presentSet : Int64) (A_begins : Nat → Int32) (A_ends : Nat → Int32) (A_weights : Nat → Int32) (f_oneRoom_row_byEnd : Int32) (f_oneRoom_row_count : Int32) (A_oneRoom_row_numbers : Nat → Int32) (A_oneRoom_row_begins : Nat → Int32) (A_oneRoom_row_ends : Nat → Int32) (A_oneRoom_row_weights : Nat → Int32) (A_oneRoom_best : Nat → Int32) : Option (Int64 × Int32 × (Nat → Int32) × (Nat → Int32) × (Nat → Int32) × (Nat → Int32) × (Nat → Int32)) := xb (f_X4_fill k f_presentSet f_added A_begins A_ends A_weights f_oneRoom_row_byEnd f_oneRoom_row_count A_oneRoom_row_numbers A_oneRoom_row_begins A_oneRoom_row_ends A_oneRoom_row_weights) (fun (f_oneRoom_row_count_1, A_oneRoom_row_numbers_2, A_oneRoom_row_begins_3, A_oneRoom_row_ends_4, A_oneRoom_row_weights_5) => xb (f_X2_chosenSet k f_oneRoom_row_count_1 A_oneRoom_row_numbers_2 A_oneRoom_row_begins_3 A_oneRoom_row_ends_4 A_oneRoom_row_weights_5 A_oneRoom_best) (fun (r7, A_oneRoom_best_8) => some (r7, f_oneRoom_row_count_1, A_oneRoom_row_numbers_2, A_oneRoom_row_begins_3, A_oneRoom_row_ends_4, A_oneRoom_row_weights_5, A_oneRoom_best_8)))
abbrev rm_X4_chosen : Room := { frames := 3, cells := 0, slots := 0, locals := 72 }
set_option maxHeartbeats 4000000 in
set_option maxRecDepth 100000 in
theorem c_X4_chosen (l : Launch) (G : va_G) (cy : ClassId × ClassId × ClassId) (k : Nat) (aT aT_begins aT_ends aT_weights aT_givenRooms aT_oneRoom aT_manyRooms aT_oneRoom_row aT_oneRoom_best aT_oneRoom_row_numbers aT_oneRoom_row_begins aT_oneRoom_row_ends aT_oneRoom_row_weights : Nat) (f_added : Int32) (f_presentSet : Int64) (f_factor : Int32) (f_offeredSet : Int64) (f_acceptedSet : Int64) (f_dropped : Int32) (A_begins : Nat → Int32) (A_ends : Nat → Int32) (A_weights : Nat → Int32) (f_oneRoom_row_byEnd : Int32) (f_oneRoom_row_count : Int32) (A_oneRoom_row_numbers : Nat → Int32) (A_oneRoom_row_begins : Nat → Int32) (A_oneRoom_row_ends : Nat → Int32) (A_oneRoom_row_weights : Nat → Int32) (A_oneRoom_best : Nat → Int32) {r : Int64} {wf_oneRoom_row_count : Int32} {wA_oneRoom_row_numbers : Nat → Int32} {wA_oneRoom_row_begins : Nat → Int32} {wA_oneRoom_row_ends : Nat → Int32} {wA_oneRoom_row_weights : Nat → Int32} {wA_oneRoom_best : Nat → Int32} (hf : f_X4_chosen k f_added f_presentSet A_begins A_ends A_weights f_oneRoom_row_byEnd f_oneRoom_row_count A_oneRoom_row_numbers A_oneRoom_row_begins A_oneRoom_row_ends A_oneRoom_row_weights A_oneRoom_best = some (r, wf_oneRoom_row_count, wA_oneRoom_row_numbers, wA_oneRoom_row_begins, wA_oneRoom_row_ends, wA_oneRoom_row_weights, wA_oneRoom_best)) : Cl l yX4_chosen wsX4_chosen rm_X4_chosen 0 0 G cy [.ref aT] [(aT, .inr (4, [.ref aT_begins, .ref aT_ends, .ref aT_weights, .int f_added, .long f_presentSet, .int f_factor, .long f_offeredSet, .long f_acceptedSet, .int f_dropped, .ref aT_givenRooms, .ref aT_oneRoom, .ref aT_manyRooms])), (aT_begins, .inl (cy.1, 40, .inl A_begins)), (aT_ends, .inl (cy.1, 40, .inl A_ends)), (aT_weights, .inl (cy.1, 40, .inl A_weights)), (aT_oneRoom, .inr (2, [.ref aT_oneRoom_row, .ref aT_oneRoom_best])), (aT_oneRoom_row, .inr (3, [.int f_oneRoom_row_byEnd, .ref aT_oneRoom_row_numbers, .ref aT_oneRoom_row_begins, .ref aT_oneRoom_row_ends, .ref aT_oneRoom_row_weights, .int f_oneRoom_row_count])), (aT_oneRoom_row_numbers, .inl (cy.1, 40, .inl A_oneRoom_row_numbers)), (aT_oneRoom_row_begins, .inl (cy.1, 40, .inl A_oneRoom_row_begins)), (aT_oneRoom_row_ends, .inl (cy.1, 40, .inl A_oneRoom_row_ends)), (aT_oneRoom_row_weights, .inl (cy.1, 40, .inl A_oneRoom_row_weights)), (aT_oneRoom_best, .inl (cy.1, 41, .inl A_oneRoom_best))] [(aT, .inr (4, [.ref aT_begins, .ref aT_ends, .ref aT_weights, .int f_added, .long f_presentSet, .int f_factor, .long f_offeredSet, .long f_acceptedSet, .int f_dropped, .ref aT_givenRooms, .ref aT_oneRoom, .ref aT_manyRooms])), (aT_begins, .inl (cy.1, 40, .inl A_begins)), (aT_ends, .inl (cy.1, 40, .inl A_ends)), (aT_weights, .inl (cy.1, 40, .inl A_weights)), (aT_oneRoom, .inr (2, [.ref aT_oneRoom_row, .ref aT_oneRoom_best])), (aT_oneRoom_row, .inr (3, [.int f_oneRoom_row_byEnd, .ref aT_oneRoom_row_numbers, .ref aT_oneRoom_row_begins, .ref aT_oneRoom_row_ends, .ref aT_oneRoom_row_weights, .int wf_oneRoom_row_count])), (aT_oneRoom_row_numbers, .inl (cy.1, 40, .inl wA_oneRoom_row_numbers)), (aT_oneRoom_row_begins, .inl (cy.1, 40, .inl wA_oneRoom_row_begins)), (aT_oneRoom_row_ends, .inl (cy.1, 40, .inl wA_oneRoom_row_ends)), (aT_oneRoom_row_weights, .inl (cy.1, 40, .inl wA_oneRoom_row_weights)), (aT_oneRoom_best, .inl (cy.1, 41, .inl wA_oneRoom_best))] r := by
  refine kMetL (cc := cX4_chosen) (maxL := 1) (by decide) rfl (Nat.le_of_ble_eq_true rfl) ?_
  intro p e s m args below meth c Q A ls hx hb hml hts hown hv hl kret
  replace hown : s.vm.findClass RX4 = some m.cls := hown
  replace hl : lv_has ls 1 [(0, .ref aT)] := hl
  have hk33 : (Cond.fieldLink RX4 33 "Roomcolour" "oneRoom" "LRoomcolour$OneRoomPlan;").before args s = true := hts _ (by decide +kernel)
  have hinX4 : ∀ w ∈ wsX40, w ∈ wsX4_chosen := by decide +kernel
  have hn128 : (Cond.fieldLinkNest RX4 128 "Roomcolour$OneRoomPlan" "row" "LRoomcolour$Row;" RX4).before args s = true := va_Nw.use rfl (hv.2.2.2.2.2.1 _ (by decide +kernel))
  have hinX2 : ∀ w ∈ wsX20, w ∈ wsX4_chosen := by decide +kernel
  have hk61 : (Cond.fieldLink RX4 61 "Roomcolour" "presentSet" "J").before args s = true := hts _ (by decide +kernel)
  unfold f_X4_chosen at hf
  refine lv_aload_n hx hb dX4_chosen_0 rfl (lv_at hl 0 rfl) ?_
  refine lv_aload_n hx hb dX4_chosen_1 rfl (lv_at hl 0 rfl) ?_
  refine kGet (v := .ref aT_oneRoom) (C := RX4) (T := TX4) (N := 12) hx hb hts hinX4 hown hv 0 rfl rfl 10 (by decide) hk33 (fun _ h9 => h9) rfl dX4_chosen_2 ?_
  refine kGetN (v := .ref aT_oneRoom_row) (C := RX2) (T := TX2) (N := 2) hx hb hts hinX2 hown hv 4 rfl rfl 0 (by decide) hn128 (fun _ h9 => h9) rfl dX4_chosen_5 ?_
  refine lv_aload_n hx hb dX4_chosen_8 rfl (lv_at hl 0 rfl) ?_
  refine kGet (v := .long f_presentSet) (C := RX4) (T := TX4) (N := 12) hx hb hts hinX4 hown hv 0 rfl rfl 4 (by decide) hk61 (fun _ h9 => h9) rfl dX4_chosen_9 ?_
  obtain ⟨⟨f_oneRoom_row_count_1, A_oneRoom_row_numbers_2, A_oneRoom_row_begins_3, A_oneRoom_row_ends_4, A_oneRoom_row_weights_5⟩, hcl6, hf⟩ := xb_some hf
  dsimp only at hf
  refine kV_v (wr := [(aT_oneRoom, .inr (2, [.ref aT_oneRoom_row, .ref aT_oneRoom_best])), (aT_oneRoom_best, .inl (cy.1, 41, .inl A_oneRoom_best))]) (w2 := [(aT, .inr (4, [.ref aT_begins, .ref aT_ends, .ref aT_weights, .int f_added, .long f_presentSet, .int f_factor, .long f_offeredSet, .long f_acceptedSet, .int f_dropped, .ref aT_givenRooms, .ref aT_oneRoom, .ref aT_manyRooms])), (aT_begins, .inl (cy.1, 40, .inl A_begins)), (aT_ends, .inl (cy.1, 40, .inl A_ends)), (aT_weights, .inl (cy.1, 40, .inl A_weights)), (aT_oneRoom, .inr (2, [.ref aT_oneRoom_row, .ref aT_oneRoom_best])), (aT_oneRoom_row, .inr (3, [.int f_oneRoom_row_byEnd, .ref aT_oneRoom_row_numbers, .ref aT_oneRoom_row_begins, .ref aT_oneRoom_row_ends, .ref aT_oneRoom_row_weights, .int f_oneRoom_row_count_1])), (aT_oneRoom_row_numbers, .inl (cy.1, 40, .inl A_oneRoom_row_numbers_2)), (aT_oneRoom_row_begins, .inl (cy.1, 40, .inl A_oneRoom_row_begins_3)), (aT_oneRoom_row_ends, .inl (cy.1, 40, .inl A_oneRoom_row_ends_4)), (aT_oneRoom_row_weights, .inl (cy.1, 40, .inl A_oneRoom_row_weights_5)), (aT_oneRoom_best, .inl (cy.1, 41, .inl A_oneRoom_best))]) ⟨hx, hb, hml, hown, hts⟩ (c_X4_fill l G cy k aT aT_begins aT_ends aT_weights aT_givenRooms aT_oneRoom aT_manyRooms aT_oneRoom_row aT_oneRoom_row_numbers aT_oneRoom_row_begins aT_oneRoom_row_ends aT_oneRoom_row_weights f_added f_presentSet f_factor f_offeredSet f_acceptedSet f_dropped A_begins A_ends A_weights f_oneRoom_row_byEnd f_oneRoom_row_count A_oneRoom_row_numbers A_oneRoom_row_begins A_oneRoom_row_ends A_oneRoom_row_weights f_presentSet hcl6) (cwV 2 hts gX4_chosen_X4_fill rfl rfl rfl (by decide +kernel) ⟨Nat.le_of_ble_eq_true rfl, Nat.le_of_ble_eq_true rfl⟩) hv (isC := [0, 1, 2, 3, 5, 6, 7, 8, 9]) ⟨rfl, rfl⟩ (hv.recv 4 0 rfl rfl) [4, 10] [2, 3, 4, 5, 0, 6, 7, 8, 9, 10, 1] rfl rfl (by decide) rfl rfl rfl hl.1 rfl (Nat.le_of_ble_eq_true rfl) dX4_chosen_12 ⟨Nat.le_of_ble_eq_true rfl, Nat.le_of_ble_eq_true rfl⟩ (fun H locs hv => ?_)
  refine lv_aload_n hx hb dX4_chosen_15 rfl (lv_at hl 0 rfl) ?_
  refine kGet (v := .ref aT_oneRoom) (C := RX4) (T := TX4) (N := 12) hx hb hts hinX4 hown hv 0 rfl rfl 10 (by decide) hk33 (fun _ h9 => h9) rfl dX4_chosen_16 ?_
  obtain ⟨⟨r7, A_oneRoom_best_8⟩, hcl9, hf⟩ := xb_some hf
  dsimp only at hf
  refine kV_l (r := r7) (wr := [(aT, .inr (4, [.ref aT_begins, .ref aT_ends, .ref aT_weights, .int f_added, .long f_presentSet, .int f_factor, .long f_offeredSet, .long f_acceptedSet, .int f_dropped, .ref aT_givenRooms, .ref aT_oneRoom, .ref aT_manyRooms])), (aT_begins, .inl (cy.1, 40, .inl A_begins)), (aT_ends, .inl (cy.1, 40, .inl A_ends)), (aT_weights, .inl (cy.1, 40, .inl A_weights))]) (w2 := [(aT, .inr (4, [.ref aT_begins, .ref aT_ends, .ref aT_weights, .int f_added, .long f_presentSet, .int f_factor, .long f_offeredSet, .long f_acceptedSet, .int f_dropped, .ref aT_givenRooms, .ref aT_oneRoom, .ref aT_manyRooms])), (aT_begins, .inl (cy.1, 40, .inl A_begins)), (aT_ends, .inl (cy.1, 40, .inl A_ends)), (aT_weights, .inl (cy.1, 40, .inl A_weights)), (aT_oneRoom, .inr (2, [.ref aT_oneRoom_row, .ref aT_oneRoom_best])), (aT_oneRoom_row, .inr (3, [.int f_oneRoom_row_byEnd, .ref aT_oneRoom_row_numbers, .ref aT_oneRoom_row_begins, .ref aT_oneRoom_row_ends, .ref aT_oneRoom_row_weights, .int f_oneRoom_row_count_1])), (aT_oneRoom_row_numbers, .inl (cy.1, 40, .inl A_oneRoom_row_numbers_2)), (aT_oneRoom_row_begins, .inl (cy.1, 40, .inl A_oneRoom_row_begins_3)), (aT_oneRoom_row_ends, .inl (cy.1, 40, .inl A_oneRoom_row_ends_4)), (aT_oneRoom_row_weights, .inl (cy.1, 40, .inl A_oneRoom_row_weights_5)), (aT_oneRoom_best, .inl (cy.1, 41, .inl A_oneRoom_best_8))]) ⟨hx, hb, hml, hown, hts⟩ (c_X2_chosenSet l G cy k aT_oneRoom aT_oneRoom_row aT_oneRoom_best aT_oneRoom_row_numbers aT_oneRoom_row_begins aT_oneRoom_row_ends aT_oneRoom_row_weights f_oneRoom_row_byEnd f_oneRoom_row_count_1 A_oneRoom_row_numbers_2 A_oneRoom_row_begins_3 A_oneRoom_row_ends_4 A_oneRoom_row_weights_5 A_oneRoom_best hcl9) (cwV 0 hts gX4_chosen_X2_chosenSet rfl rfl rfl (by decide +kernel) ⟨Nat.le_of_ble_eq_true rfl, Nat.le_of_ble_eq_true rfl⟩) hv (isC := [4, 5, 6, 7, 8, 9, 10]) ⟨rfl, rfl⟩ (hv.recv 2 4 rfl rfl) [0, 1, 2, 3] [0, 1, 2, 3, 4, 5, 6, 7, 8, 9, 10] rfl rfl (by decide) rfl rfl rfl hl.1 rfl (Nat.le_of_ble_eq_true rfl) dX4_chosen_19 ⟨Nat.le_of_ble_eq_true rfl, Nat.le_of_ble_eq_true rfl⟩ (fun H locs hv => ?_)
  cases hf
  exact kret _ _ _ _ hv dX4_chosen_22

def f_X4_depth (k : Nat) (p1 : Int32) (f_added : Int32) (f_presentSet : Int64) (A_begins : Nat → Int32) (A_ends : Nat → Int32) : Option (Except String (Int32)) := if p1 < 0 then some (.error "java/lang/IllegalArgumentException") else if p1 ≤ 1000 then xb (f_X4_depthAt k p1 f_added f_presentSet A_begins A_ends) (fun r3 => some (.ok r3)) else some (.error "java/lang/IllegalArgumentException")
abbrev rm_X4_depth : Room := { frames := 6, cells := 1, slots := 6, locals := 90 }
set_option maxHeartbeats 4000000 in
set_option maxRecDepth 100000 in
theorem c_X4_depth (l : Launch) (hl9 : l.stackTraces = false) (G : va_G) (cy : ClassId × ClassId × ClassId) (k : Nat) (aT aT_begins aT_ends aT_weights aT_givenRooms aT_oneRoom aT_manyRooms : Nat) (f_added : Int32) (f_presentSet : Int64) (f_factor : Int32) (f_offeredSet : Int64) (f_acceptedSet : Int64) (f_dropped : Int32) (A_begins : Nat → Int32) (A_ends : Nat → Int32) (p1 : Int32) {o : Except String (Int32)} (hf : f_X4_depth k p1 f_added f_presentSet A_begins A_ends = some o) : Xi l yX4_depth wsX4_depth rm_X4_depth 1 6 G cy [.ref aT, .int p1] [(aT, .inr (4, [.ref aT_begins, .ref aT_ends, .ref aT_weights, .int f_added, .long f_presentSet, .int f_factor, .long f_offeredSet, .long f_acceptedSet, .int f_dropped, .ref aT_givenRooms, .ref aT_oneRoom, .ref aT_manyRooms])), (aT_begins, .inl (cy.1, 40, .inl A_begins)), (aT_ends, .inl (cy.1, 40, .inl A_ends))] (kmo (fun (q : Int32) => (q, [(aT, .inr (4, [.ref aT_begins, .ref aT_ends, .ref aT_weights, .int f_added, .long f_presentSet, .int f_factor, .long f_offeredSet, .long f_acceptedSet, .int f_dropped, .ref aT_givenRooms, .ref aT_oneRoom, .ref aT_manyRooms])), (aT_begins, .inl (cy.1, 40, .inl A_begins)), (aT_ends, .inl (cy.1, 40, .inl A_ends))])) o) := by
  refine kMetXI (cc := cX4_depth) (maxL := 2) (by decide) rfl (Nat.le_of_ble_eq_true rfl) ?_
  intro p e s m args below meth c Q A ls Qc hx hb hml hts hown hv hl kret hT htab hlocks
  replace hown : s.vm.findClass RX4 = some m.cls := hown
  replace hl : lv_has ls 2 [(0, .ref aT), (1, .int p1)] := hl
  unfold f_X4_depth at hf
  refine lv_iload_n hx hb dX4_depth_0 rfl (lv_at hl 1 rfl) ?_
  refine lv_if_lt (tgt := 11) hx hb dX4_depth_1 (by decide) (fun hc1 => ?_) (fun hc1 => ?_)
  · replace hf := ite_t hf hc1
    cases hf
    exact kThrow hx hb hl9 hts hown hv hT htab hlocks (by rw [hml]; exact hl.1) (cls := "java/lang/IllegalArgumentException") (text := "time is out of range") (ik := 44) (is := 111) (ic := 48) rfl (by decide +kernel) (by decide +kernel) (by decide +kernel) (by decide +kernel) (by decide +kernel) (by decide +kernel) (by decide +kernel) dX4_depth_11 dX4_depth_14 dX4_depth_15 dX4_depth_17 dX4_depth_20 (by decide) (by decide) (by decide) (by decide) (by decide) (by decide)
  · replace hf := ite_f hf hc1
    refine lv_iload_n hx hb dX4_depth_4 rfl (lv_at hl 1 rfl) ?_
    refine lv_sipush (v := 1000) hx hb dX4_depth_5 (by decide) ?_
    refine lv_icmp_le (tgt := 21) hx hb dX4_depth_8 (by decide) (fun hc2 => ?_) (fun hc2 => ?_)
    · replace hf := ite_t hf hc2
      refine lv_aload_n hx hb dX4_depth_21 rfl (lv_at hl 0 rfl) ?_
      refine lv_iload_n hx hb dX4_depth_22 rfl (lv_at hl 1 rfl) ?_
      obtain ⟨r3, hcl4, hf⟩ := xb_some hf
      refine kV_i (r := r3) (wr := []) (w2 := [(aT, .inr (4, [.ref aT_begins, .ref aT_ends, .ref aT_weights, .int f_added, .long f_presentSet, .int f_factor, .long f_offeredSet, .long f_acceptedSet, .int f_dropped, .ref aT_givenRooms, .ref aT_oneRoom, .ref aT_manyRooms])), (aT_begins, .inl (cy.1, 40, .inl A_begins)), (aT_ends, .inl (cy.1, 40, .inl A_ends))]) ⟨hx, hb, hml, hown, hts⟩ (c_X4_depthAt l G cy k aT aT_begins aT_ends aT_weights aT_givenRooms aT_oneRoom aT_manyRooms f_added f_presentSet f_factor f_offeredSet f_acceptedSet f_dropped A_begins A_ends p1 hcl4) (cwV 1 hts gX4_depth_X4_depthAt rfl rfl rfl (by decide +kernel) ⟨Nat.le_of_ble_eq_true rfl, Nat.le_of_ble_eq_true rfl⟩) hv (isC := [0, 1, 2]) ⟨rfl, rfl⟩ (hv.recv 4 0 rfl rfl) [] [0, 1, 2] rfl rfl (by decide) rfl rfl rfl hl.1 rfl (Nat.le_of_ble_eq_true rfl) dX4_depth_23 ⟨Nat.le_of_ble_eq_true rfl, Nat.le_of_ble_eq_true rfl⟩ (fun H locs hv => ?_)
      cases hf
      refine W.widen (k := 1) (n := 6) (by omega) (by omega) ?_
      exact kret _ _ _ _ _ _ rfl hv dX4_depth_26
    · replace hf := ite_f hf hc2
      cases hf
      exact kThrow hx hb hl9 hts hown hv hT htab hlocks (by rw [hml]; exact hl.1) (cls := "java/lang/IllegalArgumentException") (text := "time is out of range") (ik := 44) (is := 111) (ic := 48) rfl (by decide +kernel) (by decide +kernel) (by decide +kernel) (by decide +kernel) (by decide +kernel) (by decide +kernel) (by decide +kernel) dX4_depth_11 dX4_depth_14 dX4_depth_15 dX4_depth_17 dX4_depth_20 (by decide) (by decide) (by decide) (by decide) (by decide) (by decide)

def f_X4_turned (k : Nat) (p0 : Int32) (p1 : Int32) : Option (Int32) := if (1 : Int32) ≤ p1 then xb (f_J9_floorMod_7cf53 k p0 p1) (fun r2 => some r2) else some 0
abbrev rm_X4_turned : Room := { frames := 1, cells := 0, slots := 0, locals := 22 }
set_option maxHeartbeats 4000000 in
set_option maxRecDepth 100000 in
theorem c_X4_turned (l : Launch) (G : va_G) (cy : ClassId × ClassId × ClassId) (k : Nat) (p0 : Int32) (p1 : Int32) {r : Int32} (hf : f_X4_turned k p0 p1 = some r) : Ci l yX4_turned wsX4_turned rm_X4_turned 0 0 G cy [.int p0, .int p1] [] [] r := by
  refine kMetI (cc := cX4_turned) (maxL := 2) (by decide) rfl (Nat.le_of_ble_eq_true rfl) ?_
  intro p e s m args below meth c Q A ls hx hb hml hts hown hv hl kret
  replace hown : s.vm.findClass RX4 = some m.cls := hown
  replace hl : lv_has ls 2 [(0, .int p0), (1, .int p1)] := hl
  unfold f_X4_turned at hf
  refine lv_iload_n hx hb dX4_turned_0 rfl (lv_at hl 1 rfl) ?_
  refine lv_iconst (v := 1) hx hb dX4_turned_1 (by decide) ?_
  refine lv_icmp_ge (tgt := 9) hx hb dX4_turned_2 (by decide) (fun hc1 => ?_) (fun hc1 => ?_)
  · replace hf := ite_t hf hc1
    refine lv_iload_n hx hb dX4_turned_9 rfl (lv_at hl 0 rfl) ?_
    refine lv_iload_n hx hb dX4_turned_10 rfl (lv_at hl 1 rfl) ?_
    obtain ⟨r2, hcl3, hf⟩ := xb_some hf
    refine kS_i (r := r2) ⟨hx, hb, hml, hown, hts⟩ (c_J9_floorMod_7cf53 l G cy k p0 p1 hcl3) (va_cwS 2 hts gX4_turned_J9_floorMod_7cf53 rfl rfl rfl (by decide +kernel) ⟨Nat.le_of_ble_eq_true rfl, Nat.le_of_ble_eq_true rfl⟩) hv rfl hl.1 rfl (Nat.le_of_ble_eq_true rfl) dX4_turned_11 ⟨Nat.le_of_ble_eq_true rfl, Nat.le_of_ble_eq_true rfl⟩ (fun H locs hv => ?_)
    cases hf
    exact kret _ _ _ _ hv dX4_turned_14
  · replace hf := ite_f hf hc1
    refine lv_iconst (v := 0) hx hb dX4_turned_5 (by decide) ?_
    refine lv_goto (tgt := 14) hx hb dX4_turned_6 (by decide) ?_
    cases hf
    exact kret _ _ _ _ hv dX4_turned_14

def f_X4_lengthOf (k : Nat) (p1 : Int32) (A_begins : Nat → Int32) (A_ends : Nat → Int32) : Option (Int32) := xi p1 40 (xi p1 40 (some ((A_ends p1.toNatClampNeg) - (A_begins p1.toNatClampNeg))))
abbrev rm_X4_lengthOf : Room := { frames := 0, cells := 0, slots := 0, locals := 0 }
set_option maxHeartbeats 4000000 in
set_option maxRecDepth 100000 in
theorem c_X4_lengthOf (l : Launch) (G : va_G) (cy : ClassId × ClassId × ClassId) (k : Nat) (aT aT_begins aT_ends aT_weights aT_givenRooms aT_oneRoom aT_manyRooms : Nat) (f_added : Int32) (f_presentSet : Int64) (f_factor : Int32) (f_offeredSet : Int64) (f_acceptedSet : Int64) (f_dropped : Int32) (A_begins : Nat → Int32) (A_ends : Nat → Int32) (p1 : Int32) {r : Int32} (hf : f_X4_lengthOf k p1 A_begins A_ends = some r) : Ci l yX4_lengthOf wsX4_lengthOf rm_X4_lengthOf 0 0 G cy [.ref aT, .int p1] [(aT, .inr (4, [.ref aT_begins, .ref aT_ends, .ref aT_weights, .int f_added, .long f_presentSet, .int f_factor, .long f_offeredSet, .long f_acceptedSet, .int f_dropped, .ref aT_givenRooms, .ref aT_oneRoom, .ref aT_manyRooms])), (aT_begins, .inl (cy.1, 40, .inl A_begins)), (aT_ends, .inl (cy.1, 40, .inl A_ends))] [(aT, .inr (4, [.ref aT_begins, .ref aT_ends, .ref aT_weights, .int f_added, .long f_presentSet, .int f_factor, .long f_offeredSet, .long f_acceptedSet, .int f_dropped, .ref aT_givenRooms, .ref aT_oneRoom, .ref aT_manyRooms])), (aT_begins, .inl (cy.1, 40, .inl A_begins)), (aT_ends, .inl (cy.1, 40, .inl A_ends))] r := by
  refine kMetI (cc := cX4_lengthOf) (maxL := 2) (by decide) rfl (Nat.le_of_ble_eq_true rfl) ?_
  intro p e s m args below meth c Q A ls hx hb hml hts hown hv hl kret
  replace hown : s.vm.findClass RX4 = some m.cls := hown
  replace hl : lv_has ls 2 [(0, .ref aT), (1, .int p1)] := hl
  have hk13 : (Cond.fieldLink RX4 13 "Roomcolour" "ends" "[I").before args s = true := hts _ (by decide +kernel)
  have hinX4 : ∀ w ∈ wsX40, w ∈ wsX4_lengthOf := by decide +kernel
  have hk9 : (Cond.fieldLink RX4 9 "Roomcolour" "begins" "[I").before args s = true := hts _ (by decide +kernel)
  unfold f_X4_lengthOf at hf
  refine lv_aload_n hx hb dX4_lengthOf_0 rfl (lv_at hl 0 rfl) ?_
  refine kGet (v := .ref aT_ends) (C := RX4) (T := TX4) (N := 12) hx hb hts hinX4 hown hv 0 rfl rfl 1 (by decide) hk13 (fun _ h9 => h9) rfl dX4_lengthOf_1 ?_
  refine lv_iload_n hx hb dX4_lengthOf_4 rfl (lv_at hl 1 rfl) ?_
  obtain ⟨hi1, hf⟩ := xi_some hf
  refine kIald hx hb hv 2 rfl hi1 dX4_lengthOf_5 ?_
  refine lv_aload_n hx hb dX4_lengthOf_6 rfl (lv_at hl 0 rfl) ?_
  refine kGet (v := .ref aT_begins) (C := RX4) (T := TX4) (N := 12) hx hb hts hinX4 hown hv 0 rfl rfl 0 (by decide) hk9 (fun _ h9 => h9) rfl dX4_lengthOf_7 ?_
  refine lv_iload_n hx hb dX4_lengthOf_10 rfl (lv_at hl 1 rfl) ?_
  obtain ⟨hi2, hf⟩ := xi_some hf
  refine kIald hx hb hv 1 rfl hi2 dX4_lengthOf_11 ?_
  refine lv_isub hx hb dX4_lengthOf_12 ?_
  cases hf
  exact kret _ _ _ _ hv dX4_lengthOf_13

def f_X4_depthOnCircle_L5 (k : Nat) (v1 : Int32) (v2 : Int32) (f_added : Int32) (f_presentSet : Int64) (A_begins : Nat → Int32) (A_ends : Nat → Int32) (κ : Int32 → Int32 → Option (Int32)) : Nat → Int32 → Int32 → Option (Int32)
  | 0, _, _ => none
  | n + 1, v3, v4 => if f_added ≤ v4 then κ v3 v4 else xb (f_X4_contains k f_presentSet v4) (fun r2 => if r2 = 0 then f_X4_depthOnCircle_L5 k v1 v2 f_added f_presentSet A_begins A_ends κ n v3 (v4 + 1) else xi v4 40 (xb (f_X4_turned k (v1 - (A_begins v4.toNatClampNeg)) v2) (fun r6 => xb (f_X4_lengthOf k v4 A_begins A_ends) (fun r8 => if r8 ≤ r6 then f_X4_depthOnCircle_L5 k v1 v2 f_added f_presentSet A_begins A_ends κ n v3 (v4 + 1) else f_X4_depthOnCircle_L5 k v1 v2 f_added f_presentSet A_begins A_ends κ n (v3 + 1) (v4 + 1)))))
theorem f_X4_depthOnCircle_L5_z (k : Nat) (v1 : Int32) (v2 : Int32) (f_added : Int32) (f_presentSet : Int64) (A_begins : Nat → Int32) (A_ends : Nat → Int32) (κ : Int32 → Int32 → Option (Int32)) (v3 : Int32) (v4 : Int32) : f_X4_depthOnCircle_L5 k v1 v2 f_added f_presentSet A_begins A_ends κ 0 v3 v4 = none := rfl
theorem f_X4_depthOnCircle_L5_s (k : Nat) (v1 : Int32) (v2 : Int32) (f_added : Int32) (f_presentSet : Int64) (A_begins : Nat → Int32) (A_ends : Nat → Int32) (κ : Int32 → Int32 → Option (Int32)) (n : Nat) (v3 : Int32) (v4 : Int32) : f_X4_depthOnCircle_L5 k v1 v2 f_added f_presentSet A_begins A_ends κ (n + 1) v3 v4 = if f_added ≤ v4 then κ v3 v4 else xb (f_X4_contains k f_presentSet v4) (fun r2 => if r2 = 0 then f_X4_depthOnCircle_L5 k v1 v2 f_added f_presentSet A_begins A_ends κ n v3 (v4 + 1) else xi v4 40 (xb (f_X4_turned k (v1 - (A_begins v4.toNatClampNeg)) v2) (fun r6 => xb (f_X4_lengthOf k v4 A_begins A_ends) (fun r8 => if r8 ≤ r6 then f_X4_depthOnCircle_L5 k v1 v2 f_added f_presentSet A_begins A_ends κ n v3 (v4 + 1) else f_X4_depthOnCircle_L5 k v1 v2 f_added f_presentSet A_begins A_ends κ n (v3 + 1) (v4 + 1))))) := rfl
def f_X4_depthOnCircle (k : Nat) (p1 : Int32) (p2 : Int32) (f_added : Int32) (f_presentSet : Int64) (A_begins : Nat → Int32) (A_ends : Nat → Int32) : Option (Int32) := f_X4_depthOnCircle_L5 k p1 p2 f_added f_presentSet A_begins A_ends (fun (v3_11 : Int32) (v4_12 : Int32) => some v3_11) k 0 0
abbrev rm_X4_depthOnCircle : Room := { frames := 2, cells := 0, slots := 0, locals := 43 }
set_option maxHeartbeats 4000000 in
set_option maxRecDepth 100000 in
theorem c_X4_depthOnCircle (l : Launch) (G : va_G) (cy : ClassId × ClassId × ClassId) (k : Nat) (aT aT_begins aT_ends aT_weights aT_givenRooms aT_oneRoom aT_manyRooms : Nat) (f_added : Int32) (f_presentSet : Int64) (f_factor : Int32) (f_offeredSet : Int64) (f_acceptedSet : Int64) (f_dropped : Int32) (A_begins : Nat → Int32) (A_ends : Nat → Int32) (p1 : Int32) (p2 : Int32) {r : Int32} (hf : f_X4_depthOnCircle k p1 p2 f_added f_presentSet A_begins A_ends = some r) : Ci l yX4_depthOnCircle wsX4_depthOnCircle rm_X4_depthOnCircle 0 0 G cy [.ref aT, .int p1, .int p2] [(aT, .inr (4, [.ref aT_begins, .ref aT_ends, .ref aT_weights, .int f_added, .long f_presentSet, .int f_factor, .long f_offeredSet, .long f_acceptedSet, .int f_dropped, .ref aT_givenRooms, .ref aT_oneRoom, .ref aT_manyRooms])), (aT_begins, .inl (cy.1, 40, .inl A_begins)), (aT_ends, .inl (cy.1, 40, .inl A_ends))] [(aT, .inr (4, [.ref aT_begins, .ref aT_ends, .ref aT_weights, .int f_added, .long f_presentSet, .int f_factor, .long f_offeredSet, .long f_acceptedSet, .int f_dropped, .ref aT_givenRooms, .ref aT_oneRoom, .ref aT_manyRooms])), (aT_begins, .inl (cy.1, 40, .inl A_begins)), (aT_ends, .inl (cy.1, 40, .inl A_ends))] r := by
  refine kMetI (cc := cX4_depthOnCircle) (maxL := 5) (by decide) rfl (Nat.le_of_ble_eq_true rfl) ?_
  intro p e s m args below meth c Q A ls hx hb hml hts hown hv hl kret
  replace hown : s.vm.findClass RX4 = some m.cls := hown
  replace hl : lv_has ls 5 [(0, .ref aT), (1, .int p1), (2, .int p2)] := hl
  have hk53 : (Cond.fieldLink RX4 53 "Roomcolour" "added" "I").before args s = true := hts _ (by decide +kernel)
  have hinX4 : ∀ w ∈ wsX40, w ∈ wsX4_depthOnCircle := by decide +kernel
  have hk61 : (Cond.fieldLink RX4 61 "Roomcolour" "presentSet" "J").before args s = true := hts _ (by decide +kernel)
  have hk9 : (Cond.fieldLink RX4 9 "Roomcolour" "begins" "[I").before args s = true := hts _ (by decide +kernel)
  have L5 : ∀ (v1 : Int32) (v2 : Int32) (κ : Int32 → Int32 → Option (Int32)) (n : Nat) (v3 : Int32) (v4 : Int32), f_X4_depthOnCircle_L5 k v1 v2 f_added f_presentSet A_begins A_ends κ n v3 v4 = some r → ∀ (H : Heap) (locs : List Loc) (ls : Array Slot), Hv s H locs G cy A [(aT, .inr (4, [.ref aT_begins, .ref aT_ends, .ref aT_weights, .int f_added, .long f_presentSet, .int f_factor, .long f_offeredSet, .long f_acceptedSet, .int f_dropped, .ref aT_givenRooms, .ref aT_oneRoom, .ref aT_manyRooms])), (aT_begins, .inl (cy.1, 40, .inl A_begins)), (aT_ends, .inl (cy.1, 40, .inl A_ends))] → lv_has ls 5 [(0, .ref aT), (1, .int v1), (2, .int v2), (3, .int v3), (4, .int v4)] → (∀ (v3 : Int32) (v4 : Int32), κ v3 v4 = some r → ∀ (H : Heap) (locs : List Loc) (ls : Array Slot), Hv s H locs G cy A [(aT, .inr (4, [.ref aT_begins, .ref aT_ends, .ref aT_weights, .int f_added, .long f_presentSet, .int f_factor, .long f_offeredSet, .long f_acceptedSet, .int f_dropped, .ref aT_givenRooms, .ref aT_oneRoom, .ref aT_manyRooms])), (aT_begins, .inl (cy.1, 40, .inl A_begins)), (aT_ends, .inl (cy.1, 40, .inl A_ends))] → lv_has ls 5 [(3, .int v3)] → W p l e rm_X4_depthOnCircle s m args below meth c H locs 0 0 Q (F0 m 57 ls [])) → W p l e rm_X4_depthOnCircle s m args below meth c H locs 0 0 Q (F0 m 5 ls []) := by
    intro v1 v2 κ n
    induction n with
    | zero =>
      intro v3 v4 hf
      rw [f_X4_depthOnCircle_L5_z] at hf
      cases hf
    | succ n ih =>
      intro v3 v4 hf H locs ls hv hl hκ
      rw [f_X4_depthOnCircle_L5_s] at hf
      refine lv_iload hx hb dX4_depthOnCircle_5 (lv_at hl 4 rfl) ?_
      refine lv_aload_n hx hb dX4_depthOnCircle_7 rfl (lv_at hl 0 rfl) ?_
      refine kGet (v := .int f_added) (C := RX4) (T := TX4) (N := 12) hx hb hts hinX4 hown hv 0 rfl rfl 3 (by decide) hk53 (fun _ h9 => h9) rfl dX4_depthOnCircle_8 ?_
      refine lv_icmp_ge (tgt := 57) hx hb dX4_depthOnCircle_11 (by decide) (fun hc1 => ?_) (fun hc1 => ?_)
      · replace hf := ite_t hf hc1
        exact hκ v3 v4 hf _ _ _ hv (lv_sub hl [3] rfl)
      · replace hf := ite_f hf hc1
        refine lv_aload_n hx hb dX4_depthOnCircle_14 rfl (lv_at hl 0 rfl) ?_
        refine kGet (v := .long f_presentSet) (C := RX4) (T := TX4) (N := 12) hx hb hts hinX4 hown hv 0 rfl rfl 4 (by decide) hk61 (fun _ h9 => h9) rfl dX4_depthOnCircle_15 ?_
        refine lv_iload hx hb dX4_depthOnCircle_18 (lv_at hl 4 rfl) ?_
        obtain ⟨r2, hcl3, hf⟩ := xb_some hf
        refine kS_i (r := r2) ⟨hx, hb, hml, hown, hts⟩ (c_X4_contains l G cy k f_presentSet v4 hcl3) (va_cwS 2 hts gX4_depthOnCircle_X4_contains rfl rfl rfl (by decide +kernel) ⟨Nat.le_of_ble_eq_true rfl, Nat.le_of_ble_eq_true rfl⟩) hv rfl hl.1 rfl (Nat.le_of_ble_eq_true rfl) dX4_depthOnCircle_20 ⟨Nat.le_of_ble_eq_true rfl, Nat.le_of_ble_eq_true rfl⟩ (fun H locs hv => ?_)
        refine lv_if_eq (tgt := 51) hx hb dX4_depthOnCircle_23 (by decide) (fun hc4 => ?_) (fun hc4 => ?_)
        · replace hf := ite_t hf hc4
          refine lv_iinc (v := v4 + 1) (lv' := [(4, .int (v4 + 1)), (0, .ref aT), (1, .int v1), (2, .int v2), (3, .int v3)]) hx hb dX4_depthOnCircle_51 hl (k := 4) rfl rfl (by decide) rfl (fun ls hl => ?_)
          refine lv_goto (tgt := 5) hx hb dX4_depthOnCircle_54 (by decide) ?_
          exact ih v3 (v4 + 1) hf _ _ _ hv (lv_sub hl [1, 2, 3, 4, 0] rfl) hκ
        · replace hf := ite_f hf hc4
          refine lv_iload_n hx hb dX4_depthOnCircle_26 rfl (lv_at hl 1 rfl) ?_
          refine lv_aload_n hx hb dX4_depthOnCircle_27 rfl (lv_at hl 0 rfl) ?_
          refine kGet (v := .ref aT_begins) (C := RX4) (T := TX4) (N := 12) hx hb hts hinX4 hown hv 0 rfl rfl 0 (by decide) hk9 (fun _ h9 => h9) rfl dX4_depthOnCircle_28 ?_
          refine lv_iload hx hb dX4_depthOnCircle_31 (lv_at hl 4 rfl) ?_
          obtain ⟨hi5, hf⟩ := xi_some hf
          refine kIald hx hb hv 1 rfl hi5 dX4_depthOnCircle_33 ?_
          refine lv_isub hx hb dX4_depthOnCircle_34 ?_
          refine lv_iload_n hx hb dX4_depthOnCircle_35 rfl (lv_at hl 2 rfl) ?_
          obtain ⟨r6, hcl7, hf⟩ := xb_some hf
          refine kS_i (r := r6) ⟨hx, hb, hml, hown, hts⟩ (c_X4_turned l G cy k (v1 - (A_begins v4.toNatClampNeg)) v2 hcl7) (va_cwS 2 hts gX4_depthOnCircle_X4_turned rfl rfl rfl (by decide +kernel) ⟨Nat.le_of_ble_eq_true rfl, Nat.le_of_ble_eq_true rfl⟩) hv rfl hl.1 rfl (Nat.le_of_ble_eq_true rfl) dX4_depthOnCircle_36 ⟨Nat.le_of_ble_eq_true rfl, Nat.le_of_ble_eq_true rfl⟩ (fun H locs hv => ?_)
          refine lv_aload_n hx hb dX4_depthOnCircle_39 rfl (lv_at hl 0 rfl) ?_
          refine lv_iload hx hb dX4_depthOnCircle_40 (lv_at hl 4 rfl) ?_
          obtain ⟨r8, hcl9, hf⟩ := xb_some hf
          refine kV_i (r := r8) (wr := []) (w2 := [(aT, .inr (4, [.ref aT_begins, .ref aT_ends, .ref aT_weights, .int f_added, .long f_presentSet, .int f_factor, .long f_offeredSet, .long f_acceptedSet, .int f_dropped, .ref aT_givenRooms, .ref aT_oneRoom, .ref aT_manyRooms])), (aT_begins, .inl (cy.1, 40, .inl A_begins)), (aT_ends, .inl (cy.1, 40, .inl A_ends))]) ⟨hx, hb, hml, hown, hts⟩ (c_X4_lengthOf l G cy k aT aT_begins aT_ends aT_weights aT_givenRooms aT_oneRoom aT_manyRooms f_added f_presentSet f_factor f_offeredSet f_acceptedSet f_dropped A_begins A_ends v4 hcl9) (cwV 1 hts gX4_depthOnCircle_X4_lengthOf rfl rfl rfl (by decide +kernel) ⟨Nat.le_of_ble_eq_true rfl, Nat.le_of_ble_eq_true rfl⟩) hv (isC := [0, 1, 2]) ⟨rfl, rfl⟩ (hv.recv 4 0 rfl rfl) [] [0, 1, 2] rfl rfl (by decide) rfl rfl rfl hl.1 rfl (Nat.le_of_ble_eq_true rfl) dX4_depthOnCircle_42 ⟨Nat.le_of_ble_eq_true rfl, Nat.le_of_ble_eq_true rfl⟩ (fun H locs hv => ?_)
          refine lv_icmp_ge (tgt := 51) hx hb dX4_depthOnCircle_45 (by decide) (fun hc10 => ?_) (fun hc10 => ?_)
          · replace hf := ite_t hf hc10
            refine lv_iinc (v := v4 + 1) (lv' := [(4, .int (v4 + 1)), (0, .ref aT), (1, .int v1), (2, .int v2), (3, .int v3)]) hx hb dX4_depthOnCircle_51 hl (k := 4) rfl rfl (by decide) rfl (fun ls hl => ?_)
            refine lv_goto (tgt := 5) hx hb dX4_depthOnCircle_54 (by decide) ?_
            exact ih v3 (v4 + 1) hf _ _ _ hv (lv_sub hl [1, 2, 3, 4, 0] rfl) hκ
          · replace hf := ite_f hf hc10
            refine lv_iinc (v := v3 + 1) (lv' := [(3, .int (v3 + 1)), (0, .ref aT), (1, .int v1), (2, .int v2), (4, .int v4)]) hx hb dX4_depthOnCircle_48 hl (k := 3) rfl rfl (by decide) rfl (fun ls hl => ?_)
            refine lv_iinc (v := v4 + 1) (lv' := [(4, .int (v4 + 1)), (3, .int (v3 + 1)), (0, .ref aT), (1, .int v1), (2, .int v2)]) hx hb dX4_depthOnCircle_51 hl (k := 4) rfl rfl (by decide) rfl (fun ls hl => ?_)
            refine lv_goto (tgt := 5) hx hb dX4_depthOnCircle_54 (by decide) ?_
            exact ih (v3 + 1) (v4 + 1) hf _ _ _ hv (lv_sub hl [2, 3, 4, 1, 0] rfl) hκ
  unfold f_X4_depthOnCircle at hf
  refine lv_iconst (v := 0) hx hb dX4_depthOnCircle_0 (by decide) ?_
  refine lv_istore_n (lv' := [(3, .int 0), (0, .ref aT), (1, .int p1), (2, .int p2)]) hx hb dX4_depthOnCircle_1 rfl hl (by decide) rfl (fun ls hl => ?_)
  refine lv_iconst (v := 0) hx hb dX4_depthOnCircle_2 (by decide) ?_
  refine lv_istore (lv' := [(4, .int 0), (3, .int 0), (0, .ref aT), (1, .int p1), (2, .int p2)]) hx hb dX4_depthOnCircle_3 hl (by decide) rfl (fun ls hl => ?_)
  refine L5 _ _ _ _ _ _ hf _ _ _ hv (lv_sub hl [2, 3, 4, 1, 0] rfl) (fun v3_11 v4_12 hf H locs ls hv hl => ?_)
  try dsimp only at hf
  refine lv_iload_n hx hb dX4_depthOnCircle_57 rfl (lv_at hl 0 rfl) ?_
  cases hf
  exact kret _ _ _ _ hv dX4_depthOnCircle_58

def f_X4_requireCircle_L24 (k : Nat) (v1 : Int32) (f_added : Int32) (f_presentSet : Int64) (A_begins : Nat → Int32) (A_ends : Nat → Int32) (κ : Int32 → Option (Except String (Unit))) : Nat → Int32 → Option (Except String (Unit))
  | 0, _ => none
  | n + 1, v2 => if f_added ≤ v2 then κ v2 else xb (f_X4_contains k f_presentSet v2) (fun r4 => if r4 = 0 then f_X4_requireCircle_L24 k v1 f_added f_presentSet A_begins A_ends κ n (v2 + 1) else xb (f_X4_lengthOf k v2 A_begins A_ends) (fun r7 => if r7 ≤ v1 then f_X4_requireCircle_L24 k v1 f_added f_presentSet A_begins A_ends κ n (v2 + 1) else some (.error "java/lang/IllegalStateException")))
theorem f_X4_requireCircle_L24_z (k : Nat) (v1 : Int32) (f_added : Int32) (f_presentSet : Int64) (A_begins : Nat → Int32) (A_ends : Nat → Int32) (κ : Int32 → Option (Except String (Unit))) (v2 : Int32) : f_X4_requireCircle_L24 k v1 f_added f_presentSet A_begins A_ends κ 0 v2 = none := rfl
theorem f_X4_requireCircle_L24_s (k : Nat) (v1 : Int32) (f_added : Int32) (f_presentSet : Int64) (A_begins : Nat → Int32) (A_ends : Nat → Int32) (κ : Int32 → Option (Except String (Unit))) (n : Nat) (v2 : Int32) : f_X4_requireCircle_L24 k v1 f_added f_presentSet A_begins A_ends κ (n + 1) v2 = if f_added ≤ v2 then κ v2 else xb (f_X4_contains k f_presentSet v2) (fun r4 => if r4 = 0 then f_X4_requireCircle_L24 k v1 f_added f_presentSet A_begins A_ends κ n (v2 + 1) else xb (f_X4_lengthOf k v2 A_begins A_ends) (fun r7 => if r7 ≤ v1 then f_X4_requireCircle_L24 k v1 f_added f_presentSet A_begins A_ends κ n (v2 + 1) else some (.error "java/lang/IllegalStateException"))) := rfl
def f_X4_requireCircle (k : Nat) (p1 : Int32) (f_added : Int32) (f_presentSet : Int64) (A_begins : Nat → Int32) (A_ends : Nat → Int32) : Option (Except String (Unit)) := if p1 < 1 then some (.error "java/lang/IllegalArgumentException") else if p1 ≤ 1000 then f_X4_requireCircle_L24 k p1 f_added f_presentSet A_begins A_ends (fun (v2_10 : Int32) => some (.ok ())) k 0 else some (.error "java/lang/IllegalArgumentException")
abbrev rm_X4_requireCircle : Room := { frames := 6, cells := 1, slots := 6, locals := 90 }
set_option maxHeartbeats 4000000 in
set_option maxRecDepth 100000 in
theorem c_X4_requireCircle (l : Launch) (hl9 : l.stackTraces = false) (G : va_G) (cy : ClassId × ClassId × ClassId) (k : Nat) (aT aT_begins aT_ends aT_weights aT_givenRooms aT_oneRoom aT_manyRooms : Nat) (f_added : Int32) (f_presentSet : Int64) (f_factor : Int32) (f_offeredSet : Int64) (f_acceptedSet : Int64) (f_dropped : Int32) (A_begins : Nat → Int32) (A_ends : Nat → Int32) (p1 : Int32) {o : Except String (Unit)} (hf : f_X4_requireCircle k p1 f_added f_presentSet A_begins A_ends = some o) : Xv l yX4_requireCircle wsX4_requireCircle rm_X4_requireCircle 1 6 G cy [.ref aT, .int p1] [(aT, .inr (4, [.ref aT_begins, .ref aT_ends, .ref aT_weights, .int f_added, .long f_presentSet, .int f_factor, .long f_offeredSet, .long f_acceptedSet, .int f_dropped, .ref aT_givenRooms, .ref aT_oneRoom, .ref aT_manyRooms])), (aT_begins, .inl (cy.1, 40, .inl A_begins)), (aT_ends, .inl (cy.1, 40, .inl A_ends))] (kmo (fun (_ : Unit) => [(aT, .inr (4, [.ref aT_begins, .ref aT_ends, .ref aT_weights, .int f_added, .long f_presentSet, .int f_factor, .long f_offeredSet, .long f_acceptedSet, .int f_dropped, .ref aT_givenRooms, .ref aT_oneRoom, .ref aT_manyRooms])), (aT_begins, .inl (cy.1, 40, .inl A_begins)), (aT_ends, .inl (cy.1, 40, .inl A_ends))]) o) := by
  refine kMetXV (cc := cX4_requireCircle) (maxL := 3) (by decide) rfl (Nat.le_of_ble_eq_true rfl) ?_
  intro p e s m args below meth c Q A ls Qc hx hb hml hts hown hv hl kret hT htab hlocks
  replace hown : s.vm.findClass RX4 = some m.cls := hown
  replace hl : lv_has ls 3 [(0, .ref aT), (1, .int p1)] := hl
  have hk53 : (Cond.fieldLink RX4 53 "Roomcolour" "added" "I").before args s = true := hts _ (by decide +kernel)
  have hinX4 : ∀ w ∈ wsX40, w ∈ wsX4_requireCircle := by decide +kernel
  have hk61 : (Cond.fieldLink RX4 61 "Roomcolour" "presentSet" "J").before args s = true := hts _ (by decide +kernel)
  have L24 : ∀ (v1 : Int32) (κ : Int32 → Option (Except String (Unit))) (n : Nat) (v2 : Int32), f_X4_requireCircle_L24 k v1 f_added f_presentSet A_begins A_ends κ n v2 = some o → ∀ (H : Heap) (locs : List Loc) (ls : Array Slot), Hv s H locs G cy A [(aT, .inr (4, [.ref aT_begins, .ref aT_ends, .ref aT_weights, .int f_added, .long f_presentSet, .int f_factor, .long f_offeredSet, .long f_acceptedSet, .int f_dropped, .ref aT_givenRooms, .ref aT_oneRoom, .ref aT_manyRooms])), (aT_begins, .inl (cy.1, 40, .inl A_begins)), (aT_ends, .inl (cy.1, 40, .inl A_ends))] → lv_has ls 3 [(0, .ref aT), (1, .int v1), (2, .int v2)] → (∀ (v2 : Int32), κ v2 = some o → ∀ (H : Heap) (locs : List Loc) (ls : Array Slot), Hv s H locs G cy A [(aT, .inr (4, [.ref aT_begins, .ref aT_ends, .ref aT_weights, .int f_added, .long f_presentSet, .int f_factor, .long f_offeredSet, .long f_acceptedSet, .int f_dropped, .ref aT_givenRooms, .ref aT_oneRoom, .ref aT_manyRooms])), (aT_begins, .inl (cy.1, 40, .inl A_begins)), (aT_ends, .inl (cy.1, 40, .inl A_ends))] → lv_has ls 3 [] → W p l e rm_X4_requireCircle s m args below meth c H locs 0 0 Q (F0 m 68 ls [])) → W p l e rm_X4_requireCircle s m args below meth c H locs 0 0 Q (F0 m 24 ls []) := by
    intro v1 κ n
    induction n with
    | zero =>
      intro v2 hf
      rw [f_X4_requireCircle_L24_z] at hf
      cases hf
    | succ n ih =>
      intro v2 hf H locs ls hv hl hκ
      rw [f_X4_requireCircle_L24_s] at hf
      refine lv_iload_n hx hb dX4_requireCircle_24 rfl (lv_at hl 2 rfl) ?_
      refine lv_aload_n hx hb dX4_requireCircle_25 rfl (lv_at hl 0 rfl) ?_
      refine kGet (v := .int f_added) (C := RX4) (T := TX4) (N := 12) hx hb hts hinX4 hown hv 0 rfl rfl 3 (by decide) hk53 (fun _ h9 => h9) rfl dX4_requireCircle_26 ?_
      refine lv_icmp_ge (tgt := 68) hx hb dX4_requireCircle_29 (by decide) (fun hc3 => ?_) (fun hc3 => ?_)
      · replace hf := ite_t hf hc3
        exact hκ v2 hf _ _ _ hv (lv_sub hl [] rfl)
      · replace hf := ite_f hf hc3
        refine lv_aload_n hx hb dX4_requireCircle_32 rfl (lv_at hl 0 rfl) ?_
        refine kGet (v := .long f_presentSet) (C := RX4) (T := TX4) (N := 12) hx hb hts hinX4 hown hv 0 rfl rfl 4 (by decide) hk61 (fun _ h9 => h9) rfl dX4_requireCircle_33 ?_
        refine lv_iload_n hx hb dX4_requireCircle_36 rfl (lv_at hl 2 rfl) ?_
        obtain ⟨r4, hcl5, hf⟩ := xb_some hf
        refine kS_i (r := r4) ⟨hx, hb, hml, hown, hts⟩ (c_X4_contains l G cy k f_presentSet v2 hcl5) (va_cwS 2 hts gX4_requireCircle_X4_contains rfl rfl rfl (by decide +kernel) ⟨Nat.le_of_ble_eq_true rfl, Nat.le_of_ble_eq_true rfl⟩) hv rfl hl.1 rfl (Nat.le_of_ble_eq_true rfl) dX4_requireCircle_37 ⟨Nat.le_of_ble_eq_true rfl, Nat.le_of_ble_eq_true rfl⟩ (fun H locs hv => ?_)
        refine lv_if_eq (tgt := 62) hx hb dX4_requireCircle_40 (by decide) (fun hc6 => ?_) (fun hc6 => ?_)
        · replace hf := ite_t hf hc6
          refine lv_iinc (v := v2 + 1) (lv' := [(2, .int (v2 + 1)), (0, .ref aT), (1, .int v1)]) hx hb dX4_requireCircle_62 hl (k := 2) rfl rfl (by decide) rfl (fun ls hl => ?_)
          refine lv_goto (tgt := 24) hx hb dX4_requireCircle_65 (by decide) ?_
          exact ih (v2 + 1) hf _ _ _ hv (lv_sub hl [1, 2, 0] rfl) hκ
        · replace hf := ite_f hf hc6
          refine lv_aload_n hx hb dX4_requireCircle_43 rfl (lv_at hl 0 rfl) ?_
          refine lv_iload_n hx hb dX4_requireCircle_44 rfl (lv_at hl 2 rfl) ?_
          obtain ⟨r7, hcl8, hf⟩ := xb_some hf
          refine kV_i (r := r7) (wr := []) (w2 := [(aT, .inr (4, [.ref aT_begins, .ref aT_ends, .ref aT_weights, .int f_added, .long f_presentSet, .int f_factor, .long f_offeredSet, .long f_acceptedSet, .int f_dropped, .ref aT_givenRooms, .ref aT_oneRoom, .ref aT_manyRooms])), (aT_begins, .inl (cy.1, 40, .inl A_begins)), (aT_ends, .inl (cy.1, 40, .inl A_ends))]) ⟨hx, hb, hml, hown, hts⟩ (c_X4_lengthOf l G cy k aT aT_begins aT_ends aT_weights aT_givenRooms aT_oneRoom aT_manyRooms f_added f_presentSet f_factor f_offeredSet f_acceptedSet f_dropped A_begins A_ends v2 hcl8) (cwV 1 hts gX4_requireCircle_X4_lengthOf rfl rfl rfl (by decide +kernel) ⟨Nat.le_of_ble_eq_true rfl, Nat.le_of_ble_eq_true rfl⟩) hv (isC := [0, 1, 2]) ⟨rfl, rfl⟩ (hv.recv 4 0 rfl rfl) [] [0, 1, 2] rfl rfl (by decide) rfl rfl rfl hl.1 rfl (Nat.le_of_ble_eq_true rfl) dX4_requireCircle_45 ⟨Nat.le_of_ble_eq_true rfl, Nat.le_of_ble_eq_true rfl⟩ (fun H locs hv => ?_)
          refine lv_iload_n hx hb dX4_requireCircle_48 rfl (lv_at hl 1 rfl) ?_
          refine lv_icmp_le (tgt := 62) hx hb dX4_requireCircle_49 (by decide) (fun hc9 => ?_) (fun hc9 => ?_)
          · replace hf := ite_t hf hc9
            refine lv_iinc (v := v2 + 1) (lv' := [(2, .int (v2 + 1)), (0, .ref aT), (1, .int v1)]) hx hb dX4_requireCircle_62 hl (k := 2) rfl rfl (by decide) rfl (fun ls hl => ?_)
            refine lv_goto (tgt := 24) hx hb dX4_requireCircle_65 (by decide) ?_
            exact ih (v2 + 1) hf _ _ _ hv (lv_sub hl [1, 2, 0] rfl) hκ
          · replace hf := ite_f hf hc9
            cases hf
            exact kThrow hx hb hl9 hts hown hv hT htab hlocks (by rw [hml]; exact hl.1) (cls := "java/lang/IllegalStateException") (text := "an interval is longer than the period") (ik := 56) (is := 186) (ic := 60) rfl (by decide +kernel) (by decide +kernel) (by decide +kernel) (by decide +kernel) (by decide +kernel) (by decide +kernel) (by decide +kernel) dX4_requireCircle_52 dX4_requireCircle_55 dX4_requireCircle_56 dX4_requireCircle_58 dX4_requireCircle_61 (by decide) (by decide) (by decide) (by decide) (by decide) (by decide)
  unfold f_X4_requireCircle at hf
  refine lv_iload_n hx hb dX4_requireCircle_0 rfl (lv_at hl 1 rfl) ?_
  refine lv_iconst (v := 1) hx hb dX4_requireCircle_1 (by decide) ?_
  refine lv_icmp_lt (tgt := 12) hx hb dX4_requireCircle_2 (by decide) (fun hc1 => ?_) (fun hc1 => ?_)
  · replace hf := ite_t hf hc1
    cases hf
    exact kThrow hx hb hl9 hts hown hv hT htab hlocks (by rw [hml]; exact hl.1) (cls := "java/lang/IllegalArgumentException") (text := "period is out of range") (ik := 44) (is := 184) (ic := 48) rfl (by decide +kernel) (by decide +kernel) (by decide +kernel) (by decide +kernel) (by decide +kernel) (by decide +kernel) (by decide +kernel) dX4_requireCircle_12 dX4_requireCircle_15 dX4_requireCircle_16 dX4_requireCircle_18 dX4_requireCircle_21 (by decide) (by decide) (by decide) (by decide) (by decide) (by decide)
  · replace hf := ite_f hf hc1
    refine lv_iload_n hx hb dX4_requireCircle_5 rfl (lv_at hl 1 rfl) ?_
    refine lv_sipush (v := 1000) hx hb dX4_requireCircle_6 (by decide) ?_
    refine lv_icmp_le (tgt := 22) hx hb dX4_requireCircle_9 (by decide) (fun hc2 => ?_) (fun hc2 => ?_)
    · replace hf := ite_t hf hc2
      refine lv_iconst (v := 0) hx hb dX4_requireCircle_22 (by decide) ?_
      refine lv_istore_n (lv' := [(2, .int 0), (0, .ref aT), (1, .int p1)]) hx hb dX4_requireCircle_23 rfl hl (by decide) rfl (fun ls hl => ?_)
      refine L24 _ _ _ _ hf _ _ _ hv (lv_sub hl [1, 2, 0] rfl) (fun v2_10 hf H locs ls hv hl => ?_)
      try dsimp only at hf
      cases hf
      refine W.widen (k := 1) (n := 6) (by omega) (by omega) ?_
      exact kret _ _ _ _ _ rfl hv dX4_requireCircle_68
    · replace hf := ite_f hf hc2
      cases hf
      exact kThrow hx hb hl9 hts hown hv hT htab hlocks (by rw [hml]; exact hl.1) (cls := "java/lang/IllegalArgumentException") (text := "period is out of range") (ik := 44) (is := 184) (ic := 48) rfl (by decide +kernel) (by decide +kernel) (by decide +kernel) (by decide +kernel) (by decide +kernel) (by decide +kernel) (by decide +kernel) dX4_requireCircle_12 dX4_requireCircle_15 dX4_requireCircle_16 dX4_requireCircle_18 dX4_requireCircle_21 (by decide) (by decide) (by decide) (by decide) (by decide) (by decide)

def f_X4_depthRound_L9 (k : Nat) (v1 : Int32) (f_added : Int32) (f_presentSet : Int64) (A_begins : Nat → Int32) (A_ends : Nat → Int32) (κ : Int32 → Int32 → Option (Except String (Int32))) : Nat → Int32 → Int32 → Option (Except String (Int32))
  | 0, _, _ => none
  | n + 1, v2, v3 => if f_added ≤ v3 then κ v2 v3 else xb (f_X4_contains k f_presentSet v3) (fun r3 => if r3 = 0 then f_X4_depthRound_L9 k v1 f_added f_presentSet A_begins A_ends κ n v2 (v3 + 1) else xi v3 40 (xb (f_X4_depthOnCircle k (A_begins v3.toNatClampNeg) v1 f_added f_presentSet A_begins A_ends) (fun r7 => f_X4_depthRound_L9 k v1 f_added f_presentSet A_begins A_ends κ n (if v2 < r7 then r7 else v2) (v3 + 1))))
theorem f_X4_depthRound_L9_z (k : Nat) (v1 : Int32) (f_added : Int32) (f_presentSet : Int64) (A_begins : Nat → Int32) (A_ends : Nat → Int32) (κ : Int32 → Int32 → Option (Except String (Int32))) (v2 : Int32) (v3 : Int32) : f_X4_depthRound_L9 k v1 f_added f_presentSet A_begins A_ends κ 0 v2 v3 = none := rfl
theorem f_X4_depthRound_L9_s (k : Nat) (v1 : Int32) (f_added : Int32) (f_presentSet : Int64) (A_begins : Nat → Int32) (A_ends : Nat → Int32) (κ : Int32 → Int32 → Option (Except String (Int32))) (n : Nat) (v2 : Int32) (v3 : Int32) : f_X4_depthRound_L9 k v1 f_added f_presentSet A_begins A_ends κ (n + 1) v2 v3 = if f_added ≤ v3 then κ v2 v3 else xb (f_X4_contains k f_presentSet v3) (fun r3 => if r3 = 0 then f_X4_depthRound_L9 k v1 f_added f_presentSet A_begins A_ends κ n v2 (v3 + 1) else xi v3 40 (xb (f_X4_depthOnCircle k (A_begins v3.toNatClampNeg) v1 f_added f_presentSet A_begins A_ends) (fun r7 => f_X4_depthRound_L9 k v1 f_added f_presentSet A_begins A_ends κ n (if v2 < r7 then r7 else v2) (v3 + 1)))) := rfl
def f_X4_depthRound (k : Nat) (p1 : Int32) (f_added : Int32) (f_presentSet : Int64) (A_begins : Nat → Int32) (A_ends : Nat → Int32) : Option (Except String (Int32)) := xe (f_X4_requireCircle k p1 f_added f_presentSet A_begins A_ends) (fun _ => f_X4_depthRound_L9 k p1 f_added f_presentSet A_begins A_ends (fun (v2_9 : Int32) (v3_10 : Int32) => some (.ok v2_9)) k 0 0)
abbrev rm_X4_depthRound : Room := { frames := 7, cells := 1, slots := 6, locals := 112 }
set_option maxHeartbeats 4000000 in
set_option maxRecDepth 100000 in
theorem c_X4_depthRound (l : Launch) (hl9 : l.stackTraces = false) (G : va_G) (cy : ClassId × ClassId × ClassId) (k : Nat) (aT aT_begins aT_ends aT_weights aT_givenRooms aT_oneRoom aT_manyRooms : Nat) (f_added : Int32) (f_presentSet : Int64) (f_factor : Int32) (f_offeredSet : Int64) (f_acceptedSet : Int64) (f_dropped : Int32) (A_begins : Nat → Int32) (A_ends : Nat → Int32) (p1 : Int32) {o : Except String (Int32)} (hf : f_X4_depthRound k p1 f_added f_presentSet A_begins A_ends = some o) : Xi l yX4_depthRound wsX4_depthRound rm_X4_depthRound 1 6 G cy [.ref aT, .int p1] [(aT, .inr (4, [.ref aT_begins, .ref aT_ends, .ref aT_weights, .int f_added, .long f_presentSet, .int f_factor, .long f_offeredSet, .long f_acceptedSet, .int f_dropped, .ref aT_givenRooms, .ref aT_oneRoom, .ref aT_manyRooms])), (aT_begins, .inl (cy.1, 40, .inl A_begins)), (aT_ends, .inl (cy.1, 40, .inl A_ends))] (kmo (fun (q : Int32) => (q, [(aT, .inr (4, [.ref aT_begins, .ref aT_ends, .ref aT_weights, .int f_added, .long f_presentSet, .int f_factor, .long f_offeredSet, .long f_acceptedSet, .int f_dropped, .ref aT_givenRooms, .ref aT_oneRoom, .ref aT_manyRooms])), (aT_begins, .inl (cy.1, 40, .inl A_begins)), (aT_ends, .inl (cy.1, 40, .inl A_ends))])) o) := by
  refine kMetXI (cc := cX4_depthRound) (maxL := 4) (by decide) rfl (Nat.le_of_ble_eq_true rfl) ?_
  intro p e s m args below meth c Q A ls Qc hx hb hml hts hown hv hl kret hT htab hlocks
  replace hown : s.vm.findClass RX4 = some m.cls := hown
  replace hl : lv_has ls 4 [(0, .ref aT), (1, .int p1)] := hl
  have hk53 : (Cond.fieldLink RX4 53 "Roomcolour" "added" "I").before args s = true := hts _ (by decide +kernel)
  have hinX4 : ∀ w ∈ wsX40, w ∈ wsX4_depthRound := by decide +kernel
  have hk61 : (Cond.fieldLink RX4 61 "Roomcolour" "presentSet" "J").before args s = true := hts _ (by decide +kernel)
  have hk9 : (Cond.fieldLink RX4 9 "Roomcolour" "begins" "[I").before args s = true := hts _ (by decide +kernel)
  have hm166a : (Cond.methodLink RX4 166 Lib.Math.max.name).before args s = true := hts _ (by decide +kernel)
  have hm166b : (Cond.static Lib.Math.max.name).before args s = true := hts _ (by decide +kernel)
  have hm166c : (Cond.initialized "java/lang/Math").before args s = true := hts _ (by decide +kernel)
  have hm166d : (Cond.code Lib.Math.max.name Lib.Math.max.code 2 (some .int)).before args s = true := hts _ (by decide +kernel)
  have L9 : ∀ (v1 : Int32) (κ : Int32 → Int32 → Option (Except String (Int32))) (n : Nat) (v2 : Int32) (v3 : Int32), f_X4_depthRound_L9 k v1 f_added f_presentSet A_begins A_ends κ n v2 v3 = some o → ∀ (H : Heap) (locs : List Loc) (ls : Array Slot), Hv s H locs G cy A [(aT, .inr (4, [.ref aT_begins, .ref aT_ends, .ref aT_weights, .int f_added, .long f_presentSet, .int f_factor, .long f_offeredSet, .long f_acceptedSet, .int f_dropped, .ref aT_givenRooms, .ref aT_oneRoom, .ref aT_manyRooms])), (aT_begins, .inl (cy.1, 40, .inl A_begins)), (aT_ends, .inl (cy.1, 40, .inl A_ends))] → lv_has ls 4 [(0, .ref aT), (1, .int v1), (2, .int v2), (3, .int v3)] → (∀ (v2 : Int32) (v3 : Int32), κ v2 v3 = some o → ∀ (H : Heap) (locs : List Loc) (ls : Array Slot), Hv s H locs G cy A [(aT, .inr (4, [.ref aT_begins, .ref aT_ends, .ref aT_weights, .int f_added, .long f_presentSet, .int f_factor, .long f_offeredSet, .long f_acceptedSet, .int f_dropped, .ref aT_givenRooms, .ref aT_oneRoom, .ref aT_manyRooms])), (aT_begins, .inl (cy.1, 40, .inl A_begins)), (aT_ends, .inl (cy.1, 40, .inl A_ends))] → lv_has ls 4 [(2, .int v2)] → W p l e rm_X4_depthRound s m args below meth c H locs 1 6 Q (F0 m 50 ls [])) → W p l e rm_X4_depthRound s m args below meth c H locs 1 6 Q (F0 m 9 ls []) := by
    intro v1 κ n
    induction n with
    | zero =>
      intro v2 v3 hf
      rw [f_X4_depthRound_L9_z] at hf
      cases hf
    | succ n ih =>
      intro v2 v3 hf H locs ls hv hl hκ
      rw [f_X4_depthRound_L9_s] at hf
      refine lv_iload_n hx hb dX4_depthRound_9 rfl (lv_at hl 3 rfl) ?_
      refine lv_aload_n hx hb dX4_depthRound_10 rfl (lv_at hl 0 rfl) ?_
      refine kGet (v := .int f_added) (C := RX4) (T := TX4) (N := 12) hx hb hts hinX4 hown hv 0 rfl rfl 3 (by decide) hk53 (fun _ h9 => h9) rfl dX4_depthRound_11 ?_
      refine lv_icmp_ge (tgt := 50) hx hb dX4_depthRound_14 (by decide) (fun hc2 => ?_) (fun hc2 => ?_)
      · replace hf := ite_t hf hc2
        exact hκ v2 v3 hf _ _ _ hv (lv_sub hl [2] rfl)
      · replace hf := ite_f hf hc2
        refine lv_aload_n hx hb dX4_depthRound_17 rfl (lv_at hl 0 rfl) ?_
        refine kGet (v := .long f_presentSet) (C := RX4) (T := TX4) (N := 12) hx hb hts hinX4 hown hv 0 rfl rfl 4 (by decide) hk61 (fun _ h9 => h9) rfl dX4_depthRound_18 ?_
        refine lv_iload_n hx hb dX4_depthRound_21 rfl (lv_at hl 3 rfl) ?_
        obtain ⟨r3, hcl4, hf⟩ := xb_some hf
        refine kS_i (r := r3) ⟨hx, hb, hml, hown, hts⟩ (c_X4_contains l G cy k f_presentSet v3 hcl4) (va_cwS 2 hts gX4_depthRound_X4_contains rfl rfl rfl (by decide +kernel) ⟨Nat.le_of_ble_eq_true rfl, Nat.le_of_ble_eq_true rfl⟩) hv rfl hl.1 rfl (Nat.le_of_ble_eq_true rfl) dX4_depthRound_22 ⟨Nat.le_of_ble_eq_true rfl, Nat.le_of_ble_eq_true rfl⟩ (fun H locs hv => ?_)
        refine lv_if_eq (tgt := 44) hx hb dX4_depthRound_25 (by decide) (fun hc5 => ?_) (fun hc5 => ?_)
        · replace hf := ite_t hf hc5
          refine lv_iinc (v := v3 + 1) (lv' := [(3, .int (v3 + 1)), (0, .ref aT), (1, .int v1), (2, .int v2)]) hx hb dX4_depthRound_44 hl (k := 3) rfl rfl (by decide) rfl (fun ls hl => ?_)
          refine lv_goto (tgt := 9) hx hb dX4_depthRound_47 (by decide) ?_
          exact ih v2 (v3 + 1) hf _ _ _ hv (lv_sub hl [1, 2, 3, 0] rfl) hκ
        · replace hf := ite_f hf hc5
          refine lv_iload_n hx hb dX4_depthRound_28 rfl (lv_at hl 2 rfl) ?_
          refine lv_aload_n hx hb dX4_depthRound_29 rfl (lv_at hl 0 rfl) ?_
          refine lv_aload_n hx hb dX4_depthRound_30 rfl (lv_at hl 0 rfl) ?_
          refine kGet (v := .ref aT_begins) (C := RX4) (T := TX4) (N := 12) hx hb hts hinX4 hown hv 0 rfl rfl 0 (by decide) hk9 (fun _ h9 => h9) rfl dX4_depthRound_31 ?_
          refine lv_iload_n hx hb dX4_depthRound_34 rfl (lv_at hl 3 rfl) ?_
          obtain ⟨hi6, hf⟩ := xi_some hf
          refine kIald hx hb hv 1 rfl hi6 dX4_depthRound_35 ?_
          refine lv_iload_n hx hb dX4_depthRound_36 rfl (lv_at hl 1 rfl) ?_
          obtain ⟨r7, hcl8, hf⟩ := xb_some hf
          refine kV_i (r := r7) (wr := []) (w2 := [(aT, .inr (4, [.ref aT_begins, .ref aT_ends, .ref aT_weights, .int f_added, .long f_presentSet, .int f_factor, .long f_offeredSet, .long f_acceptedSet, .int f_dropped, .ref aT_givenRooms, .ref aT_oneRoom, .ref aT_manyRooms])), (aT_begins, .inl (cy.1, 40, .inl A_begins)), (aT_ends, .inl (cy.1, 40, .inl A_ends))]) ⟨hx, hb, hml, hown, hts⟩ (c_X4_depthOnCircle l G cy k aT aT_begins aT_ends aT_weights aT_givenRooms aT_oneRoom aT_manyRooms f_added f_presentSet f_factor f_offeredSet f_acceptedSet f_dropped A_begins A_ends (A_begins v3.toNatClampNeg) v1 hcl8) (cwV 2 hts gX4_depthRound_X4_depthOnCircle rfl rfl rfl (by decide +kernel) ⟨Nat.le_of_ble_eq_true rfl, Nat.le_of_ble_eq_true rfl⟩) hv (isC := [0, 1, 2]) ⟨rfl, rfl⟩ (hv.recv 4 0 rfl rfl) [] [0, 1, 2] rfl rfl (by decide) rfl rfl rfl hl.1 rfl (Nat.le_of_ble_eq_true rfl) dX4_depthRound_37 ⟨Nat.le_of_ble_eq_true rfl, Nat.le_of_ble_eq_true rfl⟩ (fun H locs hv => ?_)
          refine va_mmax hx hb (by rw [hml]; exact hl.1.symm) hown hm166a hm166b hm166c hm166d (Nat.le_of_ble_eq_true rfl) (Nat.le_of_ble_eq_true rfl) (Nat.le_of_ble_eq_true rfl) (Nat.le_of_ble_eq_true rfl) dX4_depthRound_40 ?_
          refine lv_istore_n (lv' := [(2, .int (if v2 < r7 then r7 else v2)), (0, .ref aT), (1, .int v1), (3, .int v3)]) hx hb dX4_depthRound_43 rfl hl (by decide) rfl (fun ls hl => ?_)
          refine lv_iinc (v := v3 + 1) (lv' := [(3, .int (v3 + 1)), (2, .int (if v2 < r7 then r7 else v2)), (0, .ref aT), (1, .int v1)]) hx hb dX4_depthRound_44 hl (k := 3) rfl rfl (by decide) rfl (fun ls hl => ?_)
          refine lv_goto (tgt := 9) hx hb dX4_depthRound_47 (by decide) ?_
          exact ih (if v2 < r7 then r7 else v2) (v3 + 1) hf _ _ _ hv (lv_sub hl [2, 3, 1, 0] rfl) hκ
  unfold f_X4_depthRound at hf
  refine lv_aload_n hx hb dX4_depthRound_0 rfl (lv_at hl 0 rfl) ?_
  refine lv_iload_n hx hb dX4_depthRound_1 rfl (lv_at hl 1 rfl) ?_
  rcases xe_some hf with ⟨E11, hcl1, hf⟩ | ⟨_, hcl1, hf⟩
  · cases hf
    refine kXV_vE (E := E11) (wc := [(aT, .inr (4, [.ref aT_begins, .ref aT_ends, .ref aT_weights, .int f_added, .long f_presentSet, .int f_factor, .long f_offeredSet, .long f_acceptedSet, .int f_dropped, .ref aT_givenRooms, .ref aT_oneRoom, .ref aT_manyRooms])), (aT_begins, .inl (cy.1, 40, .inl A_begins)), (aT_ends, .inl (cy.1, 40, .inl A_ends))]) ⟨hx, hb, hml, hown, hts⟩ (c_X4_requireCircle l hl9 G cy k aT aT_begins aT_ends aT_weights aT_givenRooms aT_oneRoom aT_manyRooms f_added f_presentSet f_factor f_offeredSet f_acceptedSet f_dropped A_begins A_ends p1 hcl1) (cwV 1 hts gX4_depthRound_X4_requireCircle rfl rfl rfl (by decide +kernel) ⟨Nat.le_of_ble_eq_true rfl, Nat.le_of_ble_eq_true rfl⟩) hv (isC := [0, 1, 2]) ⟨rfl, rfl⟩ (hv.recv 4 0 rfl rfl) rfl hl.1 rfl (Nat.le_of_ble_eq_true rfl) dX4_depthRound_2 ⟨Nat.le_of_ble_eq_true rfl, Nat.le_of_ble_eq_true rfl⟩ (fun ce q9 H locs hv hce hcv hcl => ?_)
    exact kOut hv hT htab hlocks rfl hce hcv hcl (by decide) (by decide)
  · refine kXV_v (wc := [(aT, .inr (4, [.ref aT_begins, .ref aT_ends, .ref aT_weights, .int f_added, .long f_presentSet, .int f_factor, .long f_offeredSet, .long f_acceptedSet, .int f_dropped, .ref aT_givenRooms, .ref aT_oneRoom, .ref aT_manyRooms])), (aT_begins, .inl (cy.1, 40, .inl A_begins)), (aT_ends, .inl (cy.1, 40, .inl A_ends))]) (wc' := [(aT, .inr (4, [.ref aT_begins, .ref aT_ends, .ref aT_weights, .int f_added, .long f_presentSet, .int f_factor, .long f_offeredSet, .long f_acceptedSet, .int f_dropped, .ref aT_givenRooms, .ref aT_oneRoom, .ref aT_manyRooms])), (aT_begins, .inl (cy.1, 40, .inl A_begins)), (aT_ends, .inl (cy.1, 40, .inl A_ends))]) (wr := []) (w2 := [(aT, .inr (4, [.ref aT_begins, .ref aT_ends, .ref aT_weights, .int f_added, .long f_presentSet, .int f_factor, .long f_offeredSet, .long f_acceptedSet, .int f_dropped, .ref aT_givenRooms, .ref aT_oneRoom, .ref aT_manyRooms])), (aT_begins, .inl (cy.1, 40, .inl A_begins)), (aT_ends, .inl (cy.1, 40, .inl A_ends))]) ⟨hx, hb, hml, hown, hts⟩ (c_X4_requireCircle l hl9 G cy k aT aT_begins aT_ends aT_weights aT_givenRooms aT_oneRoom aT_manyRooms f_added f_presentSet f_factor f_offeredSet f_acceptedSet f_dropped A_begins A_ends p1 hcl1) (cwV 1 hts gX4_depthRound_X4_requireCircle rfl rfl rfl (by decide +kernel) ⟨Nat.le_of_ble_eq_true rfl, Nat.le_of_ble_eq_true rfl⟩) hv (isC := [0, 1, 2]) ⟨rfl, rfl⟩ (hv.recv 4 0 rfl rfl) [] [0, 1, 2] rfl rfl (by decide) rfl rfl rfl hl.1 rfl (Nat.le_of_ble_eq_true rfl) dX4_depthRound_2 ⟨Nat.le_of_ble_eq_true rfl, Nat.le_of_ble_eq_true rfl⟩ (fun H locs hv => ?_)
    refine lv_iconst (v := 0) hx hb dX4_depthRound_5 (by decide) ?_
    refine lv_istore_n (lv' := [(2, .int 0), (0, .ref aT), (1, .int p1)]) hx hb dX4_depthRound_6 rfl hl (by decide) rfl (fun ls hl => ?_)
    refine lv_iconst (v := 0) hx hb dX4_depthRound_7 (by decide) ?_
    refine lv_istore_n (lv' := [(3, .int 0), (2, .int 0), (0, .ref aT), (1, .int p1)]) hx hb dX4_depthRound_8 rfl hl (by decide) rfl (fun ls hl => ?_)
    refine L9 _ _ _ _ _ hf _ _ _ hv (lv_sub hl [2, 3, 1, 0] rfl) (fun v2_9 v3_10 hf H locs ls hv hl => ?_)
    try dsimp only at hf
    refine lv_iload_n hx hb dX4_depthRound_50 rfl (lv_at hl 0 rfl) ?_
    cases hf
    exact kret _ _ _ _ _ _ rfl hv dX4_depthRound_51

def f_X4_droppedWeight (k : Nat) (f_dropped : Int32) : Option (Int32) := some f_dropped
abbrev rm_X4_droppedWeight : Room := { frames := 0, cells := 0, slots := 0, locals := 0 }
set_option maxHeartbeats 4000000 in
set_option maxRecDepth 100000 in
theorem c_X4_droppedWeight (l : Launch) (G : va_G) (cy : ClassId × ClassId × ClassId) (k : Nat) (aT aT_begins aT_ends aT_weights aT_givenRooms aT_oneRoom aT_manyRooms : Nat) (f_added : Int32) (f_presentSet : Int64) (f_factor : Int32) (f_offeredSet : Int64) (f_acceptedSet : Int64) (f_dropped : Int32) {r : Int32} (hf : f_X4_droppedWeight k f_dropped = some r) : Ci l yX4_droppedWeight wsX4_droppedWeight rm_X4_droppedWeight 0 0 G cy [.ref aT] [(aT, .inr (4, [.ref aT_begins, .ref aT_ends, .ref aT_weights, .int f_added, .long f_presentSet, .int f_factor, .long f_offeredSet, .long f_acceptedSet, .int f_dropped, .ref aT_givenRooms, .ref aT_oneRoom, .ref aT_manyRooms]))] [(aT, .inr (4, [.ref aT_begins, .ref aT_ends, .ref aT_weights, .int f_added, .long f_presentSet, .int f_factor, .long f_offeredSet, .long f_acceptedSet, .int f_dropped, .ref aT_givenRooms, .ref aT_oneRoom, .ref aT_manyRooms]))] r := by
  refine kMetI (cc := cX4_droppedWeight) (maxL := 1) (by decide) rfl (Nat.le_of_ble_eq_true rfl) ?_
  intro p e s m args below meth c Q A ls hx hb hml hts hown hv hl kret
  replace hown : s.vm.findClass RX4 = some m.cls := hown
  replace hl : lv_has ls 1 [(0, .ref aT)] := hl
  have hk151 : (Cond.fieldLink RX4 151 "Roomcolour" "dropped" "I").before args s = true := hts _ (by decide +kernel)
  have hinX4 : ∀ w ∈ wsX40, w ∈ wsX4_droppedWeight := by decide +kernel
  unfold f_X4_droppedWeight at hf
  refine lv_aload_n hx hb dX4_droppedWeight_0 rfl (lv_at hl 0 rfl) ?_
  refine kGet (v := .int f_dropped) (C := RX4) (T := TX4) (N := 12) hx hb hts hinX4 hown hv 0 rfl rfl 8 (by decide) hk151 (fun _ h9 => h9) rfl dX4_droppedWeight_1 ?_
  cases hf
  exact kret _ _ _ _ hv dX4_droppedWeight_4

def f_X4_fits_L23 (k : Nat) (v1 : Int32) (v2 : Int32) (v3 : Int32) (f_added : Int32) (f_presentSet : Int64) (A_begins : Nat → Int32) (A_ends : Nat → Int32) (κ : Int32 → Option (Int32)) : Nat → Int32 → Option (Int32)
  | 0, _ => none
  | n + 1, v4 => if f_added ≤ v4 then κ v4 else xi v4 40 (if (A_begins v4.toNatClampNeg) ≤ v1 then f_X4_fits_L23 k v1 v2 v3 f_added f_presentSet A_begins A_ends κ n (v4 + 1) else if (v1 + v2) ≤ (A_begins v4.toNatClampNeg) then f_X4_fits_L23 k v1 v2 v3 f_added f_presentSet A_begins A_ends κ n (v4 + 1) else xb (f_X4_depthAt k (A_begins v4.toNatClampNeg) f_added f_presentSet A_begins A_ends) (fun r9 => if r9 < v3 then f_X4_fits_L23 k v1 v2 v3 f_added f_presentSet A_begins A_ends κ n (v4 + 1) else some 0))
theorem f_X4_fits_L23_z (k : Nat) (v1 : Int32) (v2 : Int32) (v3 : Int32) (f_added : Int32) (f_presentSet : Int64) (A_begins : Nat → Int32) (A_ends : Nat → Int32) (κ : Int32 → Option (Int32)) (v4 : Int32) : f_X4_fits_L23 k v1 v2 v3 f_added f_presentSet A_begins A_ends κ 0 v4 = none := rfl
theorem f_X4_fits_L23_s (k : Nat) (v1 : Int32) (v2 : Int32) (v3 : Int32) (f_added : Int32) (f_presentSet : Int64) (A_begins : Nat → Int32) (A_ends : Nat → Int32) (κ : Int32 → Option (Int32)) (n : Nat) (v4 : Int32) : f_X4_fits_L23 k v1 v2 v3 f_added f_presentSet A_begins A_ends κ (n + 1) v4 = if f_added ≤ v4 then κ v4 else xi v4 40 (if (A_begins v4.toNatClampNeg) ≤ v1 then f_X4_fits_L23 k v1 v2 v3 f_added f_presentSet A_begins A_ends κ n (v4 + 1) else if (v1 + v2) ≤ (A_begins v4.toNatClampNeg) then f_X4_fits_L23 k v1 v2 v3 f_added f_presentSet A_begins A_ends κ n (v4 + 1) else xb (f_X4_depthAt k (A_begins v4.toNatClampNeg) f_added f_presentSet A_begins A_ends) (fun r9 => if r9 < v3 then f_X4_fits_L23 k v1 v2 v3 f_added f_presentSet A_begins A_ends κ n (v4 + 1) else some 0)) := rfl
def f_X4_fits (k : Nat) (p1 : Int32) (p2 : Int32) (p3 : Int32) (f_added : Int32) (f_presentSet : Int64) (A_begins : Nat → Int32) (A_ends : Nat → Int32) : Option (Int32) := if (1000 - p2) < p1 then some 0 else xb (f_X4_depthAt k p1 f_added f_presentSet A_begins A_ends) (fun r2 => if r2 < p3 then f_X4_fits_L23 k p1 p2 p3 f_added f_presentSet A_begins A_ends (fun (v4_12 : Int32) => some 1) k 0 else some 0)
abbrev rm_X4_fits : Room := { frames := 3, cells := 0, slots := 0, locals := 65 }
set_option maxHeartbeats 4000000 in
set_option maxRecDepth 100000 in
theorem c_X4_fits (l : Launch) (G : va_G) (cy : ClassId × ClassId × ClassId) (k : Nat) (aT aT_begins aT_ends aT_weights aT_givenRooms aT_oneRoom aT_manyRooms : Nat) (f_added : Int32) (f_presentSet : Int64) (f_factor : Int32) (f_offeredSet : Int64) (f_acceptedSet : Int64) (f_dropped : Int32) (A_begins : Nat → Int32) (A_ends : Nat → Int32) (p1 : Int32) (p2 : Int32) (p3 : Int32) {r : Int32} (hf : f_X4_fits k p1 p2 p3 f_added f_presentSet A_begins A_ends = some r) : Ci l yX4_fits wsX4_fits rm_X4_fits 0 0 G cy [.ref aT, .int p1, .int p2, .int p3] [(aT, .inr (4, [.ref aT_begins, .ref aT_ends, .ref aT_weights, .int f_added, .long f_presentSet, .int f_factor, .long f_offeredSet, .long f_acceptedSet, .int f_dropped, .ref aT_givenRooms, .ref aT_oneRoom, .ref aT_manyRooms])), (aT_begins, .inl (cy.1, 40, .inl A_begins)), (aT_ends, .inl (cy.1, 40, .inl A_ends))] [(aT, .inr (4, [.ref aT_begins, .ref aT_ends, .ref aT_weights, .int f_added, .long f_presentSet, .int f_factor, .long f_offeredSet, .long f_acceptedSet, .int f_dropped, .ref aT_givenRooms, .ref aT_oneRoom, .ref aT_manyRooms])), (aT_begins, .inl (cy.1, 40, .inl A_begins)), (aT_ends, .inl (cy.1, 40, .inl A_ends))] r := by
  refine kMetZ (cc := cX4_fits) (maxL := 6) (by decide) rfl (Nat.le_of_ble_eq_true rfl) ?_
  intro p e s m args below meth c Q A ls hx hb hml hts hown hv hl kret
  replace hown : s.vm.findClass RX4 = some m.cls := hown
  replace hl : lv_has ls 6 [(0, .ref aT), (1, .int p1), (2, .int p2), (3, .int p3)] := hl
  have hk53 : (Cond.fieldLink RX4 53 "Roomcolour" "added" "I").before args s = true := hts _ (by decide +kernel)
  have hinX4 : ∀ w ∈ wsX40, w ∈ wsX4_fits := by decide +kernel
  have hk9 : (Cond.fieldLink RX4 9 "Roomcolour" "begins" "[I").before args s = true := hts _ (by decide +kernel)
  have L23 : ∀ (v1 : Int32) (v2 : Int32) (v3 : Int32) (κ : Int32 → Option (Int32)) (n : Nat) (v4 : Int32), f_X4_fits_L23 k v1 v2 v3 f_added f_presentSet A_begins A_ends κ n v4 = some r → ∀ (H : Heap) (locs : List Loc) (ls : Array Slot), Hv s H locs G cy A [(aT, .inr (4, [.ref aT_begins, .ref aT_ends, .ref aT_weights, .int f_added, .long f_presentSet, .int f_factor, .long f_offeredSet, .long f_acceptedSet, .int f_dropped, .ref aT_givenRooms, .ref aT_oneRoom, .ref aT_manyRooms])), (aT_begins, .inl (cy.1, 40, .inl A_begins)), (aT_ends, .inl (cy.1, 40, .inl A_ends))] → lv_has ls 6 [(0, .ref aT), (1, .int v1), (2, .int v2), (3, .int v3), (4, .int v4)] → (∀ (v4 : Int32), κ v4 = some r → ∀ (H : Heap) (locs : List Loc) (ls : Array Slot), Hv s H locs G cy A [(aT, .inr (4, [.ref aT_begins, .ref aT_ends, .ref aT_weights, .int f_added, .long f_presentSet, .int f_factor, .long f_offeredSet, .long f_acceptedSet, .int f_dropped, .ref aT_givenRooms, .ref aT_oneRoom, .ref aT_manyRooms])), (aT_begins, .inl (cy.1, 40, .inl A_begins)), (aT_ends, .inl (cy.1, 40, .inl A_ends))] → lv_has ls 6 [] → W p l e rm_X4_fits s m args below meth c H locs 0 0 Q (F0 m 73 ls [])) → W p l e rm_X4_fits s m args below meth c H locs 0 0 Q (F0 m 23 ls []) := by
    intro v1 v2 v3 κ n
    induction n with
    | zero =>
      intro v4 hf
      rw [f_X4_fits_L23_z] at hf
      cases hf
    | succ n ih =>
      intro v4 hf H locs ls hv hl hκ
      rw [f_X4_fits_L23_s] at hf
      refine lv_iload hx hb dX4_fits_23 (lv_at hl 4 rfl) ?_
      refine lv_aload_n hx hb dX4_fits_25 rfl (lv_at hl 0 rfl) ?_
      refine kGet (v := .int f_added) (C := RX4) (T := TX4) (N := 12) hx hb hts hinX4 hown hv 0 rfl rfl 3 (by decide) hk53 (fun _ h9 => h9) rfl dX4_fits_26 ?_
      refine lv_icmp_ge (tgt := 73) hx hb dX4_fits_29 (by decide) (fun hc5 => ?_) (fun hc5 => ?_)
      · replace hf := ite_t hf hc5
        exact hκ v4 hf _ _ _ hv (lv_sub hl [] rfl)
      · replace hf := ite_f hf hc5
        refine lv_aload_n hx hb dX4_fits_32 rfl (lv_at hl 0 rfl) ?_
        refine kGet (v := .ref aT_begins) (C := RX4) (T := TX4) (N := 12) hx hb hts hinX4 hown hv 0 rfl rfl 0 (by decide) hk9 (fun _ h9 => h9) rfl dX4_fits_33 ?_
        refine lv_iload hx hb dX4_fits_36 (lv_at hl 4 rfl) ?_
        obtain ⟨hi6, hf⟩ := xi_some hf
        refine kIald hx hb hv 1 rfl hi6 dX4_fits_38 ?_
        refine lv_istore (lv' := [(5, .int (A_begins v4.toNatClampNeg)), (0, .ref aT), (1, .int v1), (2, .int v2), (3, .int v3), (4, .int v4)]) hx hb dX4_fits_39 hl (by decide) rfl (fun ls hl => ?_)
        refine lv_iload hx hb dX4_fits_41 (lv_at hl 0 rfl) ?_
        refine lv_iload_n hx hb dX4_fits_43 rfl (lv_at hl 2 rfl) ?_
        refine lv_icmp_le (tgt := 67) hx hb dX4_fits_44 (by decide) (fun hc7 => ?_) (fun hc7 => ?_)
        · replace hf := ite_t hf hc7
          refine lv_iinc (v := v4 + 1) (lv' := [(4, .int (v4 + 1)), (5, .int (A_begins v4.toNatClampNeg)), (0, .ref aT), (1, .int v1), (2, .int v2), (3, .int v3)]) hx hb dX4_fits_67 hl (k := 5) rfl rfl (by decide) rfl (fun ls hl => ?_)
          refine lv_goto (tgt := 23) hx hb dX4_fits_70 (by decide) ?_
          exact ih (v4 + 1) hf _ _ _ hv (lv_sub hl [2, 3, 4, 5, 0] rfl) hκ
        · replace hf := ite_f hf hc7
          refine lv_iload hx hb dX4_fits_47 (lv_at hl 0 rfl) ?_
          refine lv_iload_n hx hb dX4_fits_49 rfl (lv_at hl 2 rfl) ?_
          refine lv_iload_n hx hb dX4_fits_50 rfl (lv_at hl 3 rfl) ?_
          refine lv_iadd hx hb dX4_fits_51 ?_
          refine lv_icmp_ge (tgt := 67) hx hb dX4_fits_52 (by decide) (fun hc8 => ?_) (fun hc8 => ?_)
          · replace hf := ite_t hf hc8
            refine lv_iinc (v := v4 + 1) (lv' := [(4, .int (v4 + 1)), (5, .int (A_begins v4.toNatClampNeg)), (0, .ref aT), (1, .int v1), (2, .int v2), (3, .int v3)]) hx hb dX4_fits_67 hl (k := 5) rfl rfl (by decide) rfl (fun ls hl => ?_)
            refine lv_goto (tgt := 23) hx hb dX4_fits_70 (by decide) ?_
            exact ih (v4 + 1) hf _ _ _ hv (lv_sub hl [2, 3, 4, 5, 0] rfl) hκ
          · replace hf := ite_f hf hc8
            refine lv_aload_n hx hb dX4_fits_55 rfl (lv_at hl 1 rfl) ?_
            refine lv_iload hx hb dX4_fits_56 (lv_at hl 0 rfl) ?_
            obtain ⟨r9, hcl10, hf⟩ := xb_some hf
            refine kV_i (r := r9) (wr := []) (w2 := [(aT, .inr (4, [.ref aT_begins, .ref aT_ends, .ref aT_weights, .int f_added, .long f_presentSet, .int f_factor, .long f_offeredSet, .long f_acceptedSet, .int f_dropped, .ref aT_givenRooms, .ref aT_oneRoom, .ref aT_manyRooms])), (aT_begins, .inl (cy.1, 40, .inl A_begins)), (aT_ends, .inl (cy.1, 40, .inl A_ends))]) ⟨hx, hb, hml, hown, hts⟩ (c_X4_depthAt l G cy k aT aT_begins aT_ends aT_weights aT_givenRooms aT_oneRoom aT_manyRooms f_added f_presentSet f_factor f_offeredSet f_acceptedSet f_dropped A_begins A_ends (A_begins v4.toNatClampNeg) hcl10) (cwV 1 hts gX4_fits_X4_depthAt rfl rfl rfl (by decide +kernel) ⟨Nat.le_of_ble_eq_true rfl, Nat.le_of_ble_eq_true rfl⟩) hv (isC := [0, 1, 2]) ⟨rfl, rfl⟩ (hv.recv 4 0 rfl rfl) [] [0, 1, 2] rfl rfl (by decide) rfl rfl rfl hl.1 rfl (Nat.le_of_ble_eq_true rfl) dX4_fits_58 ⟨Nat.le_of_ble_eq_true rfl, Nat.le_of_ble_eq_true rfl⟩ (fun H locs hv => ?_)
            refine lv_iload_n hx hb dX4_fits_61 rfl (lv_at hl 4 rfl) ?_
            refine lv_icmp_lt (tgt := 67) hx hb dX4_fits_62 (by decide) (fun hc11 => ?_) (fun hc11 => ?_)
            · replace hf := ite_t hf hc11
              refine lv_iinc (v := v4 + 1) (lv' := [(4, .int (v4 + 1)), (5, .int (A_begins v4.toNatClampNeg)), (0, .ref aT), (1, .int v1), (2, .int v2), (3, .int v3)]) hx hb dX4_fits_67 hl (k := 5) rfl rfl (by decide) rfl (fun ls hl => ?_)
              refine lv_goto (tgt := 23) hx hb dX4_fits_70 (by decide) ?_
              exact ih (v4 + 1) hf _ _ _ hv (lv_sub hl [2, 3, 4, 5, 0] rfl) hκ
            · replace hf := ite_f hf hc11
              refine lv_iconst (v := 0) hx hb dX4_fits_65 (by decide) ?_
              cases hf
              exact kret _ _ _ _ hv dX4_fits_66 rfl
  unfold f_X4_fits at hf
  refine lv_iload_n hx hb dX4_fits_0 rfl (lv_at hl 1 rfl) ?_
  refine lv_sipush (v := 1000) hx hb dX4_fits_1 (by decide) ?_
  refine lv_iload_n hx hb dX4_fits_4 rfl (lv_at hl 2 rfl) ?_
  refine lv_isub hx hb dX4_fits_5 ?_
  refine lv_icmp_gt (tgt := 18) hx hb dX4_fits_6 (by decide) (fun hc1 => ?_) (fun hc1 => ?_)
  · replace hf := ite_t hf hc1
    refine lv_iconst (v := 0) hx hb dX4_fits_18 (by decide) ?_
    cases hf
    exact kret _ _ _ _ hv dX4_fits_19 rfl
  · replace hf := ite_f hf hc1
    refine lv_aload_n hx hb dX4_fits_9 rfl (lv_at hl 0 rfl) ?_
    refine lv_iload_n hx hb dX4_fits_10 rfl (lv_at hl 1 rfl) ?_
    obtain ⟨r2, hcl3, hf⟩ := xb_some hf
    refine kV_i (r := r2) (wr := []) (w2 := [(aT, .inr (4, [.ref aT_begins, .ref aT_ends, .ref aT_weights, .int f_added, .long f_presentSet, .int f_factor, .long f_offeredSet, .long f_acceptedSet, .int f_dropped, .ref aT_givenRooms, .ref aT_oneRoom, .ref aT_manyRooms])), (aT_begins, .inl (cy.1, 40, .inl A_begins)), (aT_ends, .inl (cy.1, 40, .inl A_ends))]) ⟨hx, hb, hml, hown, hts⟩ (c_X4_depthAt l G cy k aT aT_begins aT_ends aT_weights aT_givenRooms aT_oneRoom aT_manyRooms f_added f_presentSet f_factor f_offeredSet f_acceptedSet f_dropped A_begins A_ends p1 hcl3) (cwV 1 hts gX4_fits_X4_depthAt rfl rfl rfl (by decide +kernel) ⟨Nat.le_of_ble_eq_true rfl, Nat.le_of_ble_eq_true rfl⟩) hv (isC := [0, 1, 2]) ⟨rfl, rfl⟩ (hv.recv 4 0 rfl rfl) [] [0, 1, 2] rfl rfl (by decide) rfl rfl rfl hl.1 rfl (Nat.le_of_ble_eq_true rfl) dX4_fits_11 ⟨Nat.le_of_ble_eq_true rfl, Nat.le_of_ble_eq_true rfl⟩ (fun H locs hv => ?_)
    refine lv_iload_n hx hb dX4_fits_14 rfl (lv_at hl 3 rfl) ?_
    refine lv_icmp_lt (tgt := 20) hx hb dX4_fits_15 (by decide) (fun hc4 => ?_) (fun hc4 => ?_)
    · replace hf := ite_t hf hc4
      refine lv_iconst (v := 0) hx hb dX4_fits_20 (by decide) ?_
      refine lv_istore (lv' := [(4, .int 0), (0, .ref aT), (1, .int p1), (2, .int p2), (3, .int p3)]) hx hb dX4_fits_21 hl (by decide) rfl (fun ls hl => ?_)
      refine L23 _ _ _ _ _ _ hf _ _ _ hv (lv_sub hl [1, 2, 3, 4, 0] rfl) (fun v4_12 hf H locs ls hv hl => ?_)
      try dsimp only at hf
      refine lv_iconst (v := 1) hx hb dX4_fits_73 (by decide) ?_
      cases hf
      exact kret _ _ _ _ hv dX4_fits_74 rfl
    · replace hf := ite_f hf hc4
      refine lv_iconst (v := 0) hx hb dX4_fits_18 (by decide) ?_
      cases hf
      exact kret _ _ _ _ hv dX4_fits_19 rfl

def f_X4_earliestEndThatFits_L5 (k : Nat) (v1 : Int32) (v2 : Int32) (f_added : Int32) (f_presentSet : Int64) (A_begins : Nat → Int32) (A_ends : Nat → Int32) (κ : Int32 → Int32 → Option (Int32)) : Nat → Int32 → Int32 → Option (Int32)
  | 0, _, _ => none
  | n + 1, v3, v4 => if f_added ≤ v4 then κ v3 v4 else xi v4 40 (xb (f_X4_contains k f_presentSet v4) (fun r3 => if r3 = 0 then f_X4_earliestEndThatFits_L5 k v1 v2 f_added f_presentSet A_begins A_ends κ n v3 (v4 + 1) else xj (fun (_ : Unit) => xb (f_X4_fits k (A_ends v4.toNatClampNeg) v1 v2 f_added f_presentSet A_begins A_ends) (fun r8 => if r8 = 0 then f_X4_earliestEndThatFits_L5 k v1 v2 f_added f_presentSet A_begins A_ends κ n v3 (v4 + 1) else f_X4_earliestEndThatFits_L5 k v1 v2 f_added f_presentSet A_begins A_ends κ n (A_ends v4.toNatClampNeg) (v4 + 1))) (fun (j46_7 : Unit → Option (Int32)) => if v3 = (-1) then j46_7 () else if v3 ≤ (A_ends v4.toNatClampNeg) then f_X4_earliestEndThatFits_L5 k v1 v2 f_added f_presentSet A_begins A_ends κ n v3 (v4 + 1) else j46_7 ())))
theorem f_X4_earliestEndThatFits_L5_z (k : Nat) (v1 : Int32) (v2 : Int32) (f_added : Int32) (f_presentSet : Int64) (A_begins : Nat → Int32) (A_ends : Nat → Int32) (κ : Int32 → Int32 → Option (Int32)) (v3 : Int32) (v4 : Int32) : f_X4_earliestEndThatFits_L5 k v1 v2 f_added f_presentSet A_begins A_ends κ 0 v3 v4 = none := rfl
theorem f_X4_earliestEndThatFits_L5_s (k : Nat) (v1 : Int32) (v2 : Int32) (f_added : Int32) (f_presentSet : Int64) (A_begins : Nat → Int32) (A_ends : Nat → Int32) (κ : Int32 → Int32 → Option (Int32)) (n : Nat) (v3 : Int32) (v4 : Int32) : f_X4_earliestEndThatFits_L5 k v1 v2 f_added f_presentSet A_begins A_ends κ (n + 1) v3 v4 = if f_added ≤ v4 then κ v3 v4 else xi v4 40 (xb (f_X4_contains k f_presentSet v4) (fun r3 => if r3 = 0 then f_X4_earliestEndThatFits_L5 k v1 v2 f_added f_presentSet A_begins A_ends κ n v3 (v4 + 1) else xj (fun (_ : Unit) => xb (f_X4_fits k (A_ends v4.toNatClampNeg) v1 v2 f_added f_presentSet A_begins A_ends) (fun r8 => if r8 = 0 then f_X4_earliestEndThatFits_L5 k v1 v2 f_added f_presentSet A_begins A_ends κ n v3 (v4 + 1) else f_X4_earliestEndThatFits_L5 k v1 v2 f_added f_presentSet A_begins A_ends κ n (A_ends v4.toNatClampNeg) (v4 + 1))) (fun (j46_7 : Unit → Option (Int32)) => if v3 = (-1) then j46_7 () else if v3 ≤ (A_ends v4.toNatClampNeg) then f_X4_earliestEndThatFits_L5 k v1 v2 f_added f_presentSet A_begins A_ends κ n v3 (v4 + 1) else j46_7 ()))) := rfl
def f_X4_earliestEndThatFits (k : Nat) (p1 : Int32) (p2 : Int32) (f_added : Int32) (f_presentSet : Int64) (A_begins : Nat → Int32) (A_ends : Nat → Int32) : Option (Int32) := f_X4_earliestEndThatFits_L5 k p1 p2 f_added f_presentSet A_begins A_ends (fun (v3_12 : Int32) (v4_13 : Int32) => some v3_12) k (-1) 0
abbrev rm_X4_earliestEndThatFits : Room := { frames := 4, cells := 0, slots := 0, locals := 90 }
set_option maxHeartbeats 4000000 in
set_option maxRecDepth 100000 in
theorem c_X4_earliestEndThatFits (l : Launch) (G : va_G) (cy : ClassId × ClassId × ClassId) (k : Nat) (aT aT_begins aT_ends aT_weights aT_givenRooms aT_oneRoom aT_manyRooms : Nat) (f_added : Int32) (f_presentSet : Int64) (f_factor : Int32) (f_offeredSet : Int64) (f_acceptedSet : Int64) (f_dropped : Int32) (A_begins : Nat → Int32) (A_ends : Nat → Int32) (p1 : Int32) (p2 : Int32) {r : Int32} (hf : f_X4_earliestEndThatFits k p1 p2 f_added f_presentSet A_begins A_ends = some r) : Ci l yX4_earliestEndThatFits wsX4_earliestEndThatFits rm_X4_earliestEndThatFits 0 0 G cy [.ref aT, .int p1, .int p2] [(aT, .inr (4, [.ref aT_begins, .ref aT_ends, .ref aT_weights, .int f_added, .long f_presentSet, .int f_factor, .long f_offeredSet, .long f_acceptedSet, .int f_dropped, .ref aT_givenRooms, .ref aT_oneRoom, .ref aT_manyRooms])), (aT_begins, .inl (cy.1, 40, .inl A_begins)), (aT_ends, .inl (cy.1, 40, .inl A_ends))] [(aT, .inr (4, [.ref aT_begins, .ref aT_ends, .ref aT_weights, .int f_added, .long f_presentSet, .int f_factor, .long f_offeredSet, .long f_acceptedSet, .int f_dropped, .ref aT_givenRooms, .ref aT_oneRoom, .ref aT_manyRooms])), (aT_begins, .inl (cy.1, 40, .inl A_begins)), (aT_ends, .inl (cy.1, 40, .inl A_ends))] r := by
  refine kMetI (cc := cX4_earliestEndThatFits) (maxL := 6) (by decide) rfl (Nat.le_of_ble_eq_true rfl) ?_
  intro p e s m args below meth c Q A ls hx hb hml hts hown hv hl kret
  replace hown : s.vm.findClass RX4 = some m.cls := hown
  replace hl : lv_has ls 6 [(0, .ref aT), (1, .int p1), (2, .int p2)] := hl
  have hk53 : (Cond.fieldLink RX4 53 "Roomcolour" "added" "I").before args s = true := hts _ (by decide +kernel)
  have hinX4 : ∀ w ∈ wsX40, w ∈ wsX4_earliestEndThatFits := by decide +kernel
  have hk13 : (Cond.fieldLink RX4 13 "Roomcolour" "ends" "[I").before args s = true := hts _ (by decide +kernel)
  have hk61 : (Cond.fieldLink RX4 61 "Roomcolour" "presentSet" "J").before args s = true := hts _ (by decide +kernel)
  have L5 : ∀ (v1 : Int32) (v2 : Int32) (κ : Int32 → Int32 → Option (Int32)) (n : Nat) (v3 : Int32) (v4 : Int32), f_X4_earliestEndThatFits_L5 k v1 v2 f_added f_presentSet A_begins A_ends κ n v3 v4 = some r → ∀ (H : Heap) (locs : List Loc) (ls : Array Slot), Hv s H locs G cy A [(aT, .inr (4, [.ref aT_begins, .ref aT_ends, .ref aT_weights, .int f_added, .long f_presentSet, .int f_factor, .long f_offeredSet, .long f_acceptedSet, .int f_dropped, .ref aT_givenRooms, .ref aT_oneRoom, .ref aT_manyRooms])), (aT_begins, .inl (cy.1, 40, .inl A_begins)), (aT_ends, .inl (cy.1, 40, .inl A_ends))] → lv_has ls 6 [(0, .ref aT), (1, .int v1), (2, .int v2), (3, .int v3), (4, .int v4)] → (∀ (v3 : Int32) (v4 : Int32), κ v3 v4 = some r → ∀ (H : Heap) (locs : List Loc) (ls : Array Slot), Hv s H locs G cy A [(aT, .inr (4, [.ref aT_begins, .ref aT_ends, .ref aT_weights, .int f_added, .long f_presentSet, .int f_factor, .long f_offeredSet, .long f_acceptedSet, .int f_dropped, .ref aT_givenRooms, .ref aT_oneRoom, .ref aT_manyRooms])), (aT_begins, .inl (cy.1, 40, .inl A_begins)), (aT_ends, .inl (cy.1, 40, .inl A_ends))] → lv_has ls 6 [(3, .int v3)] → W p l e rm_X4_earliestEndThatFits s m args below meth c H locs 0 0 Q (F0 m 66 ls [])) → W p l e rm_X4_earliestEndThatFits s m args below meth c H locs 0 0 Q (F0 m 5 ls []) := by
    intro v1 v2 κ n
    induction n with
    | zero =>
      intro v3 v4 hf
      rw [f_X4_earliestEndThatFits_L5_z] at hf
      cases hf
    | succ n ih =>
      intro v3 v4 hf H locs ls hv hl hκ
      rw [f_X4_earliestEndThatFits_L5_s] at hf
      refine lv_iload hx hb dX4_earliestEndThatFits_5 (lv_at hl 4 rfl) ?_
      refine lv_aload_n hx hb dX4_earliestEndThatFits_7 rfl (lv_at hl 0 rfl) ?_
      refine kGet (v := .int f_added) (C := RX4) (T := TX4) (N := 12) hx hb hts hinX4 hown hv 0 rfl rfl 3 (by decide) hk53 (fun _ h9 => h9) rfl dX4_earliestEndThatFits_8 ?_
      refine lv_icmp_ge (tgt := 66) hx hb dX4_earliestEndThatFits_11 (by decide) (fun hc1 => ?_) (fun hc1 => ?_)
      · replace hf := ite_t hf hc1
        exact hκ v3 v4 hf _ _ _ hv (lv_sub hl [3] rfl)
      · replace hf := ite_f hf hc1
        refine lv_aload_n hx hb dX4_earliestEndThatFits_14 rfl (lv_at hl 0 rfl) ?_
        refine kGet (v := .ref aT_ends) (C := RX4) (T := TX4) (N := 12) hx hb hts hinX4 hown hv 0 rfl rfl 1 (by decide) hk13 (fun _ h9 => h9) rfl dX4_earliestEndThatFits_15 ?_
        refine lv_iload hx hb dX4_earliestEndThatFits_18 (lv_at hl 4 rfl) ?_
        obtain ⟨hi2, hf⟩ := xi_some hf
        refine kIald hx hb hv 2 rfl hi2 dX4_earliestEndThatFits_20 ?_
        refine lv_istore (lv' := [(5, .int (A_ends v4.toNatClampNeg)), (0, .ref aT), (1, .int v1), (2, .int v2), (3, .int v3), (4, .int v4)]) hx hb dX4_earliestEndThatFits_21 hl (by decide) rfl (fun ls hl => ?_)
        refine lv_aload_n hx hb dX4_earliestEndThatFits_23 rfl (lv_at hl 1 rfl) ?_
        refine kGet (v := .long f_presentSet) (C := RX4) (T := TX4) (N := 12) hx hb hts hinX4 hown hv 0 rfl rfl 4 (by decide) hk61 (fun _ h9 => h9) rfl dX4_earliestEndThatFits_24 ?_
        refine lv_iload hx hb dX4_earliestEndThatFits_27 (lv_at hl 5 rfl) ?_
        obtain ⟨r3, hcl4, hf⟩ := xb_some hf
        refine kS_i (r := r3) ⟨hx, hb, hml, hown, hts⟩ (c_X4_contains l G cy k f_presentSet v4 hcl4) (va_cwS 2 hts gX4_earliestEndThatFits_X4_contains rfl rfl rfl (by decide +kernel) ⟨Nat.le_of_ble_eq_true rfl, Nat.le_of_ble_eq_true rfl⟩) hv rfl hl.1 rfl (Nat.le_of_ble_eq_true rfl) dX4_earliestEndThatFits_29 ⟨Nat.le_of_ble_eq_true rfl, Nat.le_of_ble_eq_true rfl⟩ (fun H locs hv => ?_)
        refine lv_if_eq (tgt := 60) hx hb dX4_earliestEndThatFits_32 (by decide) (fun hc5 => ?_) (fun hc5 => ?_)
        · replace hf := ite_t hf hc5
          refine lv_iinc (v := v4 + 1) (lv' := [(4, .int (v4 + 1)), (5, .int (A_ends v4.toNatClampNeg)), (0, .ref aT), (1, .int v1), (2, .int v2), (3, .int v3)]) hx hb dX4_earliestEndThatFits_60 hl (k := 5) rfl rfl (by decide) rfl (fun ls hl => ?_)
          refine lv_goto (tgt := 5) hx hb dX4_earliestEndThatFits_63 (by decide) ?_
          exact ih v3 (v4 + 1) hf _ _ _ hv (lv_sub hl [2, 3, 4, 5, 0] rfl) hκ
        · replace hf := ite_f hf hc5
          refine lv_iload_n hx hb dX4_earliestEndThatFits_35 rfl (lv_at hl 4 rfl) ?_
          refine lv_iconst (v := (-1)) hx hb dX4_earliestEndThatFits_36 (by decide) ?_
          refine xj_elim hf (fun j46_7 ej46_7 hf => ?_)
          have J46_7 : ∀ (u : Unit), j46_7 u = some r → ∀ (H : Heap) (locs : List Loc) (ls : Array Slot), Hv s H locs G cy A [(aT, .inr (4, [.ref aT_begins, .ref aT_ends, .ref aT_weights, .int f_added, .long f_presentSet, .int f_factor, .long f_offeredSet, .long f_acceptedSet, .int f_dropped, .ref aT_givenRooms, .ref aT_oneRoom, .ref aT_manyRooms])), (aT_begins, .inl (cy.1, 40, .inl A_begins)), (aT_ends, .inl (cy.1, 40, .inl A_ends))] → lv_has ls 6 [(0, .ref aT), (1, .int v1), (2, .int v2), (3, .int v3), (4, .int v4), (5, .int (A_ends v4.toNatClampNeg))] → W p l e rm_X4_earliestEndThatFits s m args below meth c H locs 0 0 Q (F0 m 46 ls []) := by
            intro u hf H locs ls hv hl
            rw [ej46_7] at hf
            try dsimp only at hf
            refine lv_aload_n hx hb dX4_earliestEndThatFits_46 rfl (lv_at hl 0 rfl) ?_
            refine lv_iload hx hb dX4_earliestEndThatFits_47 (lv_at hl 5 rfl) ?_
            refine lv_iload_n hx hb dX4_earliestEndThatFits_49 rfl (lv_at hl 1 rfl) ?_
            refine lv_iload_n hx hb dX4_earliestEndThatFits_50 rfl (lv_at hl 2 rfl) ?_
            obtain ⟨r8, hcl9, hf⟩ := xb_some hf
            refine kV_i (r := r8) (wr := []) (w2 := [(aT, .inr (4, [.ref aT_begins, .ref aT_ends, .ref aT_weights, .int f_added, .long f_presentSet, .int f_factor, .long f_offeredSet, .long f_acceptedSet, .int f_dropped, .ref aT_givenRooms, .ref aT_oneRoom, .ref aT_manyRooms])), (aT_begins, .inl (cy.1, 40, .inl A_begins)), (aT_ends, .inl (cy.1, 40, .inl A_ends))]) ⟨hx, hb, hml, hown, hts⟩ (c_X4_fits l G cy k aT aT_begins aT_ends aT_weights aT_givenRooms aT_oneRoom aT_manyRooms f_added f_presentSet f_factor f_offeredSet f_acceptedSet f_dropped A_begins A_ends (A_ends v4.toNatClampNeg) v1 v2 hcl9) (cwV 3 hts gX4_earliestEndThatFits_X4_fits rfl rfl rfl (by decide +kernel) ⟨Nat.le_of_ble_eq_true rfl, Nat.le_of_ble_eq_true rfl⟩) hv (isC := [0, 1, 2]) ⟨rfl, rfl⟩ (hv.recv 4 0 rfl rfl) [] [0, 1, 2] rfl rfl (by decide) rfl rfl rfl hl.1 rfl (Nat.le_of_ble_eq_true rfl) dX4_earliestEndThatFits_51 ⟨Nat.le_of_ble_eq_true rfl, Nat.le_of_ble_eq_true rfl⟩ (fun H locs hv => ?_)
            refine lv_if_eq (tgt := 60) hx hb dX4_earliestEndThatFits_54 (by decide) (fun hc10 => ?_) (fun hc10 => ?_)
            · replace hf := ite_t hf hc10
              refine lv_iinc (v := v4 + 1) (lv' := [(4, .int (v4 + 1)), (0, .ref aT), (1, .int v1), (2, .int v2), (3, .int v3), (5, .int (A_ends v4.toNatClampNeg))]) hx hb dX4_earliestEndThatFits_60 hl (k := 4) rfl rfl (by decide) rfl (fun ls hl => ?_)
              refine lv_goto (tgt := 5) hx hb dX4_earliestEndThatFits_63 (by decide) ?_
              exact ih v3 (v4 + 1) hf _ _ _ hv (lv_sub hl [1, 2, 3, 4, 0] rfl) hκ
            · replace hf := ite_f hf hc10
              refine lv_iload hx hb dX4_earliestEndThatFits_57 (lv_at hl 5 rfl) ?_
              refine lv_istore_n (lv' := [(3, .int (A_ends v4.toNatClampNeg)), (0, .ref aT), (1, .int v1), (2, .int v2), (4, .int v4), (5, .int (A_ends v4.toNatClampNeg))]) hx hb dX4_earliestEndThatFits_59 rfl hl (by decide) rfl (fun ls hl => ?_)
              refine lv_iinc (v := v4 + 1) (lv' := [(4, .int (v4 + 1)), (3, .int (A_ends v4.toNatClampNeg)), (0, .ref aT), (1, .int v1), (2, .int v2), (5, .int (A_ends v4.toNatClampNeg))]) hx hb dX4_earliestEndThatFits_60 hl (k := 4) rfl rfl (by decide) rfl (fun ls hl => ?_)
              refine lv_goto (tgt := 5) hx hb dX4_earliestEndThatFits_63 (by decide) ?_
              exact ih (A_ends v4.toNatClampNeg) (v4 + 1) hf _ _ _ hv (lv_sub hl [2, 3, 4, 1, 0] rfl) hκ
          refine lv_icmp_eq (tgt := 46) hx hb dX4_earliestEndThatFits_37 (by decide) (fun hc6 => ?_) (fun hc6 => ?_)
          · replace hf := ite_t hf hc6
            exact J46_7 () hf _ _ _ hv (lv_sub hl [1, 2, 3, 4, 5, 0] rfl)
          · replace hf := ite_f hf hc6
            refine lv_iload hx hb dX4_earliestEndThatFits_40 (lv_at hl 0 rfl) ?_
            refine lv_iload_n hx hb dX4_earliestEndThatFits_42 rfl (lv_at hl 4 rfl) ?_
            refine lv_icmp_ge (tgt := 60) hx hb dX4_earliestEndThatFits_43 (by decide) (fun hc11 => ?_) (fun hc11 => ?_)
            · replace hf := ite_t hf hc11
              refine lv_iinc (v := v4 + 1) (lv' := [(4, .int (v4 + 1)), (5, .int (A_ends v4.toNatClampNeg)), (0, .ref aT), (1, .int v1), (2, .int v2), (3, .int v3)]) hx hb dX4_earliestEndThatFits_60 hl (k := 5) rfl rfl (by decide) rfl (fun ls hl => ?_)
              refine lv_goto (tgt := 5) hx hb dX4_earliestEndThatFits_63 (by decide) ?_
              exact ih v3 (v4 + 1) hf _ _ _ hv (lv_sub hl [2, 3, 4, 5, 0] rfl) hκ
            · replace hf := ite_f hf hc11
              exact J46_7 () hf _ _ _ hv (lv_sub hl [1, 2, 3, 4, 5, 0] rfl)
  unfold f_X4_earliestEndThatFits at hf
  refine lv_iconst (v := (-1)) hx hb dX4_earliestEndThatFits_0 (by decide) ?_
  refine lv_istore_n (lv' := [(3, .int (-1)), (0, .ref aT), (1, .int p1), (2, .int p2)]) hx hb dX4_earliestEndThatFits_1 rfl hl (by decide) rfl (fun ls hl => ?_)
  refine lv_iconst (v := 0) hx hb dX4_earliestEndThatFits_2 (by decide) ?_
  refine lv_istore (lv' := [(4, .int 0), (3, .int (-1)), (0, .ref aT), (1, .int p1), (2, .int p2)]) hx hb dX4_earliestEndThatFits_3 hl (by decide) rfl (fun ls hl => ?_)
  refine L5 _ _ _ _ _ _ hf _ _ _ hv (lv_sub hl [2, 3, 4, 1, 0] rfl) (fun v3_12 v4_13 hf H locs ls hv hl => ?_)
  try dsimp only at hf
  refine lv_iload_n hx hb dX4_earliestEndThatFits_66 rfl (lv_at hl 0 rfl) ?_
  cases hf
  exact kret _ _ _ _ hv dX4_earliestEndThatFits_67

def f_X4_earliest (k : Nat) (p1 : Int32) (p2 : Int32) (f_added : Int32) (f_presentSet : Int64) (A_begins : Nat → Int32) (A_ends : Nat → Int32) : Option (Except String (Int32)) := if p1 < 1 then some (.error "java/lang/IllegalArgumentException") else if p1 ≤ 1000 then if p2 < 1 then some (.error "java/lang/IllegalArgumentException") else if p2 ≤ 40 then xb (f_X4_fits k 0 p1 p2 f_added f_presentSet A_begins A_ends) (fun r5 => if r5 = 0 then xb (f_X4_earliestEndThatFits k p1 p2 f_added f_presentSet A_begins A_ends) (fun r8 => some (.ok r8)) else some (.ok 0)) else some (.error "java/lang/IllegalArgumentException") else some (.error "java/lang/IllegalArgumentException")
abbrev rm_X4_earliest : Room := { frames := 6, cells := 1, slots := 6, locals := 115 }
set_option maxHeartbeats 4000000 in
set_option maxRecDepth 100000 in
theorem c_X4_earliest (l : Launch) (hl9 : l.stackTraces = false) (G : va_G) (cy : ClassId × ClassId × ClassId) (k : Nat) (aT aT_begins aT_ends aT_weights aT_givenRooms aT_oneRoom aT_manyRooms : Nat) (f_added : Int32) (f_presentSet : Int64) (f_factor : Int32) (f_offeredSet : Int64) (f_acceptedSet : Int64) (f_dropped : Int32) (A_begins : Nat → Int32) (A_ends : Nat → Int32) (p1 : Int32) (p2 : Int32) {o : Except String (Int32)} (hf : f_X4_earliest k p1 p2 f_added f_presentSet A_begins A_ends = some o) : Xi l yX4_earliest wsX4_earliest rm_X4_earliest 1 6 G cy [.ref aT, .int p1, .int p2] [(aT, .inr (4, [.ref aT_begins, .ref aT_ends, .ref aT_weights, .int f_added, .long f_presentSet, .int f_factor, .long f_offeredSet, .long f_acceptedSet, .int f_dropped, .ref aT_givenRooms, .ref aT_oneRoom, .ref aT_manyRooms])), (aT_begins, .inl (cy.1, 40, .inl A_begins)), (aT_ends, .inl (cy.1, 40, .inl A_ends))] (kmo (fun (q : Int32) => (q, [(aT, .inr (4, [.ref aT_begins, .ref aT_ends, .ref aT_weights, .int f_added, .long f_presentSet, .int f_factor, .long f_offeredSet, .long f_acceptedSet, .int f_dropped, .ref aT_givenRooms, .ref aT_oneRoom, .ref aT_manyRooms])), (aT_begins, .inl (cy.1, 40, .inl A_begins)), (aT_ends, .inl (cy.1, 40, .inl A_ends))])) o) := by
  refine kMetXI (cc := cX4_earliest) (maxL := 3) (by decide) rfl (Nat.le_of_ble_eq_true rfl) ?_
  intro p e s m args below meth c Q A ls Qc hx hb hml hts hown hv hl kret hT htab hlocks
  replace hown : s.vm.findClass RX4 = some m.cls := hown
  replace hl : lv_has ls 3 [(0, .ref aT), (1, .int p1), (2, .int p2)] := hl
  unfold f_X4_earliest at hf
  refine lv_iload_n hx hb dX4_earliest_0 rfl (lv_at hl 1 rfl) ?_
  refine lv_iconst (v := 1) hx hb dX4_earliest_1 (by decide) ?_
  refine lv_icmp_lt (tgt := 12) hx hb dX4_earliest_2 (by decide) (fun hc1 => ?_) (fun hc1 => ?_)
  · replace hf := ite_t hf hc1
    cases hf
    exact kThrow hx hb hl9 hts hown hv hT htab hlocks (by rw [hml]; exact hl.1) (cls := "java/lang/IllegalArgumentException") (text := "length is out of range") (ik := 44) (is := 113) (ic := 48) rfl (by decide +kernel) (by decide +kernel) (by decide +kernel) (by decide +kernel) (by decide +kernel) (by decide +kernel) (by decide +kernel) dX4_earliest_12 dX4_earliest_15 dX4_earliest_16 dX4_earliest_18 dX4_earliest_21 (by decide) (by decide) (by decide) (by decide) (by decide) (by decide)
  · replace hf := ite_f hf hc1
    refine lv_iload_n hx hb dX4_earliest_5 rfl (lv_at hl 1 rfl) ?_
    refine lv_sipush (v := 1000) hx hb dX4_earliest_6 (by decide) ?_
    refine lv_icmp_le (tgt := 22) hx hb dX4_earliest_9 (by decide) (fun hc2 => ?_) (fun hc2 => ?_)
    · replace hf := ite_t hf hc2
      refine lv_iload_n hx hb dX4_earliest_22 rfl (lv_at hl 2 rfl) ?_
      refine lv_iconst (v := 1) hx hb dX4_earliest_23 (by decide) ?_
      refine lv_icmp_lt (tgt := 33) hx hb dX4_earliest_24 (by decide) (fun hc3 => ?_) (fun hc3 => ?_)
      · replace hf := ite_t hf hc3
        cases hf
        exact kThrow hx hb hl9 hts hown hv hT htab hlocks (by rw [hml]; exact hl.1) (cls := "java/lang/IllegalArgumentException") (text := "rooms is out of range") (ik := 44) (is := 115) (ic := 48) rfl (by decide +kernel) (by decide +kernel) (by decide +kernel) (by decide +kernel) (by decide +kernel) (by decide +kernel) (by decide +kernel) dX4_earliest_33 dX4_earliest_36 dX4_earliest_37 dX4_earliest_39 dX4_earliest_42 (by decide) (by decide) (by decide) (by decide) (by decide) (by decide)
      · replace hf := ite_f hf hc3
        refine lv_iload_n hx hb dX4_earliest_27 rfl (lv_at hl 2 rfl) ?_
        refine lv_bipush (v := 40) hx hb dX4_earliest_28 (by decide) ?_
        refine lv_icmp_le (tgt := 43) hx hb dX4_earliest_30 (by decide) (fun hc4 => ?_) (fun hc4 => ?_)
        · replace hf := ite_t hf hc4
          refine lv_aload_n hx hb dX4_earliest_43 rfl (lv_at hl 0 rfl) ?_
          refine lv_iconst (v := 0) hx hb dX4_earliest_44 (by decide) ?_
          refine lv_iload_n hx hb dX4_earliest_45 rfl (lv_at hl 1 rfl) ?_
          refine lv_iload_n hx hb dX4_earliest_46 rfl (lv_at hl 2 rfl) ?_
          obtain ⟨r5, hcl6, hf⟩ := xb_some hf
          refine kV_i (r := r5) (wr := []) (w2 := [(aT, .inr (4, [.ref aT_begins, .ref aT_ends, .ref aT_weights, .int f_added, .long f_presentSet, .int f_factor, .long f_offeredSet, .long f_acceptedSet, .int f_dropped, .ref aT_givenRooms, .ref aT_oneRoom, .ref aT_manyRooms])), (aT_begins, .inl (cy.1, 40, .inl A_begins)), (aT_ends, .inl (cy.1, 40, .inl A_ends))]) ⟨hx, hb, hml, hown, hts⟩ (c_X4_fits l G cy k aT aT_begins aT_ends aT_weights aT_givenRooms aT_oneRoom aT_manyRooms f_added f_presentSet f_factor f_offeredSet f_acceptedSet f_dropped A_begins A_ends 0 p1 p2 hcl6) (cwV 3 hts gX4_earliest_X4_fits rfl rfl rfl (by decide +kernel) ⟨Nat.le_of_ble_eq_true rfl, Nat.le_of_ble_eq_true rfl⟩) hv (isC := [0, 1, 2]) ⟨rfl, rfl⟩ (hv.recv 4 0 rfl rfl) [] [0, 1, 2] rfl rfl (by decide) rfl rfl rfl hl.1 rfl (Nat.le_of_ble_eq_true rfl) dX4_earliest_47 ⟨Nat.le_of_ble_eq_true rfl, Nat.le_of_ble_eq_true rfl⟩ (fun H locs hv => ?_)
          refine lv_if_eq (tgt := 55) hx hb dX4_earliest_50 (by decide) (fun hc7 => ?_) (fun hc7 => ?_)
          · replace hf := ite_t hf hc7
            refine lv_aload_n hx hb dX4_earliest_55 rfl (lv_at hl 0 rfl) ?_
            refine lv_iload_n hx hb dX4_earliest_56 rfl (lv_at hl 1 rfl) ?_
            refine lv_iload_n hx hb dX4_earliest_57 rfl (lv_at hl 2 rfl) ?_
            obtain ⟨r8, hcl9, hf⟩ := xb_some hf
            refine kV_i (r := r8) (wr := []) (w2 := [(aT, .inr (4, [.ref aT_begins, .ref aT_ends, .ref aT_weights, .int f_added, .long f_presentSet, .int f_factor, .long f_offeredSet, .long f_acceptedSet, .int f_dropped, .ref aT_givenRooms, .ref aT_oneRoom, .ref aT_manyRooms])), (aT_begins, .inl (cy.1, 40, .inl A_begins)), (aT_ends, .inl (cy.1, 40, .inl A_ends))]) ⟨hx, hb, hml, hown, hts⟩ (c_X4_earliestEndThatFits l G cy k aT aT_begins aT_ends aT_weights aT_givenRooms aT_oneRoom aT_manyRooms f_added f_presentSet f_factor f_offeredSet f_acceptedSet f_dropped A_begins A_ends p1 p2 hcl9) (cwV 2 hts gX4_earliest_X4_earliestEndThatFits rfl rfl rfl (by decide +kernel) ⟨Nat.le_of_ble_eq_true rfl, Nat.le_of_ble_eq_true rfl⟩) hv (isC := [0, 1, 2]) ⟨rfl, rfl⟩ (hv.recv 4 0 rfl rfl) [] [0, 1, 2] rfl rfl (by decide) rfl rfl rfl hl.1 rfl (Nat.le_of_ble_eq_true rfl) dX4_earliest_58 ⟨Nat.le_of_ble_eq_true rfl, Nat.le_of_ble_eq_true rfl⟩ (fun H locs hv => ?_)
            cases hf
            refine W.widen (k := 1) (n := 6) (by omega) (by omega) ?_
            exact kret _ _ _ _ _ _ rfl hv dX4_earliest_61
          · replace hf := ite_f hf hc7
            refine lv_iconst (v := 0) hx hb dX4_earliest_53 (by decide) ?_
            cases hf
            refine W.widen (k := 1) (n := 6) (by omega) (by omega) ?_
            exact kret _ _ _ _ _ _ rfl hv dX4_earliest_54
        · replace hf := ite_f hf hc4
          cases hf
          exact kThrow hx hb hl9 hts hown hv hT htab hlocks (by rw [hml]; exact hl.1) (cls := "java/lang/IllegalArgumentException") (text := "rooms is out of range") (ik := 44) (is := 115) (ic := 48) rfl (by decide +kernel) (by decide +kernel) (by decide +kernel) (by decide +kernel) (by decide +kernel) (by decide +kernel) (by decide +kernel) dX4_earliest_33 dX4_earliest_36 dX4_earliest_37 dX4_earliest_39 dX4_earliest_42 (by decide) (by decide) (by decide) (by decide) (by decide) (by decide)
    · replace hf := ite_f hf hc2
      cases hf
      exact kThrow hx hb hl9 hts hown hv hT htab hlocks (by rw [hml]; exact hl.1) (cls := "java/lang/IllegalArgumentException") (text := "length is out of range") (ik := 44) (is := 113) (ic := 48) rfl (by decide +kernel) (by decide +kernel) (by decide +kernel) (by decide +kernel) (by decide +kernel) (by decide +kernel) (by decide +kernel) dX4_earliest_12 dX4_earliest_15 dX4_earliest_16 dX4_earliest_18 dX4_earliest_21 (by decide) (by decide) (by decide) (by decide) (by decide) (by decide)

def f_X4_fillBeside_L13 (k : Nat) (v1 : Int32) (v2 : Int32) (v3 : Int32) (f_added : Int32) (f_presentSet : Int64) (A_begins : Nat → Int32) (A_ends : Nat → Int32) (A_weights : Nat → Int32) (f_oneRoom_row_byEnd : Int32) (κ : Int32 → Int32 → (Nat → Int32) → (Nat → Int32) → (Nat → Int32) → (Nat → Int32) → Option (Int32 × (Nat → Int32) × (Nat → Int32) × (Nat → Int32) × (Nat → Int32))) : Nat → Int32 → Int32 → (Nat → Int32) → (Nat → Int32) → (Nat → Int32) → (Nat → Int32) → Option (Int32 × (Nat → Int32) × (Nat → Int32) × (Nat → Int32) × (Nat → Int32))
  | 0, _, _, _, _, _, _ => none
  | n + 1, v4, f_oneRoom_row_count, A_oneRoom_row_numbers, A_oneRoom_row_begins, A_oneRoom_row_ends, A_oneRoom_row_weights => if f_added ≤ v4 then κ v4 f_oneRoom_row_count A_oneRoom_row_numbers A_oneRoom_row_begins A_oneRoom_row_ends A_oneRoom_row_weights else xi v4 40 (xb (f_X4_turned k ((A_begins v4.toNatClampNeg) - v1) v3) (fun r5 => xb (f_X4_lengthOf k v4 A_begins A_ends) (fun r7 => xb (f_X4_contains k f_presentSet v4) (fun r9 => if r9 = 0 then f_X4_fillBeside_L13 k v1 v2 v3 f_added f_presentSet A_begins A_ends A_weights f_oneRoom_row_byEnd κ n (v4 + 1) f_oneRoom_row_count A_oneRoom_row_numbers A_oneRoom_row_begins A_oneRoom_row_ends A_oneRoom_row_weights else if r5 < v2 then f_X4_fillBeside_L13 k v1 v2 v3 f_added f_presentSet A_begins A_ends A_weights f_oneRoom_row_byEnd κ n (v4 + 1) f_oneRoom_row_count A_oneRoom_row_numbers A_oneRoom_row_begins A_oneRoom_row_ends A_oneRoom_row_weights else if v3 < (r5 + r7) then f_X4_fillBeside_L13 k v1 v2 v3 f_added f_presentSet A_begins A_ends A_weights f_oneRoom_row_byEnd κ n (v4 + 1) f_oneRoom_row_count A_oneRoom_row_numbers A_oneRoom_row_begins A_oneRoom_row_ends A_oneRoom_row_weights else xi v4 40 (xb (f_X3_put k v4 r5 (r5 + r7) (A_weights v4.toNatClampNeg) f_oneRoom_row_byEnd f_oneRoom_row_count A_oneRoom_row_numbers A_oneRoom_row_begins A_oneRoom_row_ends A_oneRoom_row_weights) (fun (f_oneRoom_row_count_15, A_oneRoom_row_numbers_16, A_oneRoom_row_begins_17, A_oneRoom_row_ends_18, A_oneRoom_row_weights_19) => f_X4_fillBeside_L13 k v1 v2 v3 f_added f_presentSet A_begins A_ends A_weights f_oneRoom_row_byEnd κ n (v4 + 1) f_oneRoom_row_count_15 A_oneRoom_row_numbers_16 A_oneRoom_row_begins_17 A_oneRoom_row_ends_18 A_oneRoom_row_weights_19))))))
theorem f_X4_fillBeside_L13_z (k : Nat) (v1 : Int32) (v2 : Int32) (v3 : Int32) (f_added : Int32) (f_presentSet : Int64) (A_begins : Nat → Int32) (A_ends : Nat → Int32) (A_weights : Nat → Int32) (f_oneRoom_row_byEnd : Int32) (κ : Int32 → Int32 → (Nat → Int32) → (Nat → Int32) → (Nat → Int32) → (Nat → Int32) → Option (Int32 × (Nat → Int32) × (Nat → Int32) × (Nat → Int32) × (Nat → Int32))) (v4 : Int32) (f_oneRoom_row_count : Int32) (A_oneRoom_row_numbers : Nat → Int32) (A_oneRoom_row_begins : Nat → Int32) (A_oneRoom_row_ends : Nat → Int32) (A_oneRoom_row_weights : Nat → Int32) : f_X4_fillBeside_L13 k v1 v2 v3 f_added f_presentSet A_begins A_ends A_weights f_oneRoom_row_byEnd κ 0 v4 f_oneRoom_row_count A_oneRoom_row_numbers A_oneRoom_row_begins A_oneRoom_row_ends A_oneRoom_row_weights = none := rfl
theorem f_X4_fillBeside_L13_s (k : Nat) (v1 : Int32) (v2 : Int32) (v3 : Int32) (f_added : Int32) (f_presentSet : Int64) (A_begins : Nat → Int32) (A_ends : Nat → Int32) (A_weights : Nat → Int32) (f_oneRoom_row_byEnd : Int32) (κ : Int32 → Int32 → (Nat → Int32) → (Nat → Int32) → (Nat → Int32) → (Nat → Int32) → Option (Int32 × (Nat → Int32) × (Nat → Int32) × (Nat → Int32) × (Nat → Int32))) (n : Nat) (v4 : Int32) (f_oneRoom_row_count : Int32) (A_oneRoom_row_numbers : Nat → Int32) (A_oneRoom_row_begins : Nat → Int32) (A_oneRoom_row_ends : Nat → Int32) (A_oneRoom_row_weights : Nat → Int32) : f_X4_fillBeside_L13 k v1 v2 v3 f_added f_presentSet A_begins A_ends A_weights f_oneRoom_row_byEnd κ (n + 1) v4 f_oneRoom_row_count A_oneRoom_row_numbers A_oneRoom_row_begins A_oneRoom_row_ends A_oneRoom_row_weights = if f_added ≤ v4 then κ v4 f_oneRoom_row_count A_oneRoom_row_numbers A_oneRoom_row_begins A_oneRoom_row_ends A_oneRoom_row_weights else xi v4 40 (xb (f_X4_turned k ((A_begins v4.toNatClampNeg) - v1) v3) (fun r5 => xb (f_X4_lengthOf k v4 A_begins A_ends) (fun r7 => xb (f_X4_contains k f_presentSet v4) (fun r9 => if r9 = 0 then f_X4_fillBeside_L13 k v1 v2 v3 f_added f_presentSet A_begins A_ends A_weights f_oneRoom_row_byEnd κ n (v4 + 1) f_oneRoom_row_count A_oneRoom_row_numbers A_oneRoom_row_begins A_oneRoom_row_ends A_oneRoom_row_weights else if r5 < v2 then f_X4_fillBeside_L13 k v1 v2 v3 f_added f_presentSet A_begins A_ends A_weights f_oneRoom_row_byEnd κ n (v4 + 1) f_oneRoom_row_count A_oneRoom_row_numbers A_oneRoom_row_begins A_oneRoom_row_ends A_oneRoom_row_weights else if v3 < (r5 + r7) then f_X4_fillBeside_L13 k v1 v2 v3 f_added f_presentSet A_begins A_ends A_weights f_oneRoom_row_byEnd κ n (v4 + 1) f_oneRoom_row_count A_oneRoom_row_numbers A_oneRoom_row_begins A_oneRoom_row_ends A_oneRoom_row_weights else xi v4 40 (xb (f_X3_put k v4 r5 (r5 + r7) (A_weights v4.toNatClampNeg) f_oneRoom_row_byEnd f_oneRoom_row_count A_oneRoom_row_numbers A_oneRoom_row_begins A_oneRoom_row_ends A_oneRoom_row_weights) (fun (f_oneRoom_row_count_15, A_oneRoom_row_numbers_16, A_oneRoom_row_begins_17, A_oneRoom_row_ends_18, A_oneRoom_row_weights_19) => f_X4_fillBeside_L13 k v1 v2 v3 f_added f_presentSet A_begins A_ends A_weights f_oneRoom_row_byEnd κ n (v4 + 1) f_oneRoom_row_count_15 A_oneRoom_row_numbers_16 A_oneRoom_row_begins_17 A_oneRoom_row_ends_18 A_oneRoom_row_weights_19)))))) := rfl
def f_X4_fillBeside (k : Nat) (p1 : Int32) (p2 : Int32) (p3 : Int32) (f_added : Int32) (f_presentSet : Int64) (A_begins : Nat → Int32) (A_ends : Nat → Int32) (A_weights : Nat → Int32) (f_oneRoom_row_byEnd : Int32) (f_oneRoom_row_count : Int32) (A_oneRoom_row_numbers : Nat → Int32) (A_oneRoom_row_begins : Nat → Int32) (A_oneRoom_row_ends : Nat → Int32) (A_oneRoom_row_weights : Nat → Int32) : Option (Int32 × (Nat → Int32) × (Nat → Int32) × (Nat → Int32) × (Nat → Int32)) := xb (f_X3_clear k f_oneRoom_row_count) (fun f_oneRoom_row_count_1 => f_X4_fillBeside_L13 k p1 p2 p3 f_added f_presentSet A_begins A_ends A_weights f_oneRoom_row_byEnd (fun (v4_21 : Int32) (f_oneRoom_row_count_22 : Int32) (A_oneRoom_row_numbers_23 : Nat → Int32) (A_oneRoom_row_begins_24 : Nat → Int32) (A_oneRoom_row_ends_25 : Nat → Int32) (A_oneRoom_row_weights_26 : Nat → Int32) => some (f_oneRoom_row_count_22, A_oneRoom_row_numbers_23, A_oneRoom_row_begins_24, A_oneRoom_row_ends_25, A_oneRoom_row_weights_26)) k 0 f_oneRoom_row_count_1 A_oneRoom_row_numbers A_oneRoom_row_begins A_oneRoom_row_ends A_oneRoom_row_weights)
abbrev rm_X4_fillBeside : Room := { frames := 2, cells := 0, slots := 0, locals := 48 }
set_option maxHeartbeats 4000000 in
set_option maxRecDepth 100000 in
theorem c_X4_fillBeside (l : Launch) (G : va_G) (cy : ClassId × ClassId × ClassId) (k : Nat) (aT aT_begins aT_ends aT_weights aT_givenRooms aT_oneRoom aT_manyRooms aT_oneRoom_row aT_oneRoom_best aT_oneRoom_row_numbers aT_oneRoom_row_begins aT_oneRoom_row_ends aT_oneRoom_row_weights : Nat) (f_added : Int32) (f_presentSet : Int64) (f_factor : Int32) (f_offeredSet : Int64) (f_acceptedSet : Int64) (f_dropped : Int32) (A_begins : Nat → Int32) (A_ends : Nat → Int32) (A_weights : Nat → Int32) (f_oneRoom_row_byEnd : Int32) (f_oneRoom_row_count : Int32) (A_oneRoom_row_numbers : Nat → Int32) (A_oneRoom_row_begins : Nat → Int32) (A_oneRoom_row_ends : Nat → Int32) (A_oneRoom_row_weights : Nat → Int32) (p1 : Int32) (p2 : Int32) (p3 : Int32) {wf_oneRoom_row_count : Int32} {wA_oneRoom_row_numbers : Nat → Int32} {wA_oneRoom_row_begins : Nat → Int32} {wA_oneRoom_row_ends : Nat → Int32} {wA_oneRoom_row_weights : Nat → Int32} (hf : f_X4_fillBeside k p1 p2 p3 f_added f_presentSet A_begins A_ends A_weights f_oneRoom_row_byEnd f_oneRoom_row_count A_oneRoom_row_numbers A_oneRoom_row_begins A_oneRoom_row_ends A_oneRoom_row_weights = some (wf_oneRoom_row_count, wA_oneRoom_row_numbers, wA_oneRoom_row_begins, wA_oneRoom_row_ends, wA_oneRoom_row_weights)) : Cv l yX4_fillBeside wsX4_fillBeside rm_X4_fillBeside 0 0 G cy [.ref aT, .int p1, .int p2, .int p3] [(aT, .inr (4, [.ref aT_begins, .ref aT_ends, .ref aT_weights, .int f_added, .long f_presentSet, .int f_factor, .long f_offeredSet, .long f_acceptedSet, .int f_dropped, .ref aT_givenRooms, .ref aT_oneRoom, .ref aT_manyRooms])), (aT_begins, .inl (cy.1, 40, .inl A_begins)), (aT_ends, .inl (cy.1, 40, .inl A_ends)), (aT_weights, .inl (cy.1, 40, .inl A_weights)), (aT_oneRoom, .inr (2, [.ref aT_oneRoom_row, .ref aT_oneRoom_best])), (aT_oneRoom_row, .inr (3, [.int f_oneRoom_row_byEnd, .ref aT_oneRoom_row_numbers, .ref aT_oneRoom_row_begins, .ref aT_oneRoom_row_ends, .ref aT_oneRoom_row_weights, .int f_oneRoom_row_count])), (aT_oneRoom_row_numbers, .inl (cy.1, 40, .inl A_oneRoom_row_numbers)), (aT_oneRoom_row_begins, .inl (cy.1, 40, .inl A_oneRoom_row_begins)), (aT_oneRoom_row_ends, .inl (cy.1, 40, .inl A_oneRoom_row_ends)), (aT_oneRoom_row_weights, .inl (cy.1, 40, .inl A_oneRoom_row_weights))] [(aT, .inr (4, [.ref aT_begins, .ref aT_ends, .ref aT_weights, .int f_added, .long f_presentSet, .int f_factor, .long f_offeredSet, .long f_acceptedSet, .int f_dropped, .ref aT_givenRooms, .ref aT_oneRoom, .ref aT_manyRooms])), (aT_begins, .inl (cy.1, 40, .inl A_begins)), (aT_ends, .inl (cy.1, 40, .inl A_ends)), (aT_weights, .inl (cy.1, 40, .inl A_weights)), (aT_oneRoom, .inr (2, [.ref aT_oneRoom_row, .ref aT_oneRoom_best])), (aT_oneRoom_row, .inr (3, [.int f_oneRoom_row_byEnd, .ref aT_oneRoom_row_numbers, .ref aT_oneRoom_row_begins, .ref aT_oneRoom_row_ends, .ref aT_oneRoom_row_weights, .int wf_oneRoom_row_count])), (aT_oneRoom_row_numbers, .inl (cy.1, 40, .inl wA_oneRoom_row_numbers)), (aT_oneRoom_row_begins, .inl (cy.1, 40, .inl wA_oneRoom_row_begins)), (aT_oneRoom_row_ends, .inl (cy.1, 40, .inl wA_oneRoom_row_ends)), (aT_oneRoom_row_weights, .inl (cy.1, 40, .inl wA_oneRoom_row_weights))] := by
  refine kMetV (cc := cX4_fillBeside) (maxL := 7) (by decide) rfl (Nat.le_of_ble_eq_true rfl) ?_
  intro p e s m args below meth c Q A ls hx hb hml hts hown hv hl kret
  replace hown : s.vm.findClass RX4 = some m.cls := hown
  replace hl : lv_has ls 7 [(0, .ref aT), (1, .int p1), (2, .int p2), (3, .int p3)] := hl
  have hk33 : (Cond.fieldLink RX4 33 "Roomcolour" "oneRoom" "LRoomcolour$OneRoomPlan;").before args s = true := hts _ (by decide +kernel)
  have hinX4 : ∀ w ∈ wsX40, w ∈ wsX4_fillBeside := by decide +kernel
  have hn128 : (Cond.fieldLinkNest RX4 128 "Roomcolour$OneRoomPlan" "row" "LRoomcolour$Row;" RX4).before args s = true := va_Nw.use rfl (hv.2.2.2.2.2.1 _ (by decide +kernel))
  have hinX2 : ∀ w ∈ wsX20, w ∈ wsX4_fillBeside := by decide +kernel
  have hk53 : (Cond.fieldLink RX4 53 "Roomcolour" "added" "I").before args s = true := hts _ (by decide +kernel)
  have hk9 : (Cond.fieldLink RX4 9 "Roomcolour" "begins" "[I").before args s = true := hts _ (by decide +kernel)
  have hk61 : (Cond.fieldLink RX4 61 "Roomcolour" "presentSet" "J").before args s = true := hts _ (by decide +kernel)
  have hk16 : (Cond.fieldLink RX4 16 "Roomcolour" "weights" "[I").before args s = true := hts _ (by decide +kernel)
  have L13 : ∀ (v1 : Int32) (v2 : Int32) (v3 : Int32) (κ : Int32 → Int32 → (Nat → Int32) → (Nat → Int32) → (Nat → Int32) → (Nat → Int32) → Option (Int32 × (Nat → Int32) × (Nat → Int32) × (Nat → Int32) × (Nat → Int32))) (n : Nat) (v4 : Int32) (f_oneRoom_row_count : Int32) (A_oneRoom_row_numbers : Nat → Int32) (A_oneRoom_row_begins : Nat → Int32) (A_oneRoom_row_ends : Nat → Int32) (A_oneRoom_row_weights : Nat → Int32), f_X4_fillBeside_L13 k v1 v2 v3 f_added f_presentSet A_begins A_ends A_weights f_oneRoom_row_byEnd κ n v4 f_oneRoom_row_count A_oneRoom_row_numbers A_oneRoom_row_begins A_oneRoom_row_ends A_oneRoom_row_weights = some (wf_oneRoom_row_count, wA_oneRoom_row_numbers, wA_oneRoom_row_begins, wA_oneRoom_row_ends, wA_oneRoom_row_weights) → ∀ (H : Heap) (locs : List Loc) (ls : Array Slot), Hv s H locs G cy A [(aT, .inr (4, [.ref aT_begins, .ref aT_ends, .ref aT_weights, .int f_added, .long f_presentSet, .int f_factor, .long f_offeredSet, .long f_acceptedSet, .int f_dropped, .ref aT_givenRooms, .ref aT_oneRoom, .ref aT_manyRooms])), (aT_begins, .inl (cy.1, 40, .inl A_begins)), (aT_ends, .inl (cy.1, 40, .inl A_ends)), (aT_weights, .inl (cy.1, 40, .inl A_weights)), (aT_oneRoom, .inr (2, [.ref aT_oneRoom_row, .ref aT_oneRoom_best])), (aT_oneRoom_row, .inr (3, [.int f_oneRoom_row_byEnd, .ref aT_oneRoom_row_numbers, .ref aT_oneRoom_row_begins, .ref aT_oneRoom_row_ends, .ref aT_oneRoom_row_weights, .int f_oneRoom_row_count])), (aT_oneRoom_row_numbers, .inl (cy.1, 40, .inl A_oneRoom_row_numbers)), (aT_oneRoom_row_begins, .inl (cy.1, 40, .inl A_oneRoom_row_begins)), (aT_oneRoom_row_ends, .inl (cy.1, 40, .inl A_oneRoom_row_ends)), (aT_oneRoom_row_weights, .inl (cy.1, 40, .inl A_oneRoom_row_weights))] → lv_has ls 7 [(0, .ref aT), (1, .int v1), (2, .int v2), (3, .int v3), (4, .int v4)] → (∀ (v4 : Int32) (f_oneRoom_row_count : Int32) (A_oneRoom_row_numbers : Nat → Int32) (A_oneRoom_row_begins : Nat → Int32) (A_oneRoom_row_ends : Nat → Int32) (A_oneRoom_row_weights : Nat → Int32), κ v4 f_oneRoom_row_count A_oneRoom_row_numbers A_oneRoom_row_begins A_oneRoom_row_ends A_oneRoom_row_weights = some (wf_oneRoom_row_count, wA_oneRoom_row_numbers, wA_oneRoom_row_begins, wA_oneRoom_row_ends, wA_oneRoom_row_weights) → ∀ (H : Heap) (locs : List Loc) (ls : Array Slot), Hv s H locs G cy A [(aT, .inr (4, [.ref aT_begins, .ref aT_ends, .ref aT_weights, .int f_added, .long f_presentSet, .int f_factor, .long f_offeredSet, .long f_acceptedSet, .int f_dropped, .ref aT_givenRooms, .ref aT_oneRoom, .ref aT_manyRooms])), (aT_begins, .inl (cy.1, 40, .inl A_begins)), (aT_ends, .inl (cy.1, 40, .inl A_ends)), (aT_weights, .inl (cy.1, 40, .inl A_weights)), (aT_oneRoom, .inr (2, [.ref aT_oneRoom_row, .ref aT_oneRoom_best])), (aT_oneRoom_row, .inr (3, [.int f_oneRoom_row_byEnd, .ref aT_oneRoom_row_numbers, .ref aT_oneRoom_row_begins, .ref aT_oneRoom_row_ends, .ref aT_oneRoom_row_weights, .int f_oneRoom_row_count])), (aT_oneRoom_row_numbers, .inl (cy.1, 40, .inl A_oneRoom_row_numbers)), (aT_oneRoom_row_begins, .inl (cy.1, 40, .inl A_oneRoom_row_begins)), (aT_oneRoom_row_ends, .inl (cy.1, 40, .inl A_oneRoom_row_ends)), (aT_oneRoom_row_weights, .inl (cy.1, 40, .inl A_oneRoom_row_weights))] → lv_has ls 7 [] → W p l e rm_X4_fillBeside s m args below meth c H locs 0 0 Q (F0 m 101 ls [])) → W p l e rm_X4_fillBeside s m args below meth c H locs 0 0 Q (F0 m 13 ls []) := by
    intro v1 v2 v3 κ n
    induction n with
    | zero =>
      intro v4 f_oneRoom_row_count A_oneRoom_row_numbers A_oneRoom_row_begins A_oneRoom_row_ends A_oneRoom_row_weights hf
      rw [f_X4_fillBeside_L13_z] at hf
      cases hf
    | succ n ih =>
      intro v4 f_oneRoom_row_count A_oneRoom_row_numbers A_oneRoom_row_begins A_oneRoom_row_ends A_oneRoom_row_weights hf H locs ls hv hl hκ
      rw [f_X4_fillBeside_L13_s] at hf
      refine lv_iload hx hb dX4_fillBeside_13 (lv_at hl 4 rfl) ?_
      refine lv_aload_n hx hb dX4_fillBeside_15 rfl (lv_at hl 0 rfl) ?_
      refine kGet (v := .int f_added) (C := RX4) (T := TX4) (N := 12) hx hb hts hinX4 hown hv 0 rfl rfl 3 (by decide) hk53 (fun _ h9 => h9) rfl dX4_fillBeside_16 ?_
      refine lv_icmp_ge (tgt := 101) hx hb dX4_fillBeside_19 (by decide) (fun hc3 => ?_) (fun hc3 => ?_)
      · replace hf := ite_t hf hc3
        exact hκ v4 f_oneRoom_row_count A_oneRoom_row_numbers A_oneRoom_row_begins A_oneRoom_row_ends A_oneRoom_row_weights hf _ _ _ hv (lv_sub hl [] rfl)
      · replace hf := ite_f hf hc3
        refine lv_aload_n hx hb dX4_fillBeside_22 rfl (lv_at hl 0 rfl) ?_
        refine kGet (v := .ref aT_begins) (C := RX4) (T := TX4) (N := 12) hx hb hts hinX4 hown hv 0 rfl rfl 0 (by decide) hk9 (fun _ h9 => h9) rfl dX4_fillBeside_23 ?_
        refine lv_iload hx hb dX4_fillBeside_26 (lv_at hl 4 rfl) ?_
        obtain ⟨hi4, hf⟩ := xi_some hf
        refine kIald hx hb hv 1 rfl hi4 dX4_fillBeside_28 ?_
        refine lv_iload_n hx hb dX4_fillBeside_29 rfl (lv_at hl 1 rfl) ?_
        refine lv_isub hx hb dX4_fillBeside_30 ?_
        refine lv_iload_n hx hb dX4_fillBeside_31 rfl (lv_at hl 3 rfl) ?_
        obtain ⟨r5, hcl6, hf⟩ := xb_some hf
        refine kS_i (r := r5) ⟨hx, hb, hml, hown, hts⟩ (c_X4_turned l G cy k ((A_begins v4.toNatClampNeg) - v1) v3 hcl6) (va_cwS 2 hts gX4_fillBeside_X4_turned rfl rfl rfl (by decide +kernel) ⟨Nat.le_of_ble_eq_true rfl, Nat.le_of_ble_eq_true rfl⟩) hv rfl hl.1 rfl (Nat.le_of_ble_eq_true rfl) dX4_fillBeside_32 ⟨Nat.le_of_ble_eq_true rfl, Nat.le_of_ble_eq_true rfl⟩ (fun H locs hv => ?_)
        refine lv_istore (lv' := [(5, .int r5), (0, .ref aT), (1, .int v1), (2, .int v2), (3, .int v3), (4, .int v4)]) hx hb dX4_fillBeside_35 hl (by decide) rfl (fun ls hl => ?_)
        refine lv_iload hx hb dX4_fillBeside_37 (lv_at hl 0 rfl) ?_
        refine lv_aload_n hx hb dX4_fillBeside_39 rfl (lv_at hl 1 rfl) ?_
        refine lv_iload hx hb dX4_fillBeside_40 (lv_at hl 5 rfl) ?_
        obtain ⟨r7, hcl8, hf⟩ := xb_some hf
        refine kV_i (r := r7) (wr := [(aT_weights, .inl (cy.1, 40, .inl A_weights)), (aT_oneRoom, .inr (2, [.ref aT_oneRoom_row, .ref aT_oneRoom_best])), (aT_oneRoom_row, .inr (3, [.int f_oneRoom_row_byEnd, .ref aT_oneRoom_row_numbers, .ref aT_oneRoom_row_begins, .ref aT_oneRoom_row_ends, .ref aT_oneRoom_row_weights, .int f_oneRoom_row_count])), (aT_oneRoom_row_numbers, .inl (cy.1, 40, .inl A_oneRoom_row_numbers)), (aT_oneRoom_row_begins, .inl (cy.1, 40, .inl A_oneRoom_row_begins)), (aT_oneRoom_row_ends, .inl (cy.1, 40, .inl A_oneRoom_row_ends)), (aT_oneRoom_row_weights, .inl (cy.1, 40, .inl A_oneRoom_row_weights))]) (w2 := [(aT, .inr (4, [.ref aT_begins, .ref aT_ends, .ref aT_weights, .int f_added, .long f_presentSet, .int f_factor, .long f_offeredSet, .long f_acceptedSet, .int f_dropped, .ref aT_givenRooms, .ref aT_oneRoom, .ref aT_manyRooms])), (aT_begins, .inl (cy.1, 40, .inl A_begins)), (aT_ends, .inl (cy.1, 40, .inl A_ends)), (aT_weights, .inl (cy.1, 40, .inl A_weights)), (aT_oneRoom, .inr (2, [.ref aT_oneRoom_row, .ref aT_oneRoom_best])), (aT_oneRoom_row, .inr (3, [.int f_oneRoom_row_byEnd, .ref aT_oneRoom_row_numbers, .ref aT_oneRoom_row_begins, .ref aT_oneRoom_row_ends, .ref aT_oneRoom_row_weights, .int f_oneRoom_row_count])), (aT_oneRoom_row_numbers, .inl (cy.1, 40, .inl A_oneRoom_row_numbers)), (aT_oneRoom_row_begins, .inl (cy.1, 40, .inl A_oneRoom_row_begins)), (aT_oneRoom_row_ends, .inl (cy.1, 40, .inl A_oneRoom_row_ends)), (aT_oneRoom_row_weights, .inl (cy.1, 40, .inl A_oneRoom_row_weights))]) ⟨hx, hb, hml, hown, hts⟩ (c_X4_lengthOf l G cy k aT aT_begins aT_ends aT_weights aT_givenRooms aT_oneRoom aT_manyRooms f_added f_presentSet f_factor f_offeredSet f_acceptedSet f_dropped A_begins A_ends v4 hcl8) (cwV 1 hts gX4_fillBeside_X4_lengthOf rfl rfl rfl (by decide +kernel) ⟨Nat.le_of_ble_eq_true rfl, Nat.le_of_ble_eq_true rfl⟩) hv (isC := [0, 1, 2]) ⟨rfl, rfl⟩ (hv.recv 4 0 rfl rfl) [3, 4, 5, 6, 7, 8, 9] [7, 8, 9, 0, 1, 2, 3, 4, 5, 6] rfl rfl (by decide) rfl rfl rfl hl.1 rfl (Nat.le_of_ble_eq_true rfl) dX4_fillBeside_42 ⟨Nat.le_of_ble_eq_true rfl, Nat.le_of_ble_eq_true rfl⟩ (fun H locs hv => ?_)
        refine lv_iadd hx hb dX4_fillBeside_45 ?_
        refine lv_istore (lv' := [(6, .int (r5 + r7)), (5, .int r5), (0, .ref aT), (1, .int v1), (2, .int v2), (3, .int v3), (4, .int v4)]) hx hb dX4_fillBeside_46 hl (by decide) rfl (fun ls hl => ?_)
        refine lv_aload_n hx hb dX4_fillBeside_48 rfl (lv_at hl 2 rfl) ?_
        refine kGet (v := .long f_presentSet) (C := RX4) (T := TX4) (N := 12) hx hb hts hinX4 hown hv 0 rfl rfl 4 (by decide) hk61 (fun _ h9 => h9) rfl dX4_fillBeside_49 ?_
        refine lv_iload hx hb dX4_fillBeside_52 (lv_at hl 6 rfl) ?_
        obtain ⟨r9, hcl10, hf⟩ := xb_some hf
        refine kS_i (r := r9) ⟨hx, hb, hml, hown, hts⟩ (c_X4_contains l G cy k f_presentSet v4 hcl10) (va_cwS 2 hts gX4_fillBeside_X4_contains rfl rfl rfl (by decide +kernel) ⟨Nat.le_of_ble_eq_true rfl, Nat.le_of_ble_eq_true rfl⟩) hv rfl hl.1 rfl (Nat.le_of_ble_eq_true rfl) dX4_fillBeside_54 ⟨Nat.le_of_ble_eq_true rfl, Nat.le_of_ble_eq_true rfl⟩ (fun H locs hv => ?_)
        refine lv_if_eq (tgt := 95) hx hb dX4_fillBeside_57 (by decide) (fun hc11 => ?_) (fun hc11 => ?_)
        · replace hf := ite_t hf hc11
          refine lv_iinc (v := v4 + 1) (lv' := [(4, .int (v4 + 1)), (6, .int (r5 + r7)), (5, .int r5), (0, .ref aT), (1, .int v1), (2, .int v2), (3, .int v3)]) hx hb dX4_fillBeside_95 hl (k := 6) rfl rfl (by decide) rfl (fun ls hl => ?_)
          refine lv_goto (tgt := 13) hx hb dX4_fillBeside_98 (by decide) ?_
          exact ih (v4 + 1) f_oneRoom_row_count A_oneRoom_row_numbers A_oneRoom_row_begins A_oneRoom_row_ends A_oneRoom_row_weights hf _ _ _ hv (lv_sub hl [3, 4, 5, 6, 0] rfl) hκ
        · replace hf := ite_f hf hc11
          refine lv_iload hx hb dX4_fillBeside_60 (lv_at hl 1 rfl) ?_
          refine lv_iload_n hx hb dX4_fillBeside_62 rfl (lv_at hl 4 rfl) ?_
          refine lv_icmp_lt (tgt := 95) hx hb dX4_fillBeside_63 (by decide) (fun hc12 => ?_) (fun hc12 => ?_)
          · replace hf := ite_t hf hc12
            refine lv_iinc (v := v4 + 1) (lv' := [(4, .int (v4 + 1)), (6, .int (r5 + r7)), (5, .int r5), (0, .ref aT), (1, .int v1), (2, .int v2), (3, .int v3)]) hx hb dX4_fillBeside_95 hl (k := 6) rfl rfl (by decide) rfl (fun ls hl => ?_)
            refine lv_goto (tgt := 13) hx hb dX4_fillBeside_98 (by decide) ?_
            exact ih (v4 + 1) f_oneRoom_row_count A_oneRoom_row_numbers A_oneRoom_row_begins A_oneRoom_row_ends A_oneRoom_row_weights hf _ _ _ hv (lv_sub hl [3, 4, 5, 6, 0] rfl) hκ
          · replace hf := ite_f hf hc12
            refine lv_iload hx hb dX4_fillBeside_66 (lv_at hl 0 rfl) ?_
            refine lv_iload_n hx hb dX4_fillBeside_68 rfl (lv_at hl 5 rfl) ?_
            refine lv_icmp_gt (tgt := 95) hx hb dX4_fillBeside_69 (by decide) (fun hc13 => ?_) (fun hc13 => ?_)
            · replace hf := ite_t hf hc13
              refine lv_iinc (v := v4 + 1) (lv' := [(4, .int (v4 + 1)), (6, .int (r5 + r7)), (5, .int r5), (0, .ref aT), (1, .int v1), (2, .int v2), (3, .int v3)]) hx hb dX4_fillBeside_95 hl (k := 6) rfl rfl (by decide) rfl (fun ls hl => ?_)
              refine lv_goto (tgt := 13) hx hb dX4_fillBeside_98 (by decide) ?_
              exact ih (v4 + 1) f_oneRoom_row_count A_oneRoom_row_numbers A_oneRoom_row_begins A_oneRoom_row_ends A_oneRoom_row_weights hf _ _ _ hv (lv_sub hl [3, 4, 5, 6, 0] rfl) hκ
            · replace hf := ite_f hf hc13
              refine lv_aload_n hx hb dX4_fillBeside_72 rfl (lv_at hl 2 rfl) ?_
              refine kGet (v := .ref aT_oneRoom) (C := RX4) (T := TX4) (N := 12) hx hb hts hinX4 hown hv 0 rfl rfl 10 (by decide) hk33 (fun _ h9 => h9) rfl dX4_fillBeside_73 ?_
              refine kGetN (v := .ref aT_oneRoom_row) (C := RX2) (T := TX2) (N := 2) hx hb hts hinX2 hown hv 4 rfl rfl 0 (by decide) hn128 (fun _ h9 => h9) rfl dX4_fillBeside_76 ?_
              refine lv_iload hx hb dX4_fillBeside_79 (lv_at hl 6 rfl) ?_
              refine lv_iload hx hb dX4_fillBeside_81 (lv_at hl 1 rfl) ?_
              refine lv_iload hx hb dX4_fillBeside_83 (lv_at hl 0 rfl) ?_
              refine lv_aload_n hx hb dX4_fillBeside_85 rfl (lv_at hl 2 rfl) ?_
              refine kGet (v := .ref aT_weights) (C := RX4) (T := TX4) (N := 12) hx hb hts hinX4 hown hv 0 rfl rfl 2 (by decide) hk16 (fun _ h9 => h9) rfl dX4_fillBeside_86 ?_
              refine lv_iload hx hb dX4_fillBeside_89 (lv_at hl 6 rfl) ?_
              obtain ⟨hi14, hf⟩ := xi_some hf
              refine kIald hx hb hv 3 rfl hi14 dX4_fillBeside_91 ?_
              obtain ⟨⟨f_oneRoom_row_count_15, A_oneRoom_row_numbers_16, A_oneRoom_row_begins_17, A_oneRoom_row_ends_18, A_oneRoom_row_weights_19⟩, hcl20, hf⟩ := xb_some hf
              dsimp only at hf
              refine kV_v (wr := [(aT, .inr (4, [.ref aT_begins, .ref aT_ends, .ref aT_weights, .int f_added, .long f_presentSet, .int f_factor, .long f_offeredSet, .long f_acceptedSet, .int f_dropped, .ref aT_givenRooms, .ref aT_oneRoom, .ref aT_manyRooms])), (aT_begins, .inl (cy.1, 40, .inl A_begins)), (aT_ends, .inl (cy.1, 40, .inl A_ends)), (aT_weights, .inl (cy.1, 40, .inl A_weights)), (aT_oneRoom, .inr (2, [.ref aT_oneRoom_row, .ref aT_oneRoom_best]))]) (w2 := [(aT, .inr (4, [.ref aT_begins, .ref aT_ends, .ref aT_weights, .int f_added, .long f_presentSet, .int f_factor, .long f_offeredSet, .long f_acceptedSet, .int f_dropped, .ref aT_givenRooms, .ref aT_oneRoom, .ref aT_manyRooms])), (aT_begins, .inl (cy.1, 40, .inl A_begins)), (aT_ends, .inl (cy.1, 40, .inl A_ends)), (aT_weights, .inl (cy.1, 40, .inl A_weights)), (aT_oneRoom, .inr (2, [.ref aT_oneRoom_row, .ref aT_oneRoom_best])), (aT_oneRoom_row, .inr (3, [.int f_oneRoom_row_byEnd, .ref aT_oneRoom_row_numbers, .ref aT_oneRoom_row_begins, .ref aT_oneRoom_row_ends, .ref aT_oneRoom_row_weights, .int f_oneRoom_row_count_15])), (aT_oneRoom_row_numbers, .inl (cy.1, 40, .inl A_oneRoom_row_numbers_16)), (aT_oneRoom_row_begins, .inl (cy.1, 40, .inl A_oneRoom_row_begins_17)), (aT_oneRoom_row_ends, .inl (cy.1, 40, .inl A_oneRoom_row_ends_18)), (aT_oneRoom_row_weights, .inl (cy.1, 40, .inl A_oneRoom_row_weights_19))]) ⟨hx, hb, hml, hown, hts⟩ (c_X3_put l G cy k aT_oneRoom_row aT_oneRoom_row_numbers aT_oneRoom_row_begins aT_oneRoom_row_ends aT_oneRoom_row_weights f_oneRoom_row_byEnd f_oneRoom_row_count A_oneRoom_row_numbers A_oneRoom_row_begins A_oneRoom_row_ends A_oneRoom_row_weights v4 r5 (r5 + r7) (A_weights v4.toNatClampNeg) hcl20) (cwV 4 hts gX4_fillBeside_X3_put rfl rfl rfl (by decide +kernel) ⟨Nat.le_of_ble_eq_true rfl, Nat.le_of_ble_eq_true rfl⟩) hv (isC := [5, 6, 7, 8, 9]) ⟨rfl, rfl⟩ (hv.recv 3 5 rfl rfl) [0, 1, 2, 3, 4] [0, 1, 2, 3, 4, 5, 6, 7, 8, 9] rfl rfl (by decide) rfl rfl rfl hl.1 rfl (Nat.le_of_ble_eq_true rfl) dX4_fillBeside_92 ⟨Nat.le_of_ble_eq_true rfl, Nat.le_of_ble_eq_true rfl⟩ (fun H locs hv => ?_)
              refine lv_iinc (v := v4 + 1) (lv' := [(4, .int (v4 + 1)), (6, .int (r5 + r7)), (5, .int r5), (0, .ref aT), (1, .int v1), (2, .int v2), (3, .int v3)]) hx hb dX4_fillBeside_95 hl (k := 6) rfl rfl (by decide) rfl (fun ls hl => ?_)
              refine lv_goto (tgt := 13) hx hb dX4_fillBeside_98 (by decide) ?_
              exact ih (v4 + 1) f_oneRoom_row_count_15 A_oneRoom_row_numbers_16 A_oneRoom_row_begins_17 A_oneRoom_row_ends_18 A_oneRoom_row_weights_19 hf _ _ _ hv (lv_sub hl [3, 4, 5, 6, 0] rfl) hκ
  unfold f_X4_fillBeside at hf
  refine lv_aload_n hx hb dX4_fillBeside_0 rfl (lv_at hl 0 rfl) ?_
  refine kGet (v := .ref aT_oneRoom) (C := RX4) (T := TX4) (N := 12) hx hb hts hinX4 hown hv 0 rfl rfl 10 (by decide) hk33 (fun _ h9 => h9) rfl dX4_fillBeside_1 ?_
  refine kGetN (v := .ref aT_oneRoom_row) (C := RX2) (T := TX2) (N := 2) hx hb hts hinX2 hown hv 4 rfl rfl 0 (by decide) hn128 (fun _ h9 => h9) rfl dX4_fillBeside_4 ?_
  obtain ⟨f_oneRoom_row_count_1, hcl2, hf⟩ := xb_some hf
  refine kV_v (wr := [(aT, .inr (4, [.ref aT_begins, .ref aT_ends, .ref aT_weights, .int f_added, .long f_presentSet, .int f_factor, .long f_offeredSet, .long f_acceptedSet, .int f_dropped, .ref aT_givenRooms, .ref aT_oneRoom, .ref aT_manyRooms])), (aT_begins, .inl (cy.1, 40, .inl A_begins)), (aT_ends, .inl (cy.1, 40, .inl A_ends)), (aT_weights, .inl (cy.1, 40, .inl A_weights)), (aT_oneRoom, .inr (2, [.ref aT_oneRoom_row, .ref aT_oneRoom_best])), (aT_oneRoom_row_numbers, .inl (cy.1, 40, .inl A_oneRoom_row_numbers)), (aT_oneRoom_row_begins, .inl (cy.1, 40, .inl A_oneRoom_row_begins)), (aT_oneRoom_row_ends, .inl (cy.1, 40, .inl A_oneRoom_row_ends)), (aT_oneRoom_row_weights, .inl (cy.1, 40, .inl A_oneRoom_row_weights))]) (w2 := [(aT, .inr (4, [.ref aT_begins, .ref aT_ends, .ref aT_weights, .int f_added, .long f_presentSet, .int f_factor, .long f_offeredSet, .long f_acceptedSet, .int f_dropped, .ref aT_givenRooms, .ref aT_oneRoom, .ref aT_manyRooms])), (aT_begins, .inl (cy.1, 40, .inl A_begins)), (aT_ends, .inl (cy.1, 40, .inl A_ends)), (aT_weights, .inl (cy.1, 40, .inl A_weights)), (aT_oneRoom, .inr (2, [.ref aT_oneRoom_row, .ref aT_oneRoom_best])), (aT_oneRoom_row, .inr (3, [.int f_oneRoom_row_byEnd, .ref aT_oneRoom_row_numbers, .ref aT_oneRoom_row_begins, .ref aT_oneRoom_row_ends, .ref aT_oneRoom_row_weights, .int f_oneRoom_row_count_1])), (aT_oneRoom_row_numbers, .inl (cy.1, 40, .inl A_oneRoom_row_numbers)), (aT_oneRoom_row_begins, .inl (cy.1, 40, .inl A_oneRoom_row_begins)), (aT_oneRoom_row_ends, .inl (cy.1, 40, .inl A_oneRoom_row_ends)), (aT_oneRoom_row_weights, .inl (cy.1, 40, .inl A_oneRoom_row_weights))]) ⟨hx, hb, hml, hown, hts⟩ (c_X3_clear l G cy k aT_oneRoom_row aT_oneRoom_row_numbers aT_oneRoom_row_begins aT_oneRoom_row_ends aT_oneRoom_row_weights f_oneRoom_row_byEnd f_oneRoom_row_count hcl2) (cwV 0 hts gX4_fillBeside_X3_clear rfl rfl rfl (by decide +kernel) ⟨Nat.le_of_ble_eq_true rfl, Nat.le_of_ble_eq_true rfl⟩) hv (isC := [5]) ⟨rfl, rfl⟩ (hv.recv 3 5 rfl rfl) [0, 1, 2, 3, 4, 6, 7, 8, 9] [0, 1, 2, 3, 4, 9, 5, 6, 7, 8] rfl rfl (by decide) rfl rfl rfl hl.1 rfl (Nat.le_of_ble_eq_true rfl) dX4_fillBeside_7 ⟨Nat.le_of_ble_eq_true rfl, Nat.le_of_ble_eq_true rfl⟩ (fun H locs hv => ?_)
  refine lv_iconst (v := 0) hx hb dX4_fillBeside_10 (by decide) ?_
  refine lv_istore (lv' := [(4, .int 0), (0, .ref aT), (1, .int p1), (2, .int p2), (3, .int p3)]) hx hb dX4_fillBeside_11 hl (by decide) rfl (fun ls hl => ?_)
  refine L13 _ _ _ _ _ _ _ _ _ _ _ hf _ _ _ hv (lv_sub hl [1, 2, 3, 4, 0] rfl) (fun v4_21 f_oneRoom_row_count_22 A_oneRoom_row_numbers_23 A_oneRoom_row_begins_24 A_oneRoom_row_ends_25 A_oneRoom_row_weights_26 hf H locs ls hv hl => ?_)
  try dsimp only at hf
  cases hf
  exact kret _ _ _ _ hv dX4_fillBeside_101

def f_X4_heaviest (k : Nat) (f_added : Int32) (f_presentSet : Int64) (A_begins : Nat → Int32) (A_ends : Nat → Int32) (A_weights : Nat → Int32) (f_oneRoom_row_byEnd : Int32) (f_oneRoom_row_count : Int32) (A_oneRoom_row_numbers : Nat → Int32) (A_oneRoom_row_begins : Nat → Int32) (A_oneRoom_row_ends : Nat → Int32) (A_oneRoom_row_weights : Nat → Int32) (A_oneRoom_best : Nat → Int32) : Option (Int32 × Int32 × (Nat → Int32) × (Nat → Int32) × (Nat → Int32) × (Nat → Int32) × (Nat → Int32)) := xb (f_X4_heaviestForOne k f_presentSet f_added A_begins A_ends A_weights f_oneRoom_row_byEnd f_oneRoom_row_count A_oneRoom_row_numbers A_oneRoom_row_begins A_oneRoom_row_ends A_oneRoom_row_weights A_oneRoom_best) (fun (r1, f_oneRoom_row_count_2, A_oneRoom_row_numbers_3, A_oneRoom_row_begins_4, A_oneRoom_row_ends_5, A_oneRoom_row_weights_6, A_oneRoom_best_7) => some (r1, f_oneRoom_row_count_2, A_oneRoom_row_numbers_3, A_oneRoom_row_begins_4, A_oneRoom_row_ends_5, A_oneRoom_row_weights_6, A_oneRoom_best_7))
abbrev rm_X4_heaviest : Room := { frames := 4, cells := 0, slots := 0, locals := 94 }
set_option maxHeartbeats 4000000 in
set_option maxRecDepth 100000 in
theorem c_X4_heaviest (l : Launch) (G : va_G) (cy : ClassId × ClassId × ClassId) (k : Nat) (aT aT_begins aT_ends aT_weights aT_givenRooms aT_oneRoom aT_manyRooms aT_oneRoom_row aT_oneRoom_best aT_oneRoom_row_numbers aT_oneRoom_row_begins aT_oneRoom_row_ends aT_oneRoom_row_weights : Nat) (f_added : Int32) (f_presentSet : Int64) (f_factor : Int32) (f_offeredSet : Int64) (f_acceptedSet : Int64) (f_dropped : Int32) (A_begins : Nat → Int32) (A_ends : Nat → Int32) (A_weights : Nat → Int32) (f_oneRoom_row_byEnd : Int32) (f_oneRoom_row_count : Int32) (A_oneRoom_row_numbers : Nat → Int32) (A_oneRoom_row_begins : Nat → Int32) (A_oneRoom_row_ends : Nat → Int32) (A_oneRoom_row_weights : Nat → Int32) (A_oneRoom_best : Nat → Int32) {r : Int32} {wf_oneRoom_row_count : Int32} {wA_oneRoom_row_numbers : Nat → Int32} {wA_oneRoom_row_begins : Nat → Int32} {wA_oneRoom_row_ends : Nat → Int32} {wA_oneRoom_row_weights : Nat → Int32} {wA_oneRoom_best : Nat → Int32} (hf : f_X4_heaviest k f_added f_presentSet A_begins A_ends A_weights f_oneRoom_row_byEnd f_oneRoom_row_count A_oneRoom_row_numbers A_oneRoom_row_begins A_oneRoom_row_ends A_oneRoom_row_weights A_oneRoom_best = some (r, wf_oneRoom_row_count, wA_oneRoom_row_numbers, wA_oneRoom_row_begins, wA_oneRoom_row_ends, wA_oneRoom_row_weights, wA_oneRoom_best)) : Ci l yX4_heaviest wsX4_heaviest rm_X4_heaviest 0 0 G cy [.ref aT] [(aT, .inr (4, [.ref aT_begins, .ref aT_ends, .ref aT_weights, .int f_added, .long f_presentSet, .int f_factor, .long f_offeredSet, .long f_acceptedSet, .int f_dropped, .ref aT_givenRooms, .ref aT_oneRoom, .ref aT_manyRooms])), (aT_begins, .inl (cy.1, 40, .inl A_begins)), (aT_ends, .inl (cy.1, 40, .inl A_ends)), (aT_weights, .inl (cy.1, 40, .inl A_weights)), (aT_oneRoom, .inr (2, [.ref aT_oneRoom_row, .ref aT_oneRoom_best])), (aT_oneRoom_row, .inr (3, [.int f_oneRoom_row_byEnd, .ref aT_oneRoom_row_numbers, .ref aT_oneRoom_row_begins, .ref aT_oneRoom_row_ends, .ref aT_oneRoom_row_weights, .int f_oneRoom_row_count])), (aT_oneRoom_row_numbers, .inl (cy.1, 40, .inl A_oneRoom_row_numbers)), (aT_oneRoom_row_begins, .inl (cy.1, 40, .inl A_oneRoom_row_begins)), (aT_oneRoom_row_ends, .inl (cy.1, 40, .inl A_oneRoom_row_ends)), (aT_oneRoom_row_weights, .inl (cy.1, 40, .inl A_oneRoom_row_weights)), (aT_oneRoom_best, .inl (cy.1, 41, .inl A_oneRoom_best))] [(aT, .inr (4, [.ref aT_begins, .ref aT_ends, .ref aT_weights, .int f_added, .long f_presentSet, .int f_factor, .long f_offeredSet, .long f_acceptedSet, .int f_dropped, .ref aT_givenRooms, .ref aT_oneRoom, .ref aT_manyRooms])), (aT_begins, .inl (cy.1, 40, .inl A_begins)), (aT_ends, .inl (cy.1, 40, .inl A_ends)), (aT_weights, .inl (cy.1, 40, .inl A_weights)), (aT_oneRoom, .inr (2, [.ref aT_oneRoom_row, .ref aT_oneRoom_best])), (aT_oneRoom_row, .inr (3, [.int f_oneRoom_row_byEnd, .ref aT_oneRoom_row_numbers, .ref aT_oneRoom_row_begins, .ref aT_oneRoom_row_ends, .ref aT_oneRoom_row_weights, .int wf_oneRoom_row_count])), (aT_oneRoom_row_numbers, .inl (cy.1, 40, .inl wA_oneRoom_row_numbers)), (aT_oneRoom_row_begins, .inl (cy.1, 40, .inl wA_oneRoom_row_begins)), (aT_oneRoom_row_ends, .inl (cy.1, 40, .inl wA_oneRoom_row_ends)), (aT_oneRoom_row_weights, .inl (cy.1, 40, .inl wA_oneRoom_row_weights)), (aT_oneRoom_best, .inl (cy.1, 41, .inl wA_oneRoom_best))] r := by
  refine kMetI (cc := cX4_heaviest) (maxL := 1) (by decide) rfl (Nat.le_of_ble_eq_true rfl) ?_
  intro p e s m args below meth c Q A ls hx hb hml hts hown hv hl kret
  replace hown : s.vm.findClass RX4 = some m.cls := hown
  replace hl : lv_has ls 1 [(0, .ref aT)] := hl
  have hk61 : (Cond.fieldLink RX4 61 "Roomcolour" "presentSet" "J").before args s = true := hts _ (by decide +kernel)
  have hinX4 : ∀ w ∈ wsX40, w ∈ wsX4_heaviest := by decide +kernel
  unfold f_X4_heaviest at hf
  refine lv_aload_n hx hb dX4_heaviest_0 rfl (lv_at hl 0 rfl) ?_
  refine lv_aload_n hx hb dX4_heaviest_1 rfl (lv_at hl 0 rfl) ?_
  refine kGet (v := .long f_presentSet) (C := RX4) (T := TX4) (N := 12) hx hb hts hinX4 hown hv 0 rfl rfl 4 (by decide) hk61 (fun _ h9 => h9) rfl dX4_heaviest_2 ?_
  obtain ⟨⟨r1, f_oneRoom_row_count_2, A_oneRoom_row_numbers_3, A_oneRoom_row_begins_4, A_oneRoom_row_ends_5, A_oneRoom_row_weights_6, A_oneRoom_best_7⟩, hcl8, hf⟩ := xb_some hf
  dsimp only at hf
  refine kV_i (r := r1) (wr := []) (w2 := [(aT, .inr (4, [.ref aT_begins, .ref aT_ends, .ref aT_weights, .int f_added, .long f_presentSet, .int f_factor, .long f_offeredSet, .long f_acceptedSet, .int f_dropped, .ref aT_givenRooms, .ref aT_oneRoom, .ref aT_manyRooms])), (aT_begins, .inl (cy.1, 40, .inl A_begins)), (aT_ends, .inl (cy.1, 40, .inl A_ends)), (aT_weights, .inl (cy.1, 40, .inl A_weights)), (aT_oneRoom, .inr (2, [.ref aT_oneRoom_row, .ref aT_oneRoom_best])), (aT_oneRoom_row, .inr (3, [.int f_oneRoom_row_byEnd, .ref aT_oneRoom_row_numbers, .ref aT_oneRoom_row_begins, .ref aT_oneRoom_row_ends, .ref aT_oneRoom_row_weights, .int f_oneRoom_row_count_2])), (aT_oneRoom_row_numbers, .inl (cy.1, 40, .inl A_oneRoom_row_numbers_3)), (aT_oneRoom_row_begins, .inl (cy.1, 40, .inl A_oneRoom_row_begins_4)), (aT_oneRoom_row_ends, .inl (cy.1, 40, .inl A_oneRoom_row_ends_5)), (aT_oneRoom_row_weights, .inl (cy.1, 40, .inl A_oneRoom_row_weights_6)), (aT_oneRoom_best, .inl (cy.1, 41, .inl A_oneRoom_best_7))]) ⟨hx, hb, hml, hown, hts⟩ (c_X4_heaviestForOne l G cy k aT aT_begins aT_ends aT_weights aT_givenRooms aT_oneRoom aT_manyRooms aT_oneRoom_row aT_oneRoom_best aT_oneRoom_row_numbers aT_oneRoom_row_begins aT_oneRoom_row_ends aT_oneRoom_row_weights f_added f_presentSet f_factor f_offeredSet f_acceptedSet f_dropped A_begins A_ends A_weights f_oneRoom_row_byEnd f_oneRoom_row_count A_oneRoom_row_numbers A_oneRoom_row_begins A_oneRoom_row_ends A_oneRoom_row_weights A_oneRoom_best f_presentSet hcl8) (cwV 1 hts gX4_heaviest_X4_heaviestForOne rfl rfl rfl (by decide +kernel) ⟨Nat.le_of_ble_eq_true rfl, Nat.le_of_ble_eq_true rfl⟩) hv (isC := [0, 1, 2, 3, 4, 5, 6, 7, 8, 9, 10]) ⟨rfl, rfl⟩ (hv.recv 4 0 rfl rfl) [] [0, 1, 2, 3, 4, 5, 6, 7, 8, 9, 10] rfl rfl (by decide) rfl rfl rfl hl.1 rfl (Nat.le_of_ble_eq_true rfl) dX4_heaviest_5 ⟨Nat.le_of_ble_eq_true rfl, Nat.le_of_ble_eq_true rfl⟩ (fun H locs hv => ?_)
  cases hf
  exact kret _ _ _ _ hv dX4_heaviest_8

def f_X4_heaviestBeside (k : Nat) (p1 : Int32) (p2 : Int32) (p3 : Int32) (f_added : Int32) (f_presentSet : Int64) (A_begins : Nat → Int32) (A_ends : Nat → Int32) (A_weights : Nat → Int32) (f_oneRoom_row_byEnd : Int32) (f_oneRoom_row_count : Int32) (A_oneRoom_row_numbers : Nat → Int32) (A_oneRoom_row_begins : Nat → Int32) (A_oneRoom_row_ends : Nat → Int32) (A_oneRoom_row_weights : Nat → Int32) (A_oneRoom_best : Nat → Int32) : Option (Int32 × Int32 × (Nat → Int32) × (Nat → Int32) × (Nat → Int32) × (Nat → Int32) × (Nat → Int32)) := xb (f_X4_fillBeside k p1 p2 p3 f_added f_presentSet A_begins A_ends A_weights f_oneRoom_row_byEnd f_oneRoom_row_count A_oneRoom_row_numbers A_oneRoom_row_begins A_oneRoom_row_ends A_oneRoom_row_weights) (fun (f_oneRoom_row_count_1, A_oneRoom_row_numbers_2, A_oneRoom_row_begins_3, A_oneRoom_row_ends_4, A_oneRoom_row_weights_5) => xb (f_X2_greatestWeight k f_oneRoom_row_count_1 A_oneRoom_row_begins_3 A_oneRoom_row_ends_4 A_oneRoom_row_weights_5 A_oneRoom_best) (fun (r7, A_oneRoom_best_8) => some (r7, f_oneRoom_row_count_1, A_oneRoom_row_numbers_2, A_oneRoom_row_begins_3, A_oneRoom_row_ends_4, A_oneRoom_row_weights_5, A_oneRoom_best_8)))
abbrev rm_X4_heaviestBeside : Room := { frames := 3, cells := 0, slots := 0, locals := 74 }
set_option maxHeartbeats 4000000 in
set_option maxRecDepth 100000 in
theorem c_X4_heaviestBeside (l : Launch) (G : va_G) (cy : ClassId × ClassId × ClassId) (k : Nat) (aT aT_begins aT_ends aT_weights aT_givenRooms aT_oneRoom aT_manyRooms aT_oneRoom_row aT_oneRoom_best aT_oneRoom_row_numbers aT_oneRoom_row_begins aT_oneRoom_row_ends aT_oneRoom_row_weights : Nat) (f_added : Int32) (f_presentSet : Int64) (f_factor : Int32) (f_offeredSet : Int64) (f_acceptedSet : Int64) (f_dropped : Int32) (A_begins : Nat → Int32) (A_ends : Nat → Int32) (A_weights : Nat → Int32) (f_oneRoom_row_byEnd : Int32) (f_oneRoom_row_count : Int32) (A_oneRoom_row_numbers : Nat → Int32) (A_oneRoom_row_begins : Nat → Int32) (A_oneRoom_row_ends : Nat → Int32) (A_oneRoom_row_weights : Nat → Int32) (A_oneRoom_best : Nat → Int32) (p1 : Int32) (p2 : Int32) (p3 : Int32) {r : Int32} {wf_oneRoom_row_count : Int32} {wA_oneRoom_row_numbers : Nat → Int32} {wA_oneRoom_row_begins : Nat → Int32} {wA_oneRoom_row_ends : Nat → Int32} {wA_oneRoom_row_weights : Nat → Int32} {wA_oneRoom_best : Nat → Int32} (hf : f_X4_heaviestBeside k p1 p2 p3 f_added f_presentSet A_begins A_ends A_weights f_oneRoom_row_byEnd f_oneRoom_row_count A_oneRoom_row_numbers A_oneRoom_row_begins A_oneRoom_row_ends A_oneRoom_row_weights A_oneRoom_best = some (r, wf_oneRoom_row_count, wA_oneRoom_row_numbers, wA_oneRoom_row_begins, wA_oneRoom_row_ends, wA_oneRoom_row_weights, wA_oneRoom_best)) : Ci l yX4_heaviestBeside wsX4_heaviestBeside rm_X4_heaviestBeside 0 0 G cy [.ref aT, .int p1, .int p2, .int p3] [(aT, .inr (4, [.ref aT_begins, .ref aT_ends, .ref aT_weights, .int f_added, .long f_presentSet, .int f_factor, .long f_offeredSet, .long f_acceptedSet, .int f_dropped, .ref aT_givenRooms, .ref aT_oneRoom, .ref aT_manyRooms])), (aT_begins, .inl (cy.1, 40, .inl A_begins)), (aT_ends, .inl (cy.1, 40, .inl A_ends)), (aT_weights, .inl (cy.1, 40, .inl A_weights)), (aT_oneRoom, .inr (2, [.ref aT_oneRoom_row, .ref aT_oneRoom_best])), (aT_oneRoom_row, .inr (3, [.int f_oneRoom_row_byEnd, .ref aT_oneRoom_row_numbers, .ref aT_oneRoom_row_begins, .ref aT_oneRoom_row_ends, .ref aT_oneRoom_row_weights, .int f_oneRoom_row_count])), (aT_oneRoom_row_numbers, .inl (cy.1, 40, .inl A_oneRoom_row_numbers)), (aT_oneRoom_row_begins, .inl (cy.1, 40, .inl A_oneRoom_row_begins)), (aT_oneRoom_row_ends, .inl (cy.1, 40, .inl A_oneRoom_row_ends)), (aT_oneRoom_row_weights, .inl (cy.1, 40, .inl A_oneRoom_row_weights)), (aT_oneRoom_best, .inl (cy.1, 41, .inl A_oneRoom_best))] [(aT, .inr (4, [.ref aT_begins, .ref aT_ends, .ref aT_weights, .int f_added, .long f_presentSet, .int f_factor, .long f_offeredSet, .long f_acceptedSet, .int f_dropped, .ref aT_givenRooms, .ref aT_oneRoom, .ref aT_manyRooms])), (aT_begins, .inl (cy.1, 40, .inl A_begins)), (aT_ends, .inl (cy.1, 40, .inl A_ends)), (aT_weights, .inl (cy.1, 40, .inl A_weights)), (aT_oneRoom, .inr (2, [.ref aT_oneRoom_row, .ref aT_oneRoom_best])), (aT_oneRoom_row, .inr (3, [.int f_oneRoom_row_byEnd, .ref aT_oneRoom_row_numbers, .ref aT_oneRoom_row_begins, .ref aT_oneRoom_row_ends, .ref aT_oneRoom_row_weights, .int wf_oneRoom_row_count])), (aT_oneRoom_row_numbers, .inl (cy.1, 40, .inl wA_oneRoom_row_numbers)), (aT_oneRoom_row_begins, .inl (cy.1, 40, .inl wA_oneRoom_row_begins)), (aT_oneRoom_row_ends, .inl (cy.1, 40, .inl wA_oneRoom_row_ends)), (aT_oneRoom_row_weights, .inl (cy.1, 40, .inl wA_oneRoom_row_weights)), (aT_oneRoom_best, .inl (cy.1, 41, .inl wA_oneRoom_best))] r := by
  refine kMetI (cc := cX4_heaviestBeside) (maxL := 4) (by decide) rfl (Nat.le_of_ble_eq_true rfl) ?_
  intro p e s m args below meth c Q A ls hx hb hml hts hown hv hl kret
  replace hown : s.vm.findClass RX4 = some m.cls := hown
  replace hl : lv_has ls 4 [(0, .ref aT), (1, .int p1), (2, .int p2), (3, .int p3)] := hl
  have hk33 : (Cond.fieldLink RX4 33 "Roomcolour" "oneRoom" "LRoomcolour$OneRoomPlan;").before args s = true := hts _ (by decide +kernel)
  have hinX4 : ∀ w ∈ wsX40, w ∈ wsX4_heaviestBeside := by decide +kernel
  unfold f_X4_heaviestBeside at hf
  refine lv_aload_n hx hb dX4_heaviestBeside_0 rfl (lv_at hl 0 rfl) ?_
  refine lv_iload_n hx hb dX4_heaviestBeside_1 rfl (lv_at hl 1 rfl) ?_
  refine lv_iload_n hx hb dX4_heaviestBeside_2 rfl (lv_at hl 2 rfl) ?_
  refine lv_iload_n hx hb dX4_heaviestBeside_3 rfl (lv_at hl 3 rfl) ?_
  obtain ⟨⟨f_oneRoom_row_count_1, A_oneRoom_row_numbers_2, A_oneRoom_row_begins_3, A_oneRoom_row_ends_4, A_oneRoom_row_weights_5⟩, hcl6, hf⟩ := xb_some hf
  dsimp only at hf
  refine kV_v (wr := [(aT_oneRoom_best, .inl (cy.1, 41, .inl A_oneRoom_best))]) (w2 := [(aT, .inr (4, [.ref aT_begins, .ref aT_ends, .ref aT_weights, .int f_added, .long f_presentSet, .int f_factor, .long f_offeredSet, .long f_acceptedSet, .int f_dropped, .ref aT_givenRooms, .ref aT_oneRoom, .ref aT_manyRooms])), (aT_begins, .inl (cy.1, 40, .inl A_begins)), (aT_ends, .inl (cy.1, 40, .inl A_ends)), (aT_weights, .inl (cy.1, 40, .inl A_weights)), (aT_oneRoom, .inr (2, [.ref aT_oneRoom_row, .ref aT_oneRoom_best])), (aT_oneRoom_row, .inr (3, [.int f_oneRoom_row_byEnd, .ref aT_oneRoom_row_numbers, .ref aT_oneRoom_row_begins, .ref aT_oneRoom_row_ends, .ref aT_oneRoom_row_weights, .int f_oneRoom_row_count_1])), (aT_oneRoom_row_numbers, .inl (cy.1, 40, .inl A_oneRoom_row_numbers_2)), (aT_oneRoom_row_begins, .inl (cy.1, 40, .inl A_oneRoom_row_begins_3)), (aT_oneRoom_row_ends, .inl (cy.1, 40, .inl A_oneRoom_row_ends_4)), (aT_oneRoom_row_weights, .inl (cy.1, 40, .inl A_oneRoom_row_weights_5)), (aT_oneRoom_best, .inl (cy.1, 41, .inl A_oneRoom_best))]) ⟨hx, hb, hml, hown, hts⟩ (c_X4_fillBeside l G cy k aT aT_begins aT_ends aT_weights aT_givenRooms aT_oneRoom aT_manyRooms aT_oneRoom_row aT_oneRoom_best aT_oneRoom_row_numbers aT_oneRoom_row_begins aT_oneRoom_row_ends aT_oneRoom_row_weights f_added f_presentSet f_factor f_offeredSet f_acceptedSet f_dropped A_begins A_ends A_weights f_oneRoom_row_byEnd f_oneRoom_row_count A_oneRoom_row_numbers A_oneRoom_row_begins A_oneRoom_row_ends A_oneRoom_row_weights p1 p2 p3 hcl6) (cwV 3 hts gX4_heaviestBeside_X4_fillBeside rfl rfl rfl (by decide +kernel) ⟨Nat.le_of_ble_eq_true rfl, Nat.le_of_ble_eq_true rfl⟩) hv (isC := [0, 1, 2, 3, 4, 5, 6, 7, 8, 9]) ⟨rfl, rfl⟩ (hv.recv 4 0 rfl rfl) [10] [1, 2, 3, 4, 5, 6, 7, 8, 9, 10, 0] rfl rfl (by decide) rfl rfl rfl hl.1 rfl (Nat.le_of_ble_eq_true rfl) dX4_heaviestBeside_4 ⟨Nat.le_of_ble_eq_true rfl, Nat.le_of_ble_eq_true rfl⟩ (fun H locs hv => ?_)
  refine lv_aload_n hx hb dX4_heaviestBeside_7 rfl (lv_at hl 0 rfl) ?_
  refine kGet (v := .ref aT_oneRoom) (C := RX4) (T := TX4) (N := 12) hx hb hts hinX4 hown hv 0 rfl rfl 10 (by decide) hk33 (fun _ h9 => h9) rfl dX4_heaviestBeside_8 ?_
  obtain ⟨⟨r7, A_oneRoom_best_8⟩, hcl9, hf⟩ := xb_some hf
  dsimp only at hf
  refine kV_i (r := r7) (wr := [(aT, .inr (4, [.ref aT_begins, .ref aT_ends, .ref aT_weights, .int f_added, .long f_presentSet, .int f_factor, .long f_offeredSet, .long f_acceptedSet, .int f_dropped, .ref aT_givenRooms, .ref aT_oneRoom, .ref aT_manyRooms])), (aT_begins, .inl (cy.1, 40, .inl A_begins)), (aT_ends, .inl (cy.1, 40, .inl A_ends)), (aT_weights, .inl (cy.1, 40, .inl A_weights)), (aT_oneRoom_row_numbers, .inl (cy.1, 40, .inl A_oneRoom_row_numbers_2))]) (w2 := [(aT, .inr (4, [.ref aT_begins, .ref aT_ends, .ref aT_weights, .int f_added, .long f_presentSet, .int f_factor, .long f_offeredSet, .long f_acceptedSet, .int f_dropped, .ref aT_givenRooms, .ref aT_oneRoom, .ref aT_manyRooms])), (aT_begins, .inl (cy.1, 40, .inl A_begins)), (aT_ends, .inl (cy.1, 40, .inl A_ends)), (aT_weights, .inl (cy.1, 40, .inl A_weights)), (aT_oneRoom, .inr (2, [.ref aT_oneRoom_row, .ref aT_oneRoom_best])), (aT_oneRoom_row, .inr (3, [.int f_oneRoom_row_byEnd, .ref aT_oneRoom_row_numbers, .ref aT_oneRoom_row_begins, .ref aT_oneRoom_row_ends, .ref aT_oneRoom_row_weights, .int f_oneRoom_row_count_1])), (aT_oneRoom_row_numbers, .inl (cy.1, 40, .inl A_oneRoom_row_numbers_2)), (aT_oneRoom_row_begins, .inl (cy.1, 40, .inl A_oneRoom_row_begins_3)), (aT_oneRoom_row_ends, .inl (cy.1, 40, .inl A_oneRoom_row_ends_4)), (aT_oneRoom_row_weights, .inl (cy.1, 40, .inl A_oneRoom_row_weights_5)), (aT_oneRoom_best, .inl (cy.1, 41, .inl A_oneRoom_best_8))]) ⟨hx, hb, hml, hown, hts⟩ (c_X2_greatestWeight l G cy k aT_oneRoom aT_oneRoom_row aT_oneRoom_best aT_oneRoom_row_numbers aT_oneRoom_row_begins aT_oneRoom_row_ends aT_oneRoom_row_weights f_oneRoom_row_byEnd f_oneRoom_row_count_1 A_oneRoom_row_begins_3 A_oneRoom_row_ends_4 A_oneRoom_row_weights_5 A_oneRoom_best hcl9) (cwV 0 hts gX4_heaviestBeside_X2_greatestWeight rfl rfl rfl (by decide +kernel) ⟨Nat.le_of_ble_eq_true rfl, Nat.le_of_ble_eq_true rfl⟩) hv (isC := [4, 5, 7, 8, 9, 10]) ⟨rfl, rfl⟩ (hv.recv 2 4 rfl rfl) [0, 1, 2, 3, 6] [0, 1, 2, 3, 5, 6, 4, 7, 8, 9, 10] rfl rfl (by decide) rfl rfl rfl hl.1 rfl (Nat.le_of_ble_eq_true rfl) dX4_heaviestBeside_11 ⟨Nat.le_of_ble_eq_true rfl, Nat.le_of_ble_eq_true rfl⟩ (fun H locs hv => ?_)
  cases hf
  exact kret _ _ _ _ hv dX4_heaviestBeside_14

def f_X4_heaviestForMany (k : Nat) (p1 : Int64) (p3 : Int32) (f_added : Int32) (A_begins : Nat → Int32) (A_ends : Nat → Int32) (A_weights : Nat → Int32) (f_manyRooms_row_byEnd : Int32) (f_manyRooms_row_count : Int32) (A_manyRooms_row_numbers : Nat → Int32) (A_manyRooms_row_begins : Nat → Int32) (A_manyRooms_row_ends : Nat → Int32) (A_manyRooms_row_weights : Nat → Int32) (A_manyRooms_stopAfter : Nat → Int32) (A_manyRooms_taken : Nat → Int32) (A_manyRooms_waiting : Nat → Int32) (A_manyRooms_gain : Nat → Int32) (A_manyRooms_cameFrom : Nat → Int32) (A_manyRooms_cameByTaking : Nat → Int32) : Option (Int32 × Int32 × (Nat → Int32) × (Nat → Int32) × (Nat → Int32) × (Nat → Int32) × (Nat → Int32) × (Nat → Int32) × (Nat → Int32) × (Nat → Int32) × (Nat → Int32) × (Nat → Int32)) := xb (f_X4_fill k p1 f_added A_begins A_ends A_weights f_manyRooms_row_byEnd f_manyRooms_row_count A_manyRooms_row_numbers A_manyRooms_row_begins A_manyRooms_row_ends A_manyRooms_row_weights) (fun (f_manyRooms_row_count_1, A_manyRooms_row_numbers_2, A_manyRooms_row_begins_3, A_manyRooms_row_ends_4, A_manyRooms_row_weights_5) => xb (f_X1_greatestWeight k p3 f_manyRooms_row_count_1 A_manyRooms_row_begins_3 A_manyRooms_row_ends_4 A_manyRooms_row_weights_5 A_manyRooms_stopAfter A_manyRooms_taken A_manyRooms_waiting A_manyRooms_gain A_manyRooms_cameFrom A_manyRooms_cameByTaking) (fun (r7, A_manyRooms_stopAfter_8, A_manyRooms_taken_9, A_manyRooms_waiting_10, A_manyRooms_gain_11, A_manyRooms_cameFrom_12, A_manyRooms_cameByTaking_13) => some (r7, f_manyRooms_row_count_1, A_manyRooms_row_numbers_2, A_manyRooms_row_begins_3, A_manyRooms_row_ends_4, A_manyRooms_row_weights_5, A_manyRooms_stopAfter_8, A_manyRooms_taken_9, A_manyRooms_waiting_10, A_manyRooms_gain_11, A_manyRooms_cameFrom_12, A_manyRooms_cameByTaking_13)))
abbrev rm_X4_heaviestForMany : Room := { frames := 4, cells := 0, slots := 0, locals := 91 }
set_option maxHeartbeats 4000000 in
set_option maxRecDepth 100000 in
theorem c_X4_heaviestForMany (l : Launch) (G : va_G) (cy : ClassId × ClassId × ClassId) (k : Nat) (aT aT_begins aT_ends aT_weights aT_givenRooms aT_oneRoom aT_manyRooms aT_manyRooms_row aT_manyRooms_stopAfter aT_manyRooms_taken aT_manyRooms_waiting aT_manyRooms_gain aT_manyRooms_cameFrom aT_manyRooms_cameByTaking aT_manyRooms_row_numbers aT_manyRooms_row_begins aT_manyRooms_row_ends aT_manyRooms_row_weights : Nat) (f_added : Int32) (f_presentSet : Int64) (f_factor : Int32) (f_offeredSet : Int64) (f_acceptedSet : Int64) (f_dropped : Int32) (A_begins : Nat → Int32) (A_ends : Nat → Int32) (A_weights : Nat → Int32) (f_manyRooms_row_byEnd : Int32) (f_manyRooms_row_count : Int32) (A_manyRooms_row_numbers : Nat → Int32) (A_manyRooms_row_begins : Nat → Int32) (A_manyRooms_row_ends : Nat → Int32) (A_manyRooms_row_weights : Nat → Int32) (A_manyRooms_stopAfter : Nat → Int32) (A_manyRooms_taken : Nat → Int32) (A_manyRooms_waiting : Nat → Int32) (A_manyRooms_gain : Nat → Int32) (A_manyRooms_cameFrom : Nat → Int32) (A_manyRooms_cameByTaking : Nat → Int32) (p1 : Int64) (p3 : Int32) {r : Int32} {wf_manyRooms_row_count : Int32} {wA_manyRooms_row_numbers : Nat → Int32} {wA_manyRooms_row_begins : Nat → Int32} {wA_manyRooms_row_ends : Nat → Int32} {wA_manyRooms_row_weights : Nat → Int32} {wA_manyRooms_stopAfter : Nat → Int32} {wA_manyRooms_taken : Nat → Int32} {wA_manyRooms_waiting : Nat → Int32} {wA_manyRooms_gain : Nat → Int32} {wA_manyRooms_cameFrom : Nat → Int32} {wA_manyRooms_cameByTaking : Nat → Int32} (hf : f_X4_heaviestForMany k p1 p3 f_added A_begins A_ends A_weights f_manyRooms_row_byEnd f_manyRooms_row_count A_manyRooms_row_numbers A_manyRooms_row_begins A_manyRooms_row_ends A_manyRooms_row_weights A_manyRooms_stopAfter A_manyRooms_taken A_manyRooms_waiting A_manyRooms_gain A_manyRooms_cameFrom A_manyRooms_cameByTaking = some (r, wf_manyRooms_row_count, wA_manyRooms_row_numbers, wA_manyRooms_row_begins, wA_manyRooms_row_ends, wA_manyRooms_row_weights, wA_manyRooms_stopAfter, wA_manyRooms_taken, wA_manyRooms_waiting, wA_manyRooms_gain, wA_manyRooms_cameFrom, wA_manyRooms_cameByTaking)) : Ci l yX4_heaviestForMany wsX4_heaviestForMany rm_X4_heaviestForMany 0 0 G cy [.ref aT, .long p1, .int p3] [(aT, .inr (4, [.ref aT_begins, .ref aT_ends, .ref aT_weights, .int f_added, .long f_presentSet, .int f_factor, .long f_offeredSet, .long f_acceptedSet, .int f_dropped, .ref aT_givenRooms, .ref aT_oneRoom, .ref aT_manyRooms])), (aT_begins, .inl (cy.1, 40, .inl A_begins)), (aT_ends, .inl (cy.1, 40, .inl A_ends)), (aT_weights, .inl (cy.1, 40, .inl A_weights)), (aT_manyRooms, .inr (1, [.ref aT_manyRooms_row, .ref aT_manyRooms_stopAfter, .ref aT_manyRooms_taken, .ref aT_manyRooms_waiting, .ref aT_manyRooms_gain, .ref aT_manyRooms_cameFrom, .ref aT_manyRooms_cameByTaking])), (aT_manyRooms_row, .inr (3, [.int f_manyRooms_row_byEnd, .ref aT_manyRooms_row_numbers, .ref aT_manyRooms_row_begins, .ref aT_manyRooms_row_ends, .ref aT_manyRooms_row_weights, .int f_manyRooms_row_count])), (aT_manyRooms_row_numbers, .inl (cy.1, 40, .inl A_manyRooms_row_numbers)), (aT_manyRooms_row_begins, .inl (cy.1, 40, .inl A_manyRooms_row_begins)), (aT_manyRooms_row_ends, .inl (cy.1, 40, .inl A_manyRooms_row_ends)), (aT_manyRooms_row_weights, .inl (cy.1, 40, .inl A_manyRooms_row_weights)), (aT_manyRooms_stopAfter, .inl (cy.1, 40, .inl A_manyRooms_stopAfter)), (aT_manyRooms_taken, .inl (cy.2.1, 40, .inl A_manyRooms_taken)), (aT_manyRooms_waiting, .inl (cy.1, 40, .inl A_manyRooms_waiting)), (aT_manyRooms_gain, .inl (cy.1, 41, .inl A_manyRooms_gain)), (aT_manyRooms_cameFrom, .inl (cy.1, 41, .inl A_manyRooms_cameFrom)), (aT_manyRooms_cameByTaking, .inl (cy.2.1, 41, .inl A_manyRooms_cameByTaking))] [(aT, .inr (4, [.ref aT_begins, .ref aT_ends, .ref aT_weights, .int f_added, .long f_presentSet, .int f_factor, .long f_offeredSet, .long f_acceptedSet, .int f_dropped, .ref aT_givenRooms, .ref aT_oneRoom, .ref aT_manyRooms])), (aT_begins, .inl (cy.1, 40, .inl A_begins)), (aT_ends, .inl (cy.1, 40, .inl A_ends)), (aT_weights, .inl (cy.1, 40, .inl A_weights)), (aT_manyRooms, .inr (1, [.ref aT_manyRooms_row, .ref aT_manyRooms_stopAfter, .ref aT_manyRooms_taken, .ref aT_manyRooms_waiting, .ref aT_manyRooms_gain, .ref aT_manyRooms_cameFrom, .ref aT_manyRooms_cameByTaking])), (aT_manyRooms_row, .inr (3, [.int f_manyRooms_row_byEnd, .ref aT_manyRooms_row_numbers, .ref aT_manyRooms_row_begins, .ref aT_manyRooms_row_ends, .ref aT_manyRooms_row_weights, .int wf_manyRooms_row_count])), (aT_manyRooms_row_numbers, .inl (cy.1, 40, .inl wA_manyRooms_row_numbers)), (aT_manyRooms_row_begins, .inl (cy.1, 40, .inl wA_manyRooms_row_begins)), (aT_manyRooms_row_ends, .inl (cy.1, 40, .inl wA_manyRooms_row_ends)), (aT_manyRooms_row_weights, .inl (cy.1, 40, .inl wA_manyRooms_row_weights)), (aT_manyRooms_stopAfter, .inl (cy.1, 40, .inl wA_manyRooms_stopAfter)), (aT_manyRooms_taken, .inl (cy.2.1, 40, .inl wA_manyRooms_taken)), (aT_manyRooms_waiting, .inl (cy.1, 40, .inl wA_manyRooms_waiting)), (aT_manyRooms_gain, .inl (cy.1, 41, .inl wA_manyRooms_gain)), (aT_manyRooms_cameFrom, .inl (cy.1, 41, .inl wA_manyRooms_cameFrom)), (aT_manyRooms_cameByTaking, .inl (cy.2.1, 41, .inl wA_manyRooms_cameByTaking))] r := by
  refine kMetI (cc := cX4_heaviestForMany) (maxL := 4) (by decide) rfl (Nat.le_of_ble_eq_true rfl) ?_
  intro p e s m args below meth c Q A ls hx hb hml hts hown hv hl kret
  replace hown : s.vm.findClass RX4 = some m.cls := hown
  replace hl : lv_has ls 4 [(0, .ref aT), (1, .long p1), (3, .int p3)] := hl
  have hk40 : (Cond.fieldLink RX4 40 "Roomcolour" "manyRooms" "LRoomcolour$ManyRoomsPlan;").before args s = true := hts _ (by decide +kernel)
  have hinX4 : ∀ w ∈ wsX40, w ∈ wsX4_heaviestForMany := by decide +kernel
  have hn203 : (Cond.fieldLinkNest RX4 203 "Roomcolour$ManyRoomsPlan" "row" "LRoomcolour$Row;" RX4).before args s = true := va_Nw.use rfl (hv.2.2.2.2.2.1 _ (by decide +kernel))
  have hinX1 : ∀ w ∈ wsX10, w ∈ wsX4_heaviestForMany := by decide +kernel
  unfold f_X4_heaviestForMany at hf
  refine lv_aload_n hx hb dX4_heaviestForMany_0 rfl (lv_at hl 0 rfl) ?_
  refine lv_aload_n hx hb dX4_heaviestForMany_1 rfl (lv_at hl 0 rfl) ?_
  refine kGet (v := .ref aT_manyRooms) (C := RX4) (T := TX4) (N := 12) hx hb hts hinX4 hown hv 0 rfl rfl 11 (by decide) hk40 (fun _ h9 => h9) rfl dX4_heaviestForMany_2 ?_
  refine kGetN (v := .ref aT_manyRooms_row) (C := RX1) (T := TX1) (N := 7) hx hb hts hinX1 hown hv 4 rfl rfl 0 (by decide) hn203 (fun _ h9 => h9) rfl dX4_heaviestForMany_5 ?_
  refine lv_lload_n hx hb dX4_heaviestForMany_8 rfl (lv_at hl 1 rfl) ?_
  obtain ⟨⟨f_manyRooms_row_count_1, A_manyRooms_row_numbers_2, A_manyRooms_row_begins_3, A_manyRooms_row_ends_4, A_manyRooms_row_weights_5⟩, hcl6, hf⟩ := xb_some hf
  dsimp only at hf
  refine kV_v (wr := [(aT_manyRooms, .inr (1, [.ref aT_manyRooms_row, .ref aT_manyRooms_stopAfter, .ref aT_manyRooms_taken, .ref aT_manyRooms_waiting, .ref aT_manyRooms_gain, .ref aT_manyRooms_cameFrom, .ref aT_manyRooms_cameByTaking])), (aT_manyRooms_stopAfter, .inl (cy.1, 40, .inl A_manyRooms_stopAfter)), (aT_manyRooms_taken, .inl (cy.2.1, 40, .inl A_manyRooms_taken)), (aT_manyRooms_waiting, .inl (cy.1, 40, .inl A_manyRooms_waiting)), (aT_manyRooms_gain, .inl (cy.1, 41, .inl A_manyRooms_gain)), (aT_manyRooms_cameFrom, .inl (cy.1, 41, .inl A_manyRooms_cameFrom)), (aT_manyRooms_cameByTaking, .inl (cy.2.1, 41, .inl A_manyRooms_cameByTaking))]) (w2 := [(aT, .inr (4, [.ref aT_begins, .ref aT_ends, .ref aT_weights, .int f_added, .long f_presentSet, .int f_factor, .long f_offeredSet, .long f_acceptedSet, .int f_dropped, .ref aT_givenRooms, .ref aT_oneRoom, .ref aT_manyRooms])), (aT_begins, .inl (cy.1, 40, .inl A_begins)), (aT_ends, .inl (cy.1, 40, .inl A_ends)), (aT_weights, .inl (cy.1, 40, .inl A_weights)), (aT_manyRooms, .inr (1, [.ref aT_manyRooms_row, .ref aT_manyRooms_stopAfter, .ref aT_manyRooms_taken, .ref aT_manyRooms_waiting, .ref aT_manyRooms_gain, .ref aT_manyRooms_cameFrom, .ref aT_manyRooms_cameByTaking])), (aT_manyRooms_row, .inr (3, [.int f_manyRooms_row_byEnd, .ref aT_manyRooms_row_numbers, .ref aT_manyRooms_row_begins, .ref aT_manyRooms_row_ends, .ref aT_manyRooms_row_weights, .int f_manyRooms_row_count_1])), (aT_manyRooms_row_numbers, .inl (cy.1, 40, .inl A_manyRooms_row_numbers_2)), (aT_manyRooms_row_begins, .inl (cy.1, 40, .inl A_manyRooms_row_begins_3)), (aT_manyRooms_row_ends, .inl (cy.1, 40, .inl A_manyRooms_row_ends_4)), (aT_manyRooms_row_weights, .inl (cy.1, 40, .inl A_manyRooms_row_weights_5)), (aT_manyRooms_stopAfter, .inl (cy.1, 40, .inl A_manyRooms_stopAfter)), (aT_manyRooms_taken, .inl (cy.2.1, 40, .inl A_manyRooms_taken)), (aT_manyRooms_waiting, .inl (cy.1, 40, .inl A_manyRooms_waiting)), (aT_manyRooms_gain, .inl (cy.1, 41, .inl A_manyRooms_gain)), (aT_manyRooms_cameFrom, .inl (cy.1, 41, .inl A_manyRooms_cameFrom)), (aT_manyRooms_cameByTaking, .inl (cy.2.1, 41, .inl A_manyRooms_cameByTaking))]) ⟨hx, hb, hml, hown, hts⟩ (c_X4_fill l G cy k aT aT_begins aT_ends aT_weights aT_givenRooms aT_oneRoom aT_manyRooms aT_manyRooms_row aT_manyRooms_row_numbers aT_manyRooms_row_begins aT_manyRooms_row_ends aT_manyRooms_row_weights f_added f_presentSet f_factor f_offeredSet f_acceptedSet f_dropped A_begins A_ends A_weights f_manyRooms_row_byEnd f_manyRooms_row_count A_manyRooms_row_numbers A_manyRooms_row_begins A_manyRooms_row_ends A_manyRooms_row_weights p1 hcl6) (cwV 2 hts gX4_heaviestForMany_X4_fill rfl rfl rfl (by decide +kernel) ⟨Nat.le_of_ble_eq_true rfl, Nat.le_of_ble_eq_true rfl⟩) hv (isC := [0, 1, 2, 3, 5, 6, 7, 8, 9]) ⟨rfl, rfl⟩ (hv.recv 4 0 rfl rfl) [4, 10, 11, 12, 13, 14, 15] [7, 8, 9, 10, 0, 11, 12, 13, 14, 15, 1, 2, 3, 4, 5, 6] rfl rfl (by decide) rfl rfl rfl hl.1 rfl (Nat.le_of_ble_eq_true rfl) dX4_heaviestForMany_9 ⟨Nat.le_of_ble_eq_true rfl, Nat.le_of_ble_eq_true rfl⟩ (fun H locs hv => ?_)
  refine lv_aload_n hx hb dX4_heaviestForMany_12 rfl (lv_at hl 0 rfl) ?_
  refine kGet (v := .ref aT_manyRooms) (C := RX4) (T := TX4) (N := 12) hx hb hts hinX4 hown hv 0 rfl rfl 11 (by decide) hk40 (fun _ h9 => h9) rfl dX4_heaviestForMany_13 ?_
  refine lv_iload_n hx hb dX4_heaviestForMany_16 rfl (lv_at hl 2 rfl) ?_
  obtain ⟨⟨r7, A_manyRooms_stopAfter_8, A_manyRooms_taken_9, A_manyRooms_waiting_10, A_manyRooms_gain_11, A_manyRooms_cameFrom_12, A_manyRooms_cameByTaking_13⟩, hcl14, hf⟩ := xb_some hf
  dsimp only at hf
  refine kV_i (r := r7) (wr := [(aT, .inr (4, [.ref aT_begins, .ref aT_ends, .ref aT_weights, .int f_added, .long f_presentSet, .int f_factor, .long f_offeredSet, .long f_acceptedSet, .int f_dropped, .ref aT_givenRooms, .ref aT_oneRoom, .ref aT_manyRooms])), (aT_begins, .inl (cy.1, 40, .inl A_begins)), (aT_ends, .inl (cy.1, 40, .inl A_ends)), (aT_weights, .inl (cy.1, 40, .inl A_weights)), (aT_manyRooms_row_numbers, .inl (cy.1, 40, .inl A_manyRooms_row_numbers_2))]) (w2 := [(aT, .inr (4, [.ref aT_begins, .ref aT_ends, .ref aT_weights, .int f_added, .long f_presentSet, .int f_factor, .long f_offeredSet, .long f_acceptedSet, .int f_dropped, .ref aT_givenRooms, .ref aT_oneRoom, .ref aT_manyRooms])), (aT_begins, .inl (cy.1, 40, .inl A_begins)), (aT_ends, .inl (cy.1, 40, .inl A_ends)), (aT_weights, .inl (cy.1, 40, .inl A_weights)), (aT_manyRooms, .inr (1, [.ref aT_manyRooms_row, .ref aT_manyRooms_stopAfter, .ref aT_manyRooms_taken, .ref aT_manyRooms_waiting, .ref aT_manyRooms_gain, .ref aT_manyRooms_cameFrom, .ref aT_manyRooms_cameByTaking])), (aT_manyRooms_row, .inr (3, [.int f_manyRooms_row_byEnd, .ref aT_manyRooms_row_numbers, .ref aT_manyRooms_row_begins, .ref aT_manyRooms_row_ends, .ref aT_manyRooms_row_weights, .int f_manyRooms_row_count_1])), (aT_manyRooms_row_numbers, .inl (cy.1, 40, .inl A_manyRooms_row_numbers_2)), (aT_manyRooms_row_begins, .inl (cy.1, 40, .inl A_manyRooms_row_begins_3)), (aT_manyRooms_row_ends, .inl (cy.1, 40, .inl A_manyRooms_row_ends_4)), (aT_manyRooms_row_weights, .inl (cy.1, 40, .inl A_manyRooms_row_weights_5)), (aT_manyRooms_stopAfter, .inl (cy.1, 40, .inl A_manyRooms_stopAfter_8)), (aT_manyRooms_taken, .inl (cy.2.1, 40, .inl A_manyRooms_taken_9)), (aT_manyRooms_waiting, .inl (cy.1, 40, .inl A_manyRooms_waiting_10)), (aT_manyRooms_gain, .inl (cy.1, 41, .inl A_manyRooms_gain_11)), (aT_manyRooms_cameFrom, .inl (cy.1, 41, .inl A_manyRooms_cameFrom_12)), (aT_manyRooms_cameByTaking, .inl (cy.2.1, 41, .inl A_manyRooms_cameByTaking_13))]) ⟨hx, hb, hml, hown, hts⟩ (c_X1_greatestWeight l G cy k aT_manyRooms aT_manyRooms_row aT_manyRooms_stopAfter aT_manyRooms_taken aT_manyRooms_waiting aT_manyRooms_gain aT_manyRooms_cameFrom aT_manyRooms_cameByTaking aT_manyRooms_row_numbers aT_manyRooms_row_begins aT_manyRooms_row_ends aT_manyRooms_row_weights f_manyRooms_row_byEnd f_manyRooms_row_count_1 A_manyRooms_row_begins_3 A_manyRooms_row_ends_4 A_manyRooms_row_weights_5 A_manyRooms_stopAfter A_manyRooms_taken A_manyRooms_waiting A_manyRooms_gain A_manyRooms_cameFrom A_manyRooms_cameByTaking p3 hcl14) (cwV 1 hts gX4_heaviestForMany_X1_greatestWeight rfl rfl rfl (by decide +kernel) ⟨Nat.le_of_ble_eq_true rfl, Nat.le_of_ble_eq_true rfl⟩) hv (isC := [4, 5, 7, 8, 9, 10, 11, 12, 13, 14, 15]) ⟨rfl, rfl⟩ (hv.recv 1 4 rfl rfl) [0, 1, 2, 3, 6] [0, 1, 2, 3, 5, 6, 4, 7, 8, 9, 10, 11, 12, 13, 14, 15] rfl rfl (by decide) rfl rfl rfl hl.1 rfl (Nat.le_of_ble_eq_true rfl) dX4_heaviestForMany_17 ⟨Nat.le_of_ble_eq_true rfl, Nat.le_of_ble_eq_true rfl⟩ (fun H locs hv => ?_)
  cases hf
  exact kret _ _ _ _ hv dX4_heaviestForMany_20

def f_X4_requirePlannedRooms (k : Nat) (p0 : Int32) : Option (Except String (Unit)) := if p0 < 1 then some (.error "java/lang/IllegalArgumentException") else if p0 ≤ 6 then some (.ok ()) else some (.error "java/lang/IllegalArgumentException")
abbrev rm_X4_requirePlannedRooms : Room := { frames := 6, cells := 1, slots := 6, locals := 90 }
set_option maxHeartbeats 4000000 in
set_option maxRecDepth 100000 in
theorem c_X4_requirePlannedRooms (l : Launch) (hl9 : l.stackTraces = false) (G : va_G) (cy : ClassId × ClassId × ClassId) (k : Nat) (p0 : Int32) {o : Except String (Unit)} (hf : f_X4_requirePlannedRooms k p0 = some o) : Xv l yX4_requirePlannedRooms wsX4_requirePlannedRooms rm_X4_requirePlannedRooms 1 6 G cy [.int p0] [] (kmo (fun (_ : Unit) => []) o) := by
  refine kMetXV (cc := cX4_requirePlannedRooms) (maxL := 1) (by decide) rfl (Nat.le_of_ble_eq_true rfl) ?_
  intro p e s m args below meth c Q A ls Qc hx hb hml hts hown hv hl kret hT htab hlocks
  replace hown : s.vm.findClass RX4 = some m.cls := hown
  replace hl : lv_has ls 1 [(0, .int p0)] := hl
  unfold f_X4_requirePlannedRooms at hf
  refine lv_iload_n hx hb dX4_requirePlannedRooms_0 rfl (lv_at hl 0 rfl) ?_
  refine lv_iconst (v := 1) hx hb dX4_requirePlannedRooms_1 (by decide) ?_
  refine lv_icmp_lt (tgt := 11) hx hb dX4_requirePlannedRooms_2 (by decide) (fun hc1 => ?_) (fun hc1 => ?_)
  · replace hf := ite_t hf hc1
    cases hf
    exact kThrow hx hb hl9 hts hown hv hT htab hlocks (by rw [hml]; exact hl.1) (cls := "java/lang/IllegalArgumentException") (text := "rooms is out of range") (ik := 44) (is := 115) (ic := 48) rfl (by decide +kernel) (by decide +kernel) (by decide +kernel) (by decide +kernel) (by decide +kernel) (by decide +kernel) (by decide +kernel) dX4_requirePlannedRooms_11 dX4_requirePlannedRooms_14 dX4_requirePlannedRooms_15 dX4_requirePlannedRooms_17 dX4_requirePlannedRooms_20 (by decide) (by decide) (by decide) (by decide) (by decide) (by decide)
  · replace hf := ite_f hf hc1
    refine lv_iload_n hx hb dX4_requirePlannedRooms_5 rfl (lv_at hl 0 rfl) ?_
    refine lv_bipush (v := 6) hx hb dX4_requirePlannedRooms_6 (by decide) ?_
    refine lv_icmp_le (tgt := 21) hx hb dX4_requirePlannedRooms_8 (by decide) (fun hc2 => ?_) (fun hc2 => ?_)
    · replace hf := ite_t hf hc2
      cases hf
      refine W.widen (k := 1) (n := 6) (by omega) (by omega) ?_
      exact kret _ _ _ _ _ rfl hv dX4_requirePlannedRooms_21
    · replace hf := ite_f hf hc2
      cases hf
      exact kThrow hx hb hl9 hts hown hv hT htab hlocks (by rw [hml]; exact hl.1) (cls := "java/lang/IllegalArgumentException") (text := "rooms is out of range") (ik := 44) (is := 115) (ic := 48) rfl (by decide +kernel) (by decide +kernel) (by decide +kernel) (by decide +kernel) (by decide +kernel) (by decide +kernel) (by decide +kernel) dX4_requirePlannedRooms_11 dX4_requirePlannedRooms_14 dX4_requirePlannedRooms_15 dX4_requirePlannedRooms_17 dX4_requirePlannedRooms_20 (by decide) (by decide) (by decide) (by decide) (by decide) (by decide)

def f_X4_heaviestIn (k : Nat) (p1 : Int32) (f_added : Int32) (f_presentSet : Int64) (A_begins : Nat → Int32) (A_ends : Nat → Int32) (A_weights : Nat → Int32) (f_manyRooms_row_byEnd : Int32) (f_manyRooms_row_count : Int32) (A_manyRooms_row_numbers : Nat → Int32) (A_manyRooms_row_begins : Nat → Int32) (A_manyRooms_row_ends : Nat → Int32) (A_manyRooms_row_weights : Nat → Int32) (A_manyRooms_stopAfter : Nat → Int32) (A_manyRooms_taken : Nat → Int32) (A_manyRooms_waiting : Nat → Int32) (A_manyRooms_gain : Nat → Int32) (A_manyRooms_cameFrom : Nat → Int32) (A_manyRooms_cameByTaking : Nat → Int32) : Option (Except String (Int32 × Int32 × (Nat → Int32) × (Nat → Int32) × (Nat → Int32) × (Nat → Int32) × (Nat → Int32) × (Nat → Int32) × (Nat → Int32) × (Nat → Int32) × (Nat → Int32) × (Nat → Int32))) := xe (f_X4_requirePlannedRooms k p1) (fun _ => xb (f_X4_heaviestForMany k f_presentSet p1 f_added A_begins A_ends A_weights f_manyRooms_row_byEnd f_manyRooms_row_count A_manyRooms_row_numbers A_manyRooms_row_begins A_manyRooms_row_ends A_manyRooms_row_weights A_manyRooms_stopAfter A_manyRooms_taken A_manyRooms_waiting A_manyRooms_gain A_manyRooms_cameFrom A_manyRooms_cameByTaking) (fun (r2, f_manyRooms_row_count_3, A_manyRooms_row_numbers_4, A_manyRooms_row_begins_5, A_manyRooms_row_ends_6, A_manyRooms_row_weights_7, A_manyRooms_stopAfter_8, A_manyRooms_taken_9, A_manyRooms_waiting_10, A_manyRooms_gain_11, A_manyRooms_cameFrom_12, A_manyRooms_cameByTaking_13) => some (.ok (r2, f_manyRooms_row_count_3, A_manyRooms_row_numbers_4, A_manyRooms_row_begins_5, A_manyRooms_row_ends_6, A_manyRooms_row_weights_7, A_manyRooms_stopAfter_8, A_manyRooms_taken_9, A_manyRooms_waiting_10, A_manyRooms_gain_11, A_manyRooms_cameFrom_12, A_manyRooms_cameByTaking_13))))
abbrev rm_X4_heaviestIn : Room := { frames := 7, cells := 1, slots := 6, locals := 114 }
set_option maxHeartbeats 4000000 in
set_option maxRecDepth 100000 in
theorem c_X4_heaviestIn (l : Launch) (hl9 : l.stackTraces = false) (G : va_G) (cy : ClassId × ClassId × ClassId) (k : Nat) (aT aT_begins aT_ends aT_weights aT_givenRooms aT_oneRoom aT_manyRooms aT_manyRooms_row aT_manyRooms_stopAfter aT_manyRooms_taken aT_manyRooms_waiting aT_manyRooms_gain aT_manyRooms_cameFrom aT_manyRooms_cameByTaking aT_manyRooms_row_numbers aT_manyRooms_row_begins aT_manyRooms_row_ends aT_manyRooms_row_weights : Nat) (f_added : Int32) (f_presentSet : Int64) (f_factor : Int32) (f_offeredSet : Int64) (f_acceptedSet : Int64) (f_dropped : Int32) (A_begins : Nat → Int32) (A_ends : Nat → Int32) (A_weights : Nat → Int32) (f_manyRooms_row_byEnd : Int32) (f_manyRooms_row_count : Int32) (A_manyRooms_row_numbers : Nat → Int32) (A_manyRooms_row_begins : Nat → Int32) (A_manyRooms_row_ends : Nat → Int32) (A_manyRooms_row_weights : Nat → Int32) (A_manyRooms_stopAfter : Nat → Int32) (A_manyRooms_taken : Nat → Int32) (A_manyRooms_waiting : Nat → Int32) (A_manyRooms_gain : Nat → Int32) (A_manyRooms_cameFrom : Nat → Int32) (A_manyRooms_cameByTaking : Nat → Int32) (p1 : Int32) {o : Except String (Int32 × Int32 × (Nat → Int32) × (Nat → Int32) × (Nat → Int32) × (Nat → Int32) × (Nat → Int32) × (Nat → Int32) × (Nat → Int32) × (Nat → Int32) × (Nat → Int32) × (Nat → Int32))} (hf : f_X4_heaviestIn k p1 f_added f_presentSet A_begins A_ends A_weights f_manyRooms_row_byEnd f_manyRooms_row_count A_manyRooms_row_numbers A_manyRooms_row_begins A_manyRooms_row_ends A_manyRooms_row_weights A_manyRooms_stopAfter A_manyRooms_taken A_manyRooms_waiting A_manyRooms_gain A_manyRooms_cameFrom A_manyRooms_cameByTaking = some o) : Xi l yX4_heaviestIn wsX4_heaviestIn rm_X4_heaviestIn 1 6 G cy [.ref aT, .int p1] [(aT, .inr (4, [.ref aT_begins, .ref aT_ends, .ref aT_weights, .int f_added, .long f_presentSet, .int f_factor, .long f_offeredSet, .long f_acceptedSet, .int f_dropped, .ref aT_givenRooms, .ref aT_oneRoom, .ref aT_manyRooms])), (aT_begins, .inl (cy.1, 40, .inl A_begins)), (aT_ends, .inl (cy.1, 40, .inl A_ends)), (aT_weights, .inl (cy.1, 40, .inl A_weights)), (aT_manyRooms, .inr (1, [.ref aT_manyRooms_row, .ref aT_manyRooms_stopAfter, .ref aT_manyRooms_taken, .ref aT_manyRooms_waiting, .ref aT_manyRooms_gain, .ref aT_manyRooms_cameFrom, .ref aT_manyRooms_cameByTaking])), (aT_manyRooms_row, .inr (3, [.int f_manyRooms_row_byEnd, .ref aT_manyRooms_row_numbers, .ref aT_manyRooms_row_begins, .ref aT_manyRooms_row_ends, .ref aT_manyRooms_row_weights, .int f_manyRooms_row_count])), (aT_manyRooms_row_numbers, .inl (cy.1, 40, .inl A_manyRooms_row_numbers)), (aT_manyRooms_row_begins, .inl (cy.1, 40, .inl A_manyRooms_row_begins)), (aT_manyRooms_row_ends, .inl (cy.1, 40, .inl A_manyRooms_row_ends)), (aT_manyRooms_row_weights, .inl (cy.1, 40, .inl A_manyRooms_row_weights)), (aT_manyRooms_stopAfter, .inl (cy.1, 40, .inl A_manyRooms_stopAfter)), (aT_manyRooms_taken, .inl (cy.2.1, 40, .inl A_manyRooms_taken)), (aT_manyRooms_waiting, .inl (cy.1, 40, .inl A_manyRooms_waiting)), (aT_manyRooms_gain, .inl (cy.1, 41, .inl A_manyRooms_gain)), (aT_manyRooms_cameFrom, .inl (cy.1, 41, .inl A_manyRooms_cameFrom)), (aT_manyRooms_cameByTaking, .inl (cy.2.1, 41, .inl A_manyRooms_cameByTaking))] (kmo (fun (q : Int32 × Int32 × (Nat → Int32) × (Nat → Int32) × (Nat → Int32) × (Nat → Int32) × (Nat → Int32) × (Nat → Int32) × (Nat → Int32) × (Nat → Int32) × (Nat → Int32) × (Nat → Int32)) => (q.1, [(aT, .inr (4, [.ref aT_begins, .ref aT_ends, .ref aT_weights, .int f_added, .long f_presentSet, .int f_factor, .long f_offeredSet, .long f_acceptedSet, .int f_dropped, .ref aT_givenRooms, .ref aT_oneRoom, .ref aT_manyRooms])), (aT_begins, .inl (cy.1, 40, .inl A_begins)), (aT_ends, .inl (cy.1, 40, .inl A_ends)), (aT_weights, .inl (cy.1, 40, .inl A_weights)), (aT_manyRooms, .inr (1, [.ref aT_manyRooms_row, .ref aT_manyRooms_stopAfter, .ref aT_manyRooms_taken, .ref aT_manyRooms_waiting, .ref aT_manyRooms_gain, .ref aT_manyRooms_cameFrom, .ref aT_manyRooms_cameByTaking])), (aT_manyRooms_row, .inr (3, [.int f_manyRooms_row_byEnd, .ref aT_manyRooms_row_numbers, .ref aT_manyRooms_row_begins, .ref aT_manyRooms_row_ends, .ref aT_manyRooms_row_weights, .int q.2.1])), (aT_manyRooms_row_numbers, .inl (cy.1, 40, .inl q.2.2.1)), (aT_manyRooms_row_begins, .inl (cy.1, 40, .inl q.2.2.2.1)), (aT_manyRooms_row_ends, .inl (cy.1, 40, .inl q.2.2.2.2.1)), (aT_manyRooms_row_weights, .inl (cy.1, 40, .inl q.2.2.2.2.2.1)), (aT_manyRooms_stopAfter, .inl (cy.1, 40, .inl q.2.2.2.2.2.2.1)), (aT_manyRooms_taken, .inl (cy.2.1, 40, .inl q.2.2.2.2.2.2.2.1)), (aT_manyRooms_waiting, .inl (cy.1, 40, .inl q.2.2.2.2.2.2.2.2.1)), (aT_manyRooms_gain, .inl (cy.1, 41, .inl q.2.2.2.2.2.2.2.2.2.1)), (aT_manyRooms_cameFrom, .inl (cy.1, 41, .inl q.2.2.2.2.2.2.2.2.2.2.1)), (aT_manyRooms_cameByTaking, .inl (cy.2.1, 41, .inl q.2.2.2.2.2.2.2.2.2.2.2))])) o) := by
  refine kMetXI (cc := cX4_heaviestIn) (maxL := 2) (by decide) rfl (Nat.le_of_ble_eq_true rfl) ?_
  intro p e s m args below meth c Q A ls Qc hx hb hml hts hown hv hl kret hT htab hlocks
  replace hown : s.vm.findClass RX4 = some m.cls := hown
  replace hl : lv_has ls 2 [(0, .ref aT), (1, .int p1)] := hl
  have hk61 : (Cond.fieldLink RX4 61 "Roomcolour" "presentSet" "J").before args s = true := hts _ (by decide +kernel)
  have hinX4 : ∀ w ∈ wsX40, w ∈ wsX4_heaviestIn := by decide +kernel
  unfold f_X4_heaviestIn at hf
  refine lv_iload_n hx hb dX4_heaviestIn_0 rfl (lv_at hl 1 rfl) ?_
  rcases xe_some hf with ⟨E15, hcl1, hf⟩ | ⟨_, hcl1, hf⟩
  · cases hf
    refine kXS_vE (E := E15) (wc := []) ⟨hx, hb, hml, hown, hts⟩ (c_X4_requirePlannedRooms l hl9 G cy k p1 hcl1) (va_cwS 1 hts gX4_heaviestIn_X4_requirePlannedRooms rfl rfl rfl (by decide +kernel) ⟨Nat.le_of_ble_eq_true rfl, Nat.le_of_ble_eq_true rfl⟩) hv (isC := []) ⟨rfl, rfl⟩ rfl hl.1 rfl (Nat.le_of_ble_eq_true rfl) dX4_heaviestIn_1 ⟨Nat.le_of_ble_eq_true rfl, Nat.le_of_ble_eq_true rfl⟩ (fun ce q9 H locs hv hce hcv hcl => ?_)
    exact kOut hv hT htab hlocks rfl hce hcv hcl (by decide) (by decide)
  · refine kXS_v (wc := []) (wc' := []) (wr := [(aT, .inr (4, [.ref aT_begins, .ref aT_ends, .ref aT_weights, .int f_added, .long f_presentSet, .int f_factor, .long f_offeredSet, .long f_acceptedSet, .int f_dropped, .ref aT_givenRooms, .ref aT_oneRoom, .ref aT_manyRooms])), (aT_begins, .inl (cy.1, 40, .inl A_begins)), (aT_ends, .inl (cy.1, 40, .inl A_ends)), (aT_weights, .inl (cy.1, 40, .inl A_weights)), (aT_manyRooms, .inr (1, [.ref aT_manyRooms_row, .ref aT_manyRooms_stopAfter, .ref aT_manyRooms_taken, .ref aT_manyRooms_waiting, .ref aT_manyRooms_gain, .ref aT_manyRooms_cameFrom, .ref aT_manyRooms_cameByTaking])), (aT_manyRooms_row, .inr (3, [.int f_manyRooms_row_byEnd, .ref aT_manyRooms_row_numbers, .ref aT_manyRooms_row_begins, .ref aT_manyRooms_row_ends, .ref aT_manyRooms_row_weights, .int f_manyRooms_row_count])), (aT_manyRooms_row_numbers, .inl (cy.1, 40, .inl A_manyRooms_row_numbers)), (aT_manyRooms_row_begins, .inl (cy.1, 40, .inl A_manyRooms_row_begins)), (aT_manyRooms_row_ends, .inl (cy.1, 40, .inl A_manyRooms_row_ends)), (aT_manyRooms_row_weights, .inl (cy.1, 40, .inl A_manyRooms_row_weights)), (aT_manyRooms_stopAfter, .inl (cy.1, 40, .inl A_manyRooms_stopAfter)), (aT_manyRooms_taken, .inl (cy.2.1, 40, .inl A_manyRooms_taken)), (aT_manyRooms_waiting, .inl (cy.1, 40, .inl A_manyRooms_waiting)), (aT_manyRooms_gain, .inl (cy.1, 41, .inl A_manyRooms_gain)), (aT_manyRooms_cameFrom, .inl (cy.1, 41, .inl A_manyRooms_cameFrom)), (aT_manyRooms_cameByTaking, .inl (cy.2.1, 41, .inl A_manyRooms_cameByTaking))]) (w2 := [(aT, .inr (4, [.ref aT_begins, .ref aT_ends, .ref aT_weights, .int f_added, .long f_presentSet, .int f_factor, .long f_offeredSet, .long f_acceptedSet, .int f_dropped, .ref aT_givenRooms, .ref aT_oneRoom, .ref aT_manyRooms])), (aT_begins, .inl (cy.1, 40, .inl A_begins)), (aT_ends, .inl (cy.1, 40, .inl A_ends)), (aT_weights, .inl (cy.1, 40, .inl A_weights)), (aT_manyRooms, .inr (1, [.ref aT_manyRooms_row, .ref aT_manyRooms_stopAfter, .ref aT_manyRooms_taken, .ref aT_manyRooms_waiting, .ref aT_manyRooms_gain, .ref aT_manyRooms_cameFrom, .ref aT_manyRooms_cameByTaking])), (aT_manyRooms_row, .inr (3, [.int f_manyRooms_row_byEnd, .ref aT_manyRooms_row_numbers, .ref aT_manyRooms_row_begins, .ref aT_manyRooms_row_ends, .ref aT_manyRooms_row_weights, .int f_manyRooms_row_count])), (aT_manyRooms_row_numbers, .inl (cy.1, 40, .inl A_manyRooms_row_numbers)), (aT_manyRooms_row_begins, .inl (cy.1, 40, .inl A_manyRooms_row_begins)), (aT_manyRooms_row_ends, .inl (cy.1, 40, .inl A_manyRooms_row_ends)), (aT_manyRooms_row_weights, .inl (cy.1, 40, .inl A_manyRooms_row_weights)), (aT_manyRooms_stopAfter, .inl (cy.1, 40, .inl A_manyRooms_stopAfter)), (aT_manyRooms_taken, .inl (cy.2.1, 40, .inl A_manyRooms_taken)), (aT_manyRooms_waiting, .inl (cy.1, 40, .inl A_manyRooms_waiting)), (aT_manyRooms_gain, .inl (cy.1, 41, .inl A_manyRooms_gain)), (aT_manyRooms_cameFrom, .inl (cy.1, 41, .inl A_manyRooms_cameFrom)), (aT_manyRooms_cameByTaking, .inl (cy.2.1, 41, .inl A_manyRooms_cameByTaking))]) ⟨hx, hb, hml, hown, hts⟩ (c_X4_requirePlannedRooms l hl9 G cy k p1 hcl1) (va_cwS 1 hts gX4_heaviestIn_X4_requirePlannedRooms rfl rfl rfl (by decide +kernel) ⟨Nat.le_of_ble_eq_true rfl, Nat.le_of_ble_eq_true rfl⟩) hv (isC := []) ⟨rfl, rfl⟩ [0, 1, 2, 3, 4, 5, 6, 7, 8, 9, 10, 11, 12, 13, 14, 15] [0, 1, 2, 3, 4, 5, 6, 7, 8, 9, 10, 11, 12, 13, 14, 15] rfl rfl (by decide) rfl rfl rfl hl.1 rfl (Nat.le_of_ble_eq_true rfl) dX4_heaviestIn_1 ⟨Nat.le_of_ble_eq_true rfl, Nat.le_of_ble_eq_true rfl⟩ (fun H locs hv => ?_)
    refine lv_aload_n hx hb dX4_heaviestIn_4 rfl (lv_at hl 0 rfl) ?_
    refine lv_aload_n hx hb dX4_heaviestIn_5 rfl (lv_at hl 0 rfl) ?_
    refine kGet (v := .long f_presentSet) (C := RX4) (T := TX4) (N := 12) hx hb hts hinX4 hown hv 0 rfl rfl 4 (by decide) hk61 (fun _ h9 => h9) rfl dX4_heaviestIn_6 ?_
    refine lv_iload_n hx hb dX4_heaviestIn_9 rfl (lv_at hl 1 rfl) ?_
    obtain ⟨⟨r2, f_manyRooms_row_count_3, A_manyRooms_row_numbers_4, A_manyRooms_row_begins_5, A_manyRooms_row_ends_6, A_manyRooms_row_weights_7, A_manyRooms_stopAfter_8, A_manyRooms_taken_9, A_manyRooms_waiting_10, A_manyRooms_gain_11, A_manyRooms_cameFrom_12, A_manyRooms_cameByTaking_13⟩, hcl14, hf⟩ := xb_some hf
    dsimp only at hf
    refine kV_i (r := r2) (wr := []) (w2 := [(aT, .inr (4, [.ref aT_begins, .ref aT_ends, .ref aT_weights, .int f_added, .long f_presentSet, .int f_factor, .long f_offeredSet, .long f_acceptedSet, .int f_dropped, .ref aT_givenRooms, .ref aT_oneRoom, .ref aT_manyRooms])), (aT_begins, .inl (cy.1, 40, .inl A_begins)), (aT_ends, .inl (cy.1, 40, .inl A_ends)), (aT_weights, .inl (cy.1, 40, .inl A_weights)), (aT_manyRooms, .inr (1, [.ref aT_manyRooms_row, .ref aT_manyRooms_stopAfter, .ref aT_manyRooms_taken, .ref aT_manyRooms_waiting, .ref aT_manyRooms_gain, .ref aT_manyRooms_cameFrom, .ref aT_manyRooms_cameByTaking])), (aT_manyRooms_row, .inr (3, [.int f_manyRooms_row_byEnd, .ref aT_manyRooms_row_numbers, .ref aT_manyRooms_row_begins, .ref aT_manyRooms_row_ends, .ref aT_manyRooms_row_weights, .int f_manyRooms_row_count_3])), (aT_manyRooms_row_numbers, .inl (cy.1, 40, .inl A_manyRooms_row_numbers_4)), (aT_manyRooms_row_begins, .inl (cy.1, 40, .inl A_manyRooms_row_begins_5)), (aT_manyRooms_row_ends, .inl (cy.1, 40, .inl A_manyRooms_row_ends_6)), (aT_manyRooms_row_weights, .inl (cy.1, 40, .inl A_manyRooms_row_weights_7)), (aT_manyRooms_stopAfter, .inl (cy.1, 40, .inl A_manyRooms_stopAfter_8)), (aT_manyRooms_taken, .inl (cy.2.1, 40, .inl A_manyRooms_taken_9)), (aT_manyRooms_waiting, .inl (cy.1, 40, .inl A_manyRooms_waiting_10)), (aT_manyRooms_gain, .inl (cy.1, 41, .inl A_manyRooms_gain_11)), (aT_manyRooms_cameFrom, .inl (cy.1, 41, .inl A_manyRooms_cameFrom_12)), (aT_manyRooms_cameByTaking, .inl (cy.2.1, 41, .inl A_manyRooms_cameByTaking_13))]) ⟨hx, hb, hml, hown, hts⟩ (c_X4_heaviestForMany l G cy k aT aT_begins aT_ends aT_weights aT_givenRooms aT_oneRoom aT_manyRooms aT_manyRooms_row aT_manyRooms_stopAfter aT_manyRooms_taken aT_manyRooms_waiting aT_manyRooms_gain aT_manyRooms_cameFrom aT_manyRooms_cameByTaking aT_manyRooms_row_numbers aT_manyRooms_row_begins aT_manyRooms_row_ends aT_manyRooms_row_weights f_added f_presentSet f_factor f_offeredSet f_acceptedSet f_dropped A_begins A_ends A_weights f_manyRooms_row_byEnd f_manyRooms_row_count A_manyRooms_row_numbers A_manyRooms_row_begins A_manyRooms_row_ends A_manyRooms_row_weights A_manyRooms_stopAfter A_manyRooms_taken A_manyRooms_waiting A_manyRooms_gain A_manyRooms_cameFrom A_manyRooms_cameByTaking f_presentSet p1 hcl14) (cwV 2 hts gX4_heaviestIn_X4_heaviestForMany rfl rfl rfl (by decide +kernel) ⟨Nat.le_of_ble_eq_true rfl, Nat.le_of_ble_eq_true rfl⟩) hv (isC := [0, 1, 2, 3, 4, 5, 6, 7, 8, 9, 10, 11, 12, 13, 14, 15]) ⟨rfl, rfl⟩ (hv.recv 4 0 rfl rfl) [] [0, 1, 2, 3, 4, 5, 6, 7, 8, 9, 10, 11, 12, 13, 14, 15] rfl rfl (by decide) rfl rfl rfl hl.1 rfl (Nat.le_of_ble_eq_true rfl) dX4_heaviestIn_10 ⟨Nat.le_of_ble_eq_true rfl, Nat.le_of_ble_eq_true rfl⟩ (fun H locs hv => ?_)
    cases hf
    exact kret _ _ _ _ _ _ rfl hv dX4_heaviestIn_13

def f_X4_runsPastTurn (k : Nat) (p1 : Int32) (p2 : Int32) (A_begins : Nat → Int32) (A_ends : Nat → Int32) : Option (Int32) := xi p1 40 (xb (f_X4_turned k (A_begins p1.toNatClampNeg) p2) (fun r2 => xb (f_X4_lengthOf k p1 A_begins A_ends) (fun r4 => if (r2 + r4) ≤ p2 then some 0 else some 1)))
abbrev rm_X4_runsPastTurn : Room := { frames := 2, cells := 0, slots := 0, locals := 43 }
set_option maxHeartbeats 4000000 in
set_option maxRecDepth 100000 in
theorem c_X4_runsPastTurn (l : Launch) (G : va_G) (cy : ClassId × ClassId × ClassId) (k : Nat) (aT aT_begins aT_ends aT_weights aT_givenRooms aT_oneRoom aT_manyRooms : Nat) (f_added : Int32) (f_presentSet : Int64) (f_factor : Int32) (f_offeredSet : Int64) (f_acceptedSet : Int64) (f_dropped : Int32) (A_begins : Nat → Int32) (A_ends : Nat → Int32) (p1 : Int32) (p2 : Int32) {r : Int32} (hf : f_X4_runsPastTurn k p1 p2 A_begins A_ends = some r) : Ci l yX4_runsPastTurn wsX4_runsPastTurn rm_X4_runsPastTurn 0 0 G cy [.ref aT, .int p1, .int p2] [(aT, .inr (4, [.ref aT_begins, .ref aT_ends, .ref aT_weights, .int f_added, .long f_presentSet, .int f_factor, .long f_offeredSet, .long f_acceptedSet, .int f_dropped, .ref aT_givenRooms, .ref aT_oneRoom, .ref aT_manyRooms])), (aT_begins, .inl (cy.1, 40, .inl A_begins)), (aT_ends, .inl (cy.1, 40, .inl A_ends))] [(aT, .inr (4, [.ref aT_begins, .ref aT_ends, .ref aT_weights, .int f_added, .long f_presentSet, .int f_factor, .long f_offeredSet, .long f_acceptedSet, .int f_dropped, .ref aT_givenRooms, .ref aT_oneRoom, .ref aT_manyRooms])), (aT_begins, .inl (cy.1, 40, .inl A_begins)), (aT_ends, .inl (cy.1, 40, .inl A_ends))] r := by
  refine kMetZ (cc := cX4_runsPastTurn) (maxL := 3) (by decide) rfl (Nat.le_of_ble_eq_true rfl) ?_
  intro p e s m args below meth c Q A ls hx hb hml hts hown hv hl kret
  replace hown : s.vm.findClass RX4 = some m.cls := hown
  replace hl : lv_has ls 3 [(0, .ref aT), (1, .int p1), (2, .int p2)] := hl
  have hk9 : (Cond.fieldLink RX4 9 "Roomcolour" "begins" "[I").before args s = true := hts _ (by decide +kernel)
  have hinX4 : ∀ w ∈ wsX40, w ∈ wsX4_runsPastTurn := by decide +kernel
  unfold f_X4_runsPastTurn at hf
  refine lv_aload_n hx hb dX4_runsPastTurn_0 rfl (lv_at hl 0 rfl) ?_
  refine kGet (v := .ref aT_begins) (C := RX4) (T := TX4) (N := 12) hx hb hts hinX4 hown hv 0 rfl rfl 0 (by decide) hk9 (fun _ h9 => h9) rfl dX4_runsPastTurn_1 ?_
  refine lv_iload_n hx hb dX4_runsPastTurn_4 rfl (lv_at hl 1 rfl) ?_
  obtain ⟨hi1, hf⟩ := xi_some hf
  refine kIald hx hb hv 1 rfl hi1 dX4_runsPastTurn_5 ?_
  refine lv_iload_n hx hb dX4_runsPastTurn_6 rfl (lv_at hl 2 rfl) ?_
  obtain ⟨r2, hcl3, hf⟩ := xb_some hf
  refine kS_i (r := r2) ⟨hx, hb, hml, hown, hts⟩ (c_X4_turned l G cy k (A_begins p1.toNatClampNeg) p2 hcl3) (va_cwS 2 hts gX4_runsPastTurn_X4_turned rfl rfl rfl (by decide +kernel) ⟨Nat.le_of_ble_eq_true rfl, Nat.le_of_ble_eq_true rfl⟩) hv rfl hl.1 rfl (Nat.le_of_ble_eq_true rfl) dX4_runsPastTurn_7 ⟨Nat.le_of_ble_eq_true rfl, Nat.le_of_ble_eq_true rfl⟩ (fun H locs hv => ?_)
  refine lv_aload_n hx hb dX4_runsPastTurn_10 rfl (lv_at hl 0 rfl) ?_
  refine lv_iload_n hx hb dX4_runsPastTurn_11 rfl (lv_at hl 1 rfl) ?_
  obtain ⟨r4, hcl5, hf⟩ := xb_some hf
  refine kV_i (r := r4) (wr := []) (w2 := [(aT, .inr (4, [.ref aT_begins, .ref aT_ends, .ref aT_weights, .int f_added, .long f_presentSet, .int f_factor, .long f_offeredSet, .long f_acceptedSet, .int f_dropped, .ref aT_givenRooms, .ref aT_oneRoom, .ref aT_manyRooms])), (aT_begins, .inl (cy.1, 40, .inl A_begins)), (aT_ends, .inl (cy.1, 40, .inl A_ends))]) ⟨hx, hb, hml, hown, hts⟩ (c_X4_lengthOf l G cy k aT aT_begins aT_ends aT_weights aT_givenRooms aT_oneRoom aT_manyRooms f_added f_presentSet f_factor f_offeredSet f_acceptedSet f_dropped A_begins A_ends p1 hcl5) (cwV 1 hts gX4_runsPastTurn_X4_lengthOf rfl rfl rfl (by decide +kernel) ⟨Nat.le_of_ble_eq_true rfl, Nat.le_of_ble_eq_true rfl⟩) hv (isC := [0, 1, 2]) ⟨rfl, rfl⟩ (hv.recv 4 0 rfl rfl) [] [0, 1, 2] rfl rfl (by decide) rfl rfl rfl hl.1 rfl (Nat.le_of_ble_eq_true rfl) dX4_runsPastTurn_12 ⟨Nat.le_of_ble_eq_true rfl, Nat.le_of_ble_eq_true rfl⟩ (fun H locs hv => ?_)
  refine lv_iadd hx hb dX4_runsPastTurn_15 ?_
  refine lv_iload_n hx hb dX4_runsPastTurn_16 rfl (lv_at hl 2 rfl) ?_
  refine lv_icmp_le (tgt := 24) hx hb dX4_runsPastTurn_17 (by decide) (fun hc6 => ?_) (fun hc6 => ?_)
  · replace hf := ite_t hf hc6
    refine lv_iconst (v := 0) hx hb dX4_runsPastTurn_24 (by decide) ?_
    cases hf
    exact kret _ _ _ _ hv dX4_runsPastTurn_25 rfl
  · replace hf := ite_f hf hc6
    refine lv_iconst (v := 1) hx hb dX4_runsPastTurn_20 (by decide) ?_
    refine lv_goto (tgt := 25) hx hb dX4_runsPastTurn_21 (by decide) ?_
    cases hf
    exact kret _ _ _ _ hv dX4_runsPastTurn_25 rfl

def f_X4_heaviestRound_L15 (k : Nat) (v1 : Int32) (f_added : Int32) (f_presentSet : Int64) (A_begins : Nat → Int32) (A_ends : Nat → Int32) (A_weights : Nat → Int32) (f_oneRoom_row_byEnd : Int32) (κ : Int32 → Int32 → Int32 → (Nat → Int32) → (Nat → Int32) → (Nat → Int32) → (Nat → Int32) → (Nat → Int32) → Option (Except String (Int32 × Int32 × (Nat → Int32) × (Nat → Int32) × (Nat → Int32) × (Nat → Int32) × (Nat → Int32)))) : Nat → Int32 → Int32 → Int32 → (Nat → Int32) → (Nat → Int32) → (Nat → Int32) → (Nat → Int32) → (Nat → Int32) → Option (Except String (Int32 × Int32 × (Nat → Int32) × (Nat → Int32) × (Nat → Int32) × (Nat → Int32) × (Nat → Int32)))
  | 0, _, _, _, _, _, _, _, _ => none
  | n + 1, v2, v3, f_oneRoom_row_count, A_oneRoom_row_numbers, A_oneRoom_row_begins, A_oneRoom_row_ends, A_oneRoom_row_weights, A_oneRoom_best => if f_added ≤ v3 then κ v2 v3 f_oneRoom_row_count A_oneRoom_row_numbers A_oneRoom_row_begins A_oneRoom_row_ends A_oneRoom_row_weights A_oneRoom_best else xb (f_X4_contains k f_presentSet v3) (fun r11 => if r11 = 0 then f_X4_heaviestRound_L15 k v1 f_added f_presentSet A_begins A_ends A_weights f_oneRoom_row_byEnd κ n v2 (v3 + 1) f_oneRoom_row_count A_oneRoom_row_numbers A_oneRoom_row_begins A_oneRoom_row_ends A_oneRoom_row_weights A_oneRoom_best else xb (f_X4_runsPastTurn k v3 v1 A_begins A_ends) (fun r14 => if r14 = 0 then f_X4_heaviestRound_L15 k v1 f_added f_presentSet A_begins A_ends A_weights f_oneRoom_row_byEnd κ n v2 (v3 + 1) f_oneRoom_row_count A_oneRoom_row_numbers A_oneRoom_row_begins A_oneRoom_row_ends A_oneRoom_row_weights A_oneRoom_best else xi v3 40 (xb (f_X4_lengthOf k v3 A_begins A_ends) (fun r18 => xb (f_X4_heaviestBeside k (A_begins v3.toNatClampNeg) r18 v1 f_added f_presentSet A_begins A_ends A_weights f_oneRoom_row_byEnd f_oneRoom_row_count A_oneRoom_row_numbers A_oneRoom_row_begins A_oneRoom_row_ends A_oneRoom_row_weights A_oneRoom_best) (fun (r20, f_oneRoom_row_count_21, A_oneRoom_row_numbers_22, A_oneRoom_row_begins_23, A_oneRoom_row_ends_24, A_oneRoom_row_weights_25, A_oneRoom_best_26) => xi v3 40 (f_X4_heaviestRound_L15 k v1 f_added f_presentSet A_begins A_ends A_weights f_oneRoom_row_byEnd κ n (if v2 < ((A_weights v3.toNatClampNeg) + r20) then ((A_weights v3.toNatClampNeg) + r20) else v2) (v3 + 1) f_oneRoom_row_count_21 A_oneRoom_row_numbers_22 A_oneRoom_row_begins_23 A_oneRoom_row_ends_24 A_oneRoom_row_weights_25 A_oneRoom_best_26))))))
theorem f_X4_heaviestRound_L15_z (k : Nat) (v1 : Int32) (f_added : Int32) (f_presentSet : Int64) (A_begins : Nat → Int32) (A_ends : Nat → Int32) (A_weights : Nat → Int32) (f_oneRoom_row_byEnd : Int32) (κ : Int32 → Int32 → Int32 → (Nat → Int32) → (Nat → Int32) → (Nat → Int32) → (Nat → Int32) → (Nat → Int32) → Option (Except String (Int32 × Int32 × (Nat → Int32) × (Nat → Int32) × (Nat → Int32) × (Nat → Int32) × (Nat → Int32)))) (v2 : Int32) (v3 : Int32) (f_oneRoom_row_count : Int32) (A_oneRoom_row_numbers : Nat → Int32) (A_oneRoom_row_begins : Nat → Int32) (A_oneRoom_row_ends : Nat → Int32) (A_oneRoom_row_weights : Nat → Int32) (A_oneRoom_best : Nat → Int32) : f_X4_heaviestRound_L15 k v1 f_added f_presentSet A_begins A_ends A_weights f_oneRoom_row_byEnd κ 0 v2 v3 f_oneRoom_row_count A_oneRoom_row_numbers A_oneRoom_row_begins A_oneRoom_row_ends A_oneRoom_row_weights A_oneRoom_best = none := rfl
theorem f_X4_heaviestRound_L15_s (k : Nat) (v1 : Int32) (f_added : Int32) (f_presentSet : Int64) (A_begins : Nat → Int32) (A_ends : Nat → Int32) (A_weights : Nat → Int32) (f_oneRoom_row_byEnd : Int32) (κ : Int32 → Int32 → Int32 → (Nat → Int32) → (Nat → Int32) → (Nat → Int32) → (Nat → Int32) → (Nat → Int32) → Option (Except String (Int32 × Int32 × (Nat → Int32) × (Nat → Int32) × (Nat → Int32) × (Nat → Int32) × (Nat → Int32)))) (n : Nat) (v2 : Int32) (v3 : Int32) (f_oneRoom_row_count : Int32) (A_oneRoom_row_numbers : Nat → Int32) (A_oneRoom_row_begins : Nat → Int32) (A_oneRoom_row_ends : Nat → Int32) (A_oneRoom_row_weights : Nat → Int32) (A_oneRoom_best : Nat → Int32) : f_X4_heaviestRound_L15 k v1 f_added f_presentSet A_begins A_ends A_weights f_oneRoom_row_byEnd κ (n + 1) v2 v3 f_oneRoom_row_count A_oneRoom_row_numbers A_oneRoom_row_begins A_oneRoom_row_ends A_oneRoom_row_weights A_oneRoom_best = if f_added ≤ v3 then κ v2 v3 f_oneRoom_row_count A_oneRoom_row_numbers A_oneRoom_row_begins A_oneRoom_row_ends A_oneRoom_row_weights A_oneRoom_best else xb (f_X4_contains k f_presentSet v3) (fun r11 => if r11 = 0 then f_X4_heaviestRound_L15 k v1 f_added f_presentSet A_begins A_ends A_weights f_oneRoom_row_byEnd κ n v2 (v3 + 1) f_oneRoom_row_count A_oneRoom_row_numbers A_oneRoom_row_begins A_oneRoom_row_ends A_oneRoom_row_weights A_oneRoom_best else xb (f_X4_runsPastTurn k v3 v1 A_begins A_ends) (fun r14 => if r14 = 0 then f_X4_heaviestRound_L15 k v1 f_added f_presentSet A_begins A_ends A_weights f_oneRoom_row_byEnd κ n v2 (v3 + 1) f_oneRoom_row_count A_oneRoom_row_numbers A_oneRoom_row_begins A_oneRoom_row_ends A_oneRoom_row_weights A_oneRoom_best else xi v3 40 (xb (f_X4_lengthOf k v3 A_begins A_ends) (fun r18 => xb (f_X4_heaviestBeside k (A_begins v3.toNatClampNeg) r18 v1 f_added f_presentSet A_begins A_ends A_weights f_oneRoom_row_byEnd f_oneRoom_row_count A_oneRoom_row_numbers A_oneRoom_row_begins A_oneRoom_row_ends A_oneRoom_row_weights A_oneRoom_best) (fun (r20, f_oneRoom_row_count_21, A_oneRoom_row_numbers_22, A_oneRoom_row_begins_23, A_oneRoom_row_ends_24, A_oneRoom_row_weights_25, A_oneRoom_best_26) => xi v3 40 (f_X4_heaviestRound_L15 k v1 f_added f_presentSet A_begins A_ends A_weights f_oneRoom_row_byEnd κ n (if v2 < ((A_weights v3.toNatClampNeg) + r20) then ((A_weights v3.toNatClampNeg) + r20) else v2) (v3 + 1) f_oneRoom_row_count_21 A_oneRoom_row_numbers_22 A_oneRoom_row_begins_23 A_oneRoom_row_ends_24 A_oneRoom_row_weights_25 A_oneRoom_best_26)))))) := rfl
def f_X4_heaviestRound (k : Nat) (p1 : Int32) (f_added : Int32) (f_presentSet : Int64) (A_begins : Nat → Int32) (A_ends : Nat → Int32) (A_weights : Nat → Int32) (f_oneRoom_row_byEnd : Int32) (f_oneRoom_row_count : Int32) (A_oneRoom_row_numbers : Nat → Int32) (A_oneRoom_row_begins : Nat → Int32) (A_oneRoom_row_ends : Nat → Int32) (A_oneRoom_row_weights : Nat → Int32) (A_oneRoom_best : Nat → Int32) : Option (Except String (Int32 × Int32 × (Nat → Int32) × (Nat → Int32) × (Nat → Int32) × (Nat → Int32) × (Nat → Int32))) := xe (f_X4_requireCircle k p1 f_added f_presentSet A_begins A_ends) (fun _ => xb (f_X4_heaviestBeside k 0 0 p1 f_added f_presentSet A_begins A_ends A_weights f_oneRoom_row_byEnd f_oneRoom_row_count A_oneRoom_row_numbers A_oneRoom_row_begins A_oneRoom_row_ends A_oneRoom_row_weights A_oneRoom_best) (fun (r2, f_oneRoom_row_count_3, A_oneRoom_row_numbers_4, A_oneRoom_row_begins_5, A_oneRoom_row_ends_6, A_oneRoom_row_weights_7, A_oneRoom_best_8) => f_X4_heaviestRound_L15 k p1 f_added f_presentSet A_begins A_ends A_weights f_oneRoom_row_byEnd (fun (v2_29 : Int32) (v3_30 : Int32) (f_oneRoom_row_count_31 : Int32) (A_oneRoom_row_numbers_32 : Nat → Int32) (A_oneRoom_row_begins_33 : Nat → Int32) (A_oneRoom_row_ends_34 : Nat → Int32) (A_oneRoom_row_weights_35 : Nat → Int32) (A_oneRoom_best_36 : Nat → Int32) => some (.ok (v2_29, f_oneRoom_row_count_31, A_oneRoom_row_numbers_32, A_oneRoom_row_begins_33, A_oneRoom_row_ends_34, A_oneRoom_row_weights_35, A_oneRoom_best_36))) k r2 0 f_oneRoom_row_count_3 A_oneRoom_row_numbers_4 A_oneRoom_row_begins_5 A_oneRoom_row_ends_6 A_oneRoom_row_weights_7 A_oneRoom_best_8))
abbrev rm_X4_heaviestRound : Room := { frames := 7, cells := 1, slots := 6, locals := 112 }
set_option maxHeartbeats 4000000 in
set_option maxRecDepth 100000 in
theorem c_X4_heaviestRound (l : Launch) (hl9 : l.stackTraces = false) (G : va_G) (cy : ClassId × ClassId × ClassId) (k : Nat) (aT aT_begins aT_ends aT_weights aT_givenRooms aT_oneRoom aT_manyRooms aT_oneRoom_row aT_oneRoom_best aT_oneRoom_row_numbers aT_oneRoom_row_begins aT_oneRoom_row_ends aT_oneRoom_row_weights : Nat) (f_added : Int32) (f_presentSet : Int64) (f_factor : Int32) (f_offeredSet : Int64) (f_acceptedSet : Int64) (f_dropped : Int32) (A_begins : Nat → Int32) (A_ends : Nat → Int32) (A_weights : Nat → Int32) (f_oneRoom_row_byEnd : Int32) (f_oneRoom_row_count : Int32) (A_oneRoom_row_numbers : Nat → Int32) (A_oneRoom_row_begins : Nat → Int32) (A_oneRoom_row_ends : Nat → Int32) (A_oneRoom_row_weights : Nat → Int32) (A_oneRoom_best : Nat → Int32) (p1 : Int32) {o : Except String (Int32 × Int32 × (Nat → Int32) × (Nat → Int32) × (Nat → Int32) × (Nat → Int32) × (Nat → Int32))} (hf : f_X4_heaviestRound k p1 f_added f_presentSet A_begins A_ends A_weights f_oneRoom_row_byEnd f_oneRoom_row_count A_oneRoom_row_numbers A_oneRoom_row_begins A_oneRoom_row_ends A_oneRoom_row_weights A_oneRoom_best = some o) : Xi l yX4_heaviestRound wsX4_heaviestRound rm_X4_heaviestRound 1 6 G cy [.ref aT, .int p1] [(aT, .inr (4, [.ref aT_begins, .ref aT_ends, .ref aT_weights, .int f_added, .long f_presentSet, .int f_factor, .long f_offeredSet, .long f_acceptedSet, .int f_dropped, .ref aT_givenRooms, .ref aT_oneRoom, .ref aT_manyRooms])), (aT_begins, .inl (cy.1, 40, .inl A_begins)), (aT_ends, .inl (cy.1, 40, .inl A_ends)), (aT_weights, .inl (cy.1, 40, .inl A_weights)), (aT_oneRoom, .inr (2, [.ref aT_oneRoom_row, .ref aT_oneRoom_best])), (aT_oneRoom_row, .inr (3, [.int f_oneRoom_row_byEnd, .ref aT_oneRoom_row_numbers, .ref aT_oneRoom_row_begins, .ref aT_oneRoom_row_ends, .ref aT_oneRoom_row_weights, .int f_oneRoom_row_count])), (aT_oneRoom_row_numbers, .inl (cy.1, 40, .inl A_oneRoom_row_numbers)), (aT_oneRoom_row_begins, .inl (cy.1, 40, .inl A_oneRoom_row_begins)), (aT_oneRoom_row_ends, .inl (cy.1, 40, .inl A_oneRoom_row_ends)), (aT_oneRoom_row_weights, .inl (cy.1, 40, .inl A_oneRoom_row_weights)), (aT_oneRoom_best, .inl (cy.1, 41, .inl A_oneRoom_best))] (kmo (fun (q : Int32 × Int32 × (Nat → Int32) × (Nat → Int32) × (Nat → Int32) × (Nat → Int32) × (Nat → Int32)) => (q.1, [(aT, .inr (4, [.ref aT_begins, .ref aT_ends, .ref aT_weights, .int f_added, .long f_presentSet, .int f_factor, .long f_offeredSet, .long f_acceptedSet, .int f_dropped, .ref aT_givenRooms, .ref aT_oneRoom, .ref aT_manyRooms])), (aT_begins, .inl (cy.1, 40, .inl A_begins)), (aT_ends, .inl (cy.1, 40, .inl A_ends)), (aT_weights, .inl (cy.1, 40, .inl A_weights)), (aT_oneRoom, .inr (2, [.ref aT_oneRoom_row, .ref aT_oneRoom_best])), (aT_oneRoom_row, .inr (3, [.int f_oneRoom_row_byEnd, .ref aT_oneRoom_row_numbers, .ref aT_oneRoom_row_begins, .ref aT_oneRoom_row_ends, .ref aT_oneRoom_row_weights, .int q.2.1])), (aT_oneRoom_row_numbers, .inl (cy.1, 40, .inl q.2.2.1)), (aT_oneRoom_row_begins, .inl (cy.1, 40, .inl q.2.2.2.1)), (aT_oneRoom_row_ends, .inl (cy.1, 40, .inl q.2.2.2.2.1)), (aT_oneRoom_row_weights, .inl (cy.1, 40, .inl q.2.2.2.2.2.1)), (aT_oneRoom_best, .inl (cy.1, 41, .inl q.2.2.2.2.2.2))])) o) := by
  refine kMetXI (cc := cX4_heaviestRound) (maxL := 5) (by decide) rfl (Nat.le_of_ble_eq_true rfl) ?_
  intro p e s m args below meth c Q A ls Qc hx hb hml hts hown hv hl kret hT htab hlocks
  replace hown : s.vm.findClass RX4 = some m.cls := hown
  replace hl : lv_has ls 5 [(0, .ref aT), (1, .int p1)] := hl
  have hk53 : (Cond.fieldLink RX4 53 "Roomcolour" "added" "I").before args s = true := hts _ (by decide +kernel)
  have hinX4 : ∀ w ∈ wsX40, w ∈ wsX4_heaviestRound := by decide +kernel
  have hk61 : (Cond.fieldLink RX4 61 "Roomcolour" "presentSet" "J").before args s = true := hts _ (by decide +kernel)
  have hk9 : (Cond.fieldLink RX4 9 "Roomcolour" "begins" "[I").before args s = true := hts _ (by decide +kernel)
  have hk16 : (Cond.fieldLink RX4 16 "Roomcolour" "weights" "[I").before args s = true := hts _ (by decide +kernel)
  have hm166a : (Cond.methodLink RX4 166 Lib.Math.max.name).before args s = true := hts _ (by decide +kernel)
  have hm166b : (Cond.static Lib.Math.max.name).before args s = true := hts _ (by decide +kernel)
  have hm166c : (Cond.initialized "java/lang/Math").before args s = true := hts _ (by decide +kernel)
  have hm166d : (Cond.code Lib.Math.max.name Lib.Math.max.code 2 (some .int)).before args s = true := hts _ (by decide +kernel)
  have L15 : ∀ (v1 : Int32) (κ : Int32 → Int32 → Int32 → (Nat → Int32) → (Nat → Int32) → (Nat → Int32) → (Nat → Int32) → (Nat → Int32) → Option (Except String (Int32 × Int32 × (Nat → Int32) × (Nat → Int32) × (Nat → Int32) × (Nat → Int32) × (Nat → Int32)))) (n : Nat) (v2 : Int32) (v3 : Int32) (f_oneRoom_row_count : Int32) (A_oneRoom_row_numbers : Nat → Int32) (A_oneRoom_row_begins : Nat → Int32) (A_oneRoom_row_ends : Nat → Int32) (A_oneRoom_row_weights : Nat → Int32) (A_oneRoom_best : Nat → Int32), f_X4_heaviestRound_L15 k v1 f_added f_presentSet A_begins A_ends A_weights f_oneRoom_row_byEnd κ n v2 v3 f_oneRoom_row_count A_oneRoom_row_numbers A_oneRoom_row_begins A_oneRoom_row_ends A_oneRoom_row_weights A_oneRoom_best = some o → ∀ (H : Heap) (locs : List Loc) (ls : Array Slot), Hv s H locs G cy A [(aT, .inr (4, [.ref aT_begins, .ref aT_ends, .ref aT_weights, .int f_added, .long f_presentSet, .int f_factor, .long f_offeredSet, .long f_acceptedSet, .int f_dropped, .ref aT_givenRooms, .ref aT_oneRoom, .ref aT_manyRooms])), (aT_begins, .inl (cy.1, 40, .inl A_begins)), (aT_ends, .inl (cy.1, 40, .inl A_ends)), (aT_weights, .inl (cy.1, 40, .inl A_weights)), (aT_oneRoom, .inr (2, [.ref aT_oneRoom_row, .ref aT_oneRoom_best])), (aT_oneRoom_row, .inr (3, [.int f_oneRoom_row_byEnd, .ref aT_oneRoom_row_numbers, .ref aT_oneRoom_row_begins, .ref aT_oneRoom_row_ends, .ref aT_oneRoom_row_weights, .int f_oneRoom_row_count])), (aT_oneRoom_row_numbers, .inl (cy.1, 40, .inl A_oneRoom_row_numbers)), (aT_oneRoom_row_begins, .inl (cy.1, 40, .inl A_oneRoom_row_begins)), (aT_oneRoom_row_ends, .inl (cy.1, 40, .inl A_oneRoom_row_ends)), (aT_oneRoom_row_weights, .inl (cy.1, 40, .inl A_oneRoom_row_weights)), (aT_oneRoom_best, .inl (cy.1, 41, .inl A_oneRoom_best))] → lv_has ls 5 [(0, .ref aT), (1, .int v1), (2, .int v2), (3, .int v3)] → (∀ (v2 : Int32) (v3 : Int32) (f_oneRoom_row_count : Int32) (A_oneRoom_row_numbers : Nat → Int32) (A_oneRoom_row_begins : Nat → Int32) (A_oneRoom_row_ends : Nat → Int32) (A_oneRoom_row_weights : Nat → Int32) (A_oneRoom_best : Nat → Int32), κ v2 v3 f_oneRoom_row_count A_oneRoom_row_numbers A_oneRoom_row_begins A_oneRoom_row_ends A_oneRoom_row_weights A_oneRoom_best = some o → ∀ (H : Heap) (locs : List Loc) (ls : Array Slot), Hv s H locs G cy A [(aT, .inr (4, [.ref aT_begins, .ref aT_ends, .ref aT_weights, .int f_added, .long f_presentSet, .int f_factor, .long f_offeredSet, .long f_acceptedSet, .int f_dropped, .ref aT_givenRooms, .ref aT_oneRoom, .ref aT_manyRooms])), (aT_begins, .inl (cy.1, 40, .inl A_begins)), (aT_ends, .inl (cy.1, 40, .inl A_ends)), (aT_weights, .inl (cy.1, 40, .inl A_weights)), (aT_oneRoom, .inr (2, [.ref aT_oneRoom_row, .ref aT_oneRoom_best])), (aT_oneRoom_row, .inr (3, [.int f_oneRoom_row_byEnd, .ref aT_oneRoom_row_numbers, .ref aT_oneRoom_row_begins, .ref aT_oneRoom_row_ends, .ref aT_oneRoom_row_weights, .int f_oneRoom_row_count])), (aT_oneRoom_row_numbers, .inl (cy.1, 40, .inl A_oneRoom_row_numbers)), (aT_oneRoom_row_begins, .inl (cy.1, 40, .inl A_oneRoom_row_begins)), (aT_oneRoom_row_ends, .inl (cy.1, 40, .inl A_oneRoom_row_ends)), (aT_oneRoom_row_weights, .inl (cy.1, 40, .inl A_oneRoom_row_weights)), (aT_oneRoom_best, .inl (cy.1, 41, .inl A_oneRoom_best))] → lv_has ls 5 [(2, .int v2)] → W p l e rm_X4_heaviestRound s m args below meth c H locs 1 6 Q (F0 m 81 ls [])) → W p l e rm_X4_heaviestRound s m args below meth c H locs 1 6 Q (F0 m 15 ls []) := by
    intro v1 κ n
    induction n with
    | zero =>
      intro v2 v3 f_oneRoom_row_count A_oneRoom_row_numbers A_oneRoom_row_begins A_oneRoom_row_ends A_oneRoom_row_weights A_oneRoom_best hf
      rw [f_X4_heaviestRound_L15_z] at hf
      cases hf
    | succ n ih =>
      intro v2 v3 f_oneRoom_row_count A_oneRoom_row_numbers A_oneRoom_row_begins A_oneRoom_row_ends A_oneRoom_row_weights A_oneRoom_best hf H locs ls hv hl hκ
      rw [f_X4_heaviestRound_L15_s] at hf
      refine lv_iload_n hx hb dX4_heaviestRound_15 rfl (lv_at hl 3 rfl) ?_
      refine lv_aload_n hx hb dX4_heaviestRound_16 rfl (lv_at hl 0 rfl) ?_
      refine kGet (v := .int f_added) (C := RX4) (T := TX4) (N := 12) hx hb hts hinX4 hown hv 0 rfl rfl 3 (by decide) hk53 (fun _ h9 => h9) rfl dX4_heaviestRound_17 ?_
      refine lv_icmp_ge (tgt := 81) hx hb dX4_heaviestRound_20 (by decide) (fun hc10 => ?_) (fun hc10 => ?_)
      · replace hf := ite_t hf hc10
        exact hκ v2 v3 f_oneRoom_row_count A_oneRoom_row_numbers A_oneRoom_row_begins A_oneRoom_row_ends A_oneRoom_row_weights A_oneRoom_best hf _ _ _ hv (lv_sub hl [2] rfl)
      · replace hf := ite_f hf hc10
        refine lv_aload_n hx hb dX4_heaviestRound_23 rfl (lv_at hl 0 rfl) ?_
        refine kGet (v := .long f_presentSet) (C := RX4) (T := TX4) (N := 12) hx hb hts hinX4 hown hv 0 rfl rfl 4 (by decide) hk61 (fun _ h9 => h9) rfl dX4_heaviestRound_24 ?_
        refine lv_iload_n hx hb dX4_heaviestRound_27 rfl (lv_at hl 3 rfl) ?_
        obtain ⟨r11, hcl12, hf⟩ := xb_some hf
        refine kS_i (r := r11) ⟨hx, hb, hml, hown, hts⟩ (c_X4_contains l G cy k f_presentSet v3 hcl12) (va_cwS 2 hts gX4_heaviestRound_X4_contains rfl rfl rfl (by decide +kernel) ⟨Nat.le_of_ble_eq_true rfl, Nat.le_of_ble_eq_true rfl⟩) hv rfl hl.1 rfl (Nat.le_of_ble_eq_true rfl) dX4_heaviestRound_28 ⟨Nat.le_of_ble_eq_true rfl, Nat.le_of_ble_eq_true rfl⟩ (fun H locs hv => ?_)
        refine lv_if_eq (tgt := 75) hx hb dX4_heaviestRound_31 (by decide) (fun hc13 => ?_) (fun hc13 => ?_)
        · replace hf := ite_t hf hc13
          refine lv_iinc (v := v3 + 1) (lv' := [(3, .int (v3 + 1)), (0, .ref aT), (1, .int v1), (2, .int v2)]) hx hb dX4_heaviestRound_75 hl (k := 3) rfl rfl (by decide) rfl (fun ls hl => ?_)
          refine lv_goto (tgt := 15) hx hb dX4_heaviestRound_78 (by decide) ?_
          exact ih v2 (v3 + 1) f_oneRoom_row_count A_oneRoom_row_numbers A_oneRoom_row_begins A_oneRoom_row_ends A_oneRoom_row_weights A_oneRoom_best hf _ _ _ hv (lv_sub hl [1, 2, 3, 0] rfl) hκ
        · replace hf := ite_f hf hc13
          refine lv_aload_n hx hb dX4_heaviestRound_34 rfl (lv_at hl 0 rfl) ?_
          refine lv_iload_n hx hb dX4_heaviestRound_35 rfl (lv_at hl 3 rfl) ?_
          refine lv_iload_n hx hb dX4_heaviestRound_36 rfl (lv_at hl 1 rfl) ?_
          obtain ⟨r14, hcl15, hf⟩ := xb_some hf
          refine kV_i (r := r14) (wr := [(aT_weights, .inl (cy.1, 40, .inl A_weights)), (aT_oneRoom, .inr (2, [.ref aT_oneRoom_row, .ref aT_oneRoom_best])), (aT_oneRoom_row, .inr (3, [.int f_oneRoom_row_byEnd, .ref aT_oneRoom_row_numbers, .ref aT_oneRoom_row_begins, .ref aT_oneRoom_row_ends, .ref aT_oneRoom_row_weights, .int f_oneRoom_row_count])), (aT_oneRoom_row_numbers, .inl (cy.1, 40, .inl A_oneRoom_row_numbers)), (aT_oneRoom_row_begins, .inl (cy.1, 40, .inl A_oneRoom_row_begins)), (aT_oneRoom_row_ends, .inl (cy.1, 40, .inl A_oneRoom_row_ends)), (aT_oneRoom_row_weights, .inl (cy.1, 40, .inl A_oneRoom_row_weights)), (aT_oneRoom_best, .inl (cy.1, 41, .inl A_oneRoom_best))]) (w2 := [(aT, .inr (4, [.ref aT_begins, .ref aT_ends, .ref aT_weights, .int f_added, .long f_presentSet, .int f_factor, .long f_offeredSet, .long f_acceptedSet, .int f_dropped, .ref aT_givenRooms, .ref aT_oneRoom, .ref aT_manyRooms])), (aT_begins, .inl (cy.1, 40, .inl A_begins)), (aT_ends, .inl (cy.1, 40, .inl A_ends)), (aT_weights, .inl (cy.1, 40, .inl A_weights)), (aT_oneRoom, .inr (2, [.ref aT_oneRoom_row, .ref aT_oneRoom_best])), (aT_oneRoom_row, .inr (3, [.int f_oneRoom_row_byEnd, .ref aT_oneRoom_row_numbers, .ref aT_oneRoom_row_begins, .ref aT_oneRoom_row_ends, .ref aT_oneRoom_row_weights, .int f_oneRoom_row_count])), (aT_oneRoom_row_numbers, .inl (cy.1, 40, .inl A_oneRoom_row_numbers)), (aT_oneRoom_row_begins, .inl (cy.1, 40, .inl A_oneRoom_row_begins)), (aT_oneRoom_row_ends, .inl (cy.1, 40, .inl A_oneRoom_row_ends)), (aT_oneRoom_row_weights, .inl (cy.1, 40, .inl A_oneRoom_row_weights)), (aT_oneRoom_best, .inl (cy.1, 41, .inl A_oneRoom_best))]) ⟨hx, hb, hml, hown, hts⟩ (c_X4_runsPastTurn l G cy k aT aT_begins aT_ends aT_weights aT_givenRooms aT_oneRoom aT_manyRooms f_added f_presentSet f_factor f_offeredSet f_acceptedSet f_dropped A_begins A_ends v3 v1 hcl15) (cwV 2 hts gX4_heaviestRound_X4_runsPastTurn rfl rfl rfl (by decide +kernel) ⟨Nat.le_of_ble_eq_true rfl, Nat.le_of_ble_eq_true rfl⟩) hv (isC := [0, 1, 2]) ⟨rfl, rfl⟩ (hv.recv 4 0 rfl rfl) [3, 4, 5, 6, 7, 8, 9, 10] [8, 9, 10, 0, 1, 2, 3, 4, 5, 6, 7] rfl rfl (by decide) rfl rfl rfl hl.1 rfl (Nat.le_of_ble_eq_true rfl) dX4_heaviestRound_37 ⟨Nat.le_of_ble_eq_true rfl, Nat.le_of_ble_eq_true rfl⟩ (fun H locs hv => ?_)
          refine lv_if_eq (tgt := 75) hx hb dX4_heaviestRound_40 (by decide) (fun hc16 => ?_) (fun hc16 => ?_)
          · replace hf := ite_t hf hc16
            refine lv_iinc (v := v3 + 1) (lv' := [(3, .int (v3 + 1)), (0, .ref aT), (1, .int v1), (2, .int v2)]) hx hb dX4_heaviestRound_75 hl (k := 3) rfl rfl (by decide) rfl (fun ls hl => ?_)
            refine lv_goto (tgt := 15) hx hb dX4_heaviestRound_78 (by decide) ?_
            exact ih v2 (v3 + 1) f_oneRoom_row_count A_oneRoom_row_numbers A_oneRoom_row_begins A_oneRoom_row_ends A_oneRoom_row_weights A_oneRoom_best hf _ _ _ hv (lv_sub hl [1, 2, 3, 0] rfl) hκ
          · replace hf := ite_f hf hc16
            refine lv_aload_n hx hb dX4_heaviestRound_43 rfl (lv_at hl 0 rfl) ?_
            refine lv_aload_n hx hb dX4_heaviestRound_44 rfl (lv_at hl 0 rfl) ?_
            refine kGet (v := .ref aT_begins) (C := RX4) (T := TX4) (N := 12) hx hb hts hinX4 hown hv 0 rfl rfl 0 (by decide) hk9 (fun _ h9 => h9) rfl dX4_heaviestRound_45 ?_
            refine lv_iload_n hx hb dX4_heaviestRound_48 rfl (lv_at hl 3 rfl) ?_
            obtain ⟨hi17, hf⟩ := xi_some hf
            refine kIald hx hb hv 1 rfl hi17 dX4_heaviestRound_49 ?_
            refine lv_aload_n hx hb dX4_heaviestRound_50 rfl (lv_at hl 0 rfl) ?_
            refine lv_iload_n hx hb dX4_heaviestRound_51 rfl (lv_at hl 3 rfl) ?_
            obtain ⟨r18, hcl19, hf⟩ := xb_some hf
            refine kV_i (r := r18) (wr := [(aT_weights, .inl (cy.1, 40, .inl A_weights)), (aT_oneRoom, .inr (2, [.ref aT_oneRoom_row, .ref aT_oneRoom_best])), (aT_oneRoom_row, .inr (3, [.int f_oneRoom_row_byEnd, .ref aT_oneRoom_row_numbers, .ref aT_oneRoom_row_begins, .ref aT_oneRoom_row_ends, .ref aT_oneRoom_row_weights, .int f_oneRoom_row_count])), (aT_oneRoom_row_numbers, .inl (cy.1, 40, .inl A_oneRoom_row_numbers)), (aT_oneRoom_row_begins, .inl (cy.1, 40, .inl A_oneRoom_row_begins)), (aT_oneRoom_row_ends, .inl (cy.1, 40, .inl A_oneRoom_row_ends)), (aT_oneRoom_row_weights, .inl (cy.1, 40, .inl A_oneRoom_row_weights)), (aT_oneRoom_best, .inl (cy.1, 41, .inl A_oneRoom_best))]) (w2 := [(aT, .inr (4, [.ref aT_begins, .ref aT_ends, .ref aT_weights, .int f_added, .long f_presentSet, .int f_factor, .long f_offeredSet, .long f_acceptedSet, .int f_dropped, .ref aT_givenRooms, .ref aT_oneRoom, .ref aT_manyRooms])), (aT_begins, .inl (cy.1, 40, .inl A_begins)), (aT_ends, .inl (cy.1, 40, .inl A_ends)), (aT_weights, .inl (cy.1, 40, .inl A_weights)), (aT_oneRoom, .inr (2, [.ref aT_oneRoom_row, .ref aT_oneRoom_best])), (aT_oneRoom_row, .inr (3, [.int f_oneRoom_row_byEnd, .ref aT_oneRoom_row_numbers, .ref aT_oneRoom_row_begins, .ref aT_oneRoom_row_ends, .ref aT_oneRoom_row_weights, .int f_oneRoom_row_count])), (aT_oneRoom_row_numbers, .inl (cy.1, 40, .inl A_oneRoom_row_numbers)), (aT_oneRoom_row_begins, .inl (cy.1, 40, .inl A_oneRoom_row_begins)), (aT_oneRoom_row_ends, .inl (cy.1, 40, .inl A_oneRoom_row_ends)), (aT_oneRoom_row_weights, .inl (cy.1, 40, .inl A_oneRoom_row_weights)), (aT_oneRoom_best, .inl (cy.1, 41, .inl A_oneRoom_best))]) ⟨hx, hb, hml, hown, hts⟩ (c_X4_lengthOf l G cy k aT aT_begins aT_ends aT_weights aT_givenRooms aT_oneRoom aT_manyRooms f_added f_presentSet f_factor f_offeredSet f_acceptedSet f_dropped A_begins A_ends v3 hcl19) (cwV 1 hts gX4_heaviestRound_X4_lengthOf rfl rfl rfl (by decide +kernel) ⟨Nat.le_of_ble_eq_true rfl, Nat.le_of_ble_eq_true rfl⟩) hv (isC := [0, 1, 2]) ⟨rfl, rfl⟩ (hv.recv 4 0 rfl rfl) [3, 4, 5, 6, 7, 8, 9, 10] [8, 9, 10, 0, 1, 2, 3, 4, 5, 6, 7] rfl rfl (by decide) rfl rfl rfl hl.1 rfl (Nat.le_of_ble_eq_true rfl) dX4_heaviestRound_52 ⟨Nat.le_of_ble_eq_true rfl, Nat.le_of_ble_eq_true rfl⟩ (fun H locs hv => ?_)
            refine lv_iload_n hx hb dX4_heaviestRound_55 rfl (lv_at hl 1 rfl) ?_
            obtain ⟨⟨r20, f_oneRoom_row_count_21, A_oneRoom_row_numbers_22, A_oneRoom_row_begins_23, A_oneRoom_row_ends_24, A_oneRoom_row_weights_25, A_oneRoom_best_26⟩, hcl27, hf⟩ := xb_some hf
            dsimp only at hf
            refine kV_i (r := r20) (wr := []) (w2 := [(aT, .inr (4, [.ref aT_begins, .ref aT_ends, .ref aT_weights, .int f_added, .long f_presentSet, .int f_factor, .long f_offeredSet, .long f_acceptedSet, .int f_dropped, .ref aT_givenRooms, .ref aT_oneRoom, .ref aT_manyRooms])), (aT_begins, .inl (cy.1, 40, .inl A_begins)), (aT_ends, .inl (cy.1, 40, .inl A_ends)), (aT_weights, .inl (cy.1, 40, .inl A_weights)), (aT_oneRoom, .inr (2, [.ref aT_oneRoom_row, .ref aT_oneRoom_best])), (aT_oneRoom_row, .inr (3, [.int f_oneRoom_row_byEnd, .ref aT_oneRoom_row_numbers, .ref aT_oneRoom_row_begins, .ref aT_oneRoom_row_ends, .ref aT_oneRoom_row_weights, .int f_oneRoom_row_count_21])), (aT_oneRoom_row_numbers, .inl (cy.1, 40, .inl A_oneRoom_row_numbers_22)), (aT_oneRoom_row_begins, .inl (cy.1, 40, .inl A_oneRoom_row_begins_23)), (aT_oneRoom_row_ends, .inl (cy.1, 40, .inl A_oneRoom_row_ends_24)), (aT_oneRoom_row_weights, .inl (cy.1, 40, .inl A_oneRoom_row_weights_25)), (aT_oneRoom_best, .inl (cy.1, 41, .inl A_oneRoom_best_26))]) ⟨hx, hb, hml, hown, hts⟩ (c_X4_heaviestBeside l G cy k aT aT_begins aT_ends aT_weights aT_givenRooms aT_oneRoom aT_manyRooms aT_oneRoom_row aT_oneRoom_best aT_oneRoom_row_numbers aT_oneRoom_row_begins aT_oneRoom_row_ends aT_oneRoom_row_weights f_added f_presentSet f_factor f_offeredSet f_acceptedSet f_dropped A_begins A_ends A_weights f_oneRoom_row_byEnd f_oneRoom_row_count A_oneRoom_row_numbers A_oneRoom_row_begins A_oneRoom_row_ends A_oneRoom_row_weights A_oneRoom_best (A_begins v3.toNatClampNeg) r18 v1 hcl27) (cwV 3 hts gX4_heaviestRound_X4_heaviestBeside rfl rfl rfl (by decide +kernel) ⟨Nat.le_of_ble_eq_true rfl, Nat.le_of_ble_eq_true rfl⟩) hv (isC := [0, 1, 2, 3, 4, 5, 6, 7, 8, 9, 10]) ⟨rfl, rfl⟩ (hv.recv 4 0 rfl rfl) [] [0, 1, 2, 3, 4, 5, 6, 7, 8, 9, 10] rfl rfl (by decide) rfl rfl rfl hl.1 rfl (Nat.le_of_ble_eq_true rfl) dX4_heaviestRound_56 ⟨Nat.le_of_ble_eq_true rfl, Nat.le_of_ble_eq_true rfl⟩ (fun H locs hv => ?_)
            refine lv_istore (lv' := [(4, .int r20), (0, .ref aT), (1, .int v1), (2, .int v2), (3, .int v3)]) hx hb dX4_heaviestRound_59 hl (by decide) rfl (fun ls hl => ?_)
            refine lv_iload_n hx hb dX4_heaviestRound_61 rfl (lv_at hl 3 rfl) ?_
            refine lv_aload_n hx hb dX4_heaviestRound_62 rfl (lv_at hl 1 rfl) ?_
            refine kGet (v := .ref aT_weights) (C := RX4) (T := TX4) (N := 12) hx hb hts hinX4 hown hv 0 rfl rfl 2 (by decide) hk16 (fun _ h9 => h9) rfl dX4_heaviestRound_63 ?_
            refine lv_iload_n hx hb dX4_heaviestRound_66 rfl (lv_at hl 4 rfl) ?_
            obtain ⟨hi28, hf⟩ := xi_some hf
            refine kIald hx hb hv 3 rfl hi28 dX4_heaviestRound_67 ?_
            refine lv_iload hx hb dX4_heaviestRound_68 (lv_at hl 0 rfl) ?_
            refine lv_iadd hx hb dX4_heaviestRound_70 ?_
            refine va_mmax hx hb (by rw [hml]; exact hl.1.symm) hown hm166a hm166b hm166c hm166d (Nat.le_of_ble_eq_true rfl) (Nat.le_of_ble_eq_true rfl) (Nat.le_of_ble_eq_true rfl) (Nat.le_of_ble_eq_true rfl) dX4_heaviestRound_71 ?_
            refine lv_istore_n (lv' := [(2, .int (if v2 < ((A_weights v3.toNatClampNeg) + r20) then ((A_weights v3.toNatClampNeg) + r20) else v2)), (4, .int r20), (0, .ref aT), (1, .int v1), (3, .int v3)]) hx hb dX4_heaviestRound_74 rfl hl (by decide) rfl (fun ls hl => ?_)
            refine lv_iinc (v := v3 + 1) (lv' := [(3, .int (v3 + 1)), (2, .int (if v2 < ((A_weights v3.toNatClampNeg) + r20) then ((A_weights v3.toNatClampNeg) + r20) else v2)), (4, .int r20), (0, .ref aT), (1, .int v1)]) hx hb dX4_heaviestRound_75 hl (k := 4) rfl rfl (by decide) rfl (fun ls hl => ?_)
            refine lv_goto (tgt := 15) hx hb dX4_heaviestRound_78 (by decide) ?_
            exact ih (if v2 < ((A_weights v3.toNatClampNeg) + r20) then ((A_weights v3.toNatClampNeg) + r20) else v2) (v3 + 1) f_oneRoom_row_count_21 A_oneRoom_row_numbers_22 A_oneRoom_row_begins_23 A_oneRoom_row_ends_24 A_oneRoom_row_weights_25 A_oneRoom_best_26 hf _ _ _ hv (lv_sub hl [3, 4, 1, 0] rfl) hκ
  unfold f_X4_heaviestRound at hf
  refine lv_aload_n hx hb dX4_heaviestRound_0 rfl (lv_at hl 0 rfl) ?_
  refine lv_iload_n hx hb dX4_heaviestRound_1 rfl (lv_at hl 1 rfl) ?_
  rcases xe_some hf with ⟨E37, hcl1, hf⟩ | ⟨_, hcl1, hf⟩
  · cases hf
    refine kXV_vE (E := E37) (wc := [(aT, .inr (4, [.ref aT_begins, .ref aT_ends, .ref aT_weights, .int f_added, .long f_presentSet, .int f_factor, .long f_offeredSet, .long f_acceptedSet, .int f_dropped, .ref aT_givenRooms, .ref aT_oneRoom, .ref aT_manyRooms])), (aT_begins, .inl (cy.1, 40, .inl A_begins)), (aT_ends, .inl (cy.1, 40, .inl A_ends))]) ⟨hx, hb, hml, hown, hts⟩ (c_X4_requireCircle l hl9 G cy k aT aT_begins aT_ends aT_weights aT_givenRooms aT_oneRoom aT_manyRooms f_added f_presentSet f_factor f_offeredSet f_acceptedSet f_dropped A_begins A_ends p1 hcl1) (cwV 1 hts gX4_heaviestRound_X4_requireCircle rfl rfl rfl (by decide +kernel) ⟨Nat.le_of_ble_eq_true rfl, Nat.le_of_ble_eq_true rfl⟩) hv (isC := [0, 1, 2]) ⟨rfl, rfl⟩ (hv.recv 4 0 rfl rfl) rfl hl.1 rfl (Nat.le_of_ble_eq_true rfl) dX4_heaviestRound_2 ⟨Nat.le_of_ble_eq_true rfl, Nat.le_of_ble_eq_true rfl⟩ (fun ce q9 H locs hv hce hcv hcl => ?_)
    exact kOut hv hT htab hlocks rfl hce hcv hcl (by decide) (by decide)
  · refine kXV_v (wc := [(aT, .inr (4, [.ref aT_begins, .ref aT_ends, .ref aT_weights, .int f_added, .long f_presentSet, .int f_factor, .long f_offeredSet, .long f_acceptedSet, .int f_dropped, .ref aT_givenRooms, .ref aT_oneRoom, .ref aT_manyRooms])), (aT_begins, .inl (cy.1, 40, .inl A_begins)), (aT_ends, .inl (cy.1, 40, .inl A_ends))]) (wc' := [(aT, .inr (4, [.ref aT_begins, .ref aT_ends, .ref aT_weights, .int f_added, .long f_presentSet, .int f_factor, .long f_offeredSet, .long f_acceptedSet, .int f_dropped, .ref aT_givenRooms, .ref aT_oneRoom, .ref aT_manyRooms])), (aT_begins, .inl (cy.1, 40, .inl A_begins)), (aT_ends, .inl (cy.1, 40, .inl A_ends))]) (wr := [(aT_weights, .inl (cy.1, 40, .inl A_weights)), (aT_oneRoom, .inr (2, [.ref aT_oneRoom_row, .ref aT_oneRoom_best])), (aT_oneRoom_row, .inr (3, [.int f_oneRoom_row_byEnd, .ref aT_oneRoom_row_numbers, .ref aT_oneRoom_row_begins, .ref aT_oneRoom_row_ends, .ref aT_oneRoom_row_weights, .int f_oneRoom_row_count])), (aT_oneRoom_row_numbers, .inl (cy.1, 40, .inl A_oneRoom_row_numbers)), (aT_oneRoom_row_begins, .inl (cy.1, 40, .inl A_oneRoom_row_begins)), (aT_oneRoom_row_ends, .inl (cy.1, 40, .inl A_oneRoom_row_ends)), (aT_oneRoom_row_weights, .inl (cy.1, 40, .inl A_oneRoom_row_weights)), (aT_oneRoom_best, .inl (cy.1, 41, .inl A_oneRoom_best))]) (w2 := [(aT, .inr (4, [.ref aT_begins, .ref aT_ends, .ref aT_weights, .int f_added, .long f_presentSet, .int f_factor, .long f_offeredSet, .long f_acceptedSet, .int f_dropped, .ref aT_givenRooms, .ref aT_oneRoom, .ref aT_manyRooms])), (aT_begins, .inl (cy.1, 40, .inl A_begins)), (aT_ends, .inl (cy.1, 40, .inl A_ends)), (aT_weights, .inl (cy.1, 40, .inl A_weights)), (aT_oneRoom, .inr (2, [.ref aT_oneRoom_row, .ref aT_oneRoom_best])), (aT_oneRoom_row, .inr (3, [.int f_oneRoom_row_byEnd, .ref aT_oneRoom_row_numbers, .ref aT_oneRoom_row_begins, .ref aT_oneRoom_row_ends, .ref aT_oneRoom_row_weights, .int f_oneRoom_row_count])), (aT_oneRoom_row_numbers, .inl (cy.1, 40, .inl A_oneRoom_row_numbers)), (aT_oneRoom_row_begins, .inl (cy.1, 40, .inl A_oneRoom_row_begins)), (aT_oneRoom_row_ends, .inl (cy.1, 40, .inl A_oneRoom_row_ends)), (aT_oneRoom_row_weights, .inl (cy.1, 40, .inl A_oneRoom_row_weights)), (aT_oneRoom_best, .inl (cy.1, 41, .inl A_oneRoom_best))]) ⟨hx, hb, hml, hown, hts⟩ (c_X4_requireCircle l hl9 G cy k aT aT_begins aT_ends aT_weights aT_givenRooms aT_oneRoom aT_manyRooms f_added f_presentSet f_factor f_offeredSet f_acceptedSet f_dropped A_begins A_ends p1 hcl1) (cwV 1 hts gX4_heaviestRound_X4_requireCircle rfl rfl rfl (by decide +kernel) ⟨Nat.le_of_ble_eq_true rfl, Nat.le_of_ble_eq_true rfl⟩) hv (isC := [0, 1, 2]) ⟨rfl, rfl⟩ (hv.recv 4 0 rfl rfl) [3, 4, 5, 6, 7, 8, 9, 10] [8, 9, 10, 0, 1, 2, 3, 4, 5, 6, 7] rfl rfl (by decide) rfl rfl rfl hl.1 rfl (Nat.le_of_ble_eq_true rfl) dX4_heaviestRound_2 ⟨Nat.le_of_ble_eq_true rfl, Nat.le_of_ble_eq_true rfl⟩ (fun H locs hv => ?_)
    refine lv_aload_n hx hb dX4_heaviestRound_5 rfl (lv_at hl 0 rfl) ?_
    refine lv_iconst (v := 0) hx hb dX4_heaviestRound_6 (by decide) ?_
    refine lv_iconst (v := 0) hx hb dX4_heaviestRound_7 (by decide) ?_
    refine lv_iload_n hx hb dX4_heaviestRound_8 rfl (lv_at hl 1 rfl) ?_
    obtain ⟨⟨r2, f_oneRoom_row_count_3, A_oneRoom_row_numbers_4, A_oneRoom_row_begins_5, A_oneRoom_row_ends_6, A_oneRoom_row_weights_7, A_oneRoom_best_8⟩, hcl9, hf⟩ := xb_some hf
    dsimp only at hf
    refine kV_i (r := r2) (wr := []) (w2 := [(aT, .inr (4, [.ref aT_begins, .ref aT_ends, .ref aT_weights, .int f_added, .long f_presentSet, .int f_factor, .long f_offeredSet, .long f_acceptedSet, .int f_dropped, .ref aT_givenRooms, .ref aT_oneRoom, .ref aT_manyRooms])), (aT_begins, .inl (cy.1, 40, .inl A_begins)), (aT_ends, .inl (cy.1, 40, .inl A_ends)), (aT_weights, .inl (cy.1, 40, .inl A_weights)), (aT_oneRoom, .inr (2, [.ref aT_oneRoom_row, .ref aT_oneRoom_best])), (aT_oneRoom_row, .inr (3, [.int f_oneRoom_row_byEnd, .ref aT_oneRoom_row_numbers, .ref aT_oneRoom_row_begins, .ref aT_oneRoom_row_ends, .ref aT_oneRoom_row_weights, .int f_oneRoom_row_count_3])), (aT_oneRoom_row_numbers, .inl (cy.1, 40, .inl A_oneRoom_row_numbers_4)), (aT_oneRoom_row_begins, .inl (cy.1, 40, .inl A_oneRoom_row_begins_5)), (aT_oneRoom_row_ends, .inl (cy.1, 40, .inl A_oneRoom_row_ends_6)), (aT_oneRoom_row_weights, .inl (cy.1, 40, .inl A_oneRoom_row_weights_7)), (aT_oneRoom_best, .inl (cy.1, 41, .inl A_oneRoom_best_8))]) ⟨hx, hb, hml, hown, hts⟩ (c_X4_heaviestBeside l G cy k aT aT_begins aT_ends aT_weights aT_givenRooms aT_oneRoom aT_manyRooms aT_oneRoom_row aT_oneRoom_best aT_oneRoom_row_numbers aT_oneRoom_row_begins aT_oneRoom_row_ends aT_oneRoom_row_weights f_added f_presentSet f_factor f_offeredSet f_acceptedSet f_dropped A_begins A_ends A_weights f_oneRoom_row_byEnd f_oneRoom_row_count A_oneRoom_row_numbers A_oneRoom_row_begins A_oneRoom_row_ends A_oneRoom_row_weights A_oneRoom_best 0 0 p1 hcl9) (cwV 3 hts gX4_heaviestRound_X4_heaviestBeside rfl rfl rfl (by decide +kernel) ⟨Nat.le_of_ble_eq_true rfl, Nat.le_of_ble_eq_true rfl⟩) hv (isC := [0, 1, 2, 3, 4, 5, 6, 7, 8, 9, 10]) ⟨rfl, rfl⟩ (hv.recv 4 0 rfl rfl) [] [0, 1, 2, 3, 4, 5, 6, 7, 8, 9, 10] rfl rfl (by decide) rfl rfl rfl hl.1 rfl (Nat.le_of_ble_eq_true rfl) dX4_heaviestRound_9 ⟨Nat.le_of_ble_eq_true rfl, Nat.le_of_ble_eq_true rfl⟩ (fun H locs hv => ?_)
    refine lv_istore_n (lv' := [(2, .int r2), (0, .ref aT), (1, .int p1)]) hx hb dX4_heaviestRound_12 rfl hl (by decide) rfl (fun ls hl => ?_)
    refine lv_iconst (v := 0) hx hb dX4_heaviestRound_13 (by decide) ?_
    refine lv_istore_n (lv' := [(3, .int 0), (2, .int r2), (0, .ref aT), (1, .int p1)]) hx hb dX4_heaviestRound_14 rfl hl (by decide) rfl (fun ls hl => ?_)
    refine L15 _ _ _ _ _ _ _ _ _ _ _ hf _ _ _ hv (lv_sub hl [2, 3, 1, 0] rfl) (fun v2_29 v3_30 f_oneRoom_row_count_31 A_oneRoom_row_numbers_32 A_oneRoom_row_begins_33 A_oneRoom_row_ends_34 A_oneRoom_row_weights_35 A_oneRoom_best_36 hf H locs ls hv hl => ?_)
    try dsimp only at hf
    refine lv_iload_n hx hb dX4_heaviestRound_81 rfl (lv_at hl 0 rfl) ?_
    cases hf
    exact kret _ _ _ _ _ _ rfl hv dX4_heaviestRound_82

def f_X4_intervals (k : Nat) (f_presentSet : Int64) : Option (Int32) := xb (f_J13_bitCount_95d88 k f_presentSet) (fun r1 => some r1)
abbrev rm_X4_intervals : Room := { frames := 1, cells := 0, slots := 0, locals := 21 }
set_option maxHeartbeats 4000000 in
set_option maxRecDepth 100000 in
theorem c_X4_intervals (l : Launch) (G : va_G) (cy : ClassId × ClassId × ClassId) (k : Nat) (aT aT_begins aT_ends aT_weights aT_givenRooms aT_oneRoom aT_manyRooms : Nat) (f_added : Int32) (f_presentSet : Int64) (f_factor : Int32) (f_offeredSet : Int64) (f_acceptedSet : Int64) (f_dropped : Int32) {r : Int32} (hf : f_X4_intervals k f_presentSet = some r) : Ci l yX4_intervals wsX4_intervals rm_X4_intervals 0 0 G cy [.ref aT] [(aT, .inr (4, [.ref aT_begins, .ref aT_ends, .ref aT_weights, .int f_added, .long f_presentSet, .int f_factor, .long f_offeredSet, .long f_acceptedSet, .int f_dropped, .ref aT_givenRooms, .ref aT_oneRoom, .ref aT_manyRooms]))] [(aT, .inr (4, [.ref aT_begins, .ref aT_ends, .ref aT_weights, .int f_added, .long f_presentSet, .int f_factor, .long f_offeredSet, .long f_acceptedSet, .int f_dropped, .ref aT_givenRooms, .ref aT_oneRoom, .ref aT_manyRooms]))] r := by
  refine kMetI (cc := cX4_intervals) (maxL := 1) (by decide) rfl (Nat.le_of_ble_eq_true rfl) ?_
  intro p e s m args below meth c Q A ls hx hb hml hts hown hv hl kret
  replace hown : s.vm.findClass RX4 = some m.cls := hown
  replace hl : lv_has ls 1 [(0, .ref aT)] := hl
  have hk61 : (Cond.fieldLink RX4 61 "Roomcolour" "presentSet" "J").before args s = true := hts _ (by decide +kernel)
  have hinX4 : ∀ w ∈ wsX40, w ∈ wsX4_intervals := by decide +kernel
  unfold f_X4_intervals at hf
  refine lv_aload_n hx hb dX4_intervals_0 rfl (lv_at hl 0 rfl) ?_
  refine kGet (v := .long f_presentSet) (C := RX4) (T := TX4) (N := 12) hx hb hts hinX4 hown hv 0 rfl rfl 4 (by decide) hk61 (fun _ h9 => h9) rfl dX4_intervals_1 ?_
  obtain ⟨r1, hcl2, hf⟩ := xb_some hf
  refine kS_i (r := r1) ⟨hx, hb, hml, hown, hts⟩ (c_J13_bitCount_95d88 l G cy k f_presentSet hcl2) (va_cwS 1 hts gX4_intervals_J13_bitCount_95d88 rfl rfl rfl (by decide +kernel) ⟨Nat.le_of_ble_eq_true rfl, Nat.le_of_ble_eq_true rfl⟩) hv rfl hl.1 rfl (Nat.le_of_ble_eq_true rfl) dX4_intervals_4 ⟨Nat.le_of_ble_eq_true rfl, Nat.le_of_ble_eq_true rfl⟩ (fun H locs hv => ?_)
  cases hf
  exact kret _ _ _ _ hv dX4_intervals_7

def f_X4_most (k : Nat) (f_added : Int32) (f_presentSet : Int64) (A_begins : Nat → Int32) (A_ends : Nat → Int32) (A_weights : Nat → Int32) (f_oneRoom_row_byEnd : Int32) (f_oneRoom_row_count : Int32) (A_oneRoom_row_numbers : Nat → Int32) (A_oneRoom_row_begins : Nat → Int32) (A_oneRoom_row_ends : Nat → Int32) (A_oneRoom_row_weights : Nat → Int32) : Option (Int32 × Int32 × (Nat → Int32) × (Nat → Int32) × (Nat → Int32) × (Nat → Int32)) := xb (f_X4_fill k f_presentSet f_added A_begins A_ends A_weights f_oneRoom_row_byEnd f_oneRoom_row_count A_oneRoom_row_numbers A_oneRoom_row_begins A_oneRoom_row_ends A_oneRoom_row_weights) (fun (f_oneRoom_row_count_1, A_oneRoom_row_numbers_2, A_oneRoom_row_begins_3, A_oneRoom_row_ends_4, A_oneRoom_row_weights_5) => xb (f_X2_greatestNumber k f_oneRoom_row_count_1 A_oneRoom_row_begins_3 A_oneRoom_row_ends_4) (fun r7 => some (r7, f_oneRoom_row_count_1, A_oneRoom_row_numbers_2, A_oneRoom_row_begins_3, A_oneRoom_row_ends_4, A_oneRoom_row_weights_5)))
abbrev rm_X4_most : Room := { frames := 3, cells := 0, slots := 0, locals := 72 }
set_option maxHeartbeats 4000000 in
set_option maxRecDepth 100000 in
theorem c_X4_most (l : Launch) (G : va_G) (cy : ClassId × ClassId × ClassId) (k : Nat) (aT aT_begins aT_ends aT_weights aT_givenRooms aT_oneRoom aT_manyRooms aT_oneRoom_row aT_oneRoom_best aT_oneRoom_row_numbers aT_oneRoom_row_begins aT_oneRoom_row_ends aT_oneRoom_row_weights : Nat) (f_added : Int32) (f_presentSet : Int64) (f_factor : Int32) (f_offeredSet : Int64) (f_acceptedSet : Int64) (f_dropped : Int32) (A_begins : Nat → Int32) (A_ends : Nat → Int32) (A_weights : Nat → Int32) (f_oneRoom_row_byEnd : Int32) (f_oneRoom_row_count : Int32) (A_oneRoom_row_numbers : Nat → Int32) (A_oneRoom_row_begins : Nat → Int32) (A_oneRoom_row_ends : Nat → Int32) (A_oneRoom_row_weights : Nat → Int32) {r : Int32} {wf_oneRoom_row_count : Int32} {wA_oneRoom_row_numbers : Nat → Int32} {wA_oneRoom_row_begins : Nat → Int32} {wA_oneRoom_row_ends : Nat → Int32} {wA_oneRoom_row_weights : Nat → Int32} (hf : f_X4_most k f_added f_presentSet A_begins A_ends A_weights f_oneRoom_row_byEnd f_oneRoom_row_count A_oneRoom_row_numbers A_oneRoom_row_begins A_oneRoom_row_ends A_oneRoom_row_weights = some (r, wf_oneRoom_row_count, wA_oneRoom_row_numbers, wA_oneRoom_row_begins, wA_oneRoom_row_ends, wA_oneRoom_row_weights)) : Ci l yX4_most wsX4_most rm_X4_most 0 0 G cy [.ref aT] [(aT, .inr (4, [.ref aT_begins, .ref aT_ends, .ref aT_weights, .int f_added, .long f_presentSet, .int f_factor, .long f_offeredSet, .long f_acceptedSet, .int f_dropped, .ref aT_givenRooms, .ref aT_oneRoom, .ref aT_manyRooms])), (aT_begins, .inl (cy.1, 40, .inl A_begins)), (aT_ends, .inl (cy.1, 40, .inl A_ends)), (aT_weights, .inl (cy.1, 40, .inl A_weights)), (aT_oneRoom, .inr (2, [.ref aT_oneRoom_row, .ref aT_oneRoom_best])), (aT_oneRoom_row, .inr (3, [.int f_oneRoom_row_byEnd, .ref aT_oneRoom_row_numbers, .ref aT_oneRoom_row_begins, .ref aT_oneRoom_row_ends, .ref aT_oneRoom_row_weights, .int f_oneRoom_row_count])), (aT_oneRoom_row_numbers, .inl (cy.1, 40, .inl A_oneRoom_row_numbers)), (aT_oneRoom_row_begins, .inl (cy.1, 40, .inl A_oneRoom_row_begins)), (aT_oneRoom_row_ends, .inl (cy.1, 40, .inl A_oneRoom_row_ends)), (aT_oneRoom_row_weights, .inl (cy.1, 40, .inl A_oneRoom_row_weights))] [(aT, .inr (4, [.ref aT_begins, .ref aT_ends, .ref aT_weights, .int f_added, .long f_presentSet, .int f_factor, .long f_offeredSet, .long f_acceptedSet, .int f_dropped, .ref aT_givenRooms, .ref aT_oneRoom, .ref aT_manyRooms])), (aT_begins, .inl (cy.1, 40, .inl A_begins)), (aT_ends, .inl (cy.1, 40, .inl A_ends)), (aT_weights, .inl (cy.1, 40, .inl A_weights)), (aT_oneRoom, .inr (2, [.ref aT_oneRoom_row, .ref aT_oneRoom_best])), (aT_oneRoom_row, .inr (3, [.int f_oneRoom_row_byEnd, .ref aT_oneRoom_row_numbers, .ref aT_oneRoom_row_begins, .ref aT_oneRoom_row_ends, .ref aT_oneRoom_row_weights, .int wf_oneRoom_row_count])), (aT_oneRoom_row_numbers, .inl (cy.1, 40, .inl wA_oneRoom_row_numbers)), (aT_oneRoom_row_begins, .inl (cy.1, 40, .inl wA_oneRoom_row_begins)), (aT_oneRoom_row_ends, .inl (cy.1, 40, .inl wA_oneRoom_row_ends)), (aT_oneRoom_row_weights, .inl (cy.1, 40, .inl wA_oneRoom_row_weights))] r := by
  refine kMetI (cc := cX4_most) (maxL := 1) (by decide) rfl (Nat.le_of_ble_eq_true rfl) ?_
  intro p e s m args below meth c Q A ls hx hb hml hts hown hv hl kret
  replace hown : s.vm.findClass RX4 = some m.cls := hown
  replace hl : lv_has ls 1 [(0, .ref aT)] := hl
  have hk33 : (Cond.fieldLink RX4 33 "Roomcolour" "oneRoom" "LRoomcolour$OneRoomPlan;").before args s = true := hts _ (by decide +kernel)
  have hinX4 : ∀ w ∈ wsX40, w ∈ wsX4_most := by decide +kernel
  have hn128 : (Cond.fieldLinkNest RX4 128 "Roomcolour$OneRoomPlan" "row" "LRoomcolour$Row;" RX4).before args s = true := va_Nw.use rfl (hv.2.2.2.2.2.1 _ (by decide +kernel))
  have hinX2 : ∀ w ∈ wsX20, w ∈ wsX4_most := by decide +kernel
  have hk61 : (Cond.fieldLink RX4 61 "Roomcolour" "presentSet" "J").before args s = true := hts _ (by decide +kernel)
  unfold f_X4_most at hf
  refine lv_aload_n hx hb dX4_most_0 rfl (lv_at hl 0 rfl) ?_
  refine lv_aload_n hx hb dX4_most_1 rfl (lv_at hl 0 rfl) ?_
  refine kGet (v := .ref aT_oneRoom) (C := RX4) (T := TX4) (N := 12) hx hb hts hinX4 hown hv 0 rfl rfl 10 (by decide) hk33 (fun _ h9 => h9) rfl dX4_most_2 ?_
  refine kGetN (v := .ref aT_oneRoom_row) (C := RX2) (T := TX2) (N := 2) hx hb hts hinX2 hown hv 4 rfl rfl 0 (by decide) hn128 (fun _ h9 => h9) rfl dX4_most_5 ?_
  refine lv_aload_n hx hb dX4_most_8 rfl (lv_at hl 0 rfl) ?_
  refine kGet (v := .long f_presentSet) (C := RX4) (T := TX4) (N := 12) hx hb hts hinX4 hown hv 0 rfl rfl 4 (by decide) hk61 (fun _ h9 => h9) rfl dX4_most_9 ?_
  obtain ⟨⟨f_oneRoom_row_count_1, A_oneRoom_row_numbers_2, A_oneRoom_row_begins_3, A_oneRoom_row_ends_4, A_oneRoom_row_weights_5⟩, hcl6, hf⟩ := xb_some hf
  dsimp only at hf
  refine kV_v (wr := [(aT_oneRoom, .inr (2, [.ref aT_oneRoom_row, .ref aT_oneRoom_best]))]) (w2 := [(aT, .inr (4, [.ref aT_begins, .ref aT_ends, .ref aT_weights, .int f_added, .long f_presentSet, .int f_factor, .long f_offeredSet, .long f_acceptedSet, .int f_dropped, .ref aT_givenRooms, .ref aT_oneRoom, .ref aT_manyRooms])), (aT_begins, .inl (cy.1, 40, .inl A_begins)), (aT_ends, .inl (cy.1, 40, .inl A_ends)), (aT_weights, .inl (cy.1, 40, .inl A_weights)), (aT_oneRoom, .inr (2, [.ref aT_oneRoom_row, .ref aT_oneRoom_best])), (aT_oneRoom_row, .inr (3, [.int f_oneRoom_row_byEnd, .ref aT_oneRoom_row_numbers, .ref aT_oneRoom_row_begins, .ref aT_oneRoom_row_ends, .ref aT_oneRoom_row_weights, .int f_oneRoom_row_count_1])), (aT_oneRoom_row_numbers, .inl (cy.1, 40, .inl A_oneRoom_row_numbers_2)), (aT_oneRoom_row_begins, .inl (cy.1, 40, .inl A_oneRoom_row_begins_3)), (aT_oneRoom_row_ends, .inl (cy.1, 40, .inl A_oneRoom_row_ends_4)), (aT_oneRoom_row_weights, .inl (cy.1, 40, .inl A_oneRoom_row_weights_5))]) ⟨hx, hb, hml, hown, hts⟩ (c_X4_fill l G cy k aT aT_begins aT_ends aT_weights aT_givenRooms aT_oneRoom aT_manyRooms aT_oneRoom_row aT_oneRoom_row_numbers aT_oneRoom_row_begins aT_oneRoom_row_ends aT_oneRoom_row_weights f_added f_presentSet f_factor f_offeredSet f_acceptedSet f_dropped A_begins A_ends A_weights f_oneRoom_row_byEnd f_oneRoom_row_count A_oneRoom_row_numbers A_oneRoom_row_begins A_oneRoom_row_ends A_oneRoom_row_weights f_presentSet hcl6) (cwV 2 hts gX4_most_X4_fill rfl rfl rfl (by decide +kernel) ⟨Nat.le_of_ble_eq_true rfl, Nat.le_of_ble_eq_true rfl⟩) hv (isC := [0, 1, 2, 3, 5, 6, 7, 8, 9]) ⟨rfl, rfl⟩ (hv.recv 4 0 rfl rfl) [4] [1, 2, 3, 4, 0, 5, 6, 7, 8, 9] rfl rfl (by decide) rfl rfl rfl hl.1 rfl (Nat.le_of_ble_eq_true rfl) dX4_most_12 ⟨Nat.le_of_ble_eq_true rfl, Nat.le_of_ble_eq_true rfl⟩ (fun H locs hv => ?_)
  refine lv_aload_n hx hb dX4_most_15 rfl (lv_at hl 0 rfl) ?_
  refine kGet (v := .ref aT_oneRoom) (C := RX4) (T := TX4) (N := 12) hx hb hts hinX4 hown hv 0 rfl rfl 10 (by decide) hk33 (fun _ h9 => h9) rfl dX4_most_16 ?_
  obtain ⟨r7, hcl8, hf⟩ := xb_some hf
  refine kV_i (r := r7) (wr := [(aT, .inr (4, [.ref aT_begins, .ref aT_ends, .ref aT_weights, .int f_added, .long f_presentSet, .int f_factor, .long f_offeredSet, .long f_acceptedSet, .int f_dropped, .ref aT_givenRooms, .ref aT_oneRoom, .ref aT_manyRooms])), (aT_begins, .inl (cy.1, 40, .inl A_begins)), (aT_ends, .inl (cy.1, 40, .inl A_ends)), (aT_weights, .inl (cy.1, 40, .inl A_weights)), (aT_oneRoom_row_numbers, .inl (cy.1, 40, .inl A_oneRoom_row_numbers_2)), (aT_oneRoom_row_weights, .inl (cy.1, 40, .inl A_oneRoom_row_weights_5))]) (w2 := [(aT, .inr (4, [.ref aT_begins, .ref aT_ends, .ref aT_weights, .int f_added, .long f_presentSet, .int f_factor, .long f_offeredSet, .long f_acceptedSet, .int f_dropped, .ref aT_givenRooms, .ref aT_oneRoom, .ref aT_manyRooms])), (aT_begins, .inl (cy.1, 40, .inl A_begins)), (aT_ends, .inl (cy.1, 40, .inl A_ends)), (aT_weights, .inl (cy.1, 40, .inl A_weights)), (aT_oneRoom, .inr (2, [.ref aT_oneRoom_row, .ref aT_oneRoom_best])), (aT_oneRoom_row, .inr (3, [.int f_oneRoom_row_byEnd, .ref aT_oneRoom_row_numbers, .ref aT_oneRoom_row_begins, .ref aT_oneRoom_row_ends, .ref aT_oneRoom_row_weights, .int f_oneRoom_row_count_1])), (aT_oneRoom_row_numbers, .inl (cy.1, 40, .inl A_oneRoom_row_numbers_2)), (aT_oneRoom_row_begins, .inl (cy.1, 40, .inl A_oneRoom_row_begins_3)), (aT_oneRoom_row_ends, .inl (cy.1, 40, .inl A_oneRoom_row_ends_4)), (aT_oneRoom_row_weights, .inl (cy.1, 40, .inl A_oneRoom_row_weights_5))]) ⟨hx, hb, hml, hown, hts⟩ (c_X2_greatestNumber l G cy k aT_oneRoom aT_oneRoom_row aT_oneRoom_best aT_oneRoom_row_numbers aT_oneRoom_row_begins aT_oneRoom_row_ends aT_oneRoom_row_weights f_oneRoom_row_byEnd f_oneRoom_row_count_1 A_oneRoom_row_begins_3 A_oneRoom_row_ends_4 hcl8) (cwV 0 hts gX4_most_X2_greatestNumber rfl rfl rfl (by decide +kernel) ⟨Nat.le_of_ble_eq_true rfl, Nat.le_of_ble_eq_true rfl⟩) hv (isC := [4, 5, 7, 8]) ⟨rfl, rfl⟩ (hv.recv 2 4 rfl rfl) [0, 1, 2, 3, 6, 9] [0, 1, 2, 3, 6, 7, 4, 8, 9, 5] rfl rfl (by decide) rfl rfl rfl hl.1 rfl (Nat.le_of_ble_eq_true rfl) dX4_most_19 ⟨Nat.le_of_ble_eq_true rfl, Nat.le_of_ble_eq_true rfl⟩ (fun H locs hv => ?_)
  cases hf
  exact kret _ _ _ _ hv dX4_most_22

def f_X4_requireThere (k : Nat) (p1 : Int32) (f_added : Int32) (f_presentSet : Int64) : Option (Except String (Unit)) := if p1 < 0 then some (.error "java/lang/IndexOutOfBoundsException") else if f_added ≤ p1 then some (.error "java/lang/IndexOutOfBoundsException") else xb (f_X4_contains k f_presentSet p1) (fun r3 => if r3 = 0 then some (.error "java/lang/IndexOutOfBoundsException") else some (.ok ()))
abbrev rm_X4_requireThere : Room := { frames := 6, cells := 1, slots := 6, locals := 90 }
set_option maxHeartbeats 4000000 in
set_option maxRecDepth 100000 in
theorem c_X4_requireThere (l : Launch) (hl9 : l.stackTraces = false) (G : va_G) (cy : ClassId × ClassId × ClassId) (k : Nat) (aT aT_begins aT_ends aT_weights aT_givenRooms aT_oneRoom aT_manyRooms : Nat) (f_added : Int32) (f_presentSet : Int64) (f_factor : Int32) (f_offeredSet : Int64) (f_acceptedSet : Int64) (f_dropped : Int32) (p1 : Int32) {o : Except String (Unit)} (hf : f_X4_requireThere k p1 f_added f_presentSet = some o) : Xv l yX4_requireThere wsX4_requireThere rm_X4_requireThere 1 6 G cy [.ref aT, .int p1] [(aT, .inr (4, [.ref aT_begins, .ref aT_ends, .ref aT_weights, .int f_added, .long f_presentSet, .int f_factor, .long f_offeredSet, .long f_acceptedSet, .int f_dropped, .ref aT_givenRooms, .ref aT_oneRoom, .ref aT_manyRooms]))] (kmo (fun (_ : Unit) => [(aT, .inr (4, [.ref aT_begins, .ref aT_ends, .ref aT_weights, .int f_added, .long f_presentSet, .int f_factor, .long f_offeredSet, .long f_acceptedSet, .int f_dropped, .ref aT_givenRooms, .ref aT_oneRoom, .ref aT_manyRooms]))]) o) := by
  refine kMetXV (cc := cX4_requireThere) (maxL := 2) (by decide) rfl (Nat.le_of_ble_eq_true rfl) ?_
  intro p e s m args below meth c Q A ls Qc hx hb hml hts hown hv hl kret hT htab hlocks
  replace hown : s.vm.findClass RX4 = some m.cls := hown
  replace hl : lv_has ls 2 [(0, .ref aT), (1, .int p1)] := hl
  have hk53 : (Cond.fieldLink RX4 53 "Roomcolour" "added" "I").before args s = true := hts _ (by decide +kernel)
  have hinX4 : ∀ w ∈ wsX40, w ∈ wsX4_requireThere := by decide +kernel
  have hk61 : (Cond.fieldLink RX4 61 "Roomcolour" "presentSet" "J").before args s = true := hts _ (by decide +kernel)
  unfold f_X4_requireThere at hf
  refine lv_iload_n hx hb dX4_requireThere_0 rfl (lv_at hl 1 rfl) ?_
  refine lv_if_lt (tgt := 23) hx hb dX4_requireThere_1 (by decide) (fun hc1 => ?_) (fun hc1 => ?_)
  · replace hf := ite_t hf hc1
    cases hf
    exact kThrow hx hb hl9 hts hown hv hT htab hlocks (by rw [hml]; exact hl.1) (cls := "java/lang/IndexOutOfBoundsException") (text := "there is no such interval") (ik := 179) (is := 181) (ic := 183) rfl (by decide +kernel) (by decide +kernel) (by decide +kernel) (by decide +kernel) (by decide +kernel) (by decide +kernel) (by decide +kernel) dX4_requireThere_23 dX4_requireThere_26 dX4_requireThere_27 dX4_requireThere_29 dX4_requireThere_32 (by decide) (by decide) (by decide) (by decide) (by decide) (by decide)
  · replace hf := ite_f hf hc1
    refine lv_iload_n hx hb dX4_requireThere_4 rfl (lv_at hl 1 rfl) ?_
    refine lv_aload_n hx hb dX4_requireThere_5 rfl (lv_at hl 0 rfl) ?_
    refine kGet (v := .int f_added) (C := RX4) (T := TX4) (N := 12) hx hb hts hinX4 hown hv 0 rfl rfl 3 (by decide) hk53 (fun _ h9 => h9) rfl dX4_requireThere_6 ?_
    refine lv_icmp_ge (tgt := 23) hx hb dX4_requireThere_9 (by decide) (fun hc2 => ?_) (fun hc2 => ?_)
    · replace hf := ite_t hf hc2
      cases hf
      exact kThrow hx hb hl9 hts hown hv hT htab hlocks (by rw [hml]; exact hl.1) (cls := "java/lang/IndexOutOfBoundsException") (text := "there is no such interval") (ik := 179) (is := 181) (ic := 183) rfl (by decide +kernel) (by decide +kernel) (by decide +kernel) (by decide +kernel) (by decide +kernel) (by decide +kernel) (by decide +kernel) dX4_requireThere_23 dX4_requireThere_26 dX4_requireThere_27 dX4_requireThere_29 dX4_requireThere_32 (by decide) (by decide) (by decide) (by decide) (by decide) (by decide)
    · replace hf := ite_f hf hc2
      refine lv_aload_n hx hb dX4_requireThere_12 rfl (lv_at hl 0 rfl) ?_
      refine kGet (v := .long f_presentSet) (C := RX4) (T := TX4) (N := 12) hx hb hts hinX4 hown hv 0 rfl rfl 4 (by decide) hk61 (fun _ h9 => h9) rfl dX4_requireThere_13 ?_
      refine lv_iload_n hx hb dX4_requireThere_16 rfl (lv_at hl 1 rfl) ?_
      obtain ⟨r3, hcl4, hf⟩ := xb_some hf
      refine kS_i (r := r3) ⟨hx, hb, hml, hown, hts⟩ (c_X4_contains l G cy k f_presentSet p1 hcl4) (va_cwS 2 hts gX4_requireThere_X4_contains rfl rfl rfl (by decide +kernel) ⟨Nat.le_of_ble_eq_true rfl, Nat.le_of_ble_eq_true rfl⟩) hv rfl hl.1 rfl (Nat.le_of_ble_eq_true rfl) dX4_requireThere_17 ⟨Nat.le_of_ble_eq_true rfl, Nat.le_of_ble_eq_true rfl⟩ (fun H locs hv => ?_)
      refine lv_if_ne (tgt := 33) hx hb dX4_requireThere_20 (by decide) (fun hc5 => ?_) (fun hc5 => ?_)
      · replace hf := ite_f hf hc5
        cases hf
        refine W.widen (k := 1) (n := 6) (by omega) (by omega) ?_
        exact kret _ _ _ _ _ rfl hv dX4_requireThere_33
      · replace hf := ite_t hf hc5
        cases hf
        exact kThrow hx hb hl9 hts hown hv hT htab hlocks (by rw [hml]; exact hl.1) (cls := "java/lang/IndexOutOfBoundsException") (text := "there is no such interval") (ik := 179) (is := 181) (ic := 183) rfl (by decide +kernel) (by decide +kernel) (by decide +kernel) (by decide +kernel) (by decide +kernel) (by decide +kernel) (by decide +kernel) dX4_requireThere_23 dX4_requireThere_26 dX4_requireThere_27 dX4_requireThere_29 dX4_requireThere_32 (by decide) (by decide) (by decide) (by decide) (by decide) (by decide)

def f_X4_move (k : Nat) (p1 : Int32) (p2 : Int32) (f_added : Int32) (f_presentSet : Int64) (f_acceptedSet : Int64) (A_begins : Nat → Int32) (A_ends : Nat → Int32) : Option (Except String (Int32 × Int64 × (Nat → Int32) × (Nat → Int32))) := xe (f_X4_requireThere k p1 f_added f_presentSet) (fun _ => xb (f_X4_lengthOf k p1 A_begins A_ends) (fun r2 => if p2 < 0 then some (.error "java/lang/IllegalArgumentException") else if p2 ≤ (1000 - r2) then xi p1 40 (xi p1 40 (xi p1 40 (xb (f_X4_only k p1) (fun r9 => some (.ok (A_begins p1.toNatClampNeg, f_acceptedSet &&& (r9 ^^^ (-1)), upd A_begins p1.toNatClampNeg p2, upd A_ends p1.toNatClampNeg (p2 + r2))))))) else some (.error "java/lang/IllegalArgumentException")))
abbrev rm_X4_move : Room := { frames := 7, cells := 2, slots := 12, locals := 111 }
set_option maxHeartbeats 4000000 in
set_option maxRecDepth 100000 in
theorem c_X4_move (l : Launch) (hl9 : l.stackTraces = false) (G : va_G) (cy : ClassId × ClassId × ClassId) (k : Nat) (aT aT_begins aT_ends aT_weights aT_givenRooms aT_oneRoom aT_manyRooms : Nat) (f_added : Int32) (f_presentSet : Int64) (f_factor : Int32) (f_offeredSet : Int64) (f_acceptedSet : Int64) (f_dropped : Int32) (A_begins : Nat → Int32) (A_ends : Nat → Int32) (p1 : Int32) (p2 : Int32) {o : Except String (Int32 × Int64 × (Nat → Int32) × (Nat → Int32))} (hf : f_X4_move k p1 p2 f_added f_presentSet f_acceptedSet A_begins A_ends = some o) : Xi l yX4_move wsX4_move rm_X4_move 2 12 G cy [.ref aT, .int p1, .int p2] [(aT, .inr (4, [.ref aT_begins, .ref aT_ends, .ref aT_weights, .int f_added, .long f_presentSet, .int f_factor, .long f_offeredSet, .long f_acceptedSet, .int f_dropped, .ref aT_givenRooms, .ref aT_oneRoom, .ref aT_manyRooms])), (aT_begins, .inl (cy.1, 40, .inl A_begins)), (aT_ends, .inl (cy.1, 40, .inl A_ends))] (kmo (fun (q : Int32 × Int64 × (Nat → Int32) × (Nat → Int32)) => (q.1, [(aT, .inr (4, [.ref aT_begins, .ref aT_ends, .ref aT_weights, .int f_added, .long f_presentSet, .int f_factor, .long f_offeredSet, .long q.2.1, .int f_dropped, .ref aT_givenRooms, .ref aT_oneRoom, .ref aT_manyRooms])), (aT_begins, .inl (cy.1, 40, .inl q.2.2.1)), (aT_ends, .inl (cy.1, 40, .inl q.2.2.2))])) o) := by
  refine kMetXI (cc := cX4_move) (maxL := 5) (by decide) rfl (Nat.le_of_ble_eq_true rfl) ?_
  intro p e s m args below meth c Q A ls Qc hx hb hml hts hown hv hl kret hT htab hlocks
  replace hown : s.vm.findClass RX4 = some m.cls := hown
  replace hl : lv_has ls 5 [(0, .ref aT), (1, .int p1), (2, .int p2)] := hl
  have hk9 : (Cond.fieldLink RX4 9 "Roomcolour" "begins" "[I").before args s = true := hts _ (by decide +kernel)
  have hinX4 : ∀ w ∈ wsX40, w ∈ wsX4_move := by decide +kernel
  have hk13 : (Cond.fieldLink RX4 13 "Roomcolour" "ends" "[I").before args s = true := hts _ (by decide +kernel)
  have hk75 : (Cond.fieldLink RX4 75 "Roomcolour" "acceptedSet" "J").before args s = true := hts _ (by decide +kernel)
  have hk73 : (Cond.constantLong RX4 73 (-1)).before args s = true := hts _ (by decide +kernel)
  unfold f_X4_move at hf
  refine lv_aload_n hx hb dX4_move_0 rfl (lv_at hl 0 rfl) ?_
  refine lv_iload_n hx hb dX4_move_1 rfl (lv_at hl 1 rfl) ?_
  rcases xe_some hf with ⟨E11, hcl1, hf⟩ | ⟨_, hcl1, hf⟩
  · cases hf
    refine kXV_vE (E := E11) (wc := [(aT, .inr (4, [.ref aT_begins, .ref aT_ends, .ref aT_weights, .int f_added, .long f_presentSet, .int f_factor, .long f_offeredSet, .long f_acceptedSet, .int f_dropped, .ref aT_givenRooms, .ref aT_oneRoom, .ref aT_manyRooms]))]) ⟨hx, hb, hml, hown, hts⟩ (c_X4_requireThere l hl9 G cy k aT aT_begins aT_ends aT_weights aT_givenRooms aT_oneRoom aT_manyRooms f_added f_presentSet f_factor f_offeredSet f_acceptedSet f_dropped p1 hcl1) (cwV 1 hts gX4_move_X4_requireThere rfl rfl rfl (by decide +kernel) ⟨Nat.le_of_ble_eq_true rfl, Nat.le_of_ble_eq_true rfl⟩) hv (isC := [0]) ⟨rfl, rfl⟩ (hv.recv 4 0 rfl rfl) rfl hl.1 rfl (Nat.le_of_ble_eq_true rfl) dX4_move_2 ⟨Nat.le_of_ble_eq_true rfl, Nat.le_of_ble_eq_true rfl⟩ (fun ce q9 H locs hv hce hcv hcl => ?_)
    exact kOut hv hT htab hlocks rfl hce hcv hcl (by decide) (by decide)
  · refine kXV_v (wc := [(aT, .inr (4, [.ref aT_begins, .ref aT_ends, .ref aT_weights, .int f_added, .long f_presentSet, .int f_factor, .long f_offeredSet, .long f_acceptedSet, .int f_dropped, .ref aT_givenRooms, .ref aT_oneRoom, .ref aT_manyRooms]))]) (wc' := [(aT, .inr (4, [.ref aT_begins, .ref aT_ends, .ref aT_weights, .int f_added, .long f_presentSet, .int f_factor, .long f_offeredSet, .long f_acceptedSet, .int f_dropped, .ref aT_givenRooms, .ref aT_oneRoom, .ref aT_manyRooms]))]) (wr := [(aT_begins, .inl (cy.1, 40, .inl A_begins)), (aT_ends, .inl (cy.1, 40, .inl A_ends))]) (w2 := [(aT, .inr (4, [.ref aT_begins, .ref aT_ends, .ref aT_weights, .int f_added, .long f_presentSet, .int f_factor, .long f_offeredSet, .long f_acceptedSet, .int f_dropped, .ref aT_givenRooms, .ref aT_oneRoom, .ref aT_manyRooms])), (aT_begins, .inl (cy.1, 40, .inl A_begins)), (aT_ends, .inl (cy.1, 40, .inl A_ends))]) ⟨hx, hb, hml, hown, hts⟩ (c_X4_requireThere l hl9 G cy k aT aT_begins aT_ends aT_weights aT_givenRooms aT_oneRoom aT_manyRooms f_added f_presentSet f_factor f_offeredSet f_acceptedSet f_dropped p1 hcl1) (cwV 1 hts gX4_move_X4_requireThere rfl rfl rfl (by decide +kernel) ⟨Nat.le_of_ble_eq_true rfl, Nat.le_of_ble_eq_true rfl⟩) hv (isC := [0]) ⟨rfl, rfl⟩ (hv.recv 4 0 rfl rfl) [1, 2] [2, 0, 1] rfl rfl (by decide) rfl rfl rfl hl.1 rfl (Nat.le_of_ble_eq_true rfl) dX4_move_2 ⟨Nat.le_of_ble_eq_true rfl, Nat.le_of_ble_eq_true rfl⟩ (fun H locs hv => ?_)
    refine lv_aload_n hx hb dX4_move_5 rfl (lv_at hl 0 rfl) ?_
    refine lv_iload_n hx hb dX4_move_6 rfl (lv_at hl 1 rfl) ?_
    obtain ⟨r2, hcl3, hf⟩ := xb_some hf
    refine kV_i (r := r2) (wr := []) (w2 := [(aT, .inr (4, [.ref aT_begins, .ref aT_ends, .ref aT_weights, .int f_added, .long f_presentSet, .int f_factor, .long f_offeredSet, .long f_acceptedSet, .int f_dropped, .ref aT_givenRooms, .ref aT_oneRoom, .ref aT_manyRooms])), (aT_begins, .inl (cy.1, 40, .inl A_begins)), (aT_ends, .inl (cy.1, 40, .inl A_ends))]) ⟨hx, hb, hml, hown, hts⟩ (c_X4_lengthOf l G cy k aT aT_begins aT_ends aT_weights aT_givenRooms aT_oneRoom aT_manyRooms f_added f_presentSet f_factor f_offeredSet f_acceptedSet f_dropped A_begins A_ends p1 hcl3) (cwV 1 hts gX4_move_X4_lengthOf rfl rfl rfl (by decide +kernel) ⟨Nat.le_of_ble_eq_true rfl, Nat.le_of_ble_eq_true rfl⟩) hv (isC := [0, 1, 2]) ⟨rfl, rfl⟩ (hv.recv 4 0 rfl rfl) [] [0, 1, 2] rfl rfl (by decide) rfl rfl rfl hl.1 rfl (Nat.le_of_ble_eq_true rfl) dX4_move_7 ⟨Nat.le_of_ble_eq_true rfl, Nat.le_of_ble_eq_true rfl⟩ (fun H locs hv => ?_)
    refine lv_istore_n (lv' := [(3, .int r2), (0, .ref aT), (1, .int p1), (2, .int p2)]) hx hb dX4_move_10 rfl hl (by decide) rfl (fun ls hl => ?_)
    refine lv_iload_n hx hb dX4_move_11 rfl (lv_at hl 3 rfl) ?_
    refine lv_if_lt (tgt := 24) hx hb dX4_move_12 (by decide) (fun hc4 => ?_) (fun hc4 => ?_)
    · replace hf := ite_t hf hc4
      cases hf
      exact kThrow hx hb hl9 hts hown hv hT htab hlocks (by rw [hml]; exact hl.1) (cls := "java/lang/IllegalArgumentException") (text := "begin or the new end is out of range") (ik := 44) (is := 88) (ic := 48) rfl (by decide +kernel) (by decide +kernel) (by decide +kernel) (by decide +kernel) (by decide +kernel) (by decide +kernel) (by decide +kernel) dX4_move_24 dX4_move_27 dX4_move_28 dX4_move_30 dX4_move_33 (by decide) (by decide) (by decide) (by decide) (by decide) (by decide)
    · replace hf := ite_f hf hc4
      refine lv_iload_n hx hb dX4_move_15 rfl (lv_at hl 3 rfl) ?_
      refine lv_sipush (v := 1000) hx hb dX4_move_16 (by decide) ?_
      refine lv_iload_n hx hb dX4_move_19 rfl (lv_at hl 0 rfl) ?_
      refine lv_isub hx hb dX4_move_20 ?_
      refine lv_icmp_le (tgt := 34) hx hb dX4_move_21 (by decide) (fun hc5 => ?_) (fun hc5 => ?_)
      · replace hf := ite_t hf hc5
        refine lv_aload_n hx hb dX4_move_34 rfl (lv_at hl 1 rfl) ?_
        refine kGet (v := .ref aT_begins) (C := RX4) (T := TX4) (N := 12) hx hb hts hinX4 hown hv 0 rfl rfl 0 (by decide) hk9 (fun _ h9 => h9) rfl dX4_move_35 ?_
        refine lv_iload_n hx hb dX4_move_38 rfl (lv_at hl 2 rfl) ?_
        obtain ⟨hi6, hf⟩ := xi_some hf
        refine kIald hx hb hv 1 rfl hi6 dX4_move_39 ?_
        refine lv_istore (lv' := [(4, .int (A_begins p1.toNatClampNeg)), (3, .int r2), (0, .ref aT), (1, .int p1), (2, .int p2)]) hx hb dX4_move_40 hl (by decide) rfl (fun ls hl => ?_)
        refine lv_aload_n hx hb dX4_move_42 rfl (lv_at hl 2 rfl) ?_
        refine kGet (v := .ref aT_begins) (C := RX4) (T := TX4) (N := 12) hx hb hts hinX4 hown hv 0 rfl rfl 0 (by decide) hk9 (fun _ h9 => h9) rfl dX4_move_43 ?_
        refine lv_iload_n hx hb dX4_move_46 rfl (lv_at hl 3 rfl) ?_
        refine lv_iload_n hx hb dX4_move_47 rfl (lv_at hl 4 rfl) ?_
        obtain ⟨hi7, hf⟩ := xi_some hf
        refine kIast hx hb hv 1 rfl hi7 dX4_move_48 (fun H locs hv => ?_)
        replace hv : Hv s H locs G cy A [(aT, .inr (4, [.ref aT_begins, .ref aT_ends, .ref aT_weights, .int f_added, .long f_presentSet, .int f_factor, .long f_offeredSet, .long f_acceptedSet, .int f_dropped, .ref aT_givenRooms, .ref aT_oneRoom, .ref aT_manyRooms])), (aT_begins, .inl (cy.1, 40, .inl (upd A_begins p1.toNatClampNeg p2))), (aT_ends, .inl (cy.1, 40, .inl A_ends))] := hv
        refine lv_aload_n hx hb dX4_move_49 rfl (lv_at hl 2 rfl) ?_
        refine kGet (v := .ref aT_ends) (C := RX4) (T := TX4) (N := 12) hx hb hts hinX4 hown hv 0 rfl rfl 1 (by decide) hk13 (fun _ h9 => h9) rfl dX4_move_50 ?_
        refine lv_iload_n hx hb dX4_move_53 rfl (lv_at hl 3 rfl) ?_
        refine lv_iload_n hx hb dX4_move_54 rfl (lv_at hl 4 rfl) ?_
        refine lv_iload_n hx hb dX4_move_55 rfl (lv_at hl 1 rfl) ?_
        refine lv_iadd hx hb dX4_move_56 ?_
        obtain ⟨hi8, hf⟩ := xi_some hf
        refine kIast hx hb hv 2 rfl hi8 dX4_move_57 (fun H locs hv => ?_)
        replace hv : Hv s H locs G cy A [(aT, .inr (4, [.ref aT_begins, .ref aT_ends, .ref aT_weights, .int f_added, .long f_presentSet, .int f_factor, .long f_offeredSet, .long f_acceptedSet, .int f_dropped, .ref aT_givenRooms, .ref aT_oneRoom, .ref aT_manyRooms])), (aT_begins, .inl (cy.1, 40, .inl (upd A_begins p1.toNatClampNeg p2))), (aT_ends, .inl (cy.1, 40, .inl (upd A_ends p1.toNatClampNeg (p2 + r2))))] := hv
        refine lv_aload_n hx hb dX4_move_58 rfl (lv_at hl 2 rfl) ?_
        refine lv_dup hx hb dX4_move_59 rfl ?_
        refine kGet (v := .long f_acceptedSet) (C := RX4) (T := TX4) (N := 12) hx hb hts hinX4 hown hv 0 rfl rfl 7 (by decide) hk75 (fun _ h9 => h9) rfl dX4_move_60 ?_
        refine lv_iload_n hx hb dX4_move_63 rfl (lv_at hl 3 rfl) ?_
        obtain ⟨r9, hcl10, hf⟩ := xb_some hf
        refine kS_l (r := r9) ⟨hx, hb, hml, hown, hts⟩ (c_X4_only l G cy k p1 hcl10) (va_cwS 1 hts gX4_move_X4_only rfl rfl rfl (by decide +kernel) ⟨Nat.le_of_ble_eq_true rfl, Nat.le_of_ble_eq_true rfl⟩) hv rfl hl.1 rfl (Nat.le_of_ble_eq_true rfl) dX4_move_64 ⟨Nat.le_of_ble_eq_true rfl, Nat.le_of_ble_eq_true rfl⟩ (fun H locs hv => ?_)
        refine lv_ldc2 hx hb hown hk73 dX4_move_67 ?_
        refine lv_lxor hx hb dX4_move_70 ?_
        refine lv_land hx hb dX4_move_71 ?_
        refine kPut (v := .long (f_acceptedSet &&& (r9 ^^^ (-1)))) (ty := .long) (C := RX4) (T := TX4) (N := 12) hx hb hts hinX4 tyX4 tyX4_ok nmX4 hown hv 0 rfl rfl 7 (by decide) hk75 (fun _ h9 => h9) rfl (by decide +kernel) rfl rfl (Nat.le_of_ble_eq_true rfl) dX4_move_72 (fun H locs hv => ?_)
        replace hv : Hv s H locs G cy A [(aT, .inr (4, [.ref aT_begins, .ref aT_ends, .ref aT_weights, .int f_added, .long f_presentSet, .int f_factor, .long f_offeredSet, .long (f_acceptedSet &&& (r9 ^^^ (-1))), .int f_dropped, .ref aT_givenRooms, .ref aT_oneRoom, .ref aT_manyRooms])), (aT_begins, .inl (cy.1, 40, .inl (upd A_begins p1.toNatClampNeg p2))), (aT_ends, .inl (cy.1, 40, .inl (upd A_ends p1.toNatClampNeg (p2 + r2))))] := hv
        refine lv_iload hx hb dX4_move_75 (lv_at hl 0 rfl) ?_
        cases hf
        refine W.widen (k := 2) (n := 12) (by omega) (by omega) ?_
        exact kret _ _ _ _ _ _ rfl hv dX4_move_77
      · replace hf := ite_f hf hc5
        cases hf
        exact kThrow hx hb hl9 hts hown hv hT htab hlocks (by rw [hml]; exact hl.1) (cls := "java/lang/IllegalArgumentException") (text := "begin or the new end is out of range") (ik := 44) (is := 88) (ic := 48) rfl (by decide +kernel) (by decide +kernel) (by decide +kernel) (by decide +kernel) (by decide +kernel) (by decide +kernel) (by decide +kernel) dX4_move_24 dX4_move_27 dX4_move_28 dX4_move_30 dX4_move_33 (by decide) (by decide) (by decide) (by decide) (by decide) (by decide)

def f_X4_othersMeeting_L5 (k : Nat) (v1 : Int32) (f_added : Int32) (A_begins : Nat → Int32) (A_ends : Nat → Int32) (κ : Int64 → Int32 → Option (Int64)) : Nat → Int64 → Int32 → Option (Int64)
  | 0, _, _ => none
  | n + 1, v2, v4 => if f_added ≤ v4 then κ v2 v4 else xi v4 40 (xi v1 40 (if (A_ends v1.toNatClampNeg) ≤ (A_begins v4.toNatClampNeg) then f_X4_othersMeeting_L5 k v1 f_added A_begins A_ends κ n v2 (v4 + 1) else xi v1 40 (xi v4 40 (if (A_ends v4.toNatClampNeg) ≤ (A_begins v1.toNatClampNeg) then f_X4_othersMeeting_L5 k v1 f_added A_begins A_ends κ n v2 (v4 + 1) else xb (f_X4_only k v4) (fun r8 => f_X4_othersMeeting_L5 k v1 f_added A_begins A_ends κ n (v2 ||| r8) (v4 + 1))))))
theorem f_X4_othersMeeting_L5_z (k : Nat) (v1 : Int32) (f_added : Int32) (A_begins : Nat → Int32) (A_ends : Nat → Int32) (κ : Int64 → Int32 → Option (Int64)) (v2 : Int64) (v4 : Int32) : f_X4_othersMeeting_L5 k v1 f_added A_begins A_ends κ 0 v2 v4 = none := rfl
theorem f_X4_othersMeeting_L5_s (k : Nat) (v1 : Int32) (f_added : Int32) (A_begins : Nat → Int32) (A_ends : Nat → Int32) (κ : Int64 → Int32 → Option (Int64)) (n : Nat) (v2 : Int64) (v4 : Int32) : f_X4_othersMeeting_L5 k v1 f_added A_begins A_ends κ (n + 1) v2 v4 = if f_added ≤ v4 then κ v2 v4 else xi v4 40 (xi v1 40 (if (A_ends v1.toNatClampNeg) ≤ (A_begins v4.toNatClampNeg) then f_X4_othersMeeting_L5 k v1 f_added A_begins A_ends κ n v2 (v4 + 1) else xi v1 40 (xi v4 40 (if (A_ends v4.toNatClampNeg) ≤ (A_begins v1.toNatClampNeg) then f_X4_othersMeeting_L5 k v1 f_added A_begins A_ends κ n v2 (v4 + 1) else xb (f_X4_only k v4) (fun r8 => f_X4_othersMeeting_L5 k v1 f_added A_begins A_ends κ n (v2 ||| r8) (v4 + 1)))))) := rfl
def f_X4_othersMeeting (k : Nat) (p1 : Int32) (f_added : Int32) (f_presentSet : Int64) (A_begins : Nat → Int32) (A_ends : Nat → Int32) : Option (Int64) := f_X4_othersMeeting_L5 k p1 f_added A_begins A_ends (fun (v2_10 : Int64) (v4_11 : Int32) => xb (f_X4_only k p1) (fun r12 => some ((v2_10 &&& f_presentSet) &&& (r12 ^^^ (-1))))) k 0 0
abbrev rm_X4_othersMeeting : Room := { frames := 1, cells := 0, slots := 0, locals := 20 }
set_option maxHeartbeats 4000000 in
set_option maxRecDepth 100000 in
theorem c_X4_othersMeeting (l : Launch) (G : va_G) (cy : ClassId × ClassId × ClassId) (k : Nat) (aT aT_begins aT_ends aT_weights aT_givenRooms aT_oneRoom aT_manyRooms : Nat) (f_added : Int32) (f_presentSet : Int64) (f_factor : Int32) (f_offeredSet : Int64) (f_acceptedSet : Int64) (f_dropped : Int32) (A_begins : Nat → Int32) (A_ends : Nat → Int32) (p1 : Int32) {r : Int64} (hf : f_X4_othersMeeting k p1 f_added f_presentSet A_begins A_ends = some r) : Cl l yX4_othersMeeting wsX4_othersMeeting rm_X4_othersMeeting 0 0 G cy [.ref aT, .int p1] [(aT, .inr (4, [.ref aT_begins, .ref aT_ends, .ref aT_weights, .int f_added, .long f_presentSet, .int f_factor, .long f_offeredSet, .long f_acceptedSet, .int f_dropped, .ref aT_givenRooms, .ref aT_oneRoom, .ref aT_manyRooms])), (aT_begins, .inl (cy.1, 40, .inl A_begins)), (aT_ends, .inl (cy.1, 40, .inl A_ends))] [(aT, .inr (4, [.ref aT_begins, .ref aT_ends, .ref aT_weights, .int f_added, .long f_presentSet, .int f_factor, .long f_offeredSet, .long f_acceptedSet, .int f_dropped, .ref aT_givenRooms, .ref aT_oneRoom, .ref aT_manyRooms])), (aT_begins, .inl (cy.1, 40, .inl A_begins)), (aT_ends, .inl (cy.1, 40, .inl A_ends))] r := by
  refine kMetL (cc := cX4_othersMeeting) (maxL := 5) (by decide) rfl (Nat.le_of_ble_eq_true rfl) ?_
  intro p e s m args below meth c Q A ls hx hb hml hts hown hv hl kret
  replace hown : s.vm.findClass RX4 = some m.cls := hown
  replace hl : lv_has ls 5 [(0, .ref aT), (1, .int p1)] := hl
  have hk53 : (Cond.fieldLink RX4 53 "Roomcolour" "added" "I").before args s = true := hts _ (by decide +kernel)
  have hinX4 : ∀ w ∈ wsX40, w ∈ wsX4_othersMeeting := by decide +kernel
  have hk9 : (Cond.fieldLink RX4 9 "Roomcolour" "begins" "[I").before args s = true := hts _ (by decide +kernel)
  have hk13 : (Cond.fieldLink RX4 13 "Roomcolour" "ends" "[I").before args s = true := hts _ (by decide +kernel)
  have hk61 : (Cond.fieldLink RX4 61 "Roomcolour" "presentSet" "J").before args s = true := hts _ (by decide +kernel)
  have hk73 : (Cond.constantLong RX4 73 (-1)).before args s = true := hts _ (by decide +kernel)
  have L5 : ∀ (v1 : Int32) (κ : Int64 → Int32 → Option (Int64)) (n : Nat) (v2 : Int64) (v4 : Int32), f_X4_othersMeeting_L5 k v1 f_added A_begins A_ends κ n v2 v4 = some r → ∀ (H : Heap) (locs : List Loc) (ls : Array Slot), Hv s H locs G cy A [(aT, .inr (4, [.ref aT_begins, .ref aT_ends, .ref aT_weights, .int f_added, .long f_presentSet, .int f_factor, .long f_offeredSet, .long f_acceptedSet, .int f_dropped, .ref aT_givenRooms, .ref aT_oneRoom, .ref aT_manyRooms])), (aT_begins, .inl (cy.1, 40, .inl A_begins)), (aT_ends, .inl (cy.1, 40, .inl A_ends))] → lv_has ls 5 [(0, .ref aT), (1, .int v1), (2, .long v2), (4, .int v4)] → (∀ (v2 : Int64) (v4 : Int32), κ v2 v4 = some r → ∀ (H : Heap) (locs : List Loc) (ls : Array Slot), Hv s H locs G cy A [(aT, .inr (4, [.ref aT_begins, .ref aT_ends, .ref aT_weights, .int f_added, .long f_presentSet, .int f_factor, .long f_offeredSet, .long f_acceptedSet, .int f_dropped, .ref aT_givenRooms, .ref aT_oneRoom, .ref aT_manyRooms])), (aT_begins, .inl (cy.1, 40, .inl A_begins)), (aT_ends, .inl (cy.1, 40, .inl A_ends))] → lv_has ls 5 [(0, .ref aT), (1, .int v1), (2, .long v2)] → W p l e rm_X4_othersMeeting s m args below meth c H locs 0 0 Q (F0 m 60 ls [])) → W p l e rm_X4_othersMeeting s m args below meth c H locs 0 0 Q (F0 m 5 ls []) := by
    intro v1 κ n
    induction n with
    | zero =>
      intro v2 v4 hf
      rw [f_X4_othersMeeting_L5_z] at hf
      cases hf
    | succ n ih =>
      intro v2 v4 hf H locs ls hv hl hκ
      rw [f_X4_othersMeeting_L5_s] at hf
      refine lv_iload hx hb dX4_othersMeeting_5 (lv_at hl 3 rfl) ?_
      refine lv_aload_n hx hb dX4_othersMeeting_7 rfl (lv_at hl 0 rfl) ?_
      refine kGet (v := .int f_added) (C := RX4) (T := TX4) (N := 12) hx hb hts hinX4 hown hv 0 rfl rfl 3 (by decide) hk53 (fun _ h9 => h9) rfl dX4_othersMeeting_8 ?_
      refine lv_icmp_ge (tgt := 60) hx hb dX4_othersMeeting_11 (by decide) (fun hc1 => ?_) (fun hc1 => ?_)
      · replace hf := ite_t hf hc1
        exact hκ v2 v4 hf _ _ _ hv (lv_sub hl [0, 1, 2] rfl)
      · replace hf := ite_f hf hc1
        refine lv_aload_n hx hb dX4_othersMeeting_14 rfl (lv_at hl 0 rfl) ?_
        refine kGet (v := .ref aT_begins) (C := RX4) (T := TX4) (N := 12) hx hb hts hinX4 hown hv 0 rfl rfl 0 (by decide) hk9 (fun _ h9 => h9) rfl dX4_othersMeeting_15 ?_
        refine lv_iload hx hb dX4_othersMeeting_18 (lv_at hl 3 rfl) ?_
        obtain ⟨hi2, hf⟩ := xi_some hf
        refine kIald hx hb hv 1 rfl hi2 dX4_othersMeeting_20 ?_
        refine lv_aload_n hx hb dX4_othersMeeting_21 rfl (lv_at hl 0 rfl) ?_
        refine kGet (v := .ref aT_ends) (C := RX4) (T := TX4) (N := 12) hx hb hts hinX4 hown hv 0 rfl rfl 1 (by decide) hk13 (fun _ h9 => h9) rfl dX4_othersMeeting_22 ?_
        refine lv_iload_n hx hb dX4_othersMeeting_25 rfl (lv_at hl 1 rfl) ?_
        obtain ⟨hi3, hf⟩ := xi_some hf
        refine kIald hx hb hv 2 rfl hi3 dX4_othersMeeting_26 ?_
        refine lv_icmp_ge (tgt := 54) hx hb dX4_othersMeeting_27 (by decide) (fun hc4 => ?_) (fun hc4 => ?_)
        · replace hf := ite_t hf hc4
          refine lv_iinc (v := v4 + 1) (lv' := [(4, .int (v4 + 1)), (0, .ref aT), (1, .int v1), (2, .long v2)]) hx hb dX4_othersMeeting_54 hl (k := 3) rfl rfl (by decide) rfl (fun ls hl => ?_)
          refine lv_goto (tgt := 5) hx hb dX4_othersMeeting_57 (by decide) ?_
          exact ih v2 (v4 + 1) hf _ _ _ hv (lv_sub hl [1, 2, 3, 0] rfl) hκ
        · replace hf := ite_f hf hc4
          refine lv_aload_n hx hb dX4_othersMeeting_30 rfl (lv_at hl 0 rfl) ?_
          refine kGet (v := .ref aT_begins) (C := RX4) (T := TX4) (N := 12) hx hb hts hinX4 hown hv 0 rfl rfl 0 (by decide) hk9 (fun _ h9 => h9) rfl dX4_othersMeeting_31 ?_
          refine lv_iload_n hx hb dX4_othersMeeting_34 rfl (lv_at hl 1 rfl) ?_
          obtain ⟨hi5, hf⟩ := xi_some hf
          refine kIald hx hb hv 1 rfl hi5 dX4_othersMeeting_35 ?_
          refine lv_aload_n hx hb dX4_othersMeeting_36 rfl (lv_at hl 0 rfl) ?_
          refine kGet (v := .ref aT_ends) (C := RX4) (T := TX4) (N := 12) hx hb hts hinX4 hown hv 0 rfl rfl 1 (by decide) hk13 (fun _ h9 => h9) rfl dX4_othersMeeting_37 ?_
          refine lv_iload hx hb dX4_othersMeeting_40 (lv_at hl 3 rfl) ?_
          obtain ⟨hi6, hf⟩ := xi_some hf
          refine kIald hx hb hv 2 rfl hi6 dX4_othersMeeting_42 ?_
          refine lv_icmp_ge (tgt := 54) hx hb dX4_othersMeeting_43 (by decide) (fun hc7 => ?_) (fun hc7 => ?_)
          · replace hf := ite_t hf hc7
            refine lv_iinc (v := v4 + 1) (lv' := [(4, .int (v4 + 1)), (0, .ref aT), (1, .int v1), (2, .long v2)]) hx hb dX4_othersMeeting_54 hl (k := 3) rfl rfl (by decide) rfl (fun ls hl => ?_)
            refine lv_goto (tgt := 5) hx hb dX4_othersMeeting_57 (by decide) ?_
            exact ih v2 (v4 + 1) hf _ _ _ hv (lv_sub hl [1, 2, 3, 0] rfl) hκ
          · replace hf := ite_f hf hc7
            refine lv_lload_n hx hb dX4_othersMeeting_46 rfl (lv_at hl 2 rfl) ?_
            refine lv_iload hx hb dX4_othersMeeting_47 (lv_at hl 3 rfl) ?_
            obtain ⟨r8, hcl9, hf⟩ := xb_some hf
            refine kS_l (r := r8) ⟨hx, hb, hml, hown, hts⟩ (c_X4_only l G cy k v4 hcl9) (va_cwS 1 hts gX4_othersMeeting_X4_only rfl rfl rfl (by decide +kernel) ⟨Nat.le_of_ble_eq_true rfl, Nat.le_of_ble_eq_true rfl⟩) hv rfl hl.1 rfl (Nat.le_of_ble_eq_true rfl) dX4_othersMeeting_49 ⟨Nat.le_of_ble_eq_true rfl, Nat.le_of_ble_eq_true rfl⟩ (fun H locs hv => ?_)
            refine lv_lor hx hb dX4_othersMeeting_52 ?_
            refine lv_lstore_n (lv' := [(2, .long (v2 ||| r8)), (0, .ref aT), (1, .int v1), (4, .int v4)]) hx hb dX4_othersMeeting_53 rfl hl (by decide) rfl (fun ls hl => ?_)
            refine lv_iinc (v := v4 + 1) (lv' := [(4, .int (v4 + 1)), (2, .long (v2 ||| r8)), (0, .ref aT), (1, .int v1)]) hx hb dX4_othersMeeting_54 hl (k := 3) rfl rfl (by decide) rfl (fun ls hl => ?_)
            refine lv_goto (tgt := 5) hx hb dX4_othersMeeting_57 (by decide) ?_
            exact ih (v2 ||| r8) (v4 + 1) hf _ _ _ hv (lv_sub hl [2, 3, 1, 0] rfl) hκ
  unfold f_X4_othersMeeting at hf
  refine lv_lconst (v := 0) hx hb dX4_othersMeeting_0 (by decide) ?_
  refine lv_lstore_n (lv' := [(2, .long 0), (0, .ref aT), (1, .int p1)]) hx hb dX4_othersMeeting_1 rfl hl (by decide) rfl (fun ls hl => ?_)
  refine lv_iconst (v := 0) hx hb dX4_othersMeeting_2 (by decide) ?_
  refine lv_istore (lv' := [(4, .int 0), (2, .long 0), (0, .ref aT), (1, .int p1)]) hx hb dX4_othersMeeting_3 hl (by decide) rfl (fun ls hl => ?_)
  refine L5 _ _ _ _ _ hf _ _ _ hv (lv_sub hl [2, 3, 1, 0] rfl) (fun v2_10 v4_11 hf H locs ls hv hl => ?_)
  try dsimp only at hf
  refine lv_lload_n hx hb dX4_othersMeeting_60 rfl (lv_at hl 2 rfl) ?_
  refine lv_aload_n hx hb dX4_othersMeeting_61 rfl (lv_at hl 0 rfl) ?_
  refine kGet (v := .long f_presentSet) (C := RX4) (T := TX4) (N := 12) hx hb hts hinX4 hown hv 0 rfl rfl 4 (by decide) hk61 (fun _ h9 => h9) rfl dX4_othersMeeting_62 ?_
  refine lv_land hx hb dX4_othersMeeting_65 ?_
  refine lv_iload_n hx hb dX4_othersMeeting_66 rfl (lv_at hl 1 rfl) ?_
  obtain ⟨r12, hcl13, hf⟩ := xb_some hf
  refine kS_l (r := r12) ⟨hx, hb, hml, hown, hts⟩ (c_X4_only l G cy k p1 hcl13) (va_cwS 1 hts gX4_othersMeeting_X4_only rfl rfl rfl (by decide +kernel) ⟨Nat.le_of_ble_eq_true rfl, Nat.le_of_ble_eq_true rfl⟩) hv rfl hl.1 rfl (Nat.le_of_ble_eq_true rfl) dX4_othersMeeting_67 ⟨Nat.le_of_ble_eq_true rfl, Nat.le_of_ble_eq_true rfl⟩ (fun H locs hv => ?_)
  refine lv_ldc2 hx hb hown hk73 dX4_othersMeeting_70 ?_
  refine lv_lxor hx hb dX4_othersMeeting_73 ?_
  refine lv_land hx hb dX4_othersMeeting_74 ?_
  cases hf
  exact kret _ _ _ _ hv dX4_othersMeeting_75

def f_X4_offer (k : Nat) (p1 : Int32) (f_added : Int32) (f_presentSet : Int64) (f_factor : Int32) (f_offeredSet : Int64) (f_acceptedSet : Int64) (f_dropped : Int32) (A_begins : Nat → Int32) (A_ends : Nat → Int32) (A_weights : Nat → Int32) : Option (Except String (Int32 × Int64 × Int64 × Int32)) := xe (f_X4_requireThere k p1 f_added f_presentSet) (fun _ => xb (f_X4_contains k f_offeredSet p1) (fun r2 => if r2 = 0 then xb (f_X4_only k p1) (fun r5 => xb (f_X4_othersMeeting k p1 f_added f_presentSet A_begins A_ends) (fun r7 => xb (f_X4_weightOf k (r7 &&& f_acceptedSet) f_added A_weights) (fun r9 => xi p1 40 (if (f_factor * r9) < (100 * (A_weights p1.toNatClampNeg)) then xb (f_X4_only k p1) (fun r13 => some (.ok (r9, f_offeredSet ||| r5, (f_acceptedSet &&& ((r7 &&& f_acceptedSet) ^^^ (-1))) ||| r13, f_dropped + r9))) else some (.ok ((-1), f_offeredSet ||| r5, f_acceptedSet, f_dropped)))))) else some (.error "java/lang/IllegalStateException")))
abbrev rm_X4_offer : Room := { frames := 7, cells := 2, slots := 12, locals := 111 }
set_option maxHeartbeats 4000000 in
set_option maxRecDepth 100000 in
theorem c_X4_offer (l : Launch) (hl9 : l.stackTraces = false) (G : va_G) (cy : ClassId × ClassId × ClassId) (k : Nat) (aT aT_begins aT_ends aT_weights aT_givenRooms aT_oneRoom aT_manyRooms : Nat) (f_added : Int32) (f_presentSet : Int64) (f_factor : Int32) (f_offeredSet : Int64) (f_acceptedSet : Int64) (f_dropped : Int32) (A_begins : Nat → Int32) (A_ends : Nat → Int32) (A_weights : Nat → Int32) (p1 : Int32) {o : Except String (Int32 × Int64 × Int64 × Int32)} (hf : f_X4_offer k p1 f_added f_presentSet f_factor f_offeredSet f_acceptedSet f_dropped A_begins A_ends A_weights = some o) : Xi l yX4_offer wsX4_offer rm_X4_offer 2 12 G cy [.ref aT, .int p1] [(aT, .inr (4, [.ref aT_begins, .ref aT_ends, .ref aT_weights, .int f_added, .long f_presentSet, .int f_factor, .long f_offeredSet, .long f_acceptedSet, .int f_dropped, .ref aT_givenRooms, .ref aT_oneRoom, .ref aT_manyRooms])), (aT_begins, .inl (cy.1, 40, .inl A_begins)), (aT_ends, .inl (cy.1, 40, .inl A_ends)), (aT_weights, .inl (cy.1, 40, .inl A_weights))] (kmo (fun (q : Int32 × Int64 × Int64 × Int32) => (q.1, [(aT, .inr (4, [.ref aT_begins, .ref aT_ends, .ref aT_weights, .int f_added, .long f_presentSet, .int f_factor, .long q.2.1, .long q.2.2.1, .int q.2.2.2, .ref aT_givenRooms, .ref aT_oneRoom, .ref aT_manyRooms])), (aT_begins, .inl (cy.1, 40, .inl A_begins)), (aT_ends, .inl (cy.1, 40, .inl A_ends)), (aT_weights, .inl (cy.1, 40, .inl A_weights))])) o) := by
  refine kMetXI (cc := cX4_offer) (maxL := 5) (by decide) rfl (Nat.le_of_ble_eq_true rfl) ?_
  intro p e s m args below meth c Q A ls Qc hx hb hml hts hown hv hl kret hT htab hlocks
  replace hown : s.vm.findClass RX4 = some m.cls := hown
  replace hl : lv_has ls 5 [(0, .ref aT), (1, .int p1)] := hl
  have hk148 : (Cond.fieldLink RX4 148 "Roomcolour" "offeredSet" "J").before args s = true := hts _ (by decide +kernel)
  have hinX4 : ∀ w ∈ wsX40, w ∈ wsX4_offer := by decide +kernel
  have hk75 : (Cond.fieldLink RX4 75 "Roomcolour" "acceptedSet" "J").before args s = true := hts _ (by decide +kernel)
  have hk16 : (Cond.fieldLink RX4 16 "Roomcolour" "weights" "[I").before args s = true := hts _ (by decide +kernel)
  have hk19 : (Cond.fieldLink RX4 19 "Roomcolour" "factor" "I").before args s = true := hts _ (by decide +kernel)
  have hk73 : (Cond.constantLong RX4 73 (-1)).before args s = true := hts _ (by decide +kernel)
  have hk151 : (Cond.fieldLink RX4 151 "Roomcolour" "dropped" "I").before args s = true := hts _ (by decide +kernel)
  unfold f_X4_offer at hf
  refine lv_aload_n hx hb dX4_offer_0 rfl (lv_at hl 0 rfl) ?_
  refine lv_iload_n hx hb dX4_offer_1 rfl (lv_at hl 1 rfl) ?_
  rcases xe_some hf with ⟨E15, hcl1, hf⟩ | ⟨_, hcl1, hf⟩
  · cases hf
    refine kXV_vE (E := E15) (wc := [(aT, .inr (4, [.ref aT_begins, .ref aT_ends, .ref aT_weights, .int f_added, .long f_presentSet, .int f_factor, .long f_offeredSet, .long f_acceptedSet, .int f_dropped, .ref aT_givenRooms, .ref aT_oneRoom, .ref aT_manyRooms]))]) ⟨hx, hb, hml, hown, hts⟩ (c_X4_requireThere l hl9 G cy k aT aT_begins aT_ends aT_weights aT_givenRooms aT_oneRoom aT_manyRooms f_added f_presentSet f_factor f_offeredSet f_acceptedSet f_dropped p1 hcl1) (cwV 1 hts gX4_offer_X4_requireThere rfl rfl rfl (by decide +kernel) ⟨Nat.le_of_ble_eq_true rfl, Nat.le_of_ble_eq_true rfl⟩) hv (isC := [0]) ⟨rfl, rfl⟩ (hv.recv 4 0 rfl rfl) rfl hl.1 rfl (Nat.le_of_ble_eq_true rfl) dX4_offer_2 ⟨Nat.le_of_ble_eq_true rfl, Nat.le_of_ble_eq_true rfl⟩ (fun ce q9 H locs hv hce hcv hcl => ?_)
    exact kOut hv hT htab hlocks rfl hce hcv hcl (by decide) (by decide)
  · refine kXV_v (wc := [(aT, .inr (4, [.ref aT_begins, .ref aT_ends, .ref aT_weights, .int f_added, .long f_presentSet, .int f_factor, .long f_offeredSet, .long f_acceptedSet, .int f_dropped, .ref aT_givenRooms, .ref aT_oneRoom, .ref aT_manyRooms]))]) (wc' := [(aT, .inr (4, [.ref aT_begins, .ref aT_ends, .ref aT_weights, .int f_added, .long f_presentSet, .int f_factor, .long f_offeredSet, .long f_acceptedSet, .int f_dropped, .ref aT_givenRooms, .ref aT_oneRoom, .ref aT_manyRooms]))]) (wr := [(aT_begins, .inl (cy.1, 40, .inl A_begins)), (aT_ends, .inl (cy.1, 40, .inl A_ends)), (aT_weights, .inl (cy.1, 40, .inl A_weights))]) (w2 := [(aT, .inr (4, [.ref aT_begins, .ref aT_ends, .ref aT_weights, .int f_added, .long f_presentSet, .int f_factor, .long f_offeredSet, .long f_acceptedSet, .int f_dropped, .ref aT_givenRooms, .ref aT_oneRoom, .ref aT_manyRooms])), (aT_begins, .inl (cy.1, 40, .inl A_begins)), (aT_ends, .inl (cy.1, 40, .inl A_ends)), (aT_weights, .inl (cy.1, 40, .inl A_weights))]) ⟨hx, hb, hml, hown, hts⟩ (c_X4_requireThere l hl9 G cy k aT aT_begins aT_ends aT_weights aT_givenRooms aT_oneRoom aT_manyRooms f_added f_presentSet f_factor f_offeredSet f_acceptedSet f_dropped p1 hcl1) (cwV 1 hts gX4_offer_X4_requireThere rfl rfl rfl (by decide +kernel) ⟨Nat.le_of_ble_eq_true rfl, Nat.le_of_ble_eq_true rfl⟩) hv (isC := [0]) ⟨rfl, rfl⟩ (hv.recv 4 0 rfl rfl) [1, 2, 3] [3, 0, 1, 2] rfl rfl (by decide) rfl rfl rfl hl.1 rfl (Nat.le_of_ble_eq_true rfl) dX4_offer_2 ⟨Nat.le_of_ble_eq_true rfl, Nat.le_of_ble_eq_true rfl⟩ (fun H locs hv => ?_)
    refine lv_aload_n hx hb dX4_offer_5 rfl (lv_at hl 0 rfl) ?_
    refine kGet (v := .long f_offeredSet) (C := RX4) (T := TX4) (N := 12) hx hb hts hinX4 hown hv 0 rfl rfl 6 (by decide) hk148 (fun _ h9 => h9) rfl dX4_offer_6 ?_
    refine lv_iload_n hx hb dX4_offer_9 rfl (lv_at hl 1 rfl) ?_
    obtain ⟨r2, hcl3, hf⟩ := xb_some hf
    refine kS_i (r := r2) ⟨hx, hb, hml, hown, hts⟩ (c_X4_contains l G cy k f_offeredSet p1 hcl3) (va_cwS 2 hts gX4_offer_X4_contains rfl rfl rfl (by decide +kernel) ⟨Nat.le_of_ble_eq_true rfl, Nat.le_of_ble_eq_true rfl⟩) hv rfl hl.1 rfl (Nat.le_of_ble_eq_true rfl) dX4_offer_10 ⟨Nat.le_of_ble_eq_true rfl, Nat.le_of_ble_eq_true rfl⟩ (fun H locs hv => ?_)
    refine lv_if_eq (tgt := 26) hx hb dX4_offer_13 (by decide) (fun hc4 => ?_) (fun hc4 => ?_)
    · replace hf := ite_t hf hc4
      refine lv_aload_n hx hb dX4_offer_26 rfl (lv_at hl 0 rfl) ?_
      refine lv_dup hx hb dX4_offer_27 rfl ?_
      refine kGet (v := .long f_offeredSet) (C := RX4) (T := TX4) (N := 12) hx hb hts hinX4 hown hv 0 rfl rfl 6 (by decide) hk148 (fun _ h9 => h9) rfl dX4_offer_28 ?_
      refine lv_iload_n hx hb dX4_offer_31 rfl (lv_at hl 1 rfl) ?_
      obtain ⟨r5, hcl6, hf⟩ := xb_some hf
      refine kS_l (r := r5) ⟨hx, hb, hml, hown, hts⟩ (c_X4_only l G cy k p1 hcl6) (va_cwS 1 hts gX4_offer_X4_only rfl rfl rfl (by decide +kernel) ⟨Nat.le_of_ble_eq_true rfl, Nat.le_of_ble_eq_true rfl⟩) hv rfl hl.1 rfl (Nat.le_of_ble_eq_true rfl) dX4_offer_32 ⟨Nat.le_of_ble_eq_true rfl, Nat.le_of_ble_eq_true rfl⟩ (fun H locs hv => ?_)
      refine lv_lor hx hb dX4_offer_35 ?_
      refine kPut (v := .long (f_offeredSet ||| r5)) (ty := .long) (C := RX4) (T := TX4) (N := 12) hx hb hts hinX4 tyX4 tyX4_ok nmX4 hown hv 0 rfl rfl 6 (by decide) hk148 (fun _ h9 => h9) rfl (by decide +kernel) rfl rfl (Nat.le_of_ble_eq_true rfl) dX4_offer_36 (fun H locs hv => ?_)
      replace hv : Hv s H locs G cy A [(aT, .inr (4, [.ref aT_begins, .ref aT_ends, .ref aT_weights, .int f_added, .long f_presentSet, .int f_factor, .long (f_offeredSet ||| r5), .long f_acceptedSet, .int f_dropped, .ref aT_givenRooms, .ref aT_oneRoom, .ref aT_manyRooms])), (aT_begins, .inl (cy.1, 40, .inl A_begins)), (aT_ends, .inl (cy.1, 40, .inl A_ends)), (aT_weights, .inl (cy.1, 40, .inl A_weights))] := hv
      refine lv_aload_n hx hb dX4_offer_39 rfl (lv_at hl 0 rfl) ?_
      refine lv_iload_n hx hb dX4_offer_40 rfl (lv_at hl 1 rfl) ?_
      obtain ⟨r7, hcl8, hf⟩ := xb_some hf
      refine kV_l (r := r7) (wr := [(aT_weights, .inl (cy.1, 40, .inl A_weights))]) (w2 := [(aT, .inr (4, [.ref aT_begins, .ref aT_ends, .ref aT_weights, .int f_added, .long f_presentSet, .int f_factor, .long (f_offeredSet ||| r5), .long f_acceptedSet, .int f_dropped, .ref aT_givenRooms, .ref aT_oneRoom, .ref aT_manyRooms])), (aT_begins, .inl (cy.1, 40, .inl A_begins)), (aT_ends, .inl (cy.1, 40, .inl A_ends)), (aT_weights, .inl (cy.1, 40, .inl A_weights))]) ⟨hx, hb, hml, hown, hts⟩ (c_X4_othersMeeting l G cy k aT aT_begins aT_ends aT_weights aT_givenRooms aT_oneRoom aT_manyRooms f_added f_presentSet f_factor (f_offeredSet ||| r5) f_acceptedSet f_dropped A_begins A_ends p1 hcl8) (cwV 1 hts gX4_offer_X4_othersMeeting rfl rfl rfl (by decide +kernel) ⟨Nat.le_of_ble_eq_true rfl, Nat.le_of_ble_eq_true rfl⟩) hv (isC := [0, 1, 2]) ⟨rfl, rfl⟩ (hv.recv 4 0 rfl rfl) [3] [1, 2, 3, 0] rfl rfl (by decide) rfl rfl rfl hl.1 rfl (Nat.le_of_ble_eq_true rfl) dX4_offer_41 ⟨Nat.le_of_ble_eq_true rfl, Nat.le_of_ble_eq_true rfl⟩ (fun H locs hv => ?_)
      refine lv_aload_n hx hb dX4_offer_44 rfl (lv_at hl 0 rfl) ?_
      refine kGet (v := .long f_acceptedSet) (C := RX4) (T := TX4) (N := 12) hx hb hts hinX4 hown hv 0 rfl rfl 7 (by decide) hk75 (fun _ h9 => h9) rfl dX4_offer_45 ?_
      refine lv_land hx hb dX4_offer_48 ?_
      refine lv_lstore_n (lv' := [(2, .long (r7 &&& f_acceptedSet)), (0, .ref aT), (1, .int p1)]) hx hb dX4_offer_49 rfl hl (by decide) rfl (fun ls hl => ?_)
      refine lv_aload_n hx hb dX4_offer_50 rfl (lv_at hl 1 rfl) ?_
      refine lv_lload_n hx hb dX4_offer_51 rfl (lv_at hl 0 rfl) ?_
      obtain ⟨r9, hcl10, hf⟩ := xb_some hf
      refine kV_i (r := r9) (wr := [(aT_begins, .inl (cy.1, 40, .inl A_begins)), (aT_ends, .inl (cy.1, 40, .inl A_ends))]) (w2 := [(aT, .inr (4, [.ref aT_begins, .ref aT_ends, .ref aT_weights, .int f_added, .long f_presentSet, .int f_factor, .long (f_offeredSet ||| r5), .long f_acceptedSet, .int f_dropped, .ref aT_givenRooms, .ref aT_oneRoom, .ref aT_manyRooms])), (aT_begins, .inl (cy.1, 40, .inl A_begins)), (aT_ends, .inl (cy.1, 40, .inl A_ends)), (aT_weights, .inl (cy.1, 40, .inl A_weights))]) ⟨hx, hb, hml, hown, hts⟩ (c_X4_weightOf l G cy k aT aT_begins aT_ends aT_weights aT_givenRooms aT_oneRoom aT_manyRooms f_added f_presentSet f_factor (f_offeredSet ||| r5) f_acceptedSet f_dropped A_weights (r7 &&& f_acceptedSet) hcl10) (cwV 1 hts gX4_offer_X4_weightOf rfl rfl rfl (by decide +kernel) ⟨Nat.le_of_ble_eq_true rfl, Nat.le_of_ble_eq_true rfl⟩) hv (isC := [0, 3]) ⟨rfl, rfl⟩ (hv.recv 4 0 rfl rfl) [1, 2] [2, 0, 1, 3] rfl rfl (by decide) rfl rfl rfl hl.1 rfl (Nat.le_of_ble_eq_true rfl) dX4_offer_52 ⟨Nat.le_of_ble_eq_true rfl, Nat.le_of_ble_eq_true rfl⟩ (fun H locs hv => ?_)
      refine lv_istore (lv' := [(4, .int r9), (2, .long (r7 &&& f_acceptedSet)), (0, .ref aT), (1, .int p1)]) hx hb dX4_offer_55 hl (by decide) rfl (fun ls hl => ?_)
      refine lv_bipush (v := 100) hx hb dX4_offer_57 (by decide) ?_
      refine lv_aload_n hx hb dX4_offer_59 rfl (lv_at hl 2 rfl) ?_
      refine kGet (v := .ref aT_weights) (C := RX4) (T := TX4) (N := 12) hx hb hts hinX4 hown hv 0 rfl rfl 2 (by decide) hk16 (fun _ h9 => h9) rfl dX4_offer_60 ?_
      refine lv_iload_n hx hb dX4_offer_63 rfl (lv_at hl 3 rfl) ?_
      obtain ⟨hi11, hf⟩ := xi_some hf
      refine kIald hx hb hv 3 rfl hi11 dX4_offer_64 ?_
      refine lv_imul hx hb dX4_offer_65 ?_
      refine lv_aload_n hx hb dX4_offer_66 rfl (lv_at hl 2 rfl) ?_
      refine kGet (v := .int f_factor) (C := RX4) (T := TX4) (N := 12) hx hb hts hinX4 hown hv 0 rfl rfl 5 (by decide) hk19 (fun _ h9 => h9) rfl dX4_offer_67 ?_
      refine lv_iload hx hb dX4_offer_70 (lv_at hl 0 rfl) ?_
      refine lv_imul hx hb dX4_offer_72 ?_
      refine lv_icmp_gt (tgt := 78) hx hb dX4_offer_73 (by decide) (fun hc12 => ?_) (fun hc12 => ?_)
      · replace hf := ite_t hf hc12
        refine lv_aload_n hx hb dX4_offer_78 rfl (lv_at hl 2 rfl) ?_
        refine lv_aload_n hx hb dX4_offer_79 rfl (lv_at hl 2 rfl) ?_
        refine kGet (v := .long f_acceptedSet) (C := RX4) (T := TX4) (N := 12) hx hb hts hinX4 hown hv 0 rfl rfl 7 (by decide) hk75 (fun _ h9 => h9) rfl dX4_offer_80 ?_
        refine lv_lload_n hx hb dX4_offer_83 rfl (lv_at hl 1 rfl) ?_
        refine lv_ldc2 hx hb hown hk73 dX4_offer_84 ?_
        refine lv_lxor hx hb dX4_offer_87 ?_
        refine lv_land hx hb dX4_offer_88 ?_
        refine lv_iload_n hx hb dX4_offer_89 rfl (lv_at hl 3 rfl) ?_
        obtain ⟨r13, hcl14, hf⟩ := xb_some hf
        refine kS_l (r := r13) ⟨hx, hb, hml, hown, hts⟩ (c_X4_only l G cy k p1 hcl14) (va_cwS 1 hts gX4_offer_X4_only rfl rfl rfl (by decide +kernel) ⟨Nat.le_of_ble_eq_true rfl, Nat.le_of_ble_eq_true rfl⟩) hv rfl hl.1 rfl (Nat.le_of_ble_eq_true rfl) dX4_offer_90 ⟨Nat.le_of_ble_eq_true rfl, Nat.le_of_ble_eq_true rfl⟩ (fun H locs hv => ?_)
        refine lv_lor hx hb dX4_offer_93 ?_
        refine kPut (v := .long ((f_acceptedSet &&& ((r7 &&& f_acceptedSet) ^^^ (-1))) ||| r13)) (ty := .long) (C := RX4) (T := TX4) (N := 12) hx hb hts hinX4 tyX4 tyX4_ok nmX4 hown hv 0 rfl rfl 7 (by decide) hk75 (fun _ h9 => h9) rfl (by decide +kernel) rfl rfl (Nat.le_of_ble_eq_true rfl) dX4_offer_94 (fun H locs hv => ?_)
        replace hv : Hv s H locs G cy A [(aT, .inr (4, [.ref aT_begins, .ref aT_ends, .ref aT_weights, .int f_added, .long f_presentSet, .int f_factor, .long (f_offeredSet ||| r5), .long ((f_acceptedSet &&& ((r7 &&& f_acceptedSet) ^^^ (-1))) ||| r13), .int f_dropped, .ref aT_givenRooms, .ref aT_oneRoom, .ref aT_manyRooms])), (aT_begins, .inl (cy.1, 40, .inl A_begins)), (aT_ends, .inl (cy.1, 40, .inl A_ends)), (aT_weights, .inl (cy.1, 40, .inl A_weights))] := hv
        refine lv_aload_n hx hb dX4_offer_97 rfl (lv_at hl 2 rfl) ?_
        refine lv_dup hx hb dX4_offer_98 rfl ?_
        refine kGet (v := .int f_dropped) (C := RX4) (T := TX4) (N := 12) hx hb hts hinX4 hown hv 0 rfl rfl 8 (by decide) hk151 (fun _ h9 => h9) rfl dX4_offer_99 ?_
        refine lv_iload hx hb dX4_offer_102 (lv_at hl 0 rfl) ?_
        refine lv_iadd hx hb dX4_offer_104 ?_
        refine kPut (v := .int (f_dropped + r9)) (ty := .int) (C := RX4) (T := TX4) (N := 12) hx hb hts hinX4 tyX4 tyX4_ok nmX4 hown hv 0 rfl rfl 8 (by decide) hk151 (fun _ h9 => h9) rfl (by decide +kernel) rfl rfl (Nat.le_of_ble_eq_true rfl) dX4_offer_105 (fun H locs hv => ?_)
        replace hv : Hv s H locs G cy A [(aT, .inr (4, [.ref aT_begins, .ref aT_ends, .ref aT_weights, .int f_added, .long f_presentSet, .int f_factor, .long (f_offeredSet ||| r5), .long ((f_acceptedSet &&& ((r7 &&& f_acceptedSet) ^^^ (-1))) ||| r13), .int (f_dropped + r9), .ref aT_givenRooms, .ref aT_oneRoom, .ref aT_manyRooms])), (aT_begins, .inl (cy.1, 40, .inl A_begins)), (aT_ends, .inl (cy.1, 40, .inl A_ends)), (aT_weights, .inl (cy.1, 40, .inl A_weights))] := hv
        refine lv_iload hx hb dX4_offer_108 (lv_at hl 0 rfl) ?_
        cases hf
        refine W.widen (k := 2) (n := 12) (by omega) (by omega) ?_
        exact kret _ _ _ _ _ _ rfl hv dX4_offer_110
      · replace hf := ite_f hf hc12
        refine lv_iconst (v := (-1)) hx hb dX4_offer_76 (by decide) ?_
        cases hf
        refine W.widen (k := 2) (n := 12) (by omega) (by omega) ?_
        exact kret _ _ _ _ _ _ rfl hv dX4_offer_77
    · replace hf := ite_f hf hc4
      cases hf
      exact kThrow hx hb hl9 hts hown hv hT htab hlocks (by rw [hml]; exact hl.1) (cls := "java/lang/IllegalStateException") (text := "the interval was offered already") (ik := 56) (is := 158) (ic := 60) rfl (by decide +kernel) (by decide +kernel) (by decide +kernel) (by decide +kernel) (by decide +kernel) (by decide +kernel) (by decide +kernel) dX4_offer_16 dX4_offer_19 dX4_offer_20 dX4_offer_22 dX4_offer_25 (by decide) (by decide) (by decide) (by decide) (by decide) (by decide)

def f_X4_openDesk (k : Nat) (p1 : Int32) (f_added : Int32) (f_factor : Int32) (f_offeredSet : Int64) (f_acceptedSet : Int64) (f_dropped : Int32) (A_weights : Nat → Int32) : Option (Except String (Int32 × Int32 × Int64 × Int64 × Int32)) := if p1 < 100 then some (.error "java/lang/IllegalArgumentException") else if p1 ≤ 400 then xb (f_X4_weightOf k f_acceptedSet f_added A_weights) (fun r3 => some (.ok (r3, p1, 0, 0, 0))) else some (.error "java/lang/IllegalArgumentException")
abbrev rm_X4_openDesk : Room := { frames := 6, cells := 1, slots := 6, locals := 90 }
set_option maxHeartbeats 4000000 in
set_option maxRecDepth 100000 in
theorem c_X4_openDesk (l : Launch) (hl9 : l.stackTraces = false) (G : va_G) (cy : ClassId × ClassId × ClassId) (k : Nat) (aT aT_begins aT_ends aT_weights aT_givenRooms aT_oneRoom aT_manyRooms : Nat) (f_added : Int32) (f_presentSet : Int64) (f_factor : Int32) (f_offeredSet : Int64) (f_acceptedSet : Int64) (f_dropped : Int32) (A_weights : Nat → Int32) (p1 : Int32) {o : Except String (Int32 × Int32 × Int64 × Int64 × Int32)} (hf : f_X4_openDesk k p1 f_added f_factor f_offeredSet f_acceptedSet f_dropped A_weights = some o) : Xi l yX4_openDesk wsX4_openDesk rm_X4_openDesk 1 6 G cy [.ref aT, .int p1] [(aT, .inr (4, [.ref aT_begins, .ref aT_ends, .ref aT_weights, .int f_added, .long f_presentSet, .int f_factor, .long f_offeredSet, .long f_acceptedSet, .int f_dropped, .ref aT_givenRooms, .ref aT_oneRoom, .ref aT_manyRooms])), (aT_weights, .inl (cy.1, 40, .inl A_weights))] (kmo (fun (q : Int32 × Int32 × Int64 × Int64 × Int32) => (q.1, [(aT, .inr (4, [.ref aT_begins, .ref aT_ends, .ref aT_weights, .int f_added, .long f_presentSet, .int q.2.1, .long q.2.2.1, .long q.2.2.2.1, .int q.2.2.2.2, .ref aT_givenRooms, .ref aT_oneRoom, .ref aT_manyRooms])), (aT_weights, .inl (cy.1, 40, .inl A_weights))])) o) := by
  refine kMetXI (cc := cX4_openDesk) (maxL := 3) (by decide) rfl (Nat.le_of_ble_eq_true rfl) ?_
  intro p e s m args below meth c Q A ls Qc hx hb hml hts hown hv hl kret hT htab hlocks
  replace hown : s.vm.findClass RX4 = some m.cls := hown
  replace hl : lv_has ls 3 [(0, .ref aT), (1, .int p1)] := hl
  have hk75 : (Cond.fieldLink RX4 75 "Roomcolour" "acceptedSet" "J").before args s = true := hts _ (by decide +kernel)
  have hinX4 : ∀ w ∈ wsX40, w ∈ wsX4_openDesk := by decide +kernel
  have hk19 : (Cond.fieldLink RX4 19 "Roomcolour" "factor" "I").before args s = true := hts _ (by decide +kernel)
  have hk148 : (Cond.fieldLink RX4 148 "Roomcolour" "offeredSet" "J").before args s = true := hts _ (by decide +kernel)
  have hk151 : (Cond.fieldLink RX4 151 "Roomcolour" "dropped" "I").before args s = true := hts _ (by decide +kernel)
  unfold f_X4_openDesk at hf
  refine lv_iload_n hx hb dX4_openDesk_0 rfl (lv_at hl 1 rfl) ?_
  refine lv_bipush (v := 100) hx hb dX4_openDesk_1 (by decide) ?_
  refine lv_icmp_lt (tgt := 13) hx hb dX4_openDesk_3 (by decide) (fun hc1 => ?_) (fun hc1 => ?_)
  · replace hf := ite_t hf hc1
    cases hf
    exact kThrow hx hb hl9 hts hown hv hT htab hlocks (by rw [hml]; exact hl.1) (cls := "java/lang/IllegalArgumentException") (text := "factor is out of range") (ik := 44) (is := 143) (ic := 48) rfl (by decide +kernel) (by decide +kernel) (by decide +kernel) (by decide +kernel) (by decide +kernel) (by decide +kernel) (by decide +kernel) dX4_openDesk_13 dX4_openDesk_16 dX4_openDesk_17 dX4_openDesk_19 dX4_openDesk_22 (by decide) (by decide) (by decide) (by decide) (by decide) (by decide)
  · replace hf := ite_f hf hc1
    refine lv_iload_n hx hb dX4_openDesk_6 rfl (lv_at hl 1 rfl) ?_
    refine lv_sipush (v := 400) hx hb dX4_openDesk_7 (by decide) ?_
    refine lv_icmp_le (tgt := 23) hx hb dX4_openDesk_10 (by decide) (fun hc2 => ?_) (fun hc2 => ?_)
    · replace hf := ite_t hf hc2
      refine lv_aload_n hx hb dX4_openDesk_23 rfl (lv_at hl 0 rfl) ?_
      refine lv_aload_n hx hb dX4_openDesk_24 rfl (lv_at hl 0 rfl) ?_
      refine kGet (v := .long f_acceptedSet) (C := RX4) (T := TX4) (N := 12) hx hb hts hinX4 hown hv 0 rfl rfl 7 (by decide) hk75 (fun _ h9 => h9) rfl dX4_openDesk_25 ?_
      obtain ⟨r3, hcl4, hf⟩ := xb_some hf
      refine kV_i (r := r3) (wr := []) (w2 := [(aT, .inr (4, [.ref aT_begins, .ref aT_ends, .ref aT_weights, .int f_added, .long f_presentSet, .int f_factor, .long f_offeredSet, .long f_acceptedSet, .int f_dropped, .ref aT_givenRooms, .ref aT_oneRoom, .ref aT_manyRooms])), (aT_weights, .inl (cy.1, 40, .inl A_weights))]) ⟨hx, hb, hml, hown, hts⟩ (c_X4_weightOf l G cy k aT aT_begins aT_ends aT_weights aT_givenRooms aT_oneRoom aT_manyRooms f_added f_presentSet f_factor f_offeredSet f_acceptedSet f_dropped A_weights f_acceptedSet hcl4) (cwV 1 hts gX4_openDesk_X4_weightOf rfl rfl rfl (by decide +kernel) ⟨Nat.le_of_ble_eq_true rfl, Nat.le_of_ble_eq_true rfl⟩) hv (isC := [0, 1]) ⟨rfl, rfl⟩ (hv.recv 4 0 rfl rfl) [] [0, 1] rfl rfl (by decide) rfl rfl rfl hl.1 rfl (Nat.le_of_ble_eq_true rfl) dX4_openDesk_28 ⟨Nat.le_of_ble_eq_true rfl, Nat.le_of_ble_eq_true rfl⟩ (fun H locs hv => ?_)
      refine lv_istore_n (lv' := [(2, .int r3), (0, .ref aT), (1, .int p1)]) hx hb dX4_openDesk_31 rfl hl (by decide) rfl (fun ls hl => ?_)
      refine lv_aload_n hx hb dX4_openDesk_32 rfl (lv_at hl 1 rfl) ?_
      refine lv_iload_n hx hb dX4_openDesk_33 rfl (lv_at hl 2 rfl) ?_
      refine kPut (v := .int p1) (ty := .int) (C := RX4) (T := TX4) (N := 12) hx hb hts hinX4 tyX4 tyX4_ok nmX4 hown hv 0 rfl rfl 5 (by decide) hk19 (fun _ h9 => h9) rfl (by decide +kernel) rfl rfl (Nat.le_of_ble_eq_true rfl) dX4_openDesk_34 (fun H locs hv => ?_)
      replace hv : Hv s H locs G cy A [(aT, .inr (4, [.ref aT_begins, .ref aT_ends, .ref aT_weights, .int f_added, .long f_presentSet, .int p1, .long f_offeredSet, .long f_acceptedSet, .int f_dropped, .ref aT_givenRooms, .ref aT_oneRoom, .ref aT_manyRooms])), (aT_weights, .inl (cy.1, 40, .inl A_weights))] := hv
      refine lv_aload_n hx hb dX4_openDesk_37 rfl (lv_at hl 1 rfl) ?_
      refine lv_lconst (v := 0) hx hb dX4_openDesk_38 (by decide) ?_
      refine kPut (v := .long 0) (ty := .long) (C := RX4) (T := TX4) (N := 12) hx hb hts hinX4 tyX4 tyX4_ok nmX4 hown hv 0 rfl rfl 6 (by decide) hk148 (fun _ h9 => h9) rfl (by decide +kernel) rfl rfl (Nat.le_of_ble_eq_true rfl) dX4_openDesk_39 (fun H locs hv => ?_)
      replace hv : Hv s H locs G cy A [(aT, .inr (4, [.ref aT_begins, .ref aT_ends, .ref aT_weights, .int f_added, .long f_presentSet, .int p1, .long 0, .long f_acceptedSet, .int f_dropped, .ref aT_givenRooms, .ref aT_oneRoom, .ref aT_manyRooms])), (aT_weights, .inl (cy.1, 40, .inl A_weights))] := hv
      refine lv_aload_n hx hb dX4_openDesk_42 rfl (lv_at hl 1 rfl) ?_
      refine lv_lconst (v := 0) hx hb dX4_openDesk_43 (by decide) ?_
      refine kPut (v := .long 0) (ty := .long) (C := RX4) (T := TX4) (N := 12) hx hb hts hinX4 tyX4 tyX4_ok nmX4 hown hv 0 rfl rfl 7 (by decide) hk75 (fun _ h9 => h9) rfl (by decide +kernel) rfl rfl (Nat.le_of_ble_eq_true rfl) dX4_openDesk_44 (fun H locs hv => ?_)
      replace hv : Hv s H locs G cy A [(aT, .inr (4, [.ref aT_begins, .ref aT_ends, .ref aT_weights, .int f_added, .long f_presentSet, .int p1, .long 0, .long 0, .int f_dropped, .ref aT_givenRooms, .ref aT_oneRoom, .ref aT_manyRooms])), (aT_weights, .inl (cy.1, 40, .inl A_weights))] := hv
      refine lv_aload_n hx hb dX4_openDesk_47 rfl (lv_at hl 1 rfl) ?_
      refine lv_iconst (v := 0) hx hb dX4_openDesk_48 (by decide) ?_
      refine kPut (v := .int 0) (ty := .int) (C := RX4) (T := TX4) (N := 12) hx hb hts hinX4 tyX4 tyX4_ok nmX4 hown hv 0 rfl rfl 8 (by decide) hk151 (fun _ h9 => h9) rfl (by decide +kernel) rfl rfl (Nat.le_of_ble_eq_true rfl) dX4_openDesk_49 (fun H locs hv => ?_)
      replace hv : Hv s H locs G cy A [(aT, .inr (4, [.ref aT_begins, .ref aT_ends, .ref aT_weights, .int f_added, .long f_presentSet, .int p1, .long 0, .long 0, .int 0, .ref aT_givenRooms, .ref aT_oneRoom, .ref aT_manyRooms])), (aT_weights, .inl (cy.1, 40, .inl A_weights))] := hv
      refine lv_iload_n hx hb dX4_openDesk_52 rfl (lv_at hl 0 rfl) ?_
      cases hf
      refine W.widen (k := 1) (n := 6) (by omega) (by omega) ?_
      exact kret _ _ _ _ _ _ rfl hv dX4_openDesk_53
    · replace hf := ite_f hf hc2
      cases hf
      exact kThrow hx hb hl9 hts hown hv hT htab hlocks (by rw [hml]; exact hl.1) (cls := "java/lang/IllegalArgumentException") (text := "factor is out of range") (ik := 44) (is := 143) (ic := 48) rfl (by decide +kernel) (by decide +kernel) (by decide +kernel) (by decide +kernel) (by decide +kernel) (by decide +kernel) (by decide +kernel) dX4_openDesk_13 dX4_openDesk_16 dX4_openDesk_17 dX4_openDesk_19 dX4_openDesk_22 (by decide) (by decide) (by decide) (by decide) (by decide) (by decide)

def f_X4_overlapping (k : Nat) (p1 : Int32) (f_added : Int32) (f_presentSet : Int64) (A_begins : Nat → Int32) (A_ends : Nat → Int32) : Option (Except String (Int64)) := xe (f_X4_requireThere k p1 f_added f_presentSet) (fun _ => xb (f_X4_othersMeeting k p1 f_added f_presentSet A_begins A_ends) (fun r2 => some (.ok r2)))
abbrev rm_X4_overlapping : Room := { frames := 7, cells := 1, slots := 6, locals := 111 }
set_option maxHeartbeats 4000000 in
set_option maxRecDepth 100000 in
theorem c_X4_overlapping (l : Launch) (hl9 : l.stackTraces = false) (G : va_G) (cy : ClassId × ClassId × ClassId) (k : Nat) (aT aT_begins aT_ends aT_weights aT_givenRooms aT_oneRoom aT_manyRooms : Nat) (f_added : Int32) (f_presentSet : Int64) (f_factor : Int32) (f_offeredSet : Int64) (f_acceptedSet : Int64) (f_dropped : Int32) (A_begins : Nat → Int32) (A_ends : Nat → Int32) (p1 : Int32) {o : Except String (Int64)} (hf : f_X4_overlapping k p1 f_added f_presentSet A_begins A_ends = some o) : Xl l yX4_overlapping wsX4_overlapping rm_X4_overlapping 1 6 G cy [.ref aT, .int p1] [(aT, .inr (4, [.ref aT_begins, .ref aT_ends, .ref aT_weights, .int f_added, .long f_presentSet, .int f_factor, .long f_offeredSet, .long f_acceptedSet, .int f_dropped, .ref aT_givenRooms, .ref aT_oneRoom, .ref aT_manyRooms])), (aT_begins, .inl (cy.1, 40, .inl A_begins)), (aT_ends, .inl (cy.1, 40, .inl A_ends))] (kmo (fun (q : Int64) => (q, [(aT, .inr (4, [.ref aT_begins, .ref aT_ends, .ref aT_weights, .int f_added, .long f_presentSet, .int f_factor, .long f_offeredSet, .long f_acceptedSet, .int f_dropped, .ref aT_givenRooms, .ref aT_oneRoom, .ref aT_manyRooms])), (aT_begins, .inl (cy.1, 40, .inl A_begins)), (aT_ends, .inl (cy.1, 40, .inl A_ends))])) o) := by
  refine kMetXL (cc := cX4_overlapping) (maxL := 2) (by decide) rfl (Nat.le_of_ble_eq_true rfl) ?_
  intro p e s m args below meth c Q A ls Qc hx hb hml hts hown hv hl kret hT htab hlocks
  replace hown : s.vm.findClass RX4 = some m.cls := hown
  replace hl : lv_has ls 2 [(0, .ref aT), (1, .int p1)] := hl
  unfold f_X4_overlapping at hf
  refine lv_aload_n hx hb dX4_overlapping_0 rfl (lv_at hl 0 rfl) ?_
  refine lv_iload_n hx hb dX4_overlapping_1 rfl (lv_at hl 1 rfl) ?_
  rcases xe_some hf with ⟨E4, hcl1, hf⟩ | ⟨_, hcl1, hf⟩
  · cases hf
    refine kXV_vE (E := E4) (wc := [(aT, .inr (4, [.ref aT_begins, .ref aT_ends, .ref aT_weights, .int f_added, .long f_presentSet, .int f_factor, .long f_offeredSet, .long f_acceptedSet, .int f_dropped, .ref aT_givenRooms, .ref aT_oneRoom, .ref aT_manyRooms]))]) ⟨hx, hb, hml, hown, hts⟩ (c_X4_requireThere l hl9 G cy k aT aT_begins aT_ends aT_weights aT_givenRooms aT_oneRoom aT_manyRooms f_added f_presentSet f_factor f_offeredSet f_acceptedSet f_dropped p1 hcl1) (cwV 1 hts gX4_overlapping_X4_requireThere rfl rfl rfl (by decide +kernel) ⟨Nat.le_of_ble_eq_true rfl, Nat.le_of_ble_eq_true rfl⟩) hv (isC := [0]) ⟨rfl, rfl⟩ (hv.recv 4 0 rfl rfl) rfl hl.1 rfl (Nat.le_of_ble_eq_true rfl) dX4_overlapping_2 ⟨Nat.le_of_ble_eq_true rfl, Nat.le_of_ble_eq_true rfl⟩ (fun ce q9 H locs hv hce hcv hcl => ?_)
    exact kOut hv hT htab hlocks rfl hce hcv hcl (by decide) (by decide)
  · refine kXV_v (wc := [(aT, .inr (4, [.ref aT_begins, .ref aT_ends, .ref aT_weights, .int f_added, .long f_presentSet, .int f_factor, .long f_offeredSet, .long f_acceptedSet, .int f_dropped, .ref aT_givenRooms, .ref aT_oneRoom, .ref aT_manyRooms]))]) (wc' := [(aT, .inr (4, [.ref aT_begins, .ref aT_ends, .ref aT_weights, .int f_added, .long f_presentSet, .int f_factor, .long f_offeredSet, .long f_acceptedSet, .int f_dropped, .ref aT_givenRooms, .ref aT_oneRoom, .ref aT_manyRooms]))]) (wr := [(aT_begins, .inl (cy.1, 40, .inl A_begins)), (aT_ends, .inl (cy.1, 40, .inl A_ends))]) (w2 := [(aT, .inr (4, [.ref aT_begins, .ref aT_ends, .ref aT_weights, .int f_added, .long f_presentSet, .int f_factor, .long f_offeredSet, .long f_acceptedSet, .int f_dropped, .ref aT_givenRooms, .ref aT_oneRoom, .ref aT_manyRooms])), (aT_begins, .inl (cy.1, 40, .inl A_begins)), (aT_ends, .inl (cy.1, 40, .inl A_ends))]) ⟨hx, hb, hml, hown, hts⟩ (c_X4_requireThere l hl9 G cy k aT aT_begins aT_ends aT_weights aT_givenRooms aT_oneRoom aT_manyRooms f_added f_presentSet f_factor f_offeredSet f_acceptedSet f_dropped p1 hcl1) (cwV 1 hts gX4_overlapping_X4_requireThere rfl rfl rfl (by decide +kernel) ⟨Nat.le_of_ble_eq_true rfl, Nat.le_of_ble_eq_true rfl⟩) hv (isC := [0]) ⟨rfl, rfl⟩ (hv.recv 4 0 rfl rfl) [1, 2] [2, 0, 1] rfl rfl (by decide) rfl rfl rfl hl.1 rfl (Nat.le_of_ble_eq_true rfl) dX4_overlapping_2 ⟨Nat.le_of_ble_eq_true rfl, Nat.le_of_ble_eq_true rfl⟩ (fun H locs hv => ?_)
    refine lv_aload_n hx hb dX4_overlapping_5 rfl (lv_at hl 0 rfl) ?_
    refine lv_iload_n hx hb dX4_overlapping_6 rfl (lv_at hl 1 rfl) ?_
    obtain ⟨r2, hcl3, hf⟩ := xb_some hf
    refine kV_l (r := r2) (wr := []) (w2 := [(aT, .inr (4, [.ref aT_begins, .ref aT_ends, .ref aT_weights, .int f_added, .long f_presentSet, .int f_factor, .long f_offeredSet, .long f_acceptedSet, .int f_dropped, .ref aT_givenRooms, .ref aT_oneRoom, .ref aT_manyRooms])), (aT_begins, .inl (cy.1, 40, .inl A_begins)), (aT_ends, .inl (cy.1, 40, .inl A_ends))]) ⟨hx, hb, hml, hown, hts⟩ (c_X4_othersMeeting l G cy k aT aT_begins aT_ends aT_weights aT_givenRooms aT_oneRoom aT_manyRooms f_added f_presentSet f_factor f_offeredSet f_acceptedSet f_dropped A_begins A_ends p1 hcl3) (cwV 1 hts gX4_overlapping_X4_othersMeeting rfl rfl rfl (by decide +kernel) ⟨Nat.le_of_ble_eq_true rfl, Nat.le_of_ble_eq_true rfl⟩) hv (isC := [0, 1, 2]) ⟨rfl, rfl⟩ (hv.recv 4 0 rfl rfl) [] [0, 1, 2] rfl rfl (by decide) rfl rfl rfl hl.1 rfl (Nat.le_of_ble_eq_true rfl) dX4_overlapping_7 ⟨Nat.le_of_ble_eq_true rfl, Nat.le_of_ble_eq_true rfl⟩ (fun H locs hv => ?_)
    cases hf
    exact kret _ _ _ _ _ _ rfl hv dX4_overlapping_10

def f_X4_present (k : Nat) (f_presentSet : Int64) : Option (Int64) := some f_presentSet
abbrev rm_X4_present : Room := { frames := 0, cells := 0, slots := 0, locals := 0 }
set_option maxHeartbeats 4000000 in
set_option maxRecDepth 100000 in
theorem c_X4_present (l : Launch) (G : va_G) (cy : ClassId × ClassId × ClassId) (k : Nat) (aT aT_begins aT_ends aT_weights aT_givenRooms aT_oneRoom aT_manyRooms : Nat) (f_added : Int32) (f_presentSet : Int64) (f_factor : Int32) (f_offeredSet : Int64) (f_acceptedSet : Int64) (f_dropped : Int32) {r : Int64} (hf : f_X4_present k f_presentSet = some r) : Cl l yX4_present wsX4_present rm_X4_present 0 0 G cy [.ref aT] [(aT, .inr (4, [.ref aT_begins, .ref aT_ends, .ref aT_weights, .int f_added, .long f_presentSet, .int f_factor, .long f_offeredSet, .long f_acceptedSet, .int f_dropped, .ref aT_givenRooms, .ref aT_oneRoom, .ref aT_manyRooms]))] [(aT, .inr (4, [.ref aT_begins, .ref aT_ends, .ref aT_weights, .int f_added, .long f_presentSet, .int f_factor, .long f_offeredSet, .long f_acceptedSet, .int f_dropped, .ref aT_givenRooms, .ref aT_oneRoom, .ref aT_manyRooms]))] r := by
  refine kMetL (cc := cX4_present) (maxL := 1) (by decide) rfl (Nat.le_of_ble_eq_true rfl) ?_
  intro p e s m args below meth c Q A ls hx hb hml hts hown hv hl kret
  replace hown : s.vm.findClass RX4 = some m.cls := hown
  replace hl : lv_has ls 1 [(0, .ref aT)] := hl
  have hk61 : (Cond.fieldLink RX4 61 "Roomcolour" "presentSet" "J").before args s = true := hts _ (by decide +kernel)
  have hinX4 : ∀ w ∈ wsX40, w ∈ wsX4_present := by decide +kernel
  unfold f_X4_present at hf
  refine lv_aload_n hx hb dX4_present_0 rfl (lv_at hl 0 rfl) ?_
  refine kGet (v := .long f_presentSet) (C := RX4) (T := TX4) (N := 12) hx hb hts hinX4 hown hv 0 rfl rfl 4 (by decide) hk61 (fun _ h9 => h9) rfl dX4_present_1 ?_
  cases hf
  exact kret _ _ _ _ hv dX4_present_4

def f_X4_remove (k : Nat) (p1 : Int32) (f_added : Int32) (f_presentSet : Int64) (f_acceptedSet : Int64) : Option (Except String (Int32 × Int64 × Int64)) := xe (f_X4_requireThere k p1 f_added f_presentSet) (fun _ => xb (f_X4_only k p1) (fun r2 => xb (f_X4_only k p1) (fun r4 => xb (f_J13_bitCount_95d88 k (f_presentSet &&& (r2 ^^^ (-1)))) (fun r6 => some (.ok (r6, f_presentSet &&& (r2 ^^^ (-1)), f_acceptedSet &&& (r4 ^^^ (-1))))))))
abbrev rm_X4_remove : Room := { frames := 7, cells := 1, slots := 6, locals := 111 }
set_option maxHeartbeats 4000000 in
set_option maxRecDepth 100000 in
theorem c_X4_remove (l : Launch) (hl9 : l.stackTraces = false) (G : va_G) (cy : ClassId × ClassId × ClassId) (k : Nat) (aT aT_begins aT_ends aT_weights aT_givenRooms aT_oneRoom aT_manyRooms : Nat) (f_added : Int32) (f_presentSet : Int64) (f_factor : Int32) (f_offeredSet : Int64) (f_acceptedSet : Int64) (f_dropped : Int32) (p1 : Int32) {o : Except String (Int32 × Int64 × Int64)} (hf : f_X4_remove k p1 f_added f_presentSet f_acceptedSet = some o) : Xi l yX4_remove wsX4_remove rm_X4_remove 1 6 G cy [.ref aT, .int p1] [(aT, .inr (4, [.ref aT_begins, .ref aT_ends, .ref aT_weights, .int f_added, .long f_presentSet, .int f_factor, .long f_offeredSet, .long f_acceptedSet, .int f_dropped, .ref aT_givenRooms, .ref aT_oneRoom, .ref aT_manyRooms]))] (kmo (fun (q : Int32 × Int64 × Int64) => (q.1, [(aT, .inr (4, [.ref aT_begins, .ref aT_ends, .ref aT_weights, .int f_added, .long q.2.1, .int f_factor, .long f_offeredSet, .long q.2.2, .int f_dropped, .ref aT_givenRooms, .ref aT_oneRoom, .ref aT_manyRooms]))])) o) := by
  refine kMetXI (cc := cX4_remove) (maxL := 2) (by decide) rfl (Nat.le_of_ble_eq_true rfl) ?_
  intro p e s m args below meth c Q A ls Qc hx hb hml hts hown hv hl kret hT htab hlocks
  replace hown : s.vm.findClass RX4 = some m.cls := hown
  replace hl : lv_has ls 2 [(0, .ref aT), (1, .int p1)] := hl
  have hk61 : (Cond.fieldLink RX4 61 "Roomcolour" "presentSet" "J").before args s = true := hts _ (by decide +kernel)
  have hinX4 : ∀ w ∈ wsX40, w ∈ wsX4_remove := by decide +kernel
  have hk73 : (Cond.constantLong RX4 73 (-1)).before args s = true := hts _ (by decide +kernel)
  have hk75 : (Cond.fieldLink RX4 75 "Roomcolour" "acceptedSet" "J").before args s = true := hts _ (by decide +kernel)
  unfold f_X4_remove at hf
  refine lv_aload_n hx hb dX4_remove_0 rfl (lv_at hl 0 rfl) ?_
  refine lv_iload_n hx hb dX4_remove_1 rfl (lv_at hl 1 rfl) ?_
  rcases xe_some hf with ⟨E8, hcl1, hf⟩ | ⟨_, hcl1, hf⟩
  · cases hf
    refine kXV_vE (E := E8) (wc := [(aT, .inr (4, [.ref aT_begins, .ref aT_ends, .ref aT_weights, .int f_added, .long f_presentSet, .int f_factor, .long f_offeredSet, .long f_acceptedSet, .int f_dropped, .ref aT_givenRooms, .ref aT_oneRoom, .ref aT_manyRooms]))]) ⟨hx, hb, hml, hown, hts⟩ (c_X4_requireThere l hl9 G cy k aT aT_begins aT_ends aT_weights aT_givenRooms aT_oneRoom aT_manyRooms f_added f_presentSet f_factor f_offeredSet f_acceptedSet f_dropped p1 hcl1) (cwV 1 hts gX4_remove_X4_requireThere rfl rfl rfl (by decide +kernel) ⟨Nat.le_of_ble_eq_true rfl, Nat.le_of_ble_eq_true rfl⟩) hv (isC := [0]) ⟨rfl, rfl⟩ (hv.recv 4 0 rfl rfl) rfl hl.1 rfl (Nat.le_of_ble_eq_true rfl) dX4_remove_2 ⟨Nat.le_of_ble_eq_true rfl, Nat.le_of_ble_eq_true rfl⟩ (fun ce q9 H locs hv hce hcv hcl => ?_)
    exact kOut hv hT htab hlocks rfl hce hcv hcl (by decide) (by decide)
  · refine kXV_v (wc := [(aT, .inr (4, [.ref aT_begins, .ref aT_ends, .ref aT_weights, .int f_added, .long f_presentSet, .int f_factor, .long f_offeredSet, .long f_acceptedSet, .int f_dropped, .ref aT_givenRooms, .ref aT_oneRoom, .ref aT_manyRooms]))]) (wc' := [(aT, .inr (4, [.ref aT_begins, .ref aT_ends, .ref aT_weights, .int f_added, .long f_presentSet, .int f_factor, .long f_offeredSet, .long f_acceptedSet, .int f_dropped, .ref aT_givenRooms, .ref aT_oneRoom, .ref aT_manyRooms]))]) (wr := []) (w2 := [(aT, .inr (4, [.ref aT_begins, .ref aT_ends, .ref aT_weights, .int f_added, .long f_presentSet, .int f_factor, .long f_offeredSet, .long f_acceptedSet, .int f_dropped, .ref aT_givenRooms, .ref aT_oneRoom, .ref aT_manyRooms]))]) ⟨hx, hb, hml, hown, hts⟩ (c_X4_requireThere l hl9 G cy k aT aT_begins aT_ends aT_weights aT_givenRooms aT_oneRoom aT_manyRooms f_added f_presentSet f_factor f_offeredSet f_acceptedSet f_dropped p1 hcl1) (cwV 1 hts gX4_remove_X4_requireThere rfl rfl rfl (by decide +kernel) ⟨Nat.le_of_ble_eq_true rfl, Nat.le_of_ble_eq_true rfl⟩) hv (isC := [0]) ⟨rfl, rfl⟩ (hv.recv 4 0 rfl rfl) [] [0] rfl rfl (by decide) rfl rfl rfl hl.1 rfl (Nat.le_of_ble_eq_true rfl) dX4_remove_2 ⟨Nat.le_of_ble_eq_true rfl, Nat.le_of_ble_eq_true rfl⟩ (fun H locs hv => ?_)
    refine lv_aload_n hx hb dX4_remove_5 rfl (lv_at hl 0 rfl) ?_
    refine lv_dup hx hb dX4_remove_6 rfl ?_
    refine kGet (v := .long f_presentSet) (C := RX4) (T := TX4) (N := 12) hx hb hts hinX4 hown hv 0 rfl rfl 4 (by decide) hk61 (fun _ h9 => h9) rfl dX4_remove_7 ?_
    refine lv_iload_n hx hb dX4_remove_10 rfl (lv_at hl 1 rfl) ?_
    obtain ⟨r2, hcl3, hf⟩ := xb_some hf
    refine kS_l (r := r2) ⟨hx, hb, hml, hown, hts⟩ (c_X4_only l G cy k p1 hcl3) (va_cwS 1 hts gX4_remove_X4_only rfl rfl rfl (by decide +kernel) ⟨Nat.le_of_ble_eq_true rfl, Nat.le_of_ble_eq_true rfl⟩) hv rfl hl.1 rfl (Nat.le_of_ble_eq_true rfl) dX4_remove_11 ⟨Nat.le_of_ble_eq_true rfl, Nat.le_of_ble_eq_true rfl⟩ (fun H locs hv => ?_)
    refine lv_ldc2 hx hb hown hk73 dX4_remove_14 ?_
    refine lv_lxor hx hb dX4_remove_17 ?_
    refine lv_land hx hb dX4_remove_18 ?_
    refine kPut (v := .long (f_presentSet &&& (r2 ^^^ (-1)))) (ty := .long) (C := RX4) (T := TX4) (N := 12) hx hb hts hinX4 tyX4 tyX4_ok nmX4 hown hv 0 rfl rfl 4 (by decide) hk61 (fun _ h9 => h9) rfl (by decide +kernel) rfl rfl (Nat.le_of_ble_eq_true rfl) dX4_remove_19 (fun H locs hv => ?_)
    replace hv : Hv s H locs G cy A [(aT, .inr (4, [.ref aT_begins, .ref aT_ends, .ref aT_weights, .int f_added, .long (f_presentSet &&& (r2 ^^^ (-1))), .int f_factor, .long f_offeredSet, .long f_acceptedSet, .int f_dropped, .ref aT_givenRooms, .ref aT_oneRoom, .ref aT_manyRooms]))] := hv
    refine lv_aload_n hx hb dX4_remove_22 rfl (lv_at hl 0 rfl) ?_
    refine lv_dup hx hb dX4_remove_23 rfl ?_
    refine kGet (v := .long f_acceptedSet) (C := RX4) (T := TX4) (N := 12) hx hb hts hinX4 hown hv 0 rfl rfl 7 (by decide) hk75 (fun _ h9 => h9) rfl dX4_remove_24 ?_
    refine lv_iload_n hx hb dX4_remove_27 rfl (lv_at hl 1 rfl) ?_
    obtain ⟨r4, hcl5, hf⟩ := xb_some hf
    refine kS_l (r := r4) ⟨hx, hb, hml, hown, hts⟩ (c_X4_only l G cy k p1 hcl5) (va_cwS 1 hts gX4_remove_X4_only rfl rfl rfl (by decide +kernel) ⟨Nat.le_of_ble_eq_true rfl, Nat.le_of_ble_eq_true rfl⟩) hv rfl hl.1 rfl (Nat.le_of_ble_eq_true rfl) dX4_remove_28 ⟨Nat.le_of_ble_eq_true rfl, Nat.le_of_ble_eq_true rfl⟩ (fun H locs hv => ?_)
    refine lv_ldc2 hx hb hown hk73 dX4_remove_31 ?_
    refine lv_lxor hx hb dX4_remove_34 ?_
    refine lv_land hx hb dX4_remove_35 ?_
    refine kPut (v := .long (f_acceptedSet &&& (r4 ^^^ (-1)))) (ty := .long) (C := RX4) (T := TX4) (N := 12) hx hb hts hinX4 tyX4 tyX4_ok nmX4 hown hv 0 rfl rfl 7 (by decide) hk75 (fun _ h9 => h9) rfl (by decide +kernel) rfl rfl (Nat.le_of_ble_eq_true rfl) dX4_remove_36 (fun H locs hv => ?_)
    replace hv : Hv s H locs G cy A [(aT, .inr (4, [.ref aT_begins, .ref aT_ends, .ref aT_weights, .int f_added, .long (f_presentSet &&& (r2 ^^^ (-1))), .int f_factor, .long f_offeredSet, .long (f_acceptedSet &&& (r4 ^^^ (-1))), .int f_dropped, .ref aT_givenRooms, .ref aT_oneRoom, .ref aT_manyRooms]))] := hv
    refine lv_aload_n hx hb dX4_remove_39 rfl (lv_at hl 0 rfl) ?_
    refine kGet (v := .long (f_presentSet &&& (r2 ^^^ (-1)))) (C := RX4) (T := TX4) (N := 12) hx hb hts hinX4 hown hv 0 rfl rfl 4 (by decide) hk61 (fun _ h9 => h9) rfl dX4_remove_40 ?_
    obtain ⟨r6, hcl7, hf⟩ := xb_some hf
    refine kS_i (r := r6) ⟨hx, hb, hml, hown, hts⟩ (c_J13_bitCount_95d88 l G cy k (f_presentSet &&& (r2 ^^^ (-1))) hcl7) (va_cwS 1 hts gX4_remove_J13_bitCount_95d88 rfl rfl rfl (by decide +kernel) ⟨Nat.le_of_ble_eq_true rfl, Nat.le_of_ble_eq_true rfl⟩) hv rfl hl.1 rfl (Nat.le_of_ble_eq_true rfl) dX4_remove_43 ⟨Nat.le_of_ble_eq_true rfl, Nat.le_of_ble_eq_true rfl⟩ (fun H locs hv => ?_)
    cases hf
    exact kret _ _ _ _ _ _ rfl hv dX4_remove_46

def f_X4_roomOf (k : Nat) (p1 : Int32) (f_added : Int32) (f_presentSet : Int64) (A_begins : Nat → Int32) (A_ends : Nat → Int32) (A_weights : Nat → Int32) (f_givenRooms_row_byEnd : Int32) (f_givenRooms_row_count : Int32) (A_givenRooms_row_numbers : Nat → Int32) (A_givenRooms_row_begins : Nat → Int32) (A_givenRooms_row_ends : Nat → Int32) (A_givenRooms_row_weights : Nat → Int32) (A_givenRooms_freeFrom : Nat → Int32) : Option (Except String (Int32 × Int32 × (Nat → Int32) × (Nat → Int32) × (Nat → Int32) × (Nat → Int32) × (Nat → Int32))) := xe (f_X4_requireThere k p1 f_added f_presentSet) (fun _ => xb (f_X4_fill k f_presentSet f_added A_begins A_ends A_weights f_givenRooms_row_byEnd f_givenRooms_row_count A_givenRooms_row_numbers A_givenRooms_row_begins A_givenRooms_row_ends A_givenRooms_row_weights) (fun (f_givenRooms_row_count_2, A_givenRooms_row_numbers_3, A_givenRooms_row_begins_4, A_givenRooms_row_ends_5, A_givenRooms_row_weights_6) => xb (f_X0_givenTo k p1 f_givenRooms_row_count_2 A_givenRooms_row_numbers_3 A_givenRooms_row_begins_4 A_givenRooms_row_ends_5 A_givenRooms_freeFrom) (fun (r8, A_givenRooms_freeFrom_9) => some (.ok (r8, f_givenRooms_row_count_2, A_givenRooms_row_numbers_3, A_givenRooms_row_begins_4, A_givenRooms_row_ends_5, A_givenRooms_row_weights_6, A_givenRooms_freeFrom_9)))))
abbrev rm_X4_roomOf : Room := { frames := 7, cells := 1, slots := 6, locals := 111 }
set_option maxHeartbeats 4000000 in
set_option maxRecDepth 100000 in
theorem c_X4_roomOf (l : Launch) (hl9 : l.stackTraces = false) (G : va_G) (cy : ClassId × ClassId × ClassId) (k : Nat) (aT aT_begins aT_ends aT_weights aT_givenRooms aT_oneRoom aT_manyRooms aT_givenRooms_row aT_givenRooms_freeFrom aT_givenRooms_row_numbers aT_givenRooms_row_begins aT_givenRooms_row_ends aT_givenRooms_row_weights : Nat) (f_added : Int32) (f_presentSet : Int64) (f_factor : Int32) (f_offeredSet : Int64) (f_acceptedSet : Int64) (f_dropped : Int32) (A_begins : Nat → Int32) (A_ends : Nat → Int32) (A_weights : Nat → Int32) (f_givenRooms_row_byEnd : Int32) (f_givenRooms_row_count : Int32) (A_givenRooms_row_numbers : Nat → Int32) (A_givenRooms_row_begins : Nat → Int32) (A_givenRooms_row_ends : Nat → Int32) (A_givenRooms_row_weights : Nat → Int32) (A_givenRooms_freeFrom : Nat → Int32) (p1 : Int32) {o : Except String (Int32 × Int32 × (Nat → Int32) × (Nat → Int32) × (Nat → Int32) × (Nat → Int32) × (Nat → Int32))} (hf : f_X4_roomOf k p1 f_added f_presentSet A_begins A_ends A_weights f_givenRooms_row_byEnd f_givenRooms_row_count A_givenRooms_row_numbers A_givenRooms_row_begins A_givenRooms_row_ends A_givenRooms_row_weights A_givenRooms_freeFrom = some o) : Xi l yX4_roomOf wsX4_roomOf rm_X4_roomOf 1 6 G cy [.ref aT, .int p1] [(aT, .inr (4, [.ref aT_begins, .ref aT_ends, .ref aT_weights, .int f_added, .long f_presentSet, .int f_factor, .long f_offeredSet, .long f_acceptedSet, .int f_dropped, .ref aT_givenRooms, .ref aT_oneRoom, .ref aT_manyRooms])), (aT_begins, .inl (cy.1, 40, .inl A_begins)), (aT_ends, .inl (cy.1, 40, .inl A_ends)), (aT_weights, .inl (cy.1, 40, .inl A_weights)), (aT_givenRooms, .inr (0, [.ref aT_givenRooms_row, .ref aT_givenRooms_freeFrom])), (aT_givenRooms_row, .inr (3, [.int f_givenRooms_row_byEnd, .ref aT_givenRooms_row_numbers, .ref aT_givenRooms_row_begins, .ref aT_givenRooms_row_ends, .ref aT_givenRooms_row_weights, .int f_givenRooms_row_count])), (aT_givenRooms_row_numbers, .inl (cy.1, 40, .inl A_givenRooms_row_numbers)), (aT_givenRooms_row_begins, .inl (cy.1, 40, .inl A_givenRooms_row_begins)), (aT_givenRooms_row_ends, .inl (cy.1, 40, .inl A_givenRooms_row_ends)), (aT_givenRooms_row_weights, .inl (cy.1, 40, .inl A_givenRooms_row_weights)), (aT_givenRooms_freeFrom, .inl (cy.1, 40, .inl A_givenRooms_freeFrom))] (kmo (fun (q : Int32 × Int32 × (Nat → Int32) × (Nat → Int32) × (Nat → Int32) × (Nat → Int32) × (Nat → Int32)) => (q.1, [(aT, .inr (4, [.ref aT_begins, .ref aT_ends, .ref aT_weights, .int f_added, .long f_presentSet, .int f_factor, .long f_offeredSet, .long f_acceptedSet, .int f_dropped, .ref aT_givenRooms, .ref aT_oneRoom, .ref aT_manyRooms])), (aT_begins, .inl (cy.1, 40, .inl A_begins)), (aT_ends, .inl (cy.1, 40, .inl A_ends)), (aT_weights, .inl (cy.1, 40, .inl A_weights)), (aT_givenRooms, .inr (0, [.ref aT_givenRooms_row, .ref aT_givenRooms_freeFrom])), (aT_givenRooms_row, .inr (3, [.int f_givenRooms_row_byEnd, .ref aT_givenRooms_row_numbers, .ref aT_givenRooms_row_begins, .ref aT_givenRooms_row_ends, .ref aT_givenRooms_row_weights, .int q.2.1])), (aT_givenRooms_row_numbers, .inl (cy.1, 40, .inl q.2.2.1)), (aT_givenRooms_row_begins, .inl (cy.1, 40, .inl q.2.2.2.1)), (aT_givenRooms_row_ends, .inl (cy.1, 40, .inl q.2.2.2.2.1)), (aT_givenRooms_row_weights, .inl (cy.1, 40, .inl q.2.2.2.2.2.1)), (aT_givenRooms_freeFrom, .inl (cy.1, 40, .inl q.2.2.2.2.2.2))])) o) := by
  refine kMetXI (cc := cX4_roomOf) (maxL := 2) (by decide) rfl (Nat.le_of_ble_eq_true rfl) ?_
  intro p e s m args below meth c Q A ls Qc hx hb hml hts hown hv hl kret hT htab hlocks
  replace hown : s.vm.findClass RX4 = some m.cls := hown
  replace hl : lv_has ls 2 [(0, .ref aT), (1, .int p1)] := hl
  have hk26 : (Cond.fieldLink RX4 26 "Roomcolour" "givenRooms" "LRoomcolour$GivenRooms;").before args s = true := hts _ (by decide +kernel)
  have hinX4 : ∀ w ∈ wsX40, w ∈ wsX4_roomOf := by decide +kernel
  have hn100 : (Cond.fieldLinkNest RX4 100 "Roomcolour$GivenRooms" "row" "LRoomcolour$Row;" RX4).before args s = true := va_Nw.use rfl (hv.2.2.2.2.2.1 _ (by decide +kernel))
  have hinX0 : ∀ w ∈ wsX00, w ∈ wsX4_roomOf := by decide +kernel
  have hk61 : (Cond.fieldLink RX4 61 "Roomcolour" "presentSet" "J").before args s = true := hts _ (by decide +kernel)
  unfold f_X4_roomOf at hf
  refine lv_aload_n hx hb dX4_roomOf_0 rfl (lv_at hl 0 rfl) ?_
  refine lv_iload_n hx hb dX4_roomOf_1 rfl (lv_at hl 1 rfl) ?_
  rcases xe_some hf with ⟨E11, hcl1, hf⟩ | ⟨_, hcl1, hf⟩
  · cases hf
    refine kXV_vE (E := E11) (wc := [(aT, .inr (4, [.ref aT_begins, .ref aT_ends, .ref aT_weights, .int f_added, .long f_presentSet, .int f_factor, .long f_offeredSet, .long f_acceptedSet, .int f_dropped, .ref aT_givenRooms, .ref aT_oneRoom, .ref aT_manyRooms]))]) ⟨hx, hb, hml, hown, hts⟩ (c_X4_requireThere l hl9 G cy k aT aT_begins aT_ends aT_weights aT_givenRooms aT_oneRoom aT_manyRooms f_added f_presentSet f_factor f_offeredSet f_acceptedSet f_dropped p1 hcl1) (cwV 1 hts gX4_roomOf_X4_requireThere rfl rfl rfl (by decide +kernel) ⟨Nat.le_of_ble_eq_true rfl, Nat.le_of_ble_eq_true rfl⟩) hv (isC := [0]) ⟨rfl, rfl⟩ (hv.recv 4 0 rfl rfl) rfl hl.1 rfl (Nat.le_of_ble_eq_true rfl) dX4_roomOf_2 ⟨Nat.le_of_ble_eq_true rfl, Nat.le_of_ble_eq_true rfl⟩ (fun ce q9 H locs hv hce hcv hcl => ?_)
    exact kOut hv hT htab hlocks rfl hce hcv hcl (by decide) (by decide)
  · refine kXV_v (wc := [(aT, .inr (4, [.ref aT_begins, .ref aT_ends, .ref aT_weights, .int f_added, .long f_presentSet, .int f_factor, .long f_offeredSet, .long f_acceptedSet, .int f_dropped, .ref aT_givenRooms, .ref aT_oneRoom, .ref aT_manyRooms]))]) (wc' := [(aT, .inr (4, [.ref aT_begins, .ref aT_ends, .ref aT_weights, .int f_added, .long f_presentSet, .int f_factor, .long f_offeredSet, .long f_acceptedSet, .int f_dropped, .ref aT_givenRooms, .ref aT_oneRoom, .ref aT_manyRooms]))]) (wr := [(aT_begins, .inl (cy.1, 40, .inl A_begins)), (aT_ends, .inl (cy.1, 40, .inl A_ends)), (aT_weights, .inl (cy.1, 40, .inl A_weights)), (aT_givenRooms, .inr (0, [.ref aT_givenRooms_row, .ref aT_givenRooms_freeFrom])), (aT_givenRooms_row, .inr (3, [.int f_givenRooms_row_byEnd, .ref aT_givenRooms_row_numbers, .ref aT_givenRooms_row_begins, .ref aT_givenRooms_row_ends, .ref aT_givenRooms_row_weights, .int f_givenRooms_row_count])), (aT_givenRooms_row_numbers, .inl (cy.1, 40, .inl A_givenRooms_row_numbers)), (aT_givenRooms_row_begins, .inl (cy.1, 40, .inl A_givenRooms_row_begins)), (aT_givenRooms_row_ends, .inl (cy.1, 40, .inl A_givenRooms_row_ends)), (aT_givenRooms_row_weights, .inl (cy.1, 40, .inl A_givenRooms_row_weights)), (aT_givenRooms_freeFrom, .inl (cy.1, 40, .inl A_givenRooms_freeFrom))]) (w2 := [(aT, .inr (4, [.ref aT_begins, .ref aT_ends, .ref aT_weights, .int f_added, .long f_presentSet, .int f_factor, .long f_offeredSet, .long f_acceptedSet, .int f_dropped, .ref aT_givenRooms, .ref aT_oneRoom, .ref aT_manyRooms])), (aT_begins, .inl (cy.1, 40, .inl A_begins)), (aT_ends, .inl (cy.1, 40, .inl A_ends)), (aT_weights, .inl (cy.1, 40, .inl A_weights)), (aT_givenRooms, .inr (0, [.ref aT_givenRooms_row, .ref aT_givenRooms_freeFrom])), (aT_givenRooms_row, .inr (3, [.int f_givenRooms_row_byEnd, .ref aT_givenRooms_row_numbers, .ref aT_givenRooms_row_begins, .ref aT_givenRooms_row_ends, .ref aT_givenRooms_row_weights, .int f_givenRooms_row_count])), (aT_givenRooms_row_numbers, .inl (cy.1, 40, .inl A_givenRooms_row_numbers)), (aT_givenRooms_row_begins, .inl (cy.1, 40, .inl A_givenRooms_row_begins)), (aT_givenRooms_row_ends, .inl (cy.1, 40, .inl A_givenRooms_row_ends)), (aT_givenRooms_row_weights, .inl (cy.1, 40, .inl A_givenRooms_row_weights)), (aT_givenRooms_freeFrom, .inl (cy.1, 40, .inl A_givenRooms_freeFrom))]) ⟨hx, hb, hml, hown, hts⟩ (c_X4_requireThere l hl9 G cy k aT aT_begins aT_ends aT_weights aT_givenRooms aT_oneRoom aT_manyRooms f_added f_presentSet f_factor f_offeredSet f_acceptedSet f_dropped p1 hcl1) (cwV 1 hts gX4_roomOf_X4_requireThere rfl rfl rfl (by decide +kernel) ⟨Nat.le_of_ble_eq_true rfl, Nat.le_of_ble_eq_true rfl⟩) hv (isC := [0]) ⟨rfl, rfl⟩ (hv.recv 4 0 rfl rfl) [1, 2, 3, 4, 5, 6, 7, 8, 9, 10] [10, 0, 1, 2, 3, 4, 5, 6, 7, 8, 9] rfl rfl (by decide) rfl rfl rfl hl.1 rfl (Nat.le_of_ble_eq_true rfl) dX4_roomOf_2 ⟨Nat.le_of_ble_eq_true rfl, Nat.le_of_ble_eq_true rfl⟩ (fun H locs hv => ?_)
    refine lv_aload_n hx hb dX4_roomOf_5 rfl (lv_at hl 0 rfl) ?_
    refine lv_aload_n hx hb dX4_roomOf_6 rfl (lv_at hl 0 rfl) ?_
    refine kGet (v := .ref aT_givenRooms) (C := RX4) (T := TX4) (N := 12) hx hb hts hinX4 hown hv 0 rfl rfl 9 (by decide) hk26 (fun _ h9 => h9) rfl dX4_roomOf_7 ?_
    refine kGetN (v := .ref aT_givenRooms_row) (C := RX0) (T := TX0) (N := 2) hx hb hts hinX0 hown hv 4 rfl rfl 0 (by decide) hn100 (fun _ h9 => h9) rfl dX4_roomOf_10 ?_
    refine lv_aload_n hx hb dX4_roomOf_13 rfl (lv_at hl 0 rfl) ?_
    refine kGet (v := .long f_presentSet) (C := RX4) (T := TX4) (N := 12) hx hb hts hinX4 hown hv 0 rfl rfl 4 (by decide) hk61 (fun _ h9 => h9) rfl dX4_roomOf_14 ?_
    obtain ⟨⟨f_givenRooms_row_count_2, A_givenRooms_row_numbers_3, A_givenRooms_row_begins_4, A_givenRooms_row_ends_5, A_givenRooms_row_weights_6⟩, hcl7, hf⟩ := xb_some hf
    dsimp only at hf
    refine kV_v (wr := [(aT_givenRooms, .inr (0, [.ref aT_givenRooms_row, .ref aT_givenRooms_freeFrom])), (aT_givenRooms_freeFrom, .inl (cy.1, 40, .inl A_givenRooms_freeFrom))]) (w2 := [(aT, .inr (4, [.ref aT_begins, .ref aT_ends, .ref aT_weights, .int f_added, .long f_presentSet, .int f_factor, .long f_offeredSet, .long f_acceptedSet, .int f_dropped, .ref aT_givenRooms, .ref aT_oneRoom, .ref aT_manyRooms])), (aT_begins, .inl (cy.1, 40, .inl A_begins)), (aT_ends, .inl (cy.1, 40, .inl A_ends)), (aT_weights, .inl (cy.1, 40, .inl A_weights)), (aT_givenRooms, .inr (0, [.ref aT_givenRooms_row, .ref aT_givenRooms_freeFrom])), (aT_givenRooms_row, .inr (3, [.int f_givenRooms_row_byEnd, .ref aT_givenRooms_row_numbers, .ref aT_givenRooms_row_begins, .ref aT_givenRooms_row_ends, .ref aT_givenRooms_row_weights, .int f_givenRooms_row_count_2])), (aT_givenRooms_row_numbers, .inl (cy.1, 40, .inl A_givenRooms_row_numbers_3)), (aT_givenRooms_row_begins, .inl (cy.1, 40, .inl A_givenRooms_row_begins_4)), (aT_givenRooms_row_ends, .inl (cy.1, 40, .inl A_givenRooms_row_ends_5)), (aT_givenRooms_row_weights, .inl (cy.1, 40, .inl A_givenRooms_row_weights_6)), (aT_givenRooms_freeFrom, .inl (cy.1, 40, .inl A_givenRooms_freeFrom))]) ⟨hx, hb, hml, hown, hts⟩ (c_X4_fill l G cy k aT aT_begins aT_ends aT_weights aT_givenRooms aT_oneRoom aT_manyRooms aT_givenRooms_row aT_givenRooms_row_numbers aT_givenRooms_row_begins aT_givenRooms_row_ends aT_givenRooms_row_weights f_added f_presentSet f_factor f_offeredSet f_acceptedSet f_dropped A_begins A_ends A_weights f_givenRooms_row_byEnd f_givenRooms_row_count A_givenRooms_row_numbers A_givenRooms_row_begins A_givenRooms_row_ends A_givenRooms_row_weights f_presentSet hcl7) (cwV 2 hts gX4_roomOf_X4_fill rfl rfl rfl (by decide +kernel) ⟨Nat.le_of_ble_eq_true rfl, Nat.le_of_ble_eq_true rfl⟩) hv (isC := [0, 1, 2, 3, 5, 6, 7, 8, 9]) ⟨rfl, rfl⟩ (hv.recv 4 0 rfl rfl) [4, 10] [2, 3, 4, 5, 0, 6, 7, 8, 9, 10, 1] rfl rfl (by decide) rfl rfl rfl hl.1 rfl (Nat.le_of_ble_eq_true rfl) dX4_roomOf_17 ⟨Nat.le_of_ble_eq_true rfl, Nat.le_of_ble_eq_true rfl⟩ (fun H locs hv => ?_)
    refine lv_aload_n hx hb dX4_roomOf_20 rfl (lv_at hl 0 rfl) ?_
    refine kGet (v := .ref aT_givenRooms) (C := RX4) (T := TX4) (N := 12) hx hb hts hinX4 hown hv 0 rfl rfl 9 (by decide) hk26 (fun _ h9 => h9) rfl dX4_roomOf_21 ?_
    refine lv_iload_n hx hb dX4_roomOf_24 rfl (lv_at hl 1 rfl) ?_
    obtain ⟨⟨r8, A_givenRooms_freeFrom_9⟩, hcl10, hf⟩ := xb_some hf
    dsimp only at hf
    refine kV_i (r := r8) (wr := [(aT, .inr (4, [.ref aT_begins, .ref aT_ends, .ref aT_weights, .int f_added, .long f_presentSet, .int f_factor, .long f_offeredSet, .long f_acceptedSet, .int f_dropped, .ref aT_givenRooms, .ref aT_oneRoom, .ref aT_manyRooms])), (aT_begins, .inl (cy.1, 40, .inl A_begins)), (aT_ends, .inl (cy.1, 40, .inl A_ends)), (aT_weights, .inl (cy.1, 40, .inl A_weights)), (aT_givenRooms_row_weights, .inl (cy.1, 40, .inl A_givenRooms_row_weights_6))]) (w2 := [(aT, .inr (4, [.ref aT_begins, .ref aT_ends, .ref aT_weights, .int f_added, .long f_presentSet, .int f_factor, .long f_offeredSet, .long f_acceptedSet, .int f_dropped, .ref aT_givenRooms, .ref aT_oneRoom, .ref aT_manyRooms])), (aT_begins, .inl (cy.1, 40, .inl A_begins)), (aT_ends, .inl (cy.1, 40, .inl A_ends)), (aT_weights, .inl (cy.1, 40, .inl A_weights)), (aT_givenRooms, .inr (0, [.ref aT_givenRooms_row, .ref aT_givenRooms_freeFrom])), (aT_givenRooms_row, .inr (3, [.int f_givenRooms_row_byEnd, .ref aT_givenRooms_row_numbers, .ref aT_givenRooms_row_begins, .ref aT_givenRooms_row_ends, .ref aT_givenRooms_row_weights, .int f_givenRooms_row_count_2])), (aT_givenRooms_row_numbers, .inl (cy.1, 40, .inl A_givenRooms_row_numbers_3)), (aT_givenRooms_row_begins, .inl (cy.1, 40, .inl A_givenRooms_row_begins_4)), (aT_givenRooms_row_ends, .inl (cy.1, 40, .inl A_givenRooms_row_ends_5)), (aT_givenRooms_row_weights, .inl (cy.1, 40, .inl A_givenRooms_row_weights_6)), (aT_givenRooms_freeFrom, .inl (cy.1, 40, .inl A_givenRooms_freeFrom_9))]) ⟨hx, hb, hml, hown, hts⟩ (c_X0_givenTo l G cy k aT_givenRooms aT_givenRooms_row aT_givenRooms_freeFrom aT_givenRooms_row_numbers aT_givenRooms_row_begins aT_givenRooms_row_ends aT_givenRooms_row_weights f_givenRooms_row_byEnd f_givenRooms_row_count_2 A_givenRooms_row_numbers_3 A_givenRooms_row_begins_4 A_givenRooms_row_ends_5 A_givenRooms_freeFrom p1 hcl10) (cwV 1 hts gX4_roomOf_X0_givenTo rfl rfl rfl (by decide +kernel) ⟨Nat.le_of_ble_eq_true rfl, Nat.le_of_ble_eq_true rfl⟩) hv (isC := [4, 5, 6, 7, 8, 10]) ⟨rfl, rfl⟩ (hv.recv 0 4 rfl rfl) [0, 1, 2, 3, 9] [0, 1, 2, 3, 5, 6, 7, 8, 9, 4, 10] rfl rfl (by decide) rfl rfl rfl hl.1 rfl (Nat.le_of_ble_eq_true rfl) dX4_roomOf_25 ⟨Nat.le_of_ble_eq_true rfl, Nat.le_of_ble_eq_true rfl⟩ (fun H locs hv => ?_)
    cases hf
    exact kret _ _ _ _ _ _ rfl hv dX4_roomOf_28

def f_X4_rooms (k : Nat) (f_added : Int32) (f_presentSet : Int64) (A_begins : Nat → Int32) (A_ends : Nat → Int32) : Option (Int32) := xb (f_X4_leastDeepestTime k f_added f_presentSet A_begins A_ends) (fun r1 => if r1 = (-1) then some 0 else xb (f_X4_depthAt k r1 f_added f_presentSet A_begins A_ends) (fun r4 => some r4))
abbrev rm_X4_rooms : Room := { frames := 4, cells := 0, slots := 0, locals := 90 }
set_option maxHeartbeats 4000000 in
set_option maxRecDepth 100000 in
theorem c_X4_rooms (l : Launch) (G : va_G) (cy : ClassId × ClassId × ClassId) (k : Nat) (aT aT_begins aT_ends aT_weights aT_givenRooms aT_oneRoom aT_manyRooms : Nat) (f_added : Int32) (f_presentSet : Int64) (f_factor : Int32) (f_offeredSet : Int64) (f_acceptedSet : Int64) (f_dropped : Int32) (A_begins : Nat → Int32) (A_ends : Nat → Int32) {r : Int32} (hf : f_X4_rooms k f_added f_presentSet A_begins A_ends = some r) : Ci l yX4_rooms wsX4_rooms rm_X4_rooms 0 0 G cy [.ref aT] [(aT, .inr (4, [.ref aT_begins, .ref aT_ends, .ref aT_weights, .int f_added, .long f_presentSet, .int f_factor, .long f_offeredSet, .long f_acceptedSet, .int f_dropped, .ref aT_givenRooms, .ref aT_oneRoom, .ref aT_manyRooms])), (aT_begins, .inl (cy.1, 40, .inl A_begins)), (aT_ends, .inl (cy.1, 40, .inl A_ends))] [(aT, .inr (4, [.ref aT_begins, .ref aT_ends, .ref aT_weights, .int f_added, .long f_presentSet, .int f_factor, .long f_offeredSet, .long f_acceptedSet, .int f_dropped, .ref aT_givenRooms, .ref aT_oneRoom, .ref aT_manyRooms])), (aT_begins, .inl (cy.1, 40, .inl A_begins)), (aT_ends, .inl (cy.1, 40, .inl A_ends))] r := by
  refine kMetI (cc := cX4_rooms) (maxL := 2) (by decide) rfl (Nat.le_of_ble_eq_true rfl) ?_
  intro p e s m args below meth c Q A ls hx hb hml hts hown hv hl kret
  replace hown : s.vm.findClass RX4 = some m.cls := hown
  replace hl : lv_has ls 2 [(0, .ref aT)] := hl
  unfold f_X4_rooms at hf
  refine lv_aload_n hx hb dX4_rooms_0 rfl (lv_at hl 0 rfl) ?_
  obtain ⟨r1, hcl2, hf⟩ := xb_some hf
  refine kV_i (r := r1) (wr := []) (w2 := [(aT, .inr (4, [.ref aT_begins, .ref aT_ends, .ref aT_weights, .int f_added, .long f_presentSet, .int f_factor, .long f_offeredSet, .long f_acceptedSet, .int f_dropped, .ref aT_givenRooms, .ref aT_oneRoom, .ref aT_manyRooms])), (aT_begins, .inl (cy.1, 40, .inl A_begins)), (aT_ends, .inl (cy.1, 40, .inl A_ends))]) ⟨hx, hb, hml, hown, hts⟩ (c_X4_leastDeepestTime l G cy k aT aT_begins aT_ends aT_weights aT_givenRooms aT_oneRoom aT_manyRooms f_added f_presentSet f_factor f_offeredSet f_acceptedSet f_dropped A_begins A_ends hcl2) (cwV 0 hts gX4_rooms_X4_leastDeepestTime rfl rfl rfl (by decide +kernel) ⟨Nat.le_of_ble_eq_true rfl, Nat.le_of_ble_eq_true rfl⟩) hv (isC := [0, 1, 2]) ⟨rfl, rfl⟩ (hv.recv 4 0 rfl rfl) [] [0, 1, 2] rfl rfl (by decide) rfl rfl rfl hl.1 rfl (Nat.le_of_ble_eq_true rfl) dX4_rooms_1 ⟨Nat.le_of_ble_eq_true rfl, Nat.le_of_ble_eq_true rfl⟩ (fun H locs hv => ?_)
  refine lv_istore_n (lv' := [(1, .int r1), (0, .ref aT)]) hx hb dX4_rooms_4 rfl hl (by decide) rfl (fun ls hl => ?_)
  refine lv_iload_n hx hb dX4_rooms_5 rfl (lv_at hl 0 rfl) ?_
  refine lv_iconst (v := (-1)) hx hb dX4_rooms_6 (by decide) ?_
  refine lv_icmp_ne (tgt := 14) hx hb dX4_rooms_7 (by decide) (fun hc3 => ?_) (fun hc3 => ?_)
  · replace hf := ite_f hf hc3
    refine lv_aload_n hx hb dX4_rooms_14 rfl (lv_at hl 1 rfl) ?_
    refine lv_iload_n hx hb dX4_rooms_15 rfl (lv_at hl 0 rfl) ?_
    obtain ⟨r4, hcl5, hf⟩ := xb_some hf
    refine kV_i (r := r4) (wr := []) (w2 := [(aT, .inr (4, [.ref aT_begins, .ref aT_ends, .ref aT_weights, .int f_added, .long f_presentSet, .int f_factor, .long f_offeredSet, .long f_acceptedSet, .int f_dropped, .ref aT_givenRooms, .ref aT_oneRoom, .ref aT_manyRooms])), (aT_begins, .inl (cy.1, 40, .inl A_begins)), (aT_ends, .inl (cy.1, 40, .inl A_ends))]) ⟨hx, hb, hml, hown, hts⟩ (c_X4_depthAt l G cy k aT aT_begins aT_ends aT_weights aT_givenRooms aT_oneRoom aT_manyRooms f_added f_presentSet f_factor f_offeredSet f_acceptedSet f_dropped A_begins A_ends r1 hcl5) (cwV 1 hts gX4_rooms_X4_depthAt rfl rfl rfl (by decide +kernel) ⟨Nat.le_of_ble_eq_true rfl, Nat.le_of_ble_eq_true rfl⟩) hv (isC := [0, 1, 2]) ⟨rfl, rfl⟩ (hv.recv 4 0 rfl rfl) [] [0, 1, 2] rfl rfl (by decide) rfl rfl rfl hl.1 rfl (Nat.le_of_ble_eq_true rfl) dX4_rooms_16 ⟨Nat.le_of_ble_eq_true rfl, Nat.le_of_ble_eq_true rfl⟩ (fun H locs hv => ?_)
    cases hf
    exact kret _ _ _ _ hv dX4_rooms_19
  · replace hf := ite_t hf hc3
    refine lv_iconst (v := 0) hx hb dX4_rooms_10 (by decide) ?_
    refine lv_goto (tgt := 19) hx hb dX4_rooms_11 (by decide) ?_
    cases hf
    exact kret _ _ _ _ hv dX4_rooms_19
