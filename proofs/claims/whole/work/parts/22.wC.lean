def f_X5_accepted_L9 (k : Nat) (f_many : Int32) (A_isAccepted : Nat → Int32) (κ : Int64 → Int32 → Option (Int64 × Int32)) : Nat → Int64 → Int32 → Option (Int64 × Int32)
  | 0, _, _ => none
  | n + 1, v1, v3 => if f_many ≤ v3 then κ v1 v3 else xi v3 40 (if (A_isAccepted v3.toNatClampNeg) = 0 then f_X5_accepted_L9 k f_many A_isAccepted κ n (v1 ||| 0) (v3 + 1) else f_X5_accepted_L9 k f_many A_isAccepted κ n (v1 ||| ((1 : Int64) <<< ((v3 : Int32).toInt64 &&& 63))) (v3 + 1))
theorem f_X5_accepted_L9_z (k : Nat) (f_many : Int32) (A_isAccepted : Nat → Int32) (κ : Int64 → Int32 → Option (Int64 × Int32)) (v1 : Int64) (v3 : Int32) : f_X5_accepted_L9 k f_many A_isAccepted κ 0 v1 v3 = none := rfl
theorem f_X5_accepted_L9_s (k : Nat) (f_many : Int32) (A_isAccepted : Nat → Int32) (κ : Int64 → Int32 → Option (Int64 × Int32)) (n : Nat) (v1 : Int64) (v3 : Int32) : f_X5_accepted_L9 k f_many A_isAccepted κ (n + 1) v1 v3 = if f_many ≤ v3 then κ v1 v3 else xi v3 40 (if (A_isAccepted v3.toNatClampNeg) = 0 then f_X5_accepted_L9 k f_many A_isAccepted κ n (v1 ||| 0) (v3 + 1) else f_X5_accepted_L9 k f_many A_isAccepted κ n (v1 ||| ((1 : Int64) <<< ((v3 : Int32).toInt64 &&& 63))) (v3 + 1)) := rfl
def f_X5_accepted (k : Nat) (f_thrown : Int32) (f_many : Int32) (A_isAccepted : Nat → Int32) : Option (Int64 × Int32) := f_X5_accepted_L9 k f_many A_isAccepted (fun (v1_4 : Int64) (v3_5 : Int32) => some (v1_4, 0)) k 0 0
abbrev rm_X5_accepted : Room := { frames := 0, cells := 0, slots := 0, locals := 0 }
set_option maxHeartbeats 4000000 in
set_option maxRecDepth 100000 in
theorem c_X5_accepted (l : Launch) (G : va_G) (cy : ClassId × ClassId × ClassId) (k : Nat) (aT aT_begins aT_ends aT_weights aT_isThere aT_rooms aT_isOffered aT_isAccepted aT_best aT_order aT_froms aT_tos aT_counts aT_points aT_flows aT_isUsed aT_gains aT_ways : Nat) (f_thrown : Int32) (f_many : Int32) (f_factor : Int32) (f_dropped : Int32) (f_pointMany : Int32) (A_isAccepted : Nat → Int32) {r : Int64} {wf_thrown : Int32} (hf : f_X5_accepted k f_thrown f_many A_isAccepted = some (r, wf_thrown)) : Cl l yX5_accepted wsX5_accepted rm_X5_accepted 0 0 G cy [.ref aT] [(aT, .inr (5, [.int f_thrown, .int f_many, .ref aT_begins, .ref aT_ends, .ref aT_weights, .ref aT_isThere, .ref aT_rooms, .int f_factor, .ref aT_isOffered, .ref aT_isAccepted, .int f_dropped, .ref aT_best, .ref aT_order, .ref aT_froms, .ref aT_tos, .ref aT_counts, .ref aT_points, .ref aT_flows, .ref aT_isUsed, .ref aT_gains, .ref aT_ways, .int f_pointMany])), (aT_isAccepted, .inl (cy.2.1, 40, .inl A_isAccepted))] [(aT, .inr (5, [.int wf_thrown, .int f_many, .ref aT_begins, .ref aT_ends, .ref aT_weights, .ref aT_isThere, .ref aT_rooms, .int f_factor, .ref aT_isOffered, .ref aT_isAccepted, .int f_dropped, .ref aT_best, .ref aT_order, .ref aT_froms, .ref aT_tos, .ref aT_counts, .ref aT_points, .ref aT_flows, .ref aT_isUsed, .ref aT_gains, .ref aT_ways, .int f_pointMany])), (aT_isAccepted, .inl (cy.2.1, 40, .inl A_isAccepted))] r := by
  refine kMetL (cc := cX5_accepted) (maxL := 4) (by decide) rfl (Nat.le_of_ble_eq_true rfl) ?_
  intro p e s m args below meth c Q A ls hx hb hml hts hown hv hl kret
  replace hown : s.vm.findClass RX5 = some m.cls := hown
  replace hl : lv_has ls 4 [(0, .ref aT)] := hl
  have hk66 : (Cond.fieldLink RX5 66 "RoomcolourModel" "thrown" "I").before args s = true := hts _ (by decide +kernel)
  have hinX5 : ∀ w ∈ wsX50, w ∈ wsX5_accepted := by decide +kernel
  have hk69 : (Cond.fieldLink RX5 69 "RoomcolourModel" "many" "I").before args s = true := hts _ (by decide +kernel)
  have hk33 : (Cond.fieldLink RX5 33 "RoomcolourModel" "isAccepted" "[Z").before args s = true := hts _ (by decide +kernel)
  have L9 : ∀ (f_thrown : Int32) (κ : Int64 → Int32 → Option (Int64 × Int32)) (n : Nat) (v1 : Int64) (v3 : Int32), f_X5_accepted_L9 k f_many A_isAccepted κ n v1 v3 = some (r, wf_thrown) → ∀ (H : Heap) (locs : List Loc) (ls : Array Slot), Hv s H locs G cy A [(aT, .inr (5, [.int f_thrown, .int f_many, .ref aT_begins, .ref aT_ends, .ref aT_weights, .ref aT_isThere, .ref aT_rooms, .int f_factor, .ref aT_isOffered, .ref aT_isAccepted, .int f_dropped, .ref aT_best, .ref aT_order, .ref aT_froms, .ref aT_tos, .ref aT_counts, .ref aT_points, .ref aT_flows, .ref aT_isUsed, .ref aT_gains, .ref aT_ways, .int f_pointMany])), (aT_isAccepted, .inl (cy.2.1, 40, .inl A_isAccepted))] → lv_has ls 4 [(0, .ref aT), (1, .long v1), (3, .int v3)] → (∀ (v1 : Int64) (v3 : Int32), κ v1 v3 = some (r, wf_thrown) → ∀ (H : Heap) (locs : List Loc) (ls : Array Slot), Hv s H locs G cy A [(aT, .inr (5, [.int f_thrown, .int f_many, .ref aT_begins, .ref aT_ends, .ref aT_weights, .ref aT_isThere, .ref aT_rooms, .int f_factor, .ref aT_isOffered, .ref aT_isAccepted, .int f_dropped, .ref aT_best, .ref aT_order, .ref aT_froms, .ref aT_tos, .ref aT_counts, .ref aT_points, .ref aT_flows, .ref aT_isUsed, .ref aT_gains, .ref aT_ways, .int f_pointMany])), (aT_isAccepted, .inl (cy.2.1, 40, .inl A_isAccepted))] → lv_has ls 4 [(1, .long v1)] → W p l e rm_X5_accepted s m args below meth c H locs 0 0 Q (F0 m 42 ls [])) → W p l e rm_X5_accepted s m args below meth c H locs 0 0 Q (F0 m 9 ls []) := by
    intro f_thrown κ n
    induction n with
    | zero =>
      intro v1 v3 hf
      rw [f_X5_accepted_L9_z] at hf
      cases hf
    | succ n ih =>
      intro v1 v3 hf H locs ls hv hl hκ
      rw [f_X5_accepted_L9_s] at hf
      refine lv_iload_n hx hb dX5_accepted_9 rfl (lv_at hl 2 rfl) ?_
      refine lv_aload_n hx hb dX5_accepted_10 rfl (lv_at hl 0 rfl) ?_
      refine kGet (v := .int f_many) (C := RX5) (T := TX5) (N := 22) hx hb hts hinX5 hown hv 0 rfl rfl 1 (by decide) hk69 (fun _ h9 => h9) rfl dX5_accepted_11 ?_
      refine lv_icmp_ge (tgt := 42) hx hb dX5_accepted_14 (by decide) (fun hc1 => ?_) (fun hc1 => ?_)
      · replace hf := ite_t hf hc1
        exact hκ v1 v3 hf _ _ _ hv (lv_sub hl [1] rfl)
      · replace hf := ite_f hf hc1
        refine lv_lload_n hx hb dX5_accepted_17 rfl (lv_at hl 1 rfl) ?_
        refine lv_aload_n hx hb dX5_accepted_18 rfl (lv_at hl 0 rfl) ?_
        refine kGet (v := .ref aT_isAccepted) (C := RX5) (T := TX5) (N := 22) hx hb hts hinX5 hown hv 0 rfl rfl 9 (by decide) hk33 (fun _ h9 => h9) rfl dX5_accepted_19 ?_
        refine lv_iload_n hx hb dX5_accepted_22 rfl (lv_at hl 2 rfl) ?_
        obtain ⟨hi2, hf⟩ := xi_some hf
        refine kZald hx hb hv 1 rfl hi2 dX5_accepted_23 ?_
        refine lv_if_eq (tgt := 33) hx hb dX5_accepted_24 (by decide) (fun hc3 => ?_) (fun hc3 => ?_)
        · replace hf := ite_t hf hc3
          refine lv_lconst (v := 0) hx hb dX5_accepted_33 (by decide) ?_
          refine lv_lor hx hb dX5_accepted_34 ?_
          refine lv_lstore_n (lv' := [(1, .long (v1 ||| 0)), (0, .ref aT), (3, .int v3)]) hx hb dX5_accepted_35 rfl hl (by decide) rfl (fun ls hl => ?_)
          refine lv_iinc (v := v3 + 1) (lv' := [(3, .int (v3 + 1)), (1, .long (v1 ||| 0)), (0, .ref aT)]) hx hb dX5_accepted_36 hl (k := 2) rfl rfl (by decide) rfl (fun ls hl => ?_)
          refine lv_goto (tgt := 9) hx hb dX5_accepted_39 (by decide) ?_
          exact ih (v1 ||| 0) (v3 + 1) hf _ _ _ hv (lv_sub hl [2, 1, 0] rfl) hκ
        · replace hf := ite_f hf hc3
          refine lv_lconst (v := 1) hx hb dX5_accepted_27 (by decide) ?_
          refine lv_iload_n hx hb dX5_accepted_28 rfl (lv_at hl 2 rfl) ?_
          refine lv_lshl hx hb dX5_accepted_29 rfl ?_
          refine lv_goto (tgt := 34) hx hb dX5_accepted_30 (by decide) ?_
          refine lv_lor hx hb dX5_accepted_34 ?_
          refine lv_lstore_n (lv' := [(1, .long (v1 ||| ((1 : Int64) <<< ((v3 : Int32).toInt64 &&& 63)))), (0, .ref aT), (3, .int v3)]) hx hb dX5_accepted_35 rfl hl (by decide) rfl (fun ls hl => ?_)
          refine lv_iinc (v := v3 + 1) (lv' := [(3, .int (v3 + 1)), (1, .long (v1 ||| ((1 : Int64) <<< ((v3 : Int32).toInt64 &&& 63)))), (0, .ref aT)]) hx hb dX5_accepted_36 hl (k := 2) rfl rfl (by decide) rfl (fun ls hl => ?_)
          refine lv_goto (tgt := 9) hx hb dX5_accepted_39 (by decide) ?_
          exact ih (v1 ||| ((1 : Int64) <<< ((v3 : Int32).toInt64 &&& 63))) (v3 + 1) hf _ _ _ hv (lv_sub hl [2, 1, 0] rfl) hκ
  unfold f_X5_accepted at hf
  refine lv_aload_n hx hb dX5_accepted_0 rfl (lv_at hl 0 rfl) ?_
  refine lv_iconst (v := 0) hx hb dX5_accepted_1 (by decide) ?_
  refine kPut (v := .int 0) (ty := .int) (C := RX5) (T := TX5) (N := 22) hx hb hts hinX5 tyX5 tyX5_ok nmX5 hown hv 0 rfl rfl 0 (by decide) hk66 (fun _ h9 => h9) rfl (by decide +kernel) rfl rfl (Nat.le_of_ble_eq_true rfl) dX5_accepted_2 (fun H locs hv => ?_)
  replace hv : Hv s H locs G cy A [(aT, .inr (5, [.int 0, .int f_many, .ref aT_begins, .ref aT_ends, .ref aT_weights, .ref aT_isThere, .ref aT_rooms, .int f_factor, .ref aT_isOffered, .ref aT_isAccepted, .int f_dropped, .ref aT_best, .ref aT_order, .ref aT_froms, .ref aT_tos, .ref aT_counts, .ref aT_points, .ref aT_flows, .ref aT_isUsed, .ref aT_gains, .ref aT_ways, .int f_pointMany])), (aT_isAccepted, .inl (cy.2.1, 40, .inl A_isAccepted))] := hv
  refine lv_lconst (v := 0) hx hb dX5_accepted_5 (by decide) ?_
  refine lv_lstore_n (lv' := [(1, .long 0), (0, .ref aT)]) hx hb dX5_accepted_6 rfl hl (by decide) rfl (fun ls hl => ?_)
  refine lv_iconst (v := 0) hx hb dX5_accepted_7 (by decide) ?_
  refine lv_istore_n (lv' := [(3, .int 0), (1, .long 0), (0, .ref aT)]) hx hb dX5_accepted_8 rfl hl (by decide) rfl (fun ls hl => ?_)
  refine L9 _ _ _ _ _ hf _ _ _ hv (lv_sub hl [2, 1, 0] rfl) (fun v1_4 v3_5 hf H locs ls hv hl => ?_)
  try dsimp only at hf
  refine lv_lload_n hx hb dX5_accepted_42 rfl (lv_at hl 0 rfl) ?_
  cases hf
  exact kret _ _ _ _ hv dX5_accepted_43

def f_X5_weightAccepted_L4 (k : Nat) (f_many : Int32) (A_weights : Nat → Int32) (A_isAccepted : Nat → Int32) (κ : Int32 → Int32 → Option (Int32)) : Nat → Int32 → Int32 → Option (Int32)
  | 0, _, _ => none
  | n + 1, v1, v2 => if f_many ≤ v2 then κ v1 v2 else xi v2 40 (if (A_isAccepted v2.toNatClampNeg) = 0 then f_X5_weightAccepted_L4 k f_many A_weights A_isAccepted κ n (v1 + 0) (v2 + 1) else xi v2 40 (f_X5_weightAccepted_L4 k f_many A_weights A_isAccepted κ n (v1 + (A_weights v2.toNatClampNeg)) (v2 + 1)))
theorem f_X5_weightAccepted_L4_z (k : Nat) (f_many : Int32) (A_weights : Nat → Int32) (A_isAccepted : Nat → Int32) (κ : Int32 → Int32 → Option (Int32)) (v1 : Int32) (v2 : Int32) : f_X5_weightAccepted_L4 k f_many A_weights A_isAccepted κ 0 v1 v2 = none := rfl
theorem f_X5_weightAccepted_L4_s (k : Nat) (f_many : Int32) (A_weights : Nat → Int32) (A_isAccepted : Nat → Int32) (κ : Int32 → Int32 → Option (Int32)) (n : Nat) (v1 : Int32) (v2 : Int32) : f_X5_weightAccepted_L4 k f_many A_weights A_isAccepted κ (n + 1) v1 v2 = if f_many ≤ v2 then κ v1 v2 else xi v2 40 (if (A_isAccepted v2.toNatClampNeg) = 0 then f_X5_weightAccepted_L4 k f_many A_weights A_isAccepted κ n (v1 + 0) (v2 + 1) else xi v2 40 (f_X5_weightAccepted_L4 k f_many A_weights A_isAccepted κ n (v1 + (A_weights v2.toNatClampNeg)) (v2 + 1))) := rfl
def f_X5_weightAccepted (k : Nat) (f_many : Int32) (A_weights : Nat → Int32) (A_isAccepted : Nat → Int32) : Option (Int32) := f_X5_weightAccepted_L4 k f_many A_weights A_isAccepted (fun (v1_5 : Int32) (v2_6 : Int32) => some v1_5) k 0 0
abbrev rm_X5_weightAccepted : Room := { frames := 0, cells := 0, slots := 0, locals := 0 }
set_option maxHeartbeats 4000000 in
set_option maxRecDepth 100000 in
theorem c_X5_weightAccepted (l : Launch) (G : va_G) (cy : ClassId × ClassId × ClassId) (k : Nat) (aT aT_begins aT_ends aT_weights aT_isThere aT_rooms aT_isOffered aT_isAccepted aT_best aT_order aT_froms aT_tos aT_counts aT_points aT_flows aT_isUsed aT_gains aT_ways : Nat) (f_thrown : Int32) (f_many : Int32) (f_factor : Int32) (f_dropped : Int32) (f_pointMany : Int32) (A_weights : Nat → Int32) (A_isAccepted : Nat → Int32) {r : Int32} (hf : f_X5_weightAccepted k f_many A_weights A_isAccepted = some r) : Ci l yX5_weightAccepted wsX5_weightAccepted rm_X5_weightAccepted 0 0 G cy [.ref aT] [(aT, .inr (5, [.int f_thrown, .int f_many, .ref aT_begins, .ref aT_ends, .ref aT_weights, .ref aT_isThere, .ref aT_rooms, .int f_factor, .ref aT_isOffered, .ref aT_isAccepted, .int f_dropped, .ref aT_best, .ref aT_order, .ref aT_froms, .ref aT_tos, .ref aT_counts, .ref aT_points, .ref aT_flows, .ref aT_isUsed, .ref aT_gains, .ref aT_ways, .int f_pointMany])), (aT_weights, .inl (cy.1, 40, .inl A_weights)), (aT_isAccepted, .inl (cy.2.1, 40, .inl A_isAccepted))] [(aT, .inr (5, [.int f_thrown, .int f_many, .ref aT_begins, .ref aT_ends, .ref aT_weights, .ref aT_isThere, .ref aT_rooms, .int f_factor, .ref aT_isOffered, .ref aT_isAccepted, .int f_dropped, .ref aT_best, .ref aT_order, .ref aT_froms, .ref aT_tos, .ref aT_counts, .ref aT_points, .ref aT_flows, .ref aT_isUsed, .ref aT_gains, .ref aT_ways, .int f_pointMany])), (aT_weights, .inl (cy.1, 40, .inl A_weights)), (aT_isAccepted, .inl (cy.2.1, 40, .inl A_isAccepted))] r := by
  refine kMetI (cc := cX5_weightAccepted) (maxL := 3) (by decide) rfl (Nat.le_of_ble_eq_true rfl) ?_
  intro p e s m args below meth c Q A ls hx hb hml hts hown hv hl kret
  replace hown : s.vm.findClass RX5 = some m.cls := hown
  replace hl : lv_has ls 3 [(0, .ref aT)] := hl
  have hk69 : (Cond.fieldLink RX5 69 "RoomcolourModel" "many" "I").before args s = true := hts _ (by decide +kernel)
  have hinX5 : ∀ w ∈ wsX50, w ∈ wsX5_weightAccepted := by decide +kernel
  have hk33 : (Cond.fieldLink RX5 33 "RoomcolourModel" "isAccepted" "[Z").before args s = true := hts _ (by decide +kernel)
  have hk16 : (Cond.fieldLink RX5 16 "RoomcolourModel" "weights" "[I").before args s = true := hts _ (by decide +kernel)
  have L4 : ∀ (κ : Int32 → Int32 → Option (Int32)) (n : Nat) (v1 : Int32) (v2 : Int32), f_X5_weightAccepted_L4 k f_many A_weights A_isAccepted κ n v1 v2 = some r → ∀ (H : Heap) (locs : List Loc) (ls : Array Slot), Hv s H locs G cy A [(aT, .inr (5, [.int f_thrown, .int f_many, .ref aT_begins, .ref aT_ends, .ref aT_weights, .ref aT_isThere, .ref aT_rooms, .int f_factor, .ref aT_isOffered, .ref aT_isAccepted, .int f_dropped, .ref aT_best, .ref aT_order, .ref aT_froms, .ref aT_tos, .ref aT_counts, .ref aT_points, .ref aT_flows, .ref aT_isUsed, .ref aT_gains, .ref aT_ways, .int f_pointMany])), (aT_weights, .inl (cy.1, 40, .inl A_weights)), (aT_isAccepted, .inl (cy.2.1, 40, .inl A_isAccepted))] → lv_has ls 3 [(0, .ref aT), (1, .int v1), (2, .int v2)] → (∀ (v1 : Int32) (v2 : Int32), κ v1 v2 = some r → ∀ (H : Heap) (locs : List Loc) (ls : Array Slot), Hv s H locs G cy A [(aT, .inr (5, [.int f_thrown, .int f_many, .ref aT_begins, .ref aT_ends, .ref aT_weights, .ref aT_isThere, .ref aT_rooms, .int f_factor, .ref aT_isOffered, .ref aT_isAccepted, .int f_dropped, .ref aT_best, .ref aT_order, .ref aT_froms, .ref aT_tos, .ref aT_counts, .ref aT_points, .ref aT_flows, .ref aT_isUsed, .ref aT_gains, .ref aT_ways, .int f_pointMany])), (aT_weights, .inl (cy.1, 40, .inl A_weights)), (aT_isAccepted, .inl (cy.2.1, 40, .inl A_isAccepted))] → lv_has ls 3 [(1, .int v1)] → W p l e rm_X5_weightAccepted s m args below meth c H locs 0 0 Q (F0 m 40 ls [])) → W p l e rm_X5_weightAccepted s m args below meth c H locs 0 0 Q (F0 m 4 ls []) := by
    intro κ n
    induction n with
    | zero =>
      intro v1 v2 hf
      rw [f_X5_weightAccepted_L4_z] at hf
      cases hf
    | succ n ih =>
      intro v1 v2 hf H locs ls hv hl hκ
      rw [f_X5_weightAccepted_L4_s] at hf
      refine lv_iload_n hx hb dX5_weightAccepted_4 rfl (lv_at hl 2 rfl) ?_
      refine lv_aload_n hx hb dX5_weightAccepted_5 rfl (lv_at hl 0 rfl) ?_
      refine kGet (v := .int f_many) (C := RX5) (T := TX5) (N := 22) hx hb hts hinX5 hown hv 0 rfl rfl 1 (by decide) hk69 (fun _ h9 => h9) rfl dX5_weightAccepted_6 ?_
      refine lv_icmp_ge (tgt := 40) hx hb dX5_weightAccepted_9 (by decide) (fun hc1 => ?_) (fun hc1 => ?_)
      · replace hf := ite_t hf hc1
        exact hκ v1 v2 hf _ _ _ hv (lv_sub hl [1] rfl)
      · replace hf := ite_f hf hc1
        refine lv_iload_n hx hb dX5_weightAccepted_12 rfl (lv_at hl 1 rfl) ?_
        refine lv_aload_n hx hb dX5_weightAccepted_13 rfl (lv_at hl 0 rfl) ?_
        refine kGet (v := .ref aT_isAccepted) (C := RX5) (T := TX5) (N := 22) hx hb hts hinX5 hown hv 0 rfl rfl 9 (by decide) hk33 (fun _ h9 => h9) rfl dX5_weightAccepted_14 ?_
        refine lv_iload_n hx hb dX5_weightAccepted_17 rfl (lv_at hl 2 rfl) ?_
        obtain ⟨hi2, hf⟩ := xi_some hf
        refine kZald hx hb hv 2 rfl hi2 dX5_weightAccepted_18 ?_
        refine lv_if_eq (tgt := 31) hx hb dX5_weightAccepted_19 (by decide) (fun hc3 => ?_) (fun hc3 => ?_)
        · replace hf := ite_t hf hc3
          refine lv_iconst (v := 0) hx hb dX5_weightAccepted_31 (by decide) ?_
          refine lv_iadd hx hb dX5_weightAccepted_32 ?_
          refine lv_istore_n (lv' := [(1, .int (v1 + 0)), (0, .ref aT), (2, .int v2)]) hx hb dX5_weightAccepted_33 rfl hl (by decide) rfl (fun ls hl => ?_)
          refine lv_iinc (v := v2 + 1) (lv' := [(2, .int (v2 + 1)), (1, .int (v1 + 0)), (0, .ref aT)]) hx hb dX5_weightAccepted_34 hl (k := 2) rfl rfl (by decide) rfl (fun ls hl => ?_)
          refine lv_goto (tgt := 4) hx hb dX5_weightAccepted_37 (by decide) ?_
          exact ih (v1 + 0) (v2 + 1) hf _ _ _ hv (lv_sub hl [2, 1, 0] rfl) hκ
        · replace hf := ite_f hf hc3
          refine lv_aload_n hx hb dX5_weightAccepted_22 rfl (lv_at hl 0 rfl) ?_
          refine kGet (v := .ref aT_weights) (C := RX5) (T := TX5) (N := 22) hx hb hts hinX5 hown hv 0 rfl rfl 4 (by decide) hk16 (fun _ h9 => h9) rfl dX5_weightAccepted_23 ?_
          refine lv_iload_n hx hb dX5_weightAccepted_26 rfl (lv_at hl 2 rfl) ?_
          obtain ⟨hi4, hf⟩ := xi_some hf
          refine kIald hx hb hv 1 rfl hi4 dX5_weightAccepted_27 ?_
          refine lv_goto (tgt := 32) hx hb dX5_weightAccepted_28 (by decide) ?_
          refine lv_iadd hx hb dX5_weightAccepted_32 ?_
          refine lv_istore_n (lv' := [(1, .int (v1 + (A_weights v2.toNatClampNeg))), (0, .ref aT), (2, .int v2)]) hx hb dX5_weightAccepted_33 rfl hl (by decide) rfl (fun ls hl => ?_)
          refine lv_iinc (v := v2 + 1) (lv' := [(2, .int (v2 + 1)), (1, .int (v1 + (A_weights v2.toNatClampNeg))), (0, .ref aT)]) hx hb dX5_weightAccepted_34 hl (k := 2) rfl rfl (by decide) rfl (fun ls hl => ?_)
          refine lv_goto (tgt := 4) hx hb dX5_weightAccepted_37 (by decide) ?_
          exact ih (v1 + (A_weights v2.toNatClampNeg)) (v2 + 1) hf _ _ _ hv (lv_sub hl [2, 1, 0] rfl) hκ
  unfold f_X5_weightAccepted at hf
  refine lv_iconst (v := 0) hx hb dX5_weightAccepted_0 (by decide) ?_
  refine lv_istore_n (lv' := [(1, .int 0), (0, .ref aT)]) hx hb dX5_weightAccepted_1 rfl hl (by decide) rfl (fun ls hl => ?_)
  refine lv_iconst (v := 0) hx hb dX5_weightAccepted_2 (by decide) ?_
  refine lv_istore_n (lv' := [(2, .int 0), (1, .int 0), (0, .ref aT)]) hx hb dX5_weightAccepted_3 rfl hl (by decide) rfl (fun ls hl => ?_)
  refine L4 _ _ _ _ hf _ _ _ hv (lv_sub hl [2, 1, 0] rfl) (fun v1_5 v2_6 hf H locs ls hv hl => ?_)
  try dsimp only at hf
  refine lv_iload_n hx hb dX5_weightAccepted_40 rfl (lv_at hl 0 rfl) ?_
  cases hf
  exact kret _ _ _ _ hv dX5_weightAccepted_41

def f_X5_acceptedWeight (k : Nat) (f_thrown : Int32) (f_many : Int32) (A_weights : Nat → Int32) (A_isAccepted : Nat → Int32) : Option (Int32 × Int32) := xb (f_X5_weightAccepted k f_many A_weights A_isAccepted) (fun r1 => some (r1, 0))
abbrev rm_X5_acceptedWeight : Room := { frames := 1, cells := 0, slots := 0, locals := 22 }
set_option maxHeartbeats 4000000 in
set_option maxRecDepth 100000 in
theorem c_X5_acceptedWeight (l : Launch) (G : va_G) (cy : ClassId × ClassId × ClassId) (k : Nat) (aT aT_begins aT_ends aT_weights aT_isThere aT_rooms aT_isOffered aT_isAccepted aT_best aT_order aT_froms aT_tos aT_counts aT_points aT_flows aT_isUsed aT_gains aT_ways : Nat) (f_thrown : Int32) (f_many : Int32) (f_factor : Int32) (f_dropped : Int32) (f_pointMany : Int32) (A_weights : Nat → Int32) (A_isAccepted : Nat → Int32) {r : Int32} {wf_thrown : Int32} (hf : f_X5_acceptedWeight k f_thrown f_many A_weights A_isAccepted = some (r, wf_thrown)) : Ci l yX5_acceptedWeight wsX5_acceptedWeight rm_X5_acceptedWeight 0 0 G cy [.ref aT] [(aT, .inr (5, [.int f_thrown, .int f_many, .ref aT_begins, .ref aT_ends, .ref aT_weights, .ref aT_isThere, .ref aT_rooms, .int f_factor, .ref aT_isOffered, .ref aT_isAccepted, .int f_dropped, .ref aT_best, .ref aT_order, .ref aT_froms, .ref aT_tos, .ref aT_counts, .ref aT_points, .ref aT_flows, .ref aT_isUsed, .ref aT_gains, .ref aT_ways, .int f_pointMany])), (aT_weights, .inl (cy.1, 40, .inl A_weights)), (aT_isAccepted, .inl (cy.2.1, 40, .inl A_isAccepted))] [(aT, .inr (5, [.int wf_thrown, .int f_many, .ref aT_begins, .ref aT_ends, .ref aT_weights, .ref aT_isThere, .ref aT_rooms, .int f_factor, .ref aT_isOffered, .ref aT_isAccepted, .int f_dropped, .ref aT_best, .ref aT_order, .ref aT_froms, .ref aT_tos, .ref aT_counts, .ref aT_points, .ref aT_flows, .ref aT_isUsed, .ref aT_gains, .ref aT_ways, .int f_pointMany])), (aT_weights, .inl (cy.1, 40, .inl A_weights)), (aT_isAccepted, .inl (cy.2.1, 40, .inl A_isAccepted))] r := by
  refine kMetI (cc := cX5_acceptedWeight) (maxL := 1) (by decide) rfl (Nat.le_of_ble_eq_true rfl) ?_
  intro p e s m args below meth c Q A ls hx hb hml hts hown hv hl kret
  replace hown : s.vm.findClass RX5 = some m.cls := hown
  replace hl : lv_has ls 1 [(0, .ref aT)] := hl
  have hk66 : (Cond.fieldLink RX5 66 "RoomcolourModel" "thrown" "I").before args s = true := hts _ (by decide +kernel)
  have hinX5 : ∀ w ∈ wsX50, w ∈ wsX5_acceptedWeight := by decide +kernel
  unfold f_X5_acceptedWeight at hf
  refine lv_aload_n hx hb dX5_acceptedWeight_0 rfl (lv_at hl 0 rfl) ?_
  refine lv_iconst (v := 0) hx hb dX5_acceptedWeight_1 (by decide) ?_
  refine kPut (v := .int 0) (ty := .int) (C := RX5) (T := TX5) (N := 22) hx hb hts hinX5 tyX5 tyX5_ok nmX5 hown hv 0 rfl rfl 0 (by decide) hk66 (fun _ h9 => h9) rfl (by decide +kernel) rfl rfl (Nat.le_of_ble_eq_true rfl) dX5_acceptedWeight_2 (fun H locs hv => ?_)
  replace hv : Hv s H locs G cy A [(aT, .inr (5, [.int 0, .int f_many, .ref aT_begins, .ref aT_ends, .ref aT_weights, .ref aT_isThere, .ref aT_rooms, .int f_factor, .ref aT_isOffered, .ref aT_isAccepted, .int f_dropped, .ref aT_best, .ref aT_order, .ref aT_froms, .ref aT_tos, .ref aT_counts, .ref aT_points, .ref aT_flows, .ref aT_isUsed, .ref aT_gains, .ref aT_ways, .int f_pointMany])), (aT_weights, .inl (cy.1, 40, .inl A_weights)), (aT_isAccepted, .inl (cy.2.1, 40, .inl A_isAccepted))] := hv
  refine lv_aload_n hx hb dX5_acceptedWeight_5 rfl (lv_at hl 0 rfl) ?_
  obtain ⟨r1, hcl2, hf⟩ := xb_some hf
  refine kV_i (r := r1) (wr := []) (w2 := [(aT, .inr (5, [.int 0, .int f_many, .ref aT_begins, .ref aT_ends, .ref aT_weights, .ref aT_isThere, .ref aT_rooms, .int f_factor, .ref aT_isOffered, .ref aT_isAccepted, .int f_dropped, .ref aT_best, .ref aT_order, .ref aT_froms, .ref aT_tos, .ref aT_counts, .ref aT_points, .ref aT_flows, .ref aT_isUsed, .ref aT_gains, .ref aT_ways, .int f_pointMany])), (aT_weights, .inl (cy.1, 40, .inl A_weights)), (aT_isAccepted, .inl (cy.2.1, 40, .inl A_isAccepted))]) ⟨hx, hb, hml, hown, hts⟩ (c_X5_weightAccepted l G cy k aT aT_begins aT_ends aT_weights aT_isThere aT_rooms aT_isOffered aT_isAccepted aT_best aT_order aT_froms aT_tos aT_counts aT_points aT_flows aT_isUsed aT_gains aT_ways 0 f_many f_factor f_dropped f_pointMany A_weights A_isAccepted hcl2) (cwV 0 hts gX5_acceptedWeight_X5_weightAccepted rfl rfl rfl (by decide +kernel) ⟨Nat.le_of_ble_eq_true rfl, Nat.le_of_ble_eq_true rfl⟩) hv (isC := [0, 1, 2]) ⟨rfl, rfl⟩ (hv.recv 5 0 rfl rfl) [] [0, 1, 2] rfl rfl (by decide) rfl rfl rfl hl.1 rfl (Nat.le_of_ble_eq_true rfl) dX5_acceptedWeight_6 ⟨Nat.le_of_ble_eq_true rfl, Nat.le_of_ble_eq_true rfl⟩ (fun H locs hv => ?_)
  cases hf
  exact kret _ _ _ _ hv dX5_acceptedWeight_9

def f_X5_in (k : Nat) (p0 : Int32) (p1 : Int32) (p2 : Int32) : Option (Int32) := if p0 < p1 then some 0 else if p2 < p0 then some 0 else some 1
abbrev rm_X5_in : Room := { frames := 0, cells := 0, slots := 0, locals := 0 }
set_option maxHeartbeats 4000000 in
set_option maxRecDepth 100000 in
theorem c_X5_in (l : Launch) (G : va_G) (cy : ClassId × ClassId × ClassId) (k : Nat) (p0 : Int32) (p1 : Int32) (p2 : Int32) {r : Int32} (hf : f_X5_in k p0 p1 p2 = some r) : Ci l yX5_in wsX5_in rm_X5_in 0 0 G cy [.int p0, .int p1, .int p2] [] [] r := by
  refine kMetZ (cc := cX5_in) (maxL := 3) (by decide) rfl (Nat.le_of_ble_eq_true rfl) ?_
  intro p e s m args below meth c Q A ls hx hb hml hts hown hv hl kret
  replace hown : s.vm.findClass RX5 = some m.cls := hown
  replace hl : lv_has ls 3 [(0, .int p0), (1, .int p1), (2, .int p2)] := hl
  unfold f_X5_in at hf
  refine lv_iload_n hx hb dX5_in_0 rfl (lv_at hl 0 rfl) ?_
  refine lv_iload_n hx hb dX5_in_1 rfl (lv_at hl 1 rfl) ?_
  refine lv_icmp_lt (tgt := 14) hx hb dX5_in_2 (by decide) (fun hc1 => ?_) (fun hc1 => ?_)
  · replace hf := ite_t hf hc1
    refine lv_iconst (v := 0) hx hb dX5_in_14 (by decide) ?_
    cases hf
    exact kret _ _ _ _ hv dX5_in_15 rfl
  · replace hf := ite_f hf hc1
    refine lv_iload_n hx hb dX5_in_5 rfl (lv_at hl 0 rfl) ?_
    refine lv_iload_n hx hb dX5_in_6 rfl (lv_at hl 2 rfl) ?_
    refine lv_icmp_gt (tgt := 14) hx hb dX5_in_7 (by decide) (fun hc2 => ?_) (fun hc2 => ?_)
    · replace hf := ite_t hf hc2
      refine lv_iconst (v := 0) hx hb dX5_in_14 (by decide) ?_
      cases hf
      exact kret _ _ _ _ hv dX5_in_15 rfl
    · replace hf := ite_f hf hc2
      refine lv_iconst (v := 1) hx hb dX5_in_10 (by decide) ?_
      refine lv_goto (tgt := 15) hx hb dX5_in_11 (by decide) ?_
      cases hf
      exact kret _ _ _ _ hv dX5_in_15 rfl

def f_X5_goesWell (k : Nat) (p1 : Int32) (f_thrown : Int32) : Option (Int32 × Int32) := if p1 = 0 then some (1, p1) else some (0, p1)
abbrev rm_X5_goesWell : Room := { frames := 0, cells := 0, slots := 0, locals := 0 }
set_option maxHeartbeats 4000000 in
set_option maxRecDepth 100000 in
theorem c_X5_goesWell (l : Launch) (G : va_G) (cy : ClassId × ClassId × ClassId) (k : Nat) (aT aT_begins aT_ends aT_weights aT_isThere aT_rooms aT_isOffered aT_isAccepted aT_best aT_order aT_froms aT_tos aT_counts aT_points aT_flows aT_isUsed aT_gains aT_ways : Nat) (f_thrown : Int32) (f_many : Int32) (f_factor : Int32) (f_dropped : Int32) (f_pointMany : Int32) (p1 : Int32) {r : Int32} {wf_thrown : Int32} (hf : f_X5_goesWell k p1 f_thrown = some (r, wf_thrown)) : Ci l yX5_goesWell wsX5_goesWell rm_X5_goesWell 0 0 G cy [.ref aT, .int p1] [(aT, .inr (5, [.int f_thrown, .int f_many, .ref aT_begins, .ref aT_ends, .ref aT_weights, .ref aT_isThere, .ref aT_rooms, .int f_factor, .ref aT_isOffered, .ref aT_isAccepted, .int f_dropped, .ref aT_best, .ref aT_order, .ref aT_froms, .ref aT_tos, .ref aT_counts, .ref aT_points, .ref aT_flows, .ref aT_isUsed, .ref aT_gains, .ref aT_ways, .int f_pointMany]))] [(aT, .inr (5, [.int wf_thrown, .int f_many, .ref aT_begins, .ref aT_ends, .ref aT_weights, .ref aT_isThere, .ref aT_rooms, .int f_factor, .ref aT_isOffered, .ref aT_isAccepted, .int f_dropped, .ref aT_best, .ref aT_order, .ref aT_froms, .ref aT_tos, .ref aT_counts, .ref aT_points, .ref aT_flows, .ref aT_isUsed, .ref aT_gains, .ref aT_ways, .int f_pointMany]))] r := by
  refine kMetZ (cc := cX5_goesWell) (maxL := 2) (by decide) rfl (Nat.le_of_ble_eq_true rfl) ?_
  intro p e s m args below meth c Q A ls hx hb hml hts hown hv hl kret
  replace hown : s.vm.findClass RX5 = some m.cls := hown
  replace hl : lv_has ls 2 [(0, .ref aT), (1, .int p1)] := hl
  have hk66 : (Cond.fieldLink RX5 66 "RoomcolourModel" "thrown" "I").before args s = true := hts _ (by decide +kernel)
  have hinX5 : ∀ w ∈ wsX50, w ∈ wsX5_goesWell := by decide +kernel
  unfold f_X5_goesWell at hf
  refine lv_aload_n hx hb dX5_goesWell_0 rfl (lv_at hl 0 rfl) ?_
  refine lv_iload_n hx hb dX5_goesWell_1 rfl (lv_at hl 1 rfl) ?_
  refine kPut (v := .int p1) (ty := .int) (C := RX5) (T := TX5) (N := 22) hx hb hts hinX5 tyX5 tyX5_ok nmX5 hown hv 0 rfl rfl 0 (by decide) hk66 (fun _ h9 => h9) rfl (by decide +kernel) rfl rfl (Nat.le_of_ble_eq_true rfl) dX5_goesWell_2 (fun H locs hv => ?_)
  replace hv : Hv s H locs G cy A [(aT, .inr (5, [.int p1, .int f_many, .ref aT_begins, .ref aT_ends, .ref aT_weights, .ref aT_isThere, .ref aT_rooms, .int f_factor, .ref aT_isOffered, .ref aT_isAccepted, .int f_dropped, .ref aT_best, .ref aT_order, .ref aT_froms, .ref aT_tos, .ref aT_counts, .ref aT_points, .ref aT_flows, .ref aT_isUsed, .ref aT_gains, .ref aT_ways, .int f_pointMany]))] := hv
  refine lv_iload_n hx hb dX5_goesWell_5 rfl (lv_at hl 1 rfl) ?_
  refine lv_if_ne (tgt := 13) hx hb dX5_goesWell_6 (by decide) (fun hc1 => ?_) (fun hc1 => ?_)
  · replace hf := ite_f hf hc1
    refine lv_iconst (v := 0) hx hb dX5_goesWell_13 (by decide) ?_
    cases hf
    exact kret _ _ _ _ hv dX5_goesWell_14 rfl
  · replace hf := ite_t hf hc1
    refine lv_iconst (v := 1) hx hb dX5_goesWell_9 (by decide) ?_
    refine lv_goto (tgt := 14) hx hb dX5_goesWell_10 (by decide) ?_
    cases hf
    exact kret _ _ _ _ hv dX5_goesWell_14 rfl

def f_X5_add (k : Nat) (p1 : Int32) (p2 : Int32) (p3 : Int32) (f_thrown : Int32) (f_many : Int32) (A_begins : Nat → Int32) (A_ends : Nat → Int32) (A_weights : Nat → Int32) (A_isThere : Nat → Int32) : Option (Int32 × Int32 × Int32 × (Nat → Int32) × (Nat → Int32) × (Nat → Int32) × (Nat → Int32)) := xb (f_X5_in k p1 0 999) (fun r1 => xj (fun (x5 : Int32) => xj (fun (x8 : Int32) => xb (f_X5_goesWell k x8 f_thrown) (fun (r9, f_thrown_10) => if r9 = 0 then some (0, f_thrown_10, f_many, A_begins, A_ends, A_weights, A_isThere) else xi f_many 40 (xi f_many 40 (xi f_many 40 (xi f_many 40 (some ((f_many + 1) - 1, f_thrown_10, f_many + 1, upd A_begins f_many.toNatClampNeg p1, upd A_ends f_many.toNatClampNeg p2, upd A_weights f_many.toNatClampNeg p3, upd A_isThere f_many.toNatClampNeg (vp_nar .boolean 1)))))))) (fun (j65_7 : Int32 → Option (Int32 × Int32 × Int32 × (Nat → Int32) × (Nat → Int32) × (Nat → Int32) × (Nat → Int32))) => if x5 = 0 then j65_7 1 else if f_many = 40 then j65_7 2 else j65_7 0)) (fun (j39_4 : Int32 → Option (Int32 × Int32 × Int32 × (Nat → Int32) × (Nat → Int32) × (Nat → Int32) × (Nat → Int32))) => xj (fun (_ : Unit) => j39_4 0) (fun (j38_18 : Unit → Option (Int32 × Int32 × Int32 × (Nat → Int32) × (Nat → Int32) × (Nat → Int32) × (Nat → Int32))) => if r1 = 0 then j38_18 () else if p2 ≤ p1 then j38_18 () else if (1000 : Int32) < p2 then j38_18 () else xb (f_X5_in k p3 1 1000) (fun r21 => if r21 = 0 then j38_18 () else j39_4 1))))
abbrev rm_X5_add : Room := { frames := 1, cells := 0, slots := 0, locals := 22 }
set_option maxHeartbeats 4000000 in
set_option maxRecDepth 100000 in
theorem c_X5_add (l : Launch) (G : va_G) (cy : ClassId × ClassId × ClassId) (k : Nat) (aT aT_begins aT_ends aT_weights aT_isThere aT_rooms aT_isOffered aT_isAccepted aT_best aT_order aT_froms aT_tos aT_counts aT_points aT_flows aT_isUsed aT_gains aT_ways : Nat) (f_thrown : Int32) (f_many : Int32) (f_factor : Int32) (f_dropped : Int32) (f_pointMany : Int32) (A_begins : Nat → Int32) (A_ends : Nat → Int32) (A_weights : Nat → Int32) (A_isThere : Nat → Int32) (p1 : Int32) (p2 : Int32) (p3 : Int32) {r : Int32} {wf_thrown : Int32} {wf_many : Int32} {wA_begins : Nat → Int32} {wA_ends : Nat → Int32} {wA_weights : Nat → Int32} {wA_isThere : Nat → Int32} (hf : f_X5_add k p1 p2 p3 f_thrown f_many A_begins A_ends A_weights A_isThere = some (r, wf_thrown, wf_many, wA_begins, wA_ends, wA_weights, wA_isThere)) : Ci l yX5_add wsX5_add rm_X5_add 0 0 G cy [.ref aT, .int p1, .int p2, .int p3] [(aT, .inr (5, [.int f_thrown, .int f_many, .ref aT_begins, .ref aT_ends, .ref aT_weights, .ref aT_isThere, .ref aT_rooms, .int f_factor, .ref aT_isOffered, .ref aT_isAccepted, .int f_dropped, .ref aT_best, .ref aT_order, .ref aT_froms, .ref aT_tos, .ref aT_counts, .ref aT_points, .ref aT_flows, .ref aT_isUsed, .ref aT_gains, .ref aT_ways, .int f_pointMany])), (aT_begins, .inl (cy.1, 40, .inl A_begins)), (aT_ends, .inl (cy.1, 40, .inl A_ends)), (aT_weights, .inl (cy.1, 40, .inl A_weights)), (aT_isThere, .inl (cy.2.1, 40, .inl A_isThere))] [(aT, .inr (5, [.int wf_thrown, .int wf_many, .ref aT_begins, .ref aT_ends, .ref aT_weights, .ref aT_isThere, .ref aT_rooms, .int f_factor, .ref aT_isOffered, .ref aT_isAccepted, .int f_dropped, .ref aT_best, .ref aT_order, .ref aT_froms, .ref aT_tos, .ref aT_counts, .ref aT_points, .ref aT_flows, .ref aT_isUsed, .ref aT_gains, .ref aT_ways, .int f_pointMany])), (aT_begins, .inl (cy.1, 40, .inl wA_begins)), (aT_ends, .inl (cy.1, 40, .inl wA_ends)), (aT_weights, .inl (cy.1, 40, .inl wA_weights)), (aT_isThere, .inl (cy.2.1, 40, .inl wA_isThere))] r := by
  refine kMetI (cc := cX5_add) (maxL := 5) (by decide) rfl (Nat.le_of_ble_eq_true rfl) ?_
  intro p e s m args below meth c Q A ls hx hb hml hts hown hv hl kret
  replace hown : s.vm.findClass RX5 = some m.cls := hown
  replace hl : lv_has ls 5 [(0, .ref aT), (1, .int p1), (2, .int p2), (3, .int p3)] := hl
  have hk7 : (Cond.fieldLink RX5 7 "RoomcolourModel" "begins" "[I").before args s = true := hts _ (by decide +kernel)
  have hinX5 : ∀ w ∈ wsX50, w ∈ wsX5_add := by decide +kernel
  have hk69 : (Cond.fieldLink RX5 69 "RoomcolourModel" "many" "I").before args s = true := hts _ (by decide +kernel)
  have hk13 : (Cond.fieldLink RX5 13 "RoomcolourModel" "ends" "[I").before args s = true := hts _ (by decide +kernel)
  have hk16 : (Cond.fieldLink RX5 16 "RoomcolourModel" "weights" "[I").before args s = true := hts _ (by decide +kernel)
  have hk19 : (Cond.fieldLink RX5 19 "RoomcolourModel" "isThere" "[Z").before args s = true := hts _ (by decide +kernel)
  unfold f_X5_add at hf
  refine lv_iload_n hx hb dX5_add_0 rfl (lv_at hl 1 rfl) ?_
  refine lv_iconst (v := 0) hx hb dX5_add_1 (by decide) ?_
  refine lv_sipush (v := 999) hx hb dX5_add_2 (by decide) ?_
  obtain ⟨r1, hcl2, hf⟩ := xb_some hf
  refine kS_i (r := r1) ⟨hx, hb, hml, hown, hts⟩ (c_X5_in l G cy k p1 0 999 hcl2) (va_cwS 3 hts gX5_add_X5_in rfl rfl rfl (by decide +kernel) ⟨Nat.le_of_ble_eq_true rfl, Nat.le_of_ble_eq_true rfl⟩) hv rfl hl.1 rfl (Nat.le_of_ble_eq_true rfl) dX5_add_5 ⟨Nat.le_of_ble_eq_true rfl, Nat.le_of_ble_eq_true rfl⟩ (fun H locs hv => ?_)
  refine xj_elim hf (fun j39_4 ej39_4 hf => ?_)
  have J39_4 : ∀ (x5 : Int32), j39_4 x5 = some (r, wf_thrown, wf_many, wA_begins, wA_ends, wA_weights, wA_isThere) → ∀ (H : Heap) (locs : List Loc) (ls : Array Slot), Hv s H locs G cy A [(aT, .inr (5, [.int f_thrown, .int f_many, .ref aT_begins, .ref aT_ends, .ref aT_weights, .ref aT_isThere, .ref aT_rooms, .int f_factor, .ref aT_isOffered, .ref aT_isAccepted, .int f_dropped, .ref aT_best, .ref aT_order, .ref aT_froms, .ref aT_tos, .ref aT_counts, .ref aT_points, .ref aT_flows, .ref aT_isUsed, .ref aT_gains, .ref aT_ways, .int f_pointMany])), (aT_begins, .inl (cy.1, 40, .inl A_begins)), (aT_ends, .inl (cy.1, 40, .inl A_ends)), (aT_weights, .inl (cy.1, 40, .inl A_weights)), (aT_isThere, .inl (cy.2.1, 40, .inl A_isThere))] → lv_has ls 5 [(0, .ref aT), (1, .int p1), (2, .int p2), (3, .int p3)] → W p l e rm_X5_add s m args below meth c H locs 0 0 Q (F0 m 39 ls [.int x5]) := by
    intro x5 hf H locs ls hv hl
    rw [ej39_4] at hf
    try dsimp only at hf
    refine lv_istore (lv' := [(4, .int x5), (0, .ref aT), (1, .int p1), (2, .int p2), (3, .int p3)]) hx hb dX5_add_39 hl (by decide) rfl (fun ls hl => ?_)
    refine lv_aload_n hx hb dX5_add_41 rfl (lv_at hl 1 rfl) ?_
    refine lv_iload hx hb dX5_add_42 (lv_at hl 0 rfl) ?_
    refine xj_elim hf (fun j65_7 ej65_7 hf => ?_)
    have J65_7 : ∀ (x8 : Int32), j65_7 x8 = some (r, wf_thrown, wf_many, wA_begins, wA_ends, wA_weights, wA_isThere) → ∀ (H : Heap) (locs : List Loc) (ls : Array Slot), Hv s H locs G cy A [(aT, .inr (5, [.int f_thrown, .int f_many, .ref aT_begins, .ref aT_ends, .ref aT_weights, .ref aT_isThere, .ref aT_rooms, .int f_factor, .ref aT_isOffered, .ref aT_isAccepted, .int f_dropped, .ref aT_best, .ref aT_order, .ref aT_froms, .ref aT_tos, .ref aT_counts, .ref aT_points, .ref aT_flows, .ref aT_isUsed, .ref aT_gains, .ref aT_ways, .int f_pointMany])), (aT_begins, .inl (cy.1, 40, .inl A_begins)), (aT_ends, .inl (cy.1, 40, .inl A_ends)), (aT_weights, .inl (cy.1, 40, .inl A_weights)), (aT_isThere, .inl (cy.2.1, 40, .inl A_isThere))] → lv_has ls 5 [(0, .ref aT), (1, .int p1), (2, .int p2), (3, .int p3)] → W p l e rm_X5_add s m args below meth c H locs 0 0 Q (F0 m 65 ls [.int x8, .ref aT]) := by
      intro x8 hf H locs ls hv hl
      rw [ej65_7] at hf
      try dsimp only at hf
      obtain ⟨⟨r9, f_thrown_10⟩, hcl11, hf⟩ := xb_some hf
      dsimp only at hf
      refine kV_i (r := r9) (wr := [(aT_begins, .inl (cy.1, 40, .inl A_begins)), (aT_ends, .inl (cy.1, 40, .inl A_ends)), (aT_weights, .inl (cy.1, 40, .inl A_weights)), (aT_isThere, .inl (cy.2.1, 40, .inl A_isThere))]) (w2 := [(aT, .inr (5, [.int f_thrown_10, .int f_many, .ref aT_begins, .ref aT_ends, .ref aT_weights, .ref aT_isThere, .ref aT_rooms, .int f_factor, .ref aT_isOffered, .ref aT_isAccepted, .int f_dropped, .ref aT_best, .ref aT_order, .ref aT_froms, .ref aT_tos, .ref aT_counts, .ref aT_points, .ref aT_flows, .ref aT_isUsed, .ref aT_gains, .ref aT_ways, .int f_pointMany])), (aT_begins, .inl (cy.1, 40, .inl A_begins)), (aT_ends, .inl (cy.1, 40, .inl A_ends)), (aT_weights, .inl (cy.1, 40, .inl A_weights)), (aT_isThere, .inl (cy.2.1, 40, .inl A_isThere))]) ⟨hx, hb, hml, hown, hts⟩ (c_X5_goesWell l G cy k aT aT_begins aT_ends aT_weights aT_isThere aT_rooms aT_isOffered aT_isAccepted aT_best aT_order aT_froms aT_tos aT_counts aT_points aT_flows aT_isUsed aT_gains aT_ways f_thrown f_many f_factor f_dropped f_pointMany x8 hcl11) (cwV 1 hts gX5_add_X5_goesWell rfl rfl rfl (by decide +kernel) ⟨Nat.le_of_ble_eq_true rfl, Nat.le_of_ble_eq_true rfl⟩) hv (isC := [0]) ⟨rfl, rfl⟩ (hv.recv 5 0 rfl rfl) [1, 2, 3, 4] [4, 0, 1, 2, 3] rfl rfl (by decide) rfl rfl rfl hl.1 rfl (Nat.le_of_ble_eq_true rfl) dX5_add_65 ⟨Nat.le_of_ble_eq_true rfl, Nat.le_of_ble_eq_true rfl⟩ (fun H locs hv => ?_)
      refine lv_if_ne (tgt := 73) hx hb dX5_add_68 (by decide) (fun hc12 => ?_) (fun hc12 => ?_)
      · replace hf := ite_f hf hc12
        refine lv_aload_n hx hb dX5_add_73 rfl (lv_at hl 0 rfl) ?_
        refine kGet (v := .ref aT_begins) (C := RX5) (T := TX5) (N := 22) hx hb hts hinX5 hown hv 0 rfl rfl 2 (by decide) hk7 (fun _ h9 => h9) rfl dX5_add_74 ?_
        refine lv_aload_n hx hb dX5_add_77 rfl (lv_at hl 0 rfl) ?_
        refine kGet (v := .int f_many) (C := RX5) (T := TX5) (N := 22) hx hb hts hinX5 hown hv 0 rfl rfl 1 (by decide) hk69 (fun _ h9 => h9) rfl dX5_add_78 ?_
        refine lv_iload_n hx hb dX5_add_81 rfl (lv_at hl 1 rfl) ?_
        obtain ⟨hi13, hf⟩ := xi_some hf
        refine kIast hx hb hv 1 rfl hi13 dX5_add_82 (fun H locs hv => ?_)
        replace hv : Hv s H locs G cy A [(aT, .inr (5, [.int f_thrown_10, .int f_many, .ref aT_begins, .ref aT_ends, .ref aT_weights, .ref aT_isThere, .ref aT_rooms, .int f_factor, .ref aT_isOffered, .ref aT_isAccepted, .int f_dropped, .ref aT_best, .ref aT_order, .ref aT_froms, .ref aT_tos, .ref aT_counts, .ref aT_points, .ref aT_flows, .ref aT_isUsed, .ref aT_gains, .ref aT_ways, .int f_pointMany])), (aT_begins, .inl (cy.1, 40, .inl (upd A_begins f_many.toNatClampNeg p1))), (aT_ends, .inl (cy.1, 40, .inl A_ends)), (aT_weights, .inl (cy.1, 40, .inl A_weights)), (aT_isThere, .inl (cy.2.1, 40, .inl A_isThere))] := hv
        refine lv_aload_n hx hb dX5_add_83 rfl (lv_at hl 0 rfl) ?_
        refine kGet (v := .ref aT_ends) (C := RX5) (T := TX5) (N := 22) hx hb hts hinX5 hown hv 0 rfl rfl 3 (by decide) hk13 (fun _ h9 => h9) rfl dX5_add_84 ?_
        refine lv_aload_n hx hb dX5_add_87 rfl (lv_at hl 0 rfl) ?_
        refine kGet (v := .int f_many) (C := RX5) (T := TX5) (N := 22) hx hb hts hinX5 hown hv 0 rfl rfl 1 (by decide) hk69 (fun _ h9 => h9) rfl dX5_add_88 ?_
        refine lv_iload_n hx hb dX5_add_91 rfl (lv_at hl 2 rfl) ?_
        obtain ⟨hi14, hf⟩ := xi_some hf
        refine kIast hx hb hv 2 rfl hi14 dX5_add_92 (fun H locs hv => ?_)
        replace hv : Hv s H locs G cy A [(aT, .inr (5, [.int f_thrown_10, .int f_many, .ref aT_begins, .ref aT_ends, .ref aT_weights, .ref aT_isThere, .ref aT_rooms, .int f_factor, .ref aT_isOffered, .ref aT_isAccepted, .int f_dropped, .ref aT_best, .ref aT_order, .ref aT_froms, .ref aT_tos, .ref aT_counts, .ref aT_points, .ref aT_flows, .ref aT_isUsed, .ref aT_gains, .ref aT_ways, .int f_pointMany])), (aT_begins, .inl (cy.1, 40, .inl (upd A_begins f_many.toNatClampNeg p1))), (aT_ends, .inl (cy.1, 40, .inl (upd A_ends f_many.toNatClampNeg p2))), (aT_weights, .inl (cy.1, 40, .inl A_weights)), (aT_isThere, .inl (cy.2.1, 40, .inl A_isThere))] := hv
        refine lv_aload_n hx hb dX5_add_93 rfl (lv_at hl 0 rfl) ?_
        refine kGet (v := .ref aT_weights) (C := RX5) (T := TX5) (N := 22) hx hb hts hinX5 hown hv 0 rfl rfl 4 (by decide) hk16 (fun _ h9 => h9) rfl dX5_add_94 ?_
        refine lv_aload_n hx hb dX5_add_97 rfl (lv_at hl 0 rfl) ?_
        refine kGet (v := .int f_many) (C := RX5) (T := TX5) (N := 22) hx hb hts hinX5 hown hv 0 rfl rfl 1 (by decide) hk69 (fun _ h9 => h9) rfl dX5_add_98 ?_
        refine lv_iload_n hx hb dX5_add_101 rfl (lv_at hl 3 rfl) ?_
        obtain ⟨hi15, hf⟩ := xi_some hf
        refine kIast hx hb hv 3 rfl hi15 dX5_add_102 (fun H locs hv => ?_)
        replace hv : Hv s H locs G cy A [(aT, .inr (5, [.int f_thrown_10, .int f_many, .ref aT_begins, .ref aT_ends, .ref aT_weights, .ref aT_isThere, .ref aT_rooms, .int f_factor, .ref aT_isOffered, .ref aT_isAccepted, .int f_dropped, .ref aT_best, .ref aT_order, .ref aT_froms, .ref aT_tos, .ref aT_counts, .ref aT_points, .ref aT_flows, .ref aT_isUsed, .ref aT_gains, .ref aT_ways, .int f_pointMany])), (aT_begins, .inl (cy.1, 40, .inl (upd A_begins f_many.toNatClampNeg p1))), (aT_ends, .inl (cy.1, 40, .inl (upd A_ends f_many.toNatClampNeg p2))), (aT_weights, .inl (cy.1, 40, .inl (upd A_weights f_many.toNatClampNeg p3))), (aT_isThere, .inl (cy.2.1, 40, .inl A_isThere))] := hv
        refine lv_aload_n hx hb dX5_add_103 rfl (lv_at hl 0 rfl) ?_
        refine kGet (v := .ref aT_isThere) (C := RX5) (T := TX5) (N := 22) hx hb hts hinX5 hown hv 0 rfl rfl 5 (by decide) hk19 (fun _ h9 => h9) rfl dX5_add_104 ?_
        refine lv_aload_n hx hb dX5_add_107 rfl (lv_at hl 0 rfl) ?_
        refine kGet (v := .int f_many) (C := RX5) (T := TX5) (N := 22) hx hb hts hinX5 hown hv 0 rfl rfl 1 (by decide) hk69 (fun _ h9 => h9) rfl dX5_add_108 ?_
        refine lv_iconst (v := 1) hx hb dX5_add_111 (by decide) ?_
        obtain ⟨hi16, hf⟩ := xi_some hf
        refine kZast hx hb hv 4 rfl hi16 dX5_add_112 (fun H locs hv => ?_)
        replace hv : Hv s H locs G cy A [(aT, .inr (5, [.int f_thrown_10, .int f_many, .ref aT_begins, .ref aT_ends, .ref aT_weights, .ref aT_isThere, .ref aT_rooms, .int f_factor, .ref aT_isOffered, .ref aT_isAccepted, .int f_dropped, .ref aT_best, .ref aT_order, .ref aT_froms, .ref aT_tos, .ref aT_counts, .ref aT_points, .ref aT_flows, .ref aT_isUsed, .ref aT_gains, .ref aT_ways, .int f_pointMany])), (aT_begins, .inl (cy.1, 40, .inl (upd A_begins f_many.toNatClampNeg p1))), (aT_ends, .inl (cy.1, 40, .inl (upd A_ends f_many.toNatClampNeg p2))), (aT_weights, .inl (cy.1, 40, .inl (upd A_weights f_many.toNatClampNeg p3))), (aT_isThere, .inl (cy.2.1, 40, .inl (upd A_isThere f_many.toNatClampNeg (vp_nar .boolean 1))))] := hv
        refine lv_aload_n hx hb dX5_add_113 rfl (lv_at hl 0 rfl) ?_
        refine lv_dup hx hb dX5_add_114 rfl ?_
        refine kGet (v := .int f_many) (C := RX5) (T := TX5) (N := 22) hx hb hts hinX5 hown hv 0 rfl rfl 1 (by decide) hk69 (fun _ h9 => h9) rfl dX5_add_115 ?_
        refine lv_iconst (v := 1) hx hb dX5_add_118 (by decide) ?_
        refine lv_iadd hx hb dX5_add_119 ?_
        refine kPut (v := .int (f_many + 1)) (ty := .int) (C := RX5) (T := TX5) (N := 22) hx hb hts hinX5 tyX5 tyX5_ok nmX5 hown hv 0 rfl rfl 1 (by decide) hk69 (fun _ h9 => h9) rfl (by decide +kernel) rfl rfl (Nat.le_of_ble_eq_true rfl) dX5_add_120 (fun H locs hv => ?_)
        replace hv : Hv s H locs G cy A [(aT, .inr (5, [.int f_thrown_10, .int (f_many + 1), .ref aT_begins, .ref aT_ends, .ref aT_weights, .ref aT_isThere, .ref aT_rooms, .int f_factor, .ref aT_isOffered, .ref aT_isAccepted, .int f_dropped, .ref aT_best, .ref aT_order, .ref aT_froms, .ref aT_tos, .ref aT_counts, .ref aT_points, .ref aT_flows, .ref aT_isUsed, .ref aT_gains, .ref aT_ways, .int f_pointMany])), (aT_begins, .inl (cy.1, 40, .inl (upd A_begins f_many.toNatClampNeg p1))), (aT_ends, .inl (cy.1, 40, .inl (upd A_ends f_many.toNatClampNeg p2))), (aT_weights, .inl (cy.1, 40, .inl (upd A_weights f_many.toNatClampNeg p3))), (aT_isThere, .inl (cy.2.1, 40, .inl (upd A_isThere f_many.toNatClampNeg (vp_nar .boolean 1))))] := hv
        refine lv_aload_n hx hb dX5_add_123 rfl (lv_at hl 0 rfl) ?_
        refine kGet (v := .int (f_many + 1)) (C := RX5) (T := TX5) (N := 22) hx hb hts hinX5 hown hv 0 rfl rfl 1 (by decide) hk69 (fun _ h9 => h9) rfl dX5_add_124 ?_
        refine lv_iconst (v := 1) hx hb dX5_add_127 (by decide) ?_
        refine lv_isub hx hb dX5_add_128 ?_
        cases hf
        exact kret _ _ _ _ hv dX5_add_129
      · replace hf := ite_t hf hc12
        refine lv_iconst (v := 0) hx hb dX5_add_71 (by decide) ?_
        cases hf
        exact kret _ _ _ _ hv dX5_add_72
    refine lv_if_ne (tgt := 51) hx hb dX5_add_44 (by decide) (fun hc6 => ?_) (fun hc6 => ?_)
    · replace hf := ite_f hf hc6
      refine lv_aload_n hx hb dX5_add_51 rfl (lv_at hl 1 rfl) ?_
      refine kGet (v := .int f_many) (C := RX5) (T := TX5) (N := 22) hx hb hts hinX5 hown hv 0 rfl rfl 1 (by decide) hk69 (fun _ h9 => h9) rfl dX5_add_52 ?_
      refine lv_bipush (v := 40) hx hb dX5_add_55 (by decide) ?_
      refine lv_icmp_ne (tgt := 64) hx hb dX5_add_57 (by decide) (fun hc17 => ?_) (fun hc17 => ?_)
      · replace hf := ite_f hf hc17
        refine lv_iconst (v := 0) hx hb dX5_add_64 (by decide) ?_
        exact J65_7 0 hf _ _ _ hv (lv_sub hl [1, 2, 3, 4] rfl)
      · replace hf := ite_t hf hc17
        refine lv_iconst (v := 2) hx hb dX5_add_60 (by decide) ?_
        refine lv_goto (tgt := 65) hx hb dX5_add_61 (by decide) ?_
        exact J65_7 2 hf _ _ _ hv (lv_sub hl [1, 2, 3, 4] rfl)
    · replace hf := ite_t hf hc6
      refine lv_iconst (v := 1) hx hb dX5_add_47 (by decide) ?_
      refine lv_goto (tgt := 65) hx hb dX5_add_48 (by decide) ?_
      exact J65_7 1 hf _ _ _ hv (lv_sub hl [1, 2, 3, 4] rfl)
  refine xj_elim hf (fun j38_18 ej38_18 hf => ?_)
  have J38_18 : ∀ (u : Unit), j38_18 u = some (r, wf_thrown, wf_many, wA_begins, wA_ends, wA_weights, wA_isThere) → ∀ (H : Heap) (locs : List Loc) (ls : Array Slot), Hv s H locs G cy A [(aT, .inr (5, [.int f_thrown, .int f_many, .ref aT_begins, .ref aT_ends, .ref aT_weights, .ref aT_isThere, .ref aT_rooms, .int f_factor, .ref aT_isOffered, .ref aT_isAccepted, .int f_dropped, .ref aT_best, .ref aT_order, .ref aT_froms, .ref aT_tos, .ref aT_counts, .ref aT_points, .ref aT_flows, .ref aT_isUsed, .ref aT_gains, .ref aT_ways, .int f_pointMany])), (aT_begins, .inl (cy.1, 40, .inl A_begins)), (aT_ends, .inl (cy.1, 40, .inl A_ends)), (aT_weights, .inl (cy.1, 40, .inl A_weights)), (aT_isThere, .inl (cy.2.1, 40, .inl A_isThere))] → lv_has ls 5 [(0, .ref aT), (1, .int p1), (2, .int p2), (3, .int p3)] → W p l e rm_X5_add s m args below meth c H locs 0 0 Q (F0 m 38 ls []) := by
    intro u hf H locs ls hv hl
    rw [ej38_18] at hf
    try dsimp only at hf
    refine lv_iconst (v := 0) hx hb dX5_add_38 (by decide) ?_
    exact J39_4 0 hf _ _ _ hv (lv_sub hl [0, 1, 2, 3] rfl)
  refine lv_if_eq (tgt := 38) hx hb dX5_add_8 (by decide) (fun hc3 => ?_) (fun hc3 => ?_)
  · replace hf := ite_t hf hc3
    exact J38_18 () hf _ _ _ hv (lv_sub hl [0, 1, 2, 3] rfl)
  · replace hf := ite_f hf hc3
    refine lv_iload_n hx hb dX5_add_11 rfl (lv_at hl 2 rfl) ?_
    refine lv_iload_n hx hb dX5_add_12 rfl (lv_at hl 1 rfl) ?_
    refine lv_icmp_le (tgt := 38) hx hb dX5_add_13 (by decide) (fun hc19 => ?_) (fun hc19 => ?_)
    · replace hf := ite_t hf hc19
      exact J38_18 () hf _ _ _ hv (lv_sub hl [0, 1, 2, 3] rfl)
    · replace hf := ite_f hf hc19
      refine lv_iload_n hx hb dX5_add_16 rfl (lv_at hl 2 rfl) ?_
      refine lv_sipush (v := 1000) hx hb dX5_add_17 (by decide) ?_
      refine lv_icmp_gt (tgt := 38) hx hb dX5_add_20 (by decide) (fun hc20 => ?_) (fun hc20 => ?_)
      · replace hf := ite_t hf hc20
        exact J38_18 () hf _ _ _ hv (lv_sub hl [0, 1, 2, 3] rfl)
      · replace hf := ite_f hf hc20
        refine lv_iload_n hx hb dX5_add_23 rfl (lv_at hl 3 rfl) ?_
        refine lv_iconst (v := 1) hx hb dX5_add_24 (by decide) ?_
        refine lv_sipush (v := 1000) hx hb dX5_add_25 (by decide) ?_
        obtain ⟨r21, hcl22, hf⟩ := xb_some hf
        refine kS_i (r := r21) ⟨hx, hb, hml, hown, hts⟩ (c_X5_in l G cy k p3 1 1000 hcl22) (va_cwS 3 hts gX5_add_X5_in rfl rfl rfl (by decide +kernel) ⟨Nat.le_of_ble_eq_true rfl, Nat.le_of_ble_eq_true rfl⟩) hv rfl hl.1 rfl (Nat.le_of_ble_eq_true rfl) dX5_add_28 ⟨Nat.le_of_ble_eq_true rfl, Nat.le_of_ble_eq_true rfl⟩ (fun H locs hv => ?_)
        refine lv_if_eq (tgt := 38) hx hb dX5_add_31 (by decide) (fun hc23 => ?_) (fun hc23 => ?_)
        · replace hf := ite_t hf hc23
          exact J38_18 () hf _ _ _ hv (lv_sub hl [0, 1, 2, 3] rfl)
        · replace hf := ite_f hf hc23
          refine lv_iconst (v := 1) hx hb dX5_add_34 (by decide) ?_
          refine lv_goto (tgt := 39) hx hb dX5_add_35 (by decide) ?_
          exact J39_4 1 hf _ _ _ hv (lv_sub hl [0, 1, 2, 3] rfl)

def f_X5_plan_L30 (k : Nat) (v1 : Int32) (v2 : Int32) (f_many : Int32) (A_weights : Nat → Int32) (A_froms : Nat → Int32) (A_tos : Nat → Int32) (A_counts : Nat → Int32) (κ : Int32 → (Nat → Int32) → Option (Int32 × (Nat → Int32))) : Nat → Int32 → (Nat → Int32) → Option (Int32 × (Nat → Int32))
  | 0, _, _ => none
  | n + 1, v3, A_best => if f_many ≤ v3 then κ v3 A_best else xi v3 40 (if (A_counts v3.toNatClampNeg) = 0 then f_X5_plan_L30 k v1 v2 f_many A_weights A_froms A_tos A_counts κ n (v3 + 1) A_best else xi v3 40 (if (A_tos v3.toNatClampNeg) = v2 then xi v3 40 (xi (A_froms v3.toNatClampNeg) 1001 (xi v3 40 (xi v2 1001 (if ((A_best (A_froms v3.toNatClampNeg).toNatClampNeg) + (A_weights v3.toNatClampNeg)) ≤ (A_best v2.toNatClampNeg) then f_X5_plan_L30 k v1 v2 f_many A_weights A_froms A_tos A_counts κ n (v3 + 1) A_best else xi v3 40 (xi (A_froms v3.toNatClampNeg) 1001 (xi v3 40 (xi v2 1001 (f_X5_plan_L30 k v1 v2 f_many A_weights A_froms A_tos A_counts κ n (v3 + 1) (upd A_best v2.toNatClampNeg ((A_best (A_froms v3.toNatClampNeg).toNatClampNeg) + (A_weights v3.toNatClampNeg))))))))))) else f_X5_plan_L30 k v1 v2 f_many A_weights A_froms A_tos A_counts κ n (v3 + 1) A_best))
theorem f_X5_plan_L30_z (k : Nat) (v1 : Int32) (v2 : Int32) (f_many : Int32) (A_weights : Nat → Int32) (A_froms : Nat → Int32) (A_tos : Nat → Int32) (A_counts : Nat → Int32) (κ : Int32 → (Nat → Int32) → Option (Int32 × (Nat → Int32))) (v3 : Int32) (A_best : Nat → Int32) : f_X5_plan_L30 k v1 v2 f_many A_weights A_froms A_tos A_counts κ 0 v3 A_best = none := rfl
theorem f_X5_plan_L30_s (k : Nat) (v1 : Int32) (v2 : Int32) (f_many : Int32) (A_weights : Nat → Int32) (A_froms : Nat → Int32) (A_tos : Nat → Int32) (A_counts : Nat → Int32) (κ : Int32 → (Nat → Int32) → Option (Int32 × (Nat → Int32))) (n : Nat) (v3 : Int32) (A_best : Nat → Int32) : f_X5_plan_L30 k v1 v2 f_many A_weights A_froms A_tos A_counts κ (n + 1) v3 A_best = if f_many ≤ v3 then κ v3 A_best else xi v3 40 (if (A_counts v3.toNatClampNeg) = 0 then f_X5_plan_L30 k v1 v2 f_many A_weights A_froms A_tos A_counts κ n (v3 + 1) A_best else xi v3 40 (if (A_tos v3.toNatClampNeg) = v2 then xi v3 40 (xi (A_froms v3.toNatClampNeg) 1001 (xi v3 40 (xi v2 1001 (if ((A_best (A_froms v3.toNatClampNeg).toNatClampNeg) + (A_weights v3.toNatClampNeg)) ≤ (A_best v2.toNatClampNeg) then f_X5_plan_L30 k v1 v2 f_many A_weights A_froms A_tos A_counts κ n (v3 + 1) A_best else xi v3 40 (xi (A_froms v3.toNatClampNeg) 1001 (xi v3 40 (xi v2 1001 (f_X5_plan_L30 k v1 v2 f_many A_weights A_froms A_tos A_counts κ n (v3 + 1) (upd A_best v2.toNatClampNeg ((A_best (A_froms v3.toNatClampNeg).toNatClampNeg) + (A_weights v3.toNatClampNeg))))))))))) else f_X5_plan_L30 k v1 v2 f_many A_weights A_froms A_tos A_counts κ n (v3 + 1) A_best)) := rfl
def f_X5_plan_L9 (k : Nat) (v1 : Int32) (f_many : Int32) (A_weights : Nat → Int32) (A_froms : Nat → Int32) (A_tos : Nat → Int32) (A_counts : Nat → Int32) (κ : Int32 → (Nat → Int32) → Option (Int32 × (Nat → Int32))) : Nat → Int32 → (Nat → Int32) → Option (Int32 × (Nat → Int32))
  | 0, _, _ => none
  | n + 1, v2, A_best => if v1 < v2 then κ v2 A_best else xi (v2 - 1) 1001 (xi v2 1001 (f_X5_plan_L30 k v1 v2 f_many A_weights A_froms A_tos A_counts (fun (v3_19 : Int32) (A_best_20 : Nat → Int32) => f_X5_plan_L9 k v1 f_many A_weights A_froms A_tos A_counts κ n (v2 + 1) A_best_20) k 0 (upd A_best v2.toNatClampNeg (A_best (v2 - 1).toNatClampNeg))))
theorem f_X5_plan_L9_z (k : Nat) (v1 : Int32) (f_many : Int32) (A_weights : Nat → Int32) (A_froms : Nat → Int32) (A_tos : Nat → Int32) (A_counts : Nat → Int32) (κ : Int32 → (Nat → Int32) → Option (Int32 × (Nat → Int32))) (v2 : Int32) (A_best : Nat → Int32) : f_X5_plan_L9 k v1 f_many A_weights A_froms A_tos A_counts κ 0 v2 A_best = none := rfl
theorem f_X5_plan_L9_s (k : Nat) (v1 : Int32) (f_many : Int32) (A_weights : Nat → Int32) (A_froms : Nat → Int32) (A_tos : Nat → Int32) (A_counts : Nat → Int32) (κ : Int32 → (Nat → Int32) → Option (Int32 × (Nat → Int32))) (n : Nat) (v2 : Int32) (A_best : Nat → Int32) : f_X5_plan_L9 k v1 f_many A_weights A_froms A_tos A_counts κ (n + 1) v2 A_best = if v1 < v2 then κ v2 A_best else xi (v2 - 1) 1001 (xi v2 1001 (f_X5_plan_L30 k v1 v2 f_many A_weights A_froms A_tos A_counts (fun (v3_19 : Int32) (A_best_20 : Nat → Int32) => f_X5_plan_L9 k v1 f_many A_weights A_froms A_tos A_counts κ n (v2 + 1) A_best_20) k 0 (upd A_best v2.toNatClampNeg (A_best (v2 - 1).toNatClampNeg)))) := rfl
def f_X5_plan (k : Nat) (p1 : Int32) (f_many : Int32) (A_weights : Nat → Int32) (A_best : Nat → Int32) (A_froms : Nat → Int32) (A_tos : Nat → Int32) (A_counts : Nat → Int32) : Option (Int32 × (Nat → Int32)) := xi (0 : Int32) 1001 (f_X5_plan_L9 k p1 f_many A_weights A_froms A_tos A_counts (fun (v2_21 : Int32) (A_best_22 : Nat → Int32) => xi p1 1001 (some (A_best_22 p1.toNatClampNeg, A_best_22))) k 1 (upd A_best (0 : Int32).toNatClampNeg 0))
abbrev rm_X5_plan : Room := { frames := 0, cells := 0, slots := 0, locals := 0 }
set_option maxHeartbeats 4000000 in
set_option maxRecDepth 100000 in
theorem c_X5_plan (l : Launch) (G : va_G) (cy : ClassId × ClassId × ClassId) (k : Nat) (aT aT_begins aT_ends aT_weights aT_isThere aT_rooms aT_isOffered aT_isAccepted aT_best aT_order aT_froms aT_tos aT_counts aT_points aT_flows aT_isUsed aT_gains aT_ways : Nat) (f_thrown : Int32) (f_many : Int32) (f_factor : Int32) (f_dropped : Int32) (f_pointMany : Int32) (A_weights : Nat → Int32) (A_best : Nat → Int32) (A_froms : Nat → Int32) (A_tos : Nat → Int32) (A_counts : Nat → Int32) (p1 : Int32) {r : Int32} {wA_best : Nat → Int32} (hf : f_X5_plan k p1 f_many A_weights A_best A_froms A_tos A_counts = some (r, wA_best)) : Ci l yX5_plan wsX5_plan rm_X5_plan 0 0 G cy [.ref aT, .int p1] [(aT, .inr (5, [.int f_thrown, .int f_many, .ref aT_begins, .ref aT_ends, .ref aT_weights, .ref aT_isThere, .ref aT_rooms, .int f_factor, .ref aT_isOffered, .ref aT_isAccepted, .int f_dropped, .ref aT_best, .ref aT_order, .ref aT_froms, .ref aT_tos, .ref aT_counts, .ref aT_points, .ref aT_flows, .ref aT_isUsed, .ref aT_gains, .ref aT_ways, .int f_pointMany])), (aT_weights, .inl (cy.1, 40, .inl A_weights)), (aT_best, .inl (cy.1, 1001, .inl A_best)), (aT_froms, .inl (cy.1, 40, .inl A_froms)), (aT_tos, .inl (cy.1, 40, .inl A_tos)), (aT_counts, .inl (cy.2.1, 40, .inl A_counts))] [(aT, .inr (5, [.int f_thrown, .int f_many, .ref aT_begins, .ref aT_ends, .ref aT_weights, .ref aT_isThere, .ref aT_rooms, .int f_factor, .ref aT_isOffered, .ref aT_isAccepted, .int f_dropped, .ref aT_best, .ref aT_order, .ref aT_froms, .ref aT_tos, .ref aT_counts, .ref aT_points, .ref aT_flows, .ref aT_isUsed, .ref aT_gains, .ref aT_ways, .int f_pointMany])), (aT_weights, .inl (cy.1, 40, .inl A_weights)), (aT_best, .inl (cy.1, 1001, .inl wA_best)), (aT_froms, .inl (cy.1, 40, .inl A_froms)), (aT_tos, .inl (cy.1, 40, .inl A_tos)), (aT_counts, .inl (cy.2.1, 40, .inl A_counts))] r := by
  refine kMetI (cc := cX5_plan) (maxL := 4) (by decide) rfl (Nat.le_of_ble_eq_true rfl) ?_
  intro p e s m args below meth c Q A ls hx hb hml hts hown hv hl kret
  replace hown : s.vm.findClass RX5 = some m.cls := hown
  replace hl : lv_has ls 4 [(0, .ref aT), (1, .int p1)] := hl
  have hk36 : (Cond.fieldLink RX5 36 "RoomcolourModel" "best" "[I").before args s = true := hts _ (by decide +kernel)
  have hinX5 : ∀ w ∈ wsX50, w ∈ wsX5_plan := by decide +kernel
  have hk69 : (Cond.fieldLink RX5 69 "RoomcolourModel" "many" "I").before args s = true := hts _ (by decide +kernel)
  have hk48 : (Cond.fieldLink RX5 48 "RoomcolourModel" "counts" "[Z").before args s = true := hts _ (by decide +kernel)
  have hk45 : (Cond.fieldLink RX5 45 "RoomcolourModel" "tos" "[I").before args s = true := hts _ (by decide +kernel)
  have hk42 : (Cond.fieldLink RX5 42 "RoomcolourModel" "froms" "[I").before args s = true := hts _ (by decide +kernel)
  have hk16 : (Cond.fieldLink RX5 16 "RoomcolourModel" "weights" "[I").before args s = true := hts _ (by decide +kernel)
  have L30 : ∀ (v1 : Int32) (v2 : Int32) (κ : Int32 → (Nat → Int32) → Option (Int32 × (Nat → Int32))) (n : Nat) (v3 : Int32) (A_best : Nat → Int32), f_X5_plan_L30 k v1 v2 f_many A_weights A_froms A_tos A_counts κ n v3 A_best = some (r, wA_best) → ∀ (H : Heap) (locs : List Loc) (ls : Array Slot), Hv s H locs G cy A [(aT, .inr (5, [.int f_thrown, .int f_many, .ref aT_begins, .ref aT_ends, .ref aT_weights, .ref aT_isThere, .ref aT_rooms, .int f_factor, .ref aT_isOffered, .ref aT_isAccepted, .int f_dropped, .ref aT_best, .ref aT_order, .ref aT_froms, .ref aT_tos, .ref aT_counts, .ref aT_points, .ref aT_flows, .ref aT_isUsed, .ref aT_gains, .ref aT_ways, .int f_pointMany])), (aT_weights, .inl (cy.1, 40, .inl A_weights)), (aT_best, .inl (cy.1, 1001, .inl A_best)), (aT_froms, .inl (cy.1, 40, .inl A_froms)), (aT_tos, .inl (cy.1, 40, .inl A_tos)), (aT_counts, .inl (cy.2.1, 40, .inl A_counts))] → lv_has ls 4 [(0, .ref aT), (1, .int v1), (2, .int v2), (3, .int v3)] → (∀ (v3 : Int32) (A_best : Nat → Int32), κ v3 A_best = some (r, wA_best) → ∀ (H : Heap) (locs : List Loc) (ls : Array Slot), Hv s H locs G cy A [(aT, .inr (5, [.int f_thrown, .int f_many, .ref aT_begins, .ref aT_ends, .ref aT_weights, .ref aT_isThere, .ref aT_rooms, .int f_factor, .ref aT_isOffered, .ref aT_isAccepted, .int f_dropped, .ref aT_best, .ref aT_order, .ref aT_froms, .ref aT_tos, .ref aT_counts, .ref aT_points, .ref aT_flows, .ref aT_isUsed, .ref aT_gains, .ref aT_ways, .int f_pointMany])), (aT_weights, .inl (cy.1, 40, .inl A_weights)), (aT_best, .inl (cy.1, 1001, .inl A_best)), (aT_froms, .inl (cy.1, 40, .inl A_froms)), (aT_tos, .inl (cy.1, 40, .inl A_tos)), (aT_counts, .inl (cy.2.1, 40, .inl A_counts))] → lv_has ls 4 [(0, .ref aT), (1, .int v1), (2, .int v2)] → W p l e rm_X5_plan s m args below meth c H locs 0 0 Q (F0 m 114 ls [])) → W p l e rm_X5_plan s m args below meth c H locs 0 0 Q (F0 m 30 ls []) := by
    intro v1 v2 κ n
    induction n with
    | zero =>
      intro v3 A_best hf
      rw [f_X5_plan_L30_z] at hf
      cases hf
    | succ n ih =>
      intro v3 A_best hf H locs ls hv hl hκ
      rw [f_X5_plan_L30_s] at hf
      refine lv_iload_n hx hb dX5_plan_30 rfl (lv_at hl 3 rfl) ?_
      refine lv_aload_n hx hb dX5_plan_31 rfl (lv_at hl 0 rfl) ?_
      refine kGet (v := .int f_many) (C := RX5) (T := TX5) (N := 22) hx hb hts hinX5 hown hv 0 rfl rfl 1 (by decide) hk69 (fun _ h9 => h9) rfl dX5_plan_32 ?_
      refine lv_icmp_ge (tgt := 114) hx hb dX5_plan_35 (by decide) (fun hc5 => ?_) (fun hc5 => ?_)
      · replace hf := ite_t hf hc5
        exact hκ v3 A_best hf _ _ _ hv (lv_sub hl [0, 1, 2] rfl)
      · replace hf := ite_f hf hc5
        refine lv_aload_n hx hb dX5_plan_38 rfl (lv_at hl 0 rfl) ?_
        refine kGet (v := .ref aT_counts) (C := RX5) (T := TX5) (N := 22) hx hb hts hinX5 hown hv 0 rfl rfl 15 (by decide) hk48 (fun _ h9 => h9) rfl dX5_plan_39 ?_
        refine lv_iload_n hx hb dX5_plan_42 rfl (lv_at hl 3 rfl) ?_
        obtain ⟨hi6, hf⟩ := xi_some hf
        refine kZald hx hb hv 5 rfl hi6 dX5_plan_43 ?_
        refine lv_if_eq (tgt := 108) hx hb dX5_plan_44 (by decide) (fun hc7 => ?_) (fun hc7 => ?_)
        · replace hf := ite_t hf hc7
          refine lv_iinc (v := v3 + 1) (lv' := [(3, .int (v3 + 1)), (0, .ref aT), (1, .int v1), (2, .int v2)]) hx hb dX5_plan_108 hl (k := 3) rfl rfl (by decide) rfl (fun ls hl => ?_)
          refine lv_goto (tgt := 30) hx hb dX5_plan_111 (by decide) ?_
          exact ih (v3 + 1) A_best hf _ _ _ hv (lv_sub hl [1, 2, 3, 0] rfl) hκ
        · replace hf := ite_f hf hc7
          refine lv_aload_n hx hb dX5_plan_47 rfl (lv_at hl 0 rfl) ?_
          refine kGet (v := .ref aT_tos) (C := RX5) (T := TX5) (N := 22) hx hb hts hinX5 hown hv 0 rfl rfl 14 (by decide) hk45 (fun _ h9 => h9) rfl dX5_plan_48 ?_
          refine lv_iload_n hx hb dX5_plan_51 rfl (lv_at hl 3 rfl) ?_
          obtain ⟨hi8, hf⟩ := xi_some hf
          refine kIald hx hb hv 4 rfl hi8 dX5_plan_52 ?_
          refine lv_iload_n hx hb dX5_plan_53 rfl (lv_at hl 2 rfl) ?_
          refine lv_icmp_ne (tgt := 108) hx hb dX5_plan_54 (by decide) (fun hc9 => ?_) (fun hc9 => ?_)
          · replace hf := ite_f hf hc9
            refine lv_iinc (v := v3 + 1) (lv' := [(3, .int (v3 + 1)), (0, .ref aT), (1, .int v1), (2, .int v2)]) hx hb dX5_plan_108 hl (k := 3) rfl rfl (by decide) rfl (fun ls hl => ?_)
            refine lv_goto (tgt := 30) hx hb dX5_plan_111 (by decide) ?_
            exact ih (v3 + 1) A_best hf _ _ _ hv (lv_sub hl [1, 2, 3, 0] rfl) hκ
          · replace hf := ite_t hf hc9
            refine lv_aload_n hx hb dX5_plan_57 rfl (lv_at hl 0 rfl) ?_
            refine kGet (v := .ref aT_best) (C := RX5) (T := TX5) (N := 22) hx hb hts hinX5 hown hv 0 rfl rfl 11 (by decide) hk36 (fun _ h9 => h9) rfl dX5_plan_58 ?_
            refine lv_aload_n hx hb dX5_plan_61 rfl (lv_at hl 0 rfl) ?_
            refine kGet (v := .ref aT_froms) (C := RX5) (T := TX5) (N := 22) hx hb hts hinX5 hown hv 0 rfl rfl 13 (by decide) hk42 (fun _ h9 => h9) rfl dX5_plan_62 ?_
            refine lv_iload_n hx hb dX5_plan_65 rfl (lv_at hl 3 rfl) ?_
            obtain ⟨hi10, hf⟩ := xi_some hf
            refine kIald hx hb hv 3 rfl hi10 dX5_plan_66 ?_
            obtain ⟨hi11, hf⟩ := xi_some hf
            refine kIald hx hb hv 2 rfl hi11 dX5_plan_67 ?_
            refine lv_aload_n hx hb dX5_plan_68 rfl (lv_at hl 0 rfl) ?_
            refine kGet (v := .ref aT_weights) (C := RX5) (T := TX5) (N := 22) hx hb hts hinX5 hown hv 0 rfl rfl 4 (by decide) hk16 (fun _ h9 => h9) rfl dX5_plan_69 ?_
            refine lv_iload_n hx hb dX5_plan_72 rfl (lv_at hl 3 rfl) ?_
            obtain ⟨hi12, hf⟩ := xi_some hf
            refine kIald hx hb hv 1 rfl hi12 dX5_plan_73 ?_
            refine lv_iadd hx hb dX5_plan_74 ?_
            refine lv_aload_n hx hb dX5_plan_75 rfl (lv_at hl 0 rfl) ?_
            refine kGet (v := .ref aT_best) (C := RX5) (T := TX5) (N := 22) hx hb hts hinX5 hown hv 0 rfl rfl 11 (by decide) hk36 (fun _ h9 => h9) rfl dX5_plan_76 ?_
            refine lv_iload_n hx hb dX5_plan_79 rfl (lv_at hl 2 rfl) ?_
            obtain ⟨hi13, hf⟩ := xi_some hf
            refine kIald hx hb hv 2 rfl hi13 dX5_plan_80 ?_
            refine lv_icmp_le (tgt := 108) hx hb dX5_plan_81 (by decide) (fun hc14 => ?_) (fun hc14 => ?_)
            · replace hf := ite_t hf hc14
              refine lv_iinc (v := v3 + 1) (lv' := [(3, .int (v3 + 1)), (0, .ref aT), (1, .int v1), (2, .int v2)]) hx hb dX5_plan_108 hl (k := 3) rfl rfl (by decide) rfl (fun ls hl => ?_)
              refine lv_goto (tgt := 30) hx hb dX5_plan_111 (by decide) ?_
              exact ih (v3 + 1) A_best hf _ _ _ hv (lv_sub hl [1, 2, 3, 0] rfl) hκ
            · replace hf := ite_f hf hc14
              refine lv_aload_n hx hb dX5_plan_84 rfl (lv_at hl 0 rfl) ?_
              refine kGet (v := .ref aT_best) (C := RX5) (T := TX5) (N := 22) hx hb hts hinX5 hown hv 0 rfl rfl 11 (by decide) hk36 (fun _ h9 => h9) rfl dX5_plan_85 ?_
              refine lv_iload_n hx hb dX5_plan_88 rfl (lv_at hl 2 rfl) ?_
              refine lv_aload_n hx hb dX5_plan_89 rfl (lv_at hl 0 rfl) ?_
              refine kGet (v := .ref aT_best) (C := RX5) (T := TX5) (N := 22) hx hb hts hinX5 hown hv 0 rfl rfl 11 (by decide) hk36 (fun _ h9 => h9) rfl dX5_plan_90 ?_
              refine lv_aload_n hx hb dX5_plan_93 rfl (lv_at hl 0 rfl) ?_
              refine kGet (v := .ref aT_froms) (C := RX5) (T := TX5) (N := 22) hx hb hts hinX5 hown hv 0 rfl rfl 13 (by decide) hk42 (fun _ h9 => h9) rfl dX5_plan_94 ?_
              refine lv_iload_n hx hb dX5_plan_97 rfl (lv_at hl 3 rfl) ?_
              obtain ⟨hi15, hf⟩ := xi_some hf
              refine kIald hx hb hv 3 rfl hi15 dX5_plan_98 ?_
              obtain ⟨hi16, hf⟩ := xi_some hf
              refine kIald hx hb hv 2 rfl hi16 dX5_plan_99 ?_
              refine lv_aload_n hx hb dX5_plan_100 rfl (lv_at hl 0 rfl) ?_
              refine kGet (v := .ref aT_weights) (C := RX5) (T := TX5) (N := 22) hx hb hts hinX5 hown hv 0 rfl rfl 4 (by decide) hk16 (fun _ h9 => h9) rfl dX5_plan_101 ?_
              refine lv_iload_n hx hb dX5_plan_104 rfl (lv_at hl 3 rfl) ?_
              obtain ⟨hi17, hf⟩ := xi_some hf
              refine kIald hx hb hv 1 rfl hi17 dX5_plan_105 ?_
              refine lv_iadd hx hb dX5_plan_106 ?_
              obtain ⟨hi18, hf⟩ := xi_some hf
              refine kIast hx hb hv 2 rfl hi18 dX5_plan_107 (fun H locs hv => ?_)
              replace hv : Hv s H locs G cy A [(aT, .inr (5, [.int f_thrown, .int f_many, .ref aT_begins, .ref aT_ends, .ref aT_weights, .ref aT_isThere, .ref aT_rooms, .int f_factor, .ref aT_isOffered, .ref aT_isAccepted, .int f_dropped, .ref aT_best, .ref aT_order, .ref aT_froms, .ref aT_tos, .ref aT_counts, .ref aT_points, .ref aT_flows, .ref aT_isUsed, .ref aT_gains, .ref aT_ways, .int f_pointMany])), (aT_weights, .inl (cy.1, 40, .inl A_weights)), (aT_best, .inl (cy.1, 1001, .inl (upd A_best v2.toNatClampNeg ((A_best (A_froms v3.toNatClampNeg).toNatClampNeg) + (A_weights v3.toNatClampNeg))))), (aT_froms, .inl (cy.1, 40, .inl A_froms)), (aT_tos, .inl (cy.1, 40, .inl A_tos)), (aT_counts, .inl (cy.2.1, 40, .inl A_counts))] := hv
              refine lv_iinc (v := v3 + 1) (lv' := [(3, .int (v3 + 1)), (0, .ref aT), (1, .int v1), (2, .int v2)]) hx hb dX5_plan_108 hl (k := 3) rfl rfl (by decide) rfl (fun ls hl => ?_)
              refine lv_goto (tgt := 30) hx hb dX5_plan_111 (by decide) ?_
              exact ih (v3 + 1) (upd A_best v2.toNatClampNeg ((A_best (A_froms v3.toNatClampNeg).toNatClampNeg) + (A_weights v3.toNatClampNeg))) hf _ _ _ hv (lv_sub hl [1, 2, 3, 0] rfl) hκ
  have L9 : ∀ (v1 : Int32) (κ : Int32 → (Nat → Int32) → Option (Int32 × (Nat → Int32))) (n : Nat) (v2 : Int32) (A_best : Nat → Int32), f_X5_plan_L9 k v1 f_many A_weights A_froms A_tos A_counts κ n v2 A_best = some (r, wA_best) → ∀ (H : Heap) (locs : List Loc) (ls : Array Slot), Hv s H locs G cy A [(aT, .inr (5, [.int f_thrown, .int f_many, .ref aT_begins, .ref aT_ends, .ref aT_weights, .ref aT_isThere, .ref aT_rooms, .int f_factor, .ref aT_isOffered, .ref aT_isAccepted, .int f_dropped, .ref aT_best, .ref aT_order, .ref aT_froms, .ref aT_tos, .ref aT_counts, .ref aT_points, .ref aT_flows, .ref aT_isUsed, .ref aT_gains, .ref aT_ways, .int f_pointMany])), (aT_weights, .inl (cy.1, 40, .inl A_weights)), (aT_best, .inl (cy.1, 1001, .inl A_best)), (aT_froms, .inl (cy.1, 40, .inl A_froms)), (aT_tos, .inl (cy.1, 40, .inl A_tos)), (aT_counts, .inl (cy.2.1, 40, .inl A_counts))] → lv_has ls 4 [(0, .ref aT), (1, .int v1), (2, .int v2)] → (∀ (v2 : Int32) (A_best : Nat → Int32), κ v2 A_best = some (r, wA_best) → ∀ (H : Heap) (locs : List Loc) (ls : Array Slot), Hv s H locs G cy A [(aT, .inr (5, [.int f_thrown, .int f_many, .ref aT_begins, .ref aT_ends, .ref aT_weights, .ref aT_isThere, .ref aT_rooms, .int f_factor, .ref aT_isOffered, .ref aT_isAccepted, .int f_dropped, .ref aT_best, .ref aT_order, .ref aT_froms, .ref aT_tos, .ref aT_counts, .ref aT_points, .ref aT_flows, .ref aT_isUsed, .ref aT_gains, .ref aT_ways, .int f_pointMany])), (aT_weights, .inl (cy.1, 40, .inl A_weights)), (aT_best, .inl (cy.1, 1001, .inl A_best)), (aT_froms, .inl (cy.1, 40, .inl A_froms)), (aT_tos, .inl (cy.1, 40, .inl A_tos)), (aT_counts, .inl (cy.2.1, 40, .inl A_counts))] → lv_has ls 4 [(0, .ref aT), (1, .int v1)] → W p l e rm_X5_plan s m args below meth c H locs 0 0 Q (F0 m 120 ls [])) → W p l e rm_X5_plan s m args below meth c H locs 0 0 Q (F0 m 9 ls []) := by
    intro v1 κ n
    induction n with
    | zero =>
      intro v2 A_best hf
      rw [f_X5_plan_L9_z] at hf
      cases hf
    | succ n ih =>
      intro v2 A_best hf H locs ls hv hl hκ
      rw [f_X5_plan_L9_s] at hf
      refine lv_iload_n hx hb dX5_plan_9 rfl (lv_at hl 2 rfl) ?_
      refine lv_iload_n hx hb dX5_plan_10 rfl (lv_at hl 1 rfl) ?_
      refine lv_icmp_gt (tgt := 120) hx hb dX5_plan_11 (by decide) (fun hc2 => ?_) (fun hc2 => ?_)
      · replace hf := ite_t hf hc2
        exact hκ v2 A_best hf _ _ _ hv (lv_sub hl [0, 1] rfl)
      · replace hf := ite_f hf hc2
        refine lv_aload_n hx hb dX5_plan_14 rfl (lv_at hl 0 rfl) ?_
        refine kGet (v := .ref aT_best) (C := RX5) (T := TX5) (N := 22) hx hb hts hinX5 hown hv 0 rfl rfl 11 (by decide) hk36 (fun _ h9 => h9) rfl dX5_plan_15 ?_
        refine lv_iload_n hx hb dX5_plan_18 rfl (lv_at hl 2 rfl) ?_
        refine lv_aload_n hx hb dX5_plan_19 rfl (lv_at hl 0 rfl) ?_
        refine kGet (v := .ref aT_best) (C := RX5) (T := TX5) (N := 22) hx hb hts hinX5 hown hv 0 rfl rfl 11 (by decide) hk36 (fun _ h9 => h9) rfl dX5_plan_20 ?_
        refine lv_iload_n hx hb dX5_plan_23 rfl (lv_at hl 2 rfl) ?_
        refine lv_iconst (v := 1) hx hb dX5_plan_24 (by decide) ?_
        refine lv_isub hx hb dX5_plan_25 ?_
        obtain ⟨hi3, hf⟩ := xi_some hf
        refine kIald hx hb hv 2 rfl hi3 dX5_plan_26 ?_
        obtain ⟨hi4, hf⟩ := xi_some hf
        refine kIast hx hb hv 2 rfl hi4 dX5_plan_27 (fun H locs hv => ?_)
        replace hv : Hv s H locs G cy A [(aT, .inr (5, [.int f_thrown, .int f_many, .ref aT_begins, .ref aT_ends, .ref aT_weights, .ref aT_isThere, .ref aT_rooms, .int f_factor, .ref aT_isOffered, .ref aT_isAccepted, .int f_dropped, .ref aT_best, .ref aT_order, .ref aT_froms, .ref aT_tos, .ref aT_counts, .ref aT_points, .ref aT_flows, .ref aT_isUsed, .ref aT_gains, .ref aT_ways, .int f_pointMany])), (aT_weights, .inl (cy.1, 40, .inl A_weights)), (aT_best, .inl (cy.1, 1001, .inl (upd A_best v2.toNatClampNeg (A_best (v2 - 1).toNatClampNeg)))), (aT_froms, .inl (cy.1, 40, .inl A_froms)), (aT_tos, .inl (cy.1, 40, .inl A_tos)), (aT_counts, .inl (cy.2.1, 40, .inl A_counts))] := hv
        refine lv_iconst (v := 0) hx hb dX5_plan_28 (by decide) ?_
        refine lv_istore_n (lv' := [(3, .int 0), (0, .ref aT), (1, .int v1), (2, .int v2)]) hx hb dX5_plan_29 rfl hl (by decide) rfl (fun ls hl => ?_)
        refine L30 _ _ _ _ _ _ hf _ _ _ hv (lv_sub hl [1, 2, 3, 0] rfl) (fun v3_19 A_best_20 hf H locs ls hv hl => ?_)
        try dsimp only at hf
        refine lv_iinc (v := v2 + 1) (lv' := [(2, .int (v2 + 1)), (0, .ref aT), (1, .int v1)]) hx hb dX5_plan_114 hl (k := 2) rfl rfl (by decide) rfl (fun ls hl => ?_)
        refine lv_goto (tgt := 9) hx hb dX5_plan_117 (by decide) ?_
        exact ih (v2 + 1) A_best_20 hf _ _ _ hv (lv_sub hl [1, 2, 0] rfl) hκ
  unfold f_X5_plan at hf
  refine lv_aload_n hx hb dX5_plan_0 rfl (lv_at hl 0 rfl) ?_
  refine kGet (v := .ref aT_best) (C := RX5) (T := TX5) (N := 22) hx hb hts hinX5 hown hv 0 rfl rfl 11 (by decide) hk36 (fun _ h9 => h9) rfl dX5_plan_1 ?_
  refine lv_iconst (v := 0) hx hb dX5_plan_4 (by decide) ?_
  refine lv_iconst (v := 0) hx hb dX5_plan_5 (by decide) ?_
  obtain ⟨hi1, hf⟩ := xi_some hf
  refine kIast hx hb hv 2 rfl hi1 dX5_plan_6 (fun H locs hv => ?_)
  replace hv : Hv s H locs G cy A [(aT, .inr (5, [.int f_thrown, .int f_many, .ref aT_begins, .ref aT_ends, .ref aT_weights, .ref aT_isThere, .ref aT_rooms, .int f_factor, .ref aT_isOffered, .ref aT_isAccepted, .int f_dropped, .ref aT_best, .ref aT_order, .ref aT_froms, .ref aT_tos, .ref aT_counts, .ref aT_points, .ref aT_flows, .ref aT_isUsed, .ref aT_gains, .ref aT_ways, .int f_pointMany])), (aT_weights, .inl (cy.1, 40, .inl A_weights)), (aT_best, .inl (cy.1, 1001, .inl (upd A_best (0 : Int32).toNatClampNeg 0))), (aT_froms, .inl (cy.1, 40, .inl A_froms)), (aT_tos, .inl (cy.1, 40, .inl A_tos)), (aT_counts, .inl (cy.2.1, 40, .inl A_counts))] := hv
  refine lv_iconst (v := 1) hx hb dX5_plan_7 (by decide) ?_
  refine lv_istore_n (lv' := [(2, .int 1), (0, .ref aT), (1, .int p1)]) hx hb dX5_plan_8 rfl hl (by decide) rfl (fun ls hl => ?_)
  refine L9 _ _ _ _ _ hf _ _ _ hv (lv_sub hl [1, 2, 0] rfl) (fun v2_21 A_best_22 hf H locs ls hv hl => ?_)
  try dsimp only at hf
  refine lv_aload_n hx hb dX5_plan_120 rfl (lv_at hl 0 rfl) ?_
  refine kGet (v := .ref aT_best) (C := RX5) (T := TX5) (N := 22) hx hb hts hinX5 hown hv 0 rfl rfl 11 (by decide) hk36 (fun _ h9 => h9) rfl dX5_plan_121 ?_
  refine lv_iload_n hx hb dX5_plan_124 rfl (lv_at hl 1 rfl) ?_
  obtain ⟨hi23, hf⟩ := xi_some hf
  refine kIald hx hb hv 2 rfl hi23 dX5_plan_125 ?_
  cases hf
  exact kret _ _ _ _ hv dX5_plan_126

def f_X5_planOf_L2 (k : Nat) (v1 : Int32) (f_many : Int32) (A_begins : Nat → Int32) (A_ends : Nat → Int32) (A_isThere : Nat → Int32) (A_isOffered : Nat → Int32) (κ : Int32 → (Nat → Int32) → (Nat → Int32) → (Nat → Int32) → Option (Int32 × (Nat → Int32) × (Nat → Int32) × (Nat → Int32) × (Nat → Int32))) : Nat → Int32 → (Nat → Int32) → (Nat → Int32) → (Nat → Int32) → Option (Int32 × (Nat → Int32) × (Nat → Int32) × (Nat → Int32) × (Nat → Int32))
  | 0, _, _, _, _ => none
  | n + 1, v2, A_froms, A_tos, A_counts => if f_many ≤ v2 then κ v2 A_froms A_tos A_counts else xi v2 40 (xj (fun (x5 : Int32) => xi v2 40 (xi v2 40 (xi v2 40 (xi v2 40 (xi v2 40 (f_X5_planOf_L2 k v1 f_many A_begins A_ends A_isThere A_isOffered κ n (v2 + 1) (upd A_froms v2.toNatClampNeg (A_begins v2.toNatClampNeg)) (upd A_tos v2.toNatClampNeg (A_ends v2.toNatClampNeg)) (upd A_counts v2.toNatClampNeg (vp_nar .boolean x5)))))))) (fun (j42_4 : Int32 → Option (Int32 × (Nat → Int32) × (Nat → Int32) × (Nat → Int32) × (Nat → Int32))) => xj (fun (_ : Unit) => j42_4 0) (fun (j41_11 : Unit → Option (Int32 × (Nat → Int32) × (Nat → Int32) × (Nat → Int32) × (Nat → Int32))) => if (A_isThere v2.toNatClampNeg) = 0 then j41_11 () else xj (fun (_ : Unit) => j42_4 1) (fun (j37_13 : Unit → Option (Int32 × (Nat → Int32) × (Nat → Int32) × (Nat → Int32) × (Nat → Int32))) => if v1 = 0 then j37_13 () else xi v2 40 (if (A_isOffered v2.toNatClampNeg) = 0 then j41_11 () else j37_13 ())))))
theorem f_X5_planOf_L2_z (k : Nat) (v1 : Int32) (f_many : Int32) (A_begins : Nat → Int32) (A_ends : Nat → Int32) (A_isThere : Nat → Int32) (A_isOffered : Nat → Int32) (κ : Int32 → (Nat → Int32) → (Nat → Int32) → (Nat → Int32) → Option (Int32 × (Nat → Int32) × (Nat → Int32) × (Nat → Int32) × (Nat → Int32))) (v2 : Int32) (A_froms : Nat → Int32) (A_tos : Nat → Int32) (A_counts : Nat → Int32) : f_X5_planOf_L2 k v1 f_many A_begins A_ends A_isThere A_isOffered κ 0 v2 A_froms A_tos A_counts = none := rfl
theorem f_X5_planOf_L2_s (k : Nat) (v1 : Int32) (f_many : Int32) (A_begins : Nat → Int32) (A_ends : Nat → Int32) (A_isThere : Nat → Int32) (A_isOffered : Nat → Int32) (κ : Int32 → (Nat → Int32) → (Nat → Int32) → (Nat → Int32) → Option (Int32 × (Nat → Int32) × (Nat → Int32) × (Nat → Int32) × (Nat → Int32))) (n : Nat) (v2 : Int32) (A_froms : Nat → Int32) (A_tos : Nat → Int32) (A_counts : Nat → Int32) : f_X5_planOf_L2 k v1 f_many A_begins A_ends A_isThere A_isOffered κ (n + 1) v2 A_froms A_tos A_counts = if f_many ≤ v2 then κ v2 A_froms A_tos A_counts else xi v2 40 (xj (fun (x5 : Int32) => xi v2 40 (xi v2 40 (xi v2 40 (xi v2 40 (xi v2 40 (f_X5_planOf_L2 k v1 f_many A_begins A_ends A_isThere A_isOffered κ n (v2 + 1) (upd A_froms v2.toNatClampNeg (A_begins v2.toNatClampNeg)) (upd A_tos v2.toNatClampNeg (A_ends v2.toNatClampNeg)) (upd A_counts v2.toNatClampNeg (vp_nar .boolean x5)))))))) (fun (j42_4 : Int32 → Option (Int32 × (Nat → Int32) × (Nat → Int32) × (Nat → Int32) × (Nat → Int32))) => xj (fun (_ : Unit) => j42_4 0) (fun (j41_11 : Unit → Option (Int32 × (Nat → Int32) × (Nat → Int32) × (Nat → Int32) × (Nat → Int32))) => if (A_isThere v2.toNatClampNeg) = 0 then j41_11 () else xj (fun (_ : Unit) => j42_4 1) (fun (j37_13 : Unit → Option (Int32 × (Nat → Int32) × (Nat → Int32) × (Nat → Int32) × (Nat → Int32))) => if v1 = 0 then j37_13 () else xi v2 40 (if (A_isOffered v2.toNatClampNeg) = 0 then j41_11 () else j37_13 ()))))) := rfl
def f_X5_planOf (k : Nat) (p1 : Int32) (f_many : Int32) (A_begins : Nat → Int32) (A_ends : Nat → Int32) (A_weights : Nat → Int32) (A_isThere : Nat → Int32) (A_isOffered : Nat → Int32) (A_best : Nat → Int32) (A_froms : Nat → Int32) (A_tos : Nat → Int32) (A_counts : Nat → Int32) : Option (Int32 × (Nat → Int32) × (Nat → Int32) × (Nat → Int32) × (Nat → Int32)) := f_X5_planOf_L2 k p1 f_many A_begins A_ends A_isThere A_isOffered (fun (v2_16 : Int32) (A_froms_17 : Nat → Int32) (A_tos_18 : Nat → Int32) (A_counts_19 : Nat → Int32) => xb (f_X5_plan k 1000 f_many A_weights A_best A_froms_17 A_tos_18 A_counts_19) (fun (r20, A_best_21) => some (r20, A_best_21, A_froms_17, A_tos_18, A_counts_19))) k 0 A_froms A_tos A_counts
abbrev rm_X5_planOf : Room := { frames := 1, cells := 0, slots := 0, locals := 23 }
set_option maxHeartbeats 4000000 in
set_option maxRecDepth 100000 in
theorem c_X5_planOf (l : Launch) (G : va_G) (cy : ClassId × ClassId × ClassId) (k : Nat) (aT aT_begins aT_ends aT_weights aT_isThere aT_rooms aT_isOffered aT_isAccepted aT_best aT_order aT_froms aT_tos aT_counts aT_points aT_flows aT_isUsed aT_gains aT_ways : Nat) (f_thrown : Int32) (f_many : Int32) (f_factor : Int32) (f_dropped : Int32) (f_pointMany : Int32) (A_begins : Nat → Int32) (A_ends : Nat → Int32) (A_weights : Nat → Int32) (A_isThere : Nat → Int32) (A_isOffered : Nat → Int32) (A_best : Nat → Int32) (A_froms : Nat → Int32) (A_tos : Nat → Int32) (A_counts : Nat → Int32) (p1 : Int32) {r : Int32} {wA_best : Nat → Int32} {wA_froms : Nat → Int32} {wA_tos : Nat → Int32} {wA_counts : Nat → Int32} (hf : f_X5_planOf k p1 f_many A_begins A_ends A_weights A_isThere A_isOffered A_best A_froms A_tos A_counts = some (r, wA_best, wA_froms, wA_tos, wA_counts)) : Ci l yX5_planOf wsX5_planOf rm_X5_planOf 0 0 G cy [.ref aT, .int p1] [(aT, .inr (5, [.int f_thrown, .int f_many, .ref aT_begins, .ref aT_ends, .ref aT_weights, .ref aT_isThere, .ref aT_rooms, .int f_factor, .ref aT_isOffered, .ref aT_isAccepted, .int f_dropped, .ref aT_best, .ref aT_order, .ref aT_froms, .ref aT_tos, .ref aT_counts, .ref aT_points, .ref aT_flows, .ref aT_isUsed, .ref aT_gains, .ref aT_ways, .int f_pointMany])), (aT_begins, .inl (cy.1, 40, .inl A_begins)), (aT_ends, .inl (cy.1, 40, .inl A_ends)), (aT_weights, .inl (cy.1, 40, .inl A_weights)), (aT_isThere, .inl (cy.2.1, 40, .inl A_isThere)), (aT_isOffered, .inl (cy.2.1, 40, .inl A_isOffered)), (aT_best, .inl (cy.1, 1001, .inl A_best)), (aT_froms, .inl (cy.1, 40, .inl A_froms)), (aT_tos, .inl (cy.1, 40, .inl A_tos)), (aT_counts, .inl (cy.2.1, 40, .inl A_counts))] [(aT, .inr (5, [.int f_thrown, .int f_many, .ref aT_begins, .ref aT_ends, .ref aT_weights, .ref aT_isThere, .ref aT_rooms, .int f_factor, .ref aT_isOffered, .ref aT_isAccepted, .int f_dropped, .ref aT_best, .ref aT_order, .ref aT_froms, .ref aT_tos, .ref aT_counts, .ref aT_points, .ref aT_flows, .ref aT_isUsed, .ref aT_gains, .ref aT_ways, .int f_pointMany])), (aT_begins, .inl (cy.1, 40, .inl A_begins)), (aT_ends, .inl (cy.1, 40, .inl A_ends)), (aT_weights, .inl (cy.1, 40, .inl A_weights)), (aT_isThere, .inl (cy.2.1, 40, .inl A_isThere)), (aT_isOffered, .inl (cy.2.1, 40, .inl A_isOffered)), (aT_best, .inl (cy.1, 1001, .inl wA_best)), (aT_froms, .inl (cy.1, 40, .inl wA_froms)), (aT_tos, .inl (cy.1, 40, .inl wA_tos)), (aT_counts, .inl (cy.2.1, 40, .inl wA_counts))] r := by
  refine kMetI (cc := cX5_planOf) (maxL := 3) (by decide) rfl (Nat.le_of_ble_eq_true rfl) ?_
  intro p e s m args below meth c Q A ls hx hb hml hts hown hv hl kret
  replace hown : s.vm.findClass RX5 = some m.cls := hown
  replace hl : lv_has ls 3 [(0, .ref aT), (1, .int p1)] := hl
  have hk69 : (Cond.fieldLink RX5 69 "RoomcolourModel" "many" "I").before args s = true := hts _ (by decide +kernel)
  have hinX5 : ∀ w ∈ wsX50, w ∈ wsX5_planOf := by decide +kernel
  have hk48 : (Cond.fieldLink RX5 48 "RoomcolourModel" "counts" "[Z").before args s = true := hts _ (by decide +kernel)
  have hk19 : (Cond.fieldLink RX5 19 "RoomcolourModel" "isThere" "[Z").before args s = true := hts _ (by decide +kernel)
  have hk42 : (Cond.fieldLink RX5 42 "RoomcolourModel" "froms" "[I").before args s = true := hts _ (by decide +kernel)
  have hk7 : (Cond.fieldLink RX5 7 "RoomcolourModel" "begins" "[I").before args s = true := hts _ (by decide +kernel)
  have hk45 : (Cond.fieldLink RX5 45 "RoomcolourModel" "tos" "[I").before args s = true := hts _ (by decide +kernel)
  have hk13 : (Cond.fieldLink RX5 13 "RoomcolourModel" "ends" "[I").before args s = true := hts _ (by decide +kernel)
  have hk30 : (Cond.fieldLink RX5 30 "RoomcolourModel" "isOffered" "[Z").before args s = true := hts _ (by decide +kernel)
  have L2 : ∀ (v1 : Int32) (A_best : Nat → Int32) (κ : Int32 → (Nat → Int32) → (Nat → Int32) → (Nat → Int32) → Option (Int32 × (Nat → Int32) × (Nat → Int32) × (Nat → Int32) × (Nat → Int32))) (n : Nat) (v2 : Int32) (A_froms : Nat → Int32) (A_tos : Nat → Int32) (A_counts : Nat → Int32), f_X5_planOf_L2 k v1 f_many A_begins A_ends A_isThere A_isOffered κ n v2 A_froms A_tos A_counts = some (r, wA_best, wA_froms, wA_tos, wA_counts) → ∀ (H : Heap) (locs : List Loc) (ls : Array Slot), Hv s H locs G cy A [(aT, .inr (5, [.int f_thrown, .int f_many, .ref aT_begins, .ref aT_ends, .ref aT_weights, .ref aT_isThere, .ref aT_rooms, .int f_factor, .ref aT_isOffered, .ref aT_isAccepted, .int f_dropped, .ref aT_best, .ref aT_order, .ref aT_froms, .ref aT_tos, .ref aT_counts, .ref aT_points, .ref aT_flows, .ref aT_isUsed, .ref aT_gains, .ref aT_ways, .int f_pointMany])), (aT_begins, .inl (cy.1, 40, .inl A_begins)), (aT_ends, .inl (cy.1, 40, .inl A_ends)), (aT_weights, .inl (cy.1, 40, .inl A_weights)), (aT_isThere, .inl (cy.2.1, 40, .inl A_isThere)), (aT_isOffered, .inl (cy.2.1, 40, .inl A_isOffered)), (aT_best, .inl (cy.1, 1001, .inl A_best)), (aT_froms, .inl (cy.1, 40, .inl A_froms)), (aT_tos, .inl (cy.1, 40, .inl A_tos)), (aT_counts, .inl (cy.2.1, 40, .inl A_counts))] → lv_has ls 3 [(0, .ref aT), (1, .int v1), (2, .int v2)] → (∀ (v2 : Int32) (A_froms : Nat → Int32) (A_tos : Nat → Int32) (A_counts : Nat → Int32), κ v2 A_froms A_tos A_counts = some (r, wA_best, wA_froms, wA_tos, wA_counts) → ∀ (H : Heap) (locs : List Loc) (ls : Array Slot), Hv s H locs G cy A [(aT, .inr (5, [.int f_thrown, .int f_many, .ref aT_begins, .ref aT_ends, .ref aT_weights, .ref aT_isThere, .ref aT_rooms, .int f_factor, .ref aT_isOffered, .ref aT_isAccepted, .int f_dropped, .ref aT_best, .ref aT_order, .ref aT_froms, .ref aT_tos, .ref aT_counts, .ref aT_points, .ref aT_flows, .ref aT_isUsed, .ref aT_gains, .ref aT_ways, .int f_pointMany])), (aT_begins, .inl (cy.1, 40, .inl A_begins)), (aT_ends, .inl (cy.1, 40, .inl A_ends)), (aT_weights, .inl (cy.1, 40, .inl A_weights)), (aT_isThere, .inl (cy.2.1, 40, .inl A_isThere)), (aT_isOffered, .inl (cy.2.1, 40, .inl A_isOffered)), (aT_best, .inl (cy.1, 1001, .inl A_best)), (aT_froms, .inl (cy.1, 40, .inl A_froms)), (aT_tos, .inl (cy.1, 40, .inl A_tos)), (aT_counts, .inl (cy.2.1, 40, .inl A_counts))] → lv_has ls 3 [(0, .ref aT)] → W p l e rm_X5_planOf s m args below meth c H locs 0 0 Q (F0 m 73 ls [])) → W p l e rm_X5_planOf s m args below meth c H locs 0 0 Q (F0 m 2 ls []) := by
    intro v1 A_best κ n
    induction n with
    | zero =>
      intro v2 A_froms A_tos A_counts hf
      rw [f_X5_planOf_L2_z] at hf
      cases hf
    | succ n ih =>
      intro v2 A_froms A_tos A_counts hf H locs ls hv hl hκ
      rw [f_X5_planOf_L2_s] at hf
      refine lv_iload_n hx hb dX5_planOf_2 rfl (lv_at hl 2 rfl) ?_
      refine lv_aload_n hx hb dX5_planOf_3 rfl (lv_at hl 0 rfl) ?_
      refine kGet (v := .int f_many) (C := RX5) (T := TX5) (N := 22) hx hb hts hinX5 hown hv 0 rfl rfl 1 (by decide) hk69 (fun _ h9 => h9) rfl dX5_planOf_4 ?_
      refine lv_icmp_ge (tgt := 73) hx hb dX5_planOf_7 (by decide) (fun hc1 => ?_) (fun hc1 => ?_)
      · replace hf := ite_t hf hc1
        exact hκ v2 A_froms A_tos A_counts hf _ _ _ hv (lv_sub hl [0] rfl)
      · replace hf := ite_f hf hc1
        refine lv_aload_n hx hb dX5_planOf_10 rfl (lv_at hl 0 rfl) ?_
        refine kGet (v := .ref aT_counts) (C := RX5) (T := TX5) (N := 22) hx hb hts hinX5 hown hv 0 rfl rfl 15 (by decide) hk48 (fun _ h9 => h9) rfl dX5_planOf_11 ?_
        refine lv_iload_n hx hb dX5_planOf_14 rfl (lv_at hl 2 rfl) ?_
        refine lv_aload_n hx hb dX5_planOf_15 rfl (lv_at hl 0 rfl) ?_
        refine kGet (v := .ref aT_isThere) (C := RX5) (T := TX5) (N := 22) hx hb hts hinX5 hown hv 0 rfl rfl 5 (by decide) hk19 (fun _ h9 => h9) rfl dX5_planOf_16 ?_
        refine lv_iload_n hx hb dX5_planOf_19 rfl (lv_at hl 2 rfl) ?_
        obtain ⟨hi2, hf⟩ := xi_some hf
        refine kZald hx hb hv 4 rfl hi2 dX5_planOf_20 ?_
        refine xj_elim hf (fun j42_4 ej42_4 hf => ?_)
        have J42_4 : ∀ (x5 : Int32), j42_4 x5 = some (r, wA_best, wA_froms, wA_tos, wA_counts) → ∀ (H : Heap) (locs : List Loc) (ls : Array Slot), Hv s H locs G cy A [(aT, .inr (5, [.int f_thrown, .int f_many, .ref aT_begins, .ref aT_ends, .ref aT_weights, .ref aT_isThere, .ref aT_rooms, .int f_factor, .ref aT_isOffered, .ref aT_isAccepted, .int f_dropped, .ref aT_best, .ref aT_order, .ref aT_froms, .ref aT_tos, .ref aT_counts, .ref aT_points, .ref aT_flows, .ref aT_isUsed, .ref aT_gains, .ref aT_ways, .int f_pointMany])), (aT_begins, .inl (cy.1, 40, .inl A_begins)), (aT_ends, .inl (cy.1, 40, .inl A_ends)), (aT_weights, .inl (cy.1, 40, .inl A_weights)), (aT_isThere, .inl (cy.2.1, 40, .inl A_isThere)), (aT_isOffered, .inl (cy.2.1, 40, .inl A_isOffered)), (aT_best, .inl (cy.1, 1001, .inl A_best)), (aT_froms, .inl (cy.1, 40, .inl A_froms)), (aT_tos, .inl (cy.1, 40, .inl A_tos)), (aT_counts, .inl (cy.2.1, 40, .inl A_counts))] → lv_has ls 3 [(0, .ref aT), (1, .int v1), (2, .int v2)] → W p l e rm_X5_planOf s m args below meth c H locs 0 0 Q (F0 m 42 ls [.int x5, .int v2, .ref aT_counts]) := by
          intro x5 hf H locs ls hv hl
          rw [ej42_4] at hf
          try dsimp only at hf
          obtain ⟨hi6, hf⟩ := xi_some hf
          refine kZast hx hb hv 9 rfl hi6 dX5_planOf_42 (fun H locs hv => ?_)
          replace hv : Hv s H locs G cy A [(aT, .inr (5, [.int f_thrown, .int f_many, .ref aT_begins, .ref aT_ends, .ref aT_weights, .ref aT_isThere, .ref aT_rooms, .int f_factor, .ref aT_isOffered, .ref aT_isAccepted, .int f_dropped, .ref aT_best, .ref aT_order, .ref aT_froms, .ref aT_tos, .ref aT_counts, .ref aT_points, .ref aT_flows, .ref aT_isUsed, .ref aT_gains, .ref aT_ways, .int f_pointMany])), (aT_begins, .inl (cy.1, 40, .inl A_begins)), (aT_ends, .inl (cy.1, 40, .inl A_ends)), (aT_weights, .inl (cy.1, 40, .inl A_weights)), (aT_isThere, .inl (cy.2.1, 40, .inl A_isThere)), (aT_isOffered, .inl (cy.2.1, 40, .inl A_isOffered)), (aT_best, .inl (cy.1, 1001, .inl A_best)), (aT_froms, .inl (cy.1, 40, .inl A_froms)), (aT_tos, .inl (cy.1, 40, .inl A_tos)), (aT_counts, .inl (cy.2.1, 40, .inl (upd A_counts v2.toNatClampNeg (vp_nar .boolean x5))))] := hv
          refine lv_aload_n hx hb dX5_planOf_43 rfl (lv_at hl 0 rfl) ?_
          refine kGet (v := .ref aT_froms) (C := RX5) (T := TX5) (N := 22) hx hb hts hinX5 hown hv 0 rfl rfl 13 (by decide) hk42 (fun _ h9 => h9) rfl dX5_planOf_44 ?_
          refine lv_iload_n hx hb dX5_planOf_47 rfl (lv_at hl 2 rfl) ?_
          refine lv_aload_n hx hb dX5_planOf_48 rfl (lv_at hl 0 rfl) ?_
          refine kGet (v := .ref aT_begins) (C := RX5) (T := TX5) (N := 22) hx hb hts hinX5 hown hv 0 rfl rfl 2 (by decide) hk7 (fun _ h9 => h9) rfl dX5_planOf_49 ?_
          refine lv_iload_n hx hb dX5_planOf_52 rfl (lv_at hl 2 rfl) ?_
          obtain ⟨hi7, hf⟩ := xi_some hf
          refine kIald hx hb hv 1 rfl hi7 dX5_planOf_53 ?_
          obtain ⟨hi8, hf⟩ := xi_some hf
          refine kIast hx hb hv 7 rfl hi8 dX5_planOf_54 (fun H locs hv => ?_)
          replace hv : Hv s H locs G cy A [(aT, .inr (5, [.int f_thrown, .int f_many, .ref aT_begins, .ref aT_ends, .ref aT_weights, .ref aT_isThere, .ref aT_rooms, .int f_factor, .ref aT_isOffered, .ref aT_isAccepted, .int f_dropped, .ref aT_best, .ref aT_order, .ref aT_froms, .ref aT_tos, .ref aT_counts, .ref aT_points, .ref aT_flows, .ref aT_isUsed, .ref aT_gains, .ref aT_ways, .int f_pointMany])), (aT_begins, .inl (cy.1, 40, .inl A_begins)), (aT_ends, .inl (cy.1, 40, .inl A_ends)), (aT_weights, .inl (cy.1, 40, .inl A_weights)), (aT_isThere, .inl (cy.2.1, 40, .inl A_isThere)), (aT_isOffered, .inl (cy.2.1, 40, .inl A_isOffered)), (aT_best, .inl (cy.1, 1001, .inl A_best)), (aT_froms, .inl (cy.1, 40, .inl (upd A_froms v2.toNatClampNeg (A_begins v2.toNatClampNeg)))), (aT_tos, .inl (cy.1, 40, .inl A_tos)), (aT_counts, .inl (cy.2.1, 40, .inl (upd A_counts v2.toNatClampNeg (vp_nar .boolean x5))))] := hv
          refine lv_aload_n hx hb dX5_planOf_55 rfl (lv_at hl 0 rfl) ?_
          refine kGet (v := .ref aT_tos) (C := RX5) (T := TX5) (N := 22) hx hb hts hinX5 hown hv 0 rfl rfl 14 (by decide) hk45 (fun _ h9 => h9) rfl dX5_planOf_56 ?_
          refine lv_iload_n hx hb dX5_planOf_59 rfl (lv_at hl 2 rfl) ?_
          refine lv_aload_n hx hb dX5_planOf_60 rfl (lv_at hl 0 rfl) ?_
          refine kGet (v := .ref aT_ends) (C := RX5) (T := TX5) (N := 22) hx hb hts hinX5 hown hv 0 rfl rfl 3 (by decide) hk13 (fun _ h9 => h9) rfl dX5_planOf_61 ?_
          refine lv_iload_n hx hb dX5_planOf_64 rfl (lv_at hl 2 rfl) ?_
          obtain ⟨hi9, hf⟩ := xi_some hf
          refine kIald hx hb hv 2 rfl hi9 dX5_planOf_65 ?_
          obtain ⟨hi10, hf⟩ := xi_some hf
          refine kIast hx hb hv 8 rfl hi10 dX5_planOf_66 (fun H locs hv => ?_)
          replace hv : Hv s H locs G cy A [(aT, .inr (5, [.int f_thrown, .int f_many, .ref aT_begins, .ref aT_ends, .ref aT_weights, .ref aT_isThere, .ref aT_rooms, .int f_factor, .ref aT_isOffered, .ref aT_isAccepted, .int f_dropped, .ref aT_best, .ref aT_order, .ref aT_froms, .ref aT_tos, .ref aT_counts, .ref aT_points, .ref aT_flows, .ref aT_isUsed, .ref aT_gains, .ref aT_ways, .int f_pointMany])), (aT_begins, .inl (cy.1, 40, .inl A_begins)), (aT_ends, .inl (cy.1, 40, .inl A_ends)), (aT_weights, .inl (cy.1, 40, .inl A_weights)), (aT_isThere, .inl (cy.2.1, 40, .inl A_isThere)), (aT_isOffered, .inl (cy.2.1, 40, .inl A_isOffered)), (aT_best, .inl (cy.1, 1001, .inl A_best)), (aT_froms, .inl (cy.1, 40, .inl (upd A_froms v2.toNatClampNeg (A_begins v2.toNatClampNeg)))), (aT_tos, .inl (cy.1, 40, .inl (upd A_tos v2.toNatClampNeg (A_ends v2.toNatClampNeg)))), (aT_counts, .inl (cy.2.1, 40, .inl (upd A_counts v2.toNatClampNeg (vp_nar .boolean x5))))] := hv
          refine lv_iinc (v := v2 + 1) (lv' := [(2, .int (v2 + 1)), (0, .ref aT), (1, .int v1)]) hx hb dX5_planOf_67 hl (k := 2) rfl rfl (by decide) rfl (fun ls hl => ?_)
          refine lv_goto (tgt := 2) hx hb dX5_planOf_70 (by decide) ?_
          exact ih (v2 + 1) (upd A_froms v2.toNatClampNeg (A_begins v2.toNatClampNeg)) (upd A_tos v2.toNatClampNeg (A_ends v2.toNatClampNeg)) (upd A_counts v2.toNatClampNeg (vp_nar .boolean x5)) hf _ _ _ hv (lv_sub hl [1, 2, 0] rfl) hκ
        refine xj_elim hf (fun j41_11 ej41_11 hf => ?_)
        have J41_11 : ∀ (u : Unit), j41_11 u = some (r, wA_best, wA_froms, wA_tos, wA_counts) → ∀ (H : Heap) (locs : List Loc) (ls : Array Slot), Hv s H locs G cy A [(aT, .inr (5, [.int f_thrown, .int f_many, .ref aT_begins, .ref aT_ends, .ref aT_weights, .ref aT_isThere, .ref aT_rooms, .int f_factor, .ref aT_isOffered, .ref aT_isAccepted, .int f_dropped, .ref aT_best, .ref aT_order, .ref aT_froms, .ref aT_tos, .ref aT_counts, .ref aT_points, .ref aT_flows, .ref aT_isUsed, .ref aT_gains, .ref aT_ways, .int f_pointMany])), (aT_begins, .inl (cy.1, 40, .inl A_begins)), (aT_ends, .inl (cy.1, 40, .inl A_ends)), (aT_weights, .inl (cy.1, 40, .inl A_weights)), (aT_isThere, .inl (cy.2.1, 40, .inl A_isThere)), (aT_isOffered, .inl (cy.2.1, 40, .inl A_isOffered)), (aT_best, .inl (cy.1, 1001, .inl A_best)), (aT_froms, .inl (cy.1, 40, .inl A_froms)), (aT_tos, .inl (cy.1, 40, .inl A_tos)), (aT_counts, .inl (cy.2.1, 40, .inl A_counts))] → lv_has ls 3 [(0, .ref aT), (1, .int v1), (2, .int v2)] → W p l e rm_X5_planOf s m args below meth c H locs 0 0 Q (F0 m 41 ls [.int v2, .ref aT_counts]) := by
          intro u hf H locs ls hv hl
          rw [ej41_11] at hf
          try dsimp only at hf
          refine lv_iconst (v := 0) hx hb dX5_planOf_41 (by decide) ?_
          exact J42_4 0 hf _ _ _ hv (lv_sub hl [0, 1, 2] rfl)
        refine lv_if_eq (tgt := 41) hx hb dX5_planOf_21 (by decide) (fun hc3 => ?_) (fun hc3 => ?_)
        · replace hf := ite_t hf hc3
          exact J41_11 () hf _ _ _ hv (lv_sub hl [0, 1, 2] rfl)
        · replace hf := ite_f hf hc3
          refine lv_iload_n hx hb dX5_planOf_24 rfl (lv_at hl 1 rfl) ?_
          refine xj_elim hf (fun j37_13 ej37_13 hf => ?_)
          have J37_13 : ∀ (u : Unit), j37_13 u = some (r, wA_best, wA_froms, wA_tos, wA_counts) → ∀ (H : Heap) (locs : List Loc) (ls : Array Slot), Hv s H locs G cy A [(aT, .inr (5, [.int f_thrown, .int f_many, .ref aT_begins, .ref aT_ends, .ref aT_weights, .ref aT_isThere, .ref aT_rooms, .int f_factor, .ref aT_isOffered, .ref aT_isAccepted, .int f_dropped, .ref aT_best, .ref aT_order, .ref aT_froms, .ref aT_tos, .ref aT_counts, .ref aT_points, .ref aT_flows, .ref aT_isUsed, .ref aT_gains, .ref aT_ways, .int f_pointMany])), (aT_begins, .inl (cy.1, 40, .inl A_begins)), (aT_ends, .inl (cy.1, 40, .inl A_ends)), (aT_weights, .inl (cy.1, 40, .inl A_weights)), (aT_isThere, .inl (cy.2.1, 40, .inl A_isThere)), (aT_isOffered, .inl (cy.2.1, 40, .inl A_isOffered)), (aT_best, .inl (cy.1, 1001, .inl A_best)), (aT_froms, .inl (cy.1, 40, .inl A_froms)), (aT_tos, .inl (cy.1, 40, .inl A_tos)), (aT_counts, .inl (cy.2.1, 40, .inl A_counts))] → lv_has ls 3 [(0, .ref aT), (1, .int v1), (2, .int v2)] → W p l e rm_X5_planOf s m args below meth c H locs 0 0 Q (F0 m 37 ls [.int v2, .ref aT_counts]) := by
            intro u hf H locs ls hv hl
            rw [ej37_13] at hf
            try dsimp only at hf
            refine lv_iconst (v := 1) hx hb dX5_planOf_37 (by decide) ?_
            refine lv_goto (tgt := 42) hx hb dX5_planOf_38 (by decide) ?_
            exact J42_4 1 hf _ _ _ hv (lv_sub hl [0, 1, 2] rfl)
          refine lv_if_eq (tgt := 37) hx hb dX5_planOf_25 (by decide) (fun hc12 => ?_) (fun hc12 => ?_)
          · replace hf := ite_t hf hc12
            exact J37_13 () hf _ _ _ hv (lv_sub hl [0, 1, 2] rfl)
          · replace hf := ite_f hf hc12
            refine lv_aload_n hx hb dX5_planOf_28 rfl (lv_at hl 0 rfl) ?_
            refine kGet (v := .ref aT_isOffered) (C := RX5) (T := TX5) (N := 22) hx hb hts hinX5 hown hv 0 rfl rfl 8 (by decide) hk30 (fun _ h9 => h9) rfl dX5_planOf_29 ?_
            refine lv_iload_n hx hb dX5_planOf_32 rfl (lv_at hl 2 rfl) ?_
            obtain ⟨hi14, hf⟩ := xi_some hf
            refine kZald hx hb hv 5 rfl hi14 dX5_planOf_33 ?_
            refine lv_if_eq (tgt := 41) hx hb dX5_planOf_34 (by decide) (fun hc15 => ?_) (fun hc15 => ?_)
            · replace hf := ite_t hf hc15
              exact J41_11 () hf _ _ _ hv (lv_sub hl [0, 1, 2] rfl)
            · replace hf := ite_f hf hc15
              exact J37_13 () hf _ _ _ hv (lv_sub hl [0, 1, 2] rfl)
  unfold f_X5_planOf at hf
  refine lv_iconst (v := 0) hx hb dX5_planOf_0 (by decide) ?_
  refine lv_istore_n (lv' := [(2, .int 0), (0, .ref aT), (1, .int p1)]) hx hb dX5_planOf_1 rfl hl (by decide) rfl (fun ls hl => ?_)
  refine L2 _ _ _ _ _ _ _ _ hf _ _ _ hv (lv_sub hl [1, 2, 0] rfl) (fun v2_16 A_froms_17 A_tos_18 A_counts_19 hf H locs ls hv hl => ?_)
  try dsimp only at hf
  refine lv_aload_n hx hb dX5_planOf_73 rfl (lv_at hl 0 rfl) ?_
  refine lv_sipush (v := 1000) hx hb dX5_planOf_74 (by decide) ?_
  obtain ⟨⟨r20, A_best_21⟩, hcl22, hf⟩ := xb_some hf
  dsimp only at hf
  refine kV_i (r := r20) (wr := [(aT_begins, .inl (cy.1, 40, .inl A_begins)), (aT_ends, .inl (cy.1, 40, .inl A_ends)), (aT_isThere, .inl (cy.2.1, 40, .inl A_isThere)), (aT_isOffered, .inl (cy.2.1, 40, .inl A_isOffered))]) (w2 := [(aT, .inr (5, [.int f_thrown, .int f_many, .ref aT_begins, .ref aT_ends, .ref aT_weights, .ref aT_isThere, .ref aT_rooms, .int f_factor, .ref aT_isOffered, .ref aT_isAccepted, .int f_dropped, .ref aT_best, .ref aT_order, .ref aT_froms, .ref aT_tos, .ref aT_counts, .ref aT_points, .ref aT_flows, .ref aT_isUsed, .ref aT_gains, .ref aT_ways, .int f_pointMany])), (aT_begins, .inl (cy.1, 40, .inl A_begins)), (aT_ends, .inl (cy.1, 40, .inl A_ends)), (aT_weights, .inl (cy.1, 40, .inl A_weights)), (aT_isThere, .inl (cy.2.1, 40, .inl A_isThere)), (aT_isOffered, .inl (cy.2.1, 40, .inl A_isOffered)), (aT_best, .inl (cy.1, 1001, .inl A_best_21)), (aT_froms, .inl (cy.1, 40, .inl A_froms_17)), (aT_tos, .inl (cy.1, 40, .inl A_tos_18)), (aT_counts, .inl (cy.2.1, 40, .inl A_counts_19))]) ⟨hx, hb, hml, hown, hts⟩ (c_X5_plan l G cy k aT aT_begins aT_ends aT_weights aT_isThere aT_rooms aT_isOffered aT_isAccepted aT_best aT_order aT_froms aT_tos aT_counts aT_points aT_flows aT_isUsed aT_gains aT_ways f_thrown f_many f_factor f_dropped f_pointMany A_weights A_best A_froms_17 A_tos_18 A_counts_19 1000 hcl22) (cwV 1 hts gX5_planOf_X5_plan rfl rfl rfl (by decide +kernel) ⟨Nat.le_of_ble_eq_true rfl, Nat.le_of_ble_eq_true rfl⟩) hv (isC := [0, 3, 6, 7, 8, 9]) ⟨rfl, rfl⟩ (hv.recv 5 0 rfl rfl) [1, 2, 4, 5] [4, 0, 1, 5, 2, 3, 6, 7, 8, 9] rfl rfl (by decide) rfl rfl rfl hl.1 rfl (Nat.le_of_ble_eq_true rfl) dX5_planOf_77 ⟨Nat.le_of_ble_eq_true rfl, Nat.le_of_ble_eq_true rfl⟩ (fun H locs hv => ?_)
  cases hf
  exact kret _ _ _ _ hv dX5_planOf_80

def f_X5_bestOfOffered (k : Nat) (f_thrown : Int32) (f_many : Int32) (A_begins : Nat → Int32) (A_ends : Nat → Int32) (A_weights : Nat → Int32) (A_isThere : Nat → Int32) (A_isOffered : Nat → Int32) (A_best : Nat → Int32) (A_froms : Nat → Int32) (A_tos : Nat → Int32) (A_counts : Nat → Int32) : Option (Int32 × Int32 × (Nat → Int32) × (Nat → Int32) × (Nat → Int32) × (Nat → Int32)) := xb (f_X5_planOf k 1 f_many A_begins A_ends A_weights A_isThere A_isOffered A_best A_froms A_tos A_counts) (fun (r1, A_best_2, A_froms_3, A_tos_4, A_counts_5) => some (r1, 0, A_best_2, A_froms_3, A_tos_4, A_counts_5))
abbrev rm_X5_bestOfOffered : Room := { frames := 2, cells := 0, slots := 0, locals := 45 }
set_option maxHeartbeats 4000000 in
set_option maxRecDepth 100000 in
theorem c_X5_bestOfOffered (l : Launch) (G : va_G) (cy : ClassId × ClassId × ClassId) (k : Nat) (aT aT_begins aT_ends aT_weights aT_isThere aT_rooms aT_isOffered aT_isAccepted aT_best aT_order aT_froms aT_tos aT_counts aT_points aT_flows aT_isUsed aT_gains aT_ways : Nat) (f_thrown : Int32) (f_many : Int32) (f_factor : Int32) (f_dropped : Int32) (f_pointMany : Int32) (A_begins : Nat → Int32) (A_ends : Nat → Int32) (A_weights : Nat → Int32) (A_isThere : Nat → Int32) (A_isOffered : Nat → Int32) (A_best : Nat → Int32) (A_froms : Nat → Int32) (A_tos : Nat → Int32) (A_counts : Nat → Int32) {r : Int32} {wf_thrown : Int32} {wA_best : Nat → Int32} {wA_froms : Nat → Int32} {wA_tos : Nat → Int32} {wA_counts : Nat → Int32} (hf : f_X5_bestOfOffered k f_thrown f_many A_begins A_ends A_weights A_isThere A_isOffered A_best A_froms A_tos A_counts = some (r, wf_thrown, wA_best, wA_froms, wA_tos, wA_counts)) : Ci l yX5_bestOfOffered wsX5_bestOfOffered rm_X5_bestOfOffered 0 0 G cy [.ref aT] [(aT, .inr (5, [.int f_thrown, .int f_many, .ref aT_begins, .ref aT_ends, .ref aT_weights, .ref aT_isThere, .ref aT_rooms, .int f_factor, .ref aT_isOffered, .ref aT_isAccepted, .int f_dropped, .ref aT_best, .ref aT_order, .ref aT_froms, .ref aT_tos, .ref aT_counts, .ref aT_points, .ref aT_flows, .ref aT_isUsed, .ref aT_gains, .ref aT_ways, .int f_pointMany])), (aT_begins, .inl (cy.1, 40, .inl A_begins)), (aT_ends, .inl (cy.1, 40, .inl A_ends)), (aT_weights, .inl (cy.1, 40, .inl A_weights)), (aT_isThere, .inl (cy.2.1, 40, .inl A_isThere)), (aT_isOffered, .inl (cy.2.1, 40, .inl A_isOffered)), (aT_best, .inl (cy.1, 1001, .inl A_best)), (aT_froms, .inl (cy.1, 40, .inl A_froms)), (aT_tos, .inl (cy.1, 40, .inl A_tos)), (aT_counts, .inl (cy.2.1, 40, .inl A_counts))] [(aT, .inr (5, [.int wf_thrown, .int f_many, .ref aT_begins, .ref aT_ends, .ref aT_weights, .ref aT_isThere, .ref aT_rooms, .int f_factor, .ref aT_isOffered, .ref aT_isAccepted, .int f_dropped, .ref aT_best, .ref aT_order, .ref aT_froms, .ref aT_tos, .ref aT_counts, .ref aT_points, .ref aT_flows, .ref aT_isUsed, .ref aT_gains, .ref aT_ways, .int f_pointMany])), (aT_begins, .inl (cy.1, 40, .inl A_begins)), (aT_ends, .inl (cy.1, 40, .inl A_ends)), (aT_weights, .inl (cy.1, 40, .inl A_weights)), (aT_isThere, .inl (cy.2.1, 40, .inl A_isThere)), (aT_isOffered, .inl (cy.2.1, 40, .inl A_isOffered)), (aT_best, .inl (cy.1, 1001, .inl wA_best)), (aT_froms, .inl (cy.1, 40, .inl wA_froms)), (aT_tos, .inl (cy.1, 40, .inl wA_tos)), (aT_counts, .inl (cy.2.1, 40, .inl wA_counts))] r := by
  refine kMetI (cc := cX5_bestOfOffered) (maxL := 1) (by decide) rfl (Nat.le_of_ble_eq_true rfl) ?_
  intro p e s m args below meth c Q A ls hx hb hml hts hown hv hl kret
  replace hown : s.vm.findClass RX5 = some m.cls := hown
  replace hl : lv_has ls 1 [(0, .ref aT)] := hl
  have hk66 : (Cond.fieldLink RX5 66 "RoomcolourModel" "thrown" "I").before args s = true := hts _ (by decide +kernel)
  have hinX5 : ∀ w ∈ wsX50, w ∈ wsX5_bestOfOffered := by decide +kernel
  unfold f_X5_bestOfOffered at hf
  refine lv_aload_n hx hb dX5_bestOfOffered_0 rfl (lv_at hl 0 rfl) ?_
  refine lv_iconst (v := 0) hx hb dX5_bestOfOffered_1 (by decide) ?_
  refine kPut (v := .int 0) (ty := .int) (C := RX5) (T := TX5) (N := 22) hx hb hts hinX5 tyX5 tyX5_ok nmX5 hown hv 0 rfl rfl 0 (by decide) hk66 (fun _ h9 => h9) rfl (by decide +kernel) rfl rfl (Nat.le_of_ble_eq_true rfl) dX5_bestOfOffered_2 (fun H locs hv => ?_)
  replace hv : Hv s H locs G cy A [(aT, .inr (5, [.int 0, .int f_many, .ref aT_begins, .ref aT_ends, .ref aT_weights, .ref aT_isThere, .ref aT_rooms, .int f_factor, .ref aT_isOffered, .ref aT_isAccepted, .int f_dropped, .ref aT_best, .ref aT_order, .ref aT_froms, .ref aT_tos, .ref aT_counts, .ref aT_points, .ref aT_flows, .ref aT_isUsed, .ref aT_gains, .ref aT_ways, .int f_pointMany])), (aT_begins, .inl (cy.1, 40, .inl A_begins)), (aT_ends, .inl (cy.1, 40, .inl A_ends)), (aT_weights, .inl (cy.1, 40, .inl A_weights)), (aT_isThere, .inl (cy.2.1, 40, .inl A_isThere)), (aT_isOffered, .inl (cy.2.1, 40, .inl A_isOffered)), (aT_best, .inl (cy.1, 1001, .inl A_best)), (aT_froms, .inl (cy.1, 40, .inl A_froms)), (aT_tos, .inl (cy.1, 40, .inl A_tos)), (aT_counts, .inl (cy.2.1, 40, .inl A_counts))] := hv
  refine lv_aload_n hx hb dX5_bestOfOffered_5 rfl (lv_at hl 0 rfl) ?_
  refine lv_iconst (v := 1) hx hb dX5_bestOfOffered_6 (by decide) ?_
  obtain ⟨⟨r1, A_best_2, A_froms_3, A_tos_4, A_counts_5⟩, hcl6, hf⟩ := xb_some hf
  dsimp only at hf
  refine kV_i (r := r1) (wr := []) (w2 := [(aT, .inr (5, [.int 0, .int f_many, .ref aT_begins, .ref aT_ends, .ref aT_weights, .ref aT_isThere, .ref aT_rooms, .int f_factor, .ref aT_isOffered, .ref aT_isAccepted, .int f_dropped, .ref aT_best, .ref aT_order, .ref aT_froms, .ref aT_tos, .ref aT_counts, .ref aT_points, .ref aT_flows, .ref aT_isUsed, .ref aT_gains, .ref aT_ways, .int f_pointMany])), (aT_begins, .inl (cy.1, 40, .inl A_begins)), (aT_ends, .inl (cy.1, 40, .inl A_ends)), (aT_weights, .inl (cy.1, 40, .inl A_weights)), (aT_isThere, .inl (cy.2.1, 40, .inl A_isThere)), (aT_isOffered, .inl (cy.2.1, 40, .inl A_isOffered)), (aT_best, .inl (cy.1, 1001, .inl A_best_2)), (aT_froms, .inl (cy.1, 40, .inl A_froms_3)), (aT_tos, .inl (cy.1, 40, .inl A_tos_4)), (aT_counts, .inl (cy.2.1, 40, .inl A_counts_5))]) ⟨hx, hb, hml, hown, hts⟩ (c_X5_planOf l G cy k aT aT_begins aT_ends aT_weights aT_isThere aT_rooms aT_isOffered aT_isAccepted aT_best aT_order aT_froms aT_tos aT_counts aT_points aT_flows aT_isUsed aT_gains aT_ways 0 f_many f_factor f_dropped f_pointMany A_begins A_ends A_weights A_isThere A_isOffered A_best A_froms A_tos A_counts 1 hcl6) (cwV 1 hts gX5_bestOfOffered_X5_planOf rfl rfl rfl (by decide +kernel) ⟨Nat.le_of_ble_eq_true rfl, Nat.le_of_ble_eq_true rfl⟩) hv (isC := [0, 1, 2, 3, 4, 5, 6, 7, 8, 9]) ⟨rfl, rfl⟩ (hv.recv 5 0 rfl rfl) [] [0, 1, 2, 3, 4, 5, 6, 7, 8, 9] rfl rfl (by decide) rfl rfl rfl hl.1 rfl (Nat.le_of_ble_eq_true rfl) dX5_bestOfOffered_7 ⟨Nat.le_of_ble_eq_true rfl, Nat.le_of_ble_eq_true rfl⟩ (fun H locs hv => ?_)
  cases hf
  exact kret _ _ _ _ hv dX5_bestOfOffered_10

def f_X5_count_L4 (k : Nat) (f_many : Int32) (A_isThere : Nat → Int32) (κ : Int32 → Int32 → Option (Int32)) : Nat → Int32 → Int32 → Option (Int32)
  | 0, _, _ => none
  | n + 1, v1, v2 => if f_many ≤ v2 then κ v1 v2 else xi v2 40 (if (A_isThere v2.toNatClampNeg) = 0 then f_X5_count_L4 k f_many A_isThere κ n (v1 + 0) (v2 + 1) else f_X5_count_L4 k f_many A_isThere κ n (v1 + 1) (v2 + 1))
theorem f_X5_count_L4_z (k : Nat) (f_many : Int32) (A_isThere : Nat → Int32) (κ : Int32 → Int32 → Option (Int32)) (v1 : Int32) (v2 : Int32) : f_X5_count_L4 k f_many A_isThere κ 0 v1 v2 = none := rfl
theorem f_X5_count_L4_s (k : Nat) (f_many : Int32) (A_isThere : Nat → Int32) (κ : Int32 → Int32 → Option (Int32)) (n : Nat) (v1 : Int32) (v2 : Int32) : f_X5_count_L4 k f_many A_isThere κ (n + 1) v1 v2 = if f_many ≤ v2 then κ v1 v2 else xi v2 40 (if (A_isThere v2.toNatClampNeg) = 0 then f_X5_count_L4 k f_many A_isThere κ n (v1 + 0) (v2 + 1) else f_X5_count_L4 k f_many A_isThere κ n (v1 + 1) (v2 + 1)) := rfl
def f_X5_count (k : Nat) (f_many : Int32) (A_isThere : Nat → Int32) : Option (Int32) := f_X5_count_L4 k f_many A_isThere (fun (v1_4 : Int32) (v2_5 : Int32) => some v1_4) k 0 0
abbrev rm_X5_count : Room := { frames := 0, cells := 0, slots := 0, locals := 0 }
set_option maxHeartbeats 4000000 in
set_option maxRecDepth 100000 in
theorem c_X5_count (l : Launch) (G : va_G) (cy : ClassId × ClassId × ClassId) (k : Nat) (aT aT_begins aT_ends aT_weights aT_isThere aT_rooms aT_isOffered aT_isAccepted aT_best aT_order aT_froms aT_tos aT_counts aT_points aT_flows aT_isUsed aT_gains aT_ways : Nat) (f_thrown : Int32) (f_many : Int32) (f_factor : Int32) (f_dropped : Int32) (f_pointMany : Int32) (A_isThere : Nat → Int32) {r : Int32} (hf : f_X5_count k f_many A_isThere = some r) : Ci l yX5_count wsX5_count rm_X5_count 0 0 G cy [.ref aT] [(aT, .inr (5, [.int f_thrown, .int f_many, .ref aT_begins, .ref aT_ends, .ref aT_weights, .ref aT_isThere, .ref aT_rooms, .int f_factor, .ref aT_isOffered, .ref aT_isAccepted, .int f_dropped, .ref aT_best, .ref aT_order, .ref aT_froms, .ref aT_tos, .ref aT_counts, .ref aT_points, .ref aT_flows, .ref aT_isUsed, .ref aT_gains, .ref aT_ways, .int f_pointMany])), (aT_isThere, .inl (cy.2.1, 40, .inl A_isThere))] [(aT, .inr (5, [.int f_thrown, .int f_many, .ref aT_begins, .ref aT_ends, .ref aT_weights, .ref aT_isThere, .ref aT_rooms, .int f_factor, .ref aT_isOffered, .ref aT_isAccepted, .int f_dropped, .ref aT_best, .ref aT_order, .ref aT_froms, .ref aT_tos, .ref aT_counts, .ref aT_points, .ref aT_flows, .ref aT_isUsed, .ref aT_gains, .ref aT_ways, .int f_pointMany])), (aT_isThere, .inl (cy.2.1, 40, .inl A_isThere))] r := by
  refine kMetI (cc := cX5_count) (maxL := 3) (by decide) rfl (Nat.le_of_ble_eq_true rfl) ?_
  intro p e s m args below meth c Q A ls hx hb hml hts hown hv hl kret
  replace hown : s.vm.findClass RX5 = some m.cls := hown
  replace hl : lv_has ls 3 [(0, .ref aT)] := hl
  have hk69 : (Cond.fieldLink RX5 69 "RoomcolourModel" "many" "I").before args s = true := hts _ (by decide +kernel)
  have hinX5 : ∀ w ∈ wsX50, w ∈ wsX5_count := by decide +kernel
  have hk19 : (Cond.fieldLink RX5 19 "RoomcolourModel" "isThere" "[Z").before args s = true := hts _ (by decide +kernel)
  have L4 : ∀ (κ : Int32 → Int32 → Option (Int32)) (n : Nat) (v1 : Int32) (v2 : Int32), f_X5_count_L4 k f_many A_isThere κ n v1 v2 = some r → ∀ (H : Heap) (locs : List Loc) (ls : Array Slot), Hv s H locs G cy A [(aT, .inr (5, [.int f_thrown, .int f_many, .ref aT_begins, .ref aT_ends, .ref aT_weights, .ref aT_isThere, .ref aT_rooms, .int f_factor, .ref aT_isOffered, .ref aT_isAccepted, .int f_dropped, .ref aT_best, .ref aT_order, .ref aT_froms, .ref aT_tos, .ref aT_counts, .ref aT_points, .ref aT_flows, .ref aT_isUsed, .ref aT_gains, .ref aT_ways, .int f_pointMany])), (aT_isThere, .inl (cy.2.1, 40, .inl A_isThere))] → lv_has ls 3 [(0, .ref aT), (1, .int v1), (2, .int v2)] → (∀ (v1 : Int32) (v2 : Int32), κ v1 v2 = some r → ∀ (H : Heap) (locs : List Loc) (ls : Array Slot), Hv s H locs G cy A [(aT, .inr (5, [.int f_thrown, .int f_many, .ref aT_begins, .ref aT_ends, .ref aT_weights, .ref aT_isThere, .ref aT_rooms, .int f_factor, .ref aT_isOffered, .ref aT_isAccepted, .int f_dropped, .ref aT_best, .ref aT_order, .ref aT_froms, .ref aT_tos, .ref aT_counts, .ref aT_points, .ref aT_flows, .ref aT_isUsed, .ref aT_gains, .ref aT_ways, .int f_pointMany])), (aT_isThere, .inl (cy.2.1, 40, .inl A_isThere))] → lv_has ls 3 [(1, .int v1)] → W p l e rm_X5_count s m args below meth c H locs 0 0 Q (F0 m 35 ls [])) → W p l e rm_X5_count s m args below meth c H locs 0 0 Q (F0 m 4 ls []) := by
    intro κ n
    induction n with
    | zero =>
      intro v1 v2 hf
      rw [f_X5_count_L4_z] at hf
      cases hf
    | succ n ih =>
      intro v1 v2 hf H locs ls hv hl hκ
      rw [f_X5_count_L4_s] at hf
      refine lv_iload_n hx hb dX5_count_4 rfl (lv_at hl 2 rfl) ?_
      refine lv_aload_n hx hb dX5_count_5 rfl (lv_at hl 0 rfl) ?_
      refine kGet (v := .int f_many) (C := RX5) (T := TX5) (N := 22) hx hb hts hinX5 hown hv 0 rfl rfl 1 (by decide) hk69 (fun _ h9 => h9) rfl dX5_count_6 ?_
      refine lv_icmp_ge (tgt := 35) hx hb dX5_count_9 (by decide) (fun hc1 => ?_) (fun hc1 => ?_)
      · replace hf := ite_t hf hc1
        exact hκ v1 v2 hf _ _ _ hv (lv_sub hl [1] rfl)
      · replace hf := ite_f hf hc1
        refine lv_iload_n hx hb dX5_count_12 rfl (lv_at hl 1 rfl) ?_
        refine lv_aload_n hx hb dX5_count_13 rfl (lv_at hl 0 rfl) ?_
        refine kGet (v := .ref aT_isThere) (C := RX5) (T := TX5) (N := 22) hx hb hts hinX5 hown hv 0 rfl rfl 5 (by decide) hk19 (fun _ h9 => h9) rfl dX5_count_14 ?_
        refine lv_iload_n hx hb dX5_count_17 rfl (lv_at hl 2 rfl) ?_
        obtain ⟨hi2, hf⟩ := xi_some hf
        refine kZald hx hb hv 1 rfl hi2 dX5_count_18 ?_
        refine lv_if_eq (tgt := 26) hx hb dX5_count_19 (by decide) (fun hc3 => ?_) (fun hc3 => ?_)
        · replace hf := ite_t hf hc3
          refine lv_iconst (v := 0) hx hb dX5_count_26 (by decide) ?_
          refine lv_iadd hx hb dX5_count_27 ?_
          refine lv_istore_n (lv' := [(1, .int (v1 + 0)), (0, .ref aT), (2, .int v2)]) hx hb dX5_count_28 rfl hl (by decide) rfl (fun ls hl => ?_)
          refine lv_iinc (v := v2 + 1) (lv' := [(2, .int (v2 + 1)), (1, .int (v1 + 0)), (0, .ref aT)]) hx hb dX5_count_29 hl (k := 2) rfl rfl (by decide) rfl (fun ls hl => ?_)
          refine lv_goto (tgt := 4) hx hb dX5_count_32 (by decide) ?_
          exact ih (v1 + 0) (v2 + 1) hf _ _ _ hv (lv_sub hl [2, 1, 0] rfl) hκ
        · replace hf := ite_f hf hc3
          refine lv_iconst (v := 1) hx hb dX5_count_22 (by decide) ?_
          refine lv_goto (tgt := 27) hx hb dX5_count_23 (by decide) ?_
          refine lv_iadd hx hb dX5_count_27 ?_
          refine lv_istore_n (lv' := [(1, .int (v1 + 1)), (0, .ref aT), (2, .int v2)]) hx hb dX5_count_28 rfl hl (by decide) rfl (fun ls hl => ?_)
          refine lv_iinc (v := v2 + 1) (lv' := [(2, .int (v2 + 1)), (1, .int (v1 + 1)), (0, .ref aT)]) hx hb dX5_count_29 hl (k := 2) rfl rfl (by decide) rfl (fun ls hl => ?_)
          refine lv_goto (tgt := 4) hx hb dX5_count_32 (by decide) ?_
          exact ih (v1 + 1) (v2 + 1) hf _ _ _ hv (lv_sub hl [2, 1, 0] rfl) hκ
  unfold f_X5_count at hf
  refine lv_iconst (v := 0) hx hb dX5_count_0 (by decide) ?_
  refine lv_istore_n (lv' := [(1, .int 0), (0, .ref aT)]) hx hb dX5_count_1 rfl hl (by decide) rfl (fun ls hl => ?_)
  refine lv_iconst (v := 0) hx hb dX5_count_2 (by decide) ?_
  refine lv_istore_n (lv' := [(2, .int 0), (1, .int 0), (0, .ref aT)]) hx hb dX5_count_3 rfl hl (by decide) rfl (fun ls hl => ?_)
  refine L4 _ _ _ _ hf _ _ _ hv (lv_sub hl [2, 1, 0] rfl) (fun v1_4 v2_5 hf H locs ls hv hl => ?_)
  try dsimp only at hf
  refine lv_iload_n hx hb dX5_count_35 rfl (lv_at hl 0 rfl) ?_
  cases hf
  exact kret _ _ _ _ hv dX5_count_36

def f_X5_depthAt_L4 (k : Nat) (v1 : Int32) (f_many : Int32) (A_begins : Nat → Int32) (A_ends : Nat → Int32) (A_isThere : Nat → Int32) (κ : Int32 → Int32 → Option (Int32)) : Nat → Int32 → Int32 → Option (Int32)
  | 0, _, _ => none
  | n + 1, v2, v3 => if f_many ≤ v3 then κ v2 v3 else xi v3 40 (if (A_isThere v3.toNatClampNeg) = 0 then f_X5_depthAt_L4 k v1 f_many A_begins A_ends A_isThere κ n (v2 + 0) (v3 + 1) else xi v3 40 (if v1 < (A_begins v3.toNatClampNeg) then f_X5_depthAt_L4 k v1 f_many A_begins A_ends A_isThere κ n (v2 + 0) (v3 + 1) else xi v3 40 (if (A_ends v3.toNatClampNeg) ≤ v1 then f_X5_depthAt_L4 k v1 f_many A_begins A_ends A_isThere κ n (v2 + 0) (v3 + 1) else f_X5_depthAt_L4 k v1 f_many A_begins A_ends A_isThere κ n (v2 + 1) (v3 + 1))))
theorem f_X5_depthAt_L4_z (k : Nat) (v1 : Int32) (f_many : Int32) (A_begins : Nat → Int32) (A_ends : Nat → Int32) (A_isThere : Nat → Int32) (κ : Int32 → Int32 → Option (Int32)) (v2 : Int32) (v3 : Int32) : f_X5_depthAt_L4 k v1 f_many A_begins A_ends A_isThere κ 0 v2 v3 = none := rfl
theorem f_X5_depthAt_L4_s (k : Nat) (v1 : Int32) (f_many : Int32) (A_begins : Nat → Int32) (A_ends : Nat → Int32) (A_isThere : Nat → Int32) (κ : Int32 → Int32 → Option (Int32)) (n : Nat) (v2 : Int32) (v3 : Int32) : f_X5_depthAt_L4 k v1 f_many A_begins A_ends A_isThere κ (n + 1) v2 v3 = if f_many ≤ v3 then κ v2 v3 else xi v3 40 (if (A_isThere v3.toNatClampNeg) = 0 then f_X5_depthAt_L4 k v1 f_many A_begins A_ends A_isThere κ n (v2 + 0) (v3 + 1) else xi v3 40 (if v1 < (A_begins v3.toNatClampNeg) then f_X5_depthAt_L4 k v1 f_many A_begins A_ends A_isThere κ n (v2 + 0) (v3 + 1) else xi v3 40 (if (A_ends v3.toNatClampNeg) ≤ v1 then f_X5_depthAt_L4 k v1 f_many A_begins A_ends A_isThere κ n (v2 + 0) (v3 + 1) else f_X5_depthAt_L4 k v1 f_many A_begins A_ends A_isThere κ n (v2 + 1) (v3 + 1)))) := rfl
def f_X5_depthAt (k : Nat) (p1 : Int32) (f_many : Int32) (A_begins : Nat → Int32) (A_ends : Nat → Int32) (A_isThere : Nat → Int32) : Option (Int32) := f_X5_depthAt_L4 k p1 f_many A_begins A_ends A_isThere (fun (v2_8 : Int32) (v3_9 : Int32) => some v2_8) k 0 0
abbrev rm_X5_depthAt : Room := { frames := 0, cells := 0, slots := 0, locals := 0 }
set_option maxHeartbeats 4000000 in
set_option maxRecDepth 100000 in
theorem c_X5_depthAt (l : Launch) (G : va_G) (cy : ClassId × ClassId × ClassId) (k : Nat) (aT aT_begins aT_ends aT_weights aT_isThere aT_rooms aT_isOffered aT_isAccepted aT_best aT_order aT_froms aT_tos aT_counts aT_points aT_flows aT_isUsed aT_gains aT_ways : Nat) (f_thrown : Int32) (f_many : Int32) (f_factor : Int32) (f_dropped : Int32) (f_pointMany : Int32) (A_begins : Nat → Int32) (A_ends : Nat → Int32) (A_isThere : Nat → Int32) (p1 : Int32) {r : Int32} (hf : f_X5_depthAt k p1 f_many A_begins A_ends A_isThere = some r) : Ci l yX5_depthAt wsX5_depthAt rm_X5_depthAt 0 0 G cy [.ref aT, .int p1] [(aT, .inr (5, [.int f_thrown, .int f_many, .ref aT_begins, .ref aT_ends, .ref aT_weights, .ref aT_isThere, .ref aT_rooms, .int f_factor, .ref aT_isOffered, .ref aT_isAccepted, .int f_dropped, .ref aT_best, .ref aT_order, .ref aT_froms, .ref aT_tos, .ref aT_counts, .ref aT_points, .ref aT_flows, .ref aT_isUsed, .ref aT_gains, .ref aT_ways, .int f_pointMany])), (aT_begins, .inl (cy.1, 40, .inl A_begins)), (aT_ends, .inl (cy.1, 40, .inl A_ends)), (aT_isThere, .inl (cy.2.1, 40, .inl A_isThere))] [(aT, .inr (5, [.int f_thrown, .int f_many, .ref aT_begins, .ref aT_ends, .ref aT_weights, .ref aT_isThere, .ref aT_rooms, .int f_factor, .ref aT_isOffered, .ref aT_isAccepted, .int f_dropped, .ref aT_best, .ref aT_order, .ref aT_froms, .ref aT_tos, .ref aT_counts, .ref aT_points, .ref aT_flows, .ref aT_isUsed, .ref aT_gains, .ref aT_ways, .int f_pointMany])), (aT_begins, .inl (cy.1, 40, .inl A_begins)), (aT_ends, .inl (cy.1, 40, .inl A_ends)), (aT_isThere, .inl (cy.2.1, 40, .inl A_isThere))] r := by
  refine kMetI (cc := cX5_depthAt) (maxL := 4) (by decide) rfl (Nat.le_of_ble_eq_true rfl) ?_
  intro p e s m args below meth c Q A ls hx hb hml hts hown hv hl kret
  replace hown : s.vm.findClass RX5 = some m.cls := hown
  replace hl : lv_has ls 4 [(0, .ref aT), (1, .int p1)] := hl
  have hk69 : (Cond.fieldLink RX5 69 "RoomcolourModel" "many" "I").before args s = true := hts _ (by decide +kernel)
  have hinX5 : ∀ w ∈ wsX50, w ∈ wsX5_depthAt := by decide +kernel
  have hk19 : (Cond.fieldLink RX5 19 "RoomcolourModel" "isThere" "[Z").before args s = true := hts _ (by decide +kernel)
  have hk7 : (Cond.fieldLink RX5 7 "RoomcolourModel" "begins" "[I").before args s = true := hts _ (by decide +kernel)
  have hk13 : (Cond.fieldLink RX5 13 "RoomcolourModel" "ends" "[I").before args s = true := hts _ (by decide +kernel)
  have L4 : ∀ (v1 : Int32) (κ : Int32 → Int32 → Option (Int32)) (n : Nat) (v2 : Int32) (v3 : Int32), f_X5_depthAt_L4 k v1 f_many A_begins A_ends A_isThere κ n v2 v3 = some r → ∀ (H : Heap) (locs : List Loc) (ls : Array Slot), Hv s H locs G cy A [(aT, .inr (5, [.int f_thrown, .int f_many, .ref aT_begins, .ref aT_ends, .ref aT_weights, .ref aT_isThere, .ref aT_rooms, .int f_factor, .ref aT_isOffered, .ref aT_isAccepted, .int f_dropped, .ref aT_best, .ref aT_order, .ref aT_froms, .ref aT_tos, .ref aT_counts, .ref aT_points, .ref aT_flows, .ref aT_isUsed, .ref aT_gains, .ref aT_ways, .int f_pointMany])), (aT_begins, .inl (cy.1, 40, .inl A_begins)), (aT_ends, .inl (cy.1, 40, .inl A_ends)), (aT_isThere, .inl (cy.2.1, 40, .inl A_isThere))] → lv_has ls 4 [(0, .ref aT), (1, .int v1), (2, .int v2), (3, .int v3)] → (∀ (v2 : Int32) (v3 : Int32), κ v2 v3 = some r → ∀ (H : Heap) (locs : List Loc) (ls : Array Slot), Hv s H locs G cy A [(aT, .inr (5, [.int f_thrown, .int f_many, .ref aT_begins, .ref aT_ends, .ref aT_weights, .ref aT_isThere, .ref aT_rooms, .int f_factor, .ref aT_isOffered, .ref aT_isAccepted, .int f_dropped, .ref aT_best, .ref aT_order, .ref aT_froms, .ref aT_tos, .ref aT_counts, .ref aT_points, .ref aT_flows, .ref aT_isUsed, .ref aT_gains, .ref aT_ways, .int f_pointMany])), (aT_begins, .inl (cy.1, 40, .inl A_begins)), (aT_ends, .inl (cy.1, 40, .inl A_ends)), (aT_isThere, .inl (cy.2.1, 40, .inl A_isThere))] → lv_has ls 4 [(2, .int v2)] → W p l e rm_X5_depthAt s m args below meth c H locs 0 0 Q (F0 m 55 ls [])) → W p l e rm_X5_depthAt s m args below meth c H locs 0 0 Q (F0 m 4 ls []) := by
    intro v1 κ n
    induction n with
    | zero =>
      intro v2 v3 hf
      rw [f_X5_depthAt_L4_z] at hf
      cases hf
    | succ n ih =>
      intro v2 v3 hf H locs ls hv hl hκ
      rw [f_X5_depthAt_L4_s] at hf
      refine lv_iload_n hx hb dX5_depthAt_4 rfl (lv_at hl 3 rfl) ?_
      refine lv_aload_n hx hb dX5_depthAt_5 rfl (lv_at hl 0 rfl) ?_
      refine kGet (v := .int f_many) (C := RX5) (T := TX5) (N := 22) hx hb hts hinX5 hown hv 0 rfl rfl 1 (by decide) hk69 (fun _ h9 => h9) rfl dX5_depthAt_6 ?_
      refine lv_icmp_ge (tgt := 55) hx hb dX5_depthAt_9 (by decide) (fun hc1 => ?_) (fun hc1 => ?_)
      · replace hf := ite_t hf hc1
        exact hκ v2 v3 hf _ _ _ hv (lv_sub hl [2] rfl)
      · replace hf := ite_f hf hc1
        refine lv_iload_n hx hb dX5_depthAt_12 rfl (lv_at hl 2 rfl) ?_
        refine lv_aload_n hx hb dX5_depthAt_13 rfl (lv_at hl 0 rfl) ?_
        refine kGet (v := .ref aT_isThere) (C := RX5) (T := TX5) (N := 22) hx hb hts hinX5 hown hv 0 rfl rfl 5 (by decide) hk19 (fun _ h9 => h9) rfl dX5_depthAt_14 ?_
        refine lv_iload_n hx hb dX5_depthAt_17 rfl (lv_at hl 3 rfl) ?_
        obtain ⟨hi2, hf⟩ := xi_some hf
        refine kZald hx hb hv 3 rfl hi2 dX5_depthAt_18 ?_
        refine lv_if_eq (tgt := 46) hx hb dX5_depthAt_19 (by decide) (fun hc3 => ?_) (fun hc3 => ?_)
        · replace hf := ite_t hf hc3
          refine lv_iconst (v := 0) hx hb dX5_depthAt_46 (by decide) ?_
          refine lv_iadd hx hb dX5_depthAt_47 ?_
          refine lv_istore_n (lv' := [(2, .int (v2 + 0)), (0, .ref aT), (1, .int v1), (3, .int v3)]) hx hb dX5_depthAt_48 rfl hl (by decide) rfl (fun ls hl => ?_)
          refine lv_iinc (v := v3 + 1) (lv' := [(3, .int (v3 + 1)), (2, .int (v2 + 0)), (0, .ref aT), (1, .int v1)]) hx hb dX5_depthAt_49 hl (k := 3) rfl rfl (by decide) rfl (fun ls hl => ?_)
          refine lv_goto (tgt := 4) hx hb dX5_depthAt_52 (by decide) ?_
          exact ih (v2 + 0) (v3 + 1) hf _ _ _ hv (lv_sub hl [2, 3, 1, 0] rfl) hκ
        · replace hf := ite_f hf hc3
          refine lv_aload_n hx hb dX5_depthAt_22 rfl (lv_at hl 0 rfl) ?_
          refine kGet (v := .ref aT_begins) (C := RX5) (T := TX5) (N := 22) hx hb hts hinX5 hown hv 0 rfl rfl 2 (by decide) hk7 (fun _ h9 => h9) rfl dX5_depthAt_23 ?_
          refine lv_iload_n hx hb dX5_depthAt_26 rfl (lv_at hl 3 rfl) ?_
          obtain ⟨hi4, hf⟩ := xi_some hf
          refine kIald hx hb hv 1 rfl hi4 dX5_depthAt_27 ?_
          refine lv_iload_n hx hb dX5_depthAt_28 rfl (lv_at hl 1 rfl) ?_
          refine lv_icmp_gt (tgt := 46) hx hb dX5_depthAt_29 (by decide) (fun hc5 => ?_) (fun hc5 => ?_)
          · replace hf := ite_t hf hc5
            refine lv_iconst (v := 0) hx hb dX5_depthAt_46 (by decide) ?_
            refine lv_iadd hx hb dX5_depthAt_47 ?_
            refine lv_istore_n (lv' := [(2, .int (v2 + 0)), (0, .ref aT), (1, .int v1), (3, .int v3)]) hx hb dX5_depthAt_48 rfl hl (by decide) rfl (fun ls hl => ?_)
            refine lv_iinc (v := v3 + 1) (lv' := [(3, .int (v3 + 1)), (2, .int (v2 + 0)), (0, .ref aT), (1, .int v1)]) hx hb dX5_depthAt_49 hl (k := 3) rfl rfl (by decide) rfl (fun ls hl => ?_)
            refine lv_goto (tgt := 4) hx hb dX5_depthAt_52 (by decide) ?_
            exact ih (v2 + 0) (v3 + 1) hf _ _ _ hv (lv_sub hl [2, 3, 1, 0] rfl) hκ
          · replace hf := ite_f hf hc5
            refine lv_iload_n hx hb dX5_depthAt_32 rfl (lv_at hl 1 rfl) ?_
            refine lv_aload_n hx hb dX5_depthAt_33 rfl (lv_at hl 0 rfl) ?_
            refine kGet (v := .ref aT_ends) (C := RX5) (T := TX5) (N := 22) hx hb hts hinX5 hown hv 0 rfl rfl 3 (by decide) hk13 (fun _ h9 => h9) rfl dX5_depthAt_34 ?_
            refine lv_iload_n hx hb dX5_depthAt_37 rfl (lv_at hl 3 rfl) ?_
            obtain ⟨hi6, hf⟩ := xi_some hf
            refine kIald hx hb hv 2 rfl hi6 dX5_depthAt_38 ?_
            refine lv_icmp_ge (tgt := 46) hx hb dX5_depthAt_39 (by decide) (fun hc7 => ?_) (fun hc7 => ?_)
            · replace hf := ite_t hf hc7
              refine lv_iconst (v := 0) hx hb dX5_depthAt_46 (by decide) ?_
              refine lv_iadd hx hb dX5_depthAt_47 ?_
              refine lv_istore_n (lv' := [(2, .int (v2 + 0)), (0, .ref aT), (1, .int v1), (3, .int v3)]) hx hb dX5_depthAt_48 rfl hl (by decide) rfl (fun ls hl => ?_)
              refine lv_iinc (v := v3 + 1) (lv' := [(3, .int (v3 + 1)), (2, .int (v2 + 0)), (0, .ref aT), (1, .int v1)]) hx hb dX5_depthAt_49 hl (k := 3) rfl rfl (by decide) rfl (fun ls hl => ?_)
              refine lv_goto (tgt := 4) hx hb dX5_depthAt_52 (by decide) ?_
              exact ih (v2 + 0) (v3 + 1) hf _ _ _ hv (lv_sub hl [2, 3, 1, 0] rfl) hκ
            · replace hf := ite_f hf hc7
              refine lv_iconst (v := 1) hx hb dX5_depthAt_42 (by decide) ?_
              refine lv_goto (tgt := 47) hx hb dX5_depthAt_43 (by decide) ?_
              refine lv_iadd hx hb dX5_depthAt_47 ?_
              refine lv_istore_n (lv' := [(2, .int (v2 + 1)), (0, .ref aT), (1, .int v1), (3, .int v3)]) hx hb dX5_depthAt_48 rfl hl (by decide) rfl (fun ls hl => ?_)
              refine lv_iinc (v := v3 + 1) (lv' := [(3, .int (v3 + 1)), (2, .int (v2 + 1)), (0, .ref aT), (1, .int v1)]) hx hb dX5_depthAt_49 hl (k := 3) rfl rfl (by decide) rfl (fun ls hl => ?_)
              refine lv_goto (tgt := 4) hx hb dX5_depthAt_52 (by decide) ?_
              exact ih (v2 + 1) (v3 + 1) hf _ _ _ hv (lv_sub hl [2, 3, 1, 0] rfl) hκ
  unfold f_X5_depthAt at hf
  refine lv_iconst (v := 0) hx hb dX5_depthAt_0 (by decide) ?_
  refine lv_istore_n (lv' := [(2, .int 0), (0, .ref aT), (1, .int p1)]) hx hb dX5_depthAt_1 rfl hl (by decide) rfl (fun ls hl => ?_)
  refine lv_iconst (v := 0) hx hb dX5_depthAt_2 (by decide) ?_
  refine lv_istore_n (lv' := [(3, .int 0), (2, .int 0), (0, .ref aT), (1, .int p1)]) hx hb dX5_depthAt_3 rfl hl (by decide) rfl (fun ls hl => ?_)
  refine L4 _ _ _ _ _ hf _ _ _ hv (lv_sub hl [2, 3, 1, 0] rfl) (fun v2_8 v3_9 hf H locs ls hv hl => ?_)
  try dsimp only at hf
  refine lv_iload_n hx hb dX5_depthAt_55 rfl (lv_at hl 0 rfl) ?_
  cases hf
  exact kret _ _ _ _ hv dX5_depthAt_56

def f_X5_deepest_L4 (k : Nat) (f_many : Int32) (A_begins : Nat → Int32) (A_ends : Nat → Int32) (A_isThere : Nat → Int32) (κ : Int32 → Int32 → Option (Int32)) : Nat → Int32 → Int32 → Option (Int32)
  | 0, _, _ => none
  | n + 1, v1, v2 => if (1000 : Int32) < v2 then κ v1 v2 else xb (f_X5_depthAt k v2 f_many A_begins A_ends A_isThere) (fun r2 => xb (f_X5_depthAt k v1 f_many A_begins A_ends A_isThere) (fun r4 => if r2 ≤ r4 then f_X5_deepest_L4 k f_many A_begins A_ends A_isThere κ n v1 (v2 + 1) else f_X5_deepest_L4 k f_many A_begins A_ends A_isThere κ n v2 (v2 + 1)))
theorem f_X5_deepest_L4_z (k : Nat) (f_many : Int32) (A_begins : Nat → Int32) (A_ends : Nat → Int32) (A_isThere : Nat → Int32) (κ : Int32 → Int32 → Option (Int32)) (v1 : Int32) (v2 : Int32) : f_X5_deepest_L4 k f_many A_begins A_ends A_isThere κ 0 v1 v2 = none := rfl
theorem f_X5_deepest_L4_s (k : Nat) (f_many : Int32) (A_begins : Nat → Int32) (A_ends : Nat → Int32) (A_isThere : Nat → Int32) (κ : Int32 → Int32 → Option (Int32)) (n : Nat) (v1 : Int32) (v2 : Int32) : f_X5_deepest_L4 k f_many A_begins A_ends A_isThere κ (n + 1) v1 v2 = if (1000 : Int32) < v2 then κ v1 v2 else xb (f_X5_depthAt k v2 f_many A_begins A_ends A_isThere) (fun r2 => xb (f_X5_depthAt k v1 f_many A_begins A_ends A_isThere) (fun r4 => if r2 ≤ r4 then f_X5_deepest_L4 k f_many A_begins A_ends A_isThere κ n v1 (v2 + 1) else f_X5_deepest_L4 k f_many A_begins A_ends A_isThere κ n v2 (v2 + 1))) := rfl
def f_X5_deepest (k : Nat) (f_many : Int32) (A_begins : Nat → Int32) (A_ends : Nat → Int32) (A_isThere : Nat → Int32) : Option (Int32) := f_X5_deepest_L4 k f_many A_begins A_ends A_isThere (fun (v1_7 : Int32) (v2_8 : Int32) => some v1_7) k 0 1
abbrev rm_X5_deepest : Room := { frames := 1, cells := 0, slots := 0, locals := 23 }
set_option maxHeartbeats 4000000 in
set_option maxRecDepth 100000 in
theorem c_X5_deepest (l : Launch) (G : va_G) (cy : ClassId × ClassId × ClassId) (k : Nat) (aT aT_begins aT_ends aT_weights aT_isThere aT_rooms aT_isOffered aT_isAccepted aT_best aT_order aT_froms aT_tos aT_counts aT_points aT_flows aT_isUsed aT_gains aT_ways : Nat) (f_thrown : Int32) (f_many : Int32) (f_factor : Int32) (f_dropped : Int32) (f_pointMany : Int32) (A_begins : Nat → Int32) (A_ends : Nat → Int32) (A_isThere : Nat → Int32) {r : Int32} (hf : f_X5_deepest k f_many A_begins A_ends A_isThere = some r) : Ci l yX5_deepest wsX5_deepest rm_X5_deepest 0 0 G cy [.ref aT] [(aT, .inr (5, [.int f_thrown, .int f_many, .ref aT_begins, .ref aT_ends, .ref aT_weights, .ref aT_isThere, .ref aT_rooms, .int f_factor, .ref aT_isOffered, .ref aT_isAccepted, .int f_dropped, .ref aT_best, .ref aT_order, .ref aT_froms, .ref aT_tos, .ref aT_counts, .ref aT_points, .ref aT_flows, .ref aT_isUsed, .ref aT_gains, .ref aT_ways, .int f_pointMany])), (aT_begins, .inl (cy.1, 40, .inl A_begins)), (aT_ends, .inl (cy.1, 40, .inl A_ends)), (aT_isThere, .inl (cy.2.1, 40, .inl A_isThere))] [(aT, .inr (5, [.int f_thrown, .int f_many, .ref aT_begins, .ref aT_ends, .ref aT_weights, .ref aT_isThere, .ref aT_rooms, .int f_factor, .ref aT_isOffered, .ref aT_isAccepted, .int f_dropped, .ref aT_best, .ref aT_order, .ref aT_froms, .ref aT_tos, .ref aT_counts, .ref aT_points, .ref aT_flows, .ref aT_isUsed, .ref aT_gains, .ref aT_ways, .int f_pointMany])), (aT_begins, .inl (cy.1, 40, .inl A_begins)), (aT_ends, .inl (cy.1, 40, .inl A_ends)), (aT_isThere, .inl (cy.2.1, 40, .inl A_isThere))] r := by
  refine kMetI (cc := cX5_deepest) (maxL := 3) (by decide) rfl (Nat.le_of_ble_eq_true rfl) ?_
  intro p e s m args below meth c Q A ls hx hb hml hts hown hv hl kret
  replace hown : s.vm.findClass RX5 = some m.cls := hown
  replace hl : lv_has ls 3 [(0, .ref aT)] := hl
  have L4 : ∀ (κ : Int32 → Int32 → Option (Int32)) (n : Nat) (v1 : Int32) (v2 : Int32), f_X5_deepest_L4 k f_many A_begins A_ends A_isThere κ n v1 v2 = some r → ∀ (H : Heap) (locs : List Loc) (ls : Array Slot), Hv s H locs G cy A [(aT, .inr (5, [.int f_thrown, .int f_many, .ref aT_begins, .ref aT_ends, .ref aT_weights, .ref aT_isThere, .ref aT_rooms, .int f_factor, .ref aT_isOffered, .ref aT_isAccepted, .int f_dropped, .ref aT_best, .ref aT_order, .ref aT_froms, .ref aT_tos, .ref aT_counts, .ref aT_points, .ref aT_flows, .ref aT_isUsed, .ref aT_gains, .ref aT_ways, .int f_pointMany])), (aT_begins, .inl (cy.1, 40, .inl A_begins)), (aT_ends, .inl (cy.1, 40, .inl A_ends)), (aT_isThere, .inl (cy.2.1, 40, .inl A_isThere))] → lv_has ls 3 [(0, .ref aT), (1, .int v1), (2, .int v2)] → (∀ (v1 : Int32) (v2 : Int32), κ v1 v2 = some r → ∀ (H : Heap) (locs : List Loc) (ls : Array Slot), Hv s H locs G cy A [(aT, .inr (5, [.int f_thrown, .int f_many, .ref aT_begins, .ref aT_ends, .ref aT_weights, .ref aT_isThere, .ref aT_rooms, .int f_factor, .ref aT_isOffered, .ref aT_isAccepted, .int f_dropped, .ref aT_best, .ref aT_order, .ref aT_froms, .ref aT_tos, .ref aT_counts, .ref aT_points, .ref aT_flows, .ref aT_isUsed, .ref aT_gains, .ref aT_ways, .int f_pointMany])), (aT_begins, .inl (cy.1, 40, .inl A_begins)), (aT_ends, .inl (cy.1, 40, .inl A_ends)), (aT_isThere, .inl (cy.2.1, 40, .inl A_isThere))] → lv_has ls 3 [(1, .int v1)] → W p l e rm_X5_deepest s m args below meth c H locs 0 0 Q (F0 m 36 ls [])) → W p l e rm_X5_deepest s m args below meth c H locs 0 0 Q (F0 m 4 ls []) := by
    intro κ n
    induction n with
    | zero =>
      intro v1 v2 hf
      rw [f_X5_deepest_L4_z] at hf
      cases hf
    | succ n ih =>
      intro v1 v2 hf H locs ls hv hl hκ
      rw [f_X5_deepest_L4_s] at hf
      refine lv_iload_n hx hb dX5_deepest_4 rfl (lv_at hl 2 rfl) ?_
      refine lv_sipush (v := 1000) hx hb dX5_deepest_5 (by decide) ?_
      refine lv_icmp_gt (tgt := 36) hx hb dX5_deepest_8 (by decide) (fun hc1 => ?_) (fun hc1 => ?_)
      · replace hf := ite_t hf hc1
        exact hκ v1 v2 hf _ _ _ hv (lv_sub hl [1] rfl)
      · replace hf := ite_f hf hc1
        refine lv_aload_n hx hb dX5_deepest_11 rfl (lv_at hl 0 rfl) ?_
        refine lv_iload_n hx hb dX5_deepest_12 rfl (lv_at hl 2 rfl) ?_
        obtain ⟨r2, hcl3, hf⟩ := xb_some hf
        refine kV_i (r := r2) (wr := []) (w2 := [(aT, .inr (5, [.int f_thrown, .int f_many, .ref aT_begins, .ref aT_ends, .ref aT_weights, .ref aT_isThere, .ref aT_rooms, .int f_factor, .ref aT_isOffered, .ref aT_isAccepted, .int f_dropped, .ref aT_best, .ref aT_order, .ref aT_froms, .ref aT_tos, .ref aT_counts, .ref aT_points, .ref aT_flows, .ref aT_isUsed, .ref aT_gains, .ref aT_ways, .int f_pointMany])), (aT_begins, .inl (cy.1, 40, .inl A_begins)), (aT_ends, .inl (cy.1, 40, .inl A_ends)), (aT_isThere, .inl (cy.2.1, 40, .inl A_isThere))]) ⟨hx, hb, hml, hown, hts⟩ (c_X5_depthAt l G cy k aT aT_begins aT_ends aT_weights aT_isThere aT_rooms aT_isOffered aT_isAccepted aT_best aT_order aT_froms aT_tos aT_counts aT_points aT_flows aT_isUsed aT_gains aT_ways f_thrown f_many f_factor f_dropped f_pointMany A_begins A_ends A_isThere v2 hcl3) (cwV 1 hts gX5_deepest_X5_depthAt rfl rfl rfl (by decide +kernel) ⟨Nat.le_of_ble_eq_true rfl, Nat.le_of_ble_eq_true rfl⟩) hv (isC := [0, 1, 2, 3]) ⟨rfl, rfl⟩ (hv.recv 5 0 rfl rfl) [] [0, 1, 2, 3] rfl rfl (by decide) rfl rfl rfl hl.1 rfl (Nat.le_of_ble_eq_true rfl) dX5_deepest_13 ⟨Nat.le_of_ble_eq_true rfl, Nat.le_of_ble_eq_true rfl⟩ (fun H locs hv => ?_)
        refine lv_aload_n hx hb dX5_deepest_16 rfl (lv_at hl 0 rfl) ?_
        refine lv_iload_n hx hb dX5_deepest_17 rfl (lv_at hl 1 rfl) ?_
        obtain ⟨r4, hcl5, hf⟩ := xb_some hf
        refine kV_i (r := r4) (wr := []) (w2 := [(aT, .inr (5, [.int f_thrown, .int f_many, .ref aT_begins, .ref aT_ends, .ref aT_weights, .ref aT_isThere, .ref aT_rooms, .int f_factor, .ref aT_isOffered, .ref aT_isAccepted, .int f_dropped, .ref aT_best, .ref aT_order, .ref aT_froms, .ref aT_tos, .ref aT_counts, .ref aT_points, .ref aT_flows, .ref aT_isUsed, .ref aT_gains, .ref aT_ways, .int f_pointMany])), (aT_begins, .inl (cy.1, 40, .inl A_begins)), (aT_ends, .inl (cy.1, 40, .inl A_ends)), (aT_isThere, .inl (cy.2.1, 40, .inl A_isThere))]) ⟨hx, hb, hml, hown, hts⟩ (c_X5_depthAt l G cy k aT aT_begins aT_ends aT_weights aT_isThere aT_rooms aT_isOffered aT_isAccepted aT_best aT_order aT_froms aT_tos aT_counts aT_points aT_flows aT_isUsed aT_gains aT_ways f_thrown f_many f_factor f_dropped f_pointMany A_begins A_ends A_isThere v1 hcl5) (cwV 1 hts gX5_deepest_X5_depthAt rfl rfl rfl (by decide +kernel) ⟨Nat.le_of_ble_eq_true rfl, Nat.le_of_ble_eq_true rfl⟩) hv (isC := [0, 1, 2, 3]) ⟨rfl, rfl⟩ (hv.recv 5 0 rfl rfl) [] [0, 1, 2, 3] rfl rfl (by decide) rfl rfl rfl hl.1 rfl (Nat.le_of_ble_eq_true rfl) dX5_deepest_18 ⟨Nat.le_of_ble_eq_true rfl, Nat.le_of_ble_eq_true rfl⟩ (fun H locs hv => ?_)
        refine lv_icmp_le (tgt := 28) hx hb dX5_deepest_21 (by decide) (fun hc6 => ?_) (fun hc6 => ?_)
        · replace hf := ite_t hf hc6
          refine lv_iload_n hx hb dX5_deepest_28 rfl (lv_at hl 1 rfl) ?_
          refine lv_istore_n (lv' := [(1, .int v1), (0, .ref aT), (2, .int v2)]) hx hb dX5_deepest_29 rfl hl (by decide) rfl (fun ls hl => ?_)
          refine lv_iinc (v := v2 + 1) (lv' := [(2, .int (v2 + 1)), (1, .int v1), (0, .ref aT)]) hx hb dX5_deepest_30 hl (k := 2) rfl rfl (by decide) rfl (fun ls hl => ?_)
          refine lv_goto (tgt := 4) hx hb dX5_deepest_33 (by decide) ?_
          exact ih v1 (v2 + 1) hf _ _ _ hv (lv_sub hl [2, 1, 0] rfl) hκ
        · replace hf := ite_f hf hc6
          refine lv_iload_n hx hb dX5_deepest_24 rfl (lv_at hl 2 rfl) ?_
          refine lv_goto (tgt := 29) hx hb dX5_deepest_25 (by decide) ?_
          refine lv_istore_n (lv' := [(1, .int v2), (0, .ref aT), (2, .int v2)]) hx hb dX5_deepest_29 rfl hl (by decide) rfl (fun ls hl => ?_)
          refine lv_iinc (v := v2 + 1) (lv' := [(2, .int (v2 + 1)), (1, .int v2), (0, .ref aT)]) hx hb dX5_deepest_30 hl (k := 2) rfl rfl (by decide) rfl (fun ls hl => ?_)
          refine lv_goto (tgt := 4) hx hb dX5_deepest_33 (by decide) ?_
          exact ih v2 (v2 + 1) hf _ _ _ hv (lv_sub hl [2, 1, 0] rfl) hκ
  unfold f_X5_deepest at hf
  refine lv_iconst (v := 0) hx hb dX5_deepest_0 (by decide) ?_
  refine lv_istore_n (lv' := [(1, .int 0), (0, .ref aT)]) hx hb dX5_deepest_1 rfl hl (by decide) rfl (fun ls hl => ?_)
  refine lv_iconst (v := 1) hx hb dX5_deepest_2 (by decide) ?_
  refine lv_istore_n (lv' := [(2, .int 1), (1, .int 0), (0, .ref aT)]) hx hb dX5_deepest_3 rfl hl (by decide) rfl (fun ls hl => ?_)
  refine L4 _ _ _ _ hf _ _ _ hv (lv_sub hl [2, 1, 0] rfl) (fun v1_7 v2_8 hf H locs ls hv hl => ?_)
  try dsimp only at hf
  refine lv_iload_n hx hb dX5_deepest_36 rfl (lv_at hl 0 rfl) ?_
  cases hf
  exact kret _ _ _ _ hv dX5_deepest_37

def f_X5_busiest (k : Nat) (f_thrown : Int32) (f_many : Int32) (A_begins : Nat → Int32) (A_ends : Nat → Int32) (A_isThere : Nat → Int32) : Option (Int32 × Int32) := xb (f_X5_count k f_many A_isThere) (fun r1 => if r1 = 0 then some ((-1), 0) else xb (f_X5_deepest k f_many A_begins A_ends A_isThere) (fun r4 => some (r4, 0)))
abbrev rm_X5_busiest : Room := { frames := 2, cells := 0, slots := 0, locals := 45 }
set_option maxHeartbeats 4000000 in
set_option maxRecDepth 100000 in
theorem c_X5_busiest (l : Launch) (G : va_G) (cy : ClassId × ClassId × ClassId) (k : Nat) (aT aT_begins aT_ends aT_weights aT_isThere aT_rooms aT_isOffered aT_isAccepted aT_best aT_order aT_froms aT_tos aT_counts aT_points aT_flows aT_isUsed aT_gains aT_ways : Nat) (f_thrown : Int32) (f_many : Int32) (f_factor : Int32) (f_dropped : Int32) (f_pointMany : Int32) (A_begins : Nat → Int32) (A_ends : Nat → Int32) (A_isThere : Nat → Int32) {r : Int32} {wf_thrown : Int32} (hf : f_X5_busiest k f_thrown f_many A_begins A_ends A_isThere = some (r, wf_thrown)) : Ci l yX5_busiest wsX5_busiest rm_X5_busiest 0 0 G cy [.ref aT] [(aT, .inr (5, [.int f_thrown, .int f_many, .ref aT_begins, .ref aT_ends, .ref aT_weights, .ref aT_isThere, .ref aT_rooms, .int f_factor, .ref aT_isOffered, .ref aT_isAccepted, .int f_dropped, .ref aT_best, .ref aT_order, .ref aT_froms, .ref aT_tos, .ref aT_counts, .ref aT_points, .ref aT_flows, .ref aT_isUsed, .ref aT_gains, .ref aT_ways, .int f_pointMany])), (aT_begins, .inl (cy.1, 40, .inl A_begins)), (aT_ends, .inl (cy.1, 40, .inl A_ends)), (aT_isThere, .inl (cy.2.1, 40, .inl A_isThere))] [(aT, .inr (5, [.int wf_thrown, .int f_many, .ref aT_begins, .ref aT_ends, .ref aT_weights, .ref aT_isThere, .ref aT_rooms, .int f_factor, .ref aT_isOffered, .ref aT_isAccepted, .int f_dropped, .ref aT_best, .ref aT_order, .ref aT_froms, .ref aT_tos, .ref aT_counts, .ref aT_points, .ref aT_flows, .ref aT_isUsed, .ref aT_gains, .ref aT_ways, .int f_pointMany])), (aT_begins, .inl (cy.1, 40, .inl A_begins)), (aT_ends, .inl (cy.1, 40, .inl A_ends)), (aT_isThere, .inl (cy.2.1, 40, .inl A_isThere))] r := by
  refine kMetI (cc := cX5_busiest) (maxL := 1) (by decide) rfl (Nat.le_of_ble_eq_true rfl) ?_
  intro p e s m args below meth c Q A ls hx hb hml hts hown hv hl kret
  replace hown : s.vm.findClass RX5 = some m.cls := hown
  replace hl : lv_has ls 1 [(0, .ref aT)] := hl
  have hk66 : (Cond.fieldLink RX5 66 "RoomcolourModel" "thrown" "I").before args s = true := hts _ (by decide +kernel)
  have hinX5 : ∀ w ∈ wsX50, w ∈ wsX5_busiest := by decide +kernel
  unfold f_X5_busiest at hf
  refine lv_aload_n hx hb dX5_busiest_0 rfl (lv_at hl 0 rfl) ?_
  refine lv_iconst (v := 0) hx hb dX5_busiest_1 (by decide) ?_
  refine kPut (v := .int 0) (ty := .int) (C := RX5) (T := TX5) (N := 22) hx hb hts hinX5 tyX5 tyX5_ok nmX5 hown hv 0 rfl rfl 0 (by decide) hk66 (fun _ h9 => h9) rfl (by decide +kernel) rfl rfl (Nat.le_of_ble_eq_true rfl) dX5_busiest_2 (fun H locs hv => ?_)
  replace hv : Hv s H locs G cy A [(aT, .inr (5, [.int 0, .int f_many, .ref aT_begins, .ref aT_ends, .ref aT_weights, .ref aT_isThere, .ref aT_rooms, .int f_factor, .ref aT_isOffered, .ref aT_isAccepted, .int f_dropped, .ref aT_best, .ref aT_order, .ref aT_froms, .ref aT_tos, .ref aT_counts, .ref aT_points, .ref aT_flows, .ref aT_isUsed, .ref aT_gains, .ref aT_ways, .int f_pointMany])), (aT_begins, .inl (cy.1, 40, .inl A_begins)), (aT_ends, .inl (cy.1, 40, .inl A_ends)), (aT_isThere, .inl (cy.2.1, 40, .inl A_isThere))] := hv
  refine lv_aload_n hx hb dX5_busiest_5 rfl (lv_at hl 0 rfl) ?_
  obtain ⟨r1, hcl2, hf⟩ := xb_some hf
  refine kV_i (r := r1) (wr := [(aT_begins, .inl (cy.1, 40, .inl A_begins)), (aT_ends, .inl (cy.1, 40, .inl A_ends))]) (w2 := [(aT, .inr (5, [.int 0, .int f_many, .ref aT_begins, .ref aT_ends, .ref aT_weights, .ref aT_isThere, .ref aT_rooms, .int f_factor, .ref aT_isOffered, .ref aT_isAccepted, .int f_dropped, .ref aT_best, .ref aT_order, .ref aT_froms, .ref aT_tos, .ref aT_counts, .ref aT_points, .ref aT_flows, .ref aT_isUsed, .ref aT_gains, .ref aT_ways, .int f_pointMany])), (aT_begins, .inl (cy.1, 40, .inl A_begins)), (aT_ends, .inl (cy.1, 40, .inl A_ends)), (aT_isThere, .inl (cy.2.1, 40, .inl A_isThere))]) ⟨hx, hb, hml, hown, hts⟩ (c_X5_count l G cy k aT aT_begins aT_ends aT_weights aT_isThere aT_rooms aT_isOffered aT_isAccepted aT_best aT_order aT_froms aT_tos aT_counts aT_points aT_flows aT_isUsed aT_gains aT_ways 0 f_many f_factor f_dropped f_pointMany A_isThere hcl2) (cwV 0 hts gX5_busiest_X5_count rfl rfl rfl (by decide +kernel) ⟨Nat.le_of_ble_eq_true rfl, Nat.le_of_ble_eq_true rfl⟩) hv (isC := [0, 3]) ⟨rfl, rfl⟩ (hv.recv 5 0 rfl rfl) [1, 2] [2, 0, 1, 3] rfl rfl (by decide) rfl rfl rfl hl.1 rfl (Nat.le_of_ble_eq_true rfl) dX5_busiest_6 ⟨Nat.le_of_ble_eq_true rfl, Nat.le_of_ble_eq_true rfl⟩ (fun H locs hv => ?_)
  refine lv_if_ne (tgt := 16) hx hb dX5_busiest_9 (by decide) (fun hc3 => ?_) (fun hc3 => ?_)
  · replace hf := ite_f hf hc3
    refine lv_aload_n hx hb dX5_busiest_16 rfl (lv_at hl 0 rfl) ?_
    obtain ⟨r4, hcl5, hf⟩ := xb_some hf
    refine kV_i (r := r4) (wr := []) (w2 := [(aT, .inr (5, [.int 0, .int f_many, .ref aT_begins, .ref aT_ends, .ref aT_weights, .ref aT_isThere, .ref aT_rooms, .int f_factor, .ref aT_isOffered, .ref aT_isAccepted, .int f_dropped, .ref aT_best, .ref aT_order, .ref aT_froms, .ref aT_tos, .ref aT_counts, .ref aT_points, .ref aT_flows, .ref aT_isUsed, .ref aT_gains, .ref aT_ways, .int f_pointMany])), (aT_begins, .inl (cy.1, 40, .inl A_begins)), (aT_ends, .inl (cy.1, 40, .inl A_ends)), (aT_isThere, .inl (cy.2.1, 40, .inl A_isThere))]) ⟨hx, hb, hml, hown, hts⟩ (c_X5_deepest l G cy k aT aT_begins aT_ends aT_weights aT_isThere aT_rooms aT_isOffered aT_isAccepted aT_best aT_order aT_froms aT_tos aT_counts aT_points aT_flows aT_isUsed aT_gains aT_ways 0 f_many f_factor f_dropped f_pointMany A_begins A_ends A_isThere hcl5) (cwV 0 hts gX5_busiest_X5_deepest rfl rfl rfl (by decide +kernel) ⟨Nat.le_of_ble_eq_true rfl, Nat.le_of_ble_eq_true rfl⟩) hv (isC := [0, 1, 2, 3]) ⟨rfl, rfl⟩ (hv.recv 5 0 rfl rfl) [] [0, 1, 2, 3] rfl rfl (by decide) rfl rfl rfl hl.1 rfl (Nat.le_of_ble_eq_true rfl) dX5_busiest_17 ⟨Nat.le_of_ble_eq_true rfl, Nat.le_of_ble_eq_true rfl⟩ (fun H locs hv => ?_)
    cases hf
    exact kret _ _ _ _ hv dX5_busiest_20
  · replace hf := ite_t hf hc3
    refine lv_iconst (v := (-1)) hx hb dX5_busiest_12 (by decide) ?_
    refine lv_goto (tgt := 20) hx hb dX5_busiest_13 (by decide) ?_
    cases hf
    exact kret _ _ _ _ hv dX5_busiest_20

def f_X5_layOrder_L13 (k : Nat) (v2 : Int32) (f_many : Int32) (A_ends : Nat → Int32) (A_isThere : Nat → Int32) (κ : Int32 → Int32 → (Nat → Int32) → Option (Int32 × (Nat → Int32))) : Nat → Int32 → Int32 → (Nat → Int32) → Option (Int32 × (Nat → Int32))
  | 0, _, _, _ => none
  | n + 1, v1, v3, A_order => if f_many ≤ v3 then κ v1 v3 A_order else xi v3 40 (if (A_isThere v3.toNatClampNeg) = 0 then f_X5_layOrder_L13 k v2 f_many A_ends A_isThere κ n v1 (v3 + 1) A_order else xi v3 40 (if (A_ends v3.toNatClampNeg) = v2 then xi v1 40 (f_X5_layOrder_L13 k v2 f_many A_ends A_isThere κ n (v1 + 1) (v3 + 1) (upd A_order v1.toNatClampNeg v3)) else f_X5_layOrder_L13 k v2 f_many A_ends A_isThere κ n v1 (v3 + 1) A_order))
theorem f_X5_layOrder_L13_z (k : Nat) (v2 : Int32) (f_many : Int32) (A_ends : Nat → Int32) (A_isThere : Nat → Int32) (κ : Int32 → Int32 → (Nat → Int32) → Option (Int32 × (Nat → Int32))) (v1 : Int32) (v3 : Int32) (A_order : Nat → Int32) : f_X5_layOrder_L13 k v2 f_many A_ends A_isThere κ 0 v1 v3 A_order = none := rfl
theorem f_X5_layOrder_L13_s (k : Nat) (v2 : Int32) (f_many : Int32) (A_ends : Nat → Int32) (A_isThere : Nat → Int32) (κ : Int32 → Int32 → (Nat → Int32) → Option (Int32 × (Nat → Int32))) (n : Nat) (v1 : Int32) (v3 : Int32) (A_order : Nat → Int32) : f_X5_layOrder_L13 k v2 f_many A_ends A_isThere κ (n + 1) v1 v3 A_order = if f_many ≤ v3 then κ v1 v3 A_order else xi v3 40 (if (A_isThere v3.toNatClampNeg) = 0 then f_X5_layOrder_L13 k v2 f_many A_ends A_isThere κ n v1 (v3 + 1) A_order else xi v3 40 (if (A_ends v3.toNatClampNeg) = v2 then xi v1 40 (f_X5_layOrder_L13 k v2 f_many A_ends A_isThere κ n (v1 + 1) (v3 + 1) (upd A_order v1.toNatClampNeg v3)) else f_X5_layOrder_L13 k v2 f_many A_ends A_isThere κ n v1 (v3 + 1) A_order)) := rfl
def f_X5_layOrder_L4 (k : Nat) (f_many : Int32) (A_ends : Nat → Int32) (A_isThere : Nat → Int32) (κ : Int32 → Int32 → (Nat → Int32) → Option (Int32 × (Nat → Int32))) : Nat → Int32 → Int32 → (Nat → Int32) → Option (Int32 × (Nat → Int32))
  | 0, _, _, _ => none
  | n + 1, v1, v2, A_order => if (1000 : Int32) < v2 then κ v1 v2 A_order else f_X5_layOrder_L13 k v2 f_many A_ends A_isThere (fun (v1_8 : Int32) (v3_9 : Int32) (A_order_10 : Nat → Int32) => f_X5_layOrder_L4 k f_many A_ends A_isThere κ n v1_8 (v2 + 1) A_order_10) k v1 0 A_order
theorem f_X5_layOrder_L4_z (k : Nat) (f_many : Int32) (A_ends : Nat → Int32) (A_isThere : Nat → Int32) (κ : Int32 → Int32 → (Nat → Int32) → Option (Int32 × (Nat → Int32))) (v1 : Int32) (v2 : Int32) (A_order : Nat → Int32) : f_X5_layOrder_L4 k f_many A_ends A_isThere κ 0 v1 v2 A_order = none := rfl
theorem f_X5_layOrder_L4_s (k : Nat) (f_many : Int32) (A_ends : Nat → Int32) (A_isThere : Nat → Int32) (κ : Int32 → Int32 → (Nat → Int32) → Option (Int32 × (Nat → Int32))) (n : Nat) (v1 : Int32) (v2 : Int32) (A_order : Nat → Int32) : f_X5_layOrder_L4 k f_many A_ends A_isThere κ (n + 1) v1 v2 A_order = if (1000 : Int32) < v2 then κ v1 v2 A_order else f_X5_layOrder_L13 k v2 f_many A_ends A_isThere (fun (v1_8 : Int32) (v3_9 : Int32) (A_order_10 : Nat → Int32) => f_X5_layOrder_L4 k f_many A_ends A_isThere κ n v1_8 (v2 + 1) A_order_10) k v1 0 A_order := rfl
def f_X5_layOrder (k : Nat) (f_many : Int32) (A_ends : Nat → Int32) (A_isThere : Nat → Int32) (A_order : Nat → Int32) : Option (Int32 × (Nat → Int32)) := f_X5_layOrder_L4 k f_many A_ends A_isThere (fun (v1_11 : Int32) (v2_12 : Int32) (A_order_13 : Nat → Int32) => some (v1_11, A_order_13)) k 0 1 A_order
abbrev rm_X5_layOrder : Room := { frames := 0, cells := 0, slots := 0, locals := 0 }
set_option maxHeartbeats 4000000 in
set_option maxRecDepth 100000 in
theorem c_X5_layOrder (l : Launch) (G : va_G) (cy : ClassId × ClassId × ClassId) (k : Nat) (aT aT_begins aT_ends aT_weights aT_isThere aT_rooms aT_isOffered aT_isAccepted aT_best aT_order aT_froms aT_tos aT_counts aT_points aT_flows aT_isUsed aT_gains aT_ways : Nat) (f_thrown : Int32) (f_many : Int32) (f_factor : Int32) (f_dropped : Int32) (f_pointMany : Int32) (A_ends : Nat → Int32) (A_isThere : Nat → Int32) (A_order : Nat → Int32) {r : Int32} {wA_order : Nat → Int32} (hf : f_X5_layOrder k f_many A_ends A_isThere A_order = some (r, wA_order)) : Ci l yX5_layOrder wsX5_layOrder rm_X5_layOrder 0 0 G cy [.ref aT] [(aT, .inr (5, [.int f_thrown, .int f_many, .ref aT_begins, .ref aT_ends, .ref aT_weights, .ref aT_isThere, .ref aT_rooms, .int f_factor, .ref aT_isOffered, .ref aT_isAccepted, .int f_dropped, .ref aT_best, .ref aT_order, .ref aT_froms, .ref aT_tos, .ref aT_counts, .ref aT_points, .ref aT_flows, .ref aT_isUsed, .ref aT_gains, .ref aT_ways, .int f_pointMany])), (aT_ends, .inl (cy.1, 40, .inl A_ends)), (aT_isThere, .inl (cy.2.1, 40, .inl A_isThere)), (aT_order, .inl (cy.1, 40, .inl A_order))] [(aT, .inr (5, [.int f_thrown, .int f_many, .ref aT_begins, .ref aT_ends, .ref aT_weights, .ref aT_isThere, .ref aT_rooms, .int f_factor, .ref aT_isOffered, .ref aT_isAccepted, .int f_dropped, .ref aT_best, .ref aT_order, .ref aT_froms, .ref aT_tos, .ref aT_counts, .ref aT_points, .ref aT_flows, .ref aT_isUsed, .ref aT_gains, .ref aT_ways, .int f_pointMany])), (aT_ends, .inl (cy.1, 40, .inl A_ends)), (aT_isThere, .inl (cy.2.1, 40, .inl A_isThere)), (aT_order, .inl (cy.1, 40, .inl wA_order))] r := by
  refine kMetI (cc := cX5_layOrder) (maxL := 4) (by decide) rfl (Nat.le_of_ble_eq_true rfl) ?_
  intro p e s m args below meth c Q A ls hx hb hml hts hown hv hl kret
  replace hown : s.vm.findClass RX5 = some m.cls := hown
  replace hl : lv_has ls 4 [(0, .ref aT)] := hl
  have hk69 : (Cond.fieldLink RX5 69 "RoomcolourModel" "many" "I").before args s = true := hts _ (by decide +kernel)
  have hinX5 : ∀ w ∈ wsX50, w ∈ wsX5_layOrder := by decide +kernel
  have hk19 : (Cond.fieldLink RX5 19 "RoomcolourModel" "isThere" "[Z").before args s = true := hts _ (by decide +kernel)
  have hk13 : (Cond.fieldLink RX5 13 "RoomcolourModel" "ends" "[I").before args s = true := hts _ (by decide +kernel)
  have hk39 : (Cond.fieldLink RX5 39 "RoomcolourModel" "order" "[I").before args s = true := hts _ (by decide +kernel)
  have L13 : ∀ (v2 : Int32) (κ : Int32 → Int32 → (Nat → Int32) → Option (Int32 × (Nat → Int32))) (n : Nat) (v1 : Int32) (v3 : Int32) (A_order : Nat → Int32), f_X5_layOrder_L13 k v2 f_many A_ends A_isThere κ n v1 v3 A_order = some (r, wA_order) → ∀ (H : Heap) (locs : List Loc) (ls : Array Slot), Hv s H locs G cy A [(aT, .inr (5, [.int f_thrown, .int f_many, .ref aT_begins, .ref aT_ends, .ref aT_weights, .ref aT_isThere, .ref aT_rooms, .int f_factor, .ref aT_isOffered, .ref aT_isAccepted, .int f_dropped, .ref aT_best, .ref aT_order, .ref aT_froms, .ref aT_tos, .ref aT_counts, .ref aT_points, .ref aT_flows, .ref aT_isUsed, .ref aT_gains, .ref aT_ways, .int f_pointMany])), (aT_ends, .inl (cy.1, 40, .inl A_ends)), (aT_isThere, .inl (cy.2.1, 40, .inl A_isThere)), (aT_order, .inl (cy.1, 40, .inl A_order))] → lv_has ls 4 [(0, .ref aT), (1, .int v1), (2, .int v2), (3, .int v3)] → (∀ (v1 : Int32) (v3 : Int32) (A_order : Nat → Int32), κ v1 v3 A_order = some (r, wA_order) → ∀ (H : Heap) (locs : List Loc) (ls : Array Slot), Hv s H locs G cy A [(aT, .inr (5, [.int f_thrown, .int f_many, .ref aT_begins, .ref aT_ends, .ref aT_weights, .ref aT_isThere, .ref aT_rooms, .int f_factor, .ref aT_isOffered, .ref aT_isAccepted, .int f_dropped, .ref aT_best, .ref aT_order, .ref aT_froms, .ref aT_tos, .ref aT_counts, .ref aT_points, .ref aT_flows, .ref aT_isUsed, .ref aT_gains, .ref aT_ways, .int f_pointMany])), (aT_ends, .inl (cy.1, 40, .inl A_ends)), (aT_isThere, .inl (cy.2.1, 40, .inl A_isThere)), (aT_order, .inl (cy.1, 40, .inl A_order))] → lv_has ls 4 [(0, .ref aT), (1, .int v1), (2, .int v2)] → W p l e rm_X5_layOrder s m args below meth c H locs 0 0 Q (F0 m 56 ls [])) → W p l e rm_X5_layOrder s m args below meth c H locs 0 0 Q (F0 m 13 ls []) := by
    intro v2 κ n
    induction n with
    | zero =>
      intro v1 v3 A_order hf
      rw [f_X5_layOrder_L13_z] at hf
      cases hf
    | succ n ih =>
      intro v1 v3 A_order hf H locs ls hv hl hκ
      rw [f_X5_layOrder_L13_s] at hf
      refine lv_iload_n hx hb dX5_layOrder_13 rfl (lv_at hl 3 rfl) ?_
      refine lv_aload_n hx hb dX5_layOrder_14 rfl (lv_at hl 0 rfl) ?_
      refine kGet (v := .int f_many) (C := RX5) (T := TX5) (N := 22) hx hb hts hinX5 hown hv 0 rfl rfl 1 (by decide) hk69 (fun _ h9 => h9) rfl dX5_layOrder_15 ?_
      refine lv_icmp_ge (tgt := 56) hx hb dX5_layOrder_18 (by decide) (fun hc2 => ?_) (fun hc2 => ?_)
      · replace hf := ite_t hf hc2
        exact hκ v1 v3 A_order hf _ _ _ hv (lv_sub hl [0, 1, 2] rfl)
      · replace hf := ite_f hf hc2
        refine lv_aload_n hx hb dX5_layOrder_21 rfl (lv_at hl 0 rfl) ?_
        refine kGet (v := .ref aT_isThere) (C := RX5) (T := TX5) (N := 22) hx hb hts hinX5 hown hv 0 rfl rfl 5 (by decide) hk19 (fun _ h9 => h9) rfl dX5_layOrder_22 ?_
        refine lv_iload_n hx hb dX5_layOrder_25 rfl (lv_at hl 3 rfl) ?_
        obtain ⟨hi3, hf⟩ := xi_some hf
        refine kZald hx hb hv 2 rfl hi3 dX5_layOrder_26 ?_
        refine lv_if_eq (tgt := 50) hx hb dX5_layOrder_27 (by decide) (fun hc4 => ?_) (fun hc4 => ?_)
        · replace hf := ite_t hf hc4
          refine lv_iinc (v := v3 + 1) (lv' := [(3, .int (v3 + 1)), (0, .ref aT), (1, .int v1), (2, .int v2)]) hx hb dX5_layOrder_50 hl (k := 3) rfl rfl (by decide) rfl (fun ls hl => ?_)
          refine lv_goto (tgt := 13) hx hb dX5_layOrder_53 (by decide) ?_
          exact ih v1 (v3 + 1) A_order hf _ _ _ hv (lv_sub hl [1, 2, 3, 0] rfl) hκ
        · replace hf := ite_f hf hc4
          refine lv_aload_n hx hb dX5_layOrder_30 rfl (lv_at hl 0 rfl) ?_
          refine kGet (v := .ref aT_ends) (C := RX5) (T := TX5) (N := 22) hx hb hts hinX5 hown hv 0 rfl rfl 3 (by decide) hk13 (fun _ h9 => h9) rfl dX5_layOrder_31 ?_
          refine lv_iload_n hx hb dX5_layOrder_34 rfl (lv_at hl 3 rfl) ?_
          obtain ⟨hi5, hf⟩ := xi_some hf
          refine kIald hx hb hv 1 rfl hi5 dX5_layOrder_35 ?_
          refine lv_iload_n hx hb dX5_layOrder_36 rfl (lv_at hl 2 rfl) ?_
          refine lv_icmp_ne (tgt := 50) hx hb dX5_layOrder_37 (by decide) (fun hc6 => ?_) (fun hc6 => ?_)
          · replace hf := ite_f hf hc6
            refine lv_iinc (v := v3 + 1) (lv' := [(3, .int (v3 + 1)), (0, .ref aT), (1, .int v1), (2, .int v2)]) hx hb dX5_layOrder_50 hl (k := 3) rfl rfl (by decide) rfl (fun ls hl => ?_)
            refine lv_goto (tgt := 13) hx hb dX5_layOrder_53 (by decide) ?_
            exact ih v1 (v3 + 1) A_order hf _ _ _ hv (lv_sub hl [1, 2, 3, 0] rfl) hκ
          · replace hf := ite_t hf hc6
            refine lv_aload_n hx hb dX5_layOrder_40 rfl (lv_at hl 0 rfl) ?_
            refine kGet (v := .ref aT_order) (C := RX5) (T := TX5) (N := 22) hx hb hts hinX5 hown hv 0 rfl rfl 12 (by decide) hk39 (fun _ h9 => h9) rfl dX5_layOrder_41 ?_
            refine lv_iload_n hx hb dX5_layOrder_44 rfl (lv_at hl 1 rfl) ?_
            refine lv_iload_n hx hb dX5_layOrder_45 rfl (lv_at hl 3 rfl) ?_
            obtain ⟨hi7, hf⟩ := xi_some hf
            refine kIast hx hb hv 3 rfl hi7 dX5_layOrder_46 (fun H locs hv => ?_)
            replace hv : Hv s H locs G cy A [(aT, .inr (5, [.int f_thrown, .int f_many, .ref aT_begins, .ref aT_ends, .ref aT_weights, .ref aT_isThere, .ref aT_rooms, .int f_factor, .ref aT_isOffered, .ref aT_isAccepted, .int f_dropped, .ref aT_best, .ref aT_order, .ref aT_froms, .ref aT_tos, .ref aT_counts, .ref aT_points, .ref aT_flows, .ref aT_isUsed, .ref aT_gains, .ref aT_ways, .int f_pointMany])), (aT_ends, .inl (cy.1, 40, .inl A_ends)), (aT_isThere, .inl (cy.2.1, 40, .inl A_isThere)), (aT_order, .inl (cy.1, 40, .inl (upd A_order v1.toNatClampNeg v3)))] := hv
            refine lv_iinc (v := v1 + 1) (lv' := [(1, .int (v1 + 1)), (0, .ref aT), (2, .int v2), (3, .int v3)]) hx hb dX5_layOrder_47 hl (k := 1) rfl rfl (by decide) rfl (fun ls hl => ?_)
            refine lv_iinc (v := v3 + 1) (lv' := [(3, .int (v3 + 1)), (1, .int (v1 + 1)), (0, .ref aT), (2, .int v2)]) hx hb dX5_layOrder_50 hl (k := 3) rfl rfl (by decide) rfl (fun ls hl => ?_)
            refine lv_goto (tgt := 13) hx hb dX5_layOrder_53 (by decide) ?_
            exact ih (v1 + 1) (v3 + 1) (upd A_order v1.toNatClampNeg v3) hf _ _ _ hv (lv_sub hl [2, 1, 3, 0] rfl) hκ
  have L4 : ∀ (κ : Int32 → Int32 → (Nat → Int32) → Option (Int32 × (Nat → Int32))) (n : Nat) (v1 : Int32) (v2 : Int32) (A_order : Nat → Int32), f_X5_layOrder_L4 k f_many A_ends A_isThere κ n v1 v2 A_order = some (r, wA_order) → ∀ (H : Heap) (locs : List Loc) (ls : Array Slot), Hv s H locs G cy A [(aT, .inr (5, [.int f_thrown, .int f_many, .ref aT_begins, .ref aT_ends, .ref aT_weights, .ref aT_isThere, .ref aT_rooms, .int f_factor, .ref aT_isOffered, .ref aT_isAccepted, .int f_dropped, .ref aT_best, .ref aT_order, .ref aT_froms, .ref aT_tos, .ref aT_counts, .ref aT_points, .ref aT_flows, .ref aT_isUsed, .ref aT_gains, .ref aT_ways, .int f_pointMany])), (aT_ends, .inl (cy.1, 40, .inl A_ends)), (aT_isThere, .inl (cy.2.1, 40, .inl A_isThere)), (aT_order, .inl (cy.1, 40, .inl A_order))] → lv_has ls 4 [(0, .ref aT), (1, .int v1), (2, .int v2)] → (∀ (v1 : Int32) (v2 : Int32) (A_order : Nat → Int32), κ v1 v2 A_order = some (r, wA_order) → ∀ (H : Heap) (locs : List Loc) (ls : Array Slot), Hv s H locs G cy A [(aT, .inr (5, [.int f_thrown, .int f_many, .ref aT_begins, .ref aT_ends, .ref aT_weights, .ref aT_isThere, .ref aT_rooms, .int f_factor, .ref aT_isOffered, .ref aT_isAccepted, .int f_dropped, .ref aT_best, .ref aT_order, .ref aT_froms, .ref aT_tos, .ref aT_counts, .ref aT_points, .ref aT_flows, .ref aT_isUsed, .ref aT_gains, .ref aT_ways, .int f_pointMany])), (aT_ends, .inl (cy.1, 40, .inl A_ends)), (aT_isThere, .inl (cy.2.1, 40, .inl A_isThere)), (aT_order, .inl (cy.1, 40, .inl A_order))] → lv_has ls 4 [(1, .int v1)] → W p l e rm_X5_layOrder s m args below meth c H locs 0 0 Q (F0 m 62 ls [])) → W p l e rm_X5_layOrder s m args below meth c H locs 0 0 Q (F0 m 4 ls []) := by
    intro κ n
    induction n with
    | zero =>
      intro v1 v2 A_order hf
      rw [f_X5_layOrder_L4_z] at hf
      cases hf
    | succ n ih =>
      intro v1 v2 A_order hf H locs ls hv hl hκ
      rw [f_X5_layOrder_L4_s] at hf
      refine lv_iload_n hx hb dX5_layOrder_4 rfl (lv_at hl 2 rfl) ?_
      refine lv_sipush (v := 1000) hx hb dX5_layOrder_5 (by decide) ?_
      refine lv_icmp_gt (tgt := 62) hx hb dX5_layOrder_8 (by decide) (fun hc1 => ?_) (fun hc1 => ?_)
      · replace hf := ite_t hf hc1
        exact hκ v1 v2 A_order hf _ _ _ hv (lv_sub hl [1] rfl)
      · replace hf := ite_f hf hc1
        refine lv_iconst (v := 0) hx hb dX5_layOrder_11 (by decide) ?_
        refine lv_istore_n (lv' := [(3, .int 0), (0, .ref aT), (1, .int v1), (2, .int v2)]) hx hb dX5_layOrder_12 rfl hl (by decide) rfl (fun ls hl => ?_)
        refine L13 _ _ _ _ _ _ hf _ _ _ hv (lv_sub hl [1, 2, 3, 0] rfl) (fun v1_8 v3_9 A_order_10 hf H locs ls hv hl => ?_)
        try dsimp only at hf
        refine lv_iinc (v := v2 + 1) (lv' := [(2, .int (v2 + 1)), (0, .ref aT), (1, .int v1_8)]) hx hb dX5_layOrder_56 hl (k := 2) rfl rfl (by decide) rfl (fun ls hl => ?_)
        refine lv_goto (tgt := 4) hx hb dX5_layOrder_59 (by decide) ?_
        exact ih v1_8 (v2 + 1) A_order_10 hf _ _ _ hv (lv_sub hl [1, 2, 0] rfl) hκ
  unfold f_X5_layOrder at hf
  refine lv_iconst (v := 0) hx hb dX5_layOrder_0 (by decide) ?_
  refine lv_istore_n (lv' := [(1, .int 0), (0, .ref aT)]) hx hb dX5_layOrder_1 rfl hl (by decide) rfl (fun ls hl => ?_)
  refine lv_iconst (v := 1) hx hb dX5_layOrder_2 (by decide) ?_
  refine lv_istore_n (lv' := [(2, .int 1), (1, .int 0), (0, .ref aT)]) hx hb dX5_layOrder_3 rfl hl (by decide) rfl (fun ls hl => ?_)
  refine L4 _ _ _ _ _ hf _ _ _ hv (lv_sub hl [2, 1, 0] rfl) (fun v1_11 v2_12 A_order_13 hf H locs ls hv hl => ?_)
  try dsimp only at hf
  refine lv_iload_n hx hb dX5_layOrder_62 rfl (lv_at hl 0 rfl) ?_
  cases hf
  exact kret _ _ _ _ hv dX5_layOrder_63

def f_X5_planOfFirst_L2 (k : Nat) (v1 : Int32) (f_many : Int32) (κ : Int32 → (Nat → Int32) → Option (Int32 × (Nat → Int32) × (Nat → Int32) × (Nat → Int32) × (Nat → Int32))) : Nat → Int32 → (Nat → Int32) → Option (Int32 × (Nat → Int32) × (Nat → Int32) × (Nat → Int32) × (Nat → Int32))
  | 0, _, _ => none
  | n + 1, v2, A_counts => if f_many ≤ v2 then κ v2 A_counts else xi v2 40 (f_X5_planOfFirst_L2 k v1 f_many κ n (v2 + 1) (upd A_counts v2.toNatClampNeg (vp_nar .boolean 0)))
theorem f_X5_planOfFirst_L2_z (k : Nat) (v1 : Int32) (f_many : Int32) (κ : Int32 → (Nat → Int32) → Option (Int32 × (Nat → Int32) × (Nat → Int32) × (Nat → Int32) × (Nat → Int32))) (v2 : Int32) (A_counts : Nat → Int32) : f_X5_planOfFirst_L2 k v1 f_many κ 0 v2 A_counts = none := rfl
theorem f_X5_planOfFirst_L2_s (k : Nat) (v1 : Int32) (f_many : Int32) (κ : Int32 → (Nat → Int32) → Option (Int32 × (Nat → Int32) × (Nat → Int32) × (Nat → Int32) × (Nat → Int32))) (n : Nat) (v2 : Int32) (A_counts : Nat → Int32) : f_X5_planOfFirst_L2 k v1 f_many κ (n + 1) v2 A_counts = if f_many ≤ v2 then κ v2 A_counts else xi v2 40 (f_X5_planOfFirst_L2 k v1 f_many κ n (v2 + 1) (upd A_counts v2.toNatClampNeg (vp_nar .boolean 0))) := rfl
def f_X5_planOfFirst_L25 (k : Nat) (v1 : Int32) (A_begins : Nat → Int32) (A_ends : Nat → Int32) (A_order : Nat → Int32) (κ : Int32 → (Nat → Int32) → (Nat → Int32) → (Nat → Int32) → Option (Int32 × (Nat → Int32) × (Nat → Int32) × (Nat → Int32) × (Nat → Int32))) : Nat → Int32 → (Nat → Int32) → (Nat → Int32) → (Nat → Int32) → Option (Int32 × (Nat → Int32) × (Nat → Int32) × (Nat → Int32) × (Nat → Int32))
  | 0, _, _, _, _ => none
  | n + 1, v2, A_froms, A_tos, A_counts => if v1 ≤ v2 then κ v2 A_froms A_tos A_counts else xi v2 40 (xi (A_order v2.toNatClampNeg) 40 (xi v2 40 (xi v2 40 (xi (A_order v2.toNatClampNeg) 40 (xi (A_order v2.toNatClampNeg) 40 (xi v2 40 (xi v2 40 (xi (A_order v2.toNatClampNeg) 40 (xi (A_order v2.toNatClampNeg) 40 (f_X5_planOfFirst_L25 k v1 A_begins A_ends A_order κ n (v2 + 1) (upd A_froms (A_order v2.toNatClampNeg).toNatClampNeg (A_begins (A_order v2.toNatClampNeg).toNatClampNeg)) (upd A_tos (A_order v2.toNatClampNeg).toNatClampNeg (A_ends (A_order v2.toNatClampNeg).toNatClampNeg)) (upd A_counts (A_order v2.toNatClampNeg).toNatClampNeg (vp_nar .boolean 1))))))))))))
theorem f_X5_planOfFirst_L25_z (k : Nat) (v1 : Int32) (A_begins : Nat → Int32) (A_ends : Nat → Int32) (A_order : Nat → Int32) (κ : Int32 → (Nat → Int32) → (Nat → Int32) → (Nat → Int32) → Option (Int32 × (Nat → Int32) × (Nat → Int32) × (Nat → Int32) × (Nat → Int32))) (v2 : Int32) (A_froms : Nat → Int32) (A_tos : Nat → Int32) (A_counts : Nat → Int32) : f_X5_planOfFirst_L25 k v1 A_begins A_ends A_order κ 0 v2 A_froms A_tos A_counts = none := rfl
theorem f_X5_planOfFirst_L25_s (k : Nat) (v1 : Int32) (A_begins : Nat → Int32) (A_ends : Nat → Int32) (A_order : Nat → Int32) (κ : Int32 → (Nat → Int32) → (Nat → Int32) → (Nat → Int32) → Option (Int32 × (Nat → Int32) × (Nat → Int32) × (Nat → Int32) × (Nat → Int32))) (n : Nat) (v2 : Int32) (A_froms : Nat → Int32) (A_tos : Nat → Int32) (A_counts : Nat → Int32) : f_X5_planOfFirst_L25 k v1 A_begins A_ends A_order κ (n + 1) v2 A_froms A_tos A_counts = if v1 ≤ v2 then κ v2 A_froms A_tos A_counts else xi v2 40 (xi (A_order v2.toNatClampNeg) 40 (xi v2 40 (xi v2 40 (xi (A_order v2.toNatClampNeg) 40 (xi (A_order v2.toNatClampNeg) 40 (xi v2 40 (xi v2 40 (xi (A_order v2.toNatClampNeg) 40 (xi (A_order v2.toNatClampNeg) 40 (f_X5_planOfFirst_L25 k v1 A_begins A_ends A_order κ n (v2 + 1) (upd A_froms (A_order v2.toNatClampNeg).toNatClampNeg (A_begins (A_order v2.toNatClampNeg).toNatClampNeg)) (upd A_tos (A_order v2.toNatClampNeg).toNatClampNeg (A_ends (A_order v2.toNatClampNeg).toNatClampNeg)) (upd A_counts (A_order v2.toNatClampNeg).toNatClampNeg (vp_nar .boolean 1)))))))))))) := rfl
def f_X5_planOfFirst (k : Nat) (p1 : Int32) (f_many : Int32) (A_begins : Nat → Int32) (A_ends : Nat → Int32) (A_weights : Nat → Int32) (A_best : Nat → Int32) (A_order : Nat → Int32) (A_froms : Nat → Int32) (A_tos : Nat → Int32) (A_counts : Nat → Int32) : Option (Int32 × (Nat → Int32) × (Nat → Int32) × (Nat → Int32) × (Nat → Int32)) := f_X5_planOfFirst_L2 k p1 f_many (fun (v2_3 : Int32) (A_counts_4 : Nat → Int32) => f_X5_planOfFirst_L25 k p1 A_begins A_ends A_order (fun (v2_16 : Int32) (A_froms_17 : Nat → Int32) (A_tos_18 : Nat → Int32) (A_counts_19 : Nat → Int32) => xb (f_X5_plan k 1000 f_many A_weights A_best A_froms_17 A_tos_18 A_counts_19) (fun (r20, A_best_21) => some (r20, A_best_21, A_froms_17, A_tos_18, A_counts_19))) k 0 A_froms A_tos A_counts_4) k 0 A_counts
abbrev rm_X5_planOfFirst : Room := { frames := 1, cells := 0, slots := 0, locals := 23 }
set_option maxHeartbeats 4000000 in
set_option maxRecDepth 100000 in
theorem c_X5_planOfFirst (l : Launch) (G : va_G) (cy : ClassId × ClassId × ClassId) (k : Nat) (aT aT_begins aT_ends aT_weights aT_isThere aT_rooms aT_isOffered aT_isAccepted aT_best aT_order aT_froms aT_tos aT_counts aT_points aT_flows aT_isUsed aT_gains aT_ways : Nat) (f_thrown : Int32) (f_many : Int32) (f_factor : Int32) (f_dropped : Int32) (f_pointMany : Int32) (A_begins : Nat → Int32) (A_ends : Nat → Int32) (A_weights : Nat → Int32) (A_best : Nat → Int32) (A_order : Nat → Int32) (A_froms : Nat → Int32) (A_tos : Nat → Int32) (A_counts : Nat → Int32) (p1 : Int32) {r : Int32} {wA_best : Nat → Int32} {wA_froms : Nat → Int32} {wA_tos : Nat → Int32} {wA_counts : Nat → Int32} (hf : f_X5_planOfFirst k p1 f_many A_begins A_ends A_weights A_best A_order A_froms A_tos A_counts = some (r, wA_best, wA_froms, wA_tos, wA_counts)) : Ci l yX5_planOfFirst wsX5_planOfFirst rm_X5_planOfFirst 0 0 G cy [.ref aT, .int p1] [(aT, .inr (5, [.int f_thrown, .int f_many, .ref aT_begins, .ref aT_ends, .ref aT_weights, .ref aT_isThere, .ref aT_rooms, .int f_factor, .ref aT_isOffered, .ref aT_isAccepted, .int f_dropped, .ref aT_best, .ref aT_order, .ref aT_froms, .ref aT_tos, .ref aT_counts, .ref aT_points, .ref aT_flows, .ref aT_isUsed, .ref aT_gains, .ref aT_ways, .int f_pointMany])), (aT_begins, .inl (cy.1, 40, .inl A_begins)), (aT_ends, .inl (cy.1, 40, .inl A_ends)), (aT_weights, .inl (cy.1, 40, .inl A_weights)), (aT_best, .inl (cy.1, 1001, .inl A_best)), (aT_order, .inl (cy.1, 40, .inl A_order)), (aT_froms, .inl (cy.1, 40, .inl A_froms)), (aT_tos, .inl (cy.1, 40, .inl A_tos)), (aT_counts, .inl (cy.2.1, 40, .inl A_counts))] [(aT, .inr (5, [.int f_thrown, .int f_many, .ref aT_begins, .ref aT_ends, .ref aT_weights, .ref aT_isThere, .ref aT_rooms, .int f_factor, .ref aT_isOffered, .ref aT_isAccepted, .int f_dropped, .ref aT_best, .ref aT_order, .ref aT_froms, .ref aT_tos, .ref aT_counts, .ref aT_points, .ref aT_flows, .ref aT_isUsed, .ref aT_gains, .ref aT_ways, .int f_pointMany])), (aT_begins, .inl (cy.1, 40, .inl A_begins)), (aT_ends, .inl (cy.1, 40, .inl A_ends)), (aT_weights, .inl (cy.1, 40, .inl A_weights)), (aT_best, .inl (cy.1, 1001, .inl wA_best)), (aT_order, .inl (cy.1, 40, .inl A_order)), (aT_froms, .inl (cy.1, 40, .inl wA_froms)), (aT_tos, .inl (cy.1, 40, .inl wA_tos)), (aT_counts, .inl (cy.2.1, 40, .inl wA_counts))] r := by
  refine kMetI (cc := cX5_planOfFirst) (maxL := 3) (by decide) rfl (Nat.le_of_ble_eq_true rfl) ?_
  intro p e s m args below meth c Q A ls hx hb hml hts hown hv hl kret
  replace hown : s.vm.findClass RX5 = some m.cls := hown
  replace hl : lv_has ls 3 [(0, .ref aT), (1, .int p1)] := hl
  have hk69 : (Cond.fieldLink RX5 69 "RoomcolourModel" "many" "I").before args s = true := hts _ (by decide +kernel)
  have hinX5 : ∀ w ∈ wsX50, w ∈ wsX5_planOfFirst := by decide +kernel
  have hk48 : (Cond.fieldLink RX5 48 "RoomcolourModel" "counts" "[Z").before args s = true := hts _ (by decide +kernel)
  have hk39 : (Cond.fieldLink RX5 39 "RoomcolourModel" "order" "[I").before args s = true := hts _ (by decide +kernel)
  have hk42 : (Cond.fieldLink RX5 42 "RoomcolourModel" "froms" "[I").before args s = true := hts _ (by decide +kernel)
  have hk7 : (Cond.fieldLink RX5 7 "RoomcolourModel" "begins" "[I").before args s = true := hts _ (by decide +kernel)
  have hk45 : (Cond.fieldLink RX5 45 "RoomcolourModel" "tos" "[I").before args s = true := hts _ (by decide +kernel)
  have hk13 : (Cond.fieldLink RX5 13 "RoomcolourModel" "ends" "[I").before args s = true := hts _ (by decide +kernel)
  have L2 : ∀ (v1 : Int32) (A_best : Nat → Int32) (A_froms : Nat → Int32) (A_tos : Nat → Int32) (κ : Int32 → (Nat → Int32) → Option (Int32 × (Nat → Int32) × (Nat → Int32) × (Nat → Int32) × (Nat → Int32))) (n : Nat) (v2 : Int32) (A_counts : Nat → Int32), f_X5_planOfFirst_L2 k v1 f_many κ n v2 A_counts = some (r, wA_best, wA_froms, wA_tos, wA_counts) → ∀ (H : Heap) (locs : List Loc) (ls : Array Slot), Hv s H locs G cy A [(aT, .inr (5, [.int f_thrown, .int f_many, .ref aT_begins, .ref aT_ends, .ref aT_weights, .ref aT_isThere, .ref aT_rooms, .int f_factor, .ref aT_isOffered, .ref aT_isAccepted, .int f_dropped, .ref aT_best, .ref aT_order, .ref aT_froms, .ref aT_tos, .ref aT_counts, .ref aT_points, .ref aT_flows, .ref aT_isUsed, .ref aT_gains, .ref aT_ways, .int f_pointMany])), (aT_begins, .inl (cy.1, 40, .inl A_begins)), (aT_ends, .inl (cy.1, 40, .inl A_ends)), (aT_weights, .inl (cy.1, 40, .inl A_weights)), (aT_best, .inl (cy.1, 1001, .inl A_best)), (aT_order, .inl (cy.1, 40, .inl A_order)), (aT_froms, .inl (cy.1, 40, .inl A_froms)), (aT_tos, .inl (cy.1, 40, .inl A_tos)), (aT_counts, .inl (cy.2.1, 40, .inl A_counts))] → lv_has ls 3 [(0, .ref aT), (1, .int v1), (2, .int v2)] → (∀ (v2 : Int32) (A_counts : Nat → Int32), κ v2 A_counts = some (r, wA_best, wA_froms, wA_tos, wA_counts) → ∀ (H : Heap) (locs : List Loc) (ls : Array Slot), Hv s H locs G cy A [(aT, .inr (5, [.int f_thrown, .int f_many, .ref aT_begins, .ref aT_ends, .ref aT_weights, .ref aT_isThere, .ref aT_rooms, .int f_factor, .ref aT_isOffered, .ref aT_isAccepted, .int f_dropped, .ref aT_best, .ref aT_order, .ref aT_froms, .ref aT_tos, .ref aT_counts, .ref aT_points, .ref aT_flows, .ref aT_isUsed, .ref aT_gains, .ref aT_ways, .int f_pointMany])), (aT_begins, .inl (cy.1, 40, .inl A_begins)), (aT_ends, .inl (cy.1, 40, .inl A_ends)), (aT_weights, .inl (cy.1, 40, .inl A_weights)), (aT_best, .inl (cy.1, 1001, .inl A_best)), (aT_order, .inl (cy.1, 40, .inl A_order)), (aT_froms, .inl (cy.1, 40, .inl A_froms)), (aT_tos, .inl (cy.1, 40, .inl A_tos)), (aT_counts, .inl (cy.2.1, 40, .inl A_counts))] → lv_has ls 3 [(0, .ref aT), (1, .int v1)] → W p l e rm_X5_planOfFirst s m args below meth c H locs 0 0 Q (F0 m 23 ls [])) → W p l e rm_X5_planOfFirst s m args below meth c H locs 0 0 Q (F0 m 2 ls []) := by
    intro v1 A_best A_froms A_tos κ n
    induction n with
    | zero =>
      intro v2 A_counts hf
      rw [f_X5_planOfFirst_L2_z] at hf
      cases hf
    | succ n ih =>
      intro v2 A_counts hf H locs ls hv hl hκ
      rw [f_X5_planOfFirst_L2_s] at hf
      refine lv_iload_n hx hb dX5_planOfFirst_2 rfl (lv_at hl 2 rfl) ?_
      refine lv_aload_n hx hb dX5_planOfFirst_3 rfl (lv_at hl 0 rfl) ?_
      refine kGet (v := .int f_many) (C := RX5) (T := TX5) (N := 22) hx hb hts hinX5 hown hv 0 rfl rfl 1 (by decide) hk69 (fun _ h9 => h9) rfl dX5_planOfFirst_4 ?_
      refine lv_icmp_ge (tgt := 23) hx hb dX5_planOfFirst_7 (by decide) (fun hc1 => ?_) (fun hc1 => ?_)
      · replace hf := ite_t hf hc1
        exact hκ v2 A_counts hf _ _ _ hv (lv_sub hl [0, 1] rfl)
      · replace hf := ite_f hf hc1
        refine lv_aload_n hx hb dX5_planOfFirst_10 rfl (lv_at hl 0 rfl) ?_
        refine kGet (v := .ref aT_counts) (C := RX5) (T := TX5) (N := 22) hx hb hts hinX5 hown hv 0 rfl rfl 15 (by decide) hk48 (fun _ h9 => h9) rfl dX5_planOfFirst_11 ?_
        refine lv_iload_n hx hb dX5_planOfFirst_14 rfl (lv_at hl 2 rfl) ?_
        refine lv_iconst (v := 0) hx hb dX5_planOfFirst_15 (by decide) ?_
        obtain ⟨hi2, hf⟩ := xi_some hf
        refine kZast hx hb hv 8 rfl hi2 dX5_planOfFirst_16 (fun H locs hv => ?_)
        replace hv : Hv s H locs G cy A [(aT, .inr (5, [.int f_thrown, .int f_many, .ref aT_begins, .ref aT_ends, .ref aT_weights, .ref aT_isThere, .ref aT_rooms, .int f_factor, .ref aT_isOffered, .ref aT_isAccepted, .int f_dropped, .ref aT_best, .ref aT_order, .ref aT_froms, .ref aT_tos, .ref aT_counts, .ref aT_points, .ref aT_flows, .ref aT_isUsed, .ref aT_gains, .ref aT_ways, .int f_pointMany])), (aT_begins, .inl (cy.1, 40, .inl A_begins)), (aT_ends, .inl (cy.1, 40, .inl A_ends)), (aT_weights, .inl (cy.1, 40, .inl A_weights)), (aT_best, .inl (cy.1, 1001, .inl A_best)), (aT_order, .inl (cy.1, 40, .inl A_order)), (aT_froms, .inl (cy.1, 40, .inl A_froms)), (aT_tos, .inl (cy.1, 40, .inl A_tos)), (aT_counts, .inl (cy.2.1, 40, .inl (upd A_counts v2.toNatClampNeg (vp_nar .boolean 0))))] := hv
        refine lv_iinc (v := v2 + 1) (lv' := [(2, .int (v2 + 1)), (0, .ref aT), (1, .int v1)]) hx hb dX5_planOfFirst_17 hl (k := 2) rfl rfl (by decide) rfl (fun ls hl => ?_)
        refine lv_goto (tgt := 2) hx hb dX5_planOfFirst_20 (by decide) ?_
        exact ih (v2 + 1) (upd A_counts v2.toNatClampNeg (vp_nar .boolean 0)) hf _ _ _ hv (lv_sub hl [1, 2, 0] rfl) hκ
  have L25 : ∀ (v1 : Int32) (A_best : Nat → Int32) (κ : Int32 → (Nat → Int32) → (Nat → Int32) → (Nat → Int32) → Option (Int32 × (Nat → Int32) × (Nat → Int32) × (Nat → Int32) × (Nat → Int32))) (n : Nat) (v2 : Int32) (A_froms : Nat → Int32) (A_tos : Nat → Int32) (A_counts : Nat → Int32), f_X5_planOfFirst_L25 k v1 A_begins A_ends A_order κ n v2 A_froms A_tos A_counts = some (r, wA_best, wA_froms, wA_tos, wA_counts) → ∀ (H : Heap) (locs : List Loc) (ls : Array Slot), Hv s H locs G cy A [(aT, .inr (5, [.int f_thrown, .int f_many, .ref aT_begins, .ref aT_ends, .ref aT_weights, .ref aT_isThere, .ref aT_rooms, .int f_factor, .ref aT_isOffered, .ref aT_isAccepted, .int f_dropped, .ref aT_best, .ref aT_order, .ref aT_froms, .ref aT_tos, .ref aT_counts, .ref aT_points, .ref aT_flows, .ref aT_isUsed, .ref aT_gains, .ref aT_ways, .int f_pointMany])), (aT_begins, .inl (cy.1, 40, .inl A_begins)), (aT_ends, .inl (cy.1, 40, .inl A_ends)), (aT_weights, .inl (cy.1, 40, .inl A_weights)), (aT_best, .inl (cy.1, 1001, .inl A_best)), (aT_order, .inl (cy.1, 40, .inl A_order)), (aT_froms, .inl (cy.1, 40, .inl A_froms)), (aT_tos, .inl (cy.1, 40, .inl A_tos)), (aT_counts, .inl (cy.2.1, 40, .inl A_counts))] → lv_has ls 3 [(0, .ref aT), (1, .int v1), (2, .int v2)] → (∀ (v2 : Int32) (A_froms : Nat → Int32) (A_tos : Nat → Int32) (A_counts : Nat → Int32), κ v2 A_froms A_tos A_counts = some (r, wA_best, wA_froms, wA_tos, wA_counts) → ∀ (H : Heap) (locs : List Loc) (ls : Array Slot), Hv s H locs G cy A [(aT, .inr (5, [.int f_thrown, .int f_many, .ref aT_begins, .ref aT_ends, .ref aT_weights, .ref aT_isThere, .ref aT_rooms, .int f_factor, .ref aT_isOffered, .ref aT_isAccepted, .int f_dropped, .ref aT_best, .ref aT_order, .ref aT_froms, .ref aT_tos, .ref aT_counts, .ref aT_points, .ref aT_flows, .ref aT_isUsed, .ref aT_gains, .ref aT_ways, .int f_pointMany])), (aT_begins, .inl (cy.1, 40, .inl A_begins)), (aT_ends, .inl (cy.1, 40, .inl A_ends)), (aT_weights, .inl (cy.1, 40, .inl A_weights)), (aT_best, .inl (cy.1, 1001, .inl A_best)), (aT_order, .inl (cy.1, 40, .inl A_order)), (aT_froms, .inl (cy.1, 40, .inl A_froms)), (aT_tos, .inl (cy.1, 40, .inl A_tos)), (aT_counts, .inl (cy.2.1, 40, .inl A_counts))] → lv_has ls 3 [(0, .ref aT)] → W p l e rm_X5_planOfFirst s m args below meth c H locs 0 0 Q (F0 m 92 ls [])) → W p l e rm_X5_planOfFirst s m args below meth c H locs 0 0 Q (F0 m 25 ls []) := by
    intro v1 A_best κ n
    induction n with
    | zero =>
      intro v2 A_froms A_tos A_counts hf
      rw [f_X5_planOfFirst_L25_z] at hf
      cases hf
    | succ n ih =>
      intro v2 A_froms A_tos A_counts hf H locs ls hv hl hκ
      rw [f_X5_planOfFirst_L25_s] at hf
      refine lv_iload_n hx hb dX5_planOfFirst_25 rfl (lv_at hl 2 rfl) ?_
      refine lv_iload_n hx hb dX5_planOfFirst_26 rfl (lv_at hl 1 rfl) ?_
      refine lv_icmp_ge (tgt := 92) hx hb dX5_planOfFirst_27 (by decide) (fun hc5 => ?_) (fun hc5 => ?_)
      · replace hf := ite_t hf hc5
        exact hκ v2 A_froms A_tos A_counts hf _ _ _ hv (lv_sub hl [0] rfl)
      · replace hf := ite_f hf hc5
        refine lv_aload_n hx hb dX5_planOfFirst_30 rfl (lv_at hl 0 rfl) ?_
        refine kGet (v := .ref aT_counts) (C := RX5) (T := TX5) (N := 22) hx hb hts hinX5 hown hv 0 rfl rfl 15 (by decide) hk48 (fun _ h9 => h9) rfl dX5_planOfFirst_31 ?_
        refine lv_aload_n hx hb dX5_planOfFirst_34 rfl (lv_at hl 0 rfl) ?_
        refine kGet (v := .ref aT_order) (C := RX5) (T := TX5) (N := 22) hx hb hts hinX5 hown hv 0 rfl rfl 12 (by decide) hk39 (fun _ h9 => h9) rfl dX5_planOfFirst_35 ?_
        refine lv_iload_n hx hb dX5_planOfFirst_38 rfl (lv_at hl 2 rfl) ?_
        obtain ⟨hi6, hf⟩ := xi_some hf
        refine kIald hx hb hv 5 rfl hi6 dX5_planOfFirst_39 ?_
        refine lv_iconst (v := 1) hx hb dX5_planOfFirst_40 (by decide) ?_
        obtain ⟨hi7, hf⟩ := xi_some hf
        refine kZast hx hb hv 8 rfl hi7 dX5_planOfFirst_41 (fun H locs hv => ?_)
        replace hv : Hv s H locs G cy A [(aT, .inr (5, [.int f_thrown, .int f_many, .ref aT_begins, .ref aT_ends, .ref aT_weights, .ref aT_isThere, .ref aT_rooms, .int f_factor, .ref aT_isOffered, .ref aT_isAccepted, .int f_dropped, .ref aT_best, .ref aT_order, .ref aT_froms, .ref aT_tos, .ref aT_counts, .ref aT_points, .ref aT_flows, .ref aT_isUsed, .ref aT_gains, .ref aT_ways, .int f_pointMany])), (aT_begins, .inl (cy.1, 40, .inl A_begins)), (aT_ends, .inl (cy.1, 40, .inl A_ends)), (aT_weights, .inl (cy.1, 40, .inl A_weights)), (aT_best, .inl (cy.1, 1001, .inl A_best)), (aT_order, .inl (cy.1, 40, .inl A_order)), (aT_froms, .inl (cy.1, 40, .inl A_froms)), (aT_tos, .inl (cy.1, 40, .inl A_tos)), (aT_counts, .inl (cy.2.1, 40, .inl (upd A_counts (A_order v2.toNatClampNeg).toNatClampNeg (vp_nar .boolean 1))))] := hv
        refine lv_aload_n hx hb dX5_planOfFirst_42 rfl (lv_at hl 0 rfl) ?_
        refine kGet (v := .ref aT_froms) (C := RX5) (T := TX5) (N := 22) hx hb hts hinX5 hown hv 0 rfl rfl 13 (by decide) hk42 (fun _ h9 => h9) rfl dX5_planOfFirst_43 ?_
        refine lv_aload_n hx hb dX5_planOfFirst_46 rfl (lv_at hl 0 rfl) ?_
        refine kGet (v := .ref aT_order) (C := RX5) (T := TX5) (N := 22) hx hb hts hinX5 hown hv 0 rfl rfl 12 (by decide) hk39 (fun _ h9 => h9) rfl dX5_planOfFirst_47 ?_
        refine lv_iload_n hx hb dX5_planOfFirst_50 rfl (lv_at hl 2 rfl) ?_
        obtain ⟨hi8, hf⟩ := xi_some hf
        refine kIald hx hb hv 5 rfl hi8 dX5_planOfFirst_51 ?_
        refine lv_aload_n hx hb dX5_planOfFirst_52 rfl (lv_at hl 0 rfl) ?_
        refine kGet (v := .ref aT_begins) (C := RX5) (T := TX5) (N := 22) hx hb hts hinX5 hown hv 0 rfl rfl 2 (by decide) hk7 (fun _ h9 => h9) rfl dX5_planOfFirst_53 ?_
        refine lv_aload_n hx hb dX5_planOfFirst_56 rfl (lv_at hl 0 rfl) ?_
        refine kGet (v := .ref aT_order) (C := RX5) (T := TX5) (N := 22) hx hb hts hinX5 hown hv 0 rfl rfl 12 (by decide) hk39 (fun _ h9 => h9) rfl dX5_planOfFirst_57 ?_
        refine lv_iload_n hx hb dX5_planOfFirst_60 rfl (lv_at hl 2 rfl) ?_
        obtain ⟨hi9, hf⟩ := xi_some hf
        refine kIald hx hb hv 5 rfl hi9 dX5_planOfFirst_61 ?_
        obtain ⟨hi10, hf⟩ := xi_some hf
        refine kIald hx hb hv 1 rfl hi10 dX5_planOfFirst_62 ?_
        obtain ⟨hi11, hf⟩ := xi_some hf
        refine kIast hx hb hv 6 rfl hi11 dX5_planOfFirst_63 (fun H locs hv => ?_)
        replace hv : Hv s H locs G cy A [(aT, .inr (5, [.int f_thrown, .int f_many, .ref aT_begins, .ref aT_ends, .ref aT_weights, .ref aT_isThere, .ref aT_rooms, .int f_factor, .ref aT_isOffered, .ref aT_isAccepted, .int f_dropped, .ref aT_best, .ref aT_order, .ref aT_froms, .ref aT_tos, .ref aT_counts, .ref aT_points, .ref aT_flows, .ref aT_isUsed, .ref aT_gains, .ref aT_ways, .int f_pointMany])), (aT_begins, .inl (cy.1, 40, .inl A_begins)), (aT_ends, .inl (cy.1, 40, .inl A_ends)), (aT_weights, .inl (cy.1, 40, .inl A_weights)), (aT_best, .inl (cy.1, 1001, .inl A_best)), (aT_order, .inl (cy.1, 40, .inl A_order)), (aT_froms, .inl (cy.1, 40, .inl (upd A_froms (A_order v2.toNatClampNeg).toNatClampNeg (A_begins (A_order v2.toNatClampNeg).toNatClampNeg)))), (aT_tos, .inl (cy.1, 40, .inl A_tos)), (aT_counts, .inl (cy.2.1, 40, .inl (upd A_counts (A_order v2.toNatClampNeg).toNatClampNeg (vp_nar .boolean 1))))] := hv
        refine lv_aload_n hx hb dX5_planOfFirst_64 rfl (lv_at hl 0 rfl) ?_
        refine kGet (v := .ref aT_tos) (C := RX5) (T := TX5) (N := 22) hx hb hts hinX5 hown hv 0 rfl rfl 14 (by decide) hk45 (fun _ h9 => h9) rfl dX5_planOfFirst_65 ?_
        refine lv_aload_n hx hb dX5_planOfFirst_68 rfl (lv_at hl 0 rfl) ?_
        refine kGet (v := .ref aT_order) (C := RX5) (T := TX5) (N := 22) hx hb hts hinX5 hown hv 0 rfl rfl 12 (by decide) hk39 (fun _ h9 => h9) rfl dX5_planOfFirst_69 ?_
        refine lv_iload_n hx hb dX5_planOfFirst_72 rfl (lv_at hl 2 rfl) ?_
        obtain ⟨hi12, hf⟩ := xi_some hf
        refine kIald hx hb hv 5 rfl hi12 dX5_planOfFirst_73 ?_
        refine lv_aload_n hx hb dX5_planOfFirst_74 rfl (lv_at hl 0 rfl) ?_
        refine kGet (v := .ref aT_ends) (C := RX5) (T := TX5) (N := 22) hx hb hts hinX5 hown hv 0 rfl rfl 3 (by decide) hk13 (fun _ h9 => h9) rfl dX5_planOfFirst_75 ?_
        refine lv_aload_n hx hb dX5_planOfFirst_78 rfl (lv_at hl 0 rfl) ?_
        refine kGet (v := .ref aT_order) (C := RX5) (T := TX5) (N := 22) hx hb hts hinX5 hown hv 0 rfl rfl 12 (by decide) hk39 (fun _ h9 => h9) rfl dX5_planOfFirst_79 ?_
        refine lv_iload_n hx hb dX5_planOfFirst_82 rfl (lv_at hl 2 rfl) ?_
        obtain ⟨hi13, hf⟩ := xi_some hf
        refine kIald hx hb hv 5 rfl hi13 dX5_planOfFirst_83 ?_
        obtain ⟨hi14, hf⟩ := xi_some hf
        refine kIald hx hb hv 2 rfl hi14 dX5_planOfFirst_84 ?_
        obtain ⟨hi15, hf⟩ := xi_some hf
        refine kIast hx hb hv 7 rfl hi15 dX5_planOfFirst_85 (fun H locs hv => ?_)
        replace hv : Hv s H locs G cy A [(aT, .inr (5, [.int f_thrown, .int f_many, .ref aT_begins, .ref aT_ends, .ref aT_weights, .ref aT_isThere, .ref aT_rooms, .int f_factor, .ref aT_isOffered, .ref aT_isAccepted, .int f_dropped, .ref aT_best, .ref aT_order, .ref aT_froms, .ref aT_tos, .ref aT_counts, .ref aT_points, .ref aT_flows, .ref aT_isUsed, .ref aT_gains, .ref aT_ways, .int f_pointMany])), (aT_begins, .inl (cy.1, 40, .inl A_begins)), (aT_ends, .inl (cy.1, 40, .inl A_ends)), (aT_weights, .inl (cy.1, 40, .inl A_weights)), (aT_best, .inl (cy.1, 1001, .inl A_best)), (aT_order, .inl (cy.1, 40, .inl A_order)), (aT_froms, .inl (cy.1, 40, .inl (upd A_froms (A_order v2.toNatClampNeg).toNatClampNeg (A_begins (A_order v2.toNatClampNeg).toNatClampNeg)))), (aT_tos, .inl (cy.1, 40, .inl (upd A_tos (A_order v2.toNatClampNeg).toNatClampNeg (A_ends (A_order v2.toNatClampNeg).toNatClampNeg)))), (aT_counts, .inl (cy.2.1, 40, .inl (upd A_counts (A_order v2.toNatClampNeg).toNatClampNeg (vp_nar .boolean 1))))] := hv
        refine lv_iinc (v := v2 + 1) (lv' := [(2, .int (v2 + 1)), (0, .ref aT), (1, .int v1)]) hx hb dX5_planOfFirst_86 hl (k := 2) rfl rfl (by decide) rfl (fun ls hl => ?_)
        refine lv_goto (tgt := 25) hx hb dX5_planOfFirst_89 (by decide) ?_
        exact ih (v2 + 1) (upd A_froms (A_order v2.toNatClampNeg).toNatClampNeg (A_begins (A_order v2.toNatClampNeg).toNatClampNeg)) (upd A_tos (A_order v2.toNatClampNeg).toNatClampNeg (A_ends (A_order v2.toNatClampNeg).toNatClampNeg)) (upd A_counts (A_order v2.toNatClampNeg).toNatClampNeg (vp_nar .boolean 1)) hf _ _ _ hv (lv_sub hl [1, 2, 0] rfl) hκ
  unfold f_X5_planOfFirst at hf
  refine lv_iconst (v := 0) hx hb dX5_planOfFirst_0 (by decide) ?_
  refine lv_istore_n (lv' := [(2, .int 0), (0, .ref aT), (1, .int p1)]) hx hb dX5_planOfFirst_1 rfl hl (by decide) rfl (fun ls hl => ?_)
  refine L2 _ _ _ _ _ _ _ _ hf _ _ _ hv (lv_sub hl [1, 2, 0] rfl) (fun v2_3 A_counts_4 hf H locs ls hv hl => ?_)
  try dsimp only at hf
  refine lv_iconst (v := 0) hx hb dX5_planOfFirst_23 (by decide) ?_
  refine lv_istore_n (lv' := [(2, .int 0), (0, .ref aT), (1, .int p1)]) hx hb dX5_planOfFirst_24 rfl hl (by decide) rfl (fun ls hl => ?_)
  refine L25 _ _ _ _ _ _ _ _ hf _ _ _ hv (lv_sub hl [1, 2, 0] rfl) (fun v2_16 A_froms_17 A_tos_18 A_counts_19 hf H locs ls hv hl => ?_)
  try dsimp only at hf
  refine lv_aload_n hx hb dX5_planOfFirst_92 rfl (lv_at hl 0 rfl) ?_
  refine lv_sipush (v := 1000) hx hb dX5_planOfFirst_93 (by decide) ?_
  obtain ⟨⟨r20, A_best_21⟩, hcl22, hf⟩ := xb_some hf
  dsimp only at hf
  refine kV_i (r := r20) (wr := [(aT_begins, .inl (cy.1, 40, .inl A_begins)), (aT_ends, .inl (cy.1, 40, .inl A_ends)), (aT_order, .inl (cy.1, 40, .inl A_order))]) (w2 := [(aT, .inr (5, [.int f_thrown, .int f_many, .ref aT_begins, .ref aT_ends, .ref aT_weights, .ref aT_isThere, .ref aT_rooms, .int f_factor, .ref aT_isOffered, .ref aT_isAccepted, .int f_dropped, .ref aT_best, .ref aT_order, .ref aT_froms, .ref aT_tos, .ref aT_counts, .ref aT_points, .ref aT_flows, .ref aT_isUsed, .ref aT_gains, .ref aT_ways, .int f_pointMany])), (aT_begins, .inl (cy.1, 40, .inl A_begins)), (aT_ends, .inl (cy.1, 40, .inl A_ends)), (aT_weights, .inl (cy.1, 40, .inl A_weights)), (aT_best, .inl (cy.1, 1001, .inl A_best_21)), (aT_order, .inl (cy.1, 40, .inl A_order)), (aT_froms, .inl (cy.1, 40, .inl A_froms_17)), (aT_tos, .inl (cy.1, 40, .inl A_tos_18)), (aT_counts, .inl (cy.2.1, 40, .inl A_counts_19))]) ⟨hx, hb, hml, hown, hts⟩ (c_X5_plan l G cy k aT aT_begins aT_ends aT_weights aT_isThere aT_rooms aT_isOffered aT_isAccepted aT_best aT_order aT_froms aT_tos aT_counts aT_points aT_flows aT_isUsed aT_gains aT_ways f_thrown f_many f_factor f_dropped f_pointMany A_weights A_best A_froms_17 A_tos_18 A_counts_19 1000 hcl22) (cwV 1 hts gX5_planOfFirst_X5_plan rfl rfl rfl (by decide +kernel) ⟨Nat.le_of_ble_eq_true rfl, Nat.le_of_ble_eq_true rfl⟩) hv (isC := [0, 3, 4, 6, 7, 8]) ⟨rfl, rfl⟩ (hv.recv 5 0 rfl rfl) [1, 2, 5] [3, 0, 1, 4, 5, 2, 6, 7, 8] rfl rfl (by decide) rfl rfl rfl hl.1 rfl (Nat.le_of_ble_eq_true rfl) dX5_planOfFirst_96 ⟨Nat.le_of_ble_eq_true rfl, Nat.le_of_ble_eq_true rfl⟩ (fun H locs hv => ?_)
  cases hf
  exact kret _ _ _ _ hv dX5_planOfFirst_99

def f_X5_chosen_L59 (k : Nat) (v2 : Int64) (v4 : Int32) (f_many : Int32) (A_begins : Nat → Int32) (A_ends : Nat → Int32) (A_isThere : Nat → Int32) (κ : Int32 → Int32 → Option (Int64 × Int32 × (Nat → Int32) × (Nat → Int32) × (Nat → Int32) × (Nat → Int32) × (Nat → Int32))) : Nat → Int32 → Int32 → Option (Int64 × Int32 × (Nat → Int32) × (Nat → Int32) × (Nat → Int32) × (Nat → Int32) × (Nat → Int32))
  | 0, _, _ => none
  | n + 1, v1, v5 => if f_many ≤ v5 then κ v1 v5 else xi v5 40 (if (A_isThere v5.toNatClampNeg) = 0 then f_X5_chosen_L59 k v2 v4 f_many A_begins A_ends A_isThere κ n (v1 + 0) (v5 + 1) else xi v5 40 (xi v4 40 (if (A_begins v4.toNatClampNeg) < (A_ends v5.toNatClampNeg) then f_X5_chosen_L59 k v2 v4 f_many A_begins A_ends A_isThere κ n (v1 + 0) (v5 + 1) else f_X5_chosen_L59 k v2 v4 f_many A_begins A_ends A_isThere κ n (v1 + 1) (v5 + 1))))
theorem f_X5_chosen_L59_z (k : Nat) (v2 : Int64) (v4 : Int32) (f_many : Int32) (A_begins : Nat → Int32) (A_ends : Nat → Int32) (A_isThere : Nat → Int32) (κ : Int32 → Int32 → Option (Int64 × Int32 × (Nat → Int32) × (Nat → Int32) × (Nat → Int32) × (Nat → Int32) × (Nat → Int32))) (v1 : Int32) (v5 : Int32) : f_X5_chosen_L59 k v2 v4 f_many A_begins A_ends A_isThere κ 0 v1 v5 = none := rfl
theorem f_X5_chosen_L59_s (k : Nat) (v2 : Int64) (v4 : Int32) (f_many : Int32) (A_begins : Nat → Int32) (A_ends : Nat → Int32) (A_isThere : Nat → Int32) (κ : Int32 → Int32 → Option (Int64 × Int32 × (Nat → Int32) × (Nat → Int32) × (Nat → Int32) × (Nat → Int32) × (Nat → Int32))) (n : Nat) (v1 : Int32) (v5 : Int32) : f_X5_chosen_L59 k v2 v4 f_many A_begins A_ends A_isThere κ (n + 1) v1 v5 = if f_many ≤ v5 then κ v1 v5 else xi v5 40 (if (A_isThere v5.toNatClampNeg) = 0 then f_X5_chosen_L59 k v2 v4 f_many A_begins A_ends A_isThere κ n (v1 + 0) (v5 + 1) else xi v5 40 (xi v4 40 (if (A_begins v4.toNatClampNeg) < (A_ends v5.toNatClampNeg) then f_X5_chosen_L59 k v2 v4 f_many A_begins A_ends A_isThere κ n (v1 + 0) (v5 + 1) else f_X5_chosen_L59 k v2 v4 f_many A_begins A_ends A_isThere κ n (v1 + 1) (v5 + 1)))) := rfl
def f_X5_chosen_L12 (k : Nat) (f_many : Int32) (A_begins : Nat → Int32) (A_ends : Nat → Int32) (A_weights : Nat → Int32) (A_isThere : Nat → Int32) (A_order : Nat → Int32) (κ : Int32 → Int64 → (Nat → Int32) → (Nat → Int32) → (Nat → Int32) → (Nat → Int32) → Option (Int64 × Int32 × (Nat → Int32) × (Nat → Int32) × (Nat → Int32) × (Nat → Int32) × (Nat → Int32))) : Nat → Int32 → Int64 → (Nat → Int32) → (Nat → Int32) → (Nat → Int32) → (Nat → Int32) → Option (Int64 × Int32 × (Nat → Int32) × (Nat → Int32) × (Nat → Int32) × (Nat → Int32) × (Nat → Int32))
  | 0, _, _, _, _, _, _ => none
  | n + 1, v1, v2, A_best, A_froms, A_tos, A_counts => if v1 ≤ 0 then κ v1 v2 A_best A_froms A_tos A_counts else xi (v1 - 1) 40 (xb (f_X5_planOfFirst k v1 f_many A_begins A_ends A_weights A_best A_order A_froms A_tos A_counts) (fun (r6, A_best_7, A_froms_8, A_tos_9, A_counts_10) => xb (f_X5_planOfFirst k (v1 - 1) f_many A_begins A_ends A_weights A_best_7 A_order A_froms_8 A_tos_9 A_counts_10) (fun (r12, A_best_13, A_froms_14, A_tos_15, A_counts_16) => if r6 = r12 then f_X5_chosen_L12 k f_many A_begins A_ends A_weights A_isThere A_order κ n (v1 + (-1)) v2 A_best_13 A_froms_14 A_tos_15 A_counts_16 else f_X5_chosen_L59 k (v2 ||| ((1 : Int64) <<< ((A_order (v1 - 1).toNatClampNeg : Int32).toInt64 &&& 63))) (A_order (v1 - 1).toNatClampNeg) f_many A_begins A_ends A_isThere (fun (v1_25 : Int32) (v5_26 : Int32) => f_X5_chosen_L12 k f_many A_begins A_ends A_weights A_isThere A_order κ n v1_25 (v2 ||| ((1 : Int64) <<< ((A_order (v1 - 1).toNatClampNeg : Int32).toInt64 &&& 63))) A_best_13 A_froms_14 A_tos_15 A_counts_16) k 0 0)))
theorem f_X5_chosen_L12_z (k : Nat) (f_many : Int32) (A_begins : Nat → Int32) (A_ends : Nat → Int32) (A_weights : Nat → Int32) (A_isThere : Nat → Int32) (A_order : Nat → Int32) (κ : Int32 → Int64 → (Nat → Int32) → (Nat → Int32) → (Nat → Int32) → (Nat → Int32) → Option (Int64 × Int32 × (Nat → Int32) × (Nat → Int32) × (Nat → Int32) × (Nat → Int32) × (Nat → Int32))) (v1 : Int32) (v2 : Int64) (A_best : Nat → Int32) (A_froms : Nat → Int32) (A_tos : Nat → Int32) (A_counts : Nat → Int32) : f_X5_chosen_L12 k f_many A_begins A_ends A_weights A_isThere A_order κ 0 v1 v2 A_best A_froms A_tos A_counts = none := rfl
theorem f_X5_chosen_L12_s (k : Nat) (f_many : Int32) (A_begins : Nat → Int32) (A_ends : Nat → Int32) (A_weights : Nat → Int32) (A_isThere : Nat → Int32) (A_order : Nat → Int32) (κ : Int32 → Int64 → (Nat → Int32) → (Nat → Int32) → (Nat → Int32) → (Nat → Int32) → Option (Int64 × Int32 × (Nat → Int32) × (Nat → Int32) × (Nat → Int32) × (Nat → Int32) × (Nat → Int32))) (n : Nat) (v1 : Int32) (v2 : Int64) (A_best : Nat → Int32) (A_froms : Nat → Int32) (A_tos : Nat → Int32) (A_counts : Nat → Int32) : f_X5_chosen_L12 k f_many A_begins A_ends A_weights A_isThere A_order κ (n + 1) v1 v2 A_best A_froms A_tos A_counts = if v1 ≤ 0 then κ v1 v2 A_best A_froms A_tos A_counts else xi (v1 - 1) 40 (xb (f_X5_planOfFirst k v1 f_many A_begins A_ends A_weights A_best A_order A_froms A_tos A_counts) (fun (r6, A_best_7, A_froms_8, A_tos_9, A_counts_10) => xb (f_X5_planOfFirst k (v1 - 1) f_many A_begins A_ends A_weights A_best_7 A_order A_froms_8 A_tos_9 A_counts_10) (fun (r12, A_best_13, A_froms_14, A_tos_15, A_counts_16) => if r6 = r12 then f_X5_chosen_L12 k f_many A_begins A_ends A_weights A_isThere A_order κ n (v1 + (-1)) v2 A_best_13 A_froms_14 A_tos_15 A_counts_16 else f_X5_chosen_L59 k (v2 ||| ((1 : Int64) <<< ((A_order (v1 - 1).toNatClampNeg : Int32).toInt64 &&& 63))) (A_order (v1 - 1).toNatClampNeg) f_many A_begins A_ends A_isThere (fun (v1_25 : Int32) (v5_26 : Int32) => f_X5_chosen_L12 k f_many A_begins A_ends A_weights A_isThere A_order κ n v1_25 (v2 ||| ((1 : Int64) <<< ((A_order (v1 - 1).toNatClampNeg : Int32).toInt64 &&& 63))) A_best_13 A_froms_14 A_tos_15 A_counts_16) k 0 0))) := rfl
def f_X5_chosen (k : Nat) (f_thrown : Int32) (f_many : Int32) (A_begins : Nat → Int32) (A_ends : Nat → Int32) (A_weights : Nat → Int32) (A_isThere : Nat → Int32) (A_best : Nat → Int32) (A_order : Nat → Int32) (A_froms : Nat → Int32) (A_tos : Nat → Int32) (A_counts : Nat → Int32) : Option (Int64 × Int32 × (Nat → Int32) × (Nat → Int32) × (Nat → Int32) × (Nat → Int32) × (Nat → Int32)) := xb (f_X5_layOrder k f_many A_ends A_isThere A_order) (fun (r1, A_order_2) => f_X5_chosen_L12 k f_many A_begins A_ends A_weights A_isThere A_order_2 (fun (v1_27 : Int32) (v2_28 : Int64) (A_best_29 : Nat → Int32) (A_froms_30 : Nat → Int32) (A_tos_31 : Nat → Int32) (A_counts_32 : Nat → Int32) => some (v2_28, 0, A_best_29, A_order_2, A_froms_30, A_tos_31, A_counts_32)) k r1 0 A_best A_froms A_tos A_counts)
abbrev rm_X5_chosen : Room := { frames := 2, cells := 0, slots := 0, locals := 45 }
set_option maxHeartbeats 4000000 in
set_option maxRecDepth 100000 in
theorem c_X5_chosen (l : Launch) (G : va_G) (cy : ClassId × ClassId × ClassId) (k : Nat) (aT aT_begins aT_ends aT_weights aT_isThere aT_rooms aT_isOffered aT_isAccepted aT_best aT_order aT_froms aT_tos aT_counts aT_points aT_flows aT_isUsed aT_gains aT_ways : Nat) (f_thrown : Int32) (f_many : Int32) (f_factor : Int32) (f_dropped : Int32) (f_pointMany : Int32) (A_begins : Nat → Int32) (A_ends : Nat → Int32) (A_weights : Nat → Int32) (A_isThere : Nat → Int32) (A_best : Nat → Int32) (A_order : Nat → Int32) (A_froms : Nat → Int32) (A_tos : Nat → Int32) (A_counts : Nat → Int32) {r : Int64} {wf_thrown : Int32} {wA_best : Nat → Int32} {wA_order : Nat → Int32} {wA_froms : Nat → Int32} {wA_tos : Nat → Int32} {wA_counts : Nat → Int32} (hf : f_X5_chosen k f_thrown f_many A_begins A_ends A_weights A_isThere A_best A_order A_froms A_tos A_counts = some (r, wf_thrown, wA_best, wA_order, wA_froms, wA_tos, wA_counts)) : Cl l yX5_chosen wsX5_chosen rm_X5_chosen 0 0 G cy [.ref aT] [(aT, .inr (5, [.int f_thrown, .int f_many, .ref aT_begins, .ref aT_ends, .ref aT_weights, .ref aT_isThere, .ref aT_rooms, .int f_factor, .ref aT_isOffered, .ref aT_isAccepted, .int f_dropped, .ref aT_best, .ref aT_order, .ref aT_froms, .ref aT_tos, .ref aT_counts, .ref aT_points, .ref aT_flows, .ref aT_isUsed, .ref aT_gains, .ref aT_ways, .int f_pointMany])), (aT_begins, .inl (cy.1, 40, .inl A_begins)), (aT_ends, .inl (cy.1, 40, .inl A_ends)), (aT_weights, .inl (cy.1, 40, .inl A_weights)), (aT_isThere, .inl (cy.2.1, 40, .inl A_isThere)), (aT_best, .inl (cy.1, 1001, .inl A_best)), (aT_order, .inl (cy.1, 40, .inl A_order)), (aT_froms, .inl (cy.1, 40, .inl A_froms)), (aT_tos, .inl (cy.1, 40, .inl A_tos)), (aT_counts, .inl (cy.2.1, 40, .inl A_counts))] [(aT, .inr (5, [.int wf_thrown, .int f_many, .ref aT_begins, .ref aT_ends, .ref aT_weights, .ref aT_isThere, .ref aT_rooms, .int f_factor, .ref aT_isOffered, .ref aT_isAccepted, .int f_dropped, .ref aT_best, .ref aT_order, .ref aT_froms, .ref aT_tos, .ref aT_counts, .ref aT_points, .ref aT_flows, .ref aT_isUsed, .ref aT_gains, .ref aT_ways, .int f_pointMany])), (aT_begins, .inl (cy.1, 40, .inl A_begins)), (aT_ends, .inl (cy.1, 40, .inl A_ends)), (aT_weights, .inl (cy.1, 40, .inl A_weights)), (aT_isThere, .inl (cy.2.1, 40, .inl A_isThere)), (aT_best, .inl (cy.1, 1001, .inl wA_best)), (aT_order, .inl (cy.1, 40, .inl wA_order)), (aT_froms, .inl (cy.1, 40, .inl wA_froms)), (aT_tos, .inl (cy.1, 40, .inl wA_tos)), (aT_counts, .inl (cy.2.1, 40, .inl wA_counts))] r := by
  refine kMetL (cc := cX5_chosen) (maxL := 6) (by decide) rfl (Nat.le_of_ble_eq_true rfl) ?_
  intro p e s m args below meth c Q A ls hx hb hml hts hown hv hl kret
  replace hown : s.vm.findClass RX5 = some m.cls := hown
  replace hl : lv_has ls 6 [(0, .ref aT)] := hl
  have hk66 : (Cond.fieldLink RX5 66 "RoomcolourModel" "thrown" "I").before args s = true := hts _ (by decide +kernel)
  have hinX5 : ∀ w ∈ wsX50, w ∈ wsX5_chosen := by decide +kernel
  have hk39 : (Cond.fieldLink RX5 39 "RoomcolourModel" "order" "[I").before args s = true := hts _ (by decide +kernel)
  have hk69 : (Cond.fieldLink RX5 69 "RoomcolourModel" "many" "I").before args s = true := hts _ (by decide +kernel)
  have hk19 : (Cond.fieldLink RX5 19 "RoomcolourModel" "isThere" "[Z").before args s = true := hts _ (by decide +kernel)
  have hk13 : (Cond.fieldLink RX5 13 "RoomcolourModel" "ends" "[I").before args s = true := hts _ (by decide +kernel)
  have hk7 : (Cond.fieldLink RX5 7 "RoomcolourModel" "begins" "[I").before args s = true := hts _ (by decide +kernel)
  have L59 : ∀ (v2 : Int64) (v4 : Int32) (f_thrown : Int32) (A_best : Nat → Int32) (A_order : Nat → Int32) (A_froms : Nat → Int32) (A_tos : Nat → Int32) (A_counts : Nat → Int32) (κ : Int32 → Int32 → Option (Int64 × Int32 × (Nat → Int32) × (Nat → Int32) × (Nat → Int32) × (Nat → Int32) × (Nat → Int32))) (n : Nat) (v1 : Int32) (v5 : Int32), f_X5_chosen_L59 k v2 v4 f_many A_begins A_ends A_isThere κ n v1 v5 = some (r, wf_thrown, wA_best, wA_order, wA_froms, wA_tos, wA_counts) → ∀ (H : Heap) (locs : List Loc) (ls : Array Slot), Hv s H locs G cy A [(aT, .inr (5, [.int f_thrown, .int f_many, .ref aT_begins, .ref aT_ends, .ref aT_weights, .ref aT_isThere, .ref aT_rooms, .int f_factor, .ref aT_isOffered, .ref aT_isAccepted, .int f_dropped, .ref aT_best, .ref aT_order, .ref aT_froms, .ref aT_tos, .ref aT_counts, .ref aT_points, .ref aT_flows, .ref aT_isUsed, .ref aT_gains, .ref aT_ways, .int f_pointMany])), (aT_begins, .inl (cy.1, 40, .inl A_begins)), (aT_ends, .inl (cy.1, 40, .inl A_ends)), (aT_weights, .inl (cy.1, 40, .inl A_weights)), (aT_isThere, .inl (cy.2.1, 40, .inl A_isThere)), (aT_best, .inl (cy.1, 1001, .inl A_best)), (aT_order, .inl (cy.1, 40, .inl A_order)), (aT_froms, .inl (cy.1, 40, .inl A_froms)), (aT_tos, .inl (cy.1, 40, .inl A_tos)), (aT_counts, .inl (cy.2.1, 40, .inl A_counts))] → lv_has ls 6 [(0, .ref aT), (1, .int v1), (2, .long v2), (4, .int v4), (5, .int v5)] → (∀ (v1 : Int32) (v5 : Int32), κ v1 v5 = some (r, wf_thrown, wA_best, wA_order, wA_froms, wA_tos, wA_counts) → ∀ (H : Heap) (locs : List Loc) (ls : Array Slot), Hv s H locs G cy A [(aT, .inr (5, [.int f_thrown, .int f_many, .ref aT_begins, .ref aT_ends, .ref aT_weights, .ref aT_isThere, .ref aT_rooms, .int f_factor, .ref aT_isOffered, .ref aT_isAccepted, .int f_dropped, .ref aT_best, .ref aT_order, .ref aT_froms, .ref aT_tos, .ref aT_counts, .ref aT_points, .ref aT_flows, .ref aT_isUsed, .ref aT_gains, .ref aT_ways, .int f_pointMany])), (aT_begins, .inl (cy.1, 40, .inl A_begins)), (aT_ends, .inl (cy.1, 40, .inl A_ends)), (aT_weights, .inl (cy.1, 40, .inl A_weights)), (aT_isThere, .inl (cy.2.1, 40, .inl A_isThere)), (aT_best, .inl (cy.1, 1001, .inl A_best)), (aT_order, .inl (cy.1, 40, .inl A_order)), (aT_froms, .inl (cy.1, 40, .inl A_froms)), (aT_tos, .inl (cy.1, 40, .inl A_tos)), (aT_counts, .inl (cy.2.1, 40, .inl A_counts))] → lv_has ls 6 [(0, .ref aT), (1, .int v1), (2, .long v2)] → W p l e rm_X5_chosen s m args below meth c H locs 0 0 Q (F0 m 109 ls [])) → W p l e rm_X5_chosen s m args below meth c H locs 0 0 Q (F0 m 59 ls []) := by
    intro v2 v4 f_thrown A_best A_order A_froms A_tos A_counts κ n
    induction n with
    | zero =>
      intro v1 v5 hf
      rw [f_X5_chosen_L59_z] at hf
      cases hf
    | succ n ih =>
      intro v1 v5 hf H locs ls hv hl hκ
      rw [f_X5_chosen_L59_s] at hf
      refine lv_iload hx hb dX5_chosen_59 (lv_at hl 4 rfl) ?_
      refine lv_aload_n hx hb dX5_chosen_61 rfl (lv_at hl 0 rfl) ?_
      refine kGet (v := .int f_many) (C := RX5) (T := TX5) (N := 22) hx hb hts hinX5 hown hv 0 rfl rfl 1 (by decide) hk69 (fun _ h9 => h9) rfl dX5_chosen_62 ?_
      refine lv_icmp_ge (tgt := 109) hx hb dX5_chosen_65 (by decide) (fun hc19 => ?_) (fun hc19 => ?_)
      · replace hf := ite_t hf hc19
        exact hκ v1 v5 hf _ _ _ hv (lv_sub hl [0, 1, 2] rfl)
      · replace hf := ite_f hf hc19
        refine lv_iload_n hx hb dX5_chosen_68 rfl (lv_at hl 1 rfl) ?_
        refine lv_aload_n hx hb dX5_chosen_69 rfl (lv_at hl 0 rfl) ?_
        refine kGet (v := .ref aT_isThere) (C := RX5) (T := TX5) (N := 22) hx hb hts hinX5 hown hv 0 rfl rfl 5 (by decide) hk19 (fun _ h9 => h9) rfl dX5_chosen_70 ?_
        refine lv_iload hx hb dX5_chosen_73 (lv_at hl 4 rfl) ?_
        obtain ⟨hi20, hf⟩ := xi_some hf
        refine kZald hx hb hv 4 rfl hi20 dX5_chosen_75 ?_
        refine lv_if_eq (tgt := 100) hx hb dX5_chosen_76 (by decide) (fun hc21 => ?_) (fun hc21 => ?_)
        · replace hf := ite_t hf hc21
          refine lv_iconst (v := 0) hx hb dX5_chosen_100 (by decide) ?_
          refine lv_iadd hx hb dX5_chosen_101 ?_
          refine lv_istore_n (lv' := [(1, .int (v1 + 0)), (0, .ref aT), (2, .long v2), (4, .int v4), (5, .int v5)]) hx hb dX5_chosen_102 rfl hl (by decide) rfl (fun ls hl => ?_)
          refine lv_iinc (v := v5 + 1) (lv' := [(5, .int (v5 + 1)), (1, .int (v1 + 0)), (0, .ref aT), (2, .long v2), (4, .int v4)]) hx hb dX5_chosen_103 hl (k := 4) rfl rfl (by decide) rfl (fun ls hl => ?_)
          refine lv_goto (tgt := 59) hx hb dX5_chosen_106 (by decide) ?_
          exact ih (v1 + 0) (v5 + 1) hf _ _ _ hv (lv_sub hl [2, 1, 3, 4, 0] rfl) hκ
        · replace hf := ite_f hf hc21
          refine lv_aload_n hx hb dX5_chosen_79 rfl (lv_at hl 0 rfl) ?_
          refine kGet (v := .ref aT_ends) (C := RX5) (T := TX5) (N := 22) hx hb hts hinX5 hown hv 0 rfl rfl 3 (by decide) hk13 (fun _ h9 => h9) rfl dX5_chosen_80 ?_
          refine lv_iload hx hb dX5_chosen_83 (lv_at hl 4 rfl) ?_
          obtain ⟨hi22, hf⟩ := xi_some hf
          refine kIald hx hb hv 2 rfl hi22 dX5_chosen_85 ?_
          refine lv_aload_n hx hb dX5_chosen_86 rfl (lv_at hl 0 rfl) ?_
          refine kGet (v := .ref aT_begins) (C := RX5) (T := TX5) (N := 22) hx hb hts hinX5 hown hv 0 rfl rfl 2 (by decide) hk7 (fun _ h9 => h9) rfl dX5_chosen_87 ?_
          refine lv_iload hx hb dX5_chosen_90 (lv_at hl 3 rfl) ?_
          obtain ⟨hi23, hf⟩ := xi_some hf
          refine kIald hx hb hv 1 rfl hi23 dX5_chosen_92 ?_
          refine lv_icmp_gt (tgt := 100) hx hb dX5_chosen_93 (by decide) (fun hc24 => ?_) (fun hc24 => ?_)
          · replace hf := ite_t hf hc24
            refine lv_iconst (v := 0) hx hb dX5_chosen_100 (by decide) ?_
            refine lv_iadd hx hb dX5_chosen_101 ?_
            refine lv_istore_n (lv' := [(1, .int (v1 + 0)), (0, .ref aT), (2, .long v2), (4, .int v4), (5, .int v5)]) hx hb dX5_chosen_102 rfl hl (by decide) rfl (fun ls hl => ?_)
            refine lv_iinc (v := v5 + 1) (lv' := [(5, .int (v5 + 1)), (1, .int (v1 + 0)), (0, .ref aT), (2, .long v2), (4, .int v4)]) hx hb dX5_chosen_103 hl (k := 4) rfl rfl (by decide) rfl (fun ls hl => ?_)
            refine lv_goto (tgt := 59) hx hb dX5_chosen_106 (by decide) ?_
            exact ih (v1 + 0) (v5 + 1) hf _ _ _ hv (lv_sub hl [2, 1, 3, 4, 0] rfl) hκ
          · replace hf := ite_f hf hc24
            refine lv_iconst (v := 1) hx hb dX5_chosen_96 (by decide) ?_
            refine lv_goto (tgt := 101) hx hb dX5_chosen_97 (by decide) ?_
            refine lv_iadd hx hb dX5_chosen_101 ?_
            refine lv_istore_n (lv' := [(1, .int (v1 + 1)), (0, .ref aT), (2, .long v2), (4, .int v4), (5, .int v5)]) hx hb dX5_chosen_102 rfl hl (by decide) rfl (fun ls hl => ?_)
            refine lv_iinc (v := v5 + 1) (lv' := [(5, .int (v5 + 1)), (1, .int (v1 + 1)), (0, .ref aT), (2, .long v2), (4, .int v4)]) hx hb dX5_chosen_103 hl (k := 4) rfl rfl (by decide) rfl (fun ls hl => ?_)
            refine lv_goto (tgt := 59) hx hb dX5_chosen_106 (by decide) ?_
            exact ih (v1 + 1) (v5 + 1) hf _ _ _ hv (lv_sub hl [2, 1, 3, 4, 0] rfl) hκ
  have L12 : ∀ (A_order : Nat → Int32) (f_thrown : Int32) (κ : Int32 → Int64 → (Nat → Int32) → (Nat → Int32) → (Nat → Int32) → (Nat → Int32) → Option (Int64 × Int32 × (Nat → Int32) × (Nat → Int32) × (Nat → Int32) × (Nat → Int32) × (Nat → Int32))) (n : Nat) (v1 : Int32) (v2 : Int64) (A_best : Nat → Int32) (A_froms : Nat → Int32) (A_tos : Nat → Int32) (A_counts : Nat → Int32), f_X5_chosen_L12 k f_many A_begins A_ends A_weights A_isThere A_order κ n v1 v2 A_best A_froms A_tos A_counts = some (r, wf_thrown, wA_best, wA_order, wA_froms, wA_tos, wA_counts) → ∀ (H : Heap) (locs : List Loc) (ls : Array Slot), Hv s H locs G cy A [(aT, .inr (5, [.int f_thrown, .int f_many, .ref aT_begins, .ref aT_ends, .ref aT_weights, .ref aT_isThere, .ref aT_rooms, .int f_factor, .ref aT_isOffered, .ref aT_isAccepted, .int f_dropped, .ref aT_best, .ref aT_order, .ref aT_froms, .ref aT_tos, .ref aT_counts, .ref aT_points, .ref aT_flows, .ref aT_isUsed, .ref aT_gains, .ref aT_ways, .int f_pointMany])), (aT_begins, .inl (cy.1, 40, .inl A_begins)), (aT_ends, .inl (cy.1, 40, .inl A_ends)), (aT_weights, .inl (cy.1, 40, .inl A_weights)), (aT_isThere, .inl (cy.2.1, 40, .inl A_isThere)), (aT_best, .inl (cy.1, 1001, .inl A_best)), (aT_order, .inl (cy.1, 40, .inl A_order)), (aT_froms, .inl (cy.1, 40, .inl A_froms)), (aT_tos, .inl (cy.1, 40, .inl A_tos)), (aT_counts, .inl (cy.2.1, 40, .inl A_counts))] → lv_has ls 6 [(0, .ref aT), (1, .int v1), (2, .long v2)] → (∀ (v1 : Int32) (v2 : Int64) (A_best : Nat → Int32) (A_froms : Nat → Int32) (A_tos : Nat → Int32) (A_counts : Nat → Int32), κ v1 v2 A_best A_froms A_tos A_counts = some (r, wf_thrown, wA_best, wA_order, wA_froms, wA_tos, wA_counts) → ∀ (H : Heap) (locs : List Loc) (ls : Array Slot), Hv s H locs G cy A [(aT, .inr (5, [.int f_thrown, .int f_many, .ref aT_begins, .ref aT_ends, .ref aT_weights, .ref aT_isThere, .ref aT_rooms, .int f_factor, .ref aT_isOffered, .ref aT_isAccepted, .int f_dropped, .ref aT_best, .ref aT_order, .ref aT_froms, .ref aT_tos, .ref aT_counts, .ref aT_points, .ref aT_flows, .ref aT_isUsed, .ref aT_gains, .ref aT_ways, .int f_pointMany])), (aT_begins, .inl (cy.1, 40, .inl A_begins)), (aT_ends, .inl (cy.1, 40, .inl A_ends)), (aT_weights, .inl (cy.1, 40, .inl A_weights)), (aT_isThere, .inl (cy.2.1, 40, .inl A_isThere)), (aT_best, .inl (cy.1, 1001, .inl A_best)), (aT_order, .inl (cy.1, 40, .inl A_order)), (aT_froms, .inl (cy.1, 40, .inl A_froms)), (aT_tos, .inl (cy.1, 40, .inl A_tos)), (aT_counts, .inl (cy.2.1, 40, .inl A_counts))] → lv_has ls 6 [(2, .long v2)] → W p l e rm_X5_chosen s m args below meth c H locs 0 0 Q (F0 m 112 ls [])) → W p l e rm_X5_chosen s m args below meth c H locs 0 0 Q (F0 m 12 ls []) := by
    intro A_order f_thrown κ n
    induction n with
    | zero =>
      intro v1 v2 A_best A_froms A_tos A_counts hf
      rw [f_X5_chosen_L12_z] at hf
      cases hf
    | succ n ih =>
      intro v1 v2 A_best A_froms A_tos A_counts hf H locs ls hv hl hκ
      rw [f_X5_chosen_L12_s] at hf
      refine lv_iload_n hx hb dX5_chosen_12 rfl (lv_at hl 1 rfl) ?_
      refine lv_if_le (tgt := 112) hx hb dX5_chosen_13 (by decide) (fun hc4 => ?_) (fun hc4 => ?_)
      · replace hf := ite_t hf hc4
        exact hκ v1 v2 A_best A_froms A_tos A_counts hf _ _ _ hv (lv_sub hl [2] rfl)
      · replace hf := ite_f hf hc4
        refine lv_aload_n hx hb dX5_chosen_16 rfl (lv_at hl 0 rfl) ?_
        refine kGet (v := .ref aT_order) (C := RX5) (T := TX5) (N := 22) hx hb hts hinX5 hown hv 0 rfl rfl 12 (by decide) hk39 (fun _ h9 => h9) rfl dX5_chosen_17 ?_
        refine lv_iload_n hx hb dX5_chosen_20 rfl (lv_at hl 1 rfl) ?_
        refine lv_iconst (v := 1) hx hb dX5_chosen_21 (by decide) ?_
        refine lv_isub hx hb dX5_chosen_22 ?_
        obtain ⟨hi5, hf⟩ := xi_some hf
        refine kIald hx hb hv 6 rfl hi5 dX5_chosen_23 ?_
        refine lv_istore (lv' := [(4, .int (A_order (v1 - 1).toNatClampNeg)), (0, .ref aT), (1, .int v1), (2, .long v2)]) hx hb dX5_chosen_24 hl (by decide) rfl (fun ls hl => ?_)
        refine lv_aload_n hx hb dX5_chosen_26 rfl (lv_at hl 1 rfl) ?_
        refine lv_iload_n hx hb dX5_chosen_27 rfl (lv_at hl 2 rfl) ?_
        obtain ⟨⟨r6, A_best_7, A_froms_8, A_tos_9, A_counts_10⟩, hcl11, hf⟩ := xb_some hf
        dsimp only at hf
        refine kV_i (r := r6) (wr := [(aT_isThere, .inl (cy.2.1, 40, .inl A_isThere))]) (w2 := [(aT, .inr (5, [.int f_thrown, .int f_many, .ref aT_begins, .ref aT_ends, .ref aT_weights, .ref aT_isThere, .ref aT_rooms, .int f_factor, .ref aT_isOffered, .ref aT_isAccepted, .int f_dropped, .ref aT_best, .ref aT_order, .ref aT_froms, .ref aT_tos, .ref aT_counts, .ref aT_points, .ref aT_flows, .ref aT_isUsed, .ref aT_gains, .ref aT_ways, .int f_pointMany])), (aT_begins, .inl (cy.1, 40, .inl A_begins)), (aT_ends, .inl (cy.1, 40, .inl A_ends)), (aT_weights, .inl (cy.1, 40, .inl A_weights)), (aT_isThere, .inl (cy.2.1, 40, .inl A_isThere)), (aT_best, .inl (cy.1, 1001, .inl A_best_7)), (aT_order, .inl (cy.1, 40, .inl A_order)), (aT_froms, .inl (cy.1, 40, .inl A_froms_8)), (aT_tos, .inl (cy.1, 40, .inl A_tos_9)), (aT_counts, .inl (cy.2.1, 40, .inl A_counts_10))]) ⟨hx, hb, hml, hown, hts⟩ (c_X5_planOfFirst l G cy k aT aT_begins aT_ends aT_weights aT_isThere aT_rooms aT_isOffered aT_isAccepted aT_best aT_order aT_froms aT_tos aT_counts aT_points aT_flows aT_isUsed aT_gains aT_ways f_thrown f_many f_factor f_dropped f_pointMany A_begins A_ends A_weights A_best A_order A_froms A_tos A_counts v1 hcl11) (cwV 1 hts gX5_chosen_X5_planOfFirst rfl rfl rfl (by decide +kernel) ⟨Nat.le_of_ble_eq_true rfl, Nat.le_of_ble_eq_true rfl⟩) hv (isC := [0, 1, 2, 3, 5, 6, 7, 8, 9]) ⟨rfl, rfl⟩ (hv.recv 5 0 rfl rfl) [4] [1, 2, 3, 4, 0, 5, 6, 7, 8, 9] rfl rfl (by decide) rfl rfl rfl hl.1 rfl (Nat.le_of_ble_eq_true rfl) dX5_chosen_28 ⟨Nat.le_of_ble_eq_true rfl, Nat.le_of_ble_eq_true rfl⟩ (fun H locs hv => ?_)
        refine lv_aload_n hx hb dX5_chosen_31 rfl (lv_at hl 1 rfl) ?_
        refine lv_iload_n hx hb dX5_chosen_32 rfl (lv_at hl 2 rfl) ?_
        refine lv_iconst (v := 1) hx hb dX5_chosen_33 (by decide) ?_
        refine lv_isub hx hb dX5_chosen_34 ?_
        obtain ⟨⟨r12, A_best_13, A_froms_14, A_tos_15, A_counts_16⟩, hcl17, hf⟩ := xb_some hf
        dsimp only at hf
        refine kV_i (r := r12) (wr := [(aT_isThere, .inl (cy.2.1, 40, .inl A_isThere))]) (w2 := [(aT, .inr (5, [.int f_thrown, .int f_many, .ref aT_begins, .ref aT_ends, .ref aT_weights, .ref aT_isThere, .ref aT_rooms, .int f_factor, .ref aT_isOffered, .ref aT_isAccepted, .int f_dropped, .ref aT_best, .ref aT_order, .ref aT_froms, .ref aT_tos, .ref aT_counts, .ref aT_points, .ref aT_flows, .ref aT_isUsed, .ref aT_gains, .ref aT_ways, .int f_pointMany])), (aT_begins, .inl (cy.1, 40, .inl A_begins)), (aT_ends, .inl (cy.1, 40, .inl A_ends)), (aT_weights, .inl (cy.1, 40, .inl A_weights)), (aT_isThere, .inl (cy.2.1, 40, .inl A_isThere)), (aT_best, .inl (cy.1, 1001, .inl A_best_13)), (aT_order, .inl (cy.1, 40, .inl A_order)), (aT_froms, .inl (cy.1, 40, .inl A_froms_14)), (aT_tos, .inl (cy.1, 40, .inl A_tos_15)), (aT_counts, .inl (cy.2.1, 40, .inl A_counts_16))]) ⟨hx, hb, hml, hown, hts⟩ (c_X5_planOfFirst l G cy k aT aT_begins aT_ends aT_weights aT_isThere aT_rooms aT_isOffered aT_isAccepted aT_best aT_order aT_froms aT_tos aT_counts aT_points aT_flows aT_isUsed aT_gains aT_ways f_thrown f_many f_factor f_dropped f_pointMany A_begins A_ends A_weights A_best_7 A_order A_froms_8 A_tos_9 A_counts_10 (v1 - 1) hcl17) (cwV 1 hts gX5_chosen_X5_planOfFirst rfl rfl rfl (by decide +kernel) ⟨Nat.le_of_ble_eq_true rfl, Nat.le_of_ble_eq_true rfl⟩) hv (isC := [0, 1, 2, 3, 5, 6, 7, 8, 9]) ⟨rfl, rfl⟩ (hv.recv 5 0 rfl rfl) [4] [1, 2, 3, 4, 0, 5, 6, 7, 8, 9] rfl rfl (by decide) rfl rfl rfl hl.1 rfl (Nat.le_of_ble_eq_true rfl) dX5_chosen_35 ⟨Nat.le_of_ble_eq_true rfl, Nat.le_of_ble_eq_true rfl⟩ (fun H locs hv => ?_)
        refine lv_icmp_ne (tgt := 47) hx hb dX5_chosen_38 (by decide) (fun hc18 => ?_) (fun hc18 => ?_)
        · replace hf := ite_f hf hc18
          refine lv_lload_n hx hb dX5_chosen_47 rfl (lv_at hl 3 rfl) ?_
          refine lv_lconst (v := 1) hx hb dX5_chosen_48 (by decide) ?_
          refine lv_iload hx hb dX5_chosen_49 (lv_at hl 0 rfl) ?_
          refine lv_lshl hx hb dX5_chosen_51 rfl ?_
          refine lv_lor hx hb dX5_chosen_52 ?_
          refine lv_lstore_n (lv' := [(2, .long (v2 ||| ((1 : Int64) <<< ((A_order (v1 - 1).toNatClampNeg : Int32).toInt64 &&& 63)))), (4, .int (A_order (v1 - 1).toNatClampNeg)), (0, .ref aT), (1, .int v1)]) hx hb dX5_chosen_53 rfl hl (by decide) rfl (fun ls hl => ?_)
          refine lv_iconst (v := 0) hx hb dX5_chosen_54 (by decide) ?_
          refine lv_istore_n (lv' := [(1, .int 0), (2, .long (v2 ||| ((1 : Int64) <<< ((A_order (v1 - 1).toNatClampNeg : Int32).toInt64 &&& 63)))), (4, .int (A_order (v1 - 1).toNatClampNeg)), (0, .ref aT)]) hx hb dX5_chosen_55 rfl hl (by decide) rfl (fun ls hl => ?_)
          refine lv_iconst (v := 0) hx hb dX5_chosen_56 (by decide) ?_
          refine lv_istore (lv' := [(5, .int 0), (1, .int 0), (2, .long (v2 ||| ((1 : Int64) <<< ((A_order (v1 - 1).toNatClampNeg : Int32).toInt64 &&& 63)))), (4, .int (A_order (v1 - 1).toNatClampNeg)), (0, .ref aT)]) hx hb dX5_chosen_57 hl (by decide) rfl (fun ls hl => ?_)
          refine L59 _ _ _ _ _ _ _ _ _ _ _ _ hf _ _ _ hv (lv_sub hl [4, 1, 2, 3, 0] rfl) (fun v1_25 v5_26 hf H locs ls hv hl => ?_)
          try dsimp only at hf
          refine lv_goto (tgt := 12) hx hb dX5_chosen_109 (by decide) ?_
          exact ih v1_25 (v2 ||| ((1 : Int64) <<< ((A_order (v1 - 1).toNatClampNeg : Int32).toInt64 &&& 63))) A_best_13 A_froms_14 A_tos_15 A_counts_16 hf _ _ _ hv (lv_sub hl [0, 1, 2] rfl) hκ
        · replace hf := ite_t hf hc18
          refine lv_iinc (v := v1 + (-1)) (lv' := [(1, .int (v1 + (-1))), (4, .int (A_order (v1 - 1).toNatClampNeg)), (0, .ref aT), (2, .long v2)]) hx hb dX5_chosen_41 hl (k := 2) rfl rfl (by decide) rfl (fun ls hl => ?_)
          refine lv_goto (tgt := 109) hx hb dX5_chosen_44 (by decide) ?_
          refine lv_goto (tgt := 12) hx hb dX5_chosen_109 (by decide) ?_
          exact ih (v1 + (-1)) v2 A_best_13 A_froms_14 A_tos_15 A_counts_16 hf _ _ _ hv (lv_sub hl [2, 0, 3] rfl) hκ
  unfold f_X5_chosen at hf
  refine lv_aload_n hx hb dX5_chosen_0 rfl (lv_at hl 0 rfl) ?_
  refine lv_iconst (v := 0) hx hb dX5_chosen_1 (by decide) ?_
  refine kPut (v := .int 0) (ty := .int) (C := RX5) (T := TX5) (N := 22) hx hb hts hinX5 tyX5 tyX5_ok nmX5 hown hv 0 rfl rfl 0 (by decide) hk66 (fun _ h9 => h9) rfl (by decide +kernel) rfl rfl (Nat.le_of_ble_eq_true rfl) dX5_chosen_2 (fun H locs hv => ?_)
  replace hv : Hv s H locs G cy A [(aT, .inr (5, [.int 0, .int f_many, .ref aT_begins, .ref aT_ends, .ref aT_weights, .ref aT_isThere, .ref aT_rooms, .int f_factor, .ref aT_isOffered, .ref aT_isAccepted, .int f_dropped, .ref aT_best, .ref aT_order, .ref aT_froms, .ref aT_tos, .ref aT_counts, .ref aT_points, .ref aT_flows, .ref aT_isUsed, .ref aT_gains, .ref aT_ways, .int f_pointMany])), (aT_begins, .inl (cy.1, 40, .inl A_begins)), (aT_ends, .inl (cy.1, 40, .inl A_ends)), (aT_weights, .inl (cy.1, 40, .inl A_weights)), (aT_isThere, .inl (cy.2.1, 40, .inl A_isThere)), (aT_best, .inl (cy.1, 1001, .inl A_best)), (aT_order, .inl (cy.1, 40, .inl A_order)), (aT_froms, .inl (cy.1, 40, .inl A_froms)), (aT_tos, .inl (cy.1, 40, .inl A_tos)), (aT_counts, .inl (cy.2.1, 40, .inl A_counts))] := hv
  refine lv_aload_n hx hb dX5_chosen_5 rfl (lv_at hl 0 rfl) ?_
  obtain ⟨⟨r1, A_order_2⟩, hcl3, hf⟩ := xb_some hf
  dsimp only at hf
  refine kV_i (r := r1) (wr := [(aT_begins, .inl (cy.1, 40, .inl A_begins)), (aT_weights, .inl (cy.1, 40, .inl A_weights)), (aT_best, .inl (cy.1, 1001, .inl A_best)), (aT_froms, .inl (cy.1, 40, .inl A_froms)), (aT_tos, .inl (cy.1, 40, .inl A_tos)), (aT_counts, .inl (cy.2.1, 40, .inl A_counts))]) (w2 := [(aT, .inr (5, [.int 0, .int f_many, .ref aT_begins, .ref aT_ends, .ref aT_weights, .ref aT_isThere, .ref aT_rooms, .int f_factor, .ref aT_isOffered, .ref aT_isAccepted, .int f_dropped, .ref aT_best, .ref aT_order, .ref aT_froms, .ref aT_tos, .ref aT_counts, .ref aT_points, .ref aT_flows, .ref aT_isUsed, .ref aT_gains, .ref aT_ways, .int f_pointMany])), (aT_begins, .inl (cy.1, 40, .inl A_begins)), (aT_ends, .inl (cy.1, 40, .inl A_ends)), (aT_weights, .inl (cy.1, 40, .inl A_weights)), (aT_isThere, .inl (cy.2.1, 40, .inl A_isThere)), (aT_best, .inl (cy.1, 1001, .inl A_best)), (aT_order, .inl (cy.1, 40, .inl A_order_2)), (aT_froms, .inl (cy.1, 40, .inl A_froms)), (aT_tos, .inl (cy.1, 40, .inl A_tos)), (aT_counts, .inl (cy.2.1, 40, .inl A_counts))]) ⟨hx, hb, hml, hown, hts⟩ (c_X5_layOrder l G cy k aT aT_begins aT_ends aT_weights aT_isThere aT_rooms aT_isOffered aT_isAccepted aT_best aT_order aT_froms aT_tos aT_counts aT_points aT_flows aT_isUsed aT_gains aT_ways 0 f_many f_factor f_dropped f_pointMany A_ends A_isThere A_order hcl3) (cwV 0 hts gX5_chosen_X5_layOrder rfl rfl rfl (by decide +kernel) ⟨Nat.le_of_ble_eq_true rfl, Nat.le_of_ble_eq_true rfl⟩) hv (isC := [0, 2, 4, 6]) ⟨rfl, rfl⟩ (hv.recv 5 0 rfl rfl) [1, 3, 5, 7, 8, 9] [6, 0, 7, 1, 8, 2, 9, 3, 4, 5] rfl rfl (by decide) rfl rfl rfl hl.1 rfl (Nat.le_of_ble_eq_true rfl) dX5_chosen_6 ⟨Nat.le_of_ble_eq_true rfl, Nat.le_of_ble_eq_true rfl⟩ (fun H locs hv => ?_)
  refine lv_istore_n (lv' := [(1, .int r1), (0, .ref aT)]) hx hb dX5_chosen_9 rfl hl (by decide) rfl (fun ls hl => ?_)
  refine lv_lconst (v := 0) hx hb dX5_chosen_10 (by decide) ?_
  refine lv_lstore_n (lv' := [(2, .long 0), (1, .int r1), (0, .ref aT)]) hx hb dX5_chosen_11 rfl hl (by decide) rfl (fun ls hl => ?_)
  refine L12 _ _ _ _ _ _ _ _ _ _ hf _ _ _ hv (lv_sub hl [2, 1, 0] rfl) (fun v1_27 v2_28 A_best_29 A_froms_30 A_tos_31 A_counts_32 hf H locs ls hv hl => ?_)
  try dsimp only at hf
  refine lv_lload_n hx hb dX5_chosen_112 rfl (lv_at hl 0 rfl) ?_
  cases hf
  exact kret _ _ _ _ hv dX5_chosen_113

def f_X5_depth (k : Nat) (p1 : Int32) (f_thrown : Int32) (f_many : Int32) (A_begins : Nat → Int32) (A_ends : Nat → Int32) (A_isThere : Nat → Int32) : Option (Int32 × Int32) := xb (f_X5_in k p1 0 1000) (fun r1 => xj (fun (x5 : Int32) => xb (f_X5_goesWell k x5 f_thrown) (fun (r6, f_thrown_7) => if r6 = 0 then some (0, f_thrown_7) else xb (f_X5_depthAt k p1 f_many A_begins A_ends A_isThere) (fun r10 => some (r10, f_thrown_7)))) (fun (j17_4 : Int32 → Option (Int32 × Int32)) => if r1 = 0 then j17_4 1 else j17_4 0))
abbrev rm_X5_depth : Room := { frames := 1, cells := 0, slots := 0, locals := 23 }
set_option maxHeartbeats 4000000 in
set_option maxRecDepth 100000 in
theorem c_X5_depth (l : Launch) (G : va_G) (cy : ClassId × ClassId × ClassId) (k : Nat) (aT aT_begins aT_ends aT_weights aT_isThere aT_rooms aT_isOffered aT_isAccepted aT_best aT_order aT_froms aT_tos aT_counts aT_points aT_flows aT_isUsed aT_gains aT_ways : Nat) (f_thrown : Int32) (f_many : Int32) (f_factor : Int32) (f_dropped : Int32) (f_pointMany : Int32) (A_begins : Nat → Int32) (A_ends : Nat → Int32) (A_isThere : Nat → Int32) (p1 : Int32) {r : Int32} {wf_thrown : Int32} (hf : f_X5_depth k p1 f_thrown f_many A_begins A_ends A_isThere = some (r, wf_thrown)) : Ci l yX5_depth wsX5_depth rm_X5_depth 0 0 G cy [.ref aT, .int p1] [(aT, .inr (5, [.int f_thrown, .int f_many, .ref aT_begins, .ref aT_ends, .ref aT_weights, .ref aT_isThere, .ref aT_rooms, .int f_factor, .ref aT_isOffered, .ref aT_isAccepted, .int f_dropped, .ref aT_best, .ref aT_order, .ref aT_froms, .ref aT_tos, .ref aT_counts, .ref aT_points, .ref aT_flows, .ref aT_isUsed, .ref aT_gains, .ref aT_ways, .int f_pointMany])), (aT_begins, .inl (cy.1, 40, .inl A_begins)), (aT_ends, .inl (cy.1, 40, .inl A_ends)), (aT_isThere, .inl (cy.2.1, 40, .inl A_isThere))] [(aT, .inr (5, [.int wf_thrown, .int f_many, .ref aT_begins, .ref aT_ends, .ref aT_weights, .ref aT_isThere, .ref aT_rooms, .int f_factor, .ref aT_isOffered, .ref aT_isAccepted, .int f_dropped, .ref aT_best, .ref aT_order, .ref aT_froms, .ref aT_tos, .ref aT_counts, .ref aT_points, .ref aT_flows, .ref aT_isUsed, .ref aT_gains, .ref aT_ways, .int f_pointMany])), (aT_begins, .inl (cy.1, 40, .inl A_begins)), (aT_ends, .inl (cy.1, 40, .inl A_ends)), (aT_isThere, .inl (cy.2.1, 40, .inl A_isThere))] r := by
  refine kMetI (cc := cX5_depth) (maxL := 2) (by decide) rfl (Nat.le_of_ble_eq_true rfl) ?_
  intro p e s m args below meth c Q A ls hx hb hml hts hown hv hl kret
  replace hown : s.vm.findClass RX5 = some m.cls := hown
  replace hl : lv_has ls 2 [(0, .ref aT), (1, .int p1)] := hl
  unfold f_X5_depth at hf
  refine lv_aload_n hx hb dX5_depth_0 rfl (lv_at hl 0 rfl) ?_
  refine lv_iload_n hx hb dX5_depth_1 rfl (lv_at hl 1 rfl) ?_
  refine lv_iconst (v := 0) hx hb dX5_depth_2 (by decide) ?_
  refine lv_sipush (v := 1000) hx hb dX5_depth_3 (by decide) ?_
  obtain ⟨r1, hcl2, hf⟩ := xb_some hf
  refine kS_i (r := r1) ⟨hx, hb, hml, hown, hts⟩ (c_X5_in l G cy k p1 0 1000 hcl2) (va_cwS 3 hts gX5_depth_X5_in rfl rfl rfl (by decide +kernel) ⟨Nat.le_of_ble_eq_true rfl, Nat.le_of_ble_eq_true rfl⟩) hv rfl hl.1 rfl (Nat.le_of_ble_eq_true rfl) dX5_depth_6 ⟨Nat.le_of_ble_eq_true rfl, Nat.le_of_ble_eq_true rfl⟩ (fun H locs hv => ?_)
  refine xj_elim hf (fun j17_4 ej17_4 hf => ?_)
  have J17_4 : ∀ (x5 : Int32), j17_4 x5 = some (r, wf_thrown) → ∀ (H : Heap) (locs : List Loc) (ls : Array Slot), Hv s H locs G cy A [(aT, .inr (5, [.int f_thrown, .int f_many, .ref aT_begins, .ref aT_ends, .ref aT_weights, .ref aT_isThere, .ref aT_rooms, .int f_factor, .ref aT_isOffered, .ref aT_isAccepted, .int f_dropped, .ref aT_best, .ref aT_order, .ref aT_froms, .ref aT_tos, .ref aT_counts, .ref aT_points, .ref aT_flows, .ref aT_isUsed, .ref aT_gains, .ref aT_ways, .int f_pointMany])), (aT_begins, .inl (cy.1, 40, .inl A_begins)), (aT_ends, .inl (cy.1, 40, .inl A_ends)), (aT_isThere, .inl (cy.2.1, 40, .inl A_isThere))] → lv_has ls 2 [(0, .ref aT), (1, .int p1)] → W p l e rm_X5_depth s m args below meth c H locs 0 0 Q (F0 m 17 ls [.int x5, .ref aT]) := by
    intro x5 hf H locs ls hv hl
    rw [ej17_4] at hf
    try dsimp only at hf
    obtain ⟨⟨r6, f_thrown_7⟩, hcl8, hf⟩ := xb_some hf
    dsimp only at hf
    refine kV_i (r := r6) (wr := [(aT_begins, .inl (cy.1, 40, .inl A_begins)), (aT_ends, .inl (cy.1, 40, .inl A_ends)), (aT_isThere, .inl (cy.2.1, 40, .inl A_isThere))]) (w2 := [(aT, .inr (5, [.int f_thrown_7, .int f_many, .ref aT_begins, .ref aT_ends, .ref aT_weights, .ref aT_isThere, .ref aT_rooms, .int f_factor, .ref aT_isOffered, .ref aT_isAccepted, .int f_dropped, .ref aT_best, .ref aT_order, .ref aT_froms, .ref aT_tos, .ref aT_counts, .ref aT_points, .ref aT_flows, .ref aT_isUsed, .ref aT_gains, .ref aT_ways, .int f_pointMany])), (aT_begins, .inl (cy.1, 40, .inl A_begins)), (aT_ends, .inl (cy.1, 40, .inl A_ends)), (aT_isThere, .inl (cy.2.1, 40, .inl A_isThere))]) ⟨hx, hb, hml, hown, hts⟩ (c_X5_goesWell l G cy k aT aT_begins aT_ends aT_weights aT_isThere aT_rooms aT_isOffered aT_isAccepted aT_best aT_order aT_froms aT_tos aT_counts aT_points aT_flows aT_isUsed aT_gains aT_ways f_thrown f_many f_factor f_dropped f_pointMany x5 hcl8) (cwV 1 hts gX5_depth_X5_goesWell rfl rfl rfl (by decide +kernel) ⟨Nat.le_of_ble_eq_true rfl, Nat.le_of_ble_eq_true rfl⟩) hv (isC := [0]) ⟨rfl, rfl⟩ (hv.recv 5 0 rfl rfl) [1, 2, 3] [3, 0, 1, 2] rfl rfl (by decide) rfl rfl rfl hl.1 rfl (Nat.le_of_ble_eq_true rfl) dX5_depth_17 ⟨Nat.le_of_ble_eq_true rfl, Nat.le_of_ble_eq_true rfl⟩ (fun H locs hv => ?_)
    refine lv_if_eq (tgt := 31) hx hb dX5_depth_20 (by decide) (fun hc9 => ?_) (fun hc9 => ?_)
    · replace hf := ite_t hf hc9
      refine lv_iconst (v := 0) hx hb dX5_depth_31 (by decide) ?_
      cases hf
      exact kret _ _ _ _ hv dX5_depth_32
    · replace hf := ite_f hf hc9
      refine lv_aload_n hx hb dX5_depth_23 rfl (lv_at hl 0 rfl) ?_
      refine lv_iload_n hx hb dX5_depth_24 rfl (lv_at hl 1 rfl) ?_
      obtain ⟨r10, hcl11, hf⟩ := xb_some hf
      refine kV_i (r := r10) (wr := []) (w2 := [(aT, .inr (5, [.int f_thrown_7, .int f_many, .ref aT_begins, .ref aT_ends, .ref aT_weights, .ref aT_isThere, .ref aT_rooms, .int f_factor, .ref aT_isOffered, .ref aT_isAccepted, .int f_dropped, .ref aT_best, .ref aT_order, .ref aT_froms, .ref aT_tos, .ref aT_counts, .ref aT_points, .ref aT_flows, .ref aT_isUsed, .ref aT_gains, .ref aT_ways, .int f_pointMany])), (aT_begins, .inl (cy.1, 40, .inl A_begins)), (aT_ends, .inl (cy.1, 40, .inl A_ends)), (aT_isThere, .inl (cy.2.1, 40, .inl A_isThere))]) ⟨hx, hb, hml, hown, hts⟩ (c_X5_depthAt l G cy k aT aT_begins aT_ends aT_weights aT_isThere aT_rooms aT_isOffered aT_isAccepted aT_best aT_order aT_froms aT_tos aT_counts aT_points aT_flows aT_isUsed aT_gains aT_ways f_thrown_7 f_many f_factor f_dropped f_pointMany A_begins A_ends A_isThere p1 hcl11) (cwV 1 hts gX5_depth_X5_depthAt rfl rfl rfl (by decide +kernel) ⟨Nat.le_of_ble_eq_true rfl, Nat.le_of_ble_eq_true rfl⟩) hv (isC := [0, 1, 2, 3]) ⟨rfl, rfl⟩ (hv.recv 5 0 rfl rfl) [] [0, 1, 2, 3] rfl rfl (by decide) rfl rfl rfl hl.1 rfl (Nat.le_of_ble_eq_true rfl) dX5_depth_25 ⟨Nat.le_of_ble_eq_true rfl, Nat.le_of_ble_eq_true rfl⟩ (fun H locs hv => ?_)
      refine lv_goto (tgt := 32) hx hb dX5_depth_28 (by decide) ?_
      cases hf
      exact kret _ _ _ _ hv dX5_depth_32
  refine lv_if_eq (tgt := 16) hx hb dX5_depth_9 (by decide) (fun hc3 => ?_) (fun hc3 => ?_)
  · replace hf := ite_t hf hc3
    refine lv_iconst (v := 1) hx hb dX5_depth_16 (by decide) ?_
    exact J17_4 1 hf _ _ _ hv (lv_sub hl [0, 1] rfl)
  · replace hf := ite_f hf hc3
    refine lv_iconst (v := 0) hx hb dX5_depth_12 (by decide) ?_
    refine lv_goto (tgt := 17) hx hb dX5_depth_13 (by decide) ?_
    exact J17_4 0 hf _ _ _ hv (lv_sub hl [0, 1] rfl)

def f_X5_faultRound_L4 (k : Nat) (v1 : Int32) (f_many : Int32) (A_begins : Nat → Int32) (A_ends : Nat → Int32) (A_isThere : Nat → Int32) (κ : Int32 → Int32 → Option (Int32)) : Nat → Int32 → Int32 → Option (Int32)
  | 0, _, _ => none
  | n + 1, v2, v3 => if f_many ≤ v3 then κ v2 v3 else if v2 = 0 then f_X5_faultRound_L4 k v1 f_many A_begins A_ends A_isThere κ n 0 (v3 + 1) else xi v3 40 (if (A_isThere v3.toNatClampNeg) = 0 then f_X5_faultRound_L4 k v1 f_many A_begins A_ends A_isThere κ n 1 (v3 + 1) else xi v3 40 (xi v3 40 (if v1 < ((A_ends v3.toNatClampNeg) - (A_begins v3.toNatClampNeg)) then f_X5_faultRound_L4 k v1 f_many A_begins A_ends A_isThere κ n 0 (v3 + 1) else f_X5_faultRound_L4 k v1 f_many A_begins A_ends A_isThere κ n 1 (v3 + 1))))
theorem f_X5_faultRound_L4_z (k : Nat) (v1 : Int32) (f_many : Int32) (A_begins : Nat → Int32) (A_ends : Nat → Int32) (A_isThere : Nat → Int32) (κ : Int32 → Int32 → Option (Int32)) (v2 : Int32) (v3 : Int32) : f_X5_faultRound_L4 k v1 f_many A_begins A_ends A_isThere κ 0 v2 v3 = none := rfl
theorem f_X5_faultRound_L4_s (k : Nat) (v1 : Int32) (f_many : Int32) (A_begins : Nat → Int32) (A_ends : Nat → Int32) (A_isThere : Nat → Int32) (κ : Int32 → Int32 → Option (Int32)) (n : Nat) (v2 : Int32) (v3 : Int32) : f_X5_faultRound_L4 k v1 f_many A_begins A_ends A_isThere κ (n + 1) v2 v3 = if f_many ≤ v3 then κ v2 v3 else if v2 = 0 then f_X5_faultRound_L4 k v1 f_many A_begins A_ends A_isThere κ n 0 (v3 + 1) else xi v3 40 (if (A_isThere v3.toNatClampNeg) = 0 then f_X5_faultRound_L4 k v1 f_many A_begins A_ends A_isThere κ n 1 (v3 + 1) else xi v3 40 (xi v3 40 (if v1 < ((A_ends v3.toNatClampNeg) - (A_begins v3.toNatClampNeg)) then f_X5_faultRound_L4 k v1 f_many A_begins A_ends A_isThere κ n 0 (v3 + 1) else f_X5_faultRound_L4 k v1 f_many A_begins A_ends A_isThere κ n 1 (v3 + 1)))) := rfl
def f_X5_faultRound (k : Nat) (p1 : Int32) (f_many : Int32) (A_begins : Nat → Int32) (A_ends : Nat → Int32) (A_isThere : Nat → Int32) : Option (Int32) := f_X5_faultRound_L4 k p1 f_many A_begins A_ends A_isThere (fun (v2_8 : Int32) (v3_9 : Int32) => xb (f_X5_in k p1 1 1000) (fun r10 => if r10 = 0 then some 1 else if v2_8 = 0 then some 2 else some 0)) k 1 0
abbrev rm_X5_faultRound : Room := { frames := 1, cells := 0, slots := 0, locals := 22 }
set_option maxHeartbeats 4000000 in
set_option maxRecDepth 100000 in
theorem c_X5_faultRound (l : Launch) (G : va_G) (cy : ClassId × ClassId × ClassId) (k : Nat) (aT aT_begins aT_ends aT_weights aT_isThere aT_rooms aT_isOffered aT_isAccepted aT_best aT_order aT_froms aT_tos aT_counts aT_points aT_flows aT_isUsed aT_gains aT_ways : Nat) (f_thrown : Int32) (f_many : Int32) (f_factor : Int32) (f_dropped : Int32) (f_pointMany : Int32) (A_begins : Nat → Int32) (A_ends : Nat → Int32) (A_isThere : Nat → Int32) (p1 : Int32) {r : Int32} (hf : f_X5_faultRound k p1 f_many A_begins A_ends A_isThere = some r) : Ci l yX5_faultRound wsX5_faultRound rm_X5_faultRound 0 0 G cy [.ref aT, .int p1] [(aT, .inr (5, [.int f_thrown, .int f_many, .ref aT_begins, .ref aT_ends, .ref aT_weights, .ref aT_isThere, .ref aT_rooms, .int f_factor, .ref aT_isOffered, .ref aT_isAccepted, .int f_dropped, .ref aT_best, .ref aT_order, .ref aT_froms, .ref aT_tos, .ref aT_counts, .ref aT_points, .ref aT_flows, .ref aT_isUsed, .ref aT_gains, .ref aT_ways, .int f_pointMany])), (aT_begins, .inl (cy.1, 40, .inl A_begins)), (aT_ends, .inl (cy.1, 40, .inl A_ends)), (aT_isThere, .inl (cy.2.1, 40, .inl A_isThere))] [(aT, .inr (5, [.int f_thrown, .int f_many, .ref aT_begins, .ref aT_ends, .ref aT_weights, .ref aT_isThere, .ref aT_rooms, .int f_factor, .ref aT_isOffered, .ref aT_isAccepted, .int f_dropped, .ref aT_best, .ref aT_order, .ref aT_froms, .ref aT_tos, .ref aT_counts, .ref aT_points, .ref aT_flows, .ref aT_isUsed, .ref aT_gains, .ref aT_ways, .int f_pointMany])), (aT_begins, .inl (cy.1, 40, .inl A_begins)), (aT_ends, .inl (cy.1, 40, .inl A_ends)), (aT_isThere, .inl (cy.2.1, 40, .inl A_isThere))] r := by
  refine kMetI (cc := cX5_faultRound) (maxL := 4) (by decide) rfl (Nat.le_of_ble_eq_true rfl) ?_
  intro p e s m args below meth c Q A ls hx hb hml hts hown hv hl kret
  replace hown : s.vm.findClass RX5 = some m.cls := hown
  replace hl : lv_has ls 4 [(0, .ref aT), (1, .int p1)] := hl
  have hk69 : (Cond.fieldLink RX5 69 "RoomcolourModel" "many" "I").before args s = true := hts _ (by decide +kernel)
  have hinX5 : ∀ w ∈ wsX50, w ∈ wsX5_faultRound := by decide +kernel
  have hk19 : (Cond.fieldLink RX5 19 "RoomcolourModel" "isThere" "[Z").before args s = true := hts _ (by decide +kernel)
  have hk13 : (Cond.fieldLink RX5 13 "RoomcolourModel" "ends" "[I").before args s = true := hts _ (by decide +kernel)
  have hk7 : (Cond.fieldLink RX5 7 "RoomcolourModel" "begins" "[I").before args s = true := hts _ (by decide +kernel)
  have L4 : ∀ (v1 : Int32) (κ : Int32 → Int32 → Option (Int32)) (n : Nat) (v2 : Int32) (v3 : Int32), f_X5_faultRound_L4 k v1 f_many A_begins A_ends A_isThere κ n v2 v3 = some r → ∀ (H : Heap) (locs : List Loc) (ls : Array Slot), Hv s H locs G cy A [(aT, .inr (5, [.int f_thrown, .int f_many, .ref aT_begins, .ref aT_ends, .ref aT_weights, .ref aT_isThere, .ref aT_rooms, .int f_factor, .ref aT_isOffered, .ref aT_isAccepted, .int f_dropped, .ref aT_best, .ref aT_order, .ref aT_froms, .ref aT_tos, .ref aT_counts, .ref aT_points, .ref aT_flows, .ref aT_isUsed, .ref aT_gains, .ref aT_ways, .int f_pointMany])), (aT_begins, .inl (cy.1, 40, .inl A_begins)), (aT_ends, .inl (cy.1, 40, .inl A_ends)), (aT_isThere, .inl (cy.2.1, 40, .inl A_isThere))] → lv_has ls 4 [(0, .ref aT), (1, .int v1), (2, .int v2), (3, .int v3)] → (∀ (v2 : Int32) (v3 : Int32), κ v2 v3 = some r → ∀ (H : Heap) (locs : List Loc) (ls : Array Slot), Hv s H locs G cy A [(aT, .inr (5, [.int f_thrown, .int f_many, .ref aT_begins, .ref aT_ends, .ref aT_weights, .ref aT_isThere, .ref aT_rooms, .int f_factor, .ref aT_isOffered, .ref aT_isAccepted, .int f_dropped, .ref aT_best, .ref aT_order, .ref aT_froms, .ref aT_tos, .ref aT_counts, .ref aT_points, .ref aT_flows, .ref aT_isUsed, .ref aT_gains, .ref aT_ways, .int f_pointMany])), (aT_begins, .inl (cy.1, 40, .inl A_begins)), (aT_ends, .inl (cy.1, 40, .inl A_ends)), (aT_isThere, .inl (cy.2.1, 40, .inl A_isThere))] → lv_has ls 4 [(1, .int v1), (2, .int v2)] → W p l e rm_X5_faultRound s m args below meth c H locs 0 0 Q (F0 m 54 ls [])) → W p l e rm_X5_faultRound s m args below meth c H locs 0 0 Q (F0 m 4 ls []) := by
    intro v1 κ n
    induction n with
    | zero =>
      intro v2 v3 hf
      rw [f_X5_faultRound_L4_z] at hf
      cases hf
    | succ n ih =>
      intro v2 v3 hf H locs ls hv hl hκ
      rw [f_X5_faultRound_L4_s] at hf
      refine lv_iload_n hx hb dX5_faultRound_4 rfl (lv_at hl 3 rfl) ?_
      refine lv_aload_n hx hb dX5_faultRound_5 rfl (lv_at hl 0 rfl) ?_
      refine kGet (v := .int f_many) (C := RX5) (T := TX5) (N := 22) hx hb hts hinX5 hown hv 0 rfl rfl 1 (by decide) hk69 (fun _ h9 => h9) rfl dX5_faultRound_6 ?_
      refine lv_icmp_ge (tgt := 54) hx hb dX5_faultRound_9 (by decide) (fun hc1 => ?_) (fun hc1 => ?_)
      · replace hf := ite_t hf hc1
        exact hκ v2 v3 hf _ _ _ hv (lv_sub hl [1, 2] rfl)
      · replace hf := ite_f hf hc1
        refine lv_iload_n hx hb dX5_faultRound_12 rfl (lv_at hl 2 rfl) ?_
        refine lv_if_eq (tgt := 46) hx hb dX5_faultRound_13 (by decide) (fun hc2 => ?_) (fun hc2 => ?_)
        · replace hf := ite_t hf hc2
          refine lv_iconst (v := 0) hx hb dX5_faultRound_46 (by decide) ?_
          refine lv_istore_n (lv' := [(2, .int 0), (0, .ref aT), (1, .int v1), (3, .int v3)]) hx hb dX5_faultRound_47 rfl hl (by decide) rfl (fun ls hl => ?_)
          refine lv_iinc (v := v3 + 1) (lv' := [(3, .int (v3 + 1)), (2, .int 0), (0, .ref aT), (1, .int v1)]) hx hb dX5_faultRound_48 hl (k := 3) rfl rfl (by decide) rfl (fun ls hl => ?_)
          refine lv_goto (tgt := 4) hx hb dX5_faultRound_51 (by decide) ?_
          exact ih 0 (v3 + 1) hf _ _ _ hv (lv_sub hl [2, 3, 1, 0] rfl) hκ
        · replace hf := ite_f hf hc2
          refine lv_aload_n hx hb dX5_faultRound_16 rfl (lv_at hl 0 rfl) ?_
          refine kGet (v := .ref aT_isThere) (C := RX5) (T := TX5) (N := 22) hx hb hts hinX5 hown hv 0 rfl rfl 5 (by decide) hk19 (fun _ h9 => h9) rfl dX5_faultRound_17 ?_
          refine lv_iload_n hx hb dX5_faultRound_20 rfl (lv_at hl 3 rfl) ?_
          obtain ⟨hi3, hf⟩ := xi_some hf
          refine kZald hx hb hv 3 rfl hi3 dX5_faultRound_21 ?_
          refine lv_if_eq (tgt := 42) hx hb dX5_faultRound_22 (by decide) (fun hc4 => ?_) (fun hc4 => ?_)
          · replace hf := ite_t hf hc4
            refine lv_iconst (v := 1) hx hb dX5_faultRound_42 (by decide) ?_
            refine lv_goto (tgt := 47) hx hb dX5_faultRound_43 (by decide) ?_
            refine lv_istore_n (lv' := [(2, .int 1), (0, .ref aT), (1, .int v1), (3, .int v3)]) hx hb dX5_faultRound_47 rfl hl (by decide) rfl (fun ls hl => ?_)
            refine lv_iinc (v := v3 + 1) (lv' := [(3, .int (v3 + 1)), (2, .int 1), (0, .ref aT), (1, .int v1)]) hx hb dX5_faultRound_48 hl (k := 3) rfl rfl (by decide) rfl (fun ls hl => ?_)
            refine lv_goto (tgt := 4) hx hb dX5_faultRound_51 (by decide) ?_
            exact ih 1 (v3 + 1) hf _ _ _ hv (lv_sub hl [2, 3, 1, 0] rfl) hκ
          · replace hf := ite_f hf hc4
            refine lv_aload_n hx hb dX5_faultRound_25 rfl (lv_at hl 0 rfl) ?_
            refine kGet (v := .ref aT_ends) (C := RX5) (T := TX5) (N := 22) hx hb hts hinX5 hown hv 0 rfl rfl 3 (by decide) hk13 (fun _ h9 => h9) rfl dX5_faultRound_26 ?_
            refine lv_iload_n hx hb dX5_faultRound_29 rfl (lv_at hl 3 rfl) ?_
            obtain ⟨hi5, hf⟩ := xi_some hf
            refine kIald hx hb hv 2 rfl hi5 dX5_faultRound_30 ?_
            refine lv_aload_n hx hb dX5_faultRound_31 rfl (lv_at hl 0 rfl) ?_
            refine kGet (v := .ref aT_begins) (C := RX5) (T := TX5) (N := 22) hx hb hts hinX5 hown hv 0 rfl rfl 2 (by decide) hk7 (fun _ h9 => h9) rfl dX5_faultRound_32 ?_
            refine lv_iload_n hx hb dX5_faultRound_35 rfl (lv_at hl 3 rfl) ?_
            obtain ⟨hi6, hf⟩ := xi_some hf
            refine kIald hx hb hv 1 rfl hi6 dX5_faultRound_36 ?_
            refine lv_isub hx hb dX5_faultRound_37 ?_
            refine lv_iload_n hx hb dX5_faultRound_38 rfl (lv_at hl 1 rfl) ?_
            refine lv_icmp_gt (tgt := 46) hx hb dX5_faultRound_39 (by decide) (fun hc7 => ?_) (fun hc7 => ?_)
            · replace hf := ite_t hf hc7
              refine lv_iconst (v := 0) hx hb dX5_faultRound_46 (by decide) ?_
              refine lv_istore_n (lv' := [(2, .int 0), (0, .ref aT), (1, .int v1), (3, .int v3)]) hx hb dX5_faultRound_47 rfl hl (by decide) rfl (fun ls hl => ?_)
              refine lv_iinc (v := v3 + 1) (lv' := [(3, .int (v3 + 1)), (2, .int 0), (0, .ref aT), (1, .int v1)]) hx hb dX5_faultRound_48 hl (k := 3) rfl rfl (by decide) rfl (fun ls hl => ?_)
              refine lv_goto (tgt := 4) hx hb dX5_faultRound_51 (by decide) ?_
              exact ih 0 (v3 + 1) hf _ _ _ hv (lv_sub hl [2, 3, 1, 0] rfl) hκ
            · replace hf := ite_f hf hc7
              refine lv_iconst (v := 1) hx hb dX5_faultRound_42 (by decide) ?_
              refine lv_goto (tgt := 47) hx hb dX5_faultRound_43 (by decide) ?_
              refine lv_istore_n (lv' := [(2, .int 1), (0, .ref aT), (1, .int v1), (3, .int v3)]) hx hb dX5_faultRound_47 rfl hl (by decide) rfl (fun ls hl => ?_)
              refine lv_iinc (v := v3 + 1) (lv' := [(3, .int (v3 + 1)), (2, .int 1), (0, .ref aT), (1, .int v1)]) hx hb dX5_faultRound_48 hl (k := 3) rfl rfl (by decide) rfl (fun ls hl => ?_)
              refine lv_goto (tgt := 4) hx hb dX5_faultRound_51 (by decide) ?_
              exact ih 1 (v3 + 1) hf _ _ _ hv (lv_sub hl [2, 3, 1, 0] rfl) hκ
  unfold f_X5_faultRound at hf
  refine lv_iconst (v := 1) hx hb dX5_faultRound_0 (by decide) ?_
  refine lv_istore_n (lv' := [(2, .int 1), (0, .ref aT), (1, .int p1)]) hx hb dX5_faultRound_1 rfl hl (by decide) rfl (fun ls hl => ?_)
  refine lv_iconst (v := 0) hx hb dX5_faultRound_2 (by decide) ?_
  refine lv_istore_n (lv' := [(3, .int 0), (2, .int 1), (0, .ref aT), (1, .int p1)]) hx hb dX5_faultRound_3 rfl hl (by decide) rfl (fun ls hl => ?_)
  refine L4 _ _ _ _ _ hf _ _ _ hv (lv_sub hl [2, 3, 1, 0] rfl) (fun v2_8 v3_9 hf H locs ls hv hl => ?_)
  try dsimp only at hf
  refine lv_iload_n hx hb dX5_faultRound_54 rfl (lv_at hl 0 rfl) ?_
  refine lv_iconst (v := 1) hx hb dX5_faultRound_55 (by decide) ?_
  refine lv_sipush (v := 1000) hx hb dX5_faultRound_56 (by decide) ?_
  obtain ⟨r10, hcl11, hf⟩ := xb_some hf
  refine kS_i (r := r10) ⟨hx, hb, hml, hown, hts⟩ (c_X5_in l G cy k p1 1 1000 hcl11) (va_cwS 3 hts gX5_faultRound_X5_in rfl rfl rfl (by decide +kernel) ⟨Nat.le_of_ble_eq_true rfl, Nat.le_of_ble_eq_true rfl⟩) hv rfl hl.1 rfl (Nat.le_of_ble_eq_true rfl) dX5_faultRound_59 ⟨Nat.le_of_ble_eq_true rfl, Nat.le_of_ble_eq_true rfl⟩ (fun H locs hv => ?_)
  refine lv_if_ne (tgt := 69) hx hb dX5_faultRound_62 (by decide) (fun hc12 => ?_) (fun hc12 => ?_)
  · replace hf := ite_f hf hc12
    refine lv_iload_n hx hb dX5_faultRound_69 rfl (lv_at hl 1 rfl) ?_
    refine lv_if_eq (tgt := 77) hx hb dX5_faultRound_70 (by decide) (fun hc13 => ?_) (fun hc13 => ?_)
    · replace hf := ite_t hf hc13
      refine lv_iconst (v := 2) hx hb dX5_faultRound_77 (by decide) ?_
      cases hf
      exact kret _ _ _ _ hv dX5_faultRound_78
    · replace hf := ite_f hf hc13
      refine lv_iconst (v := 0) hx hb dX5_faultRound_73 (by decide) ?_
      refine lv_goto (tgt := 78) hx hb dX5_faultRound_74 (by decide) ?_
      cases hf
      exact kret _ _ _ _ hv dX5_faultRound_78
  · replace hf := ite_t hf hc12
    refine lv_iconst (v := 1) hx hb dX5_faultRound_65 (by decide) ?_
    refine lv_goto (tgt := 78) hx hb dX5_faultRound_66 (by decide) ?_
    cases hf
    exact kret _ _ _ _ hv dX5_faultRound_78

def f_X5_takes (k : Nat) (p1 : Int32) (p2 : Int32) (p3 : Int32) (A_begins : Nat → Int32) (A_ends : Nat → Int32) : Option (Int32) := xi p1 40 (xd p3 (xj (fun (x5 : Int32) => xi p1 40 (xi p1 40 (if ((A_ends p1.toNatClampNeg) - (A_begins p1.toNatClampNeg)) ≤ x5 then some 0 else some 1))) (fun (j29_4 : Int32 → Option (Int32)) => if p2 < ((A_begins p1.toNatClampNeg) - (A_begins p1.toNatClampNeg) / p3 * p3) then j29_4 ((p2 + p3) - ((A_begins p1.toNatClampNeg) - (A_begins p1.toNatClampNeg) / p3 * p3)) else j29_4 (p2 - ((A_begins p1.toNatClampNeg) - (A_begins p1.toNatClampNeg) / p3 * p3)))))
abbrev rm_X5_takes : Room := { frames := 0, cells := 0, slots := 0, locals := 0 }
set_option maxHeartbeats 4000000 in
set_option maxRecDepth 100000 in
theorem c_X5_takes (l : Launch) (G : va_G) (cy : ClassId × ClassId × ClassId) (k : Nat) (aT aT_begins aT_ends aT_weights aT_isThere aT_rooms aT_isOffered aT_isAccepted aT_best aT_order aT_froms aT_tos aT_counts aT_points aT_flows aT_isUsed aT_gains aT_ways : Nat) (f_thrown : Int32) (f_many : Int32) (f_factor : Int32) (f_dropped : Int32) (f_pointMany : Int32) (A_begins : Nat → Int32) (A_ends : Nat → Int32) (p1 : Int32) (p2 : Int32) (p3 : Int32) {r : Int32} (hf : f_X5_takes k p1 p2 p3 A_begins A_ends = some r) : Ci l yX5_takes wsX5_takes rm_X5_takes 0 0 G cy [.ref aT, .int p1, .int p2, .int p3] [(aT, .inr (5, [.int f_thrown, .int f_many, .ref aT_begins, .ref aT_ends, .ref aT_weights, .ref aT_isThere, .ref aT_rooms, .int f_factor, .ref aT_isOffered, .ref aT_isAccepted, .int f_dropped, .ref aT_best, .ref aT_order, .ref aT_froms, .ref aT_tos, .ref aT_counts, .ref aT_points, .ref aT_flows, .ref aT_isUsed, .ref aT_gains, .ref aT_ways, .int f_pointMany])), (aT_begins, .inl (cy.1, 40, .inl A_begins)), (aT_ends, .inl (cy.1, 40, .inl A_ends))] [(aT, .inr (5, [.int f_thrown, .int f_many, .ref aT_begins, .ref aT_ends, .ref aT_weights, .ref aT_isThere, .ref aT_rooms, .int f_factor, .ref aT_isOffered, .ref aT_isAccepted, .int f_dropped, .ref aT_best, .ref aT_order, .ref aT_froms, .ref aT_tos, .ref aT_counts, .ref aT_points, .ref aT_flows, .ref aT_isUsed, .ref aT_gains, .ref aT_ways, .int f_pointMany])), (aT_begins, .inl (cy.1, 40, .inl A_begins)), (aT_ends, .inl (cy.1, 40, .inl A_ends))] r := by
  refine kMetZ (cc := cX5_takes) (maxL := 6) (by decide) rfl (Nat.le_of_ble_eq_true rfl) ?_
  intro p e s m args below meth c Q A ls hx hb hml hts hown hv hl kret
  replace hown : s.vm.findClass RX5 = some m.cls := hown
  replace hl : lv_has ls 6 [(0, .ref aT), (1, .int p1), (2, .int p2), (3, .int p3)] := hl
  have hk7 : (Cond.fieldLink RX5 7 "RoomcolourModel" "begins" "[I").before args s = true := hts _ (by decide +kernel)
  have hinX5 : ∀ w ∈ wsX50, w ∈ wsX5_takes := by decide +kernel
  have hk13 : (Cond.fieldLink RX5 13 "RoomcolourModel" "ends" "[I").before args s = true := hts _ (by decide +kernel)
  unfold f_X5_takes at hf
  refine lv_aload_n hx hb dX5_takes_0 rfl (lv_at hl 0 rfl) ?_
  refine kGet (v := .ref aT_begins) (C := RX5) (T := TX5) (N := 22) hx hb hts hinX5 hown hv 0 rfl rfl 2 (by decide) hk7 (fun _ h9 => h9) rfl dX5_takes_1 ?_
  refine lv_iload_n hx hb dX5_takes_4 rfl (lv_at hl 1 rfl) ?_
  obtain ⟨hi1, hf⟩ := xi_some hf
  refine kIald hx hb hv 1 rfl hi1 dX5_takes_5 ?_
  refine lv_iload_n hx hb dX5_takes_6 rfl (lv_at hl 3 rfl) ?_
  obtain ⟨hd2, hf⟩ := xd_some hf
  refine lv_irem hx hb dX5_takes_7 hd2 ?_
  refine lv_istore (lv' := [(4, .int ((A_begins p1.toNatClampNeg) - (A_begins p1.toNatClampNeg) / p3 * p3)), (0, .ref aT), (1, .int p1), (2, .int p2), (3, .int p3)]) hx hb dX5_takes_8 hl (by decide) rfl (fun ls hl => ?_)
  refine lv_iload_n hx hb dX5_takes_10 rfl (lv_at hl 3 rfl) ?_
  refine lv_iload hx hb dX5_takes_11 (lv_at hl 0 rfl) ?_
  refine xj_elim hf (fun j29_4 ej29_4 hf => ?_)
  have J29_4 : ∀ (x5 : Int32), j29_4 x5 = some r → ∀ (H : Heap) (locs : List Loc) (ls : Array Slot), Hv s H locs G cy A [(aT, .inr (5, [.int f_thrown, .int f_many, .ref aT_begins, .ref aT_ends, .ref aT_weights, .ref aT_isThere, .ref aT_rooms, .int f_factor, .ref aT_isOffered, .ref aT_isAccepted, .int f_dropped, .ref aT_best, .ref aT_order, .ref aT_froms, .ref aT_tos, .ref aT_counts, .ref aT_points, .ref aT_flows, .ref aT_isUsed, .ref aT_gains, .ref aT_ways, .int f_pointMany])), (aT_begins, .inl (cy.1, 40, .inl A_begins)), (aT_ends, .inl (cy.1, 40, .inl A_ends))] → lv_has ls 6 [(0, .ref aT), (1, .int p1)] → W p l e rm_X5_takes s m args below meth c H locs 0 0 Q (F0 m 29 ls [.int x5]) := by
    intro x5 hf H locs ls hv hl
    rw [ej29_4] at hf
    try dsimp only at hf
    refine lv_istore (lv' := [(5, .int x5), (0, .ref aT), (1, .int p1)]) hx hb dX5_takes_29 hl (by decide) rfl (fun ls hl => ?_)
    refine lv_iload hx hb dX5_takes_31 (lv_at hl 0 rfl) ?_
    refine lv_aload_n hx hb dX5_takes_33 rfl (lv_at hl 1 rfl) ?_
    refine kGet (v := .ref aT_ends) (C := RX5) (T := TX5) (N := 22) hx hb hts hinX5 hown hv 0 rfl rfl 3 (by decide) hk13 (fun _ h9 => h9) rfl dX5_takes_34 ?_
    refine lv_iload_n hx hb dX5_takes_37 rfl (lv_at hl 2 rfl) ?_
    obtain ⟨hi6, hf⟩ := xi_some hf
    refine kIald hx hb hv 2 rfl hi6 dX5_takes_38 ?_
    refine lv_aload_n hx hb dX5_takes_39 rfl (lv_at hl 1 rfl) ?_
    refine kGet (v := .ref aT_begins) (C := RX5) (T := TX5) (N := 22) hx hb hts hinX5 hown hv 0 rfl rfl 2 (by decide) hk7 (fun _ h9 => h9) rfl dX5_takes_40 ?_
    refine lv_iload_n hx hb dX5_takes_43 rfl (lv_at hl 2 rfl) ?_
    obtain ⟨hi7, hf⟩ := xi_some hf
    refine kIald hx hb hv 1 rfl hi7 dX5_takes_44 ?_
    refine lv_isub hx hb dX5_takes_45 ?_
    refine lv_icmp_ge (tgt := 53) hx hb dX5_takes_46 (by decide) (fun hc8 => ?_) (fun hc8 => ?_)
    · replace hf := ite_t hf hc8
      refine lv_iconst (v := 0) hx hb dX5_takes_53 (by decide) ?_
      cases hf
      exact kret _ _ _ _ hv dX5_takes_54 rfl
    · replace hf := ite_f hf hc8
      refine lv_iconst (v := 1) hx hb dX5_takes_49 (by decide) ?_
      refine lv_goto (tgt := 54) hx hb dX5_takes_50 (by decide) ?_
      cases hf
      exact kret _ _ _ _ hv dX5_takes_54 rfl
  refine lv_icmp_lt (tgt := 23) hx hb dX5_takes_13 (by decide) (fun hc3 => ?_) (fun hc3 => ?_)
  · replace hf := ite_t hf hc3
    refine lv_iload_n hx hb dX5_takes_23 rfl (lv_at hl 3 rfl) ?_
    refine lv_iload_n hx hb dX5_takes_24 rfl (lv_at hl 4 rfl) ?_
    refine lv_iadd hx hb dX5_takes_25 ?_
    refine lv_iload hx hb dX5_takes_26 (lv_at hl 0 rfl) ?_
    refine lv_isub hx hb dX5_takes_28 ?_
    exact J29_4 ((p2 + p3) - ((A_begins p1.toNatClampNeg) - (A_begins p1.toNatClampNeg) / p3 * p3)) hf _ _ _ hv (lv_sub hl [1, 2] rfl)
  · replace hf := ite_f hf hc3
    refine lv_iload_n hx hb dX5_takes_16 rfl (lv_at hl 3 rfl) ?_
    refine lv_iload hx hb dX5_takes_17 (lv_at hl 0 rfl) ?_
    refine lv_isub hx hb dX5_takes_19 ?_
    refine lv_goto (tgt := 29) hx hb dX5_takes_20 (by decide) ?_
    exact J29_4 (p2 - ((A_begins p1.toNatClampNeg) - (A_begins p1.toNatClampNeg) / p3 * p3)) hf _ _ _ hv (lv_sub hl [1, 2] rfl)

def f_X5_depthRound_L29 (k : Nat) (v1 : Int32) (v2 : Int32) (v3 : Int32) (f_many : Int32) (A_begins : Nat → Int32) (A_ends : Nat → Int32) (A_isThere : Nat → Int32) (κ : Int32 → Int32 → Option (Int32 × Int32)) : Nat → Int32 → Int32 → Option (Int32 × Int32)
  | 0, _, _ => none
  | n + 1, v4, v5 => if f_many ≤ v5 then κ v4 v5 else xi v5 40 (if (A_isThere v5.toNatClampNeg) = 0 then f_X5_depthRound_L29 k v1 v2 v3 f_many A_begins A_ends A_isThere κ n (v4 + 0) (v5 + 1) else xb (f_X5_takes k v5 v3 v1 A_begins A_ends) (fun r11 => if r11 = 0 then f_X5_depthRound_L29 k v1 v2 v3 f_many A_begins A_ends A_isThere κ n (v4 + 0) (v5 + 1) else f_X5_depthRound_L29 k v1 v2 v3 f_many A_begins A_ends A_isThere κ n (v4 + 1) (v5 + 1)))
theorem f_X5_depthRound_L29_z (k : Nat) (v1 : Int32) (v2 : Int32) (v3 : Int32) (f_many : Int32) (A_begins : Nat → Int32) (A_ends : Nat → Int32) (A_isThere : Nat → Int32) (κ : Int32 → Int32 → Option (Int32 × Int32)) (v4 : Int32) (v5 : Int32) : f_X5_depthRound_L29 k v1 v2 v3 f_many A_begins A_ends A_isThere κ 0 v4 v5 = none := rfl
theorem f_X5_depthRound_L29_s (k : Nat) (v1 : Int32) (v2 : Int32) (v3 : Int32) (f_many : Int32) (A_begins : Nat → Int32) (A_ends : Nat → Int32) (A_isThere : Nat → Int32) (κ : Int32 → Int32 → Option (Int32 × Int32)) (n : Nat) (v4 : Int32) (v5 : Int32) : f_X5_depthRound_L29 k v1 v2 v3 f_many A_begins A_ends A_isThere κ (n + 1) v4 v5 = if f_many ≤ v5 then κ v4 v5 else xi v5 40 (if (A_isThere v5.toNatClampNeg) = 0 then f_X5_depthRound_L29 k v1 v2 v3 f_many A_begins A_ends A_isThere κ n (v4 + 0) (v5 + 1) else xb (f_X5_takes k v5 v3 v1 A_begins A_ends) (fun r11 => if r11 = 0 then f_X5_depthRound_L29 k v1 v2 v3 f_many A_begins A_ends A_isThere κ n (v4 + 0) (v5 + 1) else f_X5_depthRound_L29 k v1 v2 v3 f_many A_begins A_ends A_isThere κ n (v4 + 1) (v5 + 1))) := rfl
def f_X5_depthRound_L18 (k : Nat) (v1 : Int32) (f_many : Int32) (A_begins : Nat → Int32) (A_ends : Nat → Int32) (A_isThere : Nat → Int32) (κ : Int32 → Int32 → Option (Int32 × Int32)) : Nat → Int32 → Int32 → Option (Int32 × Int32)
  | 0, _, _ => none
  | n + 1, v2, v3 => if v1 ≤ v3 then κ v2 v3 else f_X5_depthRound_L29 k v1 v2 v3 f_many A_begins A_ends A_isThere (fun (v4_14 : Int32) (v5_15 : Int32) => if v4_14 ≤ v2 then f_X5_depthRound_L18 k v1 f_many A_begins A_ends A_isThere κ n v2 (v3 + 1) else f_X5_depthRound_L18 k v1 f_many A_begins A_ends A_isThere κ n v4_14 (v3 + 1)) k 0 0
theorem f_X5_depthRound_L18_z (k : Nat) (v1 : Int32) (f_many : Int32) (A_begins : Nat → Int32) (A_ends : Nat → Int32) (A_isThere : Nat → Int32) (κ : Int32 → Int32 → Option (Int32 × Int32)) (v2 : Int32) (v3 : Int32) : f_X5_depthRound_L18 k v1 f_many A_begins A_ends A_isThere κ 0 v2 v3 = none := rfl
theorem f_X5_depthRound_L18_s (k : Nat) (v1 : Int32) (f_many : Int32) (A_begins : Nat → Int32) (A_ends : Nat → Int32) (A_isThere : Nat → Int32) (κ : Int32 → Int32 → Option (Int32 × Int32)) (n : Nat) (v2 : Int32) (v3 : Int32) : f_X5_depthRound_L18 k v1 f_many A_begins A_ends A_isThere κ (n + 1) v2 v3 = if v1 ≤ v3 then κ v2 v3 else f_X5_depthRound_L29 k v1 v2 v3 f_many A_begins A_ends A_isThere (fun (v4_14 : Int32) (v5_15 : Int32) => if v4_14 ≤ v2 then f_X5_depthRound_L18 k v1 f_many A_begins A_ends A_isThere κ n v2 (v3 + 1) else f_X5_depthRound_L18 k v1 f_many A_begins A_ends A_isThere κ n v4_14 (v3 + 1)) k 0 0 := rfl
def f_X5_depthRound (k : Nat) (p1 : Int32) (f_thrown : Int32) (f_many : Int32) (A_begins : Nat → Int32) (A_ends : Nat → Int32) (A_isThere : Nat → Int32) : Option (Int32 × Int32) := xb (f_X5_faultRound k p1 f_many A_begins A_ends A_isThere) (fun r1 => xb (f_X5_goesWell k r1 f_thrown) (fun (r3, f_thrown_4) => if r3 = 0 then some (0, f_thrown_4) else f_X5_depthRound_L18 k p1 f_many A_begins A_ends A_isThere (fun (v2_17 : Int32) (v3_18 : Int32) => some (v2_17, f_thrown_4)) k 0 0))
abbrev rm_X5_depthRound : Room := { frames := 2, cells := 0, slots := 0, locals := 45 }
set_option maxHeartbeats 4000000 in
set_option maxRecDepth 100000 in
theorem c_X5_depthRound (l : Launch) (G : va_G) (cy : ClassId × ClassId × ClassId) (k : Nat) (aT aT_begins aT_ends aT_weights aT_isThere aT_rooms aT_isOffered aT_isAccepted aT_best aT_order aT_froms aT_tos aT_counts aT_points aT_flows aT_isUsed aT_gains aT_ways : Nat) (f_thrown : Int32) (f_many : Int32) (f_factor : Int32) (f_dropped : Int32) (f_pointMany : Int32) (A_begins : Nat → Int32) (A_ends : Nat → Int32) (A_isThere : Nat → Int32) (p1 : Int32) {r : Int32} {wf_thrown : Int32} (hf : f_X5_depthRound k p1 f_thrown f_many A_begins A_ends A_isThere = some (r, wf_thrown)) : Ci l yX5_depthRound wsX5_depthRound rm_X5_depthRound 0 0 G cy [.ref aT, .int p1] [(aT, .inr (5, [.int f_thrown, .int f_many, .ref aT_begins, .ref aT_ends, .ref aT_weights, .ref aT_isThere, .ref aT_rooms, .int f_factor, .ref aT_isOffered, .ref aT_isAccepted, .int f_dropped, .ref aT_best, .ref aT_order, .ref aT_froms, .ref aT_tos, .ref aT_counts, .ref aT_points, .ref aT_flows, .ref aT_isUsed, .ref aT_gains, .ref aT_ways, .int f_pointMany])), (aT_begins, .inl (cy.1, 40, .inl A_begins)), (aT_ends, .inl (cy.1, 40, .inl A_ends)), (aT_isThere, .inl (cy.2.1, 40, .inl A_isThere))] [(aT, .inr (5, [.int wf_thrown, .int f_many, .ref aT_begins, .ref aT_ends, .ref aT_weights, .ref aT_isThere, .ref aT_rooms, .int f_factor, .ref aT_isOffered, .ref aT_isAccepted, .int f_dropped, .ref aT_best, .ref aT_order, .ref aT_froms, .ref aT_tos, .ref aT_counts, .ref aT_points, .ref aT_flows, .ref aT_isUsed, .ref aT_gains, .ref aT_ways, .int f_pointMany])), (aT_begins, .inl (cy.1, 40, .inl A_begins)), (aT_ends, .inl (cy.1, 40, .inl A_ends)), (aT_isThere, .inl (cy.2.1, 40, .inl A_isThere))] r := by
  refine kMetI (cc := cX5_depthRound) (maxL := 6) (by decide) rfl (Nat.le_of_ble_eq_true rfl) ?_
  intro p e s m args below meth c Q A ls hx hb hml hts hown hv hl kret
  replace hown : s.vm.findClass RX5 = some m.cls := hown
  replace hl : lv_has ls 6 [(0, .ref aT), (1, .int p1)] := hl
  have hk69 : (Cond.fieldLink RX5 69 "RoomcolourModel" "many" "I").before args s = true := hts _ (by decide +kernel)
  have hinX5 : ∀ w ∈ wsX50, w ∈ wsX5_depthRound := by decide +kernel
  have hk19 : (Cond.fieldLink RX5 19 "RoomcolourModel" "isThere" "[Z").before args s = true := hts _ (by decide +kernel)
  have L29 : ∀ (v1 : Int32) (v2 : Int32) (v3 : Int32) (f_thrown : Int32) (κ : Int32 → Int32 → Option (Int32 × Int32)) (n : Nat) (v4 : Int32) (v5 : Int32), f_X5_depthRound_L29 k v1 v2 v3 f_many A_begins A_ends A_isThere κ n v4 v5 = some (r, wf_thrown) → ∀ (H : Heap) (locs : List Loc) (ls : Array Slot), Hv s H locs G cy A [(aT, .inr (5, [.int f_thrown, .int f_many, .ref aT_begins, .ref aT_ends, .ref aT_weights, .ref aT_isThere, .ref aT_rooms, .int f_factor, .ref aT_isOffered, .ref aT_isAccepted, .int f_dropped, .ref aT_best, .ref aT_order, .ref aT_froms, .ref aT_tos, .ref aT_counts, .ref aT_points, .ref aT_flows, .ref aT_isUsed, .ref aT_gains, .ref aT_ways, .int f_pointMany])), (aT_begins, .inl (cy.1, 40, .inl A_begins)), (aT_ends, .inl (cy.1, 40, .inl A_ends)), (aT_isThere, .inl (cy.2.1, 40, .inl A_isThere))] → lv_has ls 6 [(0, .ref aT), (1, .int v1), (2, .int v2), (3, .int v3), (4, .int v4), (5, .int v5)] → (∀ (v4 : Int32) (v5 : Int32), κ v4 v5 = some (r, wf_thrown) → ∀ (H : Heap) (locs : List Loc) (ls : Array Slot), Hv s H locs G cy A [(aT, .inr (5, [.int f_thrown, .int f_many, .ref aT_begins, .ref aT_ends, .ref aT_weights, .ref aT_isThere, .ref aT_rooms, .int f_factor, .ref aT_isOffered, .ref aT_isAccepted, .int f_dropped, .ref aT_best, .ref aT_order, .ref aT_froms, .ref aT_tos, .ref aT_counts, .ref aT_points, .ref aT_flows, .ref aT_isUsed, .ref aT_gains, .ref aT_ways, .int f_pointMany])), (aT_begins, .inl (cy.1, 40, .inl A_begins)), (aT_ends, .inl (cy.1, 40, .inl A_ends)), (aT_isThere, .inl (cy.2.1, 40, .inl A_isThere))] → lv_has ls 6 [(0, .ref aT), (1, .int v1), (2, .int v2), (3, .int v3), (4, .int v4)] → W p l e rm_X5_depthRound s m args below meth c H locs 0 0 Q (F0 m 75 ls [])) → W p l e rm_X5_depthRound s m args below meth c H locs 0 0 Q (F0 m 29 ls []) := by
    intro v1 v2 v3 f_thrown κ n
    induction n with
    | zero =>
      intro v4 v5 hf
      rw [f_X5_depthRound_L29_z] at hf
      cases hf
    | succ n ih =>
      intro v4 v5 hf H locs ls hv hl hκ
      rw [f_X5_depthRound_L29_s] at hf
      refine lv_iload hx hb dX5_depthRound_29 (lv_at hl 5 rfl) ?_
      refine lv_aload_n hx hb dX5_depthRound_31 rfl (lv_at hl 0 rfl) ?_
      refine kGet (v := .int f_many) (C := RX5) (T := TX5) (N := 22) hx hb hts hinX5 hown hv 0 rfl rfl 1 (by decide) hk69 (fun _ h9 => h9) rfl dX5_depthRound_32 ?_
      refine lv_icmp_ge (tgt := 75) hx hb dX5_depthRound_35 (by decide) (fun hc8 => ?_) (fun hc8 => ?_)
      · replace hf := ite_t hf hc8
        exact hκ v4 v5 hf _ _ _ hv (lv_sub hl [0, 1, 2, 3, 4] rfl)
      · replace hf := ite_f hf hc8
        refine lv_iload hx hb dX5_depthRound_38 (lv_at hl 4 rfl) ?_
        refine lv_aload_n hx hb dX5_depthRound_40 rfl (lv_at hl 0 rfl) ?_
        refine kGet (v := .ref aT_isThere) (C := RX5) (T := TX5) (N := 22) hx hb hts hinX5 hown hv 0 rfl rfl 5 (by decide) hk19 (fun _ h9 => h9) rfl dX5_depthRound_41 ?_
        refine lv_iload hx hb dX5_depthRound_44 (lv_at hl 5 rfl) ?_
        obtain ⟨hi9, hf⟩ := xi_some hf
        refine kZald hx hb hv 3 rfl hi9 dX5_depthRound_46 ?_
        refine lv_if_eq (tgt := 65) hx hb dX5_depthRound_47 (by decide) (fun hc10 => ?_) (fun hc10 => ?_)
        · replace hf := ite_t hf hc10
          refine lv_iconst (v := 0) hx hb dX5_depthRound_65 (by decide) ?_
          refine lv_iadd hx hb dX5_depthRound_66 ?_
          refine lv_istore (lv' := [(4, .int (v4 + 0)), (0, .ref aT), (1, .int v1), (2, .int v2), (3, .int v3), (5, .int v5)]) hx hb dX5_depthRound_67 hl (by decide) rfl (fun ls hl => ?_)
          refine lv_iinc (v := v5 + 1) (lv' := [(5, .int (v5 + 1)), (4, .int (v4 + 0)), (0, .ref aT), (1, .int v1), (2, .int v2), (3, .int v3)]) hx hb dX5_depthRound_69 hl (k := 5) rfl rfl (by decide) rfl (fun ls hl => ?_)
          refine lv_goto (tgt := 29) hx hb dX5_depthRound_72 (by decide) ?_
          exact ih (v4 + 0) (v5 + 1) hf _ _ _ hv (lv_sub hl [2, 3, 4, 5, 1, 0] rfl) hκ
        · replace hf := ite_f hf hc10
          refine lv_aload_n hx hb dX5_depthRound_50 rfl (lv_at hl 0 rfl) ?_
          refine lv_iload hx hb dX5_depthRound_51 (lv_at hl 5 rfl) ?_
          refine lv_iload_n hx hb dX5_depthRound_53 rfl (lv_at hl 3 rfl) ?_
          refine lv_iload_n hx hb dX5_depthRound_54 rfl (lv_at hl 1 rfl) ?_
          obtain ⟨r11, hcl12, hf⟩ := xb_some hf
          refine kV_i (r := r11) (wr := [(aT_isThere, .inl (cy.2.1, 40, .inl A_isThere))]) (w2 := [(aT, .inr (5, [.int f_thrown, .int f_many, .ref aT_begins, .ref aT_ends, .ref aT_weights, .ref aT_isThere, .ref aT_rooms, .int f_factor, .ref aT_isOffered, .ref aT_isAccepted, .int f_dropped, .ref aT_best, .ref aT_order, .ref aT_froms, .ref aT_tos, .ref aT_counts, .ref aT_points, .ref aT_flows, .ref aT_isUsed, .ref aT_gains, .ref aT_ways, .int f_pointMany])), (aT_begins, .inl (cy.1, 40, .inl A_begins)), (aT_ends, .inl (cy.1, 40, .inl A_ends)), (aT_isThere, .inl (cy.2.1, 40, .inl A_isThere))]) ⟨hx, hb, hml, hown, hts⟩ (c_X5_takes l G cy k aT aT_begins aT_ends aT_weights aT_isThere aT_rooms aT_isOffered aT_isAccepted aT_best aT_order aT_froms aT_tos aT_counts aT_points aT_flows aT_isUsed aT_gains aT_ways f_thrown f_many f_factor f_dropped f_pointMany A_begins A_ends v5 v3 v1 hcl12) (cwV 3 hts gX5_depthRound_X5_takes rfl rfl rfl (by decide +kernel) ⟨Nat.le_of_ble_eq_true rfl, Nat.le_of_ble_eq_true rfl⟩) hv (isC := [0, 1, 2]) ⟨rfl, rfl⟩ (hv.recv 5 0 rfl rfl) [3] [1, 2, 3, 0] rfl rfl (by decide) rfl rfl rfl hl.1 rfl (Nat.le_of_ble_eq_true rfl) dX5_depthRound_55 ⟨Nat.le_of_ble_eq_true rfl, Nat.le_of_ble_eq_true rfl⟩ (fun H locs hv => ?_)
          refine lv_if_eq (tgt := 65) hx hb dX5_depthRound_58 (by decide) (fun hc13 => ?_) (fun hc13 => ?_)
          · replace hf := ite_t hf hc13
            refine lv_iconst (v := 0) hx hb dX5_depthRound_65 (by decide) ?_
            refine lv_iadd hx hb dX5_depthRound_66 ?_
            refine lv_istore (lv' := [(4, .int (v4 + 0)), (0, .ref aT), (1, .int v1), (2, .int v2), (3, .int v3), (5, .int v5)]) hx hb dX5_depthRound_67 hl (by decide) rfl (fun ls hl => ?_)
            refine lv_iinc (v := v5 + 1) (lv' := [(5, .int (v5 + 1)), (4, .int (v4 + 0)), (0, .ref aT), (1, .int v1), (2, .int v2), (3, .int v3)]) hx hb dX5_depthRound_69 hl (k := 5) rfl rfl (by decide) rfl (fun ls hl => ?_)
            refine lv_goto (tgt := 29) hx hb dX5_depthRound_72 (by decide) ?_
            exact ih (v4 + 0) (v5 + 1) hf _ _ _ hv (lv_sub hl [2, 3, 4, 5, 1, 0] rfl) hκ
          · replace hf := ite_f hf hc13
            refine lv_iconst (v := 1) hx hb dX5_depthRound_61 (by decide) ?_
            refine lv_goto (tgt := 66) hx hb dX5_depthRound_62 (by decide) ?_
            refine lv_iadd hx hb dX5_depthRound_66 ?_
            refine lv_istore (lv' := [(4, .int (v4 + 1)), (0, .ref aT), (1, .int v1), (2, .int v2), (3, .int v3), (5, .int v5)]) hx hb dX5_depthRound_67 hl (by decide) rfl (fun ls hl => ?_)
            refine lv_iinc (v := v5 + 1) (lv' := [(5, .int (v5 + 1)), (4, .int (v4 + 1)), (0, .ref aT), (1, .int v1), (2, .int v2), (3, .int v3)]) hx hb dX5_depthRound_69 hl (k := 5) rfl rfl (by decide) rfl (fun ls hl => ?_)
            refine lv_goto (tgt := 29) hx hb dX5_depthRound_72 (by decide) ?_
            exact ih (v4 + 1) (v5 + 1) hf _ _ _ hv (lv_sub hl [2, 3, 4, 5, 1, 0] rfl) hκ
  have L18 : ∀ (v1 : Int32) (f_thrown : Int32) (κ : Int32 → Int32 → Option (Int32 × Int32)) (n : Nat) (v2 : Int32) (v3 : Int32), f_X5_depthRound_L18 k v1 f_many A_begins A_ends A_isThere κ n v2 v3 = some (r, wf_thrown) → ∀ (H : Heap) (locs : List Loc) (ls : Array Slot), Hv s H locs G cy A [(aT, .inr (5, [.int f_thrown, .int f_many, .ref aT_begins, .ref aT_ends, .ref aT_weights, .ref aT_isThere, .ref aT_rooms, .int f_factor, .ref aT_isOffered, .ref aT_isAccepted, .int f_dropped, .ref aT_best, .ref aT_order, .ref aT_froms, .ref aT_tos, .ref aT_counts, .ref aT_points, .ref aT_flows, .ref aT_isUsed, .ref aT_gains, .ref aT_ways, .int f_pointMany])), (aT_begins, .inl (cy.1, 40, .inl A_begins)), (aT_ends, .inl (cy.1, 40, .inl A_ends)), (aT_isThere, .inl (cy.2.1, 40, .inl A_isThere))] → lv_has ls 6 [(0, .ref aT), (1, .int v1), (2, .int v2), (3, .int v3)] → (∀ (v2 : Int32) (v3 : Int32), κ v2 v3 = some (r, wf_thrown) → ∀ (H : Heap) (locs : List Loc) (ls : Array Slot), Hv s H locs G cy A [(aT, .inr (5, [.int f_thrown, .int f_many, .ref aT_begins, .ref aT_ends, .ref aT_weights, .ref aT_isThere, .ref aT_rooms, .int f_factor, .ref aT_isOffered, .ref aT_isAccepted, .int f_dropped, .ref aT_best, .ref aT_order, .ref aT_froms, .ref aT_tos, .ref aT_counts, .ref aT_points, .ref aT_flows, .ref aT_isUsed, .ref aT_gains, .ref aT_ways, .int f_pointMany])), (aT_begins, .inl (cy.1, 40, .inl A_begins)), (aT_ends, .inl (cy.1, 40, .inl A_ends)), (aT_isThere, .inl (cy.2.1, 40, .inl A_isThere))] → lv_has ls 6 [(2, .int v2)] → W p l e rm_X5_depthRound s m args below meth c H locs 0 0 Q (F0 m 94 ls [])) → W p l e rm_X5_depthRound s m args below meth c H locs 0 0 Q (F0 m 18 ls []) := by
    intro v1 f_thrown κ n
    induction n with
    | zero =>
      intro v2 v3 hf
      rw [f_X5_depthRound_L18_z] at hf
      cases hf
    | succ n ih =>
      intro v2 v3 hf H locs ls hv hl hκ
      rw [f_X5_depthRound_L18_s] at hf
      refine lv_iload_n hx hb dX5_depthRound_18 rfl (lv_at hl 3 rfl) ?_
      refine lv_iload_n hx hb dX5_depthRound_19 rfl (lv_at hl 1 rfl) ?_
      refine lv_icmp_ge (tgt := 94) hx hb dX5_depthRound_20 (by decide) (fun hc7 => ?_) (fun hc7 => ?_)
      · replace hf := ite_t hf hc7
        exact hκ v2 v3 hf _ _ _ hv (lv_sub hl [2] rfl)
      · replace hf := ite_f hf hc7
        refine lv_iconst (v := 0) hx hb dX5_depthRound_23 (by decide) ?_
        refine lv_istore (lv' := [(4, .int 0), (0, .ref aT), (1, .int v1), (2, .int v2), (3, .int v3)]) hx hb dX5_depthRound_24 hl (by decide) rfl (fun ls hl => ?_)
        refine lv_iconst (v := 0) hx hb dX5_depthRound_26 (by decide) ?_
        refine lv_istore (lv' := [(5, .int 0), (4, .int 0), (0, .ref aT), (1, .int v1), (2, .int v2), (3, .int v3)]) hx hb dX5_depthRound_27 hl (by decide) rfl (fun ls hl => ?_)
        refine L29 _ _ _ _ _ _ _ _ hf _ _ _ hv (lv_sub hl [2, 3, 4, 5, 1, 0] rfl) (fun v4_14 v5_15 hf H locs ls hv hl => ?_)
        try dsimp only at hf
        refine lv_iload hx hb dX5_depthRound_75 (lv_at hl 4 rfl) ?_
        refine lv_iload_n hx hb dX5_depthRound_77 rfl (lv_at hl 2 rfl) ?_
        refine lv_icmp_le (tgt := 86) hx hb dX5_depthRound_78 (by decide) (fun hc16 => ?_) (fun hc16 => ?_)
        · replace hf := ite_t hf hc16
          refine lv_iload_n hx hb dX5_depthRound_86 rfl (lv_at hl 2 rfl) ?_
          refine lv_istore_n (lv' := [(2, .int v2), (0, .ref aT), (1, .int v1), (3, .int v3), (4, .int v4_14)]) hx hb dX5_depthRound_87 rfl hl (by decide) rfl (fun ls hl => ?_)
          refine lv_iinc (v := v3 + 1) (lv' := [(3, .int (v3 + 1)), (2, .int v2), (0, .ref aT), (1, .int v1), (4, .int v4_14)]) hx hb dX5_depthRound_88 hl (k := 3) rfl rfl (by decide) rfl (fun ls hl => ?_)
          refine lv_goto (tgt := 18) hx hb dX5_depthRound_91 (by decide) ?_
          exact ih v2 (v3 + 1) hf _ _ _ hv (lv_sub hl [2, 3, 1, 0] rfl) hκ
        · replace hf := ite_f hf hc16
          refine lv_iload hx hb dX5_depthRound_81 (lv_at hl 4 rfl) ?_
          refine lv_goto (tgt := 87) hx hb dX5_depthRound_83 (by decide) ?_
          refine lv_istore_n (lv' := [(2, .int v4_14), (0, .ref aT), (1, .int v1), (3, .int v3), (4, .int v4_14)]) hx hb dX5_depthRound_87 rfl hl (by decide) rfl (fun ls hl => ?_)
          refine lv_iinc (v := v3 + 1) (lv' := [(3, .int (v3 + 1)), (2, .int v4_14), (0, .ref aT), (1, .int v1), (4, .int v4_14)]) hx hb dX5_depthRound_88 hl (k := 3) rfl rfl (by decide) rfl (fun ls hl => ?_)
          refine lv_goto (tgt := 18) hx hb dX5_depthRound_91 (by decide) ?_
          exact ih v4_14 (v3 + 1) hf _ _ _ hv (lv_sub hl [2, 3, 1, 0] rfl) hκ
  unfold f_X5_depthRound at hf
  refine lv_aload_n hx hb dX5_depthRound_0 rfl (lv_at hl 0 rfl) ?_
  refine lv_aload_n hx hb dX5_depthRound_1 rfl (lv_at hl 0 rfl) ?_
  refine lv_iload_n hx hb dX5_depthRound_2 rfl (lv_at hl 1 rfl) ?_
  obtain ⟨r1, hcl2, hf⟩ := xb_some hf
  refine kV_i (r := r1) (wr := []) (w2 := [(aT, .inr (5, [.int f_thrown, .int f_many, .ref aT_begins, .ref aT_ends, .ref aT_weights, .ref aT_isThere, .ref aT_rooms, .int f_factor, .ref aT_isOffered, .ref aT_isAccepted, .int f_dropped, .ref aT_best, .ref aT_order, .ref aT_froms, .ref aT_tos, .ref aT_counts, .ref aT_points, .ref aT_flows, .ref aT_isUsed, .ref aT_gains, .ref aT_ways, .int f_pointMany])), (aT_begins, .inl (cy.1, 40, .inl A_begins)), (aT_ends, .inl (cy.1, 40, .inl A_ends)), (aT_isThere, .inl (cy.2.1, 40, .inl A_isThere))]) ⟨hx, hb, hml, hown, hts⟩ (c_X5_faultRound l G cy k aT aT_begins aT_ends aT_weights aT_isThere aT_rooms aT_isOffered aT_isAccepted aT_best aT_order aT_froms aT_tos aT_counts aT_points aT_flows aT_isUsed aT_gains aT_ways f_thrown f_many f_factor f_dropped f_pointMany A_begins A_ends A_isThere p1 hcl2) (cwV 1 hts gX5_depthRound_X5_faultRound rfl rfl rfl (by decide +kernel) ⟨Nat.le_of_ble_eq_true rfl, Nat.le_of_ble_eq_true rfl⟩) hv (isC := [0, 1, 2, 3]) ⟨rfl, rfl⟩ (hv.recv 5 0 rfl rfl) [] [0, 1, 2, 3] rfl rfl (by decide) rfl rfl rfl hl.1 rfl (Nat.le_of_ble_eq_true rfl) dX5_depthRound_3 ⟨Nat.le_of_ble_eq_true rfl, Nat.le_of_ble_eq_true rfl⟩ (fun H locs hv => ?_)
  obtain ⟨⟨r3, f_thrown_4⟩, hcl5, hf⟩ := xb_some hf
  dsimp only at hf
  refine kV_i (r := r3) (wr := [(aT_begins, .inl (cy.1, 40, .inl A_begins)), (aT_ends, .inl (cy.1, 40, .inl A_ends)), (aT_isThere, .inl (cy.2.1, 40, .inl A_isThere))]) (w2 := [(aT, .inr (5, [.int f_thrown_4, .int f_many, .ref aT_begins, .ref aT_ends, .ref aT_weights, .ref aT_isThere, .ref aT_rooms, .int f_factor, .ref aT_isOffered, .ref aT_isAccepted, .int f_dropped, .ref aT_best, .ref aT_order, .ref aT_froms, .ref aT_tos, .ref aT_counts, .ref aT_points, .ref aT_flows, .ref aT_isUsed, .ref aT_gains, .ref aT_ways, .int f_pointMany])), (aT_begins, .inl (cy.1, 40, .inl A_begins)), (aT_ends, .inl (cy.1, 40, .inl A_ends)), (aT_isThere, .inl (cy.2.1, 40, .inl A_isThere))]) ⟨hx, hb, hml, hown, hts⟩ (c_X5_goesWell l G cy k aT aT_begins aT_ends aT_weights aT_isThere aT_rooms aT_isOffered aT_isAccepted aT_best aT_order aT_froms aT_tos aT_counts aT_points aT_flows aT_isUsed aT_gains aT_ways f_thrown f_many f_factor f_dropped f_pointMany r1 hcl5) (cwV 1 hts gX5_depthRound_X5_goesWell rfl rfl rfl (by decide +kernel) ⟨Nat.le_of_ble_eq_true rfl, Nat.le_of_ble_eq_true rfl⟩) hv (isC := [0]) ⟨rfl, rfl⟩ (hv.recv 5 0 rfl rfl) [1, 2, 3] [3, 0, 1, 2] rfl rfl (by decide) rfl rfl rfl hl.1 rfl (Nat.le_of_ble_eq_true rfl) dX5_depthRound_6 ⟨Nat.le_of_ble_eq_true rfl, Nat.le_of_ble_eq_true rfl⟩ (fun H locs hv => ?_)
  refine lv_if_ne (tgt := 14) hx hb dX5_depthRound_9 (by decide) (fun hc6 => ?_) (fun hc6 => ?_)
  · replace hf := ite_f hf hc6
    refine lv_iconst (v := 0) hx hb dX5_depthRound_14 (by decide) ?_
    refine lv_istore_n (lv' := [(2, .int 0), (0, .ref aT), (1, .int p1)]) hx hb dX5_depthRound_15 rfl hl (by decide) rfl (fun ls hl => ?_)
    refine lv_iconst (v := 0) hx hb dX5_depthRound_16 (by decide) ?_
    refine lv_istore_n (lv' := [(3, .int 0), (2, .int 0), (0, .ref aT), (1, .int p1)]) hx hb dX5_depthRound_17 rfl hl (by decide) rfl (fun ls hl => ?_)
    refine L18 _ _ _ _ _ _ hf _ _ _ hv (lv_sub hl [2, 3, 1, 0] rfl) (fun v2_17 v3_18 hf H locs ls hv hl => ?_)
    try dsimp only at hf
    refine lv_iload_n hx hb dX5_depthRound_94 rfl (lv_at hl 0 rfl) ?_
    cases hf
    exact kret _ _ _ _ hv dX5_depthRound_95
  · replace hf := ite_t hf hc6
    refine lv_iconst (v := 0) hx hb dX5_depthRound_12 (by decide) ?_
    cases hf
    exact kret _ _ _ _ hv dX5_depthRound_13

def f_X5_droppedWeight (k : Nat) (f_thrown : Int32) (f_dropped : Int32) : Option (Int32 × Int32) := some (f_dropped, 0)
abbrev rm_X5_droppedWeight : Room := { frames := 0, cells := 0, slots := 0, locals := 0 }
set_option maxHeartbeats 4000000 in
set_option maxRecDepth 100000 in
theorem c_X5_droppedWeight (l : Launch) (G : va_G) (cy : ClassId × ClassId × ClassId) (k : Nat) (aT aT_begins aT_ends aT_weights aT_isThere aT_rooms aT_isOffered aT_isAccepted aT_best aT_order aT_froms aT_tos aT_counts aT_points aT_flows aT_isUsed aT_gains aT_ways : Nat) (f_thrown : Int32) (f_many : Int32) (f_factor : Int32) (f_dropped : Int32) (f_pointMany : Int32) {r : Int32} {wf_thrown : Int32} (hf : f_X5_droppedWeight k f_thrown f_dropped = some (r, wf_thrown)) : Ci l yX5_droppedWeight wsX5_droppedWeight rm_X5_droppedWeight 0 0 G cy [.ref aT] [(aT, .inr (5, [.int f_thrown, .int f_many, .ref aT_begins, .ref aT_ends, .ref aT_weights, .ref aT_isThere, .ref aT_rooms, .int f_factor, .ref aT_isOffered, .ref aT_isAccepted, .int f_dropped, .ref aT_best, .ref aT_order, .ref aT_froms, .ref aT_tos, .ref aT_counts, .ref aT_points, .ref aT_flows, .ref aT_isUsed, .ref aT_gains, .ref aT_ways, .int f_pointMany]))] [(aT, .inr (5, [.int wf_thrown, .int f_many, .ref aT_begins, .ref aT_ends, .ref aT_weights, .ref aT_isThere, .ref aT_rooms, .int f_factor, .ref aT_isOffered, .ref aT_isAccepted, .int f_dropped, .ref aT_best, .ref aT_order, .ref aT_froms, .ref aT_tos, .ref aT_counts, .ref aT_points, .ref aT_flows, .ref aT_isUsed, .ref aT_gains, .ref aT_ways, .int f_pointMany]))] r := by
  refine kMetI (cc := cX5_droppedWeight) (maxL := 1) (by decide) rfl (Nat.le_of_ble_eq_true rfl) ?_
  intro p e s m args below meth c Q A ls hx hb hml hts hown hv hl kret
  replace hown : s.vm.findClass RX5 = some m.cls := hown
  replace hl : lv_has ls 1 [(0, .ref aT)] := hl
  have hk66 : (Cond.fieldLink RX5 66 "RoomcolourModel" "thrown" "I").before args s = true := hts _ (by decide +kernel)
  have hinX5 : ∀ w ∈ wsX50, w ∈ wsX5_droppedWeight := by decide +kernel
  have hk141 : (Cond.fieldLink RX5 141 "RoomcolourModel" "dropped" "I").before args s = true := hts _ (by decide +kernel)
  unfold f_X5_droppedWeight at hf
  refine lv_aload_n hx hb dX5_droppedWeight_0 rfl (lv_at hl 0 rfl) ?_
  refine lv_iconst (v := 0) hx hb dX5_droppedWeight_1 (by decide) ?_
  refine kPut (v := .int 0) (ty := .int) (C := RX5) (T := TX5) (N := 22) hx hb hts hinX5 tyX5 tyX5_ok nmX5 hown hv 0 rfl rfl 0 (by decide) hk66 (fun _ h9 => h9) rfl (by decide +kernel) rfl rfl (Nat.le_of_ble_eq_true rfl) dX5_droppedWeight_2 (fun H locs hv => ?_)
  replace hv : Hv s H locs G cy A [(aT, .inr (5, [.int 0, .int f_many, .ref aT_begins, .ref aT_ends, .ref aT_weights, .ref aT_isThere, .ref aT_rooms, .int f_factor, .ref aT_isOffered, .ref aT_isAccepted, .int f_dropped, .ref aT_best, .ref aT_order, .ref aT_froms, .ref aT_tos, .ref aT_counts, .ref aT_points, .ref aT_flows, .ref aT_isUsed, .ref aT_gains, .ref aT_ways, .int f_pointMany]))] := hv
  refine lv_aload_n hx hb dX5_droppedWeight_5 rfl (lv_at hl 0 rfl) ?_
  refine kGet (v := .int f_dropped) (C := RX5) (T := TX5) (N := 22) hx hb hts hinX5 hown hv 0 rfl rfl 10 (by decide) hk141 (fun _ h9 => h9) rfl dX5_droppedWeight_6 ?_
  cases hf
  exact kret _ _ _ _ hv dX5_droppedWeight_9

def f_X5_earliest_L40 (k : Nat) (v1 : Int32) (v2 : Int32) (f_many : Int32) (A_begins : Nat → Int32) (A_ends : Nat → Int32) (A_isThere : Nat → Int32) (κ : Int32 → Int32 → Option (Int32 × Int32)) : Nat → Int32 → Int32 → Option (Int32 × Int32)
  | 0, _, _ => none
  | n + 1, v3, v4 => if (1000 : Int32) ≤ v4 then κ v3 v4 else if v1 ≤ (v4 - v3) then κ v3 v4 else xb (f_X5_depthAt k v4 f_many A_begins A_ends A_isThere) (fun r12 => if v2 ≤ r12 then f_X5_earliest_L40 k v1 v2 f_many A_begins A_ends A_isThere κ n (v4 + 1) (v4 + 1) else f_X5_earliest_L40 k v1 v2 f_many A_begins A_ends A_isThere κ n v3 (v4 + 1))
theorem f_X5_earliest_L40_z (k : Nat) (v1 : Int32) (v2 : Int32) (f_many : Int32) (A_begins : Nat → Int32) (A_ends : Nat → Int32) (A_isThere : Nat → Int32) (κ : Int32 → Int32 → Option (Int32 × Int32)) (v3 : Int32) (v4 : Int32) : f_X5_earliest_L40 k v1 v2 f_many A_begins A_ends A_isThere κ 0 v3 v4 = none := rfl
theorem f_X5_earliest_L40_s (k : Nat) (v1 : Int32) (v2 : Int32) (f_many : Int32) (A_begins : Nat → Int32) (A_ends : Nat → Int32) (A_isThere : Nat → Int32) (κ : Int32 → Int32 → Option (Int32 × Int32)) (n : Nat) (v3 : Int32) (v4 : Int32) : f_X5_earliest_L40 k v1 v2 f_many A_begins A_ends A_isThere κ (n + 1) v3 v4 = if (1000 : Int32) ≤ v4 then κ v3 v4 else if v1 ≤ (v4 - v3) then κ v3 v4 else xb (f_X5_depthAt k v4 f_many A_begins A_ends A_isThere) (fun r12 => if v2 ≤ r12 then f_X5_earliest_L40 k v1 v2 f_many A_begins A_ends A_isThere κ n (v4 + 1) (v4 + 1) else f_X5_earliest_L40 k v1 v2 f_many A_begins A_ends A_isThere κ n v3 (v4 + 1)) := rfl
def f_X5_earliest (k : Nat) (p1 : Int32) (p2 : Int32) (f_thrown : Int32) (f_many : Int32) (A_begins : Nat → Int32) (A_ends : Nat → Int32) (A_isThere : Nat → Int32) : Option (Int32 × Int32) := xb (f_X5_in k p1 1 1000) (fun r1 => xj (fun (x5 : Int32) => xb (f_X5_goesWell k x5 f_thrown) (fun (r6, f_thrown_7) => if r6 = 0 then some (0, f_thrown_7) else f_X5_earliest_L40 k p1 p2 f_many A_begins A_ends A_isThere (fun (v3_15 : Int32) (v4_16 : Int32) => if (1000 : Int32) < (v3_15 + p1) then some ((-1), f_thrown_7) else some (v3_15, f_thrown_7)) k 0 0)) (fun (j27_4 : Int32 → Option (Int32 × Int32)) => xj (fun (_ : Unit) => j27_4 1) (fun (j26_18 : Unit → Option (Int32 × Int32)) => if r1 = 0 then j26_18 () else xb (f_X5_in k p2 1 40) (fun r19 => if r19 = 0 then j26_18 () else j27_4 0))))
abbrev rm_X5_earliest : Room := { frames := 1, cells := 0, slots := 0, locals := 23 }
set_option maxHeartbeats 4000000 in
set_option maxRecDepth 100000 in
theorem c_X5_earliest (l : Launch) (G : va_G) (cy : ClassId × ClassId × ClassId) (k : Nat) (aT aT_begins aT_ends aT_weights aT_isThere aT_rooms aT_isOffered aT_isAccepted aT_best aT_order aT_froms aT_tos aT_counts aT_points aT_flows aT_isUsed aT_gains aT_ways : Nat) (f_thrown : Int32) (f_many : Int32) (f_factor : Int32) (f_dropped : Int32) (f_pointMany : Int32) (A_begins : Nat → Int32) (A_ends : Nat → Int32) (A_isThere : Nat → Int32) (p1 : Int32) (p2 : Int32) {r : Int32} {wf_thrown : Int32} (hf : f_X5_earliest k p1 p2 f_thrown f_many A_begins A_ends A_isThere = some (r, wf_thrown)) : Ci l yX5_earliest wsX5_earliest rm_X5_earliest 0 0 G cy [.ref aT, .int p1, .int p2] [(aT, .inr (5, [.int f_thrown, .int f_many, .ref aT_begins, .ref aT_ends, .ref aT_weights, .ref aT_isThere, .ref aT_rooms, .int f_factor, .ref aT_isOffered, .ref aT_isAccepted, .int f_dropped, .ref aT_best, .ref aT_order, .ref aT_froms, .ref aT_tos, .ref aT_counts, .ref aT_points, .ref aT_flows, .ref aT_isUsed, .ref aT_gains, .ref aT_ways, .int f_pointMany])), (aT_begins, .inl (cy.1, 40, .inl A_begins)), (aT_ends, .inl (cy.1, 40, .inl A_ends)), (aT_isThere, .inl (cy.2.1, 40, .inl A_isThere))] [(aT, .inr (5, [.int wf_thrown, .int f_many, .ref aT_begins, .ref aT_ends, .ref aT_weights, .ref aT_isThere, .ref aT_rooms, .int f_factor, .ref aT_isOffered, .ref aT_isAccepted, .int f_dropped, .ref aT_best, .ref aT_order, .ref aT_froms, .ref aT_tos, .ref aT_counts, .ref aT_points, .ref aT_flows, .ref aT_isUsed, .ref aT_gains, .ref aT_ways, .int f_pointMany])), (aT_begins, .inl (cy.1, 40, .inl A_begins)), (aT_ends, .inl (cy.1, 40, .inl A_ends)), (aT_isThere, .inl (cy.2.1, 40, .inl A_isThere))] r := by
  refine kMetI (cc := cX5_earliest) (maxL := 5) (by decide) rfl (Nat.le_of_ble_eq_true rfl) ?_
  intro p e s m args below meth c Q A ls hx hb hml hts hown hv hl kret
  replace hown : s.vm.findClass RX5 = some m.cls := hown
  replace hl : lv_has ls 5 [(0, .ref aT), (1, .int p1), (2, .int p2)] := hl
  have L40 : ∀ (v1 : Int32) (v2 : Int32) (f_thrown : Int32) (κ : Int32 → Int32 → Option (Int32 × Int32)) (n : Nat) (v3 : Int32) (v4 : Int32), f_X5_earliest_L40 k v1 v2 f_many A_begins A_ends A_isThere κ n v3 v4 = some (r, wf_thrown) → ∀ (H : Heap) (locs : List Loc) (ls : Array Slot), Hv s H locs G cy A [(aT, .inr (5, [.int f_thrown, .int f_many, .ref aT_begins, .ref aT_ends, .ref aT_weights, .ref aT_isThere, .ref aT_rooms, .int f_factor, .ref aT_isOffered, .ref aT_isAccepted, .int f_dropped, .ref aT_best, .ref aT_order, .ref aT_froms, .ref aT_tos, .ref aT_counts, .ref aT_points, .ref aT_flows, .ref aT_isUsed, .ref aT_gains, .ref aT_ways, .int f_pointMany])), (aT_begins, .inl (cy.1, 40, .inl A_begins)), (aT_ends, .inl (cy.1, 40, .inl A_ends)), (aT_isThere, .inl (cy.2.1, 40, .inl A_isThere))] → lv_has ls 5 [(0, .ref aT), (1, .int v1), (2, .int v2), (3, .int v3), (4, .int v4)] → (∀ (v3 : Int32) (v4 : Int32), κ v3 v4 = some (r, wf_thrown) → ∀ (H : Heap) (locs : List Loc) (ls : Array Slot), Hv s H locs G cy A [(aT, .inr (5, [.int f_thrown, .int f_many, .ref aT_begins, .ref aT_ends, .ref aT_weights, .ref aT_isThere, .ref aT_rooms, .int f_factor, .ref aT_isOffered, .ref aT_isAccepted, .int f_dropped, .ref aT_best, .ref aT_order, .ref aT_froms, .ref aT_tos, .ref aT_counts, .ref aT_points, .ref aT_flows, .ref aT_isUsed, .ref aT_gains, .ref aT_ways, .int f_pointMany])), (aT_begins, .inl (cy.1, 40, .inl A_begins)), (aT_ends, .inl (cy.1, 40, .inl A_ends)), (aT_isThere, .inl (cy.2.1, 40, .inl A_isThere))] → lv_has ls 5 [(1, .int v1), (3, .int v3)] → W p l e rm_X5_earliest s m args below meth c H locs 0 0 Q (F0 m 81 ls [])) → W p l e rm_X5_earliest s m args below meth c H locs 0 0 Q (F0 m 40 ls []) := by
    intro v1 v2 f_thrown κ n
    induction n with
    | zero =>
      intro v3 v4 hf
      rw [f_X5_earliest_L40_z] at hf
      cases hf
    | succ n ih =>
      intro v3 v4 hf H locs ls hv hl hκ
      rw [f_X5_earliest_L40_s] at hf
      refine lv_iload hx hb dX5_earliest_40 (lv_at hl 4 rfl) ?_
      refine lv_sipush (v := 1000) hx hb dX5_earliest_42 (by decide) ?_
      refine lv_icmp_ge (tgt := 81) hx hb dX5_earliest_45 (by decide) (fun hc10 => ?_) (fun hc10 => ?_)
      · replace hf := ite_t hf hc10
        exact hκ v3 v4 hf _ _ _ hv (lv_sub hl [1, 3] rfl)
      · replace hf := ite_f hf hc10
        refine lv_iload hx hb dX5_earliest_48 (lv_at hl 4 rfl) ?_
        refine lv_iload_n hx hb dX5_earliest_50 rfl (lv_at hl 3 rfl) ?_
        refine lv_isub hx hb dX5_earliest_51 ?_
        refine lv_iload_n hx hb dX5_earliest_52 rfl (lv_at hl 1 rfl) ?_
        refine lv_icmp_ge (tgt := 81) hx hb dX5_earliest_53 (by decide) (fun hc11 => ?_) (fun hc11 => ?_)
        · replace hf := ite_t hf hc11
          exact hκ v3 v4 hf _ _ _ hv (lv_sub hl [1, 3] rfl)
        · replace hf := ite_f hf hc11
          refine lv_aload_n hx hb dX5_earliest_56 rfl (lv_at hl 0 rfl) ?_
          refine lv_iload hx hb dX5_earliest_57 (lv_at hl 4 rfl) ?_
          obtain ⟨r12, hcl13, hf⟩ := xb_some hf
          refine kV_i (r := r12) (wr := []) (w2 := [(aT, .inr (5, [.int f_thrown, .int f_many, .ref aT_begins, .ref aT_ends, .ref aT_weights, .ref aT_isThere, .ref aT_rooms, .int f_factor, .ref aT_isOffered, .ref aT_isAccepted, .int f_dropped, .ref aT_best, .ref aT_order, .ref aT_froms, .ref aT_tos, .ref aT_counts, .ref aT_points, .ref aT_flows, .ref aT_isUsed, .ref aT_gains, .ref aT_ways, .int f_pointMany])), (aT_begins, .inl (cy.1, 40, .inl A_begins)), (aT_ends, .inl (cy.1, 40, .inl A_ends)), (aT_isThere, .inl (cy.2.1, 40, .inl A_isThere))]) ⟨hx, hb, hml, hown, hts⟩ (c_X5_depthAt l G cy k aT aT_begins aT_ends aT_weights aT_isThere aT_rooms aT_isOffered aT_isAccepted aT_best aT_order aT_froms aT_tos aT_counts aT_points aT_flows aT_isUsed aT_gains aT_ways f_thrown f_many f_factor f_dropped f_pointMany A_begins A_ends A_isThere v4 hcl13) (cwV 1 hts gX5_earliest_X5_depthAt rfl rfl rfl (by decide +kernel) ⟨Nat.le_of_ble_eq_true rfl, Nat.le_of_ble_eq_true rfl⟩) hv (isC := [0, 1, 2, 3]) ⟨rfl, rfl⟩ (hv.recv 5 0 rfl rfl) [] [0, 1, 2, 3] rfl rfl (by decide) rfl rfl rfl hl.1 rfl (Nat.le_of_ble_eq_true rfl) dX5_earliest_59 ⟨Nat.le_of_ble_eq_true rfl, Nat.le_of_ble_eq_true rfl⟩ (fun H locs hv => ?_)
          refine lv_iload_n hx hb dX5_earliest_62 rfl (lv_at hl 2 rfl) ?_
          refine lv_icmp_ge (tgt := 70) hx hb dX5_earliest_63 (by decide) (fun hc14 => ?_) (fun hc14 => ?_)
          · replace hf := ite_t hf hc14
            refine lv_iload hx hb dX5_earliest_70 (lv_at hl 4 rfl) ?_
            refine lv_iconst (v := 1) hx hb dX5_earliest_72 (by decide) ?_
            refine lv_iadd hx hb dX5_earliest_73 ?_
            refine lv_istore_n (lv' := [(3, .int (v4 + 1)), (0, .ref aT), (1, .int v1), (2, .int v2), (4, .int v4)]) hx hb dX5_earliest_74 rfl hl (by decide) rfl (fun ls hl => ?_)
            refine lv_iinc (v := v4 + 1) (lv' := [(4, .int (v4 + 1)), (3, .int (v4 + 1)), (0, .ref aT), (1, .int v1), (2, .int v2)]) hx hb dX5_earliest_75 hl (k := 4) rfl rfl (by decide) rfl (fun ls hl => ?_)
            refine lv_goto (tgt := 40) hx hb dX5_earliest_78 (by decide) ?_
            exact ih (v4 + 1) (v4 + 1) hf _ _ _ hv (lv_sub hl [2, 3, 4, 1, 0] rfl) hκ
          · replace hf := ite_f hf hc14
            refine lv_iload_n hx hb dX5_earliest_66 rfl (lv_at hl 3 rfl) ?_
            refine lv_goto (tgt := 74) hx hb dX5_earliest_67 (by decide) ?_
            refine lv_istore_n (lv' := [(3, .int v3), (0, .ref aT), (1, .int v1), (2, .int v2), (4, .int v4)]) hx hb dX5_earliest_74 rfl hl (by decide) rfl (fun ls hl => ?_)
            refine lv_iinc (v := v4 + 1) (lv' := [(4, .int (v4 + 1)), (3, .int v3), (0, .ref aT), (1, .int v1), (2, .int v2)]) hx hb dX5_earliest_75 hl (k := 4) rfl rfl (by decide) rfl (fun ls hl => ?_)
            refine lv_goto (tgt := 40) hx hb dX5_earliest_78 (by decide) ?_
            exact ih v3 (v4 + 1) hf _ _ _ hv (lv_sub hl [2, 3, 4, 1, 0] rfl) hκ
  unfold f_X5_earliest at hf
  refine lv_aload_n hx hb dX5_earliest_0 rfl (lv_at hl 0 rfl) ?_
  refine lv_iload_n hx hb dX5_earliest_1 rfl (lv_at hl 1 rfl) ?_
  refine lv_iconst (v := 1) hx hb dX5_earliest_2 (by decide) ?_
  refine lv_sipush (v := 1000) hx hb dX5_earliest_3 (by decide) ?_
  obtain ⟨r1, hcl2, hf⟩ := xb_some hf
  refine kS_i (r := r1) ⟨hx, hb, hml, hown, hts⟩ (c_X5_in l G cy k p1 1 1000 hcl2) (va_cwS 3 hts gX5_earliest_X5_in rfl rfl rfl (by decide +kernel) ⟨Nat.le_of_ble_eq_true rfl, Nat.le_of_ble_eq_true rfl⟩) hv rfl hl.1 rfl (Nat.le_of_ble_eq_true rfl) dX5_earliest_6 ⟨Nat.le_of_ble_eq_true rfl, Nat.le_of_ble_eq_true rfl⟩ (fun H locs hv => ?_)
  refine xj_elim hf (fun j27_4 ej27_4 hf => ?_)
  have J27_4 : ∀ (x5 : Int32), j27_4 x5 = some (r, wf_thrown) → ∀ (H : Heap) (locs : List Loc) (ls : Array Slot), Hv s H locs G cy A [(aT, .inr (5, [.int f_thrown, .int f_many, .ref aT_begins, .ref aT_ends, .ref aT_weights, .ref aT_isThere, .ref aT_rooms, .int f_factor, .ref aT_isOffered, .ref aT_isAccepted, .int f_dropped, .ref aT_best, .ref aT_order, .ref aT_froms, .ref aT_tos, .ref aT_counts, .ref aT_points, .ref aT_flows, .ref aT_isUsed, .ref aT_gains, .ref aT_ways, .int f_pointMany])), (aT_begins, .inl (cy.1, 40, .inl A_begins)), (aT_ends, .inl (cy.1, 40, .inl A_ends)), (aT_isThere, .inl (cy.2.1, 40, .inl A_isThere))] → lv_has ls 5 [(0, .ref aT), (1, .int p1), (2, .int p2)] → W p l e rm_X5_earliest s m args below meth c H locs 0 0 Q (F0 m 27 ls [.int x5, .ref aT]) := by
    intro x5 hf H locs ls hv hl
    rw [ej27_4] at hf
    try dsimp only at hf
    obtain ⟨⟨r6, f_thrown_7⟩, hcl8, hf⟩ := xb_some hf
    dsimp only at hf
    refine kV_i (r := r6) (wr := [(aT_begins, .inl (cy.1, 40, .inl A_begins)), (aT_ends, .inl (cy.1, 40, .inl A_ends)), (aT_isThere, .inl (cy.2.1, 40, .inl A_isThere))]) (w2 := [(aT, .inr (5, [.int f_thrown_7, .int f_many, .ref aT_begins, .ref aT_ends, .ref aT_weights, .ref aT_isThere, .ref aT_rooms, .int f_factor, .ref aT_isOffered, .ref aT_isAccepted, .int f_dropped, .ref aT_best, .ref aT_order, .ref aT_froms, .ref aT_tos, .ref aT_counts, .ref aT_points, .ref aT_flows, .ref aT_isUsed, .ref aT_gains, .ref aT_ways, .int f_pointMany])), (aT_begins, .inl (cy.1, 40, .inl A_begins)), (aT_ends, .inl (cy.1, 40, .inl A_ends)), (aT_isThere, .inl (cy.2.1, 40, .inl A_isThere))]) ⟨hx, hb, hml, hown, hts⟩ (c_X5_goesWell l G cy k aT aT_begins aT_ends aT_weights aT_isThere aT_rooms aT_isOffered aT_isAccepted aT_best aT_order aT_froms aT_tos aT_counts aT_points aT_flows aT_isUsed aT_gains aT_ways f_thrown f_many f_factor f_dropped f_pointMany x5 hcl8) (cwV 1 hts gX5_earliest_X5_goesWell rfl rfl rfl (by decide +kernel) ⟨Nat.le_of_ble_eq_true rfl, Nat.le_of_ble_eq_true rfl⟩) hv (isC := [0]) ⟨rfl, rfl⟩ (hv.recv 5 0 rfl rfl) [1, 2, 3] [3, 0, 1, 2] rfl rfl (by decide) rfl rfl rfl hl.1 rfl (Nat.le_of_ble_eq_true rfl) dX5_earliest_27 ⟨Nat.le_of_ble_eq_true rfl, Nat.le_of_ble_eq_true rfl⟩ (fun H locs hv => ?_)
    refine lv_if_ne (tgt := 35) hx hb dX5_earliest_30 (by decide) (fun hc9 => ?_) (fun hc9 => ?_)
    · replace hf := ite_f hf hc9
      refine lv_iconst (v := 0) hx hb dX5_earliest_35 (by decide) ?_
      refine lv_istore_n (lv' := [(3, .int 0), (0, .ref aT), (1, .int p1), (2, .int p2)]) hx hb dX5_earliest_36 rfl hl (by decide) rfl (fun ls hl => ?_)
      refine lv_iconst (v := 0) hx hb dX5_earliest_37 (by decide) ?_
      refine lv_istore (lv' := [(4, .int 0), (3, .int 0), (0, .ref aT), (1, .int p1), (2, .int p2)]) hx hb dX5_earliest_38 hl (by decide) rfl (fun ls hl => ?_)
      refine L40 _ _ _ _ _ _ _ hf _ _ _ hv (lv_sub hl [2, 3, 4, 1, 0] rfl) (fun v3_15 v4_16 hf H locs ls hv hl => ?_)
      try dsimp only at hf
      refine lv_iload_n hx hb dX5_earliest_81 rfl (lv_at hl 1 rfl) ?_
      refine lv_iload_n hx hb dX5_earliest_82 rfl (lv_at hl 0 rfl) ?_
      refine lv_iadd hx hb dX5_earliest_83 ?_
      refine lv_sipush (v := 1000) hx hb dX5_earliest_84 (by decide) ?_
      refine lv_icmp_gt (tgt := 94) hx hb dX5_earliest_87 (by decide) (fun hc17 => ?_) (fun hc17 => ?_)
      · replace hf := ite_t hf hc17
        refine lv_iconst (v := (-1)) hx hb dX5_earliest_94 (by decide) ?_
        cases hf
        exact kret _ _ _ _ hv dX5_earliest_95
      · replace hf := ite_f hf hc17
        refine lv_iload_n hx hb dX5_earliest_90 rfl (lv_at hl 1 rfl) ?_
        refine lv_goto (tgt := 95) hx hb dX5_earliest_91 (by decide) ?_
        cases hf
        exact kret _ _ _ _ hv dX5_earliest_95
    · replace hf := ite_t hf hc9
      refine lv_iconst (v := 0) hx hb dX5_earliest_33 (by decide) ?_
      cases hf
      exact kret _ _ _ _ hv dX5_earliest_34
  refine xj_elim hf (fun j26_18 ej26_18 hf => ?_)
  have J26_18 : ∀ (u : Unit), j26_18 u = some (r, wf_thrown) → ∀ (H : Heap) (locs : List Loc) (ls : Array Slot), Hv s H locs G cy A [(aT, .inr (5, [.int f_thrown, .int f_many, .ref aT_begins, .ref aT_ends, .ref aT_weights, .ref aT_isThere, .ref aT_rooms, .int f_factor, .ref aT_isOffered, .ref aT_isAccepted, .int f_dropped, .ref aT_best, .ref aT_order, .ref aT_froms, .ref aT_tos, .ref aT_counts, .ref aT_points, .ref aT_flows, .ref aT_isUsed, .ref aT_gains, .ref aT_ways, .int f_pointMany])), (aT_begins, .inl (cy.1, 40, .inl A_begins)), (aT_ends, .inl (cy.1, 40, .inl A_ends)), (aT_isThere, .inl (cy.2.1, 40, .inl A_isThere))] → lv_has ls 5 [(0, .ref aT), (1, .int p1), (2, .int p2)] → W p l e rm_X5_earliest s m args below meth c H locs 0 0 Q (F0 m 26 ls [.ref aT]) := by
    intro u hf H locs ls hv hl
    rw [ej26_18] at hf
    try dsimp only at hf
    refine lv_iconst (v := 1) hx hb dX5_earliest_26 (by decide) ?_
    exact J27_4 1 hf _ _ _ hv (lv_sub hl [0, 1, 2] rfl)
  refine lv_if_eq (tgt := 26) hx hb dX5_earliest_9 (by decide) (fun hc3 => ?_) (fun hc3 => ?_)
  · replace hf := ite_t hf hc3
    exact J26_18 () hf _ _ _ hv (lv_sub hl [0, 1, 2] rfl)
  · replace hf := ite_f hf hc3
    refine lv_iload_n hx hb dX5_earliest_12 rfl (lv_at hl 2 rfl) ?_
    refine lv_iconst (v := 1) hx hb dX5_earliest_13 (by decide) ?_
    refine lv_bipush (v := 40) hx hb dX5_earliest_14 (by decide) ?_
    obtain ⟨r19, hcl20, hf⟩ := xb_some hf
    refine kS_i (r := r19) ⟨hx, hb, hml, hown, hts⟩ (c_X5_in l G cy k p2 1 40 hcl20) (va_cwS 3 hts gX5_earliest_X5_in rfl rfl rfl (by decide +kernel) ⟨Nat.le_of_ble_eq_true rfl, Nat.le_of_ble_eq_true rfl⟩) hv rfl hl.1 rfl (Nat.le_of_ble_eq_true rfl) dX5_earliest_16 ⟨Nat.le_of_ble_eq_true rfl, Nat.le_of_ble_eq_true rfl⟩ (fun H locs hv => ?_)
    refine lv_if_eq (tgt := 26) hx hb dX5_earliest_19 (by decide) (fun hc21 => ?_) (fun hc21 => ?_)
    · replace hf := ite_t hf hc21
      exact J26_18 () hf _ _ _ hv (lv_sub hl [0, 1, 2] rfl)
    · replace hf := ite_f hf hc21
      refine lv_iconst (v := 0) hx hb dX5_earliest_22 (by decide) ?_
      refine lv_goto (tgt := 27) hx hb dX5_earliest_23 (by decide) ?_
      exact J27_4 0 hf _ _ _ hv (lv_sub hl [0, 1, 2] rfl)

def f_X5_steps (k : Nat) (p1 : Int32) (p2 : Int32) (p3 : Int32) (p4 : Int32) (A_gains : Nat → Int32) (A_ways : Nat → Int32) : Option (Int32 × (Nat → Int32) × (Nat → Int32)) := xi p1 80 (if (A_gains p1.toNatClampNeg) = (-100000000) then some (0, A_gains, A_ways) else xi p1 80 (xi p2 80 (if (A_gains p2.toNatClampNeg) < ((A_gains p1.toNatClampNeg) + p3) then xi p1 80 (xi p2 80 (xi p2 80 (some (1, upd A_gains p2.toNatClampNeg ((A_gains p1.toNatClampNeg) + p3), upd A_ways p2.toNatClampNeg p4)))) else some (0, A_gains, A_ways))))
abbrev rm_X5_steps : Room := { frames := 0, cells := 0, slots := 0, locals := 0 }
set_option maxHeartbeats 4000000 in
set_option maxRecDepth 100000 in
theorem c_X5_steps (l : Launch) (G : va_G) (cy : ClassId × ClassId × ClassId) (k : Nat) (aT aT_begins aT_ends aT_weights aT_isThere aT_rooms aT_isOffered aT_isAccepted aT_best aT_order aT_froms aT_tos aT_counts aT_points aT_flows aT_isUsed aT_gains aT_ways : Nat) (f_thrown : Int32) (f_many : Int32) (f_factor : Int32) (f_dropped : Int32) (f_pointMany : Int32) (A_gains : Nat → Int32) (A_ways : Nat → Int32) (p1 : Int32) (p2 : Int32) (p3 : Int32) (p4 : Int32) {r : Int32} {wA_gains : Nat → Int32} {wA_ways : Nat → Int32} (hf : f_X5_steps k p1 p2 p3 p4 A_gains A_ways = some (r, wA_gains, wA_ways)) : Ci l yX5_steps wsX5_steps rm_X5_steps 0 0 G cy [.ref aT, .int p1, .int p2, .int p3, .int p4] [(aT, .inr (5, [.int f_thrown, .int f_many, .ref aT_begins, .ref aT_ends, .ref aT_weights, .ref aT_isThere, .ref aT_rooms, .int f_factor, .ref aT_isOffered, .ref aT_isAccepted, .int f_dropped, .ref aT_best, .ref aT_order, .ref aT_froms, .ref aT_tos, .ref aT_counts, .ref aT_points, .ref aT_flows, .ref aT_isUsed, .ref aT_gains, .ref aT_ways, .int f_pointMany])), (aT_gains, .inl (cy.1, 80, .inl A_gains)), (aT_ways, .inl (cy.1, 80, .inl A_ways))] [(aT, .inr (5, [.int f_thrown, .int f_many, .ref aT_begins, .ref aT_ends, .ref aT_weights, .ref aT_isThere, .ref aT_rooms, .int f_factor, .ref aT_isOffered, .ref aT_isAccepted, .int f_dropped, .ref aT_best, .ref aT_order, .ref aT_froms, .ref aT_tos, .ref aT_counts, .ref aT_points, .ref aT_flows, .ref aT_isUsed, .ref aT_gains, .ref aT_ways, .int f_pointMany])), (aT_gains, .inl (cy.1, 80, .inl wA_gains)), (aT_ways, .inl (cy.1, 80, .inl wA_ways))] r := by
  refine kMetZ (cc := cX5_steps) (maxL := 5) (by decide) rfl (Nat.le_of_ble_eq_true rfl) ?_
  intro p e s m args below meth c Q A ls hx hb hml hts hown hv hl kret
  replace hown : s.vm.findClass RX5 = some m.cls := hown
  replace hl : lv_has ls 5 [(0, .ref aT), (1, .int p1), (2, .int p2), (3, .int p3), (4, .int p4)] := hl
  have hk60 : (Cond.fieldLink RX5 60 "RoomcolourModel" "gains" "[I").before args s = true := hts _ (by decide +kernel)
  have hinX5 : ∀ w ∈ wsX50, w ∈ wsX5_steps := by decide +kernel
  have hk117 : (Cond.constant RX5 117 (-100000000)).before args s = true := hts _ (by decide +kernel)
  have hk63 : (Cond.fieldLink RX5 63 "RoomcolourModel" "ways" "[I").before args s = true := hts _ (by decide +kernel)
  unfold f_X5_steps at hf
  refine lv_aload_n hx hb dX5_steps_0 rfl (lv_at hl 0 rfl) ?_
  refine kGet (v := .ref aT_gains) (C := RX5) (T := TX5) (N := 22) hx hb hts hinX5 hown hv 0 rfl rfl 19 (by decide) hk60 (fun _ h9 => h9) rfl dX5_steps_1 ?_
  refine lv_iload_n hx hb dX5_steps_4 rfl (lv_at hl 1 rfl) ?_
  obtain ⟨hi1, hf⟩ := xi_some hf
  refine kIald hx hb hv 1 rfl hi1 dX5_steps_5 ?_
  refine lv_ldc hx hb hown hk117 dX5_steps_6 ?_
  refine lv_icmp_eq (tgt := 28) hx hb dX5_steps_8 (by decide) (fun hc2 => ?_) (fun hc2 => ?_)
  · replace hf := ite_t hf hc2
    refine lv_iconst (v := 0) hx hb dX5_steps_28 (by decide) ?_
    cases hf
    exact kret _ _ _ _ hv dX5_steps_29 rfl
  · replace hf := ite_f hf hc2
    refine lv_aload_n hx hb dX5_steps_11 rfl (lv_at hl 0 rfl) ?_
    refine kGet (v := .ref aT_gains) (C := RX5) (T := TX5) (N := 22) hx hb hts hinX5 hown hv 0 rfl rfl 19 (by decide) hk60 (fun _ h9 => h9) rfl dX5_steps_12 ?_
    refine lv_iload_n hx hb dX5_steps_15 rfl (lv_at hl 1 rfl) ?_
    obtain ⟨hi3, hf⟩ := xi_some hf
    refine kIald hx hb hv 1 rfl hi3 dX5_steps_16 ?_
    refine lv_iload_n hx hb dX5_steps_17 rfl (lv_at hl 3 rfl) ?_
    refine lv_iadd hx hb dX5_steps_18 ?_
    refine lv_aload_n hx hb dX5_steps_19 rfl (lv_at hl 0 rfl) ?_
    refine kGet (v := .ref aT_gains) (C := RX5) (T := TX5) (N := 22) hx hb hts hinX5 hown hv 0 rfl rfl 19 (by decide) hk60 (fun _ h9 => h9) rfl dX5_steps_20 ?_
    refine lv_iload_n hx hb dX5_steps_23 rfl (lv_at hl 2 rfl) ?_
    obtain ⟨hi4, hf⟩ := xi_some hf
    refine kIald hx hb hv 1 rfl hi4 dX5_steps_24 ?_
    refine lv_icmp_gt (tgt := 30) hx hb dX5_steps_25 (by decide) (fun hc5 => ?_) (fun hc5 => ?_)
    · replace hf := ite_t hf hc5
      refine lv_aload_n hx hb dX5_steps_30 rfl (lv_at hl 0 rfl) ?_
      refine kGet (v := .ref aT_gains) (C := RX5) (T := TX5) (N := 22) hx hb hts hinX5 hown hv 0 rfl rfl 19 (by decide) hk60 (fun _ h9 => h9) rfl dX5_steps_31 ?_
      refine lv_iload_n hx hb dX5_steps_34 rfl (lv_at hl 2 rfl) ?_
      refine lv_aload_n hx hb dX5_steps_35 rfl (lv_at hl 0 rfl) ?_
      refine kGet (v := .ref aT_gains) (C := RX5) (T := TX5) (N := 22) hx hb hts hinX5 hown hv 0 rfl rfl 19 (by decide) hk60 (fun _ h9 => h9) rfl dX5_steps_36 ?_
      refine lv_iload_n hx hb dX5_steps_39 rfl (lv_at hl 1 rfl) ?_
      obtain ⟨hi6, hf⟩ := xi_some hf
      refine kIald hx hb hv 1 rfl hi6 dX5_steps_40 ?_
      refine lv_iload_n hx hb dX5_steps_41 rfl (lv_at hl 3 rfl) ?_
      refine lv_iadd hx hb dX5_steps_42 ?_
      obtain ⟨hi7, hf⟩ := xi_some hf
      refine kIast hx hb hv 1 rfl hi7 dX5_steps_43 (fun H locs hv => ?_)
      replace hv : Hv s H locs G cy A [(aT, .inr (5, [.int f_thrown, .int f_many, .ref aT_begins, .ref aT_ends, .ref aT_weights, .ref aT_isThere, .ref aT_rooms, .int f_factor, .ref aT_isOffered, .ref aT_isAccepted, .int f_dropped, .ref aT_best, .ref aT_order, .ref aT_froms, .ref aT_tos, .ref aT_counts, .ref aT_points, .ref aT_flows, .ref aT_isUsed, .ref aT_gains, .ref aT_ways, .int f_pointMany])), (aT_gains, .inl (cy.1, 80, .inl (upd A_gains p2.toNatClampNeg ((A_gains p1.toNatClampNeg) + p3)))), (aT_ways, .inl (cy.1, 80, .inl A_ways))] := hv
      refine lv_aload_n hx hb dX5_steps_44 rfl (lv_at hl 0 rfl) ?_
      refine kGet (v := .ref aT_ways) (C := RX5) (T := TX5) (N := 22) hx hb hts hinX5 hown hv 0 rfl rfl 20 (by decide) hk63 (fun _ h9 => h9) rfl dX5_steps_45 ?_
      refine lv_iload_n hx hb dX5_steps_48 rfl (lv_at hl 2 rfl) ?_
      refine lv_iload hx hb dX5_steps_49 (lv_at hl 4 rfl) ?_
      obtain ⟨hi8, hf⟩ := xi_some hf
      refine kIast hx hb hv 2 rfl hi8 dX5_steps_51 (fun H locs hv => ?_)
      replace hv : Hv s H locs G cy A [(aT, .inr (5, [.int f_thrown, .int f_many, .ref aT_begins, .ref aT_ends, .ref aT_weights, .ref aT_isThere, .ref aT_rooms, .int f_factor, .ref aT_isOffered, .ref aT_isAccepted, .int f_dropped, .ref aT_best, .ref aT_order, .ref aT_froms, .ref aT_tos, .ref aT_counts, .ref aT_points, .ref aT_flows, .ref aT_isUsed, .ref aT_gains, .ref aT_ways, .int f_pointMany])), (aT_gains, .inl (cy.1, 80, .inl (upd A_gains p2.toNatClampNeg ((A_gains p1.toNatClampNeg) + p3)))), (aT_ways, .inl (cy.1, 80, .inl (upd A_ways p2.toNatClampNeg p4)))] := hv
      refine lv_iconst (v := 1) hx hb dX5_steps_52 (by decide) ?_
      cases hf
      exact kret _ _ _ _ hv dX5_steps_53 rfl
    · replace hf := ite_f hf hc5
      refine lv_iconst (v := 0) hx hb dX5_steps_28 (by decide) ?_
      cases hf
      exact kret _ _ _ _ hv dX5_steps_29 rfl

def f_X5_pointOf_L2 (k : Nat) (v1 : Int32) (A_points : Nat → Int32) (κ : Int32 → Option (Int32)) : Nat → Int32 → Option (Int32)
  | 0, _ => none
  | n + 1, v2 => xi v2 80 (if (A_points v2.toNatClampNeg) = v1 then κ v2 else f_X5_pointOf_L2 k v1 A_points κ n (v2 + 1))
theorem f_X5_pointOf_L2_z (k : Nat) (v1 : Int32) (A_points : Nat → Int32) (κ : Int32 → Option (Int32)) (v2 : Int32) : f_X5_pointOf_L2 k v1 A_points κ 0 v2 = none := rfl
theorem f_X5_pointOf_L2_s (k : Nat) (v1 : Int32) (A_points : Nat → Int32) (κ : Int32 → Option (Int32)) (n : Nat) (v2 : Int32) : f_X5_pointOf_L2 k v1 A_points κ (n + 1) v2 = xi v2 80 (if (A_points v2.toNatClampNeg) = v1 then κ v2 else f_X5_pointOf_L2 k v1 A_points κ n (v2 + 1)) := rfl
def f_X5_pointOf (k : Nat) (p1 : Int32) (A_points : Nat → Int32) : Option (Int32) := f_X5_pointOf_L2 k p1 A_points (fun (v2_3 : Int32) => some v2_3) k 0
abbrev rm_X5_pointOf : Room := { frames := 0, cells := 0, slots := 0, locals := 0 }
set_option maxHeartbeats 4000000 in
set_option maxRecDepth 100000 in
theorem c_X5_pointOf (l : Launch) (G : va_G) (cy : ClassId × ClassId × ClassId) (k : Nat) (aT aT_begins aT_ends aT_weights aT_isThere aT_rooms aT_isOffered aT_isAccepted aT_best aT_order aT_froms aT_tos aT_counts aT_points aT_flows aT_isUsed aT_gains aT_ways : Nat) (f_thrown : Int32) (f_many : Int32) (f_factor : Int32) (f_dropped : Int32) (f_pointMany : Int32) (A_points : Nat → Int32) (p1 : Int32) {r : Int32} (hf : f_X5_pointOf k p1 A_points = some r) : Ci l yX5_pointOf wsX5_pointOf rm_X5_pointOf 0 0 G cy [.ref aT, .int p1] [(aT, .inr (5, [.int f_thrown, .int f_many, .ref aT_begins, .ref aT_ends, .ref aT_weights, .ref aT_isThere, .ref aT_rooms, .int f_factor, .ref aT_isOffered, .ref aT_isAccepted, .int f_dropped, .ref aT_best, .ref aT_order, .ref aT_froms, .ref aT_tos, .ref aT_counts, .ref aT_points, .ref aT_flows, .ref aT_isUsed, .ref aT_gains, .ref aT_ways, .int f_pointMany])), (aT_points, .inl (cy.1, 80, .inl A_points))] [(aT, .inr (5, [.int f_thrown, .int f_many, .ref aT_begins, .ref aT_ends, .ref aT_weights, .ref aT_isThere, .ref aT_rooms, .int f_factor, .ref aT_isOffered, .ref aT_isAccepted, .int f_dropped, .ref aT_best, .ref aT_order, .ref aT_froms, .ref aT_tos, .ref aT_counts, .ref aT_points, .ref aT_flows, .ref aT_isUsed, .ref aT_gains, .ref aT_ways, .int f_pointMany])), (aT_points, .inl (cy.1, 80, .inl A_points))] r := by
  refine kMetI (cc := cX5_pointOf) (maxL := 3) (by decide) rfl (Nat.le_of_ble_eq_true rfl) ?_
  intro p e s m args below meth c Q A ls hx hb hml hts hown hv hl kret
  replace hown : s.vm.findClass RX5 = some m.cls := hown
  replace hl : lv_has ls 3 [(0, .ref aT), (1, .int p1)] := hl
  have hk51 : (Cond.fieldLink RX5 51 "RoomcolourModel" "points" "[I").before args s = true := hts _ (by decide +kernel)
  have hinX5 : ∀ w ∈ wsX50, w ∈ wsX5_pointOf := by decide +kernel
  have L2 : ∀ (v1 : Int32) (κ : Int32 → Option (Int32)) (n : Nat) (v2 : Int32), f_X5_pointOf_L2 k v1 A_points κ n v2 = some r → ∀ (H : Heap) (locs : List Loc) (ls : Array Slot), Hv s H locs G cy A [(aT, .inr (5, [.int f_thrown, .int f_many, .ref aT_begins, .ref aT_ends, .ref aT_weights, .ref aT_isThere, .ref aT_rooms, .int f_factor, .ref aT_isOffered, .ref aT_isAccepted, .int f_dropped, .ref aT_best, .ref aT_order, .ref aT_froms, .ref aT_tos, .ref aT_counts, .ref aT_points, .ref aT_flows, .ref aT_isUsed, .ref aT_gains, .ref aT_ways, .int f_pointMany])), (aT_points, .inl (cy.1, 80, .inl A_points))] → lv_has ls 3 [(0, .ref aT), (1, .int v1), (2, .int v2)] → (∀ (v2 : Int32), κ v2 = some r → ∀ (H : Heap) (locs : List Loc) (ls : Array Slot), Hv s H locs G cy A [(aT, .inr (5, [.int f_thrown, .int f_many, .ref aT_begins, .ref aT_ends, .ref aT_weights, .ref aT_isThere, .ref aT_rooms, .int f_factor, .ref aT_isOffered, .ref aT_isAccepted, .int f_dropped, .ref aT_best, .ref aT_order, .ref aT_froms, .ref aT_tos, .ref aT_counts, .ref aT_points, .ref aT_flows, .ref aT_isUsed, .ref aT_gains, .ref aT_ways, .int f_pointMany])), (aT_points, .inl (cy.1, 80, .inl A_points))] → lv_has ls 3 [(2, .int v2)] → W p l e rm_X5_pointOf s m args below meth c H locs 0 0 Q (F0 m 18 ls [])) → W p l e rm_X5_pointOf s m args below meth c H locs 0 0 Q (F0 m 2 ls []) := by
    intro v1 κ n
    induction n with
    | zero =>
      intro v2 hf
      rw [f_X5_pointOf_L2_z] at hf
      cases hf
    | succ n ih =>
      intro v2 hf H locs ls hv hl hκ
      rw [f_X5_pointOf_L2_s] at hf
      refine lv_aload_n hx hb dX5_pointOf_2 rfl (lv_at hl 0 rfl) ?_
      refine kGet (v := .ref aT_points) (C := RX5) (T := TX5) (N := 22) hx hb hts hinX5 hown hv 0 rfl rfl 16 (by decide) hk51 (fun _ h9 => h9) rfl dX5_pointOf_3 ?_
      refine lv_iload_n hx hb dX5_pointOf_6 rfl (lv_at hl 2 rfl) ?_
      obtain ⟨hi1, hf⟩ := xi_some hf
      refine kIald hx hb hv 1 rfl hi1 dX5_pointOf_7 ?_
      refine lv_iload_n hx hb dX5_pointOf_8 rfl (lv_at hl 1 rfl) ?_
      refine lv_icmp_eq (tgt := 18) hx hb dX5_pointOf_9 (by decide) (fun hc2 => ?_) (fun hc2 => ?_)
      · replace hf := ite_t hf hc2
        exact hκ v2 hf _ _ _ hv (lv_sub hl [2] rfl)
      · replace hf := ite_f hf hc2
        refine lv_iinc (v := v2 + 1) (lv' := [(2, .int (v2 + 1)), (0, .ref aT), (1, .int v1)]) hx hb dX5_pointOf_12 hl (k := 2) rfl rfl (by decide) rfl (fun ls hl => ?_)
        refine lv_goto (tgt := 2) hx hb dX5_pointOf_15 (by decide) ?_
        exact ih (v2 + 1) hf _ _ _ hv (lv_sub hl [1, 2, 0] rfl) hκ
  unfold f_X5_pointOf at hf
  refine lv_iconst (v := 0) hx hb dX5_pointOf_0 (by decide) ?_
  refine lv_istore_n (lv' := [(2, .int 0), (0, .ref aT), (1, .int p1)]) hx hb dX5_pointOf_1 rfl hl (by decide) rfl (fun ls hl => ?_)
  refine L2 _ _ _ _ hf _ _ _ hv (lv_sub hl [1, 2, 0] rfl) (fun v2_3 hf H locs ls hv hl => ?_)
  try dsimp only at hf
  refine lv_iload_n hx hb dX5_pointOf_18 rfl (lv_at hl 0 rfl) ?_
  cases hf
  exact kret _ _ _ _ hv dX5_pointOf_19

def f_X5_find_L2 (k : Nat) (f_pointMany : Int32) (κ : Int32 → (Nat → Int32) → Option ((Nat → Int32) × (Nat → Int32))) : Nat → Int32 → (Nat → Int32) → Option ((Nat → Int32) × (Nat → Int32))
  | 0, _, _ => none
  | n + 1, v1, A_gains => if f_pointMany ≤ v1 then κ v1 A_gains else if v1 = 0 then xi v1 80 (f_X5_find_L2 k f_pointMany κ n (v1 + 1) (upd A_gains v1.toNatClampNeg 0)) else xi v1 80 (f_X5_find_L2 k f_pointMany κ n (v1 + 1) (upd A_gains v1.toNatClampNeg (-100000000)))
theorem f_X5_find_L2_z (k : Nat) (f_pointMany : Int32) (κ : Int32 → (Nat → Int32) → Option ((Nat → Int32) × (Nat → Int32))) (v1 : Int32) (A_gains : Nat → Int32) : f_X5_find_L2 k f_pointMany κ 0 v1 A_gains = none := rfl
theorem f_X5_find_L2_s (k : Nat) (f_pointMany : Int32) (κ : Int32 → (Nat → Int32) → Option ((Nat → Int32) × (Nat → Int32))) (n : Nat) (v1 : Int32) (A_gains : Nat → Int32) : f_X5_find_L2 k f_pointMany κ (n + 1) v1 A_gains = if f_pointMany ≤ v1 then κ v1 A_gains else if v1 = 0 then xi v1 80 (f_X5_find_L2 k f_pointMany κ n (v1 + 1) (upd A_gains v1.toNatClampNeg 0)) else xi v1 80 (f_X5_find_L2 k f_pointMany κ n (v1 + 1) (upd A_gains v1.toNatClampNeg (-100000000))) := rfl
def f_X5_find_L42 (k : Nat) (f_pointMany : Int32) (A_flows : Nat → Int32) (κ : Int32 → Int32 → (Nat → Int32) → (Nat → Int32) → Option ((Nat → Int32) × (Nat → Int32))) : Nat → Int32 → Int32 → (Nat → Int32) → (Nat → Int32) → Option ((Nat → Int32) × (Nat → Int32))
  | 0, _, _, _, _ => none
  | n + 1, v1, v2, A_gains, A_ways => if f_pointMany ≤ (v2 + 1) then κ v1 v2 A_gains A_ways else xb (f_X5_steps k v2 (v2 + 1) 0 v2 A_gains A_ways) (fun (r9, A_gains_10, A_ways_11) => xj (fun (x15 : Int32) => xi v2 80 (xj (fun (A_gains_19 : Nat → Int32) (A_ways_20 : Nat → Int32) => if x15 = 0 then f_X5_find_L42 k f_pointMany A_flows κ n 0 (v2 + 1) A_gains_19 A_ways_20 else f_X5_find_L42 k f_pointMany A_flows κ n 1 (v2 + 1) A_gains_19 A_ways_20) (fun (j100_18 : (Nat → Int32) → (Nat → Int32) → Option ((Nat → Int32) × (Nat → Int32))) => if (A_flows v2.toNatClampNeg) ≤ 0 then j100_18 A_gains_10 A_ways_11 else xb (f_X5_steps k (v2 + 1) v2 0 (100 + v2) A_gains_10 A_ways_11) (fun (r22, A_gains_23, A_ways_24) => if r22 = 0 then j100_18 A_gains_23 A_ways_24 else f_X5_find_L42 k f_pointMany A_flows κ n 1 (v2 + 1) A_gains_23 A_ways_24)))) (fun (j74_14 : Int32 → Option ((Nat → Int32) × (Nat → Int32))) => xj (fun (_ : Unit) => j74_14 1) (fun (j69_27 : Unit → Option ((Nat → Int32) × (Nat → Int32))) => if r9 = 0 then if v1 = 0 then j74_14 0 else j69_27 () else j69_27 ())))
theorem f_X5_find_L42_z (k : Nat) (f_pointMany : Int32) (A_flows : Nat → Int32) (κ : Int32 → Int32 → (Nat → Int32) → (Nat → Int32) → Option ((Nat → Int32) × (Nat → Int32))) (v1 : Int32) (v2 : Int32) (A_gains : Nat → Int32) (A_ways : Nat → Int32) : f_X5_find_L42 k f_pointMany A_flows κ 0 v1 v2 A_gains A_ways = none := rfl
theorem f_X5_find_L42_s (k : Nat) (f_pointMany : Int32) (A_flows : Nat → Int32) (κ : Int32 → Int32 → (Nat → Int32) → (Nat → Int32) → Option ((Nat → Int32) × (Nat → Int32))) (n : Nat) (v1 : Int32) (v2 : Int32) (A_gains : Nat → Int32) (A_ways : Nat → Int32) : f_X5_find_L42 k f_pointMany A_flows κ (n + 1) v1 v2 A_gains A_ways = if f_pointMany ≤ (v2 + 1) then κ v1 v2 A_gains A_ways else xb (f_X5_steps k v2 (v2 + 1) 0 v2 A_gains A_ways) (fun (r9, A_gains_10, A_ways_11) => xj (fun (x15 : Int32) => xi v2 80 (xj (fun (A_gains_19 : Nat → Int32) (A_ways_20 : Nat → Int32) => if x15 = 0 then f_X5_find_L42 k f_pointMany A_flows κ n 0 (v2 + 1) A_gains_19 A_ways_20 else f_X5_find_L42 k f_pointMany A_flows κ n 1 (v2 + 1) A_gains_19 A_ways_20) (fun (j100_18 : (Nat → Int32) → (Nat → Int32) → Option ((Nat → Int32) × (Nat → Int32))) => if (A_flows v2.toNatClampNeg) ≤ 0 then j100_18 A_gains_10 A_ways_11 else xb (f_X5_steps k (v2 + 1) v2 0 (100 + v2) A_gains_10 A_ways_11) (fun (r22, A_gains_23, A_ways_24) => if r22 = 0 then j100_18 A_gains_23 A_ways_24 else f_X5_find_L42 k f_pointMany A_flows κ n 1 (v2 + 1) A_gains_23 A_ways_24)))) (fun (j74_14 : Int32 → Option ((Nat → Int32) × (Nat → Int32))) => xj (fun (_ : Unit) => j74_14 1) (fun (j69_27 : Unit → Option ((Nat → Int32) × (Nat → Int32))) => if r9 = 0 then if v1 = 0 then j74_14 0 else j69_27 () else j69_27 ()))) := rfl
def f_X5_find_L118 (k : Nat) (f_many : Int32) (A_begins : Nat → Int32) (A_ends : Nat → Int32) (A_weights : Nat → Int32) (A_counts : Nat → Int32) (A_points : Nat → Int32) (A_isUsed : Nat → Int32) (κ : Int32 → Int32 → (Nat → Int32) → (Nat → Int32) → Option ((Nat → Int32) × (Nat → Int32))) : Nat → Int32 → Int32 → (Nat → Int32) → (Nat → Int32) → Option ((Nat → Int32) × (Nat → Int32))
  | 0, _, _, _, _ => none
  | n + 1, v1, v2, A_gains, A_ways => if f_many ≤ v2 then κ v1 v2 A_gains A_ways else xi v2 40 (if (A_counts v2.toNatClampNeg) = 0 then f_X5_find_L118 k f_many A_begins A_ends A_weights A_counts A_points A_isUsed κ n v1 (v2 + 1) A_gains A_ways else xi v2 40 (xb (f_X5_pointOf k (A_begins v2.toNatClampNeg) A_points) (fun r37 => xi v2 40 (xb (f_X5_pointOf k (A_ends v2.toNatClampNeg) A_points) (fun r40 => xi v2 40 (xj (fun (A_gains_45 : Nat → Int32) (A_ways_46 : Nat → Int32) => if v1 = 0 then f_X5_find_L118 k f_many A_begins A_ends A_weights A_counts A_points A_isUsed κ n 0 (v2 + 1) A_gains_45 A_ways_46 else f_X5_find_L118 k f_many A_begins A_ends A_weights A_counts A_points A_isUsed κ n 1 (v2 + 1) A_gains_45 A_ways_46) (fun (j213_44 : (Nat → Int32) → (Nat → Int32) → Option ((Nat → Int32) × (Nat → Int32))) => if (A_isUsed v2.toNatClampNeg) = 0 then xi v2 40 (xb (f_X5_steps k r37 r40 (A_weights v2.toNatClampNeg) (200 + v2) A_gains A_ways) (fun (r49, A_gains_50, A_ways_51) => if r49 = 0 then j213_44 A_gains_50 A_ways_51 else f_X5_find_L118 k f_many A_begins A_ends A_weights A_counts A_points A_isUsed κ n 1 (v2 + 1) A_gains_50 A_ways_51)) else xi v2 40 (xb (f_X5_steps k r40 r37 (-(A_weights v2.toNatClampNeg)) (300 + v2) A_gains A_ways) (fun (r55, A_gains_56, A_ways_57) => if r55 = 0 then j213_44 A_gains_56 A_ways_57 else f_X5_find_L118 k f_many A_begins A_ends A_weights A_counts A_points A_isUsed κ n 1 (v2 + 1) A_gains_56 A_ways_57)))))))))
theorem f_X5_find_L118_z (k : Nat) (f_many : Int32) (A_begins : Nat → Int32) (A_ends : Nat → Int32) (A_weights : Nat → Int32) (A_counts : Nat → Int32) (A_points : Nat → Int32) (A_isUsed : Nat → Int32) (κ : Int32 → Int32 → (Nat → Int32) → (Nat → Int32) → Option ((Nat → Int32) × (Nat → Int32))) (v1 : Int32) (v2 : Int32) (A_gains : Nat → Int32) (A_ways : Nat → Int32) : f_X5_find_L118 k f_many A_begins A_ends A_weights A_counts A_points A_isUsed κ 0 v1 v2 A_gains A_ways = none := rfl
theorem f_X5_find_L118_s (k : Nat) (f_many : Int32) (A_begins : Nat → Int32) (A_ends : Nat → Int32) (A_weights : Nat → Int32) (A_counts : Nat → Int32) (A_points : Nat → Int32) (A_isUsed : Nat → Int32) (κ : Int32 → Int32 → (Nat → Int32) → (Nat → Int32) → Option ((Nat → Int32) × (Nat → Int32))) (n : Nat) (v1 : Int32) (v2 : Int32) (A_gains : Nat → Int32) (A_ways : Nat → Int32) : f_X5_find_L118 k f_many A_begins A_ends A_weights A_counts A_points A_isUsed κ (n + 1) v1 v2 A_gains A_ways = if f_many ≤ v2 then κ v1 v2 A_gains A_ways else xi v2 40 (if (A_counts v2.toNatClampNeg) = 0 then f_X5_find_L118 k f_many A_begins A_ends A_weights A_counts A_points A_isUsed κ n v1 (v2 + 1) A_gains A_ways else xi v2 40 (xb (f_X5_pointOf k (A_begins v2.toNatClampNeg) A_points) (fun r37 => xi v2 40 (xb (f_X5_pointOf k (A_ends v2.toNatClampNeg) A_points) (fun r40 => xi v2 40 (xj (fun (A_gains_45 : Nat → Int32) (A_ways_46 : Nat → Int32) => if v1 = 0 then f_X5_find_L118 k f_many A_begins A_ends A_weights A_counts A_points A_isUsed κ n 0 (v2 + 1) A_gains_45 A_ways_46 else f_X5_find_L118 k f_many A_begins A_ends A_weights A_counts A_points A_isUsed κ n 1 (v2 + 1) A_gains_45 A_ways_46) (fun (j213_44 : (Nat → Int32) → (Nat → Int32) → Option ((Nat → Int32) × (Nat → Int32))) => if (A_isUsed v2.toNatClampNeg) = 0 then xi v2 40 (xb (f_X5_steps k r37 r40 (A_weights v2.toNatClampNeg) (200 + v2) A_gains A_ways) (fun (r49, A_gains_50, A_ways_51) => if r49 = 0 then j213_44 A_gains_50 A_ways_51 else f_X5_find_L118 k f_many A_begins A_ends A_weights A_counts A_points A_isUsed κ n 1 (v2 + 1) A_gains_50 A_ways_51)) else xi v2 40 (xb (f_X5_steps k r40 r37 (-(A_weights v2.toNatClampNeg)) (300 + v2) A_gains A_ways) (fun (r55, A_gains_56, A_ways_57) => if r55 = 0 then j213_44 A_gains_56 A_ways_57 else f_X5_find_L118 k f_many A_begins A_ends A_weights A_counts A_points A_isUsed κ n 1 (v2 + 1) A_gains_56 A_ways_57))))))))) := rfl
def f_X5_find_L34 (k : Nat) (f_many : Int32) (f_pointMany : Int32) (A_begins : Nat → Int32) (A_ends : Nat → Int32) (A_weights : Nat → Int32) (A_counts : Nat → Int32) (A_points : Nat → Int32) (A_flows : Nat → Int32) (A_isUsed : Nat → Int32) (κ : Int32 → (Nat → Int32) → (Nat → Int32) → Option ((Nat → Int32) × (Nat → Int32))) : Nat → Int32 → (Nat → Int32) → (Nat → Int32) → Option ((Nat → Int32) × (Nat → Int32))
  | 0, _, _, _ => none
  | n + 1, v1, A_gains, A_ways => if v1 = 0 then κ v1 A_gains A_ways else f_X5_find_L42 k f_pointMany A_flows (fun (v1_29 : Int32) (v2_30 : Int32) (A_gains_31 : Nat → Int32) (A_ways_32 : Nat → Int32) => f_X5_find_L118 k f_many A_begins A_ends A_weights A_counts A_points A_isUsed (fun (v1_60 : Int32) (v2_61 : Int32) (A_gains_62 : Nat → Int32) (A_ways_63 : Nat → Int32) => f_X5_find_L34 k f_many f_pointMany A_begins A_ends A_weights A_counts A_points A_flows A_isUsed κ n v1_60 A_gains_62 A_ways_63) k v1_29 0 A_gains_31 A_ways_32) k 0 0 A_gains A_ways
theorem f_X5_find_L34_z (k : Nat) (f_many : Int32) (f_pointMany : Int32) (A_begins : Nat → Int32) (A_ends : Nat → Int32) (A_weights : Nat → Int32) (A_counts : Nat → Int32) (A_points : Nat → Int32) (A_flows : Nat → Int32) (A_isUsed : Nat → Int32) (κ : Int32 → (Nat → Int32) → (Nat → Int32) → Option ((Nat → Int32) × (Nat → Int32))) (v1 : Int32) (A_gains : Nat → Int32) (A_ways : Nat → Int32) : f_X5_find_L34 k f_many f_pointMany A_begins A_ends A_weights A_counts A_points A_flows A_isUsed κ 0 v1 A_gains A_ways = none := rfl
theorem f_X5_find_L34_s (k : Nat) (f_many : Int32) (f_pointMany : Int32) (A_begins : Nat → Int32) (A_ends : Nat → Int32) (A_weights : Nat → Int32) (A_counts : Nat → Int32) (A_points : Nat → Int32) (A_flows : Nat → Int32) (A_isUsed : Nat → Int32) (κ : Int32 → (Nat → Int32) → (Nat → Int32) → Option ((Nat → Int32) × (Nat → Int32))) (n : Nat) (v1 : Int32) (A_gains : Nat → Int32) (A_ways : Nat → Int32) : f_X5_find_L34 k f_many f_pointMany A_begins A_ends A_weights A_counts A_points A_flows A_isUsed κ (n + 1) v1 A_gains A_ways = if v1 = 0 then κ v1 A_gains A_ways else f_X5_find_L42 k f_pointMany A_flows (fun (v1_29 : Int32) (v2_30 : Int32) (A_gains_31 : Nat → Int32) (A_ways_32 : Nat → Int32) => f_X5_find_L118 k f_many A_begins A_ends A_weights A_counts A_points A_isUsed (fun (v1_60 : Int32) (v2_61 : Int32) (A_gains_62 : Nat → Int32) (A_ways_63 : Nat → Int32) => f_X5_find_L34 k f_many f_pointMany A_begins A_ends A_weights A_counts A_points A_flows A_isUsed κ n v1_60 A_gains_62 A_ways_63) k v1_29 0 A_gains_31 A_ways_32) k 0 0 A_gains A_ways := rfl
def f_X5_find (k : Nat) (f_many : Int32) (f_pointMany : Int32) (A_begins : Nat → Int32) (A_ends : Nat → Int32) (A_weights : Nat → Int32) (A_counts : Nat → Int32) (A_points : Nat → Int32) (A_flows : Nat → Int32) (A_isUsed : Nat → Int32) (A_gains : Nat → Int32) (A_ways : Nat → Int32) : Option ((Nat → Int32) × (Nat → Int32)) := f_X5_find_L2 k f_pointMany (fun (v1_5 : Int32) (A_gains_6 : Nat → Int32) => f_X5_find_L34 k f_many f_pointMany A_begins A_ends A_weights A_counts A_points A_flows A_isUsed (fun (v1_64 : Int32) (A_gains_65 : Nat → Int32) (A_ways_66 : Nat → Int32) => some (A_gains_65, A_ways_66)) k 1 A_gains_6 A_ways) k 0 A_gains
abbrev rm_X5_find : Room := { frames := 1, cells := 0, slots := 0, locals := 24 }
set_option maxHeartbeats 4000000 in
set_option maxRecDepth 100000 in
theorem c_X5_find (l : Launch) (G : va_G) (cy : ClassId × ClassId × ClassId) (k : Nat) (aT aT_begins aT_ends aT_weights aT_isThere aT_rooms aT_isOffered aT_isAccepted aT_best aT_order aT_froms aT_tos aT_counts aT_points aT_flows aT_isUsed aT_gains aT_ways : Nat) (f_thrown : Int32) (f_many : Int32) (f_factor : Int32) (f_dropped : Int32) (f_pointMany : Int32) (A_begins : Nat → Int32) (A_ends : Nat → Int32) (A_weights : Nat → Int32) (A_counts : Nat → Int32) (A_points : Nat → Int32) (A_flows : Nat → Int32) (A_isUsed : Nat → Int32) (A_gains : Nat → Int32) (A_ways : Nat → Int32) {wA_gains : Nat → Int32} {wA_ways : Nat → Int32} (hf : f_X5_find k f_many f_pointMany A_begins A_ends A_weights A_counts A_points A_flows A_isUsed A_gains A_ways = some (wA_gains, wA_ways)) : Cv l yX5_find wsX5_find rm_X5_find 0 0 G cy [.ref aT] [(aT, .inr (5, [.int f_thrown, .int f_many, .ref aT_begins, .ref aT_ends, .ref aT_weights, .ref aT_isThere, .ref aT_rooms, .int f_factor, .ref aT_isOffered, .ref aT_isAccepted, .int f_dropped, .ref aT_best, .ref aT_order, .ref aT_froms, .ref aT_tos, .ref aT_counts, .ref aT_points, .ref aT_flows, .ref aT_isUsed, .ref aT_gains, .ref aT_ways, .int f_pointMany])), (aT_begins, .inl (cy.1, 40, .inl A_begins)), (aT_ends, .inl (cy.1, 40, .inl A_ends)), (aT_weights, .inl (cy.1, 40, .inl A_weights)), (aT_counts, .inl (cy.2.1, 40, .inl A_counts)), (aT_points, .inl (cy.1, 80, .inl A_points)), (aT_flows, .inl (cy.1, 80, .inl A_flows)), (aT_isUsed, .inl (cy.2.1, 40, .inl A_isUsed)), (aT_gains, .inl (cy.1, 80, .inl A_gains)), (aT_ways, .inl (cy.1, 80, .inl A_ways))] [(aT, .inr (5, [.int f_thrown, .int f_many, .ref aT_begins, .ref aT_ends, .ref aT_weights, .ref aT_isThere, .ref aT_rooms, .int f_factor, .ref aT_isOffered, .ref aT_isAccepted, .int f_dropped, .ref aT_best, .ref aT_order, .ref aT_froms, .ref aT_tos, .ref aT_counts, .ref aT_points, .ref aT_flows, .ref aT_isUsed, .ref aT_gains, .ref aT_ways, .int f_pointMany])), (aT_begins, .inl (cy.1, 40, .inl A_begins)), (aT_ends, .inl (cy.1, 40, .inl A_ends)), (aT_weights, .inl (cy.1, 40, .inl A_weights)), (aT_counts, .inl (cy.2.1, 40, .inl A_counts)), (aT_points, .inl (cy.1, 80, .inl A_points)), (aT_flows, .inl (cy.1, 80, .inl A_flows)), (aT_isUsed, .inl (cy.2.1, 40, .inl A_isUsed)), (aT_gains, .inl (cy.1, 80, .inl wA_gains)), (aT_ways, .inl (cy.1, 80, .inl wA_ways))] := by
  refine kMetV (cc := cX5_find) (maxL := 5) (by decide) rfl (Nat.le_of_ble_eq_true rfl) ?_
  intro p e s m args below meth c Q A ls hx hb hml hts hown hv hl kret
  replace hown : s.vm.findClass RX5 = some m.cls := hown
  replace hl : lv_has ls 5 [(0, .ref aT)] := hl
  have hk114 : (Cond.fieldLink RX5 114 "RoomcolourModel" "pointMany" "I").before args s = true := hts _ (by decide +kernel)
  have hinX5 : ∀ w ∈ wsX50, w ∈ wsX5_find := by decide +kernel
  have hk60 : (Cond.fieldLink RX5 60 "RoomcolourModel" "gains" "[I").before args s = true := hts _ (by decide +kernel)
  have hk117 : (Cond.constant RX5 117 (-100000000)).before args s = true := hts _ (by decide +kernel)
  have hk54 : (Cond.fieldLink RX5 54 "RoomcolourModel" "flows" "[I").before args s = true := hts _ (by decide +kernel)
  have hk69 : (Cond.fieldLink RX5 69 "RoomcolourModel" "many" "I").before args s = true := hts _ (by decide +kernel)
  have hk48 : (Cond.fieldLink RX5 48 "RoomcolourModel" "counts" "[Z").before args s = true := hts _ (by decide +kernel)
  have hk7 : (Cond.fieldLink RX5 7 "RoomcolourModel" "begins" "[I").before args s = true := hts _ (by decide +kernel)
  have hk13 : (Cond.fieldLink RX5 13 "RoomcolourModel" "ends" "[I").before args s = true := hts _ (by decide +kernel)
  have hk57 : (Cond.fieldLink RX5 57 "RoomcolourModel" "isUsed" "[Z").before args s = true := hts _ (by decide +kernel)
  have hk16 : (Cond.fieldLink RX5 16 "RoomcolourModel" "weights" "[I").before args s = true := hts _ (by decide +kernel)
  have L2 : ∀ (A_ways : Nat → Int32) (κ : Int32 → (Nat → Int32) → Option ((Nat → Int32) × (Nat → Int32))) (n : Nat) (v1 : Int32) (A_gains : Nat → Int32), f_X5_find_L2 k f_pointMany κ n v1 A_gains = some (wA_gains, wA_ways) → ∀ (H : Heap) (locs : List Loc) (ls : Array Slot), Hv s H locs G cy A [(aT, .inr (5, [.int f_thrown, .int f_many, .ref aT_begins, .ref aT_ends, .ref aT_weights, .ref aT_isThere, .ref aT_rooms, .int f_factor, .ref aT_isOffered, .ref aT_isAccepted, .int f_dropped, .ref aT_best, .ref aT_order, .ref aT_froms, .ref aT_tos, .ref aT_counts, .ref aT_points, .ref aT_flows, .ref aT_isUsed, .ref aT_gains, .ref aT_ways, .int f_pointMany])), (aT_begins, .inl (cy.1, 40, .inl A_begins)), (aT_ends, .inl (cy.1, 40, .inl A_ends)), (aT_weights, .inl (cy.1, 40, .inl A_weights)), (aT_counts, .inl (cy.2.1, 40, .inl A_counts)), (aT_points, .inl (cy.1, 80, .inl A_points)), (aT_flows, .inl (cy.1, 80, .inl A_flows)), (aT_isUsed, .inl (cy.2.1, 40, .inl A_isUsed)), (aT_gains, .inl (cy.1, 80, .inl A_gains)), (aT_ways, .inl (cy.1, 80, .inl A_ways))] → lv_has ls 5 [(0, .ref aT), (1, .int v1)] → (∀ (v1 : Int32) (A_gains : Nat → Int32), κ v1 A_gains = some (wA_gains, wA_ways) → ∀ (H : Heap) (locs : List Loc) (ls : Array Slot), Hv s H locs G cy A [(aT, .inr (5, [.int f_thrown, .int f_many, .ref aT_begins, .ref aT_ends, .ref aT_weights, .ref aT_isThere, .ref aT_rooms, .int f_factor, .ref aT_isOffered, .ref aT_isAccepted, .int f_dropped, .ref aT_best, .ref aT_order, .ref aT_froms, .ref aT_tos, .ref aT_counts, .ref aT_points, .ref aT_flows, .ref aT_isUsed, .ref aT_gains, .ref aT_ways, .int f_pointMany])), (aT_begins, .inl (cy.1, 40, .inl A_begins)), (aT_ends, .inl (cy.1, 40, .inl A_ends)), (aT_weights, .inl (cy.1, 40, .inl A_weights)), (aT_counts, .inl (cy.2.1, 40, .inl A_counts)), (aT_points, .inl (cy.1, 80, .inl A_points)), (aT_flows, .inl (cy.1, 80, .inl A_flows)), (aT_isUsed, .inl (cy.2.1, 40, .inl A_isUsed)), (aT_gains, .inl (cy.1, 80, .inl A_gains)), (aT_ways, .inl (cy.1, 80, .inl A_ways))] → lv_has ls 5 [(0, .ref aT)] → W p l e rm_X5_find s m args below meth c H locs 0 0 Q (F0 m 32 ls [])) → W p l e rm_X5_find s m args below meth c H locs 0 0 Q (F0 m 2 ls []) := by
    intro A_ways κ n
    induction n with
    | zero =>
      intro v1 A_gains hf
      rw [f_X5_find_L2_z] at hf
      cases hf
    | succ n ih =>
      intro v1 A_gains hf H locs ls hv hl hκ
      rw [f_X5_find_L2_s] at hf
      refine lv_iload_n hx hb dX5_find_2 rfl (lv_at hl 1 rfl) ?_
      refine lv_aload_n hx hb dX5_find_3 rfl (lv_at hl 0 rfl) ?_
      refine kGet (v := .int f_pointMany) (C := RX5) (T := TX5) (N := 22) hx hb hts hinX5 hown hv 0 rfl rfl 21 (by decide) hk114 (fun _ h9 => h9) rfl dX5_find_4 ?_
      refine lv_icmp_ge (tgt := 32) hx hb dX5_find_7 (by decide) (fun hc1 => ?_) (fun hc1 => ?_)
      · replace hf := ite_t hf hc1
        exact hκ v1 A_gains hf _ _ _ hv (lv_sub hl [0] rfl)
      · replace hf := ite_f hf hc1
        refine lv_aload_n hx hb dX5_find_10 rfl (lv_at hl 0 rfl) ?_
        refine kGet (v := .ref aT_gains) (C := RX5) (T := TX5) (N := 22) hx hb hts hinX5 hown hv 0 rfl rfl 19 (by decide) hk60 (fun _ h9 => h9) rfl dX5_find_11 ?_
        refine lv_iload_n hx hb dX5_find_14 rfl (lv_at hl 1 rfl) ?_
        refine lv_iload_n hx hb dX5_find_15 rfl (lv_at hl 1 rfl) ?_
        refine lv_if_ne (tgt := 23) hx hb dX5_find_16 (by decide) (fun hc2 => ?_) (fun hc2 => ?_)
        · replace hf := ite_f hf hc2
          refine lv_ldc hx hb hown hk117 dX5_find_23 ?_
          obtain ⟨hi3, hf⟩ := xi_some hf
          refine kIast hx hb hv 8 rfl hi3 dX5_find_25 (fun H locs hv => ?_)
          replace hv : Hv s H locs G cy A [(aT, .inr (5, [.int f_thrown, .int f_many, .ref aT_begins, .ref aT_ends, .ref aT_weights, .ref aT_isThere, .ref aT_rooms, .int f_factor, .ref aT_isOffered, .ref aT_isAccepted, .int f_dropped, .ref aT_best, .ref aT_order, .ref aT_froms, .ref aT_tos, .ref aT_counts, .ref aT_points, .ref aT_flows, .ref aT_isUsed, .ref aT_gains, .ref aT_ways, .int f_pointMany])), (aT_begins, .inl (cy.1, 40, .inl A_begins)), (aT_ends, .inl (cy.1, 40, .inl A_ends)), (aT_weights, .inl (cy.1, 40, .inl A_weights)), (aT_counts, .inl (cy.2.1, 40, .inl A_counts)), (aT_points, .inl (cy.1, 80, .inl A_points)), (aT_flows, .inl (cy.1, 80, .inl A_flows)), (aT_isUsed, .inl (cy.2.1, 40, .inl A_isUsed)), (aT_gains, .inl (cy.1, 80, .inl (upd A_gains v1.toNatClampNeg (-100000000)))), (aT_ways, .inl (cy.1, 80, .inl A_ways))] := hv
          refine lv_iinc (v := v1 + 1) (lv' := [(1, .int (v1 + 1)), (0, .ref aT)]) hx hb dX5_find_26 hl (k := 1) rfl rfl (by decide) rfl (fun ls hl => ?_)
          refine lv_goto (tgt := 2) hx hb dX5_find_29 (by decide) ?_
          exact ih (v1 + 1) (upd A_gains v1.toNatClampNeg (-100000000)) hf _ _ _ hv (lv_sub hl [1, 0] rfl) hκ
        · replace hf := ite_t hf hc2
          refine lv_iconst (v := 0) hx hb dX5_find_19 (by decide) ?_
          refine lv_goto (tgt := 25) hx hb dX5_find_20 (by decide) ?_
          obtain ⟨hi4, hf⟩ := xi_some hf
          refine kIast hx hb hv 8 rfl hi4 dX5_find_25 (fun H locs hv => ?_)
          replace hv : Hv s H locs G cy A [(aT, .inr (5, [.int f_thrown, .int f_many, .ref aT_begins, .ref aT_ends, .ref aT_weights, .ref aT_isThere, .ref aT_rooms, .int f_factor, .ref aT_isOffered, .ref aT_isAccepted, .int f_dropped, .ref aT_best, .ref aT_order, .ref aT_froms, .ref aT_tos, .ref aT_counts, .ref aT_points, .ref aT_flows, .ref aT_isUsed, .ref aT_gains, .ref aT_ways, .int f_pointMany])), (aT_begins, .inl (cy.1, 40, .inl A_begins)), (aT_ends, .inl (cy.1, 40, .inl A_ends)), (aT_weights, .inl (cy.1, 40, .inl A_weights)), (aT_counts, .inl (cy.2.1, 40, .inl A_counts)), (aT_points, .inl (cy.1, 80, .inl A_points)), (aT_flows, .inl (cy.1, 80, .inl A_flows)), (aT_isUsed, .inl (cy.2.1, 40, .inl A_isUsed)), (aT_gains, .inl (cy.1, 80, .inl (upd A_gains v1.toNatClampNeg 0))), (aT_ways, .inl (cy.1, 80, .inl A_ways))] := hv
          refine lv_iinc (v := v1 + 1) (lv' := [(1, .int (v1 + 1)), (0, .ref aT)]) hx hb dX5_find_26 hl (k := 1) rfl rfl (by decide) rfl (fun ls hl => ?_)
          refine lv_goto (tgt := 2) hx hb dX5_find_29 (by decide) ?_
          exact ih (v1 + 1) (upd A_gains v1.toNatClampNeg 0) hf _ _ _ hv (lv_sub hl [1, 0] rfl) hκ
  have L42 : ∀ (κ : Int32 → Int32 → (Nat → Int32) → (Nat → Int32) → Option ((Nat → Int32) × (Nat → Int32))) (n : Nat) (v1 : Int32) (v2 : Int32) (A_gains : Nat → Int32) (A_ways : Nat → Int32), f_X5_find_L42 k f_pointMany A_flows κ n v1 v2 A_gains A_ways = some (wA_gains, wA_ways) → ∀ (H : Heap) (locs : List Loc) (ls : Array Slot), Hv s H locs G cy A [(aT, .inr (5, [.int f_thrown, .int f_many, .ref aT_begins, .ref aT_ends, .ref aT_weights, .ref aT_isThere, .ref aT_rooms, .int f_factor, .ref aT_isOffered, .ref aT_isAccepted, .int f_dropped, .ref aT_best, .ref aT_order, .ref aT_froms, .ref aT_tos, .ref aT_counts, .ref aT_points, .ref aT_flows, .ref aT_isUsed, .ref aT_gains, .ref aT_ways, .int f_pointMany])), (aT_begins, .inl (cy.1, 40, .inl A_begins)), (aT_ends, .inl (cy.1, 40, .inl A_ends)), (aT_weights, .inl (cy.1, 40, .inl A_weights)), (aT_counts, .inl (cy.2.1, 40, .inl A_counts)), (aT_points, .inl (cy.1, 80, .inl A_points)), (aT_flows, .inl (cy.1, 80, .inl A_flows)), (aT_isUsed, .inl (cy.2.1, 40, .inl A_isUsed)), (aT_gains, .inl (cy.1, 80, .inl A_gains)), (aT_ways, .inl (cy.1, 80, .inl A_ways))] → lv_has ls 5 [(0, .ref aT), (1, .int v1), (2, .int v2)] → (∀ (v1 : Int32) (v2 : Int32) (A_gains : Nat → Int32) (A_ways : Nat → Int32), κ v1 v2 A_gains A_ways = some (wA_gains, wA_ways) → ∀ (H : Heap) (locs : List Loc) (ls : Array Slot), Hv s H locs G cy A [(aT, .inr (5, [.int f_thrown, .int f_many, .ref aT_begins, .ref aT_ends, .ref aT_weights, .ref aT_isThere, .ref aT_rooms, .int f_factor, .ref aT_isOffered, .ref aT_isAccepted, .int f_dropped, .ref aT_best, .ref aT_order, .ref aT_froms, .ref aT_tos, .ref aT_counts, .ref aT_points, .ref aT_flows, .ref aT_isUsed, .ref aT_gains, .ref aT_ways, .int f_pointMany])), (aT_begins, .inl (cy.1, 40, .inl A_begins)), (aT_ends, .inl (cy.1, 40, .inl A_ends)), (aT_weights, .inl (cy.1, 40, .inl A_weights)), (aT_counts, .inl (cy.2.1, 40, .inl A_counts)), (aT_points, .inl (cy.1, 80, .inl A_points)), (aT_flows, .inl (cy.1, 80, .inl A_flows)), (aT_isUsed, .inl (cy.2.1, 40, .inl A_isUsed)), (aT_gains, .inl (cy.1, 80, .inl A_gains)), (aT_ways, .inl (cy.1, 80, .inl A_ways))] → lv_has ls 5 [(0, .ref aT), (1, .int v1)] → W p l e rm_X5_find s m args below meth c H locs 0 0 Q (F0 m 116 ls [])) → W p l e rm_X5_find s m args below meth c H locs 0 0 Q (F0 m 42 ls []) := by
    intro κ n
    induction n with
    | zero =>
      intro v1 v2 A_gains A_ways hf
      rw [f_X5_find_L42_z] at hf
      cases hf
    | succ n ih =>
      intro v1 v2 A_gains A_ways hf H locs ls hv hl hκ
      rw [f_X5_find_L42_s] at hf
      refine lv_iload_n hx hb dX5_find_42 rfl (lv_at hl 2 rfl) ?_
      refine lv_iconst (v := 1) hx hb dX5_find_43 (by decide) ?_
      refine lv_iadd hx hb dX5_find_44 ?_
      refine lv_aload_n hx hb dX5_find_45 rfl (lv_at hl 0 rfl) ?_
      refine kGet (v := .int f_pointMany) (C := RX5) (T := TX5) (N := 22) hx hb hts hinX5 hown hv 0 rfl rfl 21 (by decide) hk114 (fun _ h9 => h9) rfl dX5_find_46 ?_
      refine lv_icmp_ge (tgt := 116) hx hb dX5_find_49 (by decide) (fun hc8 => ?_) (fun hc8 => ?_)
      · replace hf := ite_t hf hc8
        exact hκ v1 v2 A_gains A_ways hf _ _ _ hv (lv_sub hl [0, 1] rfl)
      · replace hf := ite_f hf hc8
        refine lv_aload_n hx hb dX5_find_52 rfl (lv_at hl 0 rfl) ?_
        refine lv_iload_n hx hb dX5_find_53 rfl (lv_at hl 2 rfl) ?_
        refine lv_iload_n hx hb dX5_find_54 rfl (lv_at hl 2 rfl) ?_
        refine lv_iconst (v := 1) hx hb dX5_find_55 (by decide) ?_
        refine lv_iadd hx hb dX5_find_56 ?_
        refine lv_iconst (v := 0) hx hb dX5_find_57 (by decide) ?_
        refine lv_iload_n hx hb dX5_find_58 rfl (lv_at hl 2 rfl) ?_
        obtain ⟨⟨r9, A_gains_10, A_ways_11⟩, hcl12, hf⟩ := xb_some hf
        dsimp only at hf
        refine kV_i (r := r9) (wr := [(aT_begins, .inl (cy.1, 40, .inl A_begins)), (aT_ends, .inl (cy.1, 40, .inl A_ends)), (aT_weights, .inl (cy.1, 40, .inl A_weights)), (aT_counts, .inl (cy.2.1, 40, .inl A_counts)), (aT_points, .inl (cy.1, 80, .inl A_points)), (aT_flows, .inl (cy.1, 80, .inl A_flows)), (aT_isUsed, .inl (cy.2.1, 40, .inl A_isUsed))]) (w2 := [(aT, .inr (5, [.int f_thrown, .int f_many, .ref aT_begins, .ref aT_ends, .ref aT_weights, .ref aT_isThere, .ref aT_rooms, .int f_factor, .ref aT_isOffered, .ref aT_isAccepted, .int f_dropped, .ref aT_best, .ref aT_order, .ref aT_froms, .ref aT_tos, .ref aT_counts, .ref aT_points, .ref aT_flows, .ref aT_isUsed, .ref aT_gains, .ref aT_ways, .int f_pointMany])), (aT_begins, .inl (cy.1, 40, .inl A_begins)), (aT_ends, .inl (cy.1, 40, .inl A_ends)), (aT_weights, .inl (cy.1, 40, .inl A_weights)), (aT_counts, .inl (cy.2.1, 40, .inl A_counts)), (aT_points, .inl (cy.1, 80, .inl A_points)), (aT_flows, .inl (cy.1, 80, .inl A_flows)), (aT_isUsed, .inl (cy.2.1, 40, .inl A_isUsed)), (aT_gains, .inl (cy.1, 80, .inl A_gains_10)), (aT_ways, .inl (cy.1, 80, .inl A_ways_11))]) ⟨hx, hb, hml, hown, hts⟩ (c_X5_steps l G cy k aT aT_begins aT_ends aT_weights aT_isThere aT_rooms aT_isOffered aT_isAccepted aT_best aT_order aT_froms aT_tos aT_counts aT_points aT_flows aT_isUsed aT_gains aT_ways f_thrown f_many f_factor f_dropped f_pointMany A_gains A_ways v2 (v2 + 1) 0 v2 hcl12) (cwV 4 hts gX5_find_X5_steps rfl rfl rfl (by decide +kernel) ⟨Nat.le_of_ble_eq_true rfl, Nat.le_of_ble_eq_true rfl⟩) hv (isC := [0, 8, 9]) ⟨rfl, rfl⟩ (hv.recv 5 0 rfl rfl) [1, 2, 3, 4, 5, 6, 7] [7, 0, 1, 2, 3, 4, 5, 6, 8, 9] rfl rfl (by decide) rfl rfl rfl hl.1 rfl (Nat.le_of_ble_eq_true rfl) dX5_find_59 ⟨Nat.le_of_ble_eq_true rfl, Nat.le_of_ble_eq_true rfl⟩ (fun H locs hv => ?_)
        refine xj_elim hf (fun j74_14 ej74_14 hf => ?_)
        have J74_14 : ∀ (x15 : Int32), j74_14 x15 = some (wA_gains, wA_ways) → ∀ (H : Heap) (locs : List Loc) (ls : Array Slot), Hv s H locs G cy A [(aT, .inr (5, [.int f_thrown, .int f_many, .ref aT_begins, .ref aT_ends, .ref aT_weights, .ref aT_isThere, .ref aT_rooms, .int f_factor, .ref aT_isOffered, .ref aT_isAccepted, .int f_dropped, .ref aT_best, .ref aT_order, .ref aT_froms, .ref aT_tos, .ref aT_counts, .ref aT_points, .ref aT_flows, .ref aT_isUsed, .ref aT_gains, .ref aT_ways, .int f_pointMany])), (aT_begins, .inl (cy.1, 40, .inl A_begins)), (aT_ends, .inl (cy.1, 40, .inl A_ends)), (aT_weights, .inl (cy.1, 40, .inl A_weights)), (aT_counts, .inl (cy.2.1, 40, .inl A_counts)), (aT_points, .inl (cy.1, 80, .inl A_points)), (aT_flows, .inl (cy.1, 80, .inl A_flows)), (aT_isUsed, .inl (cy.2.1, 40, .inl A_isUsed)), (aT_gains, .inl (cy.1, 80, .inl A_gains_10)), (aT_ways, .inl (cy.1, 80, .inl A_ways_11))] → lv_has ls 5 [(0, .ref aT), (2, .int v2)] → W p l e rm_X5_find s m args below meth c H locs 0 0 Q (F0 m 74 ls [.int x15]) := by
          intro x15 hf H locs ls hv hl
          rw [ej74_14] at hf
          try dsimp only at hf
          refine lv_istore_n (lv' := [(1, .int x15), (0, .ref aT), (2, .int v2)]) hx hb dX5_find_74 rfl hl (by decide) rfl (fun ls hl => ?_)
          refine lv_aload_n hx hb dX5_find_75 rfl (lv_at hl 1 rfl) ?_
          refine kGet (v := .ref aT_flows) (C := RX5) (T := TX5) (N := 22) hx hb hts hinX5 hown hv 0 rfl rfl 17 (by decide) hk54 (fun _ h9 => h9) rfl dX5_find_76 ?_
          refine lv_iload_n hx hb dX5_find_79 rfl (lv_at hl 2 rfl) ?_
          obtain ⟨hi16, hf⟩ := xi_some hf
          refine kIald hx hb hv 6 rfl hi16 dX5_find_80 ?_
          refine xj_elim hf (fun j100_18 ej100_18 hf => ?_)
          have J100_18 : ∀ (A_gains_19 : Nat → Int32) (A_ways_20 : Nat → Int32), j100_18 A_gains_19 A_ways_20 = some (wA_gains, wA_ways) → ∀ (H : Heap) (locs : List Loc) (ls : Array Slot), Hv s H locs G cy A [(aT, .inr (5, [.int f_thrown, .int f_many, .ref aT_begins, .ref aT_ends, .ref aT_weights, .ref aT_isThere, .ref aT_rooms, .int f_factor, .ref aT_isOffered, .ref aT_isAccepted, .int f_dropped, .ref aT_best, .ref aT_order, .ref aT_froms, .ref aT_tos, .ref aT_counts, .ref aT_points, .ref aT_flows, .ref aT_isUsed, .ref aT_gains, .ref aT_ways, .int f_pointMany])), (aT_begins, .inl (cy.1, 40, .inl A_begins)), (aT_ends, .inl (cy.1, 40, .inl A_ends)), (aT_weights, .inl (cy.1, 40, .inl A_weights)), (aT_counts, .inl (cy.2.1, 40, .inl A_counts)), (aT_points, .inl (cy.1, 80, .inl A_points)), (aT_flows, .inl (cy.1, 80, .inl A_flows)), (aT_isUsed, .inl (cy.2.1, 40, .inl A_isUsed)), (aT_gains, .inl (cy.1, 80, .inl A_gains_19)), (aT_ways, .inl (cy.1, 80, .inl A_ways_20))] → lv_has ls 5 [(0, .ref aT), (1, .int x15), (2, .int v2)] → W p l e rm_X5_find s m args below meth c H locs 0 0 Q (F0 m 100 ls []) := by
            intro A_gains_19 A_ways_20 hf H locs ls hv hl
            rw [ej100_18] at hf
            try dsimp only at hf
            refine lv_iload_n hx hb dX5_find_100 rfl (lv_at hl 1 rfl) ?_
            refine lv_if_eq (tgt := 108) hx hb dX5_find_101 (by decide) (fun hc21 => ?_) (fun hc21 => ?_)
            · replace hf := ite_t hf hc21
              refine lv_iconst (v := 0) hx hb dX5_find_108 (by decide) ?_
              refine lv_istore_n (lv' := [(1, .int 0), (0, .ref aT), (2, .int v2)]) hx hb dX5_find_109 rfl hl (by decide) rfl (fun ls hl => ?_)
              refine lv_iinc (v := v2 + 1) (lv' := [(2, .int (v2 + 1)), (1, .int 0), (0, .ref aT)]) hx hb dX5_find_110 hl (k := 2) rfl rfl (by decide) rfl (fun ls hl => ?_)
              refine lv_goto (tgt := 42) hx hb dX5_find_113 (by decide) ?_
              exact ih 0 (v2 + 1) A_gains_19 A_ways_20 hf _ _ _ hv (lv_sub hl [2, 1, 0] rfl) hκ
            · replace hf := ite_f hf hc21
              refine lv_iconst (v := 1) hx hb dX5_find_104 (by decide) ?_
              refine lv_goto (tgt := 109) hx hb dX5_find_105 (by decide) ?_
              refine lv_istore_n (lv' := [(1, .int 1), (0, .ref aT), (2, .int v2)]) hx hb dX5_find_109 rfl hl (by decide) rfl (fun ls hl => ?_)
              refine lv_iinc (v := v2 + 1) (lv' := [(2, .int (v2 + 1)), (1, .int 1), (0, .ref aT)]) hx hb dX5_find_110 hl (k := 2) rfl rfl (by decide) rfl (fun ls hl => ?_)
              refine lv_goto (tgt := 42) hx hb dX5_find_113 (by decide) ?_
              exact ih 1 (v2 + 1) A_gains_19 A_ways_20 hf _ _ _ hv (lv_sub hl [2, 1, 0] rfl) hκ
          refine lv_if_le (tgt := 100) hx hb dX5_find_81 (by decide) (fun hc17 => ?_) (fun hc17 => ?_)
          · replace hf := ite_t hf hc17
            exact J100_18 A_gains_10 A_ways_11 hf _ _ _ hv (lv_sub hl [1, 0, 2] rfl)
          · replace hf := ite_f hf hc17
            refine lv_aload_n hx hb dX5_find_84 rfl (lv_at hl 1 rfl) ?_
            refine lv_iload_n hx hb dX5_find_85 rfl (lv_at hl 2 rfl) ?_
            refine lv_iconst (v := 1) hx hb dX5_find_86 (by decide) ?_
            refine lv_iadd hx hb dX5_find_87 ?_
            refine lv_iload_n hx hb dX5_find_88 rfl (lv_at hl 2 rfl) ?_
            refine lv_iconst (v := 0) hx hb dX5_find_89 (by decide) ?_
            refine lv_bipush (v := 100) hx hb dX5_find_90 (by decide) ?_
            refine lv_iload_n hx hb dX5_find_92 rfl (lv_at hl 2 rfl) ?_
            refine lv_iadd hx hb dX5_find_93 ?_
            obtain ⟨⟨r22, A_gains_23, A_ways_24⟩, hcl25, hf⟩ := xb_some hf
            dsimp only at hf
            refine kV_i (r := r22) (wr := [(aT_begins, .inl (cy.1, 40, .inl A_begins)), (aT_ends, .inl (cy.1, 40, .inl A_ends)), (aT_weights, .inl (cy.1, 40, .inl A_weights)), (aT_counts, .inl (cy.2.1, 40, .inl A_counts)), (aT_points, .inl (cy.1, 80, .inl A_points)), (aT_flows, .inl (cy.1, 80, .inl A_flows)), (aT_isUsed, .inl (cy.2.1, 40, .inl A_isUsed))]) (w2 := [(aT, .inr (5, [.int f_thrown, .int f_many, .ref aT_begins, .ref aT_ends, .ref aT_weights, .ref aT_isThere, .ref aT_rooms, .int f_factor, .ref aT_isOffered, .ref aT_isAccepted, .int f_dropped, .ref aT_best, .ref aT_order, .ref aT_froms, .ref aT_tos, .ref aT_counts, .ref aT_points, .ref aT_flows, .ref aT_isUsed, .ref aT_gains, .ref aT_ways, .int f_pointMany])), (aT_begins, .inl (cy.1, 40, .inl A_begins)), (aT_ends, .inl (cy.1, 40, .inl A_ends)), (aT_weights, .inl (cy.1, 40, .inl A_weights)), (aT_counts, .inl (cy.2.1, 40, .inl A_counts)), (aT_points, .inl (cy.1, 80, .inl A_points)), (aT_flows, .inl (cy.1, 80, .inl A_flows)), (aT_isUsed, .inl (cy.2.1, 40, .inl A_isUsed)), (aT_gains, .inl (cy.1, 80, .inl A_gains_23)), (aT_ways, .inl (cy.1, 80, .inl A_ways_24))]) ⟨hx, hb, hml, hown, hts⟩ (c_X5_steps l G cy k aT aT_begins aT_ends aT_weights aT_isThere aT_rooms aT_isOffered aT_isAccepted aT_best aT_order aT_froms aT_tos aT_counts aT_points aT_flows aT_isUsed aT_gains aT_ways f_thrown f_many f_factor f_dropped f_pointMany A_gains_10 A_ways_11 (v2 + 1) v2 0 (100 + v2) hcl25) (cwV 4 hts gX5_find_X5_steps rfl rfl rfl (by decide +kernel) ⟨Nat.le_of_ble_eq_true rfl, Nat.le_of_ble_eq_true rfl⟩) hv (isC := [0, 8, 9]) ⟨rfl, rfl⟩ (hv.recv 5 0 rfl rfl) [1, 2, 3, 4, 5, 6, 7] [7, 0, 1, 2, 3, 4, 5, 6, 8, 9] rfl rfl (by decide) rfl rfl rfl hl.1 rfl (Nat.le_of_ble_eq_true rfl) dX5_find_94 ⟨Nat.le_of_ble_eq_true rfl, Nat.le_of_ble_eq_true rfl⟩ (fun H locs hv => ?_)
            refine lv_if_ne (tgt := 104) hx hb dX5_find_97 (by decide) (fun hc26 => ?_) (fun hc26 => ?_)
            · replace hf := ite_f hf hc26
              refine lv_iconst (v := 1) hx hb dX5_find_104 (by decide) ?_
              refine lv_goto (tgt := 109) hx hb dX5_find_105 (by decide) ?_
              refine lv_istore_n (lv' := [(1, .int 1), (0, .ref aT), (2, .int v2)]) hx hb dX5_find_109 rfl hl (by decide) rfl (fun ls hl => ?_)
              refine lv_iinc (v := v2 + 1) (lv' := [(2, .int (v2 + 1)), (1, .int 1), (0, .ref aT)]) hx hb dX5_find_110 hl (k := 2) rfl rfl (by decide) rfl (fun ls hl => ?_)
              refine lv_goto (tgt := 42) hx hb dX5_find_113 (by decide) ?_
              exact ih 1 (v2 + 1) A_gains_23 A_ways_24 hf _ _ _ hv (lv_sub hl [2, 1, 0] rfl) hκ
            · replace hf := ite_t hf hc26
              exact J100_18 A_gains_23 A_ways_24 hf _ _ _ hv (lv_sub hl [1, 0, 2] rfl)
        refine xj_elim hf (fun j69_27 ej69_27 hf => ?_)
        have J69_27 : ∀ (u : Unit), j69_27 u = some (wA_gains, wA_ways) → ∀ (H : Heap) (locs : List Loc) (ls : Array Slot), Hv s H locs G cy A [(aT, .inr (5, [.int f_thrown, .int f_many, .ref aT_begins, .ref aT_ends, .ref aT_weights, .ref aT_isThere, .ref aT_rooms, .int f_factor, .ref aT_isOffered, .ref aT_isAccepted, .int f_dropped, .ref aT_best, .ref aT_order, .ref aT_froms, .ref aT_tos, .ref aT_counts, .ref aT_points, .ref aT_flows, .ref aT_isUsed, .ref aT_gains, .ref aT_ways, .int f_pointMany])), (aT_begins, .inl (cy.1, 40, .inl A_begins)), (aT_ends, .inl (cy.1, 40, .inl A_ends)), (aT_weights, .inl (cy.1, 40, .inl A_weights)), (aT_counts, .inl (cy.2.1, 40, .inl A_counts)), (aT_points, .inl (cy.1, 80, .inl A_points)), (aT_flows, .inl (cy.1, 80, .inl A_flows)), (aT_isUsed, .inl (cy.2.1, 40, .inl A_isUsed)), (aT_gains, .inl (cy.1, 80, .inl A_gains_10)), (aT_ways, .inl (cy.1, 80, .inl A_ways_11))] → lv_has ls 5 [(0, .ref aT), (2, .int v2)] → W p l e rm_X5_find s m args below meth c H locs 0 0 Q (F0 m 69 ls []) := by
          intro u hf H locs ls hv hl
          rw [ej69_27] at hf
          try dsimp only at hf
          refine lv_iconst (v := 1) hx hb dX5_find_69 (by decide) ?_
          refine lv_goto (tgt := 74) hx hb dX5_find_70 (by decide) ?_
          exact J74_14 1 hf _ _ _ hv (lv_sub hl [0, 1] rfl)
        refine lv_if_ne (tgt := 69) hx hb dX5_find_62 (by decide) (fun hc13 => ?_) (fun hc13 => ?_)
        · replace hf := ite_f hf hc13
          exact J69_27 () hf _ _ _ hv (lv_sub hl [0, 2] rfl)
        · replace hf := ite_t hf hc13
          refine lv_iload_n hx hb dX5_find_65 rfl (lv_at hl 1 rfl) ?_
          refine lv_if_eq (tgt := 73) hx hb dX5_find_66 (by decide) (fun hc28 => ?_) (fun hc28 => ?_)
          · replace hf := ite_t hf hc28
            refine lv_iconst (v := 0) hx hb dX5_find_73 (by decide) ?_
            exact J74_14 0 hf _ _ _ hv (lv_sub hl [0, 2] rfl)
          · replace hf := ite_f hf hc28
            exact J69_27 () hf _ _ _ hv (lv_sub hl [0, 2] rfl)
  have L118 : ∀ (κ : Int32 → Int32 → (Nat → Int32) → (Nat → Int32) → Option ((Nat → Int32) × (Nat → Int32))) (n : Nat) (v1 : Int32) (v2 : Int32) (A_gains : Nat → Int32) (A_ways : Nat → Int32), f_X5_find_L118 k f_many A_begins A_ends A_weights A_counts A_points A_isUsed κ n v1 v2 A_gains A_ways = some (wA_gains, wA_ways) → ∀ (H : Heap) (locs : List Loc) (ls : Array Slot), Hv s H locs G cy A [(aT, .inr (5, [.int f_thrown, .int f_many, .ref aT_begins, .ref aT_ends, .ref aT_weights, .ref aT_isThere, .ref aT_rooms, .int f_factor, .ref aT_isOffered, .ref aT_isAccepted, .int f_dropped, .ref aT_best, .ref aT_order, .ref aT_froms, .ref aT_tos, .ref aT_counts, .ref aT_points, .ref aT_flows, .ref aT_isUsed, .ref aT_gains, .ref aT_ways, .int f_pointMany])), (aT_begins, .inl (cy.1, 40, .inl A_begins)), (aT_ends, .inl (cy.1, 40, .inl A_ends)), (aT_weights, .inl (cy.1, 40, .inl A_weights)), (aT_counts, .inl (cy.2.1, 40, .inl A_counts)), (aT_points, .inl (cy.1, 80, .inl A_points)), (aT_flows, .inl (cy.1, 80, .inl A_flows)), (aT_isUsed, .inl (cy.2.1, 40, .inl A_isUsed)), (aT_gains, .inl (cy.1, 80, .inl A_gains)), (aT_ways, .inl (cy.1, 80, .inl A_ways))] → lv_has ls 5 [(0, .ref aT), (1, .int v1), (2, .int v2)] → (∀ (v1 : Int32) (v2 : Int32) (A_gains : Nat → Int32) (A_ways : Nat → Int32), κ v1 v2 A_gains A_ways = some (wA_gains, wA_ways) → ∀ (H : Heap) (locs : List Loc) (ls : Array Slot), Hv s H locs G cy A [(aT, .inr (5, [.int f_thrown, .int f_many, .ref aT_begins, .ref aT_ends, .ref aT_weights, .ref aT_isThere, .ref aT_rooms, .int f_factor, .ref aT_isOffered, .ref aT_isAccepted, .int f_dropped, .ref aT_best, .ref aT_order, .ref aT_froms, .ref aT_tos, .ref aT_counts, .ref aT_points, .ref aT_flows, .ref aT_isUsed, .ref aT_gains, .ref aT_ways, .int f_pointMany])), (aT_begins, .inl (cy.1, 40, .inl A_begins)), (aT_ends, .inl (cy.1, 40, .inl A_ends)), (aT_weights, .inl (cy.1, 40, .inl A_weights)), (aT_counts, .inl (cy.2.1, 40, .inl A_counts)), (aT_points, .inl (cy.1, 80, .inl A_points)), (aT_flows, .inl (cy.1, 80, .inl A_flows)), (aT_isUsed, .inl (cy.2.1, 40, .inl A_isUsed)), (aT_gains, .inl (cy.1, 80, .inl A_gains)), (aT_ways, .inl (cy.1, 80, .inl A_ways))] → lv_has ls 5 [(0, .ref aT), (1, .int v1)] → W p l e rm_X5_find s m args below meth c H locs 0 0 Q (F0 m 229 ls [])) → W p l e rm_X5_find s m args below meth c H locs 0 0 Q (F0 m 118 ls []) := by
    intro κ n
    induction n with
    | zero =>
      intro v1 v2 A_gains A_ways hf
      rw [f_X5_find_L118_z] at hf
      cases hf
    | succ n ih =>
      intro v1 v2 A_gains A_ways hf H locs ls hv hl hκ
      rw [f_X5_find_L118_s] at hf
      refine lv_iload_n hx hb dX5_find_118 rfl (lv_at hl 2 rfl) ?_
      refine lv_aload_n hx hb dX5_find_119 rfl (lv_at hl 0 rfl) ?_
      refine kGet (v := .int f_many) (C := RX5) (T := TX5) (N := 22) hx hb hts hinX5 hown hv 0 rfl rfl 1 (by decide) hk69 (fun _ h9 => h9) rfl dX5_find_120 ?_
      refine lv_icmp_ge (tgt := 229) hx hb dX5_find_123 (by decide) (fun hc33 => ?_) (fun hc33 => ?_)
      · replace hf := ite_t hf hc33
        exact hκ v1 v2 A_gains A_ways hf _ _ _ hv (lv_sub hl [0, 1] rfl)
      · replace hf := ite_f hf hc33
        refine lv_aload_n hx hb dX5_find_126 rfl (lv_at hl 0 rfl) ?_
        refine kGet (v := .ref aT_counts) (C := RX5) (T := TX5) (N := 22) hx hb hts hinX5 hown hv 0 rfl rfl 15 (by decide) hk48 (fun _ h9 => h9) rfl dX5_find_127 ?_
        refine lv_iload_n hx hb dX5_find_130 rfl (lv_at hl 2 rfl) ?_
        obtain ⟨hi34, hf⟩ := xi_some hf
        refine kZald hx hb hv 4 rfl hi34 dX5_find_131 ?_
        refine lv_if_eq (tgt := 223) hx hb dX5_find_132 (by decide) (fun hc35 => ?_) (fun hc35 => ?_)
        · replace hf := ite_t hf hc35
          refine lv_iinc (v := v2 + 1) (lv' := [(2, .int (v2 + 1)), (0, .ref aT), (1, .int v1)]) hx hb dX5_find_223 hl (k := 2) rfl rfl (by decide) rfl (fun ls hl => ?_)
          refine lv_goto (tgt := 118) hx hb dX5_find_226 (by decide) ?_
          exact ih v1 (v2 + 1) A_gains A_ways hf _ _ _ hv (lv_sub hl [1, 2, 0] rfl) hκ
        · replace hf := ite_f hf hc35
          refine lv_aload_n hx hb dX5_find_135 rfl (lv_at hl 0 rfl) ?_
          refine lv_aload_n hx hb dX5_find_136 rfl (lv_at hl 0 rfl) ?_
          refine kGet (v := .ref aT_begins) (C := RX5) (T := TX5) (N := 22) hx hb hts hinX5 hown hv 0 rfl rfl 2 (by decide) hk7 (fun _ h9 => h9) rfl dX5_find_137 ?_
          refine lv_iload_n hx hb dX5_find_140 rfl (lv_at hl 2 rfl) ?_
          obtain ⟨hi36, hf⟩ := xi_some hf
          refine kIald hx hb hv 1 rfl hi36 dX5_find_141 ?_
          obtain ⟨r37, hcl38, hf⟩ := xb_some hf
          refine kV_i (r := r37) (wr := [(aT_begins, .inl (cy.1, 40, .inl A_begins)), (aT_ends, .inl (cy.1, 40, .inl A_ends)), (aT_weights, .inl (cy.1, 40, .inl A_weights)), (aT_counts, .inl (cy.2.1, 40, .inl A_counts)), (aT_flows, .inl (cy.1, 80, .inl A_flows)), (aT_isUsed, .inl (cy.2.1, 40, .inl A_isUsed)), (aT_gains, .inl (cy.1, 80, .inl A_gains)), (aT_ways, .inl (cy.1, 80, .inl A_ways))]) (w2 := [(aT, .inr (5, [.int f_thrown, .int f_many, .ref aT_begins, .ref aT_ends, .ref aT_weights, .ref aT_isThere, .ref aT_rooms, .int f_factor, .ref aT_isOffered, .ref aT_isAccepted, .int f_dropped, .ref aT_best, .ref aT_order, .ref aT_froms, .ref aT_tos, .ref aT_counts, .ref aT_points, .ref aT_flows, .ref aT_isUsed, .ref aT_gains, .ref aT_ways, .int f_pointMany])), (aT_begins, .inl (cy.1, 40, .inl A_begins)), (aT_ends, .inl (cy.1, 40, .inl A_ends)), (aT_weights, .inl (cy.1, 40, .inl A_weights)), (aT_counts, .inl (cy.2.1, 40, .inl A_counts)), (aT_points, .inl (cy.1, 80, .inl A_points)), (aT_flows, .inl (cy.1, 80, .inl A_flows)), (aT_isUsed, .inl (cy.2.1, 40, .inl A_isUsed)), (aT_gains, .inl (cy.1, 80, .inl A_gains)), (aT_ways, .inl (cy.1, 80, .inl A_ways))]) ⟨hx, hb, hml, hown, hts⟩ (c_X5_pointOf l G cy k aT aT_begins aT_ends aT_weights aT_isThere aT_rooms aT_isOffered aT_isAccepted aT_best aT_order aT_froms aT_tos aT_counts aT_points aT_flows aT_isUsed aT_gains aT_ways f_thrown f_many f_factor f_dropped f_pointMany A_points (A_begins v2.toNatClampNeg) hcl38) (cwV 1 hts gX5_find_X5_pointOf rfl rfl rfl (by decide +kernel) ⟨Nat.le_of_ble_eq_true rfl, Nat.le_of_ble_eq_true rfl⟩) hv (isC := [0, 5]) ⟨rfl, rfl⟩ (hv.recv 5 0 rfl rfl) [1, 2, 3, 4, 6, 7, 8, 9] [8, 0, 1, 2, 3, 9, 4, 5, 6, 7] rfl rfl (by decide) rfl rfl rfl hl.1 rfl (Nat.le_of_ble_eq_true rfl) dX5_find_142 ⟨Nat.le_of_ble_eq_true rfl, Nat.le_of_ble_eq_true rfl⟩ (fun H locs hv => ?_)
          refine lv_istore_n (lv' := [(3, .int r37), (0, .ref aT), (1, .int v1), (2, .int v2)]) hx hb dX5_find_145 rfl hl (by decide) rfl (fun ls hl => ?_)
          refine lv_aload_n hx hb dX5_find_146 rfl (lv_at hl 1 rfl) ?_
          refine lv_aload_n hx hb dX5_find_147 rfl (lv_at hl 1 rfl) ?_
          refine kGet (v := .ref aT_ends) (C := RX5) (T := TX5) (N := 22) hx hb hts hinX5 hown hv 0 rfl rfl 3 (by decide) hk13 (fun _ h9 => h9) rfl dX5_find_148 ?_
          refine lv_iload_n hx hb dX5_find_151 rfl (lv_at hl 3 rfl) ?_
          obtain ⟨hi39, hf⟩ := xi_some hf
          refine kIald hx hb hv 2 rfl hi39 dX5_find_152 ?_
          obtain ⟨r40, hcl41, hf⟩ := xb_some hf
          refine kV_i (r := r40) (wr := [(aT_begins, .inl (cy.1, 40, .inl A_begins)), (aT_ends, .inl (cy.1, 40, .inl A_ends)), (aT_weights, .inl (cy.1, 40, .inl A_weights)), (aT_counts, .inl (cy.2.1, 40, .inl A_counts)), (aT_flows, .inl (cy.1, 80, .inl A_flows)), (aT_isUsed, .inl (cy.2.1, 40, .inl A_isUsed)), (aT_gains, .inl (cy.1, 80, .inl A_gains)), (aT_ways, .inl (cy.1, 80, .inl A_ways))]) (w2 := [(aT, .inr (5, [.int f_thrown, .int f_many, .ref aT_begins, .ref aT_ends, .ref aT_weights, .ref aT_isThere, .ref aT_rooms, .int f_factor, .ref aT_isOffered, .ref aT_isAccepted, .int f_dropped, .ref aT_best, .ref aT_order, .ref aT_froms, .ref aT_tos, .ref aT_counts, .ref aT_points, .ref aT_flows, .ref aT_isUsed, .ref aT_gains, .ref aT_ways, .int f_pointMany])), (aT_begins, .inl (cy.1, 40, .inl A_begins)), (aT_ends, .inl (cy.1, 40, .inl A_ends)), (aT_weights, .inl (cy.1, 40, .inl A_weights)), (aT_counts, .inl (cy.2.1, 40, .inl A_counts)), (aT_points, .inl (cy.1, 80, .inl A_points)), (aT_flows, .inl (cy.1, 80, .inl A_flows)), (aT_isUsed, .inl (cy.2.1, 40, .inl A_isUsed)), (aT_gains, .inl (cy.1, 80, .inl A_gains)), (aT_ways, .inl (cy.1, 80, .inl A_ways))]) ⟨hx, hb, hml, hown, hts⟩ (c_X5_pointOf l G cy k aT aT_begins aT_ends aT_weights aT_isThere aT_rooms aT_isOffered aT_isAccepted aT_best aT_order aT_froms aT_tos aT_counts aT_points aT_flows aT_isUsed aT_gains aT_ways f_thrown f_many f_factor f_dropped f_pointMany A_points (A_ends v2.toNatClampNeg) hcl41) (cwV 1 hts gX5_find_X5_pointOf rfl rfl rfl (by decide +kernel) ⟨Nat.le_of_ble_eq_true rfl, Nat.le_of_ble_eq_true rfl⟩) hv (isC := [0, 5]) ⟨rfl, rfl⟩ (hv.recv 5 0 rfl rfl) [1, 2, 3, 4, 6, 7, 8, 9] [8, 0, 1, 2, 3, 9, 4, 5, 6, 7] rfl rfl (by decide) rfl rfl rfl hl.1 rfl (Nat.le_of_ble_eq_true rfl) dX5_find_153 ⟨Nat.le_of_ble_eq_true rfl, Nat.le_of_ble_eq_true rfl⟩ (fun H locs hv => ?_)
          refine lv_istore (lv' := [(4, .int r40), (3, .int r37), (0, .ref aT), (1, .int v1), (2, .int v2)]) hx hb dX5_find_156 hl (by decide) rfl (fun ls hl => ?_)
          refine lv_aload_n hx hb dX5_find_158 rfl (lv_at hl 2 rfl) ?_
          refine kGet (v := .ref aT_isUsed) (C := RX5) (T := TX5) (N := 22) hx hb hts hinX5 hown hv 0 rfl rfl 18 (by decide) hk57 (fun _ h9 => h9) rfl dX5_find_159 ?_
          refine lv_iload_n hx hb dX5_find_162 rfl (lv_at hl 4 rfl) ?_
          obtain ⟨hi42, hf⟩ := xi_some hf
          refine kZald hx hb hv 7 rfl hi42 dX5_find_163 ?_
          refine xj_elim hf (fun j213_44 ej213_44 hf => ?_)
          have J213_44 : ∀ (A_gains_45 : Nat → Int32) (A_ways_46 : Nat → Int32), j213_44 A_gains_45 A_ways_46 = some (wA_gains, wA_ways) → ∀ (H : Heap) (locs : List Loc) (ls : Array Slot), Hv s H locs G cy A [(aT, .inr (5, [.int f_thrown, .int f_many, .ref aT_begins, .ref aT_ends, .ref aT_weights, .ref aT_isThere, .ref aT_rooms, .int f_factor, .ref aT_isOffered, .ref aT_isAccepted, .int f_dropped, .ref aT_best, .ref aT_order, .ref aT_froms, .ref aT_tos, .ref aT_counts, .ref aT_points, .ref aT_flows, .ref aT_isUsed, .ref aT_gains, .ref aT_ways, .int f_pointMany])), (aT_begins, .inl (cy.1, 40, .inl A_begins)), (aT_ends, .inl (cy.1, 40, .inl A_ends)), (aT_weights, .inl (cy.1, 40, .inl A_weights)), (aT_counts, .inl (cy.2.1, 40, .inl A_counts)), (aT_points, .inl (cy.1, 80, .inl A_points)), (aT_flows, .inl (cy.1, 80, .inl A_flows)), (aT_isUsed, .inl (cy.2.1, 40, .inl A_isUsed)), (aT_gains, .inl (cy.1, 80, .inl A_gains_45)), (aT_ways, .inl (cy.1, 80, .inl A_ways_46))] → lv_has ls 5 [(0, .ref aT), (1, .int v1), (2, .int v2)] → W p l e rm_X5_find s m args below meth c H locs 0 0 Q (F0 m 213 ls []) := by
            intro A_gains_45 A_ways_46 hf H locs ls hv hl
            rw [ej213_44] at hf
            try dsimp only at hf
            refine lv_iload_n hx hb dX5_find_213 rfl (lv_at hl 1 rfl) ?_
            refine lv_if_eq (tgt := 221) hx hb dX5_find_214 (by decide) (fun hc47 => ?_) (fun hc47 => ?_)
            · replace hf := ite_t hf hc47
              refine lv_iconst (v := 0) hx hb dX5_find_221 (by decide) ?_
              refine lv_istore_n (lv' := [(1, .int 0), (0, .ref aT), (2, .int v2)]) hx hb dX5_find_222 rfl hl (by decide) rfl (fun ls hl => ?_)
              refine lv_iinc (v := v2 + 1) (lv' := [(2, .int (v2 + 1)), (1, .int 0), (0, .ref aT)]) hx hb dX5_find_223 hl (k := 2) rfl rfl (by decide) rfl (fun ls hl => ?_)
              refine lv_goto (tgt := 118) hx hb dX5_find_226 (by decide) ?_
              exact ih 0 (v2 + 1) A_gains_45 A_ways_46 hf _ _ _ hv (lv_sub hl [2, 1, 0] rfl) hκ
            · replace hf := ite_f hf hc47
              refine lv_iconst (v := 1) hx hb dX5_find_217 (by decide) ?_
              refine lv_goto (tgt := 222) hx hb dX5_find_218 (by decide) ?_
              refine lv_istore_n (lv' := [(1, .int 1), (0, .ref aT), (2, .int v2)]) hx hb dX5_find_222 rfl hl (by decide) rfl (fun ls hl => ?_)
              refine lv_iinc (v := v2 + 1) (lv' := [(2, .int (v2 + 1)), (1, .int 1), (0, .ref aT)]) hx hb dX5_find_223 hl (k := 2) rfl rfl (by decide) rfl (fun ls hl => ?_)
              refine lv_goto (tgt := 118) hx hb dX5_find_226 (by decide) ?_
              exact ih 1 (v2 + 1) A_gains_45 A_ways_46 hf _ _ _ hv (lv_sub hl [2, 1, 0] rfl) hκ
          refine lv_if_eq (tgt := 192) hx hb dX5_find_164 (by decide) (fun hc43 => ?_) (fun hc43 => ?_)
          · replace hf := ite_t hf hc43
            refine lv_aload_n hx hb dX5_find_192 rfl (lv_at hl 2 rfl) ?_
            refine lv_iload_n hx hb dX5_find_193 rfl (lv_at hl 1 rfl) ?_
            refine lv_iload hx hb dX5_find_194 (lv_at hl 0 rfl) ?_
            refine lv_aload_n hx hb dX5_find_196 rfl (lv_at hl 2 rfl) ?_
            refine kGet (v := .ref aT_weights) (C := RX5) (T := TX5) (N := 22) hx hb hts hinX5 hown hv 0 rfl rfl 4 (by decide) hk16 (fun _ h9 => h9) rfl dX5_find_197 ?_
            refine lv_iload_n hx hb dX5_find_200 rfl (lv_at hl 4 rfl) ?_
            obtain ⟨hi48, hf⟩ := xi_some hf
            refine kIald hx hb hv 3 rfl hi48 dX5_find_201 ?_
            refine lv_sipush (v := 200) hx hb dX5_find_202 (by decide) ?_
            refine lv_iload_n hx hb dX5_find_205 rfl (lv_at hl 4 rfl) ?_
            refine lv_iadd hx hb dX5_find_206 ?_
            obtain ⟨⟨r49, A_gains_50, A_ways_51⟩, hcl52, hf⟩ := xb_some hf
            dsimp only at hf
            refine kV_i (r := r49) (wr := [(aT_begins, .inl (cy.1, 40, .inl A_begins)), (aT_ends, .inl (cy.1, 40, .inl A_ends)), (aT_weights, .inl (cy.1, 40, .inl A_weights)), (aT_counts, .inl (cy.2.1, 40, .inl A_counts)), (aT_points, .inl (cy.1, 80, .inl A_points)), (aT_flows, .inl (cy.1, 80, .inl A_flows)), (aT_isUsed, .inl (cy.2.1, 40, .inl A_isUsed))]) (w2 := [(aT, .inr (5, [.int f_thrown, .int f_many, .ref aT_begins, .ref aT_ends, .ref aT_weights, .ref aT_isThere, .ref aT_rooms, .int f_factor, .ref aT_isOffered, .ref aT_isAccepted, .int f_dropped, .ref aT_best, .ref aT_order, .ref aT_froms, .ref aT_tos, .ref aT_counts, .ref aT_points, .ref aT_flows, .ref aT_isUsed, .ref aT_gains, .ref aT_ways, .int f_pointMany])), (aT_begins, .inl (cy.1, 40, .inl A_begins)), (aT_ends, .inl (cy.1, 40, .inl A_ends)), (aT_weights, .inl (cy.1, 40, .inl A_weights)), (aT_counts, .inl (cy.2.1, 40, .inl A_counts)), (aT_points, .inl (cy.1, 80, .inl A_points)), (aT_flows, .inl (cy.1, 80, .inl A_flows)), (aT_isUsed, .inl (cy.2.1, 40, .inl A_isUsed)), (aT_gains, .inl (cy.1, 80, .inl A_gains_50)), (aT_ways, .inl (cy.1, 80, .inl A_ways_51))]) ⟨hx, hb, hml, hown, hts⟩ (c_X5_steps l G cy k aT aT_begins aT_ends aT_weights aT_isThere aT_rooms aT_isOffered aT_isAccepted aT_best aT_order aT_froms aT_tos aT_counts aT_points aT_flows aT_isUsed aT_gains aT_ways f_thrown f_many f_factor f_dropped f_pointMany A_gains A_ways r37 r40 (A_weights v2.toNatClampNeg) (200 + v2) hcl52) (cwV 4 hts gX5_find_X5_steps rfl rfl rfl (by decide +kernel) ⟨Nat.le_of_ble_eq_true rfl, Nat.le_of_ble_eq_true rfl⟩) hv (isC := [0, 8, 9]) ⟨rfl, rfl⟩ (hv.recv 5 0 rfl rfl) [1, 2, 3, 4, 5, 6, 7] [7, 0, 1, 2, 3, 4, 5, 6, 8, 9] rfl rfl (by decide) rfl rfl rfl hl.1 rfl (Nat.le_of_ble_eq_true rfl) dX5_find_207 ⟨Nat.le_of_ble_eq_true rfl, Nat.le_of_ble_eq_true rfl⟩ (fun H locs hv => ?_)
            refine lv_if_ne (tgt := 217) hx hb dX5_find_210 (by decide) (fun hc53 => ?_) (fun hc53 => ?_)
            · replace hf := ite_f hf hc53
              refine lv_iconst (v := 1) hx hb dX5_find_217 (by decide) ?_
              refine lv_goto (tgt := 222) hx hb dX5_find_218 (by decide) ?_
              refine lv_istore_n (lv' := [(1, .int 1), (4, .int r40), (3, .int r37), (0, .ref aT), (2, .int v2)]) hx hb dX5_find_222 rfl hl (by decide) rfl (fun ls hl => ?_)
              refine lv_iinc (v := v2 + 1) (lv' := [(2, .int (v2 + 1)), (1, .int 1), (4, .int r40), (3, .int r37), (0, .ref aT)]) hx hb dX5_find_223 hl (k := 4) rfl rfl (by decide) rfl (fun ls hl => ?_)
              refine lv_goto (tgt := 118) hx hb dX5_find_226 (by decide) ?_
              exact ih 1 (v2 + 1) A_gains_50 A_ways_51 hf _ _ _ hv (lv_sub hl [4, 1, 0] rfl) hκ
            · replace hf := ite_t hf hc53
              exact J213_44 A_gains_50 A_ways_51 hf _ _ _ hv (lv_sub hl [2, 3, 4] rfl)
          · replace hf := ite_f hf hc43
            refine lv_aload_n hx hb dX5_find_167 rfl (lv_at hl 2 rfl) ?_
            refine lv_iload hx hb dX5_find_168 (lv_at hl 0 rfl) ?_
            refine lv_iload_n hx hb dX5_find_170 rfl (lv_at hl 1 rfl) ?_
            refine lv_aload_n hx hb dX5_find_171 rfl (lv_at hl 2 rfl) ?_
            refine kGet (v := .ref aT_weights) (C := RX5) (T := TX5) (N := 22) hx hb hts hinX5 hown hv 0 rfl rfl 4 (by decide) hk16 (fun _ h9 => h9) rfl dX5_find_172 ?_
            refine lv_iload_n hx hb dX5_find_175 rfl (lv_at hl 4 rfl) ?_
            obtain ⟨hi54, hf⟩ := xi_some hf
            refine kIald hx hb hv 3 rfl hi54 dX5_find_176 ?_
            refine lv_ineg hx hb dX5_find_177 ?_
            refine lv_sipush (v := 300) hx hb dX5_find_178 (by decide) ?_
            refine lv_iload_n hx hb dX5_find_181 rfl (lv_at hl 4 rfl) ?_
            refine lv_iadd hx hb dX5_find_182 ?_
            obtain ⟨⟨r55, A_gains_56, A_ways_57⟩, hcl58, hf⟩ := xb_some hf
            dsimp only at hf
            refine kV_i (r := r55) (wr := [(aT_begins, .inl (cy.1, 40, .inl A_begins)), (aT_ends, .inl (cy.1, 40, .inl A_ends)), (aT_weights, .inl (cy.1, 40, .inl A_weights)), (aT_counts, .inl (cy.2.1, 40, .inl A_counts)), (aT_points, .inl (cy.1, 80, .inl A_points)), (aT_flows, .inl (cy.1, 80, .inl A_flows)), (aT_isUsed, .inl (cy.2.1, 40, .inl A_isUsed))]) (w2 := [(aT, .inr (5, [.int f_thrown, .int f_many, .ref aT_begins, .ref aT_ends, .ref aT_weights, .ref aT_isThere, .ref aT_rooms, .int f_factor, .ref aT_isOffered, .ref aT_isAccepted, .int f_dropped, .ref aT_best, .ref aT_order, .ref aT_froms, .ref aT_tos, .ref aT_counts, .ref aT_points, .ref aT_flows, .ref aT_isUsed, .ref aT_gains, .ref aT_ways, .int f_pointMany])), (aT_begins, .inl (cy.1, 40, .inl A_begins)), (aT_ends, .inl (cy.1, 40, .inl A_ends)), (aT_weights, .inl (cy.1, 40, .inl A_weights)), (aT_counts, .inl (cy.2.1, 40, .inl A_counts)), (aT_points, .inl (cy.1, 80, .inl A_points)), (aT_flows, .inl (cy.1, 80, .inl A_flows)), (aT_isUsed, .inl (cy.2.1, 40, .inl A_isUsed)), (aT_gains, .inl (cy.1, 80, .inl A_gains_56)), (aT_ways, .inl (cy.1, 80, .inl A_ways_57))]) ⟨hx, hb, hml, hown, hts⟩ (c_X5_steps l G cy k aT aT_begins aT_ends aT_weights aT_isThere aT_rooms aT_isOffered aT_isAccepted aT_best aT_order aT_froms aT_tos aT_counts aT_points aT_flows aT_isUsed aT_gains aT_ways f_thrown f_many f_factor f_dropped f_pointMany A_gains A_ways r40 r37 (-(A_weights v2.toNatClampNeg)) (300 + v2) hcl58) (cwV 4 hts gX5_find_X5_steps rfl rfl rfl (by decide +kernel) ⟨Nat.le_of_ble_eq_true rfl, Nat.le_of_ble_eq_true rfl⟩) hv (isC := [0, 8, 9]) ⟨rfl, rfl⟩ (hv.recv 5 0 rfl rfl) [1, 2, 3, 4, 5, 6, 7] [7, 0, 1, 2, 3, 4, 5, 6, 8, 9] rfl rfl (by decide) rfl rfl rfl hl.1 rfl (Nat.le_of_ble_eq_true rfl) dX5_find_183 ⟨Nat.le_of_ble_eq_true rfl, Nat.le_of_ble_eq_true rfl⟩ (fun H locs hv => ?_)
            refine lv_if_eq (tgt := 213) hx hb dX5_find_186 (by decide) (fun hc59 => ?_) (fun hc59 => ?_)
            · replace hf := ite_t hf hc59
              exact J213_44 A_gains_56 A_ways_57 hf _ _ _ hv (lv_sub hl [2, 3, 4] rfl)
            · replace hf := ite_f hf hc59
              refine lv_goto (tgt := 217) hx hb dX5_find_189 (by decide) ?_
              refine lv_iconst (v := 1) hx hb dX5_find_217 (by decide) ?_
              refine lv_goto (tgt := 222) hx hb dX5_find_218 (by decide) ?_
              refine lv_istore_n (lv' := [(1, .int 1), (4, .int r40), (3, .int r37), (0, .ref aT), (2, .int v2)]) hx hb dX5_find_222 rfl hl (by decide) rfl (fun ls hl => ?_)
              refine lv_iinc (v := v2 + 1) (lv' := [(2, .int (v2 + 1)), (1, .int 1), (4, .int r40), (3, .int r37), (0, .ref aT)]) hx hb dX5_find_223 hl (k := 4) rfl rfl (by decide) rfl (fun ls hl => ?_)
              refine lv_goto (tgt := 118) hx hb dX5_find_226 (by decide) ?_
              exact ih 1 (v2 + 1) A_gains_56 A_ways_57 hf _ _ _ hv (lv_sub hl [4, 1, 0] rfl) hκ
  have L34 : ∀ (κ : Int32 → (Nat → Int32) → (Nat → Int32) → Option ((Nat → Int32) × (Nat → Int32))) (n : Nat) (v1 : Int32) (A_gains : Nat → Int32) (A_ways : Nat → Int32), f_X5_find_L34 k f_many f_pointMany A_begins A_ends A_weights A_counts A_points A_flows A_isUsed κ n v1 A_gains A_ways = some (wA_gains, wA_ways) → ∀ (H : Heap) (locs : List Loc) (ls : Array Slot), Hv s H locs G cy A [(aT, .inr (5, [.int f_thrown, .int f_many, .ref aT_begins, .ref aT_ends, .ref aT_weights, .ref aT_isThere, .ref aT_rooms, .int f_factor, .ref aT_isOffered, .ref aT_isAccepted, .int f_dropped, .ref aT_best, .ref aT_order, .ref aT_froms, .ref aT_tos, .ref aT_counts, .ref aT_points, .ref aT_flows, .ref aT_isUsed, .ref aT_gains, .ref aT_ways, .int f_pointMany])), (aT_begins, .inl (cy.1, 40, .inl A_begins)), (aT_ends, .inl (cy.1, 40, .inl A_ends)), (aT_weights, .inl (cy.1, 40, .inl A_weights)), (aT_counts, .inl (cy.2.1, 40, .inl A_counts)), (aT_points, .inl (cy.1, 80, .inl A_points)), (aT_flows, .inl (cy.1, 80, .inl A_flows)), (aT_isUsed, .inl (cy.2.1, 40, .inl A_isUsed)), (aT_gains, .inl (cy.1, 80, .inl A_gains)), (aT_ways, .inl (cy.1, 80, .inl A_ways))] → lv_has ls 5 [(0, .ref aT), (1, .int v1)] → (∀ (v1 : Int32) (A_gains : Nat → Int32) (A_ways : Nat → Int32), κ v1 A_gains A_ways = some (wA_gains, wA_ways) → ∀ (H : Heap) (locs : List Loc) (ls : Array Slot), Hv s H locs G cy A [(aT, .inr (5, [.int f_thrown, .int f_many, .ref aT_begins, .ref aT_ends, .ref aT_weights, .ref aT_isThere, .ref aT_rooms, .int f_factor, .ref aT_isOffered, .ref aT_isAccepted, .int f_dropped, .ref aT_best, .ref aT_order, .ref aT_froms, .ref aT_tos, .ref aT_counts, .ref aT_points, .ref aT_flows, .ref aT_isUsed, .ref aT_gains, .ref aT_ways, .int f_pointMany])), (aT_begins, .inl (cy.1, 40, .inl A_begins)), (aT_ends, .inl (cy.1, 40, .inl A_ends)), (aT_weights, .inl (cy.1, 40, .inl A_weights)), (aT_counts, .inl (cy.2.1, 40, .inl A_counts)), (aT_points, .inl (cy.1, 80, .inl A_points)), (aT_flows, .inl (cy.1, 80, .inl A_flows)), (aT_isUsed, .inl (cy.2.1, 40, .inl A_isUsed)), (aT_gains, .inl (cy.1, 80, .inl A_gains)), (aT_ways, .inl (cy.1, 80, .inl A_ways))] → lv_has ls 5 [] → W p l e rm_X5_find s m args below meth c H locs 0 0 Q (F0 m 232 ls [])) → W p l e rm_X5_find s m args below meth c H locs 0 0 Q (F0 m 34 ls []) := by
    intro κ n
    induction n with
    | zero =>
      intro v1 A_gains A_ways hf
      rw [f_X5_find_L34_z] at hf
      cases hf
    | succ n ih =>
      intro v1 A_gains A_ways hf H locs ls hv hl hκ
      rw [f_X5_find_L34_s] at hf
      refine lv_iload_n hx hb dX5_find_34 rfl (lv_at hl 1 rfl) ?_
      refine lv_if_eq (tgt := 232) hx hb dX5_find_35 (by decide) (fun hc7 => ?_) (fun hc7 => ?_)
      · replace hf := ite_t hf hc7
        exact hκ v1 A_gains A_ways hf _ _ _ hv (lv_sub hl [] rfl)
      · replace hf := ite_f hf hc7
        refine lv_iconst (v := 0) hx hb dX5_find_38 (by decide) ?_
        refine lv_istore_n (lv' := [(1, .int 0), (0, .ref aT)]) hx hb dX5_find_39 rfl hl (by decide) rfl (fun ls hl => ?_)
        refine lv_iconst (v := 0) hx hb dX5_find_40 (by decide) ?_
        refine lv_istore_n (lv' := [(2, .int 0), (1, .int 0), (0, .ref aT)]) hx hb dX5_find_41 rfl hl (by decide) rfl (fun ls hl => ?_)
        refine L42 _ _ _ _ _ _ hf _ _ _ hv (lv_sub hl [2, 1, 0] rfl) (fun v1_29 v2_30 A_gains_31 A_ways_32 hf H locs ls hv hl => ?_)
        try dsimp only at hf
        refine lv_iconst (v := 0) hx hb dX5_find_116 (by decide) ?_
        refine lv_istore_n (lv' := [(2, .int 0), (0, .ref aT), (1, .int v1_29)]) hx hb dX5_find_117 rfl hl (by decide) rfl (fun ls hl => ?_)
        refine L118 _ _ _ _ _ _ hf _ _ _ hv (lv_sub hl [1, 2, 0] rfl) (fun v1_60 v2_61 A_gains_62 A_ways_63 hf H locs ls hv hl => ?_)
        try dsimp only at hf
        refine lv_goto (tgt := 34) hx hb dX5_find_229 (by decide) ?_
        exact ih v1_60 A_gains_62 A_ways_63 hf _ _ _ hv (lv_sub hl [0, 1] rfl) hκ
  unfold f_X5_find at hf
  refine lv_iconst (v := 0) hx hb dX5_find_0 (by decide) ?_
  refine lv_istore_n (lv' := [(1, .int 0), (0, .ref aT)]) hx hb dX5_find_1 rfl hl (by decide) rfl (fun ls hl => ?_)
  refine L2 _ _ _ _ _ hf _ _ _ hv (lv_sub hl [1, 0] rfl) (fun v1_5 A_gains_6 hf H locs ls hv hl => ?_)
  try dsimp only at hf
  refine lv_iconst (v := 1) hx hb dX5_find_32 (by decide) ?_
  refine lv_istore_n (lv' := [(1, .int 1), (0, .ref aT)]) hx hb dX5_find_33 rfl hl (by decide) rfl (fun ls hl => ?_)
  refine L34 _ _ _ _ _ hf _ _ _ hv (lv_sub hl [1, 0] rfl) (fun v1_64 A_gains_65 A_ways_66 hf H locs ls hv hl => ?_)
  try dsimp only at hf
  cases hf
  exact kret _ _ _ _ hv dX5_find_232

def f_X5_heaviest (k : Nat) (f_thrown : Int32) (f_many : Int32) (A_begins : Nat → Int32) (A_ends : Nat → Int32) (A_weights : Nat → Int32) (A_isThere : Nat → Int32) (A_isOffered : Nat → Int32) (A_best : Nat → Int32) (A_froms : Nat → Int32) (A_tos : Nat → Int32) (A_counts : Nat → Int32) : Option (Int32 × Int32 × (Nat → Int32) × (Nat → Int32) × (Nat → Int32) × (Nat → Int32)) := xb (f_X5_planOf k 0 f_many A_begins A_ends A_weights A_isThere A_isOffered A_best A_froms A_tos A_counts) (fun (r1, A_best_2, A_froms_3, A_tos_4, A_counts_5) => some (r1, 0, A_best_2, A_froms_3, A_tos_4, A_counts_5))
abbrev rm_X5_heaviest : Room := { frames := 2, cells := 0, slots := 0, locals := 45 }
set_option maxHeartbeats 4000000 in
set_option maxRecDepth 100000 in
theorem c_X5_heaviest (l : Launch) (G : va_G) (cy : ClassId × ClassId × ClassId) (k : Nat) (aT aT_begins aT_ends aT_weights aT_isThere aT_rooms aT_isOffered aT_isAccepted aT_best aT_order aT_froms aT_tos aT_counts aT_points aT_flows aT_isUsed aT_gains aT_ways : Nat) (f_thrown : Int32) (f_many : Int32) (f_factor : Int32) (f_dropped : Int32) (f_pointMany : Int32) (A_begins : Nat → Int32) (A_ends : Nat → Int32) (A_weights : Nat → Int32) (A_isThere : Nat → Int32) (A_isOffered : Nat → Int32) (A_best : Nat → Int32) (A_froms : Nat → Int32) (A_tos : Nat → Int32) (A_counts : Nat → Int32) {r : Int32} {wf_thrown : Int32} {wA_best : Nat → Int32} {wA_froms : Nat → Int32} {wA_tos : Nat → Int32} {wA_counts : Nat → Int32} (hf : f_X5_heaviest k f_thrown f_many A_begins A_ends A_weights A_isThere A_isOffered A_best A_froms A_tos A_counts = some (r, wf_thrown, wA_best, wA_froms, wA_tos, wA_counts)) : Ci l yX5_heaviest wsX5_heaviest rm_X5_heaviest 0 0 G cy [.ref aT] [(aT, .inr (5, [.int f_thrown, .int f_many, .ref aT_begins, .ref aT_ends, .ref aT_weights, .ref aT_isThere, .ref aT_rooms, .int f_factor, .ref aT_isOffered, .ref aT_isAccepted, .int f_dropped, .ref aT_best, .ref aT_order, .ref aT_froms, .ref aT_tos, .ref aT_counts, .ref aT_points, .ref aT_flows, .ref aT_isUsed, .ref aT_gains, .ref aT_ways, .int f_pointMany])), (aT_begins, .inl (cy.1, 40, .inl A_begins)), (aT_ends, .inl (cy.1, 40, .inl A_ends)), (aT_weights, .inl (cy.1, 40, .inl A_weights)), (aT_isThere, .inl (cy.2.1, 40, .inl A_isThere)), (aT_isOffered, .inl (cy.2.1, 40, .inl A_isOffered)), (aT_best, .inl (cy.1, 1001, .inl A_best)), (aT_froms, .inl (cy.1, 40, .inl A_froms)), (aT_tos, .inl (cy.1, 40, .inl A_tos)), (aT_counts, .inl (cy.2.1, 40, .inl A_counts))] [(aT, .inr (5, [.int wf_thrown, .int f_many, .ref aT_begins, .ref aT_ends, .ref aT_weights, .ref aT_isThere, .ref aT_rooms, .int f_factor, .ref aT_isOffered, .ref aT_isAccepted, .int f_dropped, .ref aT_best, .ref aT_order, .ref aT_froms, .ref aT_tos, .ref aT_counts, .ref aT_points, .ref aT_flows, .ref aT_isUsed, .ref aT_gains, .ref aT_ways, .int f_pointMany])), (aT_begins, .inl (cy.1, 40, .inl A_begins)), (aT_ends, .inl (cy.1, 40, .inl A_ends)), (aT_weights, .inl (cy.1, 40, .inl A_weights)), (aT_isThere, .inl (cy.2.1, 40, .inl A_isThere)), (aT_isOffered, .inl (cy.2.1, 40, .inl A_isOffered)), (aT_best, .inl (cy.1, 1001, .inl wA_best)), (aT_froms, .inl (cy.1, 40, .inl wA_froms)), (aT_tos, .inl (cy.1, 40, .inl wA_tos)), (aT_counts, .inl (cy.2.1, 40, .inl wA_counts))] r := by
  refine kMetI (cc := cX5_heaviest) (maxL := 1) (by decide) rfl (Nat.le_of_ble_eq_true rfl) ?_
  intro p e s m args below meth c Q A ls hx hb hml hts hown hv hl kret
  replace hown : s.vm.findClass RX5 = some m.cls := hown
  replace hl : lv_has ls 1 [(0, .ref aT)] := hl
  have hk66 : (Cond.fieldLink RX5 66 "RoomcolourModel" "thrown" "I").before args s = true := hts _ (by decide +kernel)
  have hinX5 : ∀ w ∈ wsX50, w ∈ wsX5_heaviest := by decide +kernel
  unfold f_X5_heaviest at hf
  refine lv_aload_n hx hb dX5_heaviest_0 rfl (lv_at hl 0 rfl) ?_
  refine lv_iconst (v := 0) hx hb dX5_heaviest_1 (by decide) ?_
  refine kPut (v := .int 0) (ty := .int) (C := RX5) (T := TX5) (N := 22) hx hb hts hinX5 tyX5 tyX5_ok nmX5 hown hv 0 rfl rfl 0 (by decide) hk66 (fun _ h9 => h9) rfl (by decide +kernel) rfl rfl (Nat.le_of_ble_eq_true rfl) dX5_heaviest_2 (fun H locs hv => ?_)
  replace hv : Hv s H locs G cy A [(aT, .inr (5, [.int 0, .int f_many, .ref aT_begins, .ref aT_ends, .ref aT_weights, .ref aT_isThere, .ref aT_rooms, .int f_factor, .ref aT_isOffered, .ref aT_isAccepted, .int f_dropped, .ref aT_best, .ref aT_order, .ref aT_froms, .ref aT_tos, .ref aT_counts, .ref aT_points, .ref aT_flows, .ref aT_isUsed, .ref aT_gains, .ref aT_ways, .int f_pointMany])), (aT_begins, .inl (cy.1, 40, .inl A_begins)), (aT_ends, .inl (cy.1, 40, .inl A_ends)), (aT_weights, .inl (cy.1, 40, .inl A_weights)), (aT_isThere, .inl (cy.2.1, 40, .inl A_isThere)), (aT_isOffered, .inl (cy.2.1, 40, .inl A_isOffered)), (aT_best, .inl (cy.1, 1001, .inl A_best)), (aT_froms, .inl (cy.1, 40, .inl A_froms)), (aT_tos, .inl (cy.1, 40, .inl A_tos)), (aT_counts, .inl (cy.2.1, 40, .inl A_counts))] := hv
  refine lv_aload_n hx hb dX5_heaviest_5 rfl (lv_at hl 0 rfl) ?_
  refine lv_iconst (v := 0) hx hb dX5_heaviest_6 (by decide) ?_
  obtain ⟨⟨r1, A_best_2, A_froms_3, A_tos_4, A_counts_5⟩, hcl6, hf⟩ := xb_some hf
  dsimp only at hf
  refine kV_i (r := r1) (wr := []) (w2 := [(aT, .inr (5, [.int 0, .int f_many, .ref aT_begins, .ref aT_ends, .ref aT_weights, .ref aT_isThere, .ref aT_rooms, .int f_factor, .ref aT_isOffered, .ref aT_isAccepted, .int f_dropped, .ref aT_best, .ref aT_order, .ref aT_froms, .ref aT_tos, .ref aT_counts, .ref aT_points, .ref aT_flows, .ref aT_isUsed, .ref aT_gains, .ref aT_ways, .int f_pointMany])), (aT_begins, .inl (cy.1, 40, .inl A_begins)), (aT_ends, .inl (cy.1, 40, .inl A_ends)), (aT_weights, .inl (cy.1, 40, .inl A_weights)), (aT_isThere, .inl (cy.2.1, 40, .inl A_isThere)), (aT_isOffered, .inl (cy.2.1, 40, .inl A_isOffered)), (aT_best, .inl (cy.1, 1001, .inl A_best_2)), (aT_froms, .inl (cy.1, 40, .inl A_froms_3)), (aT_tos, .inl (cy.1, 40, .inl A_tos_4)), (aT_counts, .inl (cy.2.1, 40, .inl A_counts_5))]) ⟨hx, hb, hml, hown, hts⟩ (c_X5_planOf l G cy k aT aT_begins aT_ends aT_weights aT_isThere aT_rooms aT_isOffered aT_isAccepted aT_best aT_order aT_froms aT_tos aT_counts aT_points aT_flows aT_isUsed aT_gains aT_ways 0 f_many f_factor f_dropped f_pointMany A_begins A_ends A_weights A_isThere A_isOffered A_best A_froms A_tos A_counts 0 hcl6) (cwV 1 hts gX5_heaviest_X5_planOf rfl rfl rfl (by decide +kernel) ⟨Nat.le_of_ble_eq_true rfl, Nat.le_of_ble_eq_true rfl⟩) hv (isC := [0, 1, 2, 3, 4, 5, 6, 7, 8, 9]) ⟨rfl, rfl⟩ (hv.recv 5 0 rfl rfl) [] [0, 1, 2, 3, 4, 5, 6, 7, 8, 9] rfl rfl (by decide) rfl rfl rfl hl.1 rfl (Nat.le_of_ble_eq_true rfl) dX5_heaviest_7 ⟨Nat.le_of_ble_eq_true rfl, Nat.le_of_ble_eq_true rfl⟩ (fun H locs hv => ?_)
  cases hf
  exact kret _ _ _ _ hv dX5_heaviest_10
