def f_X4_only (k : Nat) (p0 : Int32) : Option (Int64) := some ((1 : Int64) <<< ((p0 : Int32).toInt64 &&& 63))
abbrev rm_X4_only : Room := { frames := 0, cells := 0, slots := 0, locals := 0 }
set_option maxHeartbeats 4000000 in
set_option maxRecDepth 100000 in
theorem c_X4_only (l : Launch) (G : va_G) (cy : ClassId × ClassId × ClassId) (k : Nat) (p0 : Int32) {r : Int64} (hf : f_X4_only k p0 = some r) : Cl l yX4_only wsX4_only rm_X4_only 0 0 G cy [.int p0] [] [] r := by
  refine kMetL (cc := cX4_only) (maxL := 1) (by decide) rfl (Nat.le_of_ble_eq_true rfl) ?_
  intro p e s m args below meth c Q A ls hx hb hml hts hown hv hl kret
  replace hown : s.vm.findClass RX4 = some m.cls := hown
  replace hl : lv_has ls 1 [(0, .int p0)] := hl
  unfold f_X4_only at hf
  refine lv_lconst (v := 1) hx hb dX4_only_0 (by decide) ?_
  refine lv_iload_n hx hb dX4_only_1 rfl (lv_at hl 0 rfl) ?_
  refine lv_lshl hx hb dX4_only_2 rfl ?_
  cases hf
  exact kret _ _ _ _ hv dX4_only_3

def f_X4_contains (k : Nat) (p0 : Int64) (p2 : Int32) : Option (Int32) := xb (f_X4_only k p2) (fun r1 => if (lg_cmp (p0 &&& r1) 0) = 0 then some 0 else some 1)
abbrev rm_X4_contains : Room := { frames := 1, cells := 0, slots := 0, locals := 20 }
set_option maxHeartbeats 4000000 in
set_option maxRecDepth 100000 in
theorem c_X4_contains (l : Launch) (G : va_G) (cy : ClassId × ClassId × ClassId) (k : Nat) (p0 : Int64) (p2 : Int32) {r : Int32} (hf : f_X4_contains k p0 p2 = some r) : Ci l yX4_contains wsX4_contains rm_X4_contains 0 0 G cy [.long p0, .int p2] [] [] r := by
  refine kMetZ (cc := cX4_contains) (maxL := 3) (by decide) rfl (Nat.le_of_ble_eq_true rfl) ?_
  intro p e s m args below meth c Q A ls hx hb hml hts hown hv hl kret
  replace hown : s.vm.findClass RX4 = some m.cls := hown
  replace hl : lv_has ls 3 [(0, .long p0), (2, .int p2)] := hl
  unfold f_X4_contains at hf
  refine lv_lload_n hx hb dX4_contains_0 rfl (lv_at hl 0 rfl) ?_
  refine lv_iload_n hx hb dX4_contains_1 rfl (lv_at hl 1 rfl) ?_
  obtain ⟨r1, hcl2, hf⟩ := xb_some hf
  refine kS_l (r := r1) ⟨hx, hb, hml, hown, hts⟩ (c_X4_only l G cy k p2 hcl2) (va_cwS 1 hts gX4_contains_X4_only rfl rfl rfl (by decide +kernel) ⟨Nat.le_of_ble_eq_true rfl, Nat.le_of_ble_eq_true rfl⟩) hv rfl hl.1 rfl (Nat.le_of_ble_eq_true rfl) dX4_contains_2 ⟨Nat.le_of_ble_eq_true rfl, Nat.le_of_ble_eq_true rfl⟩ (fun H locs hv => ?_)
  refine lv_land hx hb dX4_contains_5 ?_
  refine lv_lconst (v := 0) hx hb dX4_contains_6 (by decide) ?_
  refine W.lcmp hx hb dX4_contains_7 ?_
  refine lv_if_eq (tgt := 15) hx hb dX4_contains_8 (by decide) (fun hc3 => ?_) (fun hc3 => ?_)
  · replace hf := ite_t hf hc3
    refine lv_iconst (v := 0) hx hb dX4_contains_15 (by decide) ?_
    cases hf
    exact kret _ _ _ _ hv dX4_contains_16 rfl
  · replace hf := ite_f hf hc3
    refine lv_iconst (v := 1) hx hb dX4_contains_11 (by decide) ?_
    refine lv_goto (tgt := 16) hx hb dX4_contains_12 (by decide) ?_
    cases hf
    exact kret _ _ _ _ hv dX4_contains_16 rfl

def f_X4_depthAt_L4 (k : Nat) (v1 : Int32) (f_added : Int32) (f_presentSet : Int64) (A_begins : Nat → Int32) (A_ends : Nat → Int32) (κ : Int32 → Int32 → Option (Int32)) : Nat → Int32 → Int32 → Option (Int32)
  | 0, _, _ => none
  | n + 1, v2, v3 => if f_added ≤ v3 then κ v2 v3 else xb (f_X4_contains k f_presentSet v3) (fun r2 => if r2 = 0 then f_X4_depthAt_L4 k v1 f_added f_presentSet A_begins A_ends κ n v2 (v3 + 1) else xi v3 40 (if v1 < (A_begins v3.toNatClampNeg) then f_X4_depthAt_L4 k v1 f_added f_presentSet A_begins A_ends κ n v2 (v3 + 1) else xi v3 40 (if (A_ends v3.toNatClampNeg) ≤ v1 then f_X4_depthAt_L4 k v1 f_added f_presentSet A_begins A_ends κ n v2 (v3 + 1) else f_X4_depthAt_L4 k v1 f_added f_presentSet A_begins A_ends κ n (v2 + 1) (v3 + 1))))
theorem f_X4_depthAt_L4_z (k : Nat) (v1 : Int32) (f_added : Int32) (f_presentSet : Int64) (A_begins : Nat → Int32) (A_ends : Nat → Int32) (κ : Int32 → Int32 → Option (Int32)) (v2 : Int32) (v3 : Int32) : f_X4_depthAt_L4 k v1 f_added f_presentSet A_begins A_ends κ 0 v2 v3 = none := rfl
theorem f_X4_depthAt_L4_s (k : Nat) (v1 : Int32) (f_added : Int32) (f_presentSet : Int64) (A_begins : Nat → Int32) (A_ends : Nat → Int32) (κ : Int32 → Int32 → Option (Int32)) (n : Nat) (v2 : Int32) (v3 : Int32) : f_X4_depthAt_L4 k v1 f_added f_presentSet A_begins A_ends κ (n + 1) v2 v3 = if f_added ≤ v3 then κ v2 v3 else xb (f_X4_contains k f_presentSet v3) (fun r2 => if r2 = 0 then f_X4_depthAt_L4 k v1 f_added f_presentSet A_begins A_ends κ n v2 (v3 + 1) else xi v3 40 (if v1 < (A_begins v3.toNatClampNeg) then f_X4_depthAt_L4 k v1 f_added f_presentSet A_begins A_ends κ n v2 (v3 + 1) else xi v3 40 (if (A_ends v3.toNatClampNeg) ≤ v1 then f_X4_depthAt_L4 k v1 f_added f_presentSet A_begins A_ends κ n v2 (v3 + 1) else f_X4_depthAt_L4 k v1 f_added f_presentSet A_begins A_ends κ n (v2 + 1) (v3 + 1)))) := rfl
def f_X4_depthAt (k : Nat) (p1 : Int32) (f_added : Int32) (f_presentSet : Int64) (A_begins : Nat → Int32) (A_ends : Nat → Int32) : Option (Int32) := f_X4_depthAt_L4 k p1 f_added f_presentSet A_begins A_ends (fun (v2_9 : Int32) (v3_10 : Int32) => some v2_9) k 0 0
abbrev rm_X4_depthAt : Room := { frames := 2, cells := 0, slots := 0, locals := 42 }
set_option maxHeartbeats 4000000 in
set_option maxRecDepth 100000 in
theorem c_X4_depthAt (l : Launch) (G : va_G) (cy : ClassId × ClassId × ClassId) (k : Nat) (aT aT_begins aT_ends aT_weights aT_givenRooms aT_oneRoom aT_manyRooms : Nat) (f_added : Int32) (f_presentSet : Int64) (f_factor : Int32) (f_offeredSet : Int64) (f_acceptedSet : Int64) (f_dropped : Int32) (A_begins : Nat → Int32) (A_ends : Nat → Int32) (p1 : Int32) {r : Int32} (hf : f_X4_depthAt k p1 f_added f_presentSet A_begins A_ends = some r) : Ci l yX4_depthAt wsX4_depthAt rm_X4_depthAt 0 0 G cy [.ref aT, .int p1] [(aT, .inr (4, [.ref aT_begins, .ref aT_ends, .ref aT_weights, .int f_added, .long f_presentSet, .int f_factor, .long f_offeredSet, .long f_acceptedSet, .int f_dropped, .ref aT_givenRooms, .ref aT_oneRoom, .ref aT_manyRooms])), (aT_begins, .inl (cy.1, 40, .inl A_begins)), (aT_ends, .inl (cy.1, 40, .inl A_ends))] [(aT, .inr (4, [.ref aT_begins, .ref aT_ends, .ref aT_weights, .int f_added, .long f_presentSet, .int f_factor, .long f_offeredSet, .long f_acceptedSet, .int f_dropped, .ref aT_givenRooms, .ref aT_oneRoom, .ref aT_manyRooms])), (aT_begins, .inl (cy.1, 40, .inl A_begins)), (aT_ends, .inl (cy.1, 40, .inl A_ends))] r := by
  refine kMetI (cc := cX4_depthAt) (maxL := 4) (by decide) rfl (Nat.le_of_ble_eq_true rfl) ?_
  intro p e s m args below meth c Q A ls hx hb hml hts hown hv hl kret
  replace hown : s.vm.findClass RX4 = some m.cls := hown
  replace hl : lv_has ls 4 [(0, .ref aT), (1, .int p1)] := hl
  have hk53 : (Cond.fieldLink RX4 53 "Roomcolour" "added" "I").before args s = true := hts _ (by decide +kernel)
  have hinX4 : ∀ w ∈ wsX40, w ∈ wsX4_depthAt := by decide +kernel
  have hk61 : (Cond.fieldLink RX4 61 "Roomcolour" "presentSet" "J").before args s = true := hts _ (by decide +kernel)
  have hk9 : (Cond.fieldLink RX4 9 "Roomcolour" "begins" "[I").before args s = true := hts _ (by decide +kernel)
  have hk13 : (Cond.fieldLink RX4 13 "Roomcolour" "ends" "[I").before args s = true := hts _ (by decide +kernel)
  have L4 : ∀ (v1 : Int32) (f_added : Int32) (f_presentSet : Int64) (A_begins : Nat → Int32) (A_ends : Nat → Int32) (κ : Int32 → Int32 → Option (Int32)) (n : Nat) (v2 : Int32) (v3 : Int32), f_X4_depthAt_L4 k v1 f_added f_presentSet A_begins A_ends κ n v2 v3 = some r → ∀ (H : Heap) (locs : List Loc) (ls : Array Slot), Hv s H locs G cy A [(aT, .inr (4, [.ref aT_begins, .ref aT_ends, .ref aT_weights, .int f_added, .long f_presentSet, .int f_factor, .long f_offeredSet, .long f_acceptedSet, .int f_dropped, .ref aT_givenRooms, .ref aT_oneRoom, .ref aT_manyRooms])), (aT_begins, .inl (cy.1, 40, .inl A_begins)), (aT_ends, .inl (cy.1, 40, .inl A_ends))] → lv_has ls 4 [(0, .ref aT), (1, .int v1), (2, .int v2), (3, .int v3)] → (∀ (v2 : Int32) (v3 : Int32), κ v2 v3 = some r → ∀ (H : Heap) (locs : List Loc) (ls : Array Slot), Hv s H locs G cy A [(aT, .inr (4, [.ref aT_begins, .ref aT_ends, .ref aT_weights, .int f_added, .long f_presentSet, .int f_factor, .long f_offeredSet, .long f_acceptedSet, .int f_dropped, .ref aT_givenRooms, .ref aT_oneRoom, .ref aT_manyRooms])), (aT_begins, .inl (cy.1, 40, .inl A_begins)), (aT_ends, .inl (cy.1, 40, .inl A_ends))] → lv_has ls 4 [(2, .int v2)] → W p l e rm_X4_depthAt s m args below meth c H locs 0 0 Q (F0 m 52 ls [])) → W p l e rm_X4_depthAt s m args below meth c H locs 0 0 Q (F0 m 4 ls []) := by
    intro v1 f_added f_presentSet A_begins A_ends κ n
    induction n with
    | zero =>
      intro v2 v3 hf
      rw [f_X4_depthAt_L4_z] at hf
      cases hf
    | succ n ih =>
      intro v2 v3 hf H locs ls hv hl hκ
      rw [f_X4_depthAt_L4_s] at hf
      refine lv_iload_n hx hb dX4_depthAt_4 rfl (lv_at hl 3 rfl) ?_
      refine lv_aload_n hx hb dX4_depthAt_5 rfl (lv_at hl 0 rfl) ?_
      refine kGet (v := .int f_added) (C := RX4) (T := TX4) (N := 12) hx hb hts hinX4 hown hv 0 rfl rfl 3 (by decide) hk53 (fun _ h9 => h9) rfl dX4_depthAt_6 ?_
      refine lv_icmp_ge (tgt := 52) hx hb dX4_depthAt_9 (by decide) (fun hc1 => ?_) (fun hc1 => ?_)
      · replace hf := ite_t hf hc1
        exact hκ v2 v3 hf _ _ _ hv (lv_sub hl [2] rfl)
      · replace hf := ite_f hf hc1
        refine lv_aload_n hx hb dX4_depthAt_12 rfl (lv_at hl 0 rfl) ?_
        refine kGet (v := .long f_presentSet) (C := RX4) (T := TX4) (N := 12) hx hb hts hinX4 hown hv 0 rfl rfl 4 (by decide) hk61 (fun _ h9 => h9) rfl dX4_depthAt_13 ?_
        refine lv_iload_n hx hb dX4_depthAt_16 rfl (lv_at hl 3 rfl) ?_
        obtain ⟨r2, hcl3, hf⟩ := xb_some hf
        refine kS_i (r := r2) ⟨hx, hb, hml, hown, hts⟩ (c_X4_contains l G cy k f_presentSet v3 hcl3) (va_cwS 2 hts gX4_depthAt_X4_contains rfl rfl rfl (by decide +kernel) ⟨Nat.le_of_ble_eq_true rfl, Nat.le_of_ble_eq_true rfl⟩) hv rfl hl.1 rfl (Nat.le_of_ble_eq_true rfl) dX4_depthAt_17 ⟨Nat.le_of_ble_eq_true rfl, Nat.le_of_ble_eq_true rfl⟩ (fun H locs hv => ?_)
        refine lv_if_eq (tgt := 46) hx hb dX4_depthAt_20 (by decide) (fun hc4 => ?_) (fun hc4 => ?_)
        · replace hf := ite_t hf hc4
          refine lv_iinc (v := v3 + 1) (lv' := [(3, .int (v3 + 1)), (0, .ref aT), (1, .int v1), (2, .int v2)]) hx hb dX4_depthAt_46 hl (k := 3) rfl rfl (by decide) rfl (fun ls hl => ?_)
          refine lv_goto (tgt := 4) hx hb dX4_depthAt_49 (by decide) ?_
          exact ih v2 (v3 + 1) hf _ _ _ hv (lv_sub hl [1, 2, 3, 0] rfl) hκ
        · replace hf := ite_f hf hc4
          refine lv_aload_n hx hb dX4_depthAt_23 rfl (lv_at hl 0 rfl) ?_
          refine kGet (v := .ref aT_begins) (C := RX4) (T := TX4) (N := 12) hx hb hts hinX4 hown hv 0 rfl rfl 0 (by decide) hk9 (fun _ h9 => h9) rfl dX4_depthAt_24 ?_
          refine lv_iload_n hx hb dX4_depthAt_27 rfl (lv_at hl 3 rfl) ?_
          obtain ⟨hi5, hf⟩ := xi_some hf
          refine kIald hx hb hv 1 rfl hi5 dX4_depthAt_28 ?_
          refine lv_iload_n hx hb dX4_depthAt_29 rfl (lv_at hl 1 rfl) ?_
          refine lv_icmp_gt (tgt := 46) hx hb dX4_depthAt_30 (by decide) (fun hc6 => ?_) (fun hc6 => ?_)
          · replace hf := ite_t hf hc6
            refine lv_iinc (v := v3 + 1) (lv' := [(3, .int (v3 + 1)), (0, .ref aT), (1, .int v1), (2, .int v2)]) hx hb dX4_depthAt_46 hl (k := 3) rfl rfl (by decide) rfl (fun ls hl => ?_)
            refine lv_goto (tgt := 4) hx hb dX4_depthAt_49 (by decide) ?_
            exact ih v2 (v3 + 1) hf _ _ _ hv (lv_sub hl [1, 2, 3, 0] rfl) hκ
          · replace hf := ite_f hf hc6
            refine lv_iload_n hx hb dX4_depthAt_33 rfl (lv_at hl 1 rfl) ?_
            refine lv_aload_n hx hb dX4_depthAt_34 rfl (lv_at hl 0 rfl) ?_
            refine kGet (v := .ref aT_ends) (C := RX4) (T := TX4) (N := 12) hx hb hts hinX4 hown hv 0 rfl rfl 1 (by decide) hk13 (fun _ h9 => h9) rfl dX4_depthAt_35 ?_
            refine lv_iload_n hx hb dX4_depthAt_38 rfl (lv_at hl 3 rfl) ?_
            obtain ⟨hi7, hf⟩ := xi_some hf
            refine kIald hx hb hv 2 rfl hi7 dX4_depthAt_39 ?_
            refine lv_icmp_ge (tgt := 46) hx hb dX4_depthAt_40 (by decide) (fun hc8 => ?_) (fun hc8 => ?_)
            · replace hf := ite_t hf hc8
              refine lv_iinc (v := v3 + 1) (lv' := [(3, .int (v3 + 1)), (0, .ref aT), (1, .int v1), (2, .int v2)]) hx hb dX4_depthAt_46 hl (k := 3) rfl rfl (by decide) rfl (fun ls hl => ?_)
              refine lv_goto (tgt := 4) hx hb dX4_depthAt_49 (by decide) ?_
              exact ih v2 (v3 + 1) hf _ _ _ hv (lv_sub hl [1, 2, 3, 0] rfl) hκ
            · replace hf := ite_f hf hc8
              refine lv_iinc (v := v2 + 1) (lv' := [(2, .int (v2 + 1)), (0, .ref aT), (1, .int v1), (3, .int v3)]) hx hb dX4_depthAt_43 hl (k := 2) rfl rfl (by decide) rfl (fun ls hl => ?_)
              refine lv_iinc (v := v3 + 1) (lv' := [(3, .int (v3 + 1)), (2, .int (v2 + 1)), (0, .ref aT), (1, .int v1)]) hx hb dX4_depthAt_46 hl (k := 3) rfl rfl (by decide) rfl (fun ls hl => ?_)
              refine lv_goto (tgt := 4) hx hb dX4_depthAt_49 (by decide) ?_
              exact ih (v2 + 1) (v3 + 1) hf _ _ _ hv (lv_sub hl [2, 3, 1, 0] rfl) hκ
  unfold f_X4_depthAt at hf
  refine lv_iconst (v := 0) hx hb dX4_depthAt_0 (by decide) ?_
  refine lv_istore_n (lv' := [(2, .int 0), (0, .ref aT), (1, .int p1)]) hx hb dX4_depthAt_1 rfl hl (by decide) rfl (fun ls hl => ?_)
  refine lv_iconst (v := 0) hx hb dX4_depthAt_2 (by decide) ?_
  refine lv_istore_n (lv' := [(3, .int 0), (2, .int 0), (0, .ref aT), (1, .int p1)]) hx hb dX4_depthAt_3 rfl hl (by decide) rfl (fun ls hl => ?_)
  refine L4 _ _ _ _ _ _ _ _ _ hf _ _ _ hv (lv_sub hl [2, 3, 1, 0] rfl) (fun v2_9 v3_10 hf H locs ls hv hl => ?_)
  try dsimp only at hf
  refine lv_iload_n hx hb dX4_depthAt_52 rfl (lv_at hl 0 rfl) ?_
  cases hf
  exact kret _ _ _ _ hv dX4_depthAt_53

def f_X4_requireThere (k : Nat) (p1 : Int32) (f_added : Int32) (f_presentSet : Int64) : Option (Except String (Unit)) := if p1 < 0 then some (.error "java/lang/IndexOutOfBoundsException") else if f_added ≤ p1 then some (.error "java/lang/IndexOutOfBoundsException") else xb (f_X4_contains k f_presentSet p1) (fun r3 => if r3 = 0 then some (.error "java/lang/IndexOutOfBoundsException") else some (.ok ()))
abbrev rm_X4_requireThere : Room := { frames := 6, cells := 1, slots := 6, locals := 90 }
set_option maxHeartbeats 4000000 in
set_option maxRecDepth 100000 in
theorem c_X4_requireThere (l : Launch) (hl9 : l.stackTraces = false) (G : va_G) (cy : ClassId × ClassId × ClassId) (k : Nat) (aT aT_begins aT_ends aT_weights aT_givenRooms aT_oneRoom aT_manyRooms : Nat) (f_added : Int32) (f_presentSet : Int64) (f_factor : Int32) (f_offeredSet : Int64) (f_acceptedSet : Int64) (f_dropped : Int32) (p1 : Int32) {o : Except String (Unit)} (hf : f_X4_requireThere k p1 f_added f_presentSet = some o) : Xv l yX4_requireThere wsX4_requireThere rm_X4_requireThere 1 6 G cy [.ref aT, .int p1] [(aT, .inr (4, [.ref aT_begins, .ref aT_ends, .ref aT_weights, .int f_added, .long f_presentSet, .int f_factor, .long f_offeredSet, .long f_acceptedSet, .int f_dropped, .ref aT_givenRooms, .ref aT_oneRoom, .ref aT_manyRooms]))] (kmo (fun (_ : Unit) => [(aT, .inr (4, [.ref aT_begins, .ref aT_ends, .ref aT_weights, .int f_added, .long f_presentSet, .int f_factor, .long f_offeredSet, .long f_acceptedSet, .int f_dropped, .ref aT_givenRooms, .ref aT_oneRoom, .ref aT_manyRooms]))]) o) := by
  refine kMetXV (cc := cX4_requireThere) (maxL := 2) (by decide) rfl (Nat.le_of_ble_eq_true rfl) ?_
  intro p e s m args below meth c Q A ls Qc hx hb hml hts hown hv hl kret hT htab hlocks
  replace hown : s.vm.findClass RX4 = some m.cls := hown
  replace hl : lv_has ls 2 [(0, .ref aT), (1, .int p1)] := hl
  have hk53 : (Cond.fieldLink RX4 53 "Roomcolour" "added" "I").before args s = true := hts _ (by decide +kernel)
  have hinX4 : ∀ w ∈ wsX40, w ∈ wsX4_requireThere := by decide +kernel
  have hk61 : (Cond.fieldLink RX4 61 "Roomcolour" "presentSet" "J").before args s = true := hts _ (by decide +kernel)
  unfold f_X4_requireThere at hf
  refine lv_iload_n hx hb dX4_requireThere_0 rfl (lv_at hl 1 rfl) ?_
  refine lv_if_lt (tgt := 23) hx hb dX4_requireThere_1 (by decide) (fun hc1 => ?_) (fun hc1 => ?_)
  · replace hf := ite_t hf hc1
    cases hf
    exact kThrow hx hb hl9 hts hown hv hT htab hlocks (by rw [hml]; exact hl.1) (cls := "java/lang/IndexOutOfBoundsException") (text := "there is no such interval") (ik := 179) (is := 181) (ic := 183) rfl (by decide +kernel) (by decide +kernel) (by decide +kernel) (by decide +kernel) (by decide +kernel) (by decide +kernel) (by decide +kernel) dX4_requireThere_23 dX4_requireThere_26 dX4_requireThere_27 dX4_requireThere_29 dX4_requireThere_32 (by decide) (by decide) (by decide) (by decide) (by decide) (by decide)
  · replace hf := ite_f hf hc1
    refine lv_iload_n hx hb dX4_requireThere_4 rfl (lv_at hl 1 rfl) ?_
    refine lv_aload_n hx hb dX4_requireThere_5 rfl (lv_at hl 0 rfl) ?_
    refine kGet (v := .int f_added) (C := RX4) (T := TX4) (N := 12) hx hb hts hinX4 hown hv 0 rfl rfl 3 (by decide) hk53 (fun _ h9 => h9) rfl dX4_requireThere_6 ?_
    refine lv_icmp_ge (tgt := 23) hx hb dX4_requireThere_9 (by decide) (fun hc2 => ?_) (fun hc2 => ?_)
    · replace hf := ite_t hf hc2
      cases hf
      exact kThrow hx hb hl9 hts hown hv hT htab hlocks (by rw [hml]; exact hl.1) (cls := "java/lang/IndexOutOfBoundsException") (text := "there is no such interval") (ik := 179) (is := 181) (ic := 183) rfl (by decide +kernel) (by decide +kernel) (by decide +kernel) (by decide +kernel) (by decide +kernel) (by decide +kernel) (by decide +kernel) dX4_requireThere_23 dX4_requireThere_26 dX4_requireThere_27 dX4_requireThere_29 dX4_requireThere_32 (by decide) (by decide) (by decide) (by decide) (by decide) (by decide)
    · replace hf := ite_f hf hc2
      refine lv_aload_n hx hb dX4_requireThere_12 rfl (lv_at hl 0 rfl) ?_
      refine kGet (v := .long f_presentSet) (C := RX4) (T := TX4) (N := 12) hx hb hts hinX4 hown hv 0 rfl rfl 4 (by decide) hk61 (fun _ h9 => h9) rfl dX4_requireThere_13 ?_
      refine lv_iload_n hx hb dX4_requireThere_16 rfl (lv_at hl 1 rfl) ?_
      obtain ⟨r3, hcl4, hf⟩ := xb_some hf
      refine kS_i (r := r3) ⟨hx, hb, hml, hown, hts⟩ (c_X4_contains l G cy k f_presentSet p1 hcl4) (va_cwS 2 hts gX4_requireThere_X4_contains rfl rfl rfl (by decide +kernel) ⟨Nat.le_of_ble_eq_true rfl, Nat.le_of_ble_eq_true rfl⟩) hv rfl hl.1 rfl (Nat.le_of_ble_eq_true rfl) dX4_requireThere_17 ⟨Nat.le_of_ble_eq_true rfl, Nat.le_of_ble_eq_true rfl⟩ (fun H locs hv => ?_)
      refine lv_if_ne (tgt := 33) hx hb dX4_requireThere_20 (by decide) (fun hc5 => ?_) (fun hc5 => ?_)
      · replace hf := ite_f hf hc5
        cases hf
        refine W.widen (k := 1) (n := 6) (by omega) (by omega) ?_
        exact kret _ _ _ _ _ rfl hv dX4_requireThere_33
      · replace hf := ite_t hf hc5
        cases hf
        exact kThrow hx hb hl9 hts hown hv hT htab hlocks (by rw [hml]; exact hl.1) (cls := "java/lang/IndexOutOfBoundsException") (text := "there is no such interval") (ik := 179) (is := 181) (ic := 183) rfl (by decide +kernel) (by decide +kernel) (by decide +kernel) (by decide +kernel) (by decide +kernel) (by decide +kernel) (by decide +kernel) dX4_requireThere_23 dX4_requireThere_26 dX4_requireThere_27 dX4_requireThere_29 dX4_requireThere_32 (by decide) (by decide) (by decide) (by decide) (by decide) (by decide)

def f_J13_bitCount_95d88 (k : Nat) (p0 : Int64) : Option (Int32) := some ((((((((((p0 - ((((p0 : Int64).toUInt64 >>> ((1 : Int32).toInt64.toUInt64 &&& Int64.toUInt64 63)).toInt64) &&& 6148914691236517205)) &&& 3689348814741910323) + ((((p0 - ((((p0 : Int64).toUInt64 >>> ((1 : Int32).toInt64.toUInt64 &&& Int64.toUInt64 63)).toInt64) &&& 6148914691236517205) : Int64).toUInt64 >>> ((2 : Int32).toInt64.toUInt64 &&& Int64.toUInt64 63)).toInt64) &&& 3689348814741910323)) + (((((p0 - ((((p0 : Int64).toUInt64 >>> ((1 : Int32).toInt64.toUInt64 &&& Int64.toUInt64 63)).toInt64) &&& 6148914691236517205)) &&& 3689348814741910323) + ((((p0 - ((((p0 : Int64).toUInt64 >>> ((1 : Int32).toInt64.toUInt64 &&& Int64.toUInt64 63)).toInt64) &&& 6148914691236517205) : Int64).toUInt64 >>> ((2 : Int32).toInt64.toUInt64 &&& Int64.toUInt64 63)).toInt64) &&& 3689348814741910323) : Int64).toUInt64 >>> ((4 : Int32).toInt64.toUInt64 &&& Int64.toUInt64 63)).toInt64)) &&& 1085102592571150095) + (((((((p0 - ((((p0 : Int64).toUInt64 >>> ((1 : Int32).toInt64.toUInt64 &&& Int64.toUInt64 63)).toInt64) &&& 6148914691236517205)) &&& 3689348814741910323) + ((((p0 - ((((p0 : Int64).toUInt64 >>> ((1 : Int32).toInt64.toUInt64 &&& Int64.toUInt64 63)).toInt64) &&& 6148914691236517205) : Int64).toUInt64 >>> ((2 : Int32).toInt64.toUInt64 &&& Int64.toUInt64 63)).toInt64) &&& 3689348814741910323)) + (((((p0 - ((((p0 : Int64).toUInt64 >>> ((1 : Int32).toInt64.toUInt64 &&& Int64.toUInt64 63)).toInt64) &&& 6148914691236517205)) &&& 3689348814741910323) + ((((p0 - ((((p0 : Int64).toUInt64 >>> ((1 : Int32).toInt64.toUInt64 &&& Int64.toUInt64 63)).toInt64) &&& 6148914691236517205) : Int64).toUInt64 >>> ((2 : Int32).toInt64.toUInt64 &&& Int64.toUInt64 63)).toInt64) &&& 3689348814741910323) : Int64).toUInt64 >>> ((4 : Int32).toInt64.toUInt64 &&& Int64.toUInt64 63)).toInt64)) &&& 1085102592571150095 : Int64).toUInt64 >>> ((8 : Int32).toInt64.toUInt64 &&& Int64.toUInt64 63)).toInt64)) + ((((((((p0 - ((((p0 : Int64).toUInt64 >>> ((1 : Int32).toInt64.toUInt64 &&& Int64.toUInt64 63)).toInt64) &&& 6148914691236517205)) &&& 3689348814741910323) + ((((p0 - ((((p0 : Int64).toUInt64 >>> ((1 : Int32).toInt64.toUInt64 &&& Int64.toUInt64 63)).toInt64) &&& 6148914691236517205) : Int64).toUInt64 >>> ((2 : Int32).toInt64.toUInt64 &&& Int64.toUInt64 63)).toInt64) &&& 3689348814741910323)) + (((((p0 - ((((p0 : Int64).toUInt64 >>> ((1 : Int32).toInt64.toUInt64 &&& Int64.toUInt64 63)).toInt64) &&& 6148914691236517205)) &&& 3689348814741910323) + ((((p0 - ((((p0 : Int64).toUInt64 >>> ((1 : Int32).toInt64.toUInt64 &&& Int64.toUInt64 63)).toInt64) &&& 6148914691236517205) : Int64).toUInt64 >>> ((2 : Int32).toInt64.toUInt64 &&& Int64.toUInt64 63)).toInt64) &&& 3689348814741910323) : Int64).toUInt64 >>> ((4 : Int32).toInt64.toUInt64 &&& Int64.toUInt64 63)).toInt64)) &&& 1085102592571150095) + (((((((p0 - ((((p0 : Int64).toUInt64 >>> ((1 : Int32).toInt64.toUInt64 &&& Int64.toUInt64 63)).toInt64) &&& 6148914691236517205)) &&& 3689348814741910323) + ((((p0 - ((((p0 : Int64).toUInt64 >>> ((1 : Int32).toInt64.toUInt64 &&& Int64.toUInt64 63)).toInt64) &&& 6148914691236517205) : Int64).toUInt64 >>> ((2 : Int32).toInt64.toUInt64 &&& Int64.toUInt64 63)).toInt64) &&& 3689348814741910323)) + (((((p0 - ((((p0 : Int64).toUInt64 >>> ((1 : Int32).toInt64.toUInt64 &&& Int64.toUInt64 63)).toInt64) &&& 6148914691236517205)) &&& 3689348814741910323) + ((((p0 - ((((p0 : Int64).toUInt64 >>> ((1 : Int32).toInt64.toUInt64 &&& Int64.toUInt64 63)).toInt64) &&& 6148914691236517205) : Int64).toUInt64 >>> ((2 : Int32).toInt64.toUInt64 &&& Int64.toUInt64 63)).toInt64) &&& 3689348814741910323) : Int64).toUInt64 >>> ((4 : Int32).toInt64.toUInt64 &&& Int64.toUInt64 63)).toInt64)) &&& 1085102592571150095 : Int64).toUInt64 >>> ((8 : Int32).toInt64.toUInt64 &&& Int64.toUInt64 63)).toInt64) : Int64).toUInt64 >>> ((16 : Int32).toInt64.toUInt64 &&& Int64.toUInt64 63)).toInt64)) + (((((((((p0 - ((((p0 : Int64).toUInt64 >>> ((1 : Int32).toInt64.toUInt64 &&& Int64.toUInt64 63)).toInt64) &&& 6148914691236517205)) &&& 3689348814741910323) + ((((p0 - ((((p0 : Int64).toUInt64 >>> ((1 : Int32).toInt64.toUInt64 &&& Int64.toUInt64 63)).toInt64) &&& 6148914691236517205) : Int64).toUInt64 >>> ((2 : Int32).toInt64.toUInt64 &&& Int64.toUInt64 63)).toInt64) &&& 3689348814741910323)) + (((((p0 - ((((p0 : Int64).toUInt64 >>> ((1 : Int32).toInt64.toUInt64 &&& Int64.toUInt64 63)).toInt64) &&& 6148914691236517205)) &&& 3689348814741910323) + ((((p0 - ((((p0 : Int64).toUInt64 >>> ((1 : Int32).toInt64.toUInt64 &&& Int64.toUInt64 63)).toInt64) &&& 6148914691236517205) : Int64).toUInt64 >>> ((2 : Int32).toInt64.toUInt64 &&& Int64.toUInt64 63)).toInt64) &&& 3689348814741910323) : Int64).toUInt64 >>> ((4 : Int32).toInt64.toUInt64 &&& Int64.toUInt64 63)).toInt64)) &&& 1085102592571150095) + (((((((p0 - ((((p0 : Int64).toUInt64 >>> ((1 : Int32).toInt64.toUInt64 &&& Int64.toUInt64 63)).toInt64) &&& 6148914691236517205)) &&& 3689348814741910323) + ((((p0 - ((((p0 : Int64).toUInt64 >>> ((1 : Int32).toInt64.toUInt64 &&& Int64.toUInt64 63)).toInt64) &&& 6148914691236517205) : Int64).toUInt64 >>> ((2 : Int32).toInt64.toUInt64 &&& Int64.toUInt64 63)).toInt64) &&& 3689348814741910323)) + (((((p0 - ((((p0 : Int64).toUInt64 >>> ((1 : Int32).toInt64.toUInt64 &&& Int64.toUInt64 63)).toInt64) &&& 6148914691236517205)) &&& 3689348814741910323) + ((((p0 - ((((p0 : Int64).toUInt64 >>> ((1 : Int32).toInt64.toUInt64 &&& Int64.toUInt64 63)).toInt64) &&& 6148914691236517205) : Int64).toUInt64 >>> ((2 : Int32).toInt64.toUInt64 &&& Int64.toUInt64 63)).toInt64) &&& 3689348814741910323) : Int64).toUInt64 >>> ((4 : Int32).toInt64.toUInt64 &&& Int64.toUInt64 63)).toInt64)) &&& 1085102592571150095 : Int64).toUInt64 >>> ((8 : Int32).toInt64.toUInt64 &&& Int64.toUInt64 63)).toInt64)) + ((((((((p0 - ((((p0 : Int64).toUInt64 >>> ((1 : Int32).toInt64.toUInt64 &&& Int64.toUInt64 63)).toInt64) &&& 6148914691236517205)) &&& 3689348814741910323) + ((((p0 - ((((p0 : Int64).toUInt64 >>> ((1 : Int32).toInt64.toUInt64 &&& Int64.toUInt64 63)).toInt64) &&& 6148914691236517205) : Int64).toUInt64 >>> ((2 : Int32).toInt64.toUInt64 &&& Int64.toUInt64 63)).toInt64) &&& 3689348814741910323)) + (((((p0 - ((((p0 : Int64).toUInt64 >>> ((1 : Int32).toInt64.toUInt64 &&& Int64.toUInt64 63)).toInt64) &&& 6148914691236517205)) &&& 3689348814741910323) + ((((p0 - ((((p0 : Int64).toUInt64 >>> ((1 : Int32).toInt64.toUInt64 &&& Int64.toUInt64 63)).toInt64) &&& 6148914691236517205) : Int64).toUInt64 >>> ((2 : Int32).toInt64.toUInt64 &&& Int64.toUInt64 63)).toInt64) &&& 3689348814741910323) : Int64).toUInt64 >>> ((4 : Int32).toInt64.toUInt64 &&& Int64.toUInt64 63)).toInt64)) &&& 1085102592571150095) + (((((((p0 - ((((p0 : Int64).toUInt64 >>> ((1 : Int32).toInt64.toUInt64 &&& Int64.toUInt64 63)).toInt64) &&& 6148914691236517205)) &&& 3689348814741910323) + ((((p0 - ((((p0 : Int64).toUInt64 >>> ((1 : Int32).toInt64.toUInt64 &&& Int64.toUInt64 63)).toInt64) &&& 6148914691236517205) : Int64).toUInt64 >>> ((2 : Int32).toInt64.toUInt64 &&& Int64.toUInt64 63)).toInt64) &&& 3689348814741910323)) + (((((p0 - ((((p0 : Int64).toUInt64 >>> ((1 : Int32).toInt64.toUInt64 &&& Int64.toUInt64 63)).toInt64) &&& 6148914691236517205)) &&& 3689348814741910323) + ((((p0 - ((((p0 : Int64).toUInt64 >>> ((1 : Int32).toInt64.toUInt64 &&& Int64.toUInt64 63)).toInt64) &&& 6148914691236517205) : Int64).toUInt64 >>> ((2 : Int32).toInt64.toUInt64 &&& Int64.toUInt64 63)).toInt64) &&& 3689348814741910323) : Int64).toUInt64 >>> ((4 : Int32).toInt64.toUInt64 &&& Int64.toUInt64 63)).toInt64)) &&& 1085102592571150095 : Int64).toUInt64 >>> ((8 : Int32).toInt64.toUInt64 &&& Int64.toUInt64 63)).toInt64) : Int64).toUInt64 >>> ((16 : Int32).toInt64.toUInt64 &&& Int64.toUInt64 63)).toInt64) : Int64).toUInt64 >>> ((32 : Int32).toInt64.toUInt64 &&& Int64.toUInt64 63)).toInt64)).toInt32) &&& 127)
abbrev rm_J13_bitCount_95d88 : Room := { frames := 0, cells := 0, slots := 0, locals := 0 }
set_option maxHeartbeats 4000000 in
set_option maxRecDepth 100000 in
theorem c_J13_bitCount_95d88 (l : Launch) (G : va_G) (cy : ClassId × ClassId × ClassId) (k : Nat) (p0 : Int64) {r : Int32} (hf : f_J13_bitCount_95d88 k p0 = some r) : Ci l yJ13_bitCount_95d88 wsJ13_bitCount_95d88 rm_J13_bitCount_95d88 0 0 G cy [.long p0] [] [] r := by
  refine kMetI (cc := cJ13_bitCount_95d88) (maxL := 2) (by decide) rfl (Nat.le_of_ble_eq_true rfl) ?_
  intro p e s m args below meth c Q A ls hx hb hml hts hown hv hl kret
  replace hown : s.vm.findClass RJ13 = some m.cls := hown
  replace hl : lv_has ls 2 [(0, .long p0)] := hl
  have hk314 : (Cond.constantLong RJ13 314 6148914691236517205).before args s = true := hts _ (by decide +kernel)
  have hk316 : (Cond.constantLong RJ13 316 3689348814741910323).before args s = true := hts _ (by decide +kernel)
  have hk318 : (Cond.constantLong RJ13 318 1085102592571150095).before args s = true := hts _ (by decide +kernel)
  unfold f_J13_bitCount_95d88 at hf
  refine lv_lload_n hx hb dJ13_bitCount_95d88_0 rfl (lv_at hl 0 rfl) ?_
  refine lv_lload_n hx hb dJ13_bitCount_95d88_1 rfl (lv_at hl 0 rfl) ?_
  refine lv_iconst (v := 1) hx hb dJ13_bitCount_95d88_2 (by decide) ?_
  refine lv_lushr hx hb dJ13_bitCount_95d88_3 rfl ?_
  refine lv_ldc2 hx hb hown hk314 dJ13_bitCount_95d88_4 ?_
  refine lv_land hx hb dJ13_bitCount_95d88_7 ?_
  refine lv_lsub hx hb dJ13_bitCount_95d88_8 ?_
  refine lv_lstore_n (lv' := [(0, .long (p0 - ((((p0 : Int64).toUInt64 >>> ((1 : Int32).toInt64.toUInt64 &&& Int64.toUInt64 63)).toInt64) &&& 6148914691236517205)))]) hx hb dJ13_bitCount_95d88_9 rfl hl (by decide) rfl (fun ls hl => ?_)
  refine lv_lload_n hx hb dJ13_bitCount_95d88_10 rfl (lv_at hl 0 rfl) ?_
  refine lv_ldc2 hx hb hown hk316 dJ13_bitCount_95d88_11 ?_
  refine lv_land hx hb dJ13_bitCount_95d88_14 ?_
  refine lv_lload_n hx hb dJ13_bitCount_95d88_15 rfl (lv_at hl 0 rfl) ?_
  refine lv_iconst (v := 2) hx hb dJ13_bitCount_95d88_16 (by decide) ?_
  refine lv_lushr hx hb dJ13_bitCount_95d88_17 rfl ?_
  refine lv_ldc2 hx hb hown hk316 dJ13_bitCount_95d88_18 ?_
  refine lv_land hx hb dJ13_bitCount_95d88_21 ?_
  refine lv_ladd hx hb dJ13_bitCount_95d88_22 ?_
  refine lv_lstore_n (lv' := [(0, .long (((p0 - ((((p0 : Int64).toUInt64 >>> ((1 : Int32).toInt64.toUInt64 &&& Int64.toUInt64 63)).toInt64) &&& 6148914691236517205)) &&& 3689348814741910323) + ((((p0 - ((((p0 : Int64).toUInt64 >>> ((1 : Int32).toInt64.toUInt64 &&& Int64.toUInt64 63)).toInt64) &&& 6148914691236517205) : Int64).toUInt64 >>> ((2 : Int32).toInt64.toUInt64 &&& Int64.toUInt64 63)).toInt64) &&& 3689348814741910323)))]) hx hb dJ13_bitCount_95d88_23 rfl hl (by decide) rfl (fun ls hl => ?_)
  refine lv_lload_n hx hb dJ13_bitCount_95d88_24 rfl (lv_at hl 0 rfl) ?_
  refine lv_lload_n hx hb dJ13_bitCount_95d88_25 rfl (lv_at hl 0 rfl) ?_
  refine lv_iconst (v := 4) hx hb dJ13_bitCount_95d88_26 (by decide) ?_
  refine lv_lushr hx hb dJ13_bitCount_95d88_27 rfl ?_
  refine lv_ladd hx hb dJ13_bitCount_95d88_28 ?_
  refine lv_ldc2 hx hb hown hk318 dJ13_bitCount_95d88_29 ?_
  refine lv_land hx hb dJ13_bitCount_95d88_32 ?_
  refine lv_lstore_n (lv' := [(0, .long (((((p0 - ((((p0 : Int64).toUInt64 >>> ((1 : Int32).toInt64.toUInt64 &&& Int64.toUInt64 63)).toInt64) &&& 6148914691236517205)) &&& 3689348814741910323) + ((((p0 - ((((p0 : Int64).toUInt64 >>> ((1 : Int32).toInt64.toUInt64 &&& Int64.toUInt64 63)).toInt64) &&& 6148914691236517205) : Int64).toUInt64 >>> ((2 : Int32).toInt64.toUInt64 &&& Int64.toUInt64 63)).toInt64) &&& 3689348814741910323)) + (((((p0 - ((((p0 : Int64).toUInt64 >>> ((1 : Int32).toInt64.toUInt64 &&& Int64.toUInt64 63)).toInt64) &&& 6148914691236517205)) &&& 3689348814741910323) + ((((p0 - ((((p0 : Int64).toUInt64 >>> ((1 : Int32).toInt64.toUInt64 &&& Int64.toUInt64 63)).toInt64) &&& 6148914691236517205) : Int64).toUInt64 >>> ((2 : Int32).toInt64.toUInt64 &&& Int64.toUInt64 63)).toInt64) &&& 3689348814741910323) : Int64).toUInt64 >>> ((4 : Int32).toInt64.toUInt64 &&& Int64.toUInt64 63)).toInt64)) &&& 1085102592571150095))]) hx hb dJ13_bitCount_95d88_33 rfl hl (by decide) rfl (fun ls hl => ?_)
  refine lv_lload_n hx hb dJ13_bitCount_95d88_34 rfl (lv_at hl 0 rfl) ?_
  refine lv_lload_n hx hb dJ13_bitCount_95d88_35 rfl (lv_at hl 0 rfl) ?_
  refine lv_bipush (v := 8) hx hb dJ13_bitCount_95d88_36 (by decide) ?_
  refine lv_lushr hx hb dJ13_bitCount_95d88_38 rfl ?_
  refine lv_ladd hx hb dJ13_bitCount_95d88_39 ?_
  refine lv_lstore_n (lv' := [(0, .long ((((((p0 - ((((p0 : Int64).toUInt64 >>> ((1 : Int32).toInt64.toUInt64 &&& Int64.toUInt64 63)).toInt64) &&& 6148914691236517205)) &&& 3689348814741910323) + ((((p0 - ((((p0 : Int64).toUInt64 >>> ((1 : Int32).toInt64.toUInt64 &&& Int64.toUInt64 63)).toInt64) &&& 6148914691236517205) : Int64).toUInt64 >>> ((2 : Int32).toInt64.toUInt64 &&& Int64.toUInt64 63)).toInt64) &&& 3689348814741910323)) + (((((p0 - ((((p0 : Int64).toUInt64 >>> ((1 : Int32).toInt64.toUInt64 &&& Int64.toUInt64 63)).toInt64) &&& 6148914691236517205)) &&& 3689348814741910323) + ((((p0 - ((((p0 : Int64).toUInt64 >>> ((1 : Int32).toInt64.toUInt64 &&& Int64.toUInt64 63)).toInt64) &&& 6148914691236517205) : Int64).toUInt64 >>> ((2 : Int32).toInt64.toUInt64 &&& Int64.toUInt64 63)).toInt64) &&& 3689348814741910323) : Int64).toUInt64 >>> ((4 : Int32).toInt64.toUInt64 &&& Int64.toUInt64 63)).toInt64)) &&& 1085102592571150095) + (((((((p0 - ((((p0 : Int64).toUInt64 >>> ((1 : Int32).toInt64.toUInt64 &&& Int64.toUInt64 63)).toInt64) &&& 6148914691236517205)) &&& 3689348814741910323) + ((((p0 - ((((p0 : Int64).toUInt64 >>> ((1 : Int32).toInt64.toUInt64 &&& Int64.toUInt64 63)).toInt64) &&& 6148914691236517205) : Int64).toUInt64 >>> ((2 : Int32).toInt64.toUInt64 &&& Int64.toUInt64 63)).toInt64) &&& 3689348814741910323)) + (((((p0 - ((((p0 : Int64).toUInt64 >>> ((1 : Int32).toInt64.toUInt64 &&& Int64.toUInt64 63)).toInt64) &&& 6148914691236517205)) &&& 3689348814741910323) + ((((p0 - ((((p0 : Int64).toUInt64 >>> ((1 : Int32).toInt64.toUInt64 &&& Int64.toUInt64 63)).toInt64) &&& 6148914691236517205) : Int64).toUInt64 >>> ((2 : Int32).toInt64.toUInt64 &&& Int64.toUInt64 63)).toInt64) &&& 3689348814741910323) : Int64).toUInt64 >>> ((4 : Int32).toInt64.toUInt64 &&& Int64.toUInt64 63)).toInt64)) &&& 1085102592571150095 : Int64).toUInt64 >>> ((8 : Int32).toInt64.toUInt64 &&& Int64.toUInt64 63)).toInt64)))]) hx hb dJ13_bitCount_95d88_40 rfl hl (by decide) rfl (fun ls hl => ?_)
  refine lv_lload_n hx hb dJ13_bitCount_95d88_41 rfl (lv_at hl 0 rfl) ?_
  refine lv_lload_n hx hb dJ13_bitCount_95d88_42 rfl (lv_at hl 0 rfl) ?_
  refine lv_bipush (v := 16) hx hb dJ13_bitCount_95d88_43 (by decide) ?_
  refine lv_lushr hx hb dJ13_bitCount_95d88_45 rfl ?_
  refine lv_ladd hx hb dJ13_bitCount_95d88_46 ?_
  refine lv_lstore_n (lv' := [(0, .long (((((((p0 - ((((p0 : Int64).toUInt64 >>> ((1 : Int32).toInt64.toUInt64 &&& Int64.toUInt64 63)).toInt64) &&& 6148914691236517205)) &&& 3689348814741910323) + ((((p0 - ((((p0 : Int64).toUInt64 >>> ((1 : Int32).toInt64.toUInt64 &&& Int64.toUInt64 63)).toInt64) &&& 6148914691236517205) : Int64).toUInt64 >>> ((2 : Int32).toInt64.toUInt64 &&& Int64.toUInt64 63)).toInt64) &&& 3689348814741910323)) + (((((p0 - ((((p0 : Int64).toUInt64 >>> ((1 : Int32).toInt64.toUInt64 &&& Int64.toUInt64 63)).toInt64) &&& 6148914691236517205)) &&& 3689348814741910323) + ((((p0 - ((((p0 : Int64).toUInt64 >>> ((1 : Int32).toInt64.toUInt64 &&& Int64.toUInt64 63)).toInt64) &&& 6148914691236517205) : Int64).toUInt64 >>> ((2 : Int32).toInt64.toUInt64 &&& Int64.toUInt64 63)).toInt64) &&& 3689348814741910323) : Int64).toUInt64 >>> ((4 : Int32).toInt64.toUInt64 &&& Int64.toUInt64 63)).toInt64)) &&& 1085102592571150095) + (((((((p0 - ((((p0 : Int64).toUInt64 >>> ((1 : Int32).toInt64.toUInt64 &&& Int64.toUInt64 63)).toInt64) &&& 6148914691236517205)) &&& 3689348814741910323) + ((((p0 - ((((p0 : Int64).toUInt64 >>> ((1 : Int32).toInt64.toUInt64 &&& Int64.toUInt64 63)).toInt64) &&& 6148914691236517205) : Int64).toUInt64 >>> ((2 : Int32).toInt64.toUInt64 &&& Int64.toUInt64 63)).toInt64) &&& 3689348814741910323)) + (((((p0 - ((((p0 : Int64).toUInt64 >>> ((1 : Int32).toInt64.toUInt64 &&& Int64.toUInt64 63)).toInt64) &&& 6148914691236517205)) &&& 3689348814741910323) + ((((p0 - ((((p0 : Int64).toUInt64 >>> ((1 : Int32).toInt64.toUInt64 &&& Int64.toUInt64 63)).toInt64) &&& 6148914691236517205) : Int64).toUInt64 >>> ((2 : Int32).toInt64.toUInt64 &&& Int64.toUInt64 63)).toInt64) &&& 3689348814741910323) : Int64).toUInt64 >>> ((4 : Int32).toInt64.toUInt64 &&& Int64.toUInt64 63)).toInt64)) &&& 1085102592571150095 : Int64).toUInt64 >>> ((8 : Int32).toInt64.toUInt64 &&& Int64.toUInt64 63)).toInt64)) + ((((((((p0 - ((((p0 : Int64).toUInt64 >>> ((1 : Int32).toInt64.toUInt64 &&& Int64.toUInt64 63)).toInt64) &&& 6148914691236517205)) &&& 3689348814741910323) + ((((p0 - ((((p0 : Int64).toUInt64 >>> ((1 : Int32).toInt64.toUInt64 &&& Int64.toUInt64 63)).toInt64) &&& 6148914691236517205) : Int64).toUInt64 >>> ((2 : Int32).toInt64.toUInt64 &&& Int64.toUInt64 63)).toInt64) &&& 3689348814741910323)) + (((((p0 - ((((p0 : Int64).toUInt64 >>> ((1 : Int32).toInt64.toUInt64 &&& Int64.toUInt64 63)).toInt64) &&& 6148914691236517205)) &&& 3689348814741910323) + ((((p0 - ((((p0 : Int64).toUInt64 >>> ((1 : Int32).toInt64.toUInt64 &&& Int64.toUInt64 63)).toInt64) &&& 6148914691236517205) : Int64).toUInt64 >>> ((2 : Int32).toInt64.toUInt64 &&& Int64.toUInt64 63)).toInt64) &&& 3689348814741910323) : Int64).toUInt64 >>> ((4 : Int32).toInt64.toUInt64 &&& Int64.toUInt64 63)).toInt64)) &&& 1085102592571150095) + (((((((p0 - ((((p0 : Int64).toUInt64 >>> ((1 : Int32).toInt64.toUInt64 &&& Int64.toUInt64 63)).toInt64) &&& 6148914691236517205)) &&& 3689348814741910323) + ((((p0 - ((((p0 : Int64).toUInt64 >>> ((1 : Int32).toInt64.toUInt64 &&& Int64.toUInt64 63)).toInt64) &&& 6148914691236517205) : Int64).toUInt64 >>> ((2 : Int32).toInt64.toUInt64 &&& Int64.toUInt64 63)).toInt64) &&& 3689348814741910323)) + (((((p0 - ((((p0 : Int64).toUInt64 >>> ((1 : Int32).toInt64.toUInt64 &&& Int64.toUInt64 63)).toInt64) &&& 6148914691236517205)) &&& 3689348814741910323) + ((((p0 - ((((p0 : Int64).toUInt64 >>> ((1 : Int32).toInt64.toUInt64 &&& Int64.toUInt64 63)).toInt64) &&& 6148914691236517205) : Int64).toUInt64 >>> ((2 : Int32).toInt64.toUInt64 &&& Int64.toUInt64 63)).toInt64) &&& 3689348814741910323) : Int64).toUInt64 >>> ((4 : Int32).toInt64.toUInt64 &&& Int64.toUInt64 63)).toInt64)) &&& 1085102592571150095 : Int64).toUInt64 >>> ((8 : Int32).toInt64.toUInt64 &&& Int64.toUInt64 63)).toInt64) : Int64).toUInt64 >>> ((16 : Int32).toInt64.toUInt64 &&& Int64.toUInt64 63)).toInt64)))]) hx hb dJ13_bitCount_95d88_47 rfl hl (by decide) rfl (fun ls hl => ?_)
  refine lv_lload_n hx hb dJ13_bitCount_95d88_48 rfl (lv_at hl 0 rfl) ?_
  refine lv_lload_n hx hb dJ13_bitCount_95d88_49 rfl (lv_at hl 0 rfl) ?_
  refine lv_bipush (v := 32) hx hb dJ13_bitCount_95d88_50 (by decide) ?_
  refine lv_lushr hx hb dJ13_bitCount_95d88_52 rfl ?_
  refine lv_ladd hx hb dJ13_bitCount_95d88_53 ?_
  refine lv_lstore_n (lv' := [(0, .long ((((((((p0 - ((((p0 : Int64).toUInt64 >>> ((1 : Int32).toInt64.toUInt64 &&& Int64.toUInt64 63)).toInt64) &&& 6148914691236517205)) &&& 3689348814741910323) + ((((p0 - ((((p0 : Int64).toUInt64 >>> ((1 : Int32).toInt64.toUInt64 &&& Int64.toUInt64 63)).toInt64) &&& 6148914691236517205) : Int64).toUInt64 >>> ((2 : Int32).toInt64.toUInt64 &&& Int64.toUInt64 63)).toInt64) &&& 3689348814741910323)) + (((((p0 - ((((p0 : Int64).toUInt64 >>> ((1 : Int32).toInt64.toUInt64 &&& Int64.toUInt64 63)).toInt64) &&& 6148914691236517205)) &&& 3689348814741910323) + ((((p0 - ((((p0 : Int64).toUInt64 >>> ((1 : Int32).toInt64.toUInt64 &&& Int64.toUInt64 63)).toInt64) &&& 6148914691236517205) : Int64).toUInt64 >>> ((2 : Int32).toInt64.toUInt64 &&& Int64.toUInt64 63)).toInt64) &&& 3689348814741910323) : Int64).toUInt64 >>> ((4 : Int32).toInt64.toUInt64 &&& Int64.toUInt64 63)).toInt64)) &&& 1085102592571150095) + (((((((p0 - ((((p0 : Int64).toUInt64 >>> ((1 : Int32).toInt64.toUInt64 &&& Int64.toUInt64 63)).toInt64) &&& 6148914691236517205)) &&& 3689348814741910323) + ((((p0 - ((((p0 : Int64).toUInt64 >>> ((1 : Int32).toInt64.toUInt64 &&& Int64.toUInt64 63)).toInt64) &&& 6148914691236517205) : Int64).toUInt64 >>> ((2 : Int32).toInt64.toUInt64 &&& Int64.toUInt64 63)).toInt64) &&& 3689348814741910323)) + (((((p0 - ((((p0 : Int64).toUInt64 >>> ((1 : Int32).toInt64.toUInt64 &&& Int64.toUInt64 63)).toInt64) &&& 6148914691236517205)) &&& 3689348814741910323) + ((((p0 - ((((p0 : Int64).toUInt64 >>> ((1 : Int32).toInt64.toUInt64 &&& Int64.toUInt64 63)).toInt64) &&& 6148914691236517205) : Int64).toUInt64 >>> ((2 : Int32).toInt64.toUInt64 &&& Int64.toUInt64 63)).toInt64) &&& 3689348814741910323) : Int64).toUInt64 >>> ((4 : Int32).toInt64.toUInt64 &&& Int64.toUInt64 63)).toInt64)) &&& 1085102592571150095 : Int64).toUInt64 >>> ((8 : Int32).toInt64.toUInt64 &&& Int64.toUInt64 63)).toInt64)) + ((((((((p0 - ((((p0 : Int64).toUInt64 >>> ((1 : Int32).toInt64.toUInt64 &&& Int64.toUInt64 63)).toInt64) &&& 6148914691236517205)) &&& 3689348814741910323) + ((((p0 - ((((p0 : Int64).toUInt64 >>> ((1 : Int32).toInt64.toUInt64 &&& Int64.toUInt64 63)).toInt64) &&& 6148914691236517205) : Int64).toUInt64 >>> ((2 : Int32).toInt64.toUInt64 &&& Int64.toUInt64 63)).toInt64) &&& 3689348814741910323)) + (((((p0 - ((((p0 : Int64).toUInt64 >>> ((1 : Int32).toInt64.toUInt64 &&& Int64.toUInt64 63)).toInt64) &&& 6148914691236517205)) &&& 3689348814741910323) + ((((p0 - ((((p0 : Int64).toUInt64 >>> ((1 : Int32).toInt64.toUInt64 &&& Int64.toUInt64 63)).toInt64) &&& 6148914691236517205) : Int64).toUInt64 >>> ((2 : Int32).toInt64.toUInt64 &&& Int64.toUInt64 63)).toInt64) &&& 3689348814741910323) : Int64).toUInt64 >>> ((4 : Int32).toInt64.toUInt64 &&& Int64.toUInt64 63)).toInt64)) &&& 1085102592571150095) + (((((((p0 - ((((p0 : Int64).toUInt64 >>> ((1 : Int32).toInt64.toUInt64 &&& Int64.toUInt64 63)).toInt64) &&& 6148914691236517205)) &&& 3689348814741910323) + ((((p0 - ((((p0 : Int64).toUInt64 >>> ((1 : Int32).toInt64.toUInt64 &&& Int64.toUInt64 63)).toInt64) &&& 6148914691236517205) : Int64).toUInt64 >>> ((2 : Int32).toInt64.toUInt64 &&& Int64.toUInt64 63)).toInt64) &&& 3689348814741910323)) + (((((p0 - ((((p0 : Int64).toUInt64 >>> ((1 : Int32).toInt64.toUInt64 &&& Int64.toUInt64 63)).toInt64) &&& 6148914691236517205)) &&& 3689348814741910323) + ((((p0 - ((((p0 : Int64).toUInt64 >>> ((1 : Int32).toInt64.toUInt64 &&& Int64.toUInt64 63)).toInt64) &&& 6148914691236517205) : Int64).toUInt64 >>> ((2 : Int32).toInt64.toUInt64 &&& Int64.toUInt64 63)).toInt64) &&& 3689348814741910323) : Int64).toUInt64 >>> ((4 : Int32).toInt64.toUInt64 &&& Int64.toUInt64 63)).toInt64)) &&& 1085102592571150095 : Int64).toUInt64 >>> ((8 : Int32).toInt64.toUInt64 &&& Int64.toUInt64 63)).toInt64) : Int64).toUInt64 >>> ((16 : Int32).toInt64.toUInt64 &&& Int64.toUInt64 63)).toInt64)) + (((((((((p0 - ((((p0 : Int64).toUInt64 >>> ((1 : Int32).toInt64.toUInt64 &&& Int64.toUInt64 63)).toInt64) &&& 6148914691236517205)) &&& 3689348814741910323) + ((((p0 - ((((p0 : Int64).toUInt64 >>> ((1 : Int32).toInt64.toUInt64 &&& Int64.toUInt64 63)).toInt64) &&& 6148914691236517205) : Int64).toUInt64 >>> ((2 : Int32).toInt64.toUInt64 &&& Int64.toUInt64 63)).toInt64) &&& 3689348814741910323)) + (((((p0 - ((((p0 : Int64).toUInt64 >>> ((1 : Int32).toInt64.toUInt64 &&& Int64.toUInt64 63)).toInt64) &&& 6148914691236517205)) &&& 3689348814741910323) + ((((p0 - ((((p0 : Int64).toUInt64 >>> ((1 : Int32).toInt64.toUInt64 &&& Int64.toUInt64 63)).toInt64) &&& 6148914691236517205) : Int64).toUInt64 >>> ((2 : Int32).toInt64.toUInt64 &&& Int64.toUInt64 63)).toInt64) &&& 3689348814741910323) : Int64).toUInt64 >>> ((4 : Int32).toInt64.toUInt64 &&& Int64.toUInt64 63)).toInt64)) &&& 1085102592571150095) + (((((((p0 - ((((p0 : Int64).toUInt64 >>> ((1 : Int32).toInt64.toUInt64 &&& Int64.toUInt64 63)).toInt64) &&& 6148914691236517205)) &&& 3689348814741910323) + ((((p0 - ((((p0 : Int64).toUInt64 >>> ((1 : Int32).toInt64.toUInt64 &&& Int64.toUInt64 63)).toInt64) &&& 6148914691236517205) : Int64).toUInt64 >>> ((2 : Int32).toInt64.toUInt64 &&& Int64.toUInt64 63)).toInt64) &&& 3689348814741910323)) + (((((p0 - ((((p0 : Int64).toUInt64 >>> ((1 : Int32).toInt64.toUInt64 &&& Int64.toUInt64 63)).toInt64) &&& 6148914691236517205)) &&& 3689348814741910323) + ((((p0 - ((((p0 : Int64).toUInt64 >>> ((1 : Int32).toInt64.toUInt64 &&& Int64.toUInt64 63)).toInt64) &&& 6148914691236517205) : Int64).toUInt64 >>> ((2 : Int32).toInt64.toUInt64 &&& Int64.toUInt64 63)).toInt64) &&& 3689348814741910323) : Int64).toUInt64 >>> ((4 : Int32).toInt64.toUInt64 &&& Int64.toUInt64 63)).toInt64)) &&& 1085102592571150095 : Int64).toUInt64 >>> ((8 : Int32).toInt64.toUInt64 &&& Int64.toUInt64 63)).toInt64)) + ((((((((p0 - ((((p0 : Int64).toUInt64 >>> ((1 : Int32).toInt64.toUInt64 &&& Int64.toUInt64 63)).toInt64) &&& 6148914691236517205)) &&& 3689348814741910323) + ((((p0 - ((((p0 : Int64).toUInt64 >>> ((1 : Int32).toInt64.toUInt64 &&& Int64.toUInt64 63)).toInt64) &&& 6148914691236517205) : Int64).toUInt64 >>> ((2 : Int32).toInt64.toUInt64 &&& Int64.toUInt64 63)).toInt64) &&& 3689348814741910323)) + (((((p0 - ((((p0 : Int64).toUInt64 >>> ((1 : Int32).toInt64.toUInt64 &&& Int64.toUInt64 63)).toInt64) &&& 6148914691236517205)) &&& 3689348814741910323) + ((((p0 - ((((p0 : Int64).toUInt64 >>> ((1 : Int32).toInt64.toUInt64 &&& Int64.toUInt64 63)).toInt64) &&& 6148914691236517205) : Int64).toUInt64 >>> ((2 : Int32).toInt64.toUInt64 &&& Int64.toUInt64 63)).toInt64) &&& 3689348814741910323) : Int64).toUInt64 >>> ((4 : Int32).toInt64.toUInt64 &&& Int64.toUInt64 63)).toInt64)) &&& 1085102592571150095) + (((((((p0 - ((((p0 : Int64).toUInt64 >>> ((1 : Int32).toInt64.toUInt64 &&& Int64.toUInt64 63)).toInt64) &&& 6148914691236517205)) &&& 3689348814741910323) + ((((p0 - ((((p0 : Int64).toUInt64 >>> ((1 : Int32).toInt64.toUInt64 &&& Int64.toUInt64 63)).toInt64) &&& 6148914691236517205) : Int64).toUInt64 >>> ((2 : Int32).toInt64.toUInt64 &&& Int64.toUInt64 63)).toInt64) &&& 3689348814741910323)) + (((((p0 - ((((p0 : Int64).toUInt64 >>> ((1 : Int32).toInt64.toUInt64 &&& Int64.toUInt64 63)).toInt64) &&& 6148914691236517205)) &&& 3689348814741910323) + ((((p0 - ((((p0 : Int64).toUInt64 >>> ((1 : Int32).toInt64.toUInt64 &&& Int64.toUInt64 63)).toInt64) &&& 6148914691236517205) : Int64).toUInt64 >>> ((2 : Int32).toInt64.toUInt64 &&& Int64.toUInt64 63)).toInt64) &&& 3689348814741910323) : Int64).toUInt64 >>> ((4 : Int32).toInt64.toUInt64 &&& Int64.toUInt64 63)).toInt64)) &&& 1085102592571150095 : Int64).toUInt64 >>> ((8 : Int32).toInt64.toUInt64 &&& Int64.toUInt64 63)).toInt64) : Int64).toUInt64 >>> ((16 : Int32).toInt64.toUInt64 &&& Int64.toUInt64 63)).toInt64) : Int64).toUInt64 >>> ((32 : Int32).toInt64.toUInt64 &&& Int64.toUInt64 63)).toInt64)))]) hx hb dJ13_bitCount_95d88_54 rfl hl (by decide) rfl (fun ls hl => ?_)
  refine lv_lload_n hx hb dJ13_bitCount_95d88_55 rfl (lv_at hl 0 rfl) ?_
  refine lv_l2i hx hb dJ13_bitCount_95d88_56 rfl ?_
  refine lv_bipush (v := 127) hx hb dJ13_bitCount_95d88_57 (by decide) ?_
  refine lv_iand hx hb dJ13_bitCount_95d88_59 ?_
  cases hf
  exact kret _ _ _ _ hv dJ13_bitCount_95d88_60

def f_X4_remove (k : Nat) (p1 : Int32) (f_added : Int32) (f_presentSet : Int64) (f_acceptedSet : Int64) : Option (Except String (Int32 × Int64 × Int64)) := xe (f_X4_requireThere k p1 f_added f_presentSet) (fun _ => xb (f_X4_only k p1) (fun r2 => xb (f_X4_only k p1) (fun r4 => xb (f_J13_bitCount_95d88 k (f_presentSet &&& (r2 ^^^ (-1)))) (fun r6 => some (.ok (r6, f_presentSet &&& (r2 ^^^ (-1)), f_acceptedSet &&& (r4 ^^^ (-1))))))))
abbrev rm_X4_remove : Room := { frames := 7, cells := 1, slots := 6, locals := 111 }
set_option maxHeartbeats 4000000 in
set_option maxRecDepth 100000 in
theorem c_X4_remove (l : Launch) (hl9 : l.stackTraces = false) (G : va_G) (cy : ClassId × ClassId × ClassId) (k : Nat) (aT aT_begins aT_ends aT_weights aT_givenRooms aT_oneRoom aT_manyRooms : Nat) (f_added : Int32) (f_presentSet : Int64) (f_factor : Int32) (f_offeredSet : Int64) (f_acceptedSet : Int64) (f_dropped : Int32) (p1 : Int32) {o : Except String (Int32 × Int64 × Int64)} (hf : f_X4_remove k p1 f_added f_presentSet f_acceptedSet = some o) : Xi l yX4_remove wsX4_remove rm_X4_remove 1 6 G cy [.ref aT, .int p1] [(aT, .inr (4, [.ref aT_begins, .ref aT_ends, .ref aT_weights, .int f_added, .long f_presentSet, .int f_factor, .long f_offeredSet, .long f_acceptedSet, .int f_dropped, .ref aT_givenRooms, .ref aT_oneRoom, .ref aT_manyRooms]))] (kmo (fun (q : Int32 × Int64 × Int64) => (q.1, [(aT, .inr (4, [.ref aT_begins, .ref aT_ends, .ref aT_weights, .int f_added, .long q.2.1, .int f_factor, .long f_offeredSet, .long q.2.2, .int f_dropped, .ref aT_givenRooms, .ref aT_oneRoom, .ref aT_manyRooms]))])) o) := by
  refine kMetXI (cc := cX4_remove) (maxL := 2) (by decide) rfl (Nat.le_of_ble_eq_true rfl) ?_
  intro p e s m args below meth c Q A ls Qc hx hb hml hts hown hv hl kret hT htab hlocks
  replace hown : s.vm.findClass RX4 = some m.cls := hown
  replace hl : lv_has ls 2 [(0, .ref aT), (1, .int p1)] := hl
  have hk61 : (Cond.fieldLink RX4 61 "Roomcolour" "presentSet" "J").before args s = true := hts _ (by decide +kernel)
  have hinX4 : ∀ w ∈ wsX40, w ∈ wsX4_remove := by decide +kernel
  have hk73 : (Cond.constantLong RX4 73 (-1)).before args s = true := hts _ (by decide +kernel)
  have hk75 : (Cond.fieldLink RX4 75 "Roomcolour" "acceptedSet" "J").before args s = true := hts _ (by decide +kernel)
  unfold f_X4_remove at hf
  refine lv_aload_n hx hb dX4_remove_0 rfl (lv_at hl 0 rfl) ?_
  refine lv_iload_n hx hb dX4_remove_1 rfl (lv_at hl 1 rfl) ?_
  rcases xe_some hf with ⟨E8, hcl1, hf⟩ | ⟨_, hcl1, hf⟩
  · cases hf
    refine kXV_vE (E := E8) (wc := [(aT, .inr (4, [.ref aT_begins, .ref aT_ends, .ref aT_weights, .int f_added, .long f_presentSet, .int f_factor, .long f_offeredSet, .long f_acceptedSet, .int f_dropped, .ref aT_givenRooms, .ref aT_oneRoom, .ref aT_manyRooms]))]) ⟨hx, hb, hml, hown, hts⟩ (c_X4_requireThere l hl9 G cy k aT aT_begins aT_ends aT_weights aT_givenRooms aT_oneRoom aT_manyRooms f_added f_presentSet f_factor f_offeredSet f_acceptedSet f_dropped p1 hcl1) (cwV 1 hts gX4_remove_X4_requireThere rfl rfl rfl (by decide +kernel) ⟨Nat.le_of_ble_eq_true rfl, Nat.le_of_ble_eq_true rfl⟩) hv (isC := [0]) ⟨rfl, rfl⟩ (hv.recv 4 0 rfl rfl) rfl hl.1 rfl (Nat.le_of_ble_eq_true rfl) dX4_remove_2 ⟨Nat.le_of_ble_eq_true rfl, Nat.le_of_ble_eq_true rfl⟩ (fun ce q9 H locs hv hce hcv hcl => ?_)
    exact kOut hv hT htab hlocks rfl hce hcv hcl (by decide) (by decide)
  · refine kXV_v (wc := [(aT, .inr (4, [.ref aT_begins, .ref aT_ends, .ref aT_weights, .int f_added, .long f_presentSet, .int f_factor, .long f_offeredSet, .long f_acceptedSet, .int f_dropped, .ref aT_givenRooms, .ref aT_oneRoom, .ref aT_manyRooms]))]) (wc' := [(aT, .inr (4, [.ref aT_begins, .ref aT_ends, .ref aT_weights, .int f_added, .long f_presentSet, .int f_factor, .long f_offeredSet, .long f_acceptedSet, .int f_dropped, .ref aT_givenRooms, .ref aT_oneRoom, .ref aT_manyRooms]))]) (w2 := [(aT, .inr (4, [.ref aT_begins, .ref aT_ends, .ref aT_weights, .int f_added, .long f_presentSet, .int f_factor, .long f_offeredSet, .long f_acceptedSet, .int f_dropped, .ref aT_givenRooms, .ref aT_oneRoom, .ref aT_manyRooms]))]) ⟨hx, hb, hml, hown, hts⟩ (c_X4_requireThere l hl9 G cy k aT aT_begins aT_ends aT_weights aT_givenRooms aT_oneRoom aT_manyRooms f_added f_presentSet f_factor f_offeredSet f_acceptedSet f_dropped p1 hcl1) (cwV 1 hts gX4_remove_X4_requireThere rfl rfl rfl (by decide +kernel) ⟨Nat.le_of_ble_eq_true rfl, Nat.le_of_ble_eq_true rfl⟩) hv (isC := [0]) ⟨rfl, rfl⟩ (hv.recv 4 0 rfl rfl) [] [0] rfl rfl (by decide) rfl rfl rfl hl.1 rfl (Nat.le_of_ble_eq_true rfl) dX4_remove_2 ⟨Nat.le_of_ble_eq_true rfl, Nat.le_of_ble_eq_true rfl⟩ (fun H locs hv => ?_)
    refine lv_aload_n hx hb dX4_remove_5 rfl (lv_at hl 0 rfl) ?_
    refine lv_dup hx hb dX4_remove_6 rfl ?_
    refine kGet (v := .long f_presentSet) (C := RX4) (T := TX4) (N := 12) hx hb hts hinX4 hown hv 0 rfl rfl 4 (by decide) hk61 (fun _ h9 => h9) rfl dX4_remove_7 ?_
    refine lv_iload_n hx hb dX4_remove_10 rfl (lv_at hl 1 rfl) ?_
    obtain ⟨r2, hcl3, hf⟩ := xb_some hf
    refine kS_l (r := r2) ⟨hx, hb, hml, hown, hts⟩ (c_X4_only l G cy k p1 hcl3) (va_cwS 1 hts gX4_remove_X4_only rfl rfl rfl (by decide +kernel) ⟨Nat.le_of_ble_eq_true rfl, Nat.le_of_ble_eq_true rfl⟩) hv rfl hl.1 rfl (Nat.le_of_ble_eq_true rfl) dX4_remove_11 ⟨Nat.le_of_ble_eq_true rfl, Nat.le_of_ble_eq_true rfl⟩ (fun H locs hv => ?_)
    refine lv_ldc2 hx hb hown hk73 dX4_remove_14 ?_
    refine lv_lxor hx hb dX4_remove_17 ?_
    refine lv_land hx hb dX4_remove_18 ?_
    refine kPut (v := .long (f_presentSet &&& (r2 ^^^ (-1)))) (ty := .long) (C := RX4) (T := TX4) (N := 12) hx hb hts hinX4 tyX4 tyX4_ok nmX4 hown hv 0 rfl rfl 4 (by decide) hk61 (fun _ h9 => h9) rfl (by decide +kernel) rfl rfl (Nat.le_of_ble_eq_true rfl) dX4_remove_19 (fun H locs hv => ?_)
    replace hv : Hv s H locs G cy A [(aT, .inr (4, [.ref aT_begins, .ref aT_ends, .ref aT_weights, .int f_added, .long (f_presentSet &&& (r2 ^^^ (-1))), .int f_factor, .long f_offeredSet, .long f_acceptedSet, .int f_dropped, .ref aT_givenRooms, .ref aT_oneRoom, .ref aT_manyRooms]))] := hv
    refine lv_aload_n hx hb dX4_remove_22 rfl (lv_at hl 0 rfl) ?_
    refine lv_dup hx hb dX4_remove_23 rfl ?_
    refine kGet (v := .long f_acceptedSet) (C := RX4) (T := TX4) (N := 12) hx hb hts hinX4 hown hv 0 rfl rfl 7 (by decide) hk75 (fun _ h9 => h9) rfl dX4_remove_24 ?_
    refine lv_iload_n hx hb dX4_remove_27 rfl (lv_at hl 1 rfl) ?_
    obtain ⟨r4, hcl5, hf⟩ := xb_some hf
    refine kS_l (r := r4) ⟨hx, hb, hml, hown, hts⟩ (c_X4_only l G cy k p1 hcl5) (va_cwS 1 hts gX4_remove_X4_only rfl rfl rfl (by decide +kernel) ⟨Nat.le_of_ble_eq_true rfl, Nat.le_of_ble_eq_true rfl⟩) hv rfl hl.1 rfl (Nat.le_of_ble_eq_true rfl) dX4_remove_28 ⟨Nat.le_of_ble_eq_true rfl, Nat.le_of_ble_eq_true rfl⟩ (fun H locs hv => ?_)
    refine lv_ldc2 hx hb hown hk73 dX4_remove_31 ?_
    refine lv_lxor hx hb dX4_remove_34 ?_
    refine lv_land hx hb dX4_remove_35 ?_
    refine kPut (v := .long (f_acceptedSet &&& (r4 ^^^ (-1)))) (ty := .long) (C := RX4) (T := TX4) (N := 12) hx hb hts hinX4 tyX4 tyX4_ok nmX4 hown hv 0 rfl rfl 7 (by decide) hk75 (fun _ h9 => h9) rfl (by decide +kernel) rfl rfl (Nat.le_of_ble_eq_true rfl) dX4_remove_36 (fun H locs hv => ?_)
    replace hv : Hv s H locs G cy A [(aT, .inr (4, [.ref aT_begins, .ref aT_ends, .ref aT_weights, .int f_added, .long (f_presentSet &&& (r2 ^^^ (-1))), .int f_factor, .long f_offeredSet, .long (f_acceptedSet &&& (r4 ^^^ (-1))), .int f_dropped, .ref aT_givenRooms, .ref aT_oneRoom, .ref aT_manyRooms]))] := hv
    refine lv_aload_n hx hb dX4_remove_39 rfl (lv_at hl 0 rfl) ?_
    refine kGet (v := .long (f_presentSet &&& (r2 ^^^ (-1)))) (C := RX4) (T := TX4) (N := 12) hx hb hts hinX4 hown hv 0 rfl rfl 4 (by decide) hk61 (fun _ h9 => h9) rfl dX4_remove_40 ?_
    obtain ⟨r6, hcl7, hf⟩ := xb_some hf
    refine kS_i (r := r6) ⟨hx, hb, hml, hown, hts⟩ (c_J13_bitCount_95d88 l G cy k (f_presentSet &&& (r2 ^^^ (-1))) hcl7) (va_cwS 1 hts gX4_remove_J13_bitCount_95d88 rfl rfl rfl (by decide +kernel) ⟨Nat.le_of_ble_eq_true rfl, Nat.le_of_ble_eq_true rfl⟩) hv rfl hl.1 rfl (Nat.le_of_ble_eq_true rfl) dX4_remove_43 ⟨Nat.le_of_ble_eq_true rfl, Nat.le_of_ble_eq_true rfl⟩ (fun H locs hv => ?_)
    cases hf
    exact kret _ _ _ _ _ _ rfl hv dX4_remove_46

def f_X3_comesBehind (k : Nat) (p1 : Int32) (p2 : Int32) (p3 : Int32) (f_byEnd : Int32) (A_begins : Nat → Int32) (A_ends : Nat → Int32) : Option (Int32) := if f_byEnd = 0 then xi p1 40 (if (A_begins p1.toNatClampNeg) ≤ p2 then some 0 else some 1) else xi p1 40 (if (A_ends p1.toNatClampNeg) ≤ p3 then some 0 else some 1)
abbrev rm_X3_comesBehind : Room := { frames := 0, cells := 0, slots := 0, locals := 0 }
set_option maxHeartbeats 4000000 in
set_option maxRecDepth 100000 in
theorem c_X3_comesBehind (l : Launch) (G : va_G) (cy : ClassId × ClassId × ClassId) (k : Nat) (aT aT_numbers aT_begins aT_ends aT_weights : Nat) (f_byEnd : Int32) (f_count : Int32) (A_begins : Nat → Int32) (A_ends : Nat → Int32) (p1 : Int32) (p2 : Int32) (p3 : Int32) {r : Int32} (hf : f_X3_comesBehind k p1 p2 p3 f_byEnd A_begins A_ends = some r) : Ci l yX3_comesBehind wsX3_comesBehind rm_X3_comesBehind 0 0 G cy [.ref aT, .int p1, .int p2, .int p3] [(aT, .inr (3, [.int f_byEnd, .ref aT_numbers, .ref aT_begins, .ref aT_ends, .ref aT_weights, .int f_count])), (aT_begins, .inl (cy.1, 40, .inl A_begins)), (aT_ends, .inl (cy.1, 40, .inl A_ends))] [(aT, .inr (3, [.int f_byEnd, .ref aT_numbers, .ref aT_begins, .ref aT_ends, .ref aT_weights, .int f_count])), (aT_begins, .inl (cy.1, 40, .inl A_begins)), (aT_ends, .inl (cy.1, 40, .inl A_ends))] r := by
  refine kMetZ (cc := cX3_comesBehind) (maxL := 4) (by decide) rfl (Nat.le_of_ble_eq_true rfl) ?_
  intro p e s m args below meth c Q A ls hx hb hml hts hown hv hl kret
  replace hown : s.vm.findClass RX3 = some m.cls := hown
  replace hl : lv_has ls 4 [(0, .ref aT), (1, .int p1), (2, .int p2), (3, .int p3)] := hl
  have hk9 : (Cond.fieldLink RX3 9 "Roomcolour$Row" "byEnd" "Z").before args s = true := hts _ (by decide +kernel)
  have hinX3 : ∀ w ∈ wsX30, w ∈ wsX3_comesBehind := by decide +kernel
  have hk19 : (Cond.fieldLink RX3 19 "Roomcolour$Row" "begins" "[I").before args s = true := hts _ (by decide +kernel)
  have hk22 : (Cond.fieldLink RX3 22 "Roomcolour$Row" "ends" "[I").before args s = true := hts _ (by decide +kernel)
  unfold f_X3_comesBehind at hf
  refine lv_aload_n hx hb dX3_comesBehind_0 rfl (lv_at hl 0 rfl) ?_
  refine kGet (v := .int f_byEnd) (C := RX3) (T := TX3) (N := 6) hx hb hts hinX3 hown hv 0 rfl rfl 0 (by decide) hk9 (fun _ h9 => h9) rfl dX3_comesBehind_1 ?_
  refine lv_if_eq (tgt := 25) hx hb dX3_comesBehind_4 (by decide) (fun hc1 => ?_) (fun hc1 => ?_)
  · replace hf := ite_t hf hc1
    refine lv_aload_n hx hb dX3_comesBehind_25 rfl (lv_at hl 0 rfl) ?_
    refine kGet (v := .ref aT_begins) (C := RX3) (T := TX3) (N := 6) hx hb hts hinX3 hown hv 0 rfl rfl 2 (by decide) hk19 (fun _ h9 => h9) rfl dX3_comesBehind_26 ?_
    refine lv_iload_n hx hb dX3_comesBehind_29 rfl (lv_at hl 1 rfl) ?_
    obtain ⟨hi2, hf⟩ := xi_some hf
    refine kIald hx hb hv 1 rfl hi2 dX3_comesBehind_30 ?_
    refine lv_iload_n hx hb dX3_comesBehind_31 rfl (lv_at hl 2 rfl) ?_
    refine lv_icmp_le (tgt := 39) hx hb dX3_comesBehind_32 (by decide) (fun hc3 => ?_) (fun hc3 => ?_)
    · replace hf := ite_t hf hc3
      refine lv_iconst (v := 0) hx hb dX3_comesBehind_39 (by decide) ?_
      cases hf
      exact kret _ _ _ _ hv dX3_comesBehind_40 rfl
    · replace hf := ite_f hf hc3
      refine lv_iconst (v := 1) hx hb dX3_comesBehind_35 (by decide) ?_
      refine lv_goto (tgt := 40) hx hb dX3_comesBehind_36 (by decide) ?_
      cases hf
      exact kret _ _ _ _ hv dX3_comesBehind_40 rfl
  · replace hf := ite_f hf hc1
    refine lv_aload_n hx hb dX3_comesBehind_7 rfl (lv_at hl 0 rfl) ?_
    refine kGet (v := .ref aT_ends) (C := RX3) (T := TX3) (N := 6) hx hb hts hinX3 hown hv 0 rfl rfl 3 (by decide) hk22 (fun _ h9 => h9) rfl dX3_comesBehind_8 ?_
    refine lv_iload_n hx hb dX3_comesBehind_11 rfl (lv_at hl 1 rfl) ?_
    obtain ⟨hi4, hf⟩ := xi_some hf
    refine kIald hx hb hv 2 rfl hi4 dX3_comesBehind_12 ?_
    refine lv_iload_n hx hb dX3_comesBehind_13 rfl (lv_at hl 3 rfl) ?_
    refine lv_icmp_le (tgt := 21) hx hb dX3_comesBehind_14 (by decide) (fun hc5 => ?_) (fun hc5 => ?_)
    · replace hf := ite_t hf hc5
      refine lv_iconst (v := 0) hx hb dX3_comesBehind_21 (by decide) ?_
      refine lv_goto (tgt := 40) hx hb dX3_comesBehind_22 (by decide) ?_
      cases hf
      exact kret _ _ _ _ hv dX3_comesBehind_40 rfl
    · replace hf := ite_f hf hc5
      refine lv_iconst (v := 1) hx hb dX3_comesBehind_17 (by decide) ?_
      refine lv_goto (tgt := 40) hx hb dX3_comesBehind_18 (by decide) ?_
      cases hf
      exact kret _ _ _ _ hv dX3_comesBehind_40 rfl

def f_X3_shiftUp (k : Nat) (p1 : Int32) (A_numbers : Nat → Int32) (A_begins : Nat → Int32) (A_ends : Nat → Int32) (A_weights : Nat → Int32) : Option ((Nat → Int32) × (Nat → Int32) × (Nat → Int32) × (Nat → Int32)) := xi p1 40 (xi (p1 + 1) 40 (xi p1 40 (xi (p1 + 1) 40 (xi p1 40 (xi (p1 + 1) 40 (xi p1 40 (xi (p1 + 1) 40 (some (upd A_numbers (p1 + 1).toNatClampNeg (A_numbers p1.toNatClampNeg), upd A_begins (p1 + 1).toNatClampNeg (A_begins p1.toNatClampNeg), upd A_ends (p1 + 1).toNatClampNeg (A_ends p1.toNatClampNeg), upd A_weights (p1 + 1).toNatClampNeg (A_weights p1.toNatClampNeg))))))))))
abbrev rm_X3_shiftUp : Room := { frames := 0, cells := 0, slots := 0, locals := 0 }
set_option maxHeartbeats 4000000 in
set_option maxRecDepth 100000 in
theorem c_X3_shiftUp (l : Launch) (G : va_G) (cy : ClassId × ClassId × ClassId) (k : Nat) (aT aT_numbers aT_begins aT_ends aT_weights : Nat) (f_byEnd : Int32) (f_count : Int32) (A_numbers : Nat → Int32) (A_begins : Nat → Int32) (A_ends : Nat → Int32) (A_weights : Nat → Int32) (p1 : Int32) {wA_numbers : Nat → Int32} {wA_begins : Nat → Int32} {wA_ends : Nat → Int32} {wA_weights : Nat → Int32} (hf : f_X3_shiftUp k p1 A_numbers A_begins A_ends A_weights = some (wA_numbers, wA_begins, wA_ends, wA_weights)) : Cv l yX3_shiftUp wsX3_shiftUp rm_X3_shiftUp 0 0 G cy [.ref aT, .int p1] [(aT, .inr (3, [.int f_byEnd, .ref aT_numbers, .ref aT_begins, .ref aT_ends, .ref aT_weights, .int f_count])), (aT_numbers, .inl (cy.1, 40, .inl A_numbers)), (aT_begins, .inl (cy.1, 40, .inl A_begins)), (aT_ends, .inl (cy.1, 40, .inl A_ends)), (aT_weights, .inl (cy.1, 40, .inl A_weights))] [(aT, .inr (3, [.int f_byEnd, .ref aT_numbers, .ref aT_begins, .ref aT_ends, .ref aT_weights, .int f_count])), (aT_numbers, .inl (cy.1, 40, .inl wA_numbers)), (aT_begins, .inl (cy.1, 40, .inl wA_begins)), (aT_ends, .inl (cy.1, 40, .inl wA_ends)), (aT_weights, .inl (cy.1, 40, .inl wA_weights))] := by
  refine kMetV (cc := cX3_shiftUp) (maxL := 2) (by decide) rfl (Nat.le_of_ble_eq_true rfl) ?_
  intro p e s m args below meth c Q A ls hx hb hml hts hown hv hl kret
  replace hown : s.vm.findClass RX3 = some m.cls := hown
  replace hl : lv_has ls 2 [(0, .ref aT), (1, .int p1)] := hl
  have hk15 : (Cond.fieldLink RX3 15 "Roomcolour$Row" "numbers" "[I").before args s = true := hts _ (by decide +kernel)
  have hinX3 : ∀ w ∈ wsX30, w ∈ wsX3_shiftUp := by decide +kernel
  have hk19 : (Cond.fieldLink RX3 19 "Roomcolour$Row" "begins" "[I").before args s = true := hts _ (by decide +kernel)
  have hk22 : (Cond.fieldLink RX3 22 "Roomcolour$Row" "ends" "[I").before args s = true := hts _ (by decide +kernel)
  have hk25 : (Cond.fieldLink RX3 25 "Roomcolour$Row" "weights" "[I").before args s = true := hts _ (by decide +kernel)
  unfold f_X3_shiftUp at hf
  refine lv_aload_n hx hb dX3_shiftUp_0 rfl (lv_at hl 0 rfl) ?_
  refine kGet (v := .ref aT_numbers) (C := RX3) (T := TX3) (N := 6) hx hb hts hinX3 hown hv 0 rfl rfl 1 (by decide) hk15 (fun _ h9 => h9) rfl dX3_shiftUp_1 ?_
  refine lv_iload_n hx hb dX3_shiftUp_4 rfl (lv_at hl 1 rfl) ?_
  refine lv_iconst (v := 1) hx hb dX3_shiftUp_5 (by decide) ?_
  refine lv_iadd hx hb dX3_shiftUp_6 ?_
  refine lv_aload_n hx hb dX3_shiftUp_7 rfl (lv_at hl 0 rfl) ?_
  refine kGet (v := .ref aT_numbers) (C := RX3) (T := TX3) (N := 6) hx hb hts hinX3 hown hv 0 rfl rfl 1 (by decide) hk15 (fun _ h9 => h9) rfl dX3_shiftUp_8 ?_
  refine lv_iload_n hx hb dX3_shiftUp_11 rfl (lv_at hl 1 rfl) ?_
  obtain ⟨hi1, hf⟩ := xi_some hf
  refine kIald hx hb hv 1 rfl hi1 dX3_shiftUp_12 ?_
  obtain ⟨hi2, hf⟩ := xi_some hf
  refine kIast hx hb hv 1 rfl hi2 dX3_shiftUp_13 (fun H locs hv => ?_)
  replace hv : Hv s H locs G cy A [(aT, .inr (3, [.int f_byEnd, .ref aT_numbers, .ref aT_begins, .ref aT_ends, .ref aT_weights, .int f_count])), (aT_numbers, .inl (cy.1, 40, .inl (upd A_numbers (p1 + 1).toNatClampNeg (A_numbers p1.toNatClampNeg)))), (aT_begins, .inl (cy.1, 40, .inl A_begins)), (aT_ends, .inl (cy.1, 40, .inl A_ends)), (aT_weights, .inl (cy.1, 40, .inl A_weights))] := hv
  refine lv_aload_n hx hb dX3_shiftUp_14 rfl (lv_at hl 0 rfl) ?_
  refine kGet (v := .ref aT_begins) (C := RX3) (T := TX3) (N := 6) hx hb hts hinX3 hown hv 0 rfl rfl 2 (by decide) hk19 (fun _ h9 => h9) rfl dX3_shiftUp_15 ?_
  refine lv_iload_n hx hb dX3_shiftUp_18 rfl (lv_at hl 1 rfl) ?_
  refine lv_iconst (v := 1) hx hb dX3_shiftUp_19 (by decide) ?_
  refine lv_iadd hx hb dX3_shiftUp_20 ?_
  refine lv_aload_n hx hb dX3_shiftUp_21 rfl (lv_at hl 0 rfl) ?_
  refine kGet (v := .ref aT_begins) (C := RX3) (T := TX3) (N := 6) hx hb hts hinX3 hown hv 0 rfl rfl 2 (by decide) hk19 (fun _ h9 => h9) rfl dX3_shiftUp_22 ?_
  refine lv_iload_n hx hb dX3_shiftUp_25 rfl (lv_at hl 1 rfl) ?_
  obtain ⟨hi3, hf⟩ := xi_some hf
  refine kIald hx hb hv 2 rfl hi3 dX3_shiftUp_26 ?_
  obtain ⟨hi4, hf⟩ := xi_some hf
  refine kIast hx hb hv 2 rfl hi4 dX3_shiftUp_27 (fun H locs hv => ?_)
  replace hv : Hv s H locs G cy A [(aT, .inr (3, [.int f_byEnd, .ref aT_numbers, .ref aT_begins, .ref aT_ends, .ref aT_weights, .int f_count])), (aT_numbers, .inl (cy.1, 40, .inl (upd A_numbers (p1 + 1).toNatClampNeg (A_numbers p1.toNatClampNeg)))), (aT_begins, .inl (cy.1, 40, .inl (upd A_begins (p1 + 1).toNatClampNeg (A_begins p1.toNatClampNeg)))), (aT_ends, .inl (cy.1, 40, .inl A_ends)), (aT_weights, .inl (cy.1, 40, .inl A_weights))] := hv
  refine lv_aload_n hx hb dX3_shiftUp_28 rfl (lv_at hl 0 rfl) ?_
  refine kGet (v := .ref aT_ends) (C := RX3) (T := TX3) (N := 6) hx hb hts hinX3 hown hv 0 rfl rfl 3 (by decide) hk22 (fun _ h9 => h9) rfl dX3_shiftUp_29 ?_
  refine lv_iload_n hx hb dX3_shiftUp_32 rfl (lv_at hl 1 rfl) ?_
  refine lv_iconst (v := 1) hx hb dX3_shiftUp_33 (by decide) ?_
  refine lv_iadd hx hb dX3_shiftUp_34 ?_
  refine lv_aload_n hx hb dX3_shiftUp_35 rfl (lv_at hl 0 rfl) ?_
  refine kGet (v := .ref aT_ends) (C := RX3) (T := TX3) (N := 6) hx hb hts hinX3 hown hv 0 rfl rfl 3 (by decide) hk22 (fun _ h9 => h9) rfl dX3_shiftUp_36 ?_
  refine lv_iload_n hx hb dX3_shiftUp_39 rfl (lv_at hl 1 rfl) ?_
  obtain ⟨hi5, hf⟩ := xi_some hf
  refine kIald hx hb hv 3 rfl hi5 dX3_shiftUp_40 ?_
  obtain ⟨hi6, hf⟩ := xi_some hf
  refine kIast hx hb hv 3 rfl hi6 dX3_shiftUp_41 (fun H locs hv => ?_)
  replace hv : Hv s H locs G cy A [(aT, .inr (3, [.int f_byEnd, .ref aT_numbers, .ref aT_begins, .ref aT_ends, .ref aT_weights, .int f_count])), (aT_numbers, .inl (cy.1, 40, .inl (upd A_numbers (p1 + 1).toNatClampNeg (A_numbers p1.toNatClampNeg)))), (aT_begins, .inl (cy.1, 40, .inl (upd A_begins (p1 + 1).toNatClampNeg (A_begins p1.toNatClampNeg)))), (aT_ends, .inl (cy.1, 40, .inl (upd A_ends (p1 + 1).toNatClampNeg (A_ends p1.toNatClampNeg)))), (aT_weights, .inl (cy.1, 40, .inl A_weights))] := hv
  refine lv_aload_n hx hb dX3_shiftUp_42 rfl (lv_at hl 0 rfl) ?_
  refine kGet (v := .ref aT_weights) (C := RX3) (T := TX3) (N := 6) hx hb hts hinX3 hown hv 0 rfl rfl 4 (by decide) hk25 (fun _ h9 => h9) rfl dX3_shiftUp_43 ?_
  refine lv_iload_n hx hb dX3_shiftUp_46 rfl (lv_at hl 1 rfl) ?_
  refine lv_iconst (v := 1) hx hb dX3_shiftUp_47 (by decide) ?_
  refine lv_iadd hx hb dX3_shiftUp_48 ?_
  refine lv_aload_n hx hb dX3_shiftUp_49 rfl (lv_at hl 0 rfl) ?_
  refine kGet (v := .ref aT_weights) (C := RX3) (T := TX3) (N := 6) hx hb hts hinX3 hown hv 0 rfl rfl 4 (by decide) hk25 (fun _ h9 => h9) rfl dX3_shiftUp_50 ?_
  refine lv_iload_n hx hb dX3_shiftUp_53 rfl (lv_at hl 1 rfl) ?_
  obtain ⟨hi7, hf⟩ := xi_some hf
  refine kIald hx hb hv 4 rfl hi7 dX3_shiftUp_54 ?_
  obtain ⟨hi8, hf⟩ := xi_some hf
  refine kIast hx hb hv 4 rfl hi8 dX3_shiftUp_55 (fun H locs hv => ?_)
  replace hv : Hv s H locs G cy A [(aT, .inr (3, [.int f_byEnd, .ref aT_numbers, .ref aT_begins, .ref aT_ends, .ref aT_weights, .int f_count])), (aT_numbers, .inl (cy.1, 40, .inl (upd A_numbers (p1 + 1).toNatClampNeg (A_numbers p1.toNatClampNeg)))), (aT_begins, .inl (cy.1, 40, .inl (upd A_begins (p1 + 1).toNatClampNeg (A_begins p1.toNatClampNeg)))), (aT_ends, .inl (cy.1, 40, .inl (upd A_ends (p1 + 1).toNatClampNeg (A_ends p1.toNatClampNeg)))), (aT_weights, .inl (cy.1, 40, .inl (upd A_weights (p1 + 1).toNatClampNeg (A_weights p1.toNatClampNeg))))] := hv
  cases hf
  exact kret _ _ _ _ hv dX3_shiftUp_56

def f_X3_put_L16 (k : Nat) (v1 : Int32) (v2 : Int32) (v3 : Int32) (v4 : Int32) (f_byEnd : Int32) (κ : Int32 → (Nat → Int32) → (Nat → Int32) → (Nat → Int32) → (Nat → Int32) → Option (Int32 × (Nat → Int32) × (Nat → Int32) × (Nat → Int32) × (Nat → Int32))) : Nat → Int32 → (Nat → Int32) → (Nat → Int32) → (Nat → Int32) → (Nat → Int32) → Option (Int32 × (Nat → Int32) × (Nat → Int32) × (Nat → Int32) × (Nat → Int32))
  | 0, _, _, _, _, _ => none
  | n + 1, v5, A_numbers, A_begins, A_ends, A_weights => if v5 ≤ 0 then κ v5 A_numbers A_begins A_ends A_weights else xb (f_X3_comesBehind k (v5 - 1) v2 v3 f_byEnd A_begins A_ends) (fun r3 => if r3 = 0 then κ v5 A_numbers A_begins A_ends A_weights else xb (f_X3_shiftUp k (v5 - 1) A_numbers A_begins A_ends A_weights) (fun (A_numbers_6, A_begins_7, A_ends_8, A_weights_9) => f_X3_put_L16 k v1 v2 v3 v4 f_byEnd κ n (v5 + (-1)) A_numbers_6 A_begins_7 A_ends_8 A_weights_9))
theorem f_X3_put_L16_z (k : Nat) (v1 : Int32) (v2 : Int32) (v3 : Int32) (v4 : Int32) (f_byEnd : Int32) (κ : Int32 → (Nat → Int32) → (Nat → Int32) → (Nat → Int32) → (Nat → Int32) → Option (Int32 × (Nat → Int32) × (Nat → Int32) × (Nat → Int32) × (Nat → Int32))) (v5 : Int32) (A_numbers : Nat → Int32) (A_begins : Nat → Int32) (A_ends : Nat → Int32) (A_weights : Nat → Int32) : f_X3_put_L16 k v1 v2 v3 v4 f_byEnd κ 0 v5 A_numbers A_begins A_ends A_weights = none := rfl
theorem f_X3_put_L16_s (k : Nat) (v1 : Int32) (v2 : Int32) (v3 : Int32) (v4 : Int32) (f_byEnd : Int32) (κ : Int32 → (Nat → Int32) → (Nat → Int32) → (Nat → Int32) → (Nat → Int32) → Option (Int32 × (Nat → Int32) × (Nat → Int32) × (Nat → Int32) × (Nat → Int32))) (n : Nat) (v5 : Int32) (A_numbers : Nat → Int32) (A_begins : Nat → Int32) (A_ends : Nat → Int32) (A_weights : Nat → Int32) : f_X3_put_L16 k v1 v2 v3 v4 f_byEnd κ (n + 1) v5 A_numbers A_begins A_ends A_weights = if v5 ≤ 0 then κ v5 A_numbers A_begins A_ends A_weights else xb (f_X3_comesBehind k (v5 - 1) v2 v3 f_byEnd A_begins A_ends) (fun r3 => if r3 = 0 then κ v5 A_numbers A_begins A_ends A_weights else xb (f_X3_shiftUp k (v5 - 1) A_numbers A_begins A_ends A_weights) (fun (A_numbers_6, A_begins_7, A_ends_8, A_weights_9) => f_X3_put_L16 k v1 v2 v3 v4 f_byEnd κ n (v5 + (-1)) A_numbers_6 A_begins_7 A_ends_8 A_weights_9)) := rfl
def f_X3_put (k : Nat) (p1 : Int32) (p2 : Int32) (p3 : Int32) (p4 : Int32) (f_byEnd : Int32) (f_count : Int32) (A_numbers : Nat → Int32) (A_begins : Nat → Int32) (A_ends : Nat → Int32) (A_weights : Nat → Int32) : Option (Int32 × (Nat → Int32) × (Nat → Int32) × (Nat → Int32) × (Nat → Int32)) := if f_count < 40 then f_X3_put_L16 k p1 p2 p3 p4 f_byEnd (fun (v5_11 : Int32) (A_numbers_12 : Nat → Int32) (A_begins_13 : Nat → Int32) (A_ends_14 : Nat → Int32) (A_weights_15 : Nat → Int32) => xi v5_11 40 (xi v5_11 40 (xi v5_11 40 (xi v5_11 40 (some (f_count + 1, upd A_numbers_12 v5_11.toNatClampNeg p1, upd A_begins_13 v5_11.toNatClampNeg p2, upd A_ends_14 v5_11.toNatClampNeg p3, upd A_weights_15 v5_11.toNatClampNeg p4)))))) k f_count A_numbers A_begins A_ends A_weights else some (f_count, A_numbers, A_begins, A_ends, A_weights)
abbrev rm_X3_put : Room := { frames := 1, cells := 0, slots := 0, locals := 23 }
set_option maxHeartbeats 4000000 in
set_option maxRecDepth 100000 in
theorem c_X3_put (l : Launch) (G : va_G) (cy : ClassId × ClassId × ClassId) (k : Nat) (aT aT_numbers aT_begins aT_ends aT_weights : Nat) (f_byEnd : Int32) (f_count : Int32) (A_numbers : Nat → Int32) (A_begins : Nat → Int32) (A_ends : Nat → Int32) (A_weights : Nat → Int32) (p1 : Int32) (p2 : Int32) (p3 : Int32) (p4 : Int32) {wf_count : Int32} {wA_numbers : Nat → Int32} {wA_begins : Nat → Int32} {wA_ends : Nat → Int32} {wA_weights : Nat → Int32} (hf : f_X3_put k p1 p2 p3 p4 f_byEnd f_count A_numbers A_begins A_ends A_weights = some (wf_count, wA_numbers, wA_begins, wA_ends, wA_weights)) : Cv l yX3_put wsX3_put rm_X3_put 0 0 G cy [.ref aT, .int p1, .int p2, .int p3, .int p4] [(aT, .inr (3, [.int f_byEnd, .ref aT_numbers, .ref aT_begins, .ref aT_ends, .ref aT_weights, .int f_count])), (aT_numbers, .inl (cy.1, 40, .inl A_numbers)), (aT_begins, .inl (cy.1, 40, .inl A_begins)), (aT_ends, .inl (cy.1, 40, .inl A_ends)), (aT_weights, .inl (cy.1, 40, .inl A_weights))] [(aT, .inr (3, [.int f_byEnd, .ref aT_numbers, .ref aT_begins, .ref aT_ends, .ref aT_weights, .int wf_count])), (aT_numbers, .inl (cy.1, 40, .inl wA_numbers)), (aT_begins, .inl (cy.1, 40, .inl wA_begins)), (aT_ends, .inl (cy.1, 40, .inl wA_ends)), (aT_weights, .inl (cy.1, 40, .inl wA_weights))] := by
  refine kMetV (cc := cX3_put) (maxL := 6) (by decide) rfl (Nat.le_of_ble_eq_true rfl) ?_
  intro p e s m args below meth c Q A ls hx hb hml hts hown hv hl kret
  replace hown : s.vm.findClass RX3 = some m.cls := hown
  replace hl : lv_has ls 6 [(0, .ref aT), (1, .int p1), (2, .int p2), (3, .int p3), (4, .int p4)] := hl
  have hk28 : (Cond.fieldLink RX3 28 "Roomcolour$Row" "count" "I").before args s = true := hts _ (by decide +kernel)
  have hinX3 : ∀ w ∈ wsX30, w ∈ wsX3_put := by decide +kernel
  have hk15 : (Cond.fieldLink RX3 15 "Roomcolour$Row" "numbers" "[I").before args s = true := hts _ (by decide +kernel)
  have hk19 : (Cond.fieldLink RX3 19 "Roomcolour$Row" "begins" "[I").before args s = true := hts _ (by decide +kernel)
  have hk22 : (Cond.fieldLink RX3 22 "Roomcolour$Row" "ends" "[I").before args s = true := hts _ (by decide +kernel)
  have hk25 : (Cond.fieldLink RX3 25 "Roomcolour$Row" "weights" "[I").before args s = true := hts _ (by decide +kernel)
  have L16 : ∀ (v1 : Int32) (v2 : Int32) (v3 : Int32) (v4 : Int32) (f_byEnd : Int32) (κ : Int32 → (Nat → Int32) → (Nat → Int32) → (Nat → Int32) → (Nat → Int32) → Option (Int32 × (Nat → Int32) × (Nat → Int32) × (Nat → Int32) × (Nat → Int32))) (n : Nat) (v5 : Int32) (A_numbers : Nat → Int32) (A_begins : Nat → Int32) (A_ends : Nat → Int32) (A_weights : Nat → Int32), f_X3_put_L16 k v1 v2 v3 v4 f_byEnd κ n v5 A_numbers A_begins A_ends A_weights = some (wf_count, wA_numbers, wA_begins, wA_ends, wA_weights) → ∀ (H : Heap) (locs : List Loc) (ls : Array Slot), Hv s H locs G cy A [(aT, .inr (3, [.int f_byEnd, .ref aT_numbers, .ref aT_begins, .ref aT_ends, .ref aT_weights, .int f_count])), (aT_numbers, .inl (cy.1, 40, .inl A_numbers)), (aT_begins, .inl (cy.1, 40, .inl A_begins)), (aT_ends, .inl (cy.1, 40, .inl A_ends)), (aT_weights, .inl (cy.1, 40, .inl A_weights))] → lv_has ls 6 [(0, .ref aT), (1, .int v1), (2, .int v2), (3, .int v3), (4, .int v4), (5, .int v5)] → (∀ (v5 : Int32) (A_numbers : Nat → Int32) (A_begins : Nat → Int32) (A_ends : Nat → Int32) (A_weights : Nat → Int32), κ v5 A_numbers A_begins A_ends A_weights = some (wf_count, wA_numbers, wA_begins, wA_ends, wA_weights) → ∀ (H : Heap) (locs : List Loc) (ls : Array Slot), Hv s H locs G cy A [(aT, .inr (3, [.int f_byEnd, .ref aT_numbers, .ref aT_begins, .ref aT_ends, .ref aT_weights, .int f_count])), (aT_numbers, .inl (cy.1, 40, .inl A_numbers)), (aT_begins, .inl (cy.1, 40, .inl A_begins)), (aT_ends, .inl (cy.1, 40, .inl A_ends)), (aT_weights, .inl (cy.1, 40, .inl A_weights))] → lv_has ls 6 [(0, .ref aT), (1, .int v1), (2, .int v2), (3, .int v3), (4, .int v4), (5, .int v5)] → W p l e rm_X3_put s m args below meth c H locs 0 0 Q (F0 m 48 ls [])) → W p l e rm_X3_put s m args below meth c H locs 0 0 Q (F0 m 16 ls []) := by
    intro v1 v2 v3 v4 f_byEnd κ n
    induction n with
    | zero =>
      intro v5 A_numbers A_begins A_ends A_weights hf
      rw [f_X3_put_L16_z] at hf
      cases hf
    | succ n ih =>
      intro v5 A_numbers A_begins A_ends A_weights hf H locs ls hv hl hκ
      rw [f_X3_put_L16_s] at hf
      refine lv_iload hx hb dX3_put_16 (lv_at hl 5 rfl) ?_
      refine lv_if_le (tgt := 48) hx hb dX3_put_18 (by decide) (fun hc2 => ?_) (fun hc2 => ?_)
      · replace hf := ite_t hf hc2
        exact hκ v5 A_numbers A_begins A_ends A_weights hf _ _ _ hv (lv_sub hl [0, 1, 2, 3, 4, 5] rfl)
      · replace hf := ite_f hf hc2
        refine lv_aload_n hx hb dX3_put_21 rfl (lv_at hl 0 rfl) ?_
        refine lv_iload hx hb dX3_put_22 (lv_at hl 5 rfl) ?_
        refine lv_iconst (v := 1) hx hb dX3_put_24 (by decide) ?_
        refine lv_isub hx hb dX3_put_25 ?_
        refine lv_iload_n hx hb dX3_put_26 rfl (lv_at hl 2 rfl) ?_
        refine lv_iload_n hx hb dX3_put_27 rfl (lv_at hl 3 rfl) ?_
        obtain ⟨r3, hcl4, hf⟩ := xb_some hf
        refine kV_i (r := r3) (w2 := [(aT, .inr (3, [.int f_byEnd, .ref aT_numbers, .ref aT_begins, .ref aT_ends, .ref aT_weights, .int f_count])), (aT_numbers, .inl (cy.1, 40, .inl A_numbers)), (aT_begins, .inl (cy.1, 40, .inl A_begins)), (aT_ends, .inl (cy.1, 40, .inl A_ends)), (aT_weights, .inl (cy.1, 40, .inl A_weights))]) ⟨hx, hb, hml, hown, hts⟩ (c_X3_comesBehind l G cy k aT aT_numbers aT_begins aT_ends aT_weights f_byEnd f_count A_begins A_ends (v5 - 1) v2 v3 hcl4) (cwV 3 hts gX3_put_X3_comesBehind rfl rfl rfl (by decide +kernel) ⟨Nat.le_of_ble_eq_true rfl, Nat.le_of_ble_eq_true rfl⟩) hv (isC := [0, 2, 3]) ⟨rfl, rfl⟩ (hv.recv 3 0 rfl rfl) [1, 4] [2, 0, 3, 4, 1] rfl rfl (by decide) rfl rfl rfl hl.1 rfl (Nat.le_of_ble_eq_true rfl) dX3_put_28 ⟨Nat.le_of_ble_eq_true rfl, Nat.le_of_ble_eq_true rfl⟩ (fun H locs hv => ?_)
        refine lv_if_eq (tgt := 48) hx hb dX3_put_31 (by decide) (fun hc5 => ?_) (fun hc5 => ?_)
        · replace hf := ite_t hf hc5
          exact hκ v5 A_numbers A_begins A_ends A_weights hf _ _ _ hv (lv_sub hl [0, 1, 2, 3, 4, 5] rfl)
        · replace hf := ite_f hf hc5
          refine lv_aload_n hx hb dX3_put_34 rfl (lv_at hl 0 rfl) ?_
          refine lv_iload hx hb dX3_put_35 (lv_at hl 5 rfl) ?_
          refine lv_iconst (v := 1) hx hb dX3_put_37 (by decide) ?_
          refine lv_isub hx hb dX3_put_38 ?_
          obtain ⟨⟨A_numbers_6, A_begins_7, A_ends_8, A_weights_9⟩, hcl10, hf⟩ := xb_some hf
          dsimp only at hf
          refine kV_v (w2 := [(aT, .inr (3, [.int f_byEnd, .ref aT_numbers, .ref aT_begins, .ref aT_ends, .ref aT_weights, .int f_count])), (aT_numbers, .inl (cy.1, 40, .inl A_numbers_6)), (aT_begins, .inl (cy.1, 40, .inl A_begins_7)), (aT_ends, .inl (cy.1, 40, .inl A_ends_8)), (aT_weights, .inl (cy.1, 40, .inl A_weights_9))]) ⟨hx, hb, hml, hown, hts⟩ (c_X3_shiftUp l G cy k aT aT_numbers aT_begins aT_ends aT_weights f_byEnd f_count A_numbers A_begins A_ends A_weights (v5 - 1) hcl10) (cwV 1 hts gX3_put_X3_shiftUp rfl rfl rfl (by decide +kernel) ⟨Nat.le_of_ble_eq_true rfl, Nat.le_of_ble_eq_true rfl⟩) hv (isC := [0, 1, 2, 3, 4]) ⟨rfl, rfl⟩ (hv.recv 3 0 rfl rfl) [] [0, 1, 2, 3, 4] rfl rfl (by decide) rfl rfl rfl hl.1 rfl (Nat.le_of_ble_eq_true rfl) dX3_put_39 ⟨Nat.le_of_ble_eq_true rfl, Nat.le_of_ble_eq_true rfl⟩ (fun H locs hv => ?_)
          refine lv_iinc (v := v5 + (-1)) (lv' := [(5, .int (v5 + (-1))), (0, .ref aT), (1, .int v1), (2, .int v2), (3, .int v3), (4, .int v4)]) hx hb dX3_put_42 hl (k := 5) rfl rfl (by decide) rfl (fun ls hl => ?_)
          refine lv_goto (tgt := 16) hx hb dX3_put_45 (by decide) ?_
          exact ih (v5 + (-1)) A_numbers_6 A_begins_7 A_ends_8 A_weights_9 hf _ _ _ hv (lv_sub hl [1, 2, 3, 4, 5, 0] rfl) hκ
  unfold f_X3_put at hf
  refine lv_aload_n hx hb dX3_put_0 rfl (lv_at hl 0 rfl) ?_
  refine kGet (v := .int f_count) (C := RX3) (T := TX3) (N := 6) hx hb hts hinX3 hown hv 0 rfl rfl 5 (by decide) hk28 (fun _ h9 => h9) rfl dX3_put_1 ?_
  refine lv_bipush (v := 40) hx hb dX3_put_4 (by decide) ?_
  refine lv_icmp_lt (tgt := 10) hx hb dX3_put_6 (by decide) (fun hc1 => ?_) (fun hc1 => ?_)
  · replace hf := ite_t hf hc1
    refine lv_aload_n hx hb dX3_put_10 rfl (lv_at hl 0 rfl) ?_
    refine kGet (v := .int f_count) (C := RX3) (T := TX3) (N := 6) hx hb hts hinX3 hown hv 0 rfl rfl 5 (by decide) hk28 (fun _ h9 => h9) rfl dX3_put_11 ?_
    refine lv_istore (lv' := [(5, .int f_count), (0, .ref aT), (1, .int p1), (2, .int p2), (3, .int p3), (4, .int p4)]) hx hb dX3_put_14 hl (by decide) rfl (fun ls hl => ?_)
    refine L16 _ _ _ _ _ _ _ _ _ _ _ _ hf _ _ _ hv (lv_sub hl [1, 2, 3, 4, 5, 0] rfl) (fun v5_11 A_numbers_12 A_begins_13 A_ends_14 A_weights_15 hf H locs ls hv hl => ?_)
    try dsimp only at hf
    refine lv_aload_n hx hb dX3_put_48 rfl (lv_at hl 0 rfl) ?_
    refine kGet (v := .ref aT_numbers) (C := RX3) (T := TX3) (N := 6) hx hb hts hinX3 hown hv 0 rfl rfl 1 (by decide) hk15 (fun _ h9 => h9) rfl dX3_put_49 ?_
    refine lv_iload hx hb dX3_put_52 (lv_at hl 5 rfl) ?_
    refine lv_iload_n hx hb dX3_put_54 rfl (lv_at hl 1 rfl) ?_
    obtain ⟨hi16, hf⟩ := xi_some hf
    refine kIast hx hb hv 1 rfl hi16 dX3_put_55 (fun H locs hv => ?_)
    replace hv : Hv s H locs G cy A [(aT, .inr (3, [.int f_byEnd, .ref aT_numbers, .ref aT_begins, .ref aT_ends, .ref aT_weights, .int f_count])), (aT_numbers, .inl (cy.1, 40, .inl (upd A_numbers_12 v5_11.toNatClampNeg p1))), (aT_begins, .inl (cy.1, 40, .inl A_begins_13)), (aT_ends, .inl (cy.1, 40, .inl A_ends_14)), (aT_weights, .inl (cy.1, 40, .inl A_weights_15))] := hv
    refine lv_aload_n hx hb dX3_put_56 rfl (lv_at hl 0 rfl) ?_
    refine kGet (v := .ref aT_begins) (C := RX3) (T := TX3) (N := 6) hx hb hts hinX3 hown hv 0 rfl rfl 2 (by decide) hk19 (fun _ h9 => h9) rfl dX3_put_57 ?_
    refine lv_iload hx hb dX3_put_60 (lv_at hl 5 rfl) ?_
    refine lv_iload_n hx hb dX3_put_62 rfl (lv_at hl 2 rfl) ?_
    obtain ⟨hi17, hf⟩ := xi_some hf
    refine kIast hx hb hv 2 rfl hi17 dX3_put_63 (fun H locs hv => ?_)
    replace hv : Hv s H locs G cy A [(aT, .inr (3, [.int f_byEnd, .ref aT_numbers, .ref aT_begins, .ref aT_ends, .ref aT_weights, .int f_count])), (aT_numbers, .inl (cy.1, 40, .inl (upd A_numbers_12 v5_11.toNatClampNeg p1))), (aT_begins, .inl (cy.1, 40, .inl (upd A_begins_13 v5_11.toNatClampNeg p2))), (aT_ends, .inl (cy.1, 40, .inl A_ends_14)), (aT_weights, .inl (cy.1, 40, .inl A_weights_15))] := hv
    refine lv_aload_n hx hb dX3_put_64 rfl (lv_at hl 0 rfl) ?_
    refine kGet (v := .ref aT_ends) (C := RX3) (T := TX3) (N := 6) hx hb hts hinX3 hown hv 0 rfl rfl 3 (by decide) hk22 (fun _ h9 => h9) rfl dX3_put_65 ?_
    refine lv_iload hx hb dX3_put_68 (lv_at hl 5 rfl) ?_
    refine lv_iload_n hx hb dX3_put_70 rfl (lv_at hl 3 rfl) ?_
    obtain ⟨hi18, hf⟩ := xi_some hf
    refine kIast hx hb hv 3 rfl hi18 dX3_put_71 (fun H locs hv => ?_)
    replace hv : Hv s H locs G cy A [(aT, .inr (3, [.int f_byEnd, .ref aT_numbers, .ref aT_begins, .ref aT_ends, .ref aT_weights, .int f_count])), (aT_numbers, .inl (cy.1, 40, .inl (upd A_numbers_12 v5_11.toNatClampNeg p1))), (aT_begins, .inl (cy.1, 40, .inl (upd A_begins_13 v5_11.toNatClampNeg p2))), (aT_ends, .inl (cy.1, 40, .inl (upd A_ends_14 v5_11.toNatClampNeg p3))), (aT_weights, .inl (cy.1, 40, .inl A_weights_15))] := hv
    refine lv_aload_n hx hb dX3_put_72 rfl (lv_at hl 0 rfl) ?_
    refine kGet (v := .ref aT_weights) (C := RX3) (T := TX3) (N := 6) hx hb hts hinX3 hown hv 0 rfl rfl 4 (by decide) hk25 (fun _ h9 => h9) rfl dX3_put_73 ?_
    refine lv_iload hx hb dX3_put_76 (lv_at hl 5 rfl) ?_
    refine lv_iload hx hb dX3_put_78 (lv_at hl 4 rfl) ?_
    obtain ⟨hi19, hf⟩ := xi_some hf
    refine kIast hx hb hv 4 rfl hi19 dX3_put_80 (fun H locs hv => ?_)
    replace hv : Hv s H locs G cy A [(aT, .inr (3, [.int f_byEnd, .ref aT_numbers, .ref aT_begins, .ref aT_ends, .ref aT_weights, .int f_count])), (aT_numbers, .inl (cy.1, 40, .inl (upd A_numbers_12 v5_11.toNatClampNeg p1))), (aT_begins, .inl (cy.1, 40, .inl (upd A_begins_13 v5_11.toNatClampNeg p2))), (aT_ends, .inl (cy.1, 40, .inl (upd A_ends_14 v5_11.toNatClampNeg p3))), (aT_weights, .inl (cy.1, 40, .inl (upd A_weights_15 v5_11.toNatClampNeg p4)))] := hv
    refine lv_aload_n hx hb dX3_put_81 rfl (lv_at hl 0 rfl) ?_
    refine lv_dup hx hb dX3_put_82 rfl ?_
    refine kGet (v := .int f_count) (C := RX3) (T := TX3) (N := 6) hx hb hts hinX3 hown hv 0 rfl rfl 5 (by decide) hk28 (fun _ h9 => h9) rfl dX3_put_83 ?_
    refine lv_iconst (v := 1) hx hb dX3_put_86 (by decide) ?_
    refine lv_iadd hx hb dX3_put_87 ?_
    refine kPut (v := .int (f_count + 1)) (ty := .int) (C := RX3) (T := TX3) (N := 6) hx hb hts hinX3 tyX3 tyX3_ok nmX3 hown hv 0 rfl rfl 5 (by decide) hk28 (fun _ h9 => h9) rfl (by decide +kernel) rfl rfl (Nat.le_of_ble_eq_true rfl) dX3_put_88 (fun H locs hv => ?_)
    replace hv : Hv s H locs G cy A [(aT, .inr (3, [.int f_byEnd, .ref aT_numbers, .ref aT_begins, .ref aT_ends, .ref aT_weights, .int (f_count + 1)])), (aT_numbers, .inl (cy.1, 40, .inl (upd A_numbers_12 v5_11.toNatClampNeg p1))), (aT_begins, .inl (cy.1, 40, .inl (upd A_begins_13 v5_11.toNatClampNeg p2))), (aT_ends, .inl (cy.1, 40, .inl (upd A_ends_14 v5_11.toNatClampNeg p3))), (aT_weights, .inl (cy.1, 40, .inl (upd A_weights_15 v5_11.toNatClampNeg p4)))] := hv
    cases hf
    exact kret _ _ _ _ hv dX3_put_91
  · replace hf := ite_f hf hc1
    cases hf
    exact kret _ _ _ _ hv dX3_put_9
