def f_X5_layPoints_L18 (k : Nat) (v1 : Int32) (f_many : Int32) (A_begins : Nat → Int32) (A_ends : Nat → Int32) (A_isThere : Nat → Int32) (κ : Int32 → Int32 → Option (Int32 × (Nat → Int32) × (Nat → Int32) × (Nat → Int32))) : Nat → Int32 → Int32 → Option (Int32 × (Nat → Int32) × (Nat → Int32) × (Nat → Int32))
  | 0, _, _ => none
  | n + 1, v2, v3 => if f_many ≤ v3 then κ v2 v3 else if v2 = 0 then xi v3 40 (if (A_isThere v3.toNatClampNeg) = 0 then f_X5_layPoints_L18 k v1 f_many A_begins A_ends A_isThere κ n 0 (v3 + 1) else xi v3 40 (if (A_begins v3.toNatClampNeg) = v1 then f_X5_layPoints_L18 k v1 f_many A_begins A_ends A_isThere κ n 1 (v3 + 1) else xi v3 40 (if (A_ends v3.toNatClampNeg) = v1 then f_X5_layPoints_L18 k v1 f_many A_begins A_ends A_isThere κ n 1 (v3 + 1) else f_X5_layPoints_L18 k v1 f_many A_begins A_ends A_isThere κ n 0 (v3 + 1)))) else f_X5_layPoints_L18 k v1 f_many A_begins A_ends A_isThere κ n 1 (v3 + 1)
theorem f_X5_layPoints_L18_z (k : Nat) (v1 : Int32) (f_many : Int32) (A_begins : Nat → Int32) (A_ends : Nat → Int32) (A_isThere : Nat → Int32) (κ : Int32 → Int32 → Option (Int32 × (Nat → Int32) × (Nat → Int32) × (Nat → Int32))) (v2 : Int32) (v3 : Int32) : f_X5_layPoints_L18 k v1 f_many A_begins A_ends A_isThere κ 0 v2 v3 = none := rfl
theorem f_X5_layPoints_L18_s (k : Nat) (v1 : Int32) (f_many : Int32) (A_begins : Nat → Int32) (A_ends : Nat → Int32) (A_isThere : Nat → Int32) (κ : Int32 → Int32 → Option (Int32 × (Nat → Int32) × (Nat → Int32) × (Nat → Int32))) (n : Nat) (v2 : Int32) (v3 : Int32) : f_X5_layPoints_L18 k v1 f_many A_begins A_ends A_isThere κ (n + 1) v2 v3 = if f_many ≤ v3 then κ v2 v3 else if v2 = 0 then xi v3 40 (if (A_isThere v3.toNatClampNeg) = 0 then f_X5_layPoints_L18 k v1 f_many A_begins A_ends A_isThere κ n 0 (v3 + 1) else xi v3 40 (if (A_begins v3.toNatClampNeg) = v1 then f_X5_layPoints_L18 k v1 f_many A_begins A_ends A_isThere κ n 1 (v3 + 1) else xi v3 40 (if (A_ends v3.toNatClampNeg) = v1 then f_X5_layPoints_L18 k v1 f_many A_begins A_ends A_isThere κ n 1 (v3 + 1) else f_X5_layPoints_L18 k v1 f_many A_begins A_ends A_isThere κ n 0 (v3 + 1)))) else f_X5_layPoints_L18 k v1 f_many A_begins A_ends A_isThere κ n 1 (v3 + 1) := rfl
def f_X5_layPoints_L7 (k : Nat) (f_many : Int32) (A_begins : Nat → Int32) (A_ends : Nat → Int32) (A_isThere : Nat → Int32) (κ : Int32 → Int32 → (Nat → Int32) → (Nat → Int32) → Option (Int32 × (Nat → Int32) × (Nat → Int32) × (Nat → Int32))) : Nat → Int32 → Int32 → (Nat → Int32) → (Nat → Int32) → Option (Int32 × (Nat → Int32) × (Nat → Int32) × (Nat → Int32))
  | 0, _, _, _, _ => none
  | n + 1, v1, f_pointMany, A_points, A_flows => if (1000 : Int32) < v1 then κ v1 f_pointMany A_points A_flows else f_X5_layPoints_L18 k v1 f_many A_begins A_ends A_isThere (fun (v2_10 : Int32) (v3_11 : Int32) => if v2_10 = 0 then f_X5_layPoints_L7 k f_many A_begins A_ends A_isThere κ n (v1 + 1) f_pointMany A_points A_flows else xi f_pointMany 80 (xi f_pointMany 80 (f_X5_layPoints_L7 k f_many A_begins A_ends A_isThere κ n (v1 + 1) (f_pointMany + 1) (upd A_points f_pointMany.toNatClampNeg v1) (upd A_flows f_pointMany.toNatClampNeg 0)))) k 0 0
theorem f_X5_layPoints_L7_z (k : Nat) (f_many : Int32) (A_begins : Nat → Int32) (A_ends : Nat → Int32) (A_isThere : Nat → Int32) (κ : Int32 → Int32 → (Nat → Int32) → (Nat → Int32) → Option (Int32 × (Nat → Int32) × (Nat → Int32) × (Nat → Int32))) (v1 : Int32) (f_pointMany : Int32) (A_points : Nat → Int32) (A_flows : Nat → Int32) : f_X5_layPoints_L7 k f_many A_begins A_ends A_isThere κ 0 v1 f_pointMany A_points A_flows = none := rfl
theorem f_X5_layPoints_L7_s (k : Nat) (f_many : Int32) (A_begins : Nat → Int32) (A_ends : Nat → Int32) (A_isThere : Nat → Int32) (κ : Int32 → Int32 → (Nat → Int32) → (Nat → Int32) → Option (Int32 × (Nat → Int32) × (Nat → Int32) × (Nat → Int32))) (n : Nat) (v1 : Int32) (f_pointMany : Int32) (A_points : Nat → Int32) (A_flows : Nat → Int32) : f_X5_layPoints_L7 k f_many A_begins A_ends A_isThere κ (n + 1) v1 f_pointMany A_points A_flows = if (1000 : Int32) < v1 then κ v1 f_pointMany A_points A_flows else f_X5_layPoints_L18 k v1 f_many A_begins A_ends A_isThere (fun (v2_10 : Int32) (v3_11 : Int32) => if v2_10 = 0 then f_X5_layPoints_L7 k f_many A_begins A_ends A_isThere κ n (v1 + 1) f_pointMany A_points A_flows else xi f_pointMany 80 (xi f_pointMany 80 (f_X5_layPoints_L7 k f_many A_begins A_ends A_isThere κ n (v1 + 1) (f_pointMany + 1) (upd A_points f_pointMany.toNatClampNeg v1) (upd A_flows f_pointMany.toNatClampNeg 0)))) k 0 0 := rfl
def f_X5_layPoints_L113 (k : Nat) (f_many : Int32) (κ : Int32 → (Nat → Int32) → Option (Int32 × (Nat → Int32) × (Nat → Int32) × (Nat → Int32))) : Nat → Int32 → (Nat → Int32) → Option (Int32 × (Nat → Int32) × (Nat → Int32) × (Nat → Int32))
  | 0, _, _ => none
  | n + 1, v1, A_isUsed => if f_many ≤ v1 then κ v1 A_isUsed else xi v1 40 (f_X5_layPoints_L113 k f_many κ n (v1 + 1) (upd A_isUsed v1.toNatClampNeg (vp_nar .boolean 0)))
theorem f_X5_layPoints_L113_z (k : Nat) (f_many : Int32) (κ : Int32 → (Nat → Int32) → Option (Int32 × (Nat → Int32) × (Nat → Int32) × (Nat → Int32))) (v1 : Int32) (A_isUsed : Nat → Int32) : f_X5_layPoints_L113 k f_many κ 0 v1 A_isUsed = none := rfl
theorem f_X5_layPoints_L113_s (k : Nat) (f_many : Int32) (κ : Int32 → (Nat → Int32) → Option (Int32 × (Nat → Int32) × (Nat → Int32) × (Nat → Int32))) (n : Nat) (v1 : Int32) (A_isUsed : Nat → Int32) : f_X5_layPoints_L113 k f_many κ (n + 1) v1 A_isUsed = if f_many ≤ v1 then κ v1 A_isUsed else xi v1 40 (f_X5_layPoints_L113 k f_many κ n (v1 + 1) (upd A_isUsed v1.toNatClampNeg (vp_nar .boolean 0))) := rfl
def f_X5_layPoints (k : Nat) (f_many : Int32) (f_pointMany : Int32) (A_begins : Nat → Int32) (A_ends : Nat → Int32) (A_isThere : Nat → Int32) (A_points : Nat → Int32) (A_flows : Nat → Int32) (A_isUsed : Nat → Int32) : Option (Int32 × (Nat → Int32) × (Nat → Int32) × (Nat → Int32)) := f_X5_layPoints_L7 k f_many A_begins A_ends A_isThere (fun (v1_15 : Int32) (f_pointMany_16 : Int32) (A_points_17 : Nat → Int32) (A_flows_18 : Nat → Int32) => f_X5_layPoints_L113 k f_many (fun (v1_21 : Int32) (A_isUsed_22 : Nat → Int32) => some (f_pointMany_16, A_points_17, A_flows_18, A_isUsed_22)) k 0 A_isUsed) k 0 0 A_points A_flows
abbrev rm_X5_layPoints : Room := { frames := 0, cells := 0, slots := 0, locals := 0 }
set_option maxHeartbeats 4000000 in
set_option maxRecDepth 100000 in
theorem c_X5_layPoints (l : Launch) (G : va_G) (cy : ClassId × ClassId × ClassId) (k : Nat) (aT aT_begins aT_ends aT_weights aT_isThere aT_rooms aT_isOffered aT_isAccepted aT_best aT_order aT_froms aT_tos aT_counts aT_points aT_flows aT_isUsed aT_gains aT_ways : Nat) (f_thrown : Int32) (f_many : Int32) (f_factor : Int32) (f_dropped : Int32) (f_pointMany : Int32) (A_begins : Nat → Int32) (A_ends : Nat → Int32) (A_isThere : Nat → Int32) (A_points : Nat → Int32) (A_flows : Nat → Int32) (A_isUsed : Nat → Int32) {wf_pointMany : Int32} {wA_points : Nat → Int32} {wA_flows : Nat → Int32} {wA_isUsed : Nat → Int32} (hf : f_X5_layPoints k f_many f_pointMany A_begins A_ends A_isThere A_points A_flows A_isUsed = some (wf_pointMany, wA_points, wA_flows, wA_isUsed)) : Cv l yX5_layPoints wsX5_layPoints rm_X5_layPoints 0 0 G cy [.ref aT] [(aT, .inr (5, [.int f_thrown, .int f_many, .ref aT_begins, .ref aT_ends, .ref aT_weights, .ref aT_isThere, .ref aT_rooms, .int f_factor, .ref aT_isOffered, .ref aT_isAccepted, .int f_dropped, .ref aT_best, .ref aT_order, .ref aT_froms, .ref aT_tos, .ref aT_counts, .ref aT_points, .ref aT_flows, .ref aT_isUsed, .ref aT_gains, .ref aT_ways, .int f_pointMany])), (aT_begins, .inl (cy.1, 40, .inl A_begins)), (aT_ends, .inl (cy.1, 40, .inl A_ends)), (aT_isThere, .inl (cy.2.1, 40, .inl A_isThere)), (aT_points, .inl (cy.1, 80, .inl A_points)), (aT_flows, .inl (cy.1, 80, .inl A_flows)), (aT_isUsed, .inl (cy.2.1, 40, .inl A_isUsed))] [(aT, .inr (5, [.int f_thrown, .int f_many, .ref aT_begins, .ref aT_ends, .ref aT_weights, .ref aT_isThere, .ref aT_rooms, .int f_factor, .ref aT_isOffered, .ref aT_isAccepted, .int f_dropped, .ref aT_best, .ref aT_order, .ref aT_froms, .ref aT_tos, .ref aT_counts, .ref aT_points, .ref aT_flows, .ref aT_isUsed, .ref aT_gains, .ref aT_ways, .int wf_pointMany])), (aT_begins, .inl (cy.1, 40, .inl A_begins)), (aT_ends, .inl (cy.1, 40, .inl A_ends)), (aT_isThere, .inl (cy.2.1, 40, .inl A_isThere)), (aT_points, .inl (cy.1, 80, .inl wA_points)), (aT_flows, .inl (cy.1, 80, .inl wA_flows)), (aT_isUsed, .inl (cy.2.1, 40, .inl wA_isUsed))] := by
  refine kMetV (cc := cX5_layPoints) (maxL := 4) (by decide) rfl (Nat.le_of_ble_eq_true rfl) ?_
  intro p e s m args below meth c Q A ls hx hb hml hts hown hv hl kret
  replace hown : s.vm.findClass RX5 = some m.cls := hown
  replace hl : lv_has ls 4 [(0, .ref aT)] := hl
  have hk114 : (Cond.fieldLink RX5 114 "RoomcolourModel" "pointMany" "I").before args s = true := hts _ (by decide +kernel)
  have hinX5 : ∀ w ∈ wsX50, w ∈ wsX5_layPoints := by decide +kernel
  have hk69 : (Cond.fieldLink RX5 69 "RoomcolourModel" "many" "I").before args s = true := hts _ (by decide +kernel)
  have hk19 : (Cond.fieldLink RX5 19 "RoomcolourModel" "isThere" "[Z").before args s = true := hts _ (by decide +kernel)
  have hk7 : (Cond.fieldLink RX5 7 "RoomcolourModel" "begins" "[I").before args s = true := hts _ (by decide +kernel)
  have hk13 : (Cond.fieldLink RX5 13 "RoomcolourModel" "ends" "[I").before args s = true := hts _ (by decide +kernel)
  have hk51 : (Cond.fieldLink RX5 51 "RoomcolourModel" "points" "[I").before args s = true := hts _ (by decide +kernel)
  have hk54 : (Cond.fieldLink RX5 54 "RoomcolourModel" "flows" "[I").before args s = true := hts _ (by decide +kernel)
  have hk57 : (Cond.fieldLink RX5 57 "RoomcolourModel" "isUsed" "[Z").before args s = true := hts _ (by decide +kernel)
  have L18 : ∀ (v1 : Int32) (f_pointMany : Int32) (A_points : Nat → Int32) (A_flows : Nat → Int32) (A_isUsed : Nat → Int32) (κ : Int32 → Int32 → Option (Int32 × (Nat → Int32) × (Nat → Int32) × (Nat → Int32))) (n : Nat) (v2 : Int32) (v3 : Int32), f_X5_layPoints_L18 k v1 f_many A_begins A_ends A_isThere κ n v2 v3 = some (wf_pointMany, wA_points, wA_flows, wA_isUsed) → ∀ (H : Heap) (locs : List Loc) (ls : Array Slot), Hv s H locs G cy A [(aT, .inr (5, [.int f_thrown, .int f_many, .ref aT_begins, .ref aT_ends, .ref aT_weights, .ref aT_isThere, .ref aT_rooms, .int f_factor, .ref aT_isOffered, .ref aT_isAccepted, .int f_dropped, .ref aT_best, .ref aT_order, .ref aT_froms, .ref aT_tos, .ref aT_counts, .ref aT_points, .ref aT_flows, .ref aT_isUsed, .ref aT_gains, .ref aT_ways, .int f_pointMany])), (aT_begins, .inl (cy.1, 40, .inl A_begins)), (aT_ends, .inl (cy.1, 40, .inl A_ends)), (aT_isThere, .inl (cy.2.1, 40, .inl A_isThere)), (aT_points, .inl (cy.1, 80, .inl A_points)), (aT_flows, .inl (cy.1, 80, .inl A_flows)), (aT_isUsed, .inl (cy.2.1, 40, .inl A_isUsed))] → lv_has ls 4 [(0, .ref aT), (1, .int v1), (2, .int v2), (3, .int v3)] → (∀ (v2 : Int32) (v3 : Int32), κ v2 v3 = some (wf_pointMany, wA_points, wA_flows, wA_isUsed) → ∀ (H : Heap) (locs : List Loc) (ls : Array Slot), Hv s H locs G cy A [(aT, .inr (5, [.int f_thrown, .int f_many, .ref aT_begins, .ref aT_ends, .ref aT_weights, .ref aT_isThere, .ref aT_rooms, .int f_factor, .ref aT_isOffered, .ref aT_isAccepted, .int f_dropped, .ref aT_best, .ref aT_order, .ref aT_froms, .ref aT_tos, .ref aT_counts, .ref aT_points, .ref aT_flows, .ref aT_isUsed, .ref aT_gains, .ref aT_ways, .int f_pointMany])), (aT_begins, .inl (cy.1, 40, .inl A_begins)), (aT_ends, .inl (cy.1, 40, .inl A_ends)), (aT_isThere, .inl (cy.2.1, 40, .inl A_isThere)), (aT_points, .inl (cy.1, 80, .inl A_points)), (aT_flows, .inl (cy.1, 80, .inl A_flows)), (aT_isUsed, .inl (cy.2.1, 40, .inl A_isUsed))] → lv_has ls 4 [(0, .ref aT), (1, .int v1), (2, .int v2)] → W p l e rm_X5_layPoints s m args below meth c H locs 0 0 Q (F0 m 71 ls [])) → W p l e rm_X5_layPoints s m args below meth c H locs 0 0 Q (F0 m 18 ls []) := by
    intro v1 f_pointMany A_points A_flows A_isUsed κ n
    induction n with
    | zero =>
      intro v2 v3 hf
      rw [f_X5_layPoints_L18_z] at hf
      cases hf
    | succ n ih =>
      intro v2 v3 hf H locs ls hv hl hκ
      rw [f_X5_layPoints_L18_s] at hf
      refine lv_iload_n hx hb dX5_layPoints_18 rfl (lv_at hl 3 rfl) ?_
      refine lv_aload_n hx hb dX5_layPoints_19 rfl (lv_at hl 0 rfl) ?_
      refine kGet (v := .int f_many) (C := RX5) (T := TX5) (N := 22) hx hb hts hinX5 hown hv 0 rfl rfl 1 (by decide) hk69 (fun _ h9 => h9) rfl dX5_layPoints_20 ?_
      refine lv_icmp_ge (tgt := 71) hx hb dX5_layPoints_23 (by decide) (fun hc2 => ?_) (fun hc2 => ?_)
      · replace hf := ite_t hf hc2
        exact hκ v2 v3 hf _ _ _ hv (lv_sub hl [0, 1, 2] rfl)
      · replace hf := ite_f hf hc2
        refine lv_iload_n hx hb dX5_layPoints_26 rfl (lv_at hl 2 rfl) ?_
        refine lv_if_ne (tgt := 59) hx hb dX5_layPoints_27 (by decide) (fun hc3 => ?_) (fun hc3 => ?_)
        · replace hf := ite_f hf hc3
          refine lv_iconst (v := 1) hx hb dX5_layPoints_59 (by decide) ?_
          refine lv_goto (tgt := 64) hx hb dX5_layPoints_60 (by decide) ?_
          refine lv_istore_n (lv' := [(2, .int 1), (0, .ref aT), (1, .int v1), (3, .int v3)]) hx hb dX5_layPoints_64 rfl hl (by decide) rfl (fun ls hl => ?_)
          refine lv_iinc (v := v3 + 1) (lv' := [(3, .int (v3 + 1)), (2, .int 1), (0, .ref aT), (1, .int v1)]) hx hb dX5_layPoints_65 hl (k := 3) rfl rfl (by decide) rfl (fun ls hl => ?_)
          refine lv_goto (tgt := 18) hx hb dX5_layPoints_68 (by decide) ?_
          exact ih 1 (v3 + 1) hf _ _ _ hv (lv_sub hl [2, 3, 1, 0] rfl) hκ
        · replace hf := ite_t hf hc3
          refine lv_aload_n hx hb dX5_layPoints_30 rfl (lv_at hl 0 rfl) ?_
          refine kGet (v := .ref aT_isThere) (C := RX5) (T := TX5) (N := 22) hx hb hts hinX5 hown hv 0 rfl rfl 5 (by decide) hk19 (fun _ h9 => h9) rfl dX5_layPoints_31 ?_
          refine lv_iload_n hx hb dX5_layPoints_34 rfl (lv_at hl 3 rfl) ?_
          obtain ⟨hi4, hf⟩ := xi_some hf
          refine kZald hx hb hv 3 rfl hi4 dX5_layPoints_35 ?_
          refine lv_if_eq (tgt := 63) hx hb dX5_layPoints_36 (by decide) (fun hc5 => ?_) (fun hc5 => ?_)
          · replace hf := ite_t hf hc5
            refine lv_iconst (v := 0) hx hb dX5_layPoints_63 (by decide) ?_
            refine lv_istore_n (lv' := [(2, .int 0), (0, .ref aT), (1, .int v1), (3, .int v3)]) hx hb dX5_layPoints_64 rfl hl (by decide) rfl (fun ls hl => ?_)
            refine lv_iinc (v := v3 + 1) (lv' := [(3, .int (v3 + 1)), (2, .int 0), (0, .ref aT), (1, .int v1)]) hx hb dX5_layPoints_65 hl (k := 3) rfl rfl (by decide) rfl (fun ls hl => ?_)
            refine lv_goto (tgt := 18) hx hb dX5_layPoints_68 (by decide) ?_
            exact ih 0 (v3 + 1) hf _ _ _ hv (lv_sub hl [2, 3, 1, 0] rfl) hκ
          · replace hf := ite_f hf hc5
            refine lv_aload_n hx hb dX5_layPoints_39 rfl (lv_at hl 0 rfl) ?_
            refine kGet (v := .ref aT_begins) (C := RX5) (T := TX5) (N := 22) hx hb hts hinX5 hown hv 0 rfl rfl 2 (by decide) hk7 (fun _ h9 => h9) rfl dX5_layPoints_40 ?_
            refine lv_iload_n hx hb dX5_layPoints_43 rfl (lv_at hl 3 rfl) ?_
            obtain ⟨hi6, hf⟩ := xi_some hf
            refine kIald hx hb hv 1 rfl hi6 dX5_layPoints_44 ?_
            refine lv_iload_n hx hb dX5_layPoints_45 rfl (lv_at hl 1 rfl) ?_
            refine lv_icmp_eq (tgt := 59) hx hb dX5_layPoints_46 (by decide) (fun hc7 => ?_) (fun hc7 => ?_)
            · replace hf := ite_t hf hc7
              refine lv_iconst (v := 1) hx hb dX5_layPoints_59 (by decide) ?_
              refine lv_goto (tgt := 64) hx hb dX5_layPoints_60 (by decide) ?_
              refine lv_istore_n (lv' := [(2, .int 1), (0, .ref aT), (1, .int v1), (3, .int v3)]) hx hb dX5_layPoints_64 rfl hl (by decide) rfl (fun ls hl => ?_)
              refine lv_iinc (v := v3 + 1) (lv' := [(3, .int (v3 + 1)), (2, .int 1), (0, .ref aT), (1, .int v1)]) hx hb dX5_layPoints_65 hl (k := 3) rfl rfl (by decide) rfl (fun ls hl => ?_)
              refine lv_goto (tgt := 18) hx hb dX5_layPoints_68 (by decide) ?_
              exact ih 1 (v3 + 1) hf _ _ _ hv (lv_sub hl [2, 3, 1, 0] rfl) hκ
            · replace hf := ite_f hf hc7
              refine lv_aload_n hx hb dX5_layPoints_49 rfl (lv_at hl 0 rfl) ?_
              refine kGet (v := .ref aT_ends) (C := RX5) (T := TX5) (N := 22) hx hb hts hinX5 hown hv 0 rfl rfl 3 (by decide) hk13 (fun _ h9 => h9) rfl dX5_layPoints_50 ?_
              refine lv_iload_n hx hb dX5_layPoints_53 rfl (lv_at hl 3 rfl) ?_
              obtain ⟨hi8, hf⟩ := xi_some hf
              refine kIald hx hb hv 2 rfl hi8 dX5_layPoints_54 ?_
              refine lv_iload_n hx hb dX5_layPoints_55 rfl (lv_at hl 1 rfl) ?_
              refine lv_icmp_ne (tgt := 63) hx hb dX5_layPoints_56 (by decide) (fun hc9 => ?_) (fun hc9 => ?_)
              · replace hf := ite_f hf hc9
                refine lv_iconst (v := 0) hx hb dX5_layPoints_63 (by decide) ?_
                refine lv_istore_n (lv' := [(2, .int 0), (0, .ref aT), (1, .int v1), (3, .int v3)]) hx hb dX5_layPoints_64 rfl hl (by decide) rfl (fun ls hl => ?_)
                refine lv_iinc (v := v3 + 1) (lv' := [(3, .int (v3 + 1)), (2, .int 0), (0, .ref aT), (1, .int v1)]) hx hb dX5_layPoints_65 hl (k := 3) rfl rfl (by decide) rfl (fun ls hl => ?_)
                refine lv_goto (tgt := 18) hx hb dX5_layPoints_68 (by decide) ?_
                exact ih 0 (v3 + 1) hf _ _ _ hv (lv_sub hl [2, 3, 1, 0] rfl) hκ
              · replace hf := ite_t hf hc9
                refine lv_iconst (v := 1) hx hb dX5_layPoints_59 (by decide) ?_
                refine lv_goto (tgt := 64) hx hb dX5_layPoints_60 (by decide) ?_
                refine lv_istore_n (lv' := [(2, .int 1), (0, .ref aT), (1, .int v1), (3, .int v3)]) hx hb dX5_layPoints_64 rfl hl (by decide) rfl (fun ls hl => ?_)
                refine lv_iinc (v := v3 + 1) (lv' := [(3, .int (v3 + 1)), (2, .int 1), (0, .ref aT), (1, .int v1)]) hx hb dX5_layPoints_65 hl (k := 3) rfl rfl (by decide) rfl (fun ls hl => ?_)
                refine lv_goto (tgt := 18) hx hb dX5_layPoints_68 (by decide) ?_
                exact ih 1 (v3 + 1) hf _ _ _ hv (lv_sub hl [2, 3, 1, 0] rfl) hκ
  have L7 : ∀ (A_isUsed : Nat → Int32) (κ : Int32 → Int32 → (Nat → Int32) → (Nat → Int32) → Option (Int32 × (Nat → Int32) × (Nat → Int32) × (Nat → Int32))) (n : Nat) (v1 : Int32) (f_pointMany : Int32) (A_points : Nat → Int32) (A_flows : Nat → Int32), f_X5_layPoints_L7 k f_many A_begins A_ends A_isThere κ n v1 f_pointMany A_points A_flows = some (wf_pointMany, wA_points, wA_flows, wA_isUsed) → ∀ (H : Heap) (locs : List Loc) (ls : Array Slot), Hv s H locs G cy A [(aT, .inr (5, [.int f_thrown, .int f_many, .ref aT_begins, .ref aT_ends, .ref aT_weights, .ref aT_isThere, .ref aT_rooms, .int f_factor, .ref aT_isOffered, .ref aT_isAccepted, .int f_dropped, .ref aT_best, .ref aT_order, .ref aT_froms, .ref aT_tos, .ref aT_counts, .ref aT_points, .ref aT_flows, .ref aT_isUsed, .ref aT_gains, .ref aT_ways, .int f_pointMany])), (aT_begins, .inl (cy.1, 40, .inl A_begins)), (aT_ends, .inl (cy.1, 40, .inl A_ends)), (aT_isThere, .inl (cy.2.1, 40, .inl A_isThere)), (aT_points, .inl (cy.1, 80, .inl A_points)), (aT_flows, .inl (cy.1, 80, .inl A_flows)), (aT_isUsed, .inl (cy.2.1, 40, .inl A_isUsed))] → lv_has ls 4 [(0, .ref aT), (1, .int v1)] → (∀ (v1 : Int32) (f_pointMany : Int32) (A_points : Nat → Int32) (A_flows : Nat → Int32), κ v1 f_pointMany A_points A_flows = some (wf_pointMany, wA_points, wA_flows, wA_isUsed) → ∀ (H : Heap) (locs : List Loc) (ls : Array Slot), Hv s H locs G cy A [(aT, .inr (5, [.int f_thrown, .int f_many, .ref aT_begins, .ref aT_ends, .ref aT_weights, .ref aT_isThere, .ref aT_rooms, .int f_factor, .ref aT_isOffered, .ref aT_isAccepted, .int f_dropped, .ref aT_best, .ref aT_order, .ref aT_froms, .ref aT_tos, .ref aT_counts, .ref aT_points, .ref aT_flows, .ref aT_isUsed, .ref aT_gains, .ref aT_ways, .int f_pointMany])), (aT_begins, .inl (cy.1, 40, .inl A_begins)), (aT_ends, .inl (cy.1, 40, .inl A_ends)), (aT_isThere, .inl (cy.2.1, 40, .inl A_isThere)), (aT_points, .inl (cy.1, 80, .inl A_points)), (aT_flows, .inl (cy.1, 80, .inl A_flows)), (aT_isUsed, .inl (cy.2.1, 40, .inl A_isUsed))] → lv_has ls 4 [(0, .ref aT)] → W p l e rm_X5_layPoints s m args below meth c H locs 0 0 Q (F0 m 111 ls [])) → W p l e rm_X5_layPoints s m args below meth c H locs 0 0 Q (F0 m 7 ls []) := by
    intro A_isUsed κ n
    induction n with
    | zero =>
      intro v1 f_pointMany A_points A_flows hf
      rw [f_X5_layPoints_L7_z] at hf
      cases hf
    | succ n ih =>
      intro v1 f_pointMany A_points A_flows hf H locs ls hv hl hκ
      rw [f_X5_layPoints_L7_s] at hf
      refine lv_iload_n hx hb dX5_layPoints_7 rfl (lv_at hl 1 rfl) ?_
      refine lv_sipush (v := 1000) hx hb dX5_layPoints_8 (by decide) ?_
      refine lv_icmp_gt (tgt := 111) hx hb dX5_layPoints_11 (by decide) (fun hc1 => ?_) (fun hc1 => ?_)
      · replace hf := ite_t hf hc1
        exact hκ v1 f_pointMany A_points A_flows hf _ _ _ hv (lv_sub hl [0] rfl)
      · replace hf := ite_f hf hc1
        refine lv_iconst (v := 0) hx hb dX5_layPoints_14 (by decide) ?_
        refine lv_istore_n (lv' := [(2, .int 0), (0, .ref aT), (1, .int v1)]) hx hb dX5_layPoints_15 rfl hl (by decide) rfl (fun ls hl => ?_)
        refine lv_iconst (v := 0) hx hb dX5_layPoints_16 (by decide) ?_
        refine lv_istore_n (lv' := [(3, .int 0), (2, .int 0), (0, .ref aT), (1, .int v1)]) hx hb dX5_layPoints_17 rfl hl (by decide) rfl (fun ls hl => ?_)
        refine L18 _ _ _ _ _ _ _ _ _ hf _ _ _ hv (lv_sub hl [2, 3, 1, 0] rfl) (fun v2_10 v3_11 hf H locs ls hv hl => ?_)
        try dsimp only at hf
        refine lv_iload_n hx hb dX5_layPoints_71 rfl (lv_at hl 2 rfl) ?_
        refine lv_if_eq (tgt := 105) hx hb dX5_layPoints_72 (by decide) (fun hc12 => ?_) (fun hc12 => ?_)
        · replace hf := ite_t hf hc12
          refine lv_iinc (v := v1 + 1) (lv' := [(1, .int (v1 + 1)), (0, .ref aT), (2, .int v2_10)]) hx hb dX5_layPoints_105 hl (k := 1) rfl rfl (by decide) rfl (fun ls hl => ?_)
          refine lv_goto (tgt := 7) hx hb dX5_layPoints_108 (by decide) ?_
          exact ih (v1 + 1) f_pointMany A_points A_flows hf _ _ _ hv (lv_sub hl [1, 0] rfl) hκ
        · replace hf := ite_f hf hc12
          refine lv_aload_n hx hb dX5_layPoints_75 rfl (lv_at hl 0 rfl) ?_
          refine kGet (v := .ref aT_points) (C := RX5) (T := TX5) (N := 22) hx hb hts hinX5 hown hv 0 rfl rfl 16 (by decide) hk51 (fun _ h9 => h9) rfl dX5_layPoints_76 ?_
          refine lv_aload_n hx hb dX5_layPoints_79 rfl (lv_at hl 0 rfl) ?_
          refine kGet (v := .int f_pointMany) (C := RX5) (T := TX5) (N := 22) hx hb hts hinX5 hown hv 0 rfl rfl 21 (by decide) hk114 (fun _ h9 => h9) rfl dX5_layPoints_80 ?_
          refine lv_iload_n hx hb dX5_layPoints_83 rfl (lv_at hl 1 rfl) ?_
          obtain ⟨hi13, hf⟩ := xi_some hf
          refine kIast hx hb hv 4 rfl hi13 dX5_layPoints_84 (fun H locs hv => ?_)
          replace hv : Hv s H locs G cy A [(aT, .inr (5, [.int f_thrown, .int f_many, .ref aT_begins, .ref aT_ends, .ref aT_weights, .ref aT_isThere, .ref aT_rooms, .int f_factor, .ref aT_isOffered, .ref aT_isAccepted, .int f_dropped, .ref aT_best, .ref aT_order, .ref aT_froms, .ref aT_tos, .ref aT_counts, .ref aT_points, .ref aT_flows, .ref aT_isUsed, .ref aT_gains, .ref aT_ways, .int f_pointMany])), (aT_begins, .inl (cy.1, 40, .inl A_begins)), (aT_ends, .inl (cy.1, 40, .inl A_ends)), (aT_isThere, .inl (cy.2.1, 40, .inl A_isThere)), (aT_points, .inl (cy.1, 80, .inl (upd A_points f_pointMany.toNatClampNeg v1))), (aT_flows, .inl (cy.1, 80, .inl A_flows)), (aT_isUsed, .inl (cy.2.1, 40, .inl A_isUsed))] := hv
          refine lv_aload_n hx hb dX5_layPoints_85 rfl (lv_at hl 0 rfl) ?_
          refine kGet (v := .ref aT_flows) (C := RX5) (T := TX5) (N := 22) hx hb hts hinX5 hown hv 0 rfl rfl 17 (by decide) hk54 (fun _ h9 => h9) rfl dX5_layPoints_86 ?_
          refine lv_aload_n hx hb dX5_layPoints_89 rfl (lv_at hl 0 rfl) ?_
          refine kGet (v := .int f_pointMany) (C := RX5) (T := TX5) (N := 22) hx hb hts hinX5 hown hv 0 rfl rfl 21 (by decide) hk114 (fun _ h9 => h9) rfl dX5_layPoints_90 ?_
          refine lv_iconst (v := 0) hx hb dX5_layPoints_93 (by decide) ?_
          obtain ⟨hi14, hf⟩ := xi_some hf
          refine kIast hx hb hv 5 rfl hi14 dX5_layPoints_94 (fun H locs hv => ?_)
          replace hv : Hv s H locs G cy A [(aT, .inr (5, [.int f_thrown, .int f_many, .ref aT_begins, .ref aT_ends, .ref aT_weights, .ref aT_isThere, .ref aT_rooms, .int f_factor, .ref aT_isOffered, .ref aT_isAccepted, .int f_dropped, .ref aT_best, .ref aT_order, .ref aT_froms, .ref aT_tos, .ref aT_counts, .ref aT_points, .ref aT_flows, .ref aT_isUsed, .ref aT_gains, .ref aT_ways, .int f_pointMany])), (aT_begins, .inl (cy.1, 40, .inl A_begins)), (aT_ends, .inl (cy.1, 40, .inl A_ends)), (aT_isThere, .inl (cy.2.1, 40, .inl A_isThere)), (aT_points, .inl (cy.1, 80, .inl (upd A_points f_pointMany.toNatClampNeg v1))), (aT_flows, .inl (cy.1, 80, .inl (upd A_flows f_pointMany.toNatClampNeg 0))), (aT_isUsed, .inl (cy.2.1, 40, .inl A_isUsed))] := hv
          refine lv_aload_n hx hb dX5_layPoints_95 rfl (lv_at hl 0 rfl) ?_
          refine lv_dup hx hb dX5_layPoints_96 rfl ?_
          refine kGet (v := .int f_pointMany) (C := RX5) (T := TX5) (N := 22) hx hb hts hinX5 hown hv 0 rfl rfl 21 (by decide) hk114 (fun _ h9 => h9) rfl dX5_layPoints_97 ?_
          refine lv_iconst (v := 1) hx hb dX5_layPoints_100 (by decide) ?_
          refine lv_iadd hx hb dX5_layPoints_101 ?_
          refine kPut (v := .int (f_pointMany + 1)) (ty := .int) (C := RX5) (T := TX5) (N := 22) hx hb hts hinX5 tyX5 tyX5_ok nmX5 hown hv 0 rfl rfl 21 (by decide) hk114 (fun _ h9 => h9) rfl (by decide +kernel) rfl rfl (Nat.le_of_ble_eq_true rfl) dX5_layPoints_102 (fun H locs hv => ?_)
          replace hv : Hv s H locs G cy A [(aT, .inr (5, [.int f_thrown, .int f_many, .ref aT_begins, .ref aT_ends, .ref aT_weights, .ref aT_isThere, .ref aT_rooms, .int f_factor, .ref aT_isOffered, .ref aT_isAccepted, .int f_dropped, .ref aT_best, .ref aT_order, .ref aT_froms, .ref aT_tos, .ref aT_counts, .ref aT_points, .ref aT_flows, .ref aT_isUsed, .ref aT_gains, .ref aT_ways, .int (f_pointMany + 1)])), (aT_begins, .inl (cy.1, 40, .inl A_begins)), (aT_ends, .inl (cy.1, 40, .inl A_ends)), (aT_isThere, .inl (cy.2.1, 40, .inl A_isThere)), (aT_points, .inl (cy.1, 80, .inl (upd A_points f_pointMany.toNatClampNeg v1))), (aT_flows, .inl (cy.1, 80, .inl (upd A_flows f_pointMany.toNatClampNeg 0))), (aT_isUsed, .inl (cy.2.1, 40, .inl A_isUsed))] := hv
          refine lv_iinc (v := v1 + 1) (lv' := [(1, .int (v1 + 1)), (0, .ref aT), (2, .int v2_10)]) hx hb dX5_layPoints_105 hl (k := 1) rfl rfl (by decide) rfl (fun ls hl => ?_)
          refine lv_goto (tgt := 7) hx hb dX5_layPoints_108 (by decide) ?_
          exact ih (v1 + 1) (f_pointMany + 1) (upd A_points f_pointMany.toNatClampNeg v1) (upd A_flows f_pointMany.toNatClampNeg 0) hf _ _ _ hv (lv_sub hl [1, 0] rfl) hκ
  have L113 : ∀ (f_pointMany : Int32) (A_points : Nat → Int32) (A_flows : Nat → Int32) (κ : Int32 → (Nat → Int32) → Option (Int32 × (Nat → Int32) × (Nat → Int32) × (Nat → Int32))) (n : Nat) (v1 : Int32) (A_isUsed : Nat → Int32), f_X5_layPoints_L113 k f_many κ n v1 A_isUsed = some (wf_pointMany, wA_points, wA_flows, wA_isUsed) → ∀ (H : Heap) (locs : List Loc) (ls : Array Slot), Hv s H locs G cy A [(aT, .inr (5, [.int f_thrown, .int f_many, .ref aT_begins, .ref aT_ends, .ref aT_weights, .ref aT_isThere, .ref aT_rooms, .int f_factor, .ref aT_isOffered, .ref aT_isAccepted, .int f_dropped, .ref aT_best, .ref aT_order, .ref aT_froms, .ref aT_tos, .ref aT_counts, .ref aT_points, .ref aT_flows, .ref aT_isUsed, .ref aT_gains, .ref aT_ways, .int f_pointMany])), (aT_begins, .inl (cy.1, 40, .inl A_begins)), (aT_ends, .inl (cy.1, 40, .inl A_ends)), (aT_isThere, .inl (cy.2.1, 40, .inl A_isThere)), (aT_points, .inl (cy.1, 80, .inl A_points)), (aT_flows, .inl (cy.1, 80, .inl A_flows)), (aT_isUsed, .inl (cy.2.1, 40, .inl A_isUsed))] → lv_has ls 4 [(0, .ref aT), (1, .int v1)] → (∀ (v1 : Int32) (A_isUsed : Nat → Int32), κ v1 A_isUsed = some (wf_pointMany, wA_points, wA_flows, wA_isUsed) → ∀ (H : Heap) (locs : List Loc) (ls : Array Slot), Hv s H locs G cy A [(aT, .inr (5, [.int f_thrown, .int f_many, .ref aT_begins, .ref aT_ends, .ref aT_weights, .ref aT_isThere, .ref aT_rooms, .int f_factor, .ref aT_isOffered, .ref aT_isAccepted, .int f_dropped, .ref aT_best, .ref aT_order, .ref aT_froms, .ref aT_tos, .ref aT_counts, .ref aT_points, .ref aT_flows, .ref aT_isUsed, .ref aT_gains, .ref aT_ways, .int f_pointMany])), (aT_begins, .inl (cy.1, 40, .inl A_begins)), (aT_ends, .inl (cy.1, 40, .inl A_ends)), (aT_isThere, .inl (cy.2.1, 40, .inl A_isThere)), (aT_points, .inl (cy.1, 80, .inl A_points)), (aT_flows, .inl (cy.1, 80, .inl A_flows)), (aT_isUsed, .inl (cy.2.1, 40, .inl A_isUsed))] → lv_has ls 4 [] → W p l e rm_X5_layPoints s m args below meth c H locs 0 0 Q (F0 m 134 ls [])) → W p l e rm_X5_layPoints s m args below meth c H locs 0 0 Q (F0 m 113 ls []) := by
    intro f_pointMany A_points A_flows κ n
    induction n with
    | zero =>
      intro v1 A_isUsed hf
      rw [f_X5_layPoints_L113_z] at hf
      cases hf
    | succ n ih =>
      intro v1 A_isUsed hf H locs ls hv hl hκ
      rw [f_X5_layPoints_L113_s] at hf
      refine lv_iload_n hx hb dX5_layPoints_113 rfl (lv_at hl 1 rfl) ?_
      refine lv_aload_n hx hb dX5_layPoints_114 rfl (lv_at hl 0 rfl) ?_
      refine kGet (v := .int f_many) (C := RX5) (T := TX5) (N := 22) hx hb hts hinX5 hown hv 0 rfl rfl 1 (by decide) hk69 (fun _ h9 => h9) rfl dX5_layPoints_115 ?_
      refine lv_icmp_ge (tgt := 134) hx hb dX5_layPoints_118 (by decide) (fun hc19 => ?_) (fun hc19 => ?_)
      · replace hf := ite_t hf hc19
        exact hκ v1 A_isUsed hf _ _ _ hv (lv_sub hl [] rfl)
      · replace hf := ite_f hf hc19
        refine lv_aload_n hx hb dX5_layPoints_121 rfl (lv_at hl 0 rfl) ?_
        refine kGet (v := .ref aT_isUsed) (C := RX5) (T := TX5) (N := 22) hx hb hts hinX5 hown hv 0 rfl rfl 18 (by decide) hk57 (fun _ h9 => h9) rfl dX5_layPoints_122 ?_
        refine lv_iload_n hx hb dX5_layPoints_125 rfl (lv_at hl 1 rfl) ?_
        refine lv_iconst (v := 0) hx hb dX5_layPoints_126 (by decide) ?_
        obtain ⟨hi20, hf⟩ := xi_some hf
        refine kZast hx hb hv 6 rfl hi20 dX5_layPoints_127 (fun H locs hv => ?_)
        replace hv : Hv s H locs G cy A [(aT, .inr (5, [.int f_thrown, .int f_many, .ref aT_begins, .ref aT_ends, .ref aT_weights, .ref aT_isThere, .ref aT_rooms, .int f_factor, .ref aT_isOffered, .ref aT_isAccepted, .int f_dropped, .ref aT_best, .ref aT_order, .ref aT_froms, .ref aT_tos, .ref aT_counts, .ref aT_points, .ref aT_flows, .ref aT_isUsed, .ref aT_gains, .ref aT_ways, .int f_pointMany])), (aT_begins, .inl (cy.1, 40, .inl A_begins)), (aT_ends, .inl (cy.1, 40, .inl A_ends)), (aT_isThere, .inl (cy.2.1, 40, .inl A_isThere)), (aT_points, .inl (cy.1, 80, .inl A_points)), (aT_flows, .inl (cy.1, 80, .inl A_flows)), (aT_isUsed, .inl (cy.2.1, 40, .inl (upd A_isUsed v1.toNatClampNeg (vp_nar .boolean 0))))] := hv
        refine lv_iinc (v := v1 + 1) (lv' := [(1, .int (v1 + 1)), (0, .ref aT)]) hx hb dX5_layPoints_128 hl (k := 1) rfl rfl (by decide) rfl (fun ls hl => ?_)
        refine lv_goto (tgt := 113) hx hb dX5_layPoints_131 (by decide) ?_
        exact ih (v1 + 1) (upd A_isUsed v1.toNatClampNeg (vp_nar .boolean 0)) hf _ _ _ hv (lv_sub hl [1, 0] rfl) hκ
  unfold f_X5_layPoints at hf
  refine lv_aload_n hx hb dX5_layPoints_0 rfl (lv_at hl 0 rfl) ?_
  refine lv_iconst (v := 0) hx hb dX5_layPoints_1 (by decide) ?_
  refine kPut (v := .int 0) (ty := .int) (C := RX5) (T := TX5) (N := 22) hx hb hts hinX5 tyX5 tyX5_ok nmX5 hown hv 0 rfl rfl 21 (by decide) hk114 (fun _ h9 => h9) rfl (by decide +kernel) rfl rfl (Nat.le_of_ble_eq_true rfl) dX5_layPoints_2 (fun H locs hv => ?_)
  replace hv : Hv s H locs G cy A [(aT, .inr (5, [.int f_thrown, .int f_many, .ref aT_begins, .ref aT_ends, .ref aT_weights, .ref aT_isThere, .ref aT_rooms, .int f_factor, .ref aT_isOffered, .ref aT_isAccepted, .int f_dropped, .ref aT_best, .ref aT_order, .ref aT_froms, .ref aT_tos, .ref aT_counts, .ref aT_points, .ref aT_flows, .ref aT_isUsed, .ref aT_gains, .ref aT_ways, .int 0])), (aT_begins, .inl (cy.1, 40, .inl A_begins)), (aT_ends, .inl (cy.1, 40, .inl A_ends)), (aT_isThere, .inl (cy.2.1, 40, .inl A_isThere)), (aT_points, .inl (cy.1, 80, .inl A_points)), (aT_flows, .inl (cy.1, 80, .inl A_flows)), (aT_isUsed, .inl (cy.2.1, 40, .inl A_isUsed))] := hv
  refine lv_iconst (v := 0) hx hb dX5_layPoints_5 (by decide) ?_
  refine lv_istore_n (lv' := [(1, .int 0), (0, .ref aT)]) hx hb dX5_layPoints_6 rfl hl (by decide) rfl (fun ls hl => ?_)
  refine L7 _ _ _ _ _ _ _ hf _ _ _ hv (lv_sub hl [1, 0] rfl) (fun v1_15 f_pointMany_16 A_points_17 A_flows_18 hf H locs ls hv hl => ?_)
  try dsimp only at hf
  refine lv_iconst (v := 0) hx hb dX5_layPoints_111 (by decide) ?_
  refine lv_istore_n (lv' := [(1, .int 0), (0, .ref aT)]) hx hb dX5_layPoints_112 rfl hl (by decide) rfl (fun ls hl => ?_)
  refine L113 _ _ _ _ _ _ _ hf _ _ _ hv (lv_sub hl [1, 0] rfl) (fun v1_21 A_isUsed_22 hf H locs ls hv hl => ?_)
  try dsimp only at hf
  cases hf
  exact kret _ _ _ _ hv dX5_layPoints_134

def f_X5_send_L7 (k : Nat) (A_begins : Nat → Int32) (A_ends : Nat → Int32) (A_points : Nat → Int32) (A_ways : Nat → Int32) (κ : Int32 → (Nat → Int32) → (Nat → Int32) → Option ((Nat → Int32) × (Nat → Int32))) : Nat → Int32 → (Nat → Int32) → (Nat → Int32) → Option ((Nat → Int32) × (Nat → Int32))
  | 0, _, _, _ => none
  | n + 1, v1, A_flows, A_isUsed => if v1 ≤ 0 then κ v1 A_flows A_isUsed else xi v1 80 (xd 100 (if (100 : Int32) ≤ (A_ways v1.toNatClampNeg) then if (200 : Int32) ≤ (A_ways v1.toNatClampNeg) then xj (fun (x8 : Int32) => xi ((A_ways v1.toNatClampNeg) - (A_ways v1.toNatClampNeg) / 100 * 100) 40 (if (300 : Int32) ≤ (A_ways v1.toNatClampNeg) then xi ((A_ways v1.toNatClampNeg) - (A_ways v1.toNatClampNeg) / 100 * 100) 40 (xb (f_X5_pointOf k (A_ends ((A_ways v1.toNatClampNeg) - (A_ways v1.toNatClampNeg) / 100 * 100).toNatClampNeg) A_points) (fun r12 => f_X5_send_L7 k A_begins A_ends A_points A_ways κ n r12 A_flows (upd A_isUsed ((A_ways v1.toNatClampNeg) - (A_ways v1.toNatClampNeg) / 100 * 100).toNatClampNeg (vp_nar .boolean x8)))) else xi ((A_ways v1.toNatClampNeg) - (A_ways v1.toNatClampNeg) / 100 * 100) 40 (xb (f_X5_pointOf k (A_begins ((A_ways v1.toNatClampNeg) - (A_ways v1.toNatClampNeg) / 100 * 100).toNatClampNeg) A_points) (fun r15 => f_X5_send_L7 k A_begins A_ends A_points A_ways κ n r15 A_flows (upd A_isUsed ((A_ways v1.toNatClampNeg) - (A_ways v1.toNatClampNeg) / 100 * 100).toNatClampNeg (vp_nar .boolean x8)))))) (fun (j85_7 : Int32 → Option ((Nat → Int32) × (Nat → Int32))) => if (300 : Int32) ≤ (A_ways v1.toNatClampNeg) then j85_7 0 else j85_7 1) else xi ((A_ways v1.toNatClampNeg) - (A_ways v1.toNatClampNeg) / 100 * 100) 80 (xi ((A_ways v1.toNatClampNeg) - (A_ways v1.toNatClampNeg) / 100 * 100) 80 (f_X5_send_L7 k A_begins A_ends A_points A_ways κ n (((A_ways v1.toNatClampNeg) - (A_ways v1.toNatClampNeg) / 100 * 100) + 1) (upd A_flows ((A_ways v1.toNatClampNeg) - (A_ways v1.toNatClampNeg) / 100 * 100).toNatClampNeg ((A_flows ((A_ways v1.toNatClampNeg) - (A_ways v1.toNatClampNeg) / 100 * 100).toNatClampNeg) - 1)) A_isUsed)) else xi ((A_ways v1.toNatClampNeg) - (A_ways v1.toNatClampNeg) / 100 * 100) 80 (xi ((A_ways v1.toNatClampNeg) - (A_ways v1.toNatClampNeg) / 100 * 100) 80 (f_X5_send_L7 k A_begins A_ends A_points A_ways κ n ((A_ways v1.toNatClampNeg) - (A_ways v1.toNatClampNeg) / 100 * 100) (upd A_flows ((A_ways v1.toNatClampNeg) - (A_ways v1.toNatClampNeg) / 100 * 100).toNatClampNeg ((A_flows ((A_ways v1.toNatClampNeg) - (A_ways v1.toNatClampNeg) / 100 * 100).toNatClampNeg) + 1)) A_isUsed))))
theorem f_X5_send_L7_z (k : Nat) (A_begins : Nat → Int32) (A_ends : Nat → Int32) (A_points : Nat → Int32) (A_ways : Nat → Int32) (κ : Int32 → (Nat → Int32) → (Nat → Int32) → Option ((Nat → Int32) × (Nat → Int32))) (v1 : Int32) (A_flows : Nat → Int32) (A_isUsed : Nat → Int32) : f_X5_send_L7 k A_begins A_ends A_points A_ways κ 0 v1 A_flows A_isUsed = none := rfl
theorem f_X5_send_L7_s (k : Nat) (A_begins : Nat → Int32) (A_ends : Nat → Int32) (A_points : Nat → Int32) (A_ways : Nat → Int32) (κ : Int32 → (Nat → Int32) → (Nat → Int32) → Option ((Nat → Int32) × (Nat → Int32))) (n : Nat) (v1 : Int32) (A_flows : Nat → Int32) (A_isUsed : Nat → Int32) : f_X5_send_L7 k A_begins A_ends A_points A_ways κ (n + 1) v1 A_flows A_isUsed = if v1 ≤ 0 then κ v1 A_flows A_isUsed else xi v1 80 (xd 100 (if (100 : Int32) ≤ (A_ways v1.toNatClampNeg) then if (200 : Int32) ≤ (A_ways v1.toNatClampNeg) then xj (fun (x8 : Int32) => xi ((A_ways v1.toNatClampNeg) - (A_ways v1.toNatClampNeg) / 100 * 100) 40 (if (300 : Int32) ≤ (A_ways v1.toNatClampNeg) then xi ((A_ways v1.toNatClampNeg) - (A_ways v1.toNatClampNeg) / 100 * 100) 40 (xb (f_X5_pointOf k (A_ends ((A_ways v1.toNatClampNeg) - (A_ways v1.toNatClampNeg) / 100 * 100).toNatClampNeg) A_points) (fun r12 => f_X5_send_L7 k A_begins A_ends A_points A_ways κ n r12 A_flows (upd A_isUsed ((A_ways v1.toNatClampNeg) - (A_ways v1.toNatClampNeg) / 100 * 100).toNatClampNeg (vp_nar .boolean x8)))) else xi ((A_ways v1.toNatClampNeg) - (A_ways v1.toNatClampNeg) / 100 * 100) 40 (xb (f_X5_pointOf k (A_begins ((A_ways v1.toNatClampNeg) - (A_ways v1.toNatClampNeg) / 100 * 100).toNatClampNeg) A_points) (fun r15 => f_X5_send_L7 k A_begins A_ends A_points A_ways κ n r15 A_flows (upd A_isUsed ((A_ways v1.toNatClampNeg) - (A_ways v1.toNatClampNeg) / 100 * 100).toNatClampNeg (vp_nar .boolean x8)))))) (fun (j85_7 : Int32 → Option ((Nat → Int32) × (Nat → Int32))) => if (300 : Int32) ≤ (A_ways v1.toNatClampNeg) then j85_7 0 else j85_7 1) else xi ((A_ways v1.toNatClampNeg) - (A_ways v1.toNatClampNeg) / 100 * 100) 80 (xi ((A_ways v1.toNatClampNeg) - (A_ways v1.toNatClampNeg) / 100 * 100) 80 (f_X5_send_L7 k A_begins A_ends A_points A_ways κ n (((A_ways v1.toNatClampNeg) - (A_ways v1.toNatClampNeg) / 100 * 100) + 1) (upd A_flows ((A_ways v1.toNatClampNeg) - (A_ways v1.toNatClampNeg) / 100 * 100).toNatClampNeg ((A_flows ((A_ways v1.toNatClampNeg) - (A_ways v1.toNatClampNeg) / 100 * 100).toNatClampNeg) - 1)) A_isUsed)) else xi ((A_ways v1.toNatClampNeg) - (A_ways v1.toNatClampNeg) / 100 * 100) 80 (xi ((A_ways v1.toNatClampNeg) - (A_ways v1.toNatClampNeg) / 100 * 100) 80 (f_X5_send_L7 k A_begins A_ends A_points A_ways κ n ((A_ways v1.toNatClampNeg) - (A_ways v1.toNatClampNeg) / 100 * 100) (upd A_flows ((A_ways v1.toNatClampNeg) - (A_ways v1.toNatClampNeg) / 100 * 100).toNatClampNeg ((A_flows ((A_ways v1.toNatClampNeg) - (A_ways v1.toNatClampNeg) / 100 * 100).toNatClampNeg) + 1)) A_isUsed)))) := rfl
def f_X5_send (k : Nat) (f_pointMany : Int32) (A_begins : Nat → Int32) (A_ends : Nat → Int32) (A_points : Nat → Int32) (A_flows : Nat → Int32) (A_isUsed : Nat → Int32) (A_ways : Nat → Int32) : Option ((Nat → Int32) × (Nat → Int32)) := f_X5_send_L7 k A_begins A_ends A_points A_ways (fun (v1_21 : Int32) (A_flows_22 : Nat → Int32) (A_isUsed_23 : Nat → Int32) => some (A_flows_22, A_isUsed_23)) k (f_pointMany - 1) A_flows A_isUsed
abbrev rm_X5_send : Room := { frames := 1, cells := 0, slots := 0, locals := 22 }
set_option maxHeartbeats 4000000 in
set_option maxRecDepth 100000 in
theorem c_X5_send (l : Launch) (G : va_G) (cy : ClassId × ClassId × ClassId) (k : Nat) (aT aT_begins aT_ends aT_weights aT_isThere aT_rooms aT_isOffered aT_isAccepted aT_best aT_order aT_froms aT_tos aT_counts aT_points aT_flows aT_isUsed aT_gains aT_ways : Nat) (f_thrown : Int32) (f_many : Int32) (f_factor : Int32) (f_dropped : Int32) (f_pointMany : Int32) (A_begins : Nat → Int32) (A_ends : Nat → Int32) (A_points : Nat → Int32) (A_flows : Nat → Int32) (A_isUsed : Nat → Int32) (A_ways : Nat → Int32) {wA_flows : Nat → Int32} {wA_isUsed : Nat → Int32} (hf : f_X5_send k f_pointMany A_begins A_ends A_points A_flows A_isUsed A_ways = some (wA_flows, wA_isUsed)) : Cv l yX5_send wsX5_send rm_X5_send 0 0 G cy [.ref aT] [(aT, .inr (5, [.int f_thrown, .int f_many, .ref aT_begins, .ref aT_ends, .ref aT_weights, .ref aT_isThere, .ref aT_rooms, .int f_factor, .ref aT_isOffered, .ref aT_isAccepted, .int f_dropped, .ref aT_best, .ref aT_order, .ref aT_froms, .ref aT_tos, .ref aT_counts, .ref aT_points, .ref aT_flows, .ref aT_isUsed, .ref aT_gains, .ref aT_ways, .int f_pointMany])), (aT_begins, .inl (cy.1, 40, .inl A_begins)), (aT_ends, .inl (cy.1, 40, .inl A_ends)), (aT_points, .inl (cy.1, 80, .inl A_points)), (aT_flows, .inl (cy.1, 80, .inl A_flows)), (aT_isUsed, .inl (cy.2.1, 40, .inl A_isUsed)), (aT_ways, .inl (cy.1, 80, .inl A_ways))] [(aT, .inr (5, [.int f_thrown, .int f_many, .ref aT_begins, .ref aT_ends, .ref aT_weights, .ref aT_isThere, .ref aT_rooms, .int f_factor, .ref aT_isOffered, .ref aT_isAccepted, .int f_dropped, .ref aT_best, .ref aT_order, .ref aT_froms, .ref aT_tos, .ref aT_counts, .ref aT_points, .ref aT_flows, .ref aT_isUsed, .ref aT_gains, .ref aT_ways, .int f_pointMany])), (aT_begins, .inl (cy.1, 40, .inl A_begins)), (aT_ends, .inl (cy.1, 40, .inl A_ends)), (aT_points, .inl (cy.1, 80, .inl A_points)), (aT_flows, .inl (cy.1, 80, .inl wA_flows)), (aT_isUsed, .inl (cy.2.1, 40, .inl wA_isUsed)), (aT_ways, .inl (cy.1, 80, .inl A_ways))] := by
  refine kMetV (cc := cX5_send) (maxL := 4) (by decide) rfl (Nat.le_of_ble_eq_true rfl) ?_
  intro p e s m args below meth c Q A ls hx hb hml hts hown hv hl kret
  replace hown : s.vm.findClass RX5 = some m.cls := hown
  replace hl : lv_has ls 4 [(0, .ref aT)] := hl
  have hk114 : (Cond.fieldLink RX5 114 "RoomcolourModel" "pointMany" "I").before args s = true := hts _ (by decide +kernel)
  have hinX5 : ∀ w ∈ wsX50, w ∈ wsX5_send := by decide +kernel
  have hk63 : (Cond.fieldLink RX5 63 "RoomcolourModel" "ways" "[I").before args s = true := hts _ (by decide +kernel)
  have hk57 : (Cond.fieldLink RX5 57 "RoomcolourModel" "isUsed" "[Z").before args s = true := hts _ (by decide +kernel)
  have hk13 : (Cond.fieldLink RX5 13 "RoomcolourModel" "ends" "[I").before args s = true := hts _ (by decide +kernel)
  have hk7 : (Cond.fieldLink RX5 7 "RoomcolourModel" "begins" "[I").before args s = true := hts _ (by decide +kernel)
  have hk54 : (Cond.fieldLink RX5 54 "RoomcolourModel" "flows" "[I").before args s = true := hts _ (by decide +kernel)
  have L7 : ∀ (κ : Int32 → (Nat → Int32) → (Nat → Int32) → Option ((Nat → Int32) × (Nat → Int32))) (n : Nat) (v1 : Int32) (A_flows : Nat → Int32) (A_isUsed : Nat → Int32), f_X5_send_L7 k A_begins A_ends A_points A_ways κ n v1 A_flows A_isUsed = some (wA_flows, wA_isUsed) → ∀ (H : Heap) (locs : List Loc) (ls : Array Slot), Hv s H locs G cy A [(aT, .inr (5, [.int f_thrown, .int f_many, .ref aT_begins, .ref aT_ends, .ref aT_weights, .ref aT_isThere, .ref aT_rooms, .int f_factor, .ref aT_isOffered, .ref aT_isAccepted, .int f_dropped, .ref aT_best, .ref aT_order, .ref aT_froms, .ref aT_tos, .ref aT_counts, .ref aT_points, .ref aT_flows, .ref aT_isUsed, .ref aT_gains, .ref aT_ways, .int f_pointMany])), (aT_begins, .inl (cy.1, 40, .inl A_begins)), (aT_ends, .inl (cy.1, 40, .inl A_ends)), (aT_points, .inl (cy.1, 80, .inl A_points)), (aT_flows, .inl (cy.1, 80, .inl A_flows)), (aT_isUsed, .inl (cy.2.1, 40, .inl A_isUsed)), (aT_ways, .inl (cy.1, 80, .inl A_ways))] → lv_has ls 4 [(0, .ref aT), (1, .int v1)] → (∀ (v1 : Int32) (A_flows : Nat → Int32) (A_isUsed : Nat → Int32), κ v1 A_flows A_isUsed = some (wA_flows, wA_isUsed) → ∀ (H : Heap) (locs : List Loc) (ls : Array Slot), Hv s H locs G cy A [(aT, .inr (5, [.int f_thrown, .int f_many, .ref aT_begins, .ref aT_ends, .ref aT_weights, .ref aT_isThere, .ref aT_rooms, .int f_factor, .ref aT_isOffered, .ref aT_isAccepted, .int f_dropped, .ref aT_best, .ref aT_order, .ref aT_froms, .ref aT_tos, .ref aT_counts, .ref aT_points, .ref aT_flows, .ref aT_isUsed, .ref aT_gains, .ref aT_ways, .int f_pointMany])), (aT_begins, .inl (cy.1, 40, .inl A_begins)), (aT_ends, .inl (cy.1, 40, .inl A_ends)), (aT_points, .inl (cy.1, 80, .inl A_points)), (aT_flows, .inl (cy.1, 80, .inl A_flows)), (aT_isUsed, .inl (cy.2.1, 40, .inl A_isUsed)), (aT_ways, .inl (cy.1, 80, .inl A_ways))] → lv_has ls 4 [] → W p l e rm_X5_send s m args below meth c H locs 0 0 Q (F0 m 116 ls [])) → W p l e rm_X5_send s m args below meth c H locs 0 0 Q (F0 m 7 ls []) := by
    intro κ n
    induction n with
    | zero =>
      intro v1 A_flows A_isUsed hf
      rw [f_X5_send_L7_z] at hf
      cases hf
    | succ n ih =>
      intro v1 A_flows A_isUsed hf H locs ls hv hl hκ
      rw [f_X5_send_L7_s] at hf
      refine lv_iload_n hx hb dX5_send_7 rfl (lv_at hl 1 rfl) ?_
      refine lv_if_le (tgt := 116) hx hb dX5_send_8 (by decide) (fun hc1 => ?_) (fun hc1 => ?_)
      · replace hf := ite_t hf hc1
        exact hκ v1 A_flows A_isUsed hf _ _ _ hv (lv_sub hl [] rfl)
      · replace hf := ite_f hf hc1
        refine lv_aload_n hx hb dX5_send_11 rfl (lv_at hl 0 rfl) ?_
        refine kGet (v := .ref aT_ways) (C := RX5) (T := TX5) (N := 22) hx hb hts hinX5 hown hv 0 rfl rfl 20 (by decide) hk63 (fun _ h9 => h9) rfl dX5_send_12 ?_
        refine lv_iload_n hx hb dX5_send_15 rfl (lv_at hl 1 rfl) ?_
        obtain ⟨hi2, hf⟩ := xi_some hf
        refine kIald hx hb hv 6 rfl hi2 dX5_send_16 ?_
        refine lv_istore_n (lv' := [(2, .int (A_ways v1.toNatClampNeg)), (0, .ref aT), (1, .int v1)]) hx hb dX5_send_17 rfl hl (by decide) rfl (fun ls hl => ?_)
        refine lv_iload_n hx hb dX5_send_18 rfl (lv_at hl 0 rfl) ?_
        refine lv_bipush (v := 100) hx hb dX5_send_19 (by decide) ?_
        obtain ⟨hd3, hf⟩ := xd_some hf
        refine lv_irem hx hb dX5_send_21 hd3 ?_
        refine lv_istore_n (lv' := [(3, .int ((A_ways v1.toNatClampNeg) - (A_ways v1.toNatClampNeg) / 100 * 100)), (2, .int (A_ways v1.toNatClampNeg)), (0, .ref aT), (1, .int v1)]) hx hb dX5_send_22 rfl hl (by decide) rfl (fun ls hl => ?_)
        refine lv_iload_n hx hb dX5_send_23 rfl (lv_at hl 1 rfl) ?_
        refine lv_bipush (v := 100) hx hb dX5_send_24 (by decide) ?_
        refine lv_icmp_ge (tgt := 44) hx hb dX5_send_26 (by decide) (fun hc4 => ?_) (fun hc4 => ?_)
        · replace hf := ite_t hf hc4
          refine lv_iload_n hx hb dX5_send_44 rfl (lv_at hl 1 rfl) ?_
          refine lv_sipush (v := 200) hx hb dX5_send_45 (by decide) ?_
          refine lv_icmp_ge (tgt := 68) hx hb dX5_send_48 (by decide) (fun hc5 => ?_) (fun hc5 => ?_)
          · replace hf := ite_t hf hc5
            refine lv_aload_n hx hb dX5_send_68 rfl (lv_at hl 2 rfl) ?_
            refine kGet (v := .ref aT_isUsed) (C := RX5) (T := TX5) (N := 22) hx hb hts hinX5 hown hv 0 rfl rfl 18 (by decide) hk57 (fun _ h9 => h9) rfl dX5_send_69 ?_
            refine lv_iload_n hx hb dX5_send_72 rfl (lv_at hl 0 rfl) ?_
            refine lv_iload_n hx hb dX5_send_73 rfl (lv_at hl 1 rfl) ?_
            refine lv_sipush (v := 300) hx hb dX5_send_74 (by decide) ?_
            refine xj_elim hf (fun j85_7 ej85_7 hf => ?_)
            have J85_7 : ∀ (x8 : Int32), j85_7 x8 = some (wA_flows, wA_isUsed) → ∀ (H : Heap) (locs : List Loc) (ls : Array Slot), Hv s H locs G cy A [(aT, .inr (5, [.int f_thrown, .int f_many, .ref aT_begins, .ref aT_ends, .ref aT_weights, .ref aT_isThere, .ref aT_rooms, .int f_factor, .ref aT_isOffered, .ref aT_isAccepted, .int f_dropped, .ref aT_best, .ref aT_order, .ref aT_froms, .ref aT_tos, .ref aT_counts, .ref aT_points, .ref aT_flows, .ref aT_isUsed, .ref aT_gains, .ref aT_ways, .int f_pointMany])), (aT_begins, .inl (cy.1, 40, .inl A_begins)), (aT_ends, .inl (cy.1, 40, .inl A_ends)), (aT_points, .inl (cy.1, 80, .inl A_points)), (aT_flows, .inl (cy.1, 80, .inl A_flows)), (aT_isUsed, .inl (cy.2.1, 40, .inl A_isUsed)), (aT_ways, .inl (cy.1, 80, .inl A_ways))] → lv_has ls 4 [(0, .ref aT), (2, .int (A_ways v1.toNatClampNeg)), (3, .int ((A_ways v1.toNatClampNeg) - (A_ways v1.toNatClampNeg) / 100 * 100))] → W p l e rm_X5_send s m args below meth c H locs 0 0 Q (F0 m 85 ls [.int x8, .int ((A_ways v1.toNatClampNeg) - (A_ways v1.toNatClampNeg) / 100 * 100), .ref aT_isUsed]) := by
              intro x8 hf H locs ls hv hl
              rw [ej85_7] at hf
              try dsimp only at hf
              obtain ⟨hi9, hf⟩ := xi_some hf
              refine kZast hx hb hv 5 rfl hi9 dX5_send_85 (fun H locs hv => ?_)
              replace hv : Hv s H locs G cy A [(aT, .inr (5, [.int f_thrown, .int f_many, .ref aT_begins, .ref aT_ends, .ref aT_weights, .ref aT_isThere, .ref aT_rooms, .int f_factor, .ref aT_isOffered, .ref aT_isAccepted, .int f_dropped, .ref aT_best, .ref aT_order, .ref aT_froms, .ref aT_tos, .ref aT_counts, .ref aT_points, .ref aT_flows, .ref aT_isUsed, .ref aT_gains, .ref aT_ways, .int f_pointMany])), (aT_begins, .inl (cy.1, 40, .inl A_begins)), (aT_ends, .inl (cy.1, 40, .inl A_ends)), (aT_points, .inl (cy.1, 80, .inl A_points)), (aT_flows, .inl (cy.1, 80, .inl A_flows)), (aT_isUsed, .inl (cy.2.1, 40, .inl (upd A_isUsed ((A_ways v1.toNatClampNeg) - (A_ways v1.toNatClampNeg) / 100 * 100).toNatClampNeg (vp_nar .boolean x8)))), (aT_ways, .inl (cy.1, 80, .inl A_ways))] := hv
              refine lv_aload_n hx hb dX5_send_86 rfl (lv_at hl 0 rfl) ?_
              refine lv_iload_n hx hb dX5_send_87 rfl (lv_at hl 1 rfl) ?_
              refine lv_sipush (v := 300) hx hb dX5_send_88 (by decide) ?_
              refine lv_icmp_ge (tgt := 103) hx hb dX5_send_91 (by decide) (fun hc10 => ?_) (fun hc10 => ?_)
              · replace hf := ite_t hf hc10
                refine lv_aload_n hx hb dX5_send_103 rfl (lv_at hl 0 rfl) ?_
                refine kGet (v := .ref aT_ends) (C := RX5) (T := TX5) (N := 22) hx hb hts hinX5 hown hv 0 rfl rfl 3 (by decide) hk13 (fun _ h9 => h9) rfl dX5_send_104 ?_
                refine lv_iload_n hx hb dX5_send_107 rfl (lv_at hl 2 rfl) ?_
                obtain ⟨hi11, hf⟩ := xi_some hf
                refine kIald hx hb hv 2 rfl hi11 dX5_send_108 ?_
                obtain ⟨r12, hcl13, hf⟩ := xb_some hf
                refine kV_i (r := r12) (wr := [(aT_begins, .inl (cy.1, 40, .inl A_begins)), (aT_ends, .inl (cy.1, 40, .inl A_ends)), (aT_flows, .inl (cy.1, 80, .inl A_flows)), (aT_isUsed, .inl (cy.2.1, 40, .inl (upd A_isUsed ((A_ways v1.toNatClampNeg) - (A_ways v1.toNatClampNeg) / 100 * 100).toNatClampNeg (vp_nar .boolean x8)))), (aT_ways, .inl (cy.1, 80, .inl A_ways))]) (w2 := [(aT, .inr (5, [.int f_thrown, .int f_many, .ref aT_begins, .ref aT_ends, .ref aT_weights, .ref aT_isThere, .ref aT_rooms, .int f_factor, .ref aT_isOffered, .ref aT_isAccepted, .int f_dropped, .ref aT_best, .ref aT_order, .ref aT_froms, .ref aT_tos, .ref aT_counts, .ref aT_points, .ref aT_flows, .ref aT_isUsed, .ref aT_gains, .ref aT_ways, .int f_pointMany])), (aT_begins, .inl (cy.1, 40, .inl A_begins)), (aT_ends, .inl (cy.1, 40, .inl A_ends)), (aT_points, .inl (cy.1, 80, .inl A_points)), (aT_flows, .inl (cy.1, 80, .inl A_flows)), (aT_isUsed, .inl (cy.2.1, 40, .inl (upd A_isUsed ((A_ways v1.toNatClampNeg) - (A_ways v1.toNatClampNeg) / 100 * 100).toNatClampNeg (vp_nar .boolean x8)))), (aT_ways, .inl (cy.1, 80, .inl A_ways))]) ⟨hx, hb, hml, hown, hts⟩ (c_X5_pointOf l G cy k aT aT_begins aT_ends aT_weights aT_isThere aT_rooms aT_isOffered aT_isAccepted aT_best aT_order aT_froms aT_tos aT_counts aT_points aT_flows aT_isUsed aT_gains aT_ways f_thrown f_many f_factor f_dropped f_pointMany A_points (A_ends ((A_ways v1.toNatClampNeg) - (A_ways v1.toNatClampNeg) / 100 * 100).toNatClampNeg) hcl13) (cwV 1 hts gX5_send_X5_pointOf rfl rfl rfl (by decide +kernel) ⟨Nat.le_of_ble_eq_true rfl, Nat.le_of_ble_eq_true rfl⟩) hv (isC := [0, 3]) ⟨rfl, rfl⟩ (hv.recv 5 0 rfl rfl) [1, 2, 4, 5, 6] [5, 0, 1, 6, 2, 3, 4] rfl rfl (by decide) rfl rfl rfl hl.1 rfl (Nat.le_of_ble_eq_true rfl) dX5_send_109 ⟨Nat.le_of_ble_eq_true rfl, Nat.le_of_ble_eq_true rfl⟩ (fun H locs hv => ?_)
                refine lv_istore_n (lv' := [(1, .int r12), (0, .ref aT), (2, .int (A_ways v1.toNatClampNeg)), (3, .int ((A_ways v1.toNatClampNeg) - (A_ways v1.toNatClampNeg) / 100 * 100))]) hx hb dX5_send_112 rfl hl (by decide) rfl (fun ls hl => ?_)
                refine lv_goto (tgt := 7) hx hb dX5_send_113 (by decide) ?_
                exact ih r12 A_flows (upd A_isUsed ((A_ways v1.toNatClampNeg) - (A_ways v1.toNatClampNeg) / 100 * 100).toNatClampNeg (vp_nar .boolean x8)) hf _ _ _ hv (lv_sub hl [1, 0] rfl) hκ
              · replace hf := ite_f hf hc10
                refine lv_aload_n hx hb dX5_send_94 rfl (lv_at hl 0 rfl) ?_
                refine kGet (v := .ref aT_begins) (C := RX5) (T := TX5) (N := 22) hx hb hts hinX5 hown hv 0 rfl rfl 2 (by decide) hk7 (fun _ h9 => h9) rfl dX5_send_95 ?_
                refine lv_iload_n hx hb dX5_send_98 rfl (lv_at hl 2 rfl) ?_
                obtain ⟨hi14, hf⟩ := xi_some hf
                refine kIald hx hb hv 1 rfl hi14 dX5_send_99 ?_
                refine lv_goto (tgt := 109) hx hb dX5_send_100 (by decide) ?_
                obtain ⟨r15, hcl16, hf⟩ := xb_some hf
                refine kV_i (r := r15) (wr := [(aT_begins, .inl (cy.1, 40, .inl A_begins)), (aT_ends, .inl (cy.1, 40, .inl A_ends)), (aT_flows, .inl (cy.1, 80, .inl A_flows)), (aT_isUsed, .inl (cy.2.1, 40, .inl (upd A_isUsed ((A_ways v1.toNatClampNeg) - (A_ways v1.toNatClampNeg) / 100 * 100).toNatClampNeg (vp_nar .boolean x8)))), (aT_ways, .inl (cy.1, 80, .inl A_ways))]) (w2 := [(aT, .inr (5, [.int f_thrown, .int f_many, .ref aT_begins, .ref aT_ends, .ref aT_weights, .ref aT_isThere, .ref aT_rooms, .int f_factor, .ref aT_isOffered, .ref aT_isAccepted, .int f_dropped, .ref aT_best, .ref aT_order, .ref aT_froms, .ref aT_tos, .ref aT_counts, .ref aT_points, .ref aT_flows, .ref aT_isUsed, .ref aT_gains, .ref aT_ways, .int f_pointMany])), (aT_begins, .inl (cy.1, 40, .inl A_begins)), (aT_ends, .inl (cy.1, 40, .inl A_ends)), (aT_points, .inl (cy.1, 80, .inl A_points)), (aT_flows, .inl (cy.1, 80, .inl A_flows)), (aT_isUsed, .inl (cy.2.1, 40, .inl (upd A_isUsed ((A_ways v1.toNatClampNeg) - (A_ways v1.toNatClampNeg) / 100 * 100).toNatClampNeg (vp_nar .boolean x8)))), (aT_ways, .inl (cy.1, 80, .inl A_ways))]) ⟨hx, hb, hml, hown, hts⟩ (c_X5_pointOf l G cy k aT aT_begins aT_ends aT_weights aT_isThere aT_rooms aT_isOffered aT_isAccepted aT_best aT_order aT_froms aT_tos aT_counts aT_points aT_flows aT_isUsed aT_gains aT_ways f_thrown f_many f_factor f_dropped f_pointMany A_points (A_begins ((A_ways v1.toNatClampNeg) - (A_ways v1.toNatClampNeg) / 100 * 100).toNatClampNeg) hcl16) (cwV 1 hts gX5_send_X5_pointOf rfl rfl rfl (by decide +kernel) ⟨Nat.le_of_ble_eq_true rfl, Nat.le_of_ble_eq_true rfl⟩) hv (isC := [0, 3]) ⟨rfl, rfl⟩ (hv.recv 5 0 rfl rfl) [1, 2, 4, 5, 6] [5, 0, 1, 6, 2, 3, 4] rfl rfl (by decide) rfl rfl rfl hl.1 rfl (Nat.le_of_ble_eq_true rfl) dX5_send_109 ⟨Nat.le_of_ble_eq_true rfl, Nat.le_of_ble_eq_true rfl⟩ (fun H locs hv => ?_)
                refine lv_istore_n (lv' := [(1, .int r15), (0, .ref aT), (2, .int (A_ways v1.toNatClampNeg)), (3, .int ((A_ways v1.toNatClampNeg) - (A_ways v1.toNatClampNeg) / 100 * 100))]) hx hb dX5_send_112 rfl hl (by decide) rfl (fun ls hl => ?_)
                refine lv_goto (tgt := 7) hx hb dX5_send_113 (by decide) ?_
                exact ih r15 A_flows (upd A_isUsed ((A_ways v1.toNatClampNeg) - (A_ways v1.toNatClampNeg) / 100 * 100).toNatClampNeg (vp_nar .boolean x8)) hf _ _ _ hv (lv_sub hl [1, 0] rfl) hκ
            refine lv_icmp_ge (tgt := 84) hx hb dX5_send_77 (by decide) (fun hc6 => ?_) (fun hc6 => ?_)
            · replace hf := ite_t hf hc6
              refine lv_iconst (v := 0) hx hb dX5_send_84 (by decide) ?_
              exact J85_7 0 hf _ _ _ hv (lv_sub hl [2, 1, 0] rfl)
            · replace hf := ite_f hf hc6
              refine lv_iconst (v := 1) hx hb dX5_send_80 (by decide) ?_
              refine lv_goto (tgt := 85) hx hb dX5_send_81 (by decide) ?_
              exact J85_7 1 hf _ _ _ hv (lv_sub hl [2, 1, 0] rfl)
          · replace hf := ite_f hf hc5
            refine lv_aload_n hx hb dX5_send_51 rfl (lv_at hl 2 rfl) ?_
            refine kGet (v := .ref aT_flows) (C := RX5) (T := TX5) (N := 22) hx hb hts hinX5 hown hv 0 rfl rfl 17 (by decide) hk54 (fun _ h9 => h9) rfl dX5_send_52 ?_
            refine lv_iload_n hx hb dX5_send_55 rfl (lv_at hl 0 rfl) ?_
            refine lv_dup2_11 hx hb dX5_send_56 rfl rfl ?_
            obtain ⟨hi17, hf⟩ := xi_some hf
            refine kIald hx hb hv 4 rfl hi17 dX5_send_57 ?_
            refine lv_iconst (v := 1) hx hb dX5_send_58 (by decide) ?_
            refine lv_isub hx hb dX5_send_59 ?_
            obtain ⟨hi18, hf⟩ := xi_some hf
            refine kIast hx hb hv 4 rfl hi18 dX5_send_60 (fun H locs hv => ?_)
            replace hv : Hv s H locs G cy A [(aT, .inr (5, [.int f_thrown, .int f_many, .ref aT_begins, .ref aT_ends, .ref aT_weights, .ref aT_isThere, .ref aT_rooms, .int f_factor, .ref aT_isOffered, .ref aT_isAccepted, .int f_dropped, .ref aT_best, .ref aT_order, .ref aT_froms, .ref aT_tos, .ref aT_counts, .ref aT_points, .ref aT_flows, .ref aT_isUsed, .ref aT_gains, .ref aT_ways, .int f_pointMany])), (aT_begins, .inl (cy.1, 40, .inl A_begins)), (aT_ends, .inl (cy.1, 40, .inl A_ends)), (aT_points, .inl (cy.1, 80, .inl A_points)), (aT_flows, .inl (cy.1, 80, .inl (upd A_flows ((A_ways v1.toNatClampNeg) - (A_ways v1.toNatClampNeg) / 100 * 100).toNatClampNeg ((A_flows ((A_ways v1.toNatClampNeg) - (A_ways v1.toNatClampNeg) / 100 * 100).toNatClampNeg) - 1)))), (aT_isUsed, .inl (cy.2.1, 40, .inl A_isUsed)), (aT_ways, .inl (cy.1, 80, .inl A_ways))] := hv
            refine lv_iload_n hx hb dX5_send_61 rfl (lv_at hl 0 rfl) ?_
            refine lv_iconst (v := 1) hx hb dX5_send_62 (by decide) ?_
            refine lv_iadd hx hb dX5_send_63 ?_
            refine lv_istore_n (lv' := [(1, .int (((A_ways v1.toNatClampNeg) - (A_ways v1.toNatClampNeg) / 100 * 100) + 1)), (3, .int ((A_ways v1.toNatClampNeg) - (A_ways v1.toNatClampNeg) / 100 * 100)), (2, .int (A_ways v1.toNatClampNeg)), (0, .ref aT)]) hx hb dX5_send_64 rfl hl (by decide) rfl (fun ls hl => ?_)
            refine lv_goto (tgt := 113) hx hb dX5_send_65 (by decide) ?_
            refine lv_goto (tgt := 7) hx hb dX5_send_113 (by decide) ?_
            exact ih (((A_ways v1.toNatClampNeg) - (A_ways v1.toNatClampNeg) / 100 * 100) + 1) (upd A_flows ((A_ways v1.toNatClampNeg) - (A_ways v1.toNatClampNeg) / 100 * 100).toNatClampNeg ((A_flows ((A_ways v1.toNatClampNeg) - (A_ways v1.toNatClampNeg) / 100 * 100).toNatClampNeg) - 1)) A_isUsed hf _ _ _ hv (lv_sub hl [3, 0] rfl) hκ
        · replace hf := ite_f hf hc4
          refine lv_aload_n hx hb dX5_send_29 rfl (lv_at hl 2 rfl) ?_
          refine kGet (v := .ref aT_flows) (C := RX5) (T := TX5) (N := 22) hx hb hts hinX5 hown hv 0 rfl rfl 17 (by decide) hk54 (fun _ h9 => h9) rfl dX5_send_30 ?_
          refine lv_iload_n hx hb dX5_send_33 rfl (lv_at hl 0 rfl) ?_
          refine lv_dup2_11 hx hb dX5_send_34 rfl rfl ?_
          obtain ⟨hi19, hf⟩ := xi_some hf
          refine kIald hx hb hv 4 rfl hi19 dX5_send_35 ?_
          refine lv_iconst (v := 1) hx hb dX5_send_36 (by decide) ?_
          refine lv_iadd hx hb dX5_send_37 ?_
          obtain ⟨hi20, hf⟩ := xi_some hf
          refine kIast hx hb hv 4 rfl hi20 dX5_send_38 (fun H locs hv => ?_)
          replace hv : Hv s H locs G cy A [(aT, .inr (5, [.int f_thrown, .int f_many, .ref aT_begins, .ref aT_ends, .ref aT_weights, .ref aT_isThere, .ref aT_rooms, .int f_factor, .ref aT_isOffered, .ref aT_isAccepted, .int f_dropped, .ref aT_best, .ref aT_order, .ref aT_froms, .ref aT_tos, .ref aT_counts, .ref aT_points, .ref aT_flows, .ref aT_isUsed, .ref aT_gains, .ref aT_ways, .int f_pointMany])), (aT_begins, .inl (cy.1, 40, .inl A_begins)), (aT_ends, .inl (cy.1, 40, .inl A_ends)), (aT_points, .inl (cy.1, 80, .inl A_points)), (aT_flows, .inl (cy.1, 80, .inl (upd A_flows ((A_ways v1.toNatClampNeg) - (A_ways v1.toNatClampNeg) / 100 * 100).toNatClampNeg ((A_flows ((A_ways v1.toNatClampNeg) - (A_ways v1.toNatClampNeg) / 100 * 100).toNatClampNeg) + 1)))), (aT_isUsed, .inl (cy.2.1, 40, .inl A_isUsed)), (aT_ways, .inl (cy.1, 80, .inl A_ways))] := hv
          refine lv_iload_n hx hb dX5_send_39 rfl (lv_at hl 0 rfl) ?_
          refine lv_istore_n (lv' := [(1, .int ((A_ways v1.toNatClampNeg) - (A_ways v1.toNatClampNeg) / 100 * 100)), (3, .int ((A_ways v1.toNatClampNeg) - (A_ways v1.toNatClampNeg) / 100 * 100)), (2, .int (A_ways v1.toNatClampNeg)), (0, .ref aT)]) hx hb dX5_send_40 rfl hl (by decide) rfl (fun ls hl => ?_)
          refine lv_goto (tgt := 113) hx hb dX5_send_41 (by decide) ?_
          refine lv_goto (tgt := 7) hx hb dX5_send_113 (by decide) ?_
          exact ih ((A_ways v1.toNatClampNeg) - (A_ways v1.toNatClampNeg) / 100 * 100) (upd A_flows ((A_ways v1.toNatClampNeg) - (A_ways v1.toNatClampNeg) / 100 * 100).toNatClampNeg ((A_flows ((A_ways v1.toNatClampNeg) - (A_ways v1.toNatClampNeg) / 100 * 100).toNatClampNeg) + 1)) A_isUsed hf _ _ _ hv (lv_sub hl [3, 0] rfl) hκ
  unfold f_X5_send at hf
  refine lv_aload_n hx hb dX5_send_0 rfl (lv_at hl 0 rfl) ?_
  refine kGet (v := .int f_pointMany) (C := RX5) (T := TX5) (N := 22) hx hb hts hinX5 hown hv 0 rfl rfl 21 (by decide) hk114 (fun _ h9 => h9) rfl dX5_send_1 ?_
  refine lv_iconst (v := 1) hx hb dX5_send_4 (by decide) ?_
  refine lv_isub hx hb dX5_send_5 ?_
  refine lv_istore_n (lv' := [(1, .int (f_pointMany - 1)), (0, .ref aT)]) hx hb dX5_send_6 rfl hl (by decide) rfl (fun ls hl => ?_)
  refine L7 _ _ _ _ _ hf _ _ _ hv (lv_sub hl [1, 0] rfl) (fun v1_21 A_flows_22 A_isUsed_23 hf H locs ls hv hl => ?_)
  try dsimp only at hf
  cases hf
  exact kret _ _ _ _ hv dX5_send_116

def f_X5_planIn_L6 (k : Nat) (v1 : Int32) (v2 : Int32) (f_many : Int32) (A_isThere : Nat → Int32) (κ : Int32 → (Nat → Int32) → Option (Int32 × Int32 × (Nat → Int32) × (Nat → Int32) × (Nat → Int32) × (Nat → Int32) × (Nat → Int32) × (Nat → Int32))) : Nat → Int32 → (Nat → Int32) → Option (Int32 × Int32 × (Nat → Int32) × (Nat → Int32) × (Nat → Int32) × (Nat → Int32) × (Nat → Int32) × (Nat → Int32))
  | 0, _, _ => none
  | n + 1, v3, A_counts => if f_many ≤ v3 then κ v3 A_counts else xi v3 40 (if (A_isThere v3.toNatClampNeg) = 0 then xi v3 40 (f_X5_planIn_L6 k v1 v2 f_many A_isThere κ n (v3 + 1) (upd A_counts v3.toNatClampNeg (vp_nar .boolean 0))) else if v3 = v2 then xi v3 40 (f_X5_planIn_L6 k v1 v2 f_many A_isThere κ n (v3 + 1) (upd A_counts v3.toNatClampNeg (vp_nar .boolean 0))) else xi v3 40 (f_X5_planIn_L6 k v1 v2 f_many A_isThere κ n (v3 + 1) (upd A_counts v3.toNatClampNeg (vp_nar .boolean 1))))
theorem f_X5_planIn_L6_z (k : Nat) (v1 : Int32) (v2 : Int32) (f_many : Int32) (A_isThere : Nat → Int32) (κ : Int32 → (Nat → Int32) → Option (Int32 × Int32 × (Nat → Int32) × (Nat → Int32) × (Nat → Int32) × (Nat → Int32) × (Nat → Int32) × (Nat → Int32))) (v3 : Int32) (A_counts : Nat → Int32) : f_X5_planIn_L6 k v1 v2 f_many A_isThere κ 0 v3 A_counts = none := rfl
theorem f_X5_planIn_L6_s (k : Nat) (v1 : Int32) (v2 : Int32) (f_many : Int32) (A_isThere : Nat → Int32) (κ : Int32 → (Nat → Int32) → Option (Int32 × Int32 × (Nat → Int32) × (Nat → Int32) × (Nat → Int32) × (Nat → Int32) × (Nat → Int32) × (Nat → Int32))) (n : Nat) (v3 : Int32) (A_counts : Nat → Int32) : f_X5_planIn_L6 k v1 v2 f_many A_isThere κ (n + 1) v3 A_counts = if f_many ≤ v3 then κ v3 A_counts else xi v3 40 (if (A_isThere v3.toNatClampNeg) = 0 then xi v3 40 (f_X5_planIn_L6 k v1 v2 f_many A_isThere κ n (v3 + 1) (upd A_counts v3.toNatClampNeg (vp_nar .boolean 0))) else if v3 = v2 then xi v3 40 (f_X5_planIn_L6 k v1 v2 f_many A_isThere κ n (v3 + 1) (upd A_counts v3.toNatClampNeg (vp_nar .boolean 0))) else xi v3 40 (f_X5_planIn_L6 k v1 v2 f_many A_isThere κ n (v3 + 1) (upd A_counts v3.toNatClampNeg (vp_nar .boolean 1)))) := rfl
def f_X5_planIn_L50 (k : Nat) (v1 : Int32) (f_many : Int32) (f_pointMany : Int32) (A_begins : Nat → Int32) (A_ends : Nat → Int32) (A_weights : Nat → Int32) (A_counts : Nat → Int32) (A_points : Nat → Int32) (κ : Int32 → Int32 → (Nat → Int32) → (Nat → Int32) → (Nat → Int32) → (Nat → Int32) → Option (Int32 × Int32 × (Nat → Int32) × (Nat → Int32) × (Nat → Int32) × (Nat → Int32) × (Nat → Int32) × (Nat → Int32))) : Nat → Int32 → Int32 → (Nat → Int32) → (Nat → Int32) → (Nat → Int32) → (Nat → Int32) → Option (Int32 × Int32 × (Nat → Int32) × (Nat → Int32) × (Nat → Int32) × (Nat → Int32) × (Nat → Int32) × (Nat → Int32))
  | 0, _, _, _, _, _, _ => none
  | n + 1, v3, v4, A_flows, A_isUsed, A_gains, A_ways => if v1 ≤ v4 then κ v3 v4 A_flows A_isUsed A_gains A_ways else if f_pointMany ≤ 0 then κ v3 v4 A_flows A_isUsed A_gains A_ways else xb (f_X5_find k f_many f_pointMany A_begins A_ends A_weights A_counts A_points A_flows A_isUsed A_gains A_ways) (fun (A_gains_17, A_ways_18) => xi (f_pointMany - 1) 80 (xb (f_X5_send k f_pointMany A_begins A_ends A_points A_flows A_isUsed A_ways_18) (fun (A_flows_21, A_isUsed_22) => f_X5_planIn_L50 k v1 f_many f_pointMany A_begins A_ends A_weights A_counts A_points κ n (v3 + (A_gains_17 (f_pointMany - 1).toNatClampNeg)) (v4 + 1) A_flows_21 A_isUsed_22 A_gains_17 A_ways_18)))
theorem f_X5_planIn_L50_z (k : Nat) (v1 : Int32) (f_many : Int32) (f_pointMany : Int32) (A_begins : Nat → Int32) (A_ends : Nat → Int32) (A_weights : Nat → Int32) (A_counts : Nat → Int32) (A_points : Nat → Int32) (κ : Int32 → Int32 → (Nat → Int32) → (Nat → Int32) → (Nat → Int32) → (Nat → Int32) → Option (Int32 × Int32 × (Nat → Int32) × (Nat → Int32) × (Nat → Int32) × (Nat → Int32) × (Nat → Int32) × (Nat → Int32))) (v3 : Int32) (v4 : Int32) (A_flows : Nat → Int32) (A_isUsed : Nat → Int32) (A_gains : Nat → Int32) (A_ways : Nat → Int32) : f_X5_planIn_L50 k v1 f_many f_pointMany A_begins A_ends A_weights A_counts A_points κ 0 v3 v4 A_flows A_isUsed A_gains A_ways = none := rfl
theorem f_X5_planIn_L50_s (k : Nat) (v1 : Int32) (f_many : Int32) (f_pointMany : Int32) (A_begins : Nat → Int32) (A_ends : Nat → Int32) (A_weights : Nat → Int32) (A_counts : Nat → Int32) (A_points : Nat → Int32) (κ : Int32 → Int32 → (Nat → Int32) → (Nat → Int32) → (Nat → Int32) → (Nat → Int32) → Option (Int32 × Int32 × (Nat → Int32) × (Nat → Int32) × (Nat → Int32) × (Nat → Int32) × (Nat → Int32) × (Nat → Int32))) (n : Nat) (v3 : Int32) (v4 : Int32) (A_flows : Nat → Int32) (A_isUsed : Nat → Int32) (A_gains : Nat → Int32) (A_ways : Nat → Int32) : f_X5_planIn_L50 k v1 f_many f_pointMany A_begins A_ends A_weights A_counts A_points κ (n + 1) v3 v4 A_flows A_isUsed A_gains A_ways = if v1 ≤ v4 then κ v3 v4 A_flows A_isUsed A_gains A_ways else if f_pointMany ≤ 0 then κ v3 v4 A_flows A_isUsed A_gains A_ways else xb (f_X5_find k f_many f_pointMany A_begins A_ends A_weights A_counts A_points A_flows A_isUsed A_gains A_ways) (fun (A_gains_17, A_ways_18) => xi (f_pointMany - 1) 80 (xb (f_X5_send k f_pointMany A_begins A_ends A_points A_flows A_isUsed A_ways_18) (fun (A_flows_21, A_isUsed_22) => f_X5_planIn_L50 k v1 f_many f_pointMany A_begins A_ends A_weights A_counts A_points κ n (v3 + (A_gains_17 (f_pointMany - 1).toNatClampNeg)) (v4 + 1) A_flows_21 A_isUsed_22 A_gains_17 A_ways_18))) := rfl
def f_X5_planIn (k : Nat) (p1 : Int32) (p2 : Int32) (f_many : Int32) (f_pointMany : Int32) (A_begins : Nat → Int32) (A_ends : Nat → Int32) (A_weights : Nat → Int32) (A_isThere : Nat → Int32) (A_counts : Nat → Int32) (A_points : Nat → Int32) (A_flows : Nat → Int32) (A_isUsed : Nat → Int32) (A_gains : Nat → Int32) (A_ways : Nat → Int32) : Option (Int32 × Int32 × (Nat → Int32) × (Nat → Int32) × (Nat → Int32) × (Nat → Int32) × (Nat → Int32) × (Nat → Int32)) := xb (f_X5_layPoints k f_many f_pointMany A_begins A_ends A_isThere A_points A_flows A_isUsed) (fun (f_pointMany_1, A_points_2, A_flows_3, A_isUsed_4) => f_X5_planIn_L6 k p1 p2 f_many A_isThere (fun (v3_13 : Int32) (A_counts_14 : Nat → Int32) => f_X5_planIn_L50 k p1 f_many f_pointMany_1 A_begins A_ends A_weights A_counts_14 A_points_2 (fun (v3_24 : Int32) (v4_25 : Int32) (A_flows_26 : Nat → Int32) (A_isUsed_27 : Nat → Int32) (A_gains_28 : Nat → Int32) (A_ways_29 : Nat → Int32) => some (v3_24, f_pointMany_1, A_counts_14, A_points_2, A_flows_26, A_isUsed_27, A_gains_28, A_ways_29)) k 0 0 A_flows_3 A_isUsed_4 A_gains A_ways) k 0 A_counts)
abbrev rm_X5_planIn : Room := { frames := 2, cells := 0, slots := 0, locals := 48 }
set_option maxHeartbeats 4000000 in
set_option maxRecDepth 100000 in
theorem c_X5_planIn (l : Launch) (G : va_G) (cy : ClassId × ClassId × ClassId) (k : Nat) (aT aT_begins aT_ends aT_weights aT_isThere aT_rooms aT_isOffered aT_isAccepted aT_best aT_order aT_froms aT_tos aT_counts aT_points aT_flows aT_isUsed aT_gains aT_ways : Nat) (f_thrown : Int32) (f_many : Int32) (f_factor : Int32) (f_dropped : Int32) (f_pointMany : Int32) (A_begins : Nat → Int32) (A_ends : Nat → Int32) (A_weights : Nat → Int32) (A_isThere : Nat → Int32) (A_counts : Nat → Int32) (A_points : Nat → Int32) (A_flows : Nat → Int32) (A_isUsed : Nat → Int32) (A_gains : Nat → Int32) (A_ways : Nat → Int32) (p1 : Int32) (p2 : Int32) {r : Int32} {wf_pointMany : Int32} {wA_counts : Nat → Int32} {wA_points : Nat → Int32} {wA_flows : Nat → Int32} {wA_isUsed : Nat → Int32} {wA_gains : Nat → Int32} {wA_ways : Nat → Int32} (hf : f_X5_planIn k p1 p2 f_many f_pointMany A_begins A_ends A_weights A_isThere A_counts A_points A_flows A_isUsed A_gains A_ways = some (r, wf_pointMany, wA_counts, wA_points, wA_flows, wA_isUsed, wA_gains, wA_ways)) : Ci l yX5_planIn wsX5_planIn rm_X5_planIn 0 0 G cy [.ref aT, .int p1, .int p2] [(aT, .inr (5, [.int f_thrown, .int f_many, .ref aT_begins, .ref aT_ends, .ref aT_weights, .ref aT_isThere, .ref aT_rooms, .int f_factor, .ref aT_isOffered, .ref aT_isAccepted, .int f_dropped, .ref aT_best, .ref aT_order, .ref aT_froms, .ref aT_tos, .ref aT_counts, .ref aT_points, .ref aT_flows, .ref aT_isUsed, .ref aT_gains, .ref aT_ways, .int f_pointMany])), (aT_begins, .inl (cy.1, 40, .inl A_begins)), (aT_ends, .inl (cy.1, 40, .inl A_ends)), (aT_weights, .inl (cy.1, 40, .inl A_weights)), (aT_isThere, .inl (cy.2.1, 40, .inl A_isThere)), (aT_counts, .inl (cy.2.1, 40, .inl A_counts)), (aT_points, .inl (cy.1, 80, .inl A_points)), (aT_flows, .inl (cy.1, 80, .inl A_flows)), (aT_isUsed, .inl (cy.2.1, 40, .inl A_isUsed)), (aT_gains, .inl (cy.1, 80, .inl A_gains)), (aT_ways, .inl (cy.1, 80, .inl A_ways))] [(aT, .inr (5, [.int f_thrown, .int f_many, .ref aT_begins, .ref aT_ends, .ref aT_weights, .ref aT_isThere, .ref aT_rooms, .int f_factor, .ref aT_isOffered, .ref aT_isAccepted, .int f_dropped, .ref aT_best, .ref aT_order, .ref aT_froms, .ref aT_tos, .ref aT_counts, .ref aT_points, .ref aT_flows, .ref aT_isUsed, .ref aT_gains, .ref aT_ways, .int wf_pointMany])), (aT_begins, .inl (cy.1, 40, .inl A_begins)), (aT_ends, .inl (cy.1, 40, .inl A_ends)), (aT_weights, .inl (cy.1, 40, .inl A_weights)), (aT_isThere, .inl (cy.2.1, 40, .inl A_isThere)), (aT_counts, .inl (cy.2.1, 40, .inl wA_counts)), (aT_points, .inl (cy.1, 80, .inl wA_points)), (aT_flows, .inl (cy.1, 80, .inl wA_flows)), (aT_isUsed, .inl (cy.2.1, 40, .inl wA_isUsed)), (aT_gains, .inl (cy.1, 80, .inl wA_gains)), (aT_ways, .inl (cy.1, 80, .inl wA_ways))] r := by
  refine kMetI (cc := cX5_planIn) (maxL := 5) (by decide) rfl (Nat.le_of_ble_eq_true rfl) ?_
  intro p e s m args below meth c Q A ls hx hb hml hts hown hv hl kret
  replace hown : s.vm.findClass RX5 = some m.cls := hown
  replace hl : lv_has ls 5 [(0, .ref aT), (1, .int p1), (2, .int p2)] := hl
  have hk69 : (Cond.fieldLink RX5 69 "RoomcolourModel" "many" "I").before args s = true := hts _ (by decide +kernel)
  have hinX5 : ∀ w ∈ wsX50, w ∈ wsX5_planIn := by decide +kernel
  have hk48 : (Cond.fieldLink RX5 48 "RoomcolourModel" "counts" "[Z").before args s = true := hts _ (by decide +kernel)
  have hk19 : (Cond.fieldLink RX5 19 "RoomcolourModel" "isThere" "[Z").before args s = true := hts _ (by decide +kernel)
  have hk114 : (Cond.fieldLink RX5 114 "RoomcolourModel" "pointMany" "I").before args s = true := hts _ (by decide +kernel)
  have hk60 : (Cond.fieldLink RX5 60 "RoomcolourModel" "gains" "[I").before args s = true := hts _ (by decide +kernel)
  have L6 : ∀ (v1 : Int32) (v2 : Int32) (f_pointMany : Int32) (A_points : Nat → Int32) (A_flows : Nat → Int32) (A_isUsed : Nat → Int32) (A_gains : Nat → Int32) (A_ways : Nat → Int32) (κ : Int32 → (Nat → Int32) → Option (Int32 × Int32 × (Nat → Int32) × (Nat → Int32) × (Nat → Int32) × (Nat → Int32) × (Nat → Int32) × (Nat → Int32))) (n : Nat) (v3 : Int32) (A_counts : Nat → Int32), f_X5_planIn_L6 k v1 v2 f_many A_isThere κ n v3 A_counts = some (r, wf_pointMany, wA_counts, wA_points, wA_flows, wA_isUsed, wA_gains, wA_ways) → ∀ (H : Heap) (locs : List Loc) (ls : Array Slot), Hv s H locs G cy A [(aT, .inr (5, [.int f_thrown, .int f_many, .ref aT_begins, .ref aT_ends, .ref aT_weights, .ref aT_isThere, .ref aT_rooms, .int f_factor, .ref aT_isOffered, .ref aT_isAccepted, .int f_dropped, .ref aT_best, .ref aT_order, .ref aT_froms, .ref aT_tos, .ref aT_counts, .ref aT_points, .ref aT_flows, .ref aT_isUsed, .ref aT_gains, .ref aT_ways, .int f_pointMany])), (aT_begins, .inl (cy.1, 40, .inl A_begins)), (aT_ends, .inl (cy.1, 40, .inl A_ends)), (aT_weights, .inl (cy.1, 40, .inl A_weights)), (aT_isThere, .inl (cy.2.1, 40, .inl A_isThere)), (aT_counts, .inl (cy.2.1, 40, .inl A_counts)), (aT_points, .inl (cy.1, 80, .inl A_points)), (aT_flows, .inl (cy.1, 80, .inl A_flows)), (aT_isUsed, .inl (cy.2.1, 40, .inl A_isUsed)), (aT_gains, .inl (cy.1, 80, .inl A_gains)), (aT_ways, .inl (cy.1, 80, .inl A_ways))] → lv_has ls 5 [(0, .ref aT), (1, .int v1), (2, .int v2), (3, .int v3)] → (∀ (v3 : Int32) (A_counts : Nat → Int32), κ v3 A_counts = some (r, wf_pointMany, wA_counts, wA_points, wA_flows, wA_isUsed, wA_gains, wA_ways) → ∀ (H : Heap) (locs : List Loc) (ls : Array Slot), Hv s H locs G cy A [(aT, .inr (5, [.int f_thrown, .int f_many, .ref aT_begins, .ref aT_ends, .ref aT_weights, .ref aT_isThere, .ref aT_rooms, .int f_factor, .ref aT_isOffered, .ref aT_isAccepted, .int f_dropped, .ref aT_best, .ref aT_order, .ref aT_froms, .ref aT_tos, .ref aT_counts, .ref aT_points, .ref aT_flows, .ref aT_isUsed, .ref aT_gains, .ref aT_ways, .int f_pointMany])), (aT_begins, .inl (cy.1, 40, .inl A_begins)), (aT_ends, .inl (cy.1, 40, .inl A_ends)), (aT_weights, .inl (cy.1, 40, .inl A_weights)), (aT_isThere, .inl (cy.2.1, 40, .inl A_isThere)), (aT_counts, .inl (cy.2.1, 40, .inl A_counts)), (aT_points, .inl (cy.1, 80, .inl A_points)), (aT_flows, .inl (cy.1, 80, .inl A_flows)), (aT_isUsed, .inl (cy.2.1, 40, .inl A_isUsed)), (aT_gains, .inl (cy.1, 80, .inl A_gains)), (aT_ways, .inl (cy.1, 80, .inl A_ways))] → lv_has ls 5 [(0, .ref aT), (1, .int v1)] → W p l e rm_X5_planIn s m args below meth c H locs 0 0 Q (F0 m 45 ls [])) → W p l e rm_X5_planIn s m args below meth c H locs 0 0 Q (F0 m 6 ls []) := by
    intro v1 v2 f_pointMany A_points A_flows A_isUsed A_gains A_ways κ n
    induction n with
    | zero =>
      intro v3 A_counts hf
      rw [f_X5_planIn_L6_z] at hf
      cases hf
    | succ n ih =>
      intro v3 A_counts hf H locs ls hv hl hκ
      rw [f_X5_planIn_L6_s] at hf
      refine lv_iload_n hx hb dX5_planIn_6 rfl (lv_at hl 3 rfl) ?_
      refine lv_aload_n hx hb dX5_planIn_7 rfl (lv_at hl 0 rfl) ?_
      refine kGet (v := .int f_many) (C := RX5) (T := TX5) (N := 22) hx hb hts hinX5 hown hv 0 rfl rfl 1 (by decide) hk69 (fun _ h9 => h9) rfl dX5_planIn_8 ?_
      refine lv_icmp_ge (tgt := 45) hx hb dX5_planIn_11 (by decide) (fun hc6 => ?_) (fun hc6 => ?_)
      · replace hf := ite_t hf hc6
        exact hκ v3 A_counts hf _ _ _ hv (lv_sub hl [0, 1] rfl)
      · replace hf := ite_f hf hc6
        refine lv_aload_n hx hb dX5_planIn_14 rfl (lv_at hl 0 rfl) ?_
        refine kGet (v := .ref aT_counts) (C := RX5) (T := TX5) (N := 22) hx hb hts hinX5 hown hv 0 rfl rfl 15 (by decide) hk48 (fun _ h9 => h9) rfl dX5_planIn_15 ?_
        refine lv_iload_n hx hb dX5_planIn_18 rfl (lv_at hl 3 rfl) ?_
        refine lv_aload_n hx hb dX5_planIn_19 rfl (lv_at hl 0 rfl) ?_
        refine kGet (v := .ref aT_isThere) (C := RX5) (T := TX5) (N := 22) hx hb hts hinX5 hown hv 0 rfl rfl 5 (by decide) hk19 (fun _ h9 => h9) rfl dX5_planIn_20 ?_
        refine lv_iload_n hx hb dX5_planIn_23 rfl (lv_at hl 3 rfl) ?_
        obtain ⟨hi7, hf⟩ := xi_some hf
        refine kZald hx hb hv 4 rfl hi7 dX5_planIn_24 ?_
        refine lv_if_eq (tgt := 37) hx hb dX5_planIn_25 (by decide) (fun hc8 => ?_) (fun hc8 => ?_)
        · replace hf := ite_t hf hc8
          refine lv_iconst (v := 0) hx hb dX5_planIn_37 (by decide) ?_
          obtain ⟨hi9, hf⟩ := xi_some hf
          refine kZast hx hb hv 5 rfl hi9 dX5_planIn_38 (fun H locs hv => ?_)
          replace hv : Hv s H locs G cy A [(aT, .inr (5, [.int f_thrown, .int f_many, .ref aT_begins, .ref aT_ends, .ref aT_weights, .ref aT_isThere, .ref aT_rooms, .int f_factor, .ref aT_isOffered, .ref aT_isAccepted, .int f_dropped, .ref aT_best, .ref aT_order, .ref aT_froms, .ref aT_tos, .ref aT_counts, .ref aT_points, .ref aT_flows, .ref aT_isUsed, .ref aT_gains, .ref aT_ways, .int f_pointMany])), (aT_begins, .inl (cy.1, 40, .inl A_begins)), (aT_ends, .inl (cy.1, 40, .inl A_ends)), (aT_weights, .inl (cy.1, 40, .inl A_weights)), (aT_isThere, .inl (cy.2.1, 40, .inl A_isThere)), (aT_counts, .inl (cy.2.1, 40, .inl (upd A_counts v3.toNatClampNeg (vp_nar .boolean 0)))), (aT_points, .inl (cy.1, 80, .inl A_points)), (aT_flows, .inl (cy.1, 80, .inl A_flows)), (aT_isUsed, .inl (cy.2.1, 40, .inl A_isUsed)), (aT_gains, .inl (cy.1, 80, .inl A_gains)), (aT_ways, .inl (cy.1, 80, .inl A_ways))] := hv
          refine lv_iinc (v := v3 + 1) (lv' := [(3, .int (v3 + 1)), (0, .ref aT), (1, .int v1), (2, .int v2)]) hx hb dX5_planIn_39 hl (k := 3) rfl rfl (by decide) rfl (fun ls hl => ?_)
          refine lv_goto (tgt := 6) hx hb dX5_planIn_42 (by decide) ?_
          exact ih (v3 + 1) (upd A_counts v3.toNatClampNeg (vp_nar .boolean 0)) hf _ _ _ hv (lv_sub hl [1, 2, 3, 0] rfl) hκ
        · replace hf := ite_f hf hc8
          refine lv_iload_n hx hb dX5_planIn_28 rfl (lv_at hl 3 rfl) ?_
          refine lv_iload_n hx hb dX5_planIn_29 rfl (lv_at hl 2 rfl) ?_
          refine lv_icmp_eq (tgt := 37) hx hb dX5_planIn_30 (by decide) (fun hc10 => ?_) (fun hc10 => ?_)
          · replace hf := ite_t hf hc10
            refine lv_iconst (v := 0) hx hb dX5_planIn_37 (by decide) ?_
            obtain ⟨hi11, hf⟩ := xi_some hf
            refine kZast hx hb hv 5 rfl hi11 dX5_planIn_38 (fun H locs hv => ?_)
            replace hv : Hv s H locs G cy A [(aT, .inr (5, [.int f_thrown, .int f_many, .ref aT_begins, .ref aT_ends, .ref aT_weights, .ref aT_isThere, .ref aT_rooms, .int f_factor, .ref aT_isOffered, .ref aT_isAccepted, .int f_dropped, .ref aT_best, .ref aT_order, .ref aT_froms, .ref aT_tos, .ref aT_counts, .ref aT_points, .ref aT_flows, .ref aT_isUsed, .ref aT_gains, .ref aT_ways, .int f_pointMany])), (aT_begins, .inl (cy.1, 40, .inl A_begins)), (aT_ends, .inl (cy.1, 40, .inl A_ends)), (aT_weights, .inl (cy.1, 40, .inl A_weights)), (aT_isThere, .inl (cy.2.1, 40, .inl A_isThere)), (aT_counts, .inl (cy.2.1, 40, .inl (upd A_counts v3.toNatClampNeg (vp_nar .boolean 0)))), (aT_points, .inl (cy.1, 80, .inl A_points)), (aT_flows, .inl (cy.1, 80, .inl A_flows)), (aT_isUsed, .inl (cy.2.1, 40, .inl A_isUsed)), (aT_gains, .inl (cy.1, 80, .inl A_gains)), (aT_ways, .inl (cy.1, 80, .inl A_ways))] := hv
            refine lv_iinc (v := v3 + 1) (lv' := [(3, .int (v3 + 1)), (0, .ref aT), (1, .int v1), (2, .int v2)]) hx hb dX5_planIn_39 hl (k := 3) rfl rfl (by decide) rfl (fun ls hl => ?_)
            refine lv_goto (tgt := 6) hx hb dX5_planIn_42 (by decide) ?_
            exact ih (v3 + 1) (upd A_counts v3.toNatClampNeg (vp_nar .boolean 0)) hf _ _ _ hv (lv_sub hl [1, 2, 3, 0] rfl) hκ
          · replace hf := ite_f hf hc10
            refine lv_iconst (v := 1) hx hb dX5_planIn_33 (by decide) ?_
            refine lv_goto (tgt := 38) hx hb dX5_planIn_34 (by decide) ?_
            obtain ⟨hi12, hf⟩ := xi_some hf
            refine kZast hx hb hv 5 rfl hi12 dX5_planIn_38 (fun H locs hv => ?_)
            replace hv : Hv s H locs G cy A [(aT, .inr (5, [.int f_thrown, .int f_many, .ref aT_begins, .ref aT_ends, .ref aT_weights, .ref aT_isThere, .ref aT_rooms, .int f_factor, .ref aT_isOffered, .ref aT_isAccepted, .int f_dropped, .ref aT_best, .ref aT_order, .ref aT_froms, .ref aT_tos, .ref aT_counts, .ref aT_points, .ref aT_flows, .ref aT_isUsed, .ref aT_gains, .ref aT_ways, .int f_pointMany])), (aT_begins, .inl (cy.1, 40, .inl A_begins)), (aT_ends, .inl (cy.1, 40, .inl A_ends)), (aT_weights, .inl (cy.1, 40, .inl A_weights)), (aT_isThere, .inl (cy.2.1, 40, .inl A_isThere)), (aT_counts, .inl (cy.2.1, 40, .inl (upd A_counts v3.toNatClampNeg (vp_nar .boolean 1)))), (aT_points, .inl (cy.1, 80, .inl A_points)), (aT_flows, .inl (cy.1, 80, .inl A_flows)), (aT_isUsed, .inl (cy.2.1, 40, .inl A_isUsed)), (aT_gains, .inl (cy.1, 80, .inl A_gains)), (aT_ways, .inl (cy.1, 80, .inl A_ways))] := hv
            refine lv_iinc (v := v3 + 1) (lv' := [(3, .int (v3 + 1)), (0, .ref aT), (1, .int v1), (2, .int v2)]) hx hb dX5_planIn_39 hl (k := 3) rfl rfl (by decide) rfl (fun ls hl => ?_)
            refine lv_goto (tgt := 6) hx hb dX5_planIn_42 (by decide) ?_
            exact ih (v3 + 1) (upd A_counts v3.toNatClampNeg (vp_nar .boolean 1)) hf _ _ _ hv (lv_sub hl [1, 2, 3, 0] rfl) hκ
  have L50 : ∀ (v1 : Int32) (f_pointMany : Int32) (A_counts : Nat → Int32) (A_points : Nat → Int32) (κ : Int32 → Int32 → (Nat → Int32) → (Nat → Int32) → (Nat → Int32) → (Nat → Int32) → Option (Int32 × Int32 × (Nat → Int32) × (Nat → Int32) × (Nat → Int32) × (Nat → Int32) × (Nat → Int32) × (Nat → Int32))) (n : Nat) (v3 : Int32) (v4 : Int32) (A_flows : Nat → Int32) (A_isUsed : Nat → Int32) (A_gains : Nat → Int32) (A_ways : Nat → Int32), f_X5_planIn_L50 k v1 f_many f_pointMany A_begins A_ends A_weights A_counts A_points κ n v3 v4 A_flows A_isUsed A_gains A_ways = some (r, wf_pointMany, wA_counts, wA_points, wA_flows, wA_isUsed, wA_gains, wA_ways) → ∀ (H : Heap) (locs : List Loc) (ls : Array Slot), Hv s H locs G cy A [(aT, .inr (5, [.int f_thrown, .int f_many, .ref aT_begins, .ref aT_ends, .ref aT_weights, .ref aT_isThere, .ref aT_rooms, .int f_factor, .ref aT_isOffered, .ref aT_isAccepted, .int f_dropped, .ref aT_best, .ref aT_order, .ref aT_froms, .ref aT_tos, .ref aT_counts, .ref aT_points, .ref aT_flows, .ref aT_isUsed, .ref aT_gains, .ref aT_ways, .int f_pointMany])), (aT_begins, .inl (cy.1, 40, .inl A_begins)), (aT_ends, .inl (cy.1, 40, .inl A_ends)), (aT_weights, .inl (cy.1, 40, .inl A_weights)), (aT_isThere, .inl (cy.2.1, 40, .inl A_isThere)), (aT_counts, .inl (cy.2.1, 40, .inl A_counts)), (aT_points, .inl (cy.1, 80, .inl A_points)), (aT_flows, .inl (cy.1, 80, .inl A_flows)), (aT_isUsed, .inl (cy.2.1, 40, .inl A_isUsed)), (aT_gains, .inl (cy.1, 80, .inl A_gains)), (aT_ways, .inl (cy.1, 80, .inl A_ways))] → lv_has ls 5 [(0, .ref aT), (1, .int v1), (3, .int v3), (4, .int v4)] → (∀ (v3 : Int32) (v4 : Int32) (A_flows : Nat → Int32) (A_isUsed : Nat → Int32) (A_gains : Nat → Int32) (A_ways : Nat → Int32), κ v3 v4 A_flows A_isUsed A_gains A_ways = some (r, wf_pointMany, wA_counts, wA_points, wA_flows, wA_isUsed, wA_gains, wA_ways) → ∀ (H : Heap) (locs : List Loc) (ls : Array Slot), Hv s H locs G cy A [(aT, .inr (5, [.int f_thrown, .int f_many, .ref aT_begins, .ref aT_ends, .ref aT_weights, .ref aT_isThere, .ref aT_rooms, .int f_factor, .ref aT_isOffered, .ref aT_isAccepted, .int f_dropped, .ref aT_best, .ref aT_order, .ref aT_froms, .ref aT_tos, .ref aT_counts, .ref aT_points, .ref aT_flows, .ref aT_isUsed, .ref aT_gains, .ref aT_ways, .int f_pointMany])), (aT_begins, .inl (cy.1, 40, .inl A_begins)), (aT_ends, .inl (cy.1, 40, .inl A_ends)), (aT_weights, .inl (cy.1, 40, .inl A_weights)), (aT_isThere, .inl (cy.2.1, 40, .inl A_isThere)), (aT_counts, .inl (cy.2.1, 40, .inl A_counts)), (aT_points, .inl (cy.1, 80, .inl A_points)), (aT_flows, .inl (cy.1, 80, .inl A_flows)), (aT_isUsed, .inl (cy.2.1, 40, .inl A_isUsed)), (aT_gains, .inl (cy.1, 80, .inl A_gains)), (aT_ways, .inl (cy.1, 80, .inl A_ways))] → lv_has ls 5 [(3, .int v3)] → W p l e rm_X5_planIn s m args below meth c H locs 0 0 Q (F0 m 91 ls [])) → W p l e rm_X5_planIn s m args below meth c H locs 0 0 Q (F0 m 50 ls []) := by
    intro v1 f_pointMany A_counts A_points κ n
    induction n with
    | zero =>
      intro v3 v4 A_flows A_isUsed A_gains A_ways hf
      rw [f_X5_planIn_L50_z] at hf
      cases hf
    | succ n ih =>
      intro v3 v4 A_flows A_isUsed A_gains A_ways hf H locs ls hv hl hκ
      rw [f_X5_planIn_L50_s] at hf
      refine lv_iload hx hb dX5_planIn_50 (lv_at hl 3 rfl) ?_
      refine lv_iload_n hx hb dX5_planIn_52 rfl (lv_at hl 1 rfl) ?_
      refine lv_icmp_ge (tgt := 91) hx hb dX5_planIn_53 (by decide) (fun hc15 => ?_) (fun hc15 => ?_)
      · replace hf := ite_t hf hc15
        exact hκ v3 v4 A_flows A_isUsed A_gains A_ways hf _ _ _ hv (lv_sub hl [2] rfl)
      · replace hf := ite_f hf hc15
        refine lv_aload_n hx hb dX5_planIn_56 rfl (lv_at hl 0 rfl) ?_
        refine kGet (v := .int f_pointMany) (C := RX5) (T := TX5) (N := 22) hx hb hts hinX5 hown hv 0 rfl rfl 21 (by decide) hk114 (fun _ h9 => h9) rfl dX5_planIn_57 ?_
        refine lv_if_le (tgt := 91) hx hb dX5_planIn_60 (by decide) (fun hc16 => ?_) (fun hc16 => ?_)
        · replace hf := ite_t hf hc16
          exact hκ v3 v4 A_flows A_isUsed A_gains A_ways hf _ _ _ hv (lv_sub hl [2] rfl)
        · replace hf := ite_f hf hc16
          refine lv_aload_n hx hb dX5_planIn_63 rfl (lv_at hl 0 rfl) ?_
          obtain ⟨⟨A_gains_17, A_ways_18⟩, hcl19, hf⟩ := xb_some hf
          dsimp only at hf
          refine kV_v (wr := [(aT_isThere, .inl (cy.2.1, 40, .inl A_isThere))]) (w2 := [(aT, .inr (5, [.int f_thrown, .int f_many, .ref aT_begins, .ref aT_ends, .ref aT_weights, .ref aT_isThere, .ref aT_rooms, .int f_factor, .ref aT_isOffered, .ref aT_isAccepted, .int f_dropped, .ref aT_best, .ref aT_order, .ref aT_froms, .ref aT_tos, .ref aT_counts, .ref aT_points, .ref aT_flows, .ref aT_isUsed, .ref aT_gains, .ref aT_ways, .int f_pointMany])), (aT_begins, .inl (cy.1, 40, .inl A_begins)), (aT_ends, .inl (cy.1, 40, .inl A_ends)), (aT_weights, .inl (cy.1, 40, .inl A_weights)), (aT_isThere, .inl (cy.2.1, 40, .inl A_isThere)), (aT_counts, .inl (cy.2.1, 40, .inl A_counts)), (aT_points, .inl (cy.1, 80, .inl A_points)), (aT_flows, .inl (cy.1, 80, .inl A_flows)), (aT_isUsed, .inl (cy.2.1, 40, .inl A_isUsed)), (aT_gains, .inl (cy.1, 80, .inl A_gains_17)), (aT_ways, .inl (cy.1, 80, .inl A_ways_18))]) ⟨hx, hb, hml, hown, hts⟩ (c_X5_find l G cy k aT aT_begins aT_ends aT_weights aT_isThere aT_rooms aT_isOffered aT_isAccepted aT_best aT_order aT_froms aT_tos aT_counts aT_points aT_flows aT_isUsed aT_gains aT_ways f_thrown f_many f_factor f_dropped f_pointMany A_begins A_ends A_weights A_counts A_points A_flows A_isUsed A_gains A_ways hcl19) (cwV 0 hts gX5_planIn_X5_find rfl rfl rfl (by decide +kernel) ⟨Nat.le_of_ble_eq_true rfl, Nat.le_of_ble_eq_true rfl⟩) hv (isC := [0, 1, 2, 3, 5, 6, 7, 8, 9, 10]) ⟨rfl, rfl⟩ (hv.recv 5 0 rfl rfl) [4] [1, 2, 3, 4, 0, 5, 6, 7, 8, 9, 10] rfl rfl (by decide) rfl rfl rfl hl.1 rfl (Nat.le_of_ble_eq_true rfl) dX5_planIn_64 ⟨Nat.le_of_ble_eq_true rfl, Nat.le_of_ble_eq_true rfl⟩ (fun H locs hv => ?_)
          refine lv_iload_n hx hb dX5_planIn_67 rfl (lv_at hl 2 rfl) ?_
          refine lv_aload_n hx hb dX5_planIn_68 rfl (lv_at hl 0 rfl) ?_
          refine kGet (v := .ref aT_gains) (C := RX5) (T := TX5) (N := 22) hx hb hts hinX5 hown hv 0 rfl rfl 19 (by decide) hk60 (fun _ h9 => h9) rfl dX5_planIn_69 ?_
          refine lv_aload_n hx hb dX5_planIn_72 rfl (lv_at hl 0 rfl) ?_
          refine kGet (v := .int f_pointMany) (C := RX5) (T := TX5) (N := 22) hx hb hts hinX5 hown hv 0 rfl rfl 21 (by decide) hk114 (fun _ h9 => h9) rfl dX5_planIn_73 ?_
          refine lv_iconst (v := 1) hx hb dX5_planIn_76 (by decide) ?_
          refine lv_isub hx hb dX5_planIn_77 ?_
          obtain ⟨hi20, hf⟩ := xi_some hf
          refine kIald hx hb hv 9 rfl hi20 dX5_planIn_78 ?_
          refine lv_iadd hx hb dX5_planIn_79 ?_
          refine lv_istore_n (lv' := [(3, .int (v3 + (A_gains_17 (f_pointMany - 1).toNatClampNeg))), (0, .ref aT), (1, .int v1), (4, .int v4)]) hx hb dX5_planIn_80 rfl hl (by decide) rfl (fun ls hl => ?_)
          refine lv_aload_n hx hb dX5_planIn_81 rfl (lv_at hl 1 rfl) ?_
          obtain ⟨⟨A_flows_21, A_isUsed_22⟩, hcl23, hf⟩ := xb_some hf
          dsimp only at hf
          refine kV_v (wr := [(aT_weights, .inl (cy.1, 40, .inl A_weights)), (aT_isThere, .inl (cy.2.1, 40, .inl A_isThere)), (aT_counts, .inl (cy.2.1, 40, .inl A_counts)), (aT_gains, .inl (cy.1, 80, .inl A_gains_17))]) (w2 := [(aT, .inr (5, [.int f_thrown, .int f_many, .ref aT_begins, .ref aT_ends, .ref aT_weights, .ref aT_isThere, .ref aT_rooms, .int f_factor, .ref aT_isOffered, .ref aT_isAccepted, .int f_dropped, .ref aT_best, .ref aT_order, .ref aT_froms, .ref aT_tos, .ref aT_counts, .ref aT_points, .ref aT_flows, .ref aT_isUsed, .ref aT_gains, .ref aT_ways, .int f_pointMany])), (aT_begins, .inl (cy.1, 40, .inl A_begins)), (aT_ends, .inl (cy.1, 40, .inl A_ends)), (aT_weights, .inl (cy.1, 40, .inl A_weights)), (aT_isThere, .inl (cy.2.1, 40, .inl A_isThere)), (aT_counts, .inl (cy.2.1, 40, .inl A_counts)), (aT_points, .inl (cy.1, 80, .inl A_points)), (aT_flows, .inl (cy.1, 80, .inl A_flows_21)), (aT_isUsed, .inl (cy.2.1, 40, .inl A_isUsed_22)), (aT_gains, .inl (cy.1, 80, .inl A_gains_17)), (aT_ways, .inl (cy.1, 80, .inl A_ways_18))]) ⟨hx, hb, hml, hown, hts⟩ (c_X5_send l G cy k aT aT_begins aT_ends aT_weights aT_isThere aT_rooms aT_isOffered aT_isAccepted aT_best aT_order aT_froms aT_tos aT_counts aT_points aT_flows aT_isUsed aT_gains aT_ways f_thrown f_many f_factor f_dropped f_pointMany A_begins A_ends A_points A_flows A_isUsed A_ways_18 hcl23) (cwV 0 hts gX5_planIn_X5_send rfl rfl rfl (by decide +kernel) ⟨Nat.le_of_ble_eq_true rfl, Nat.le_of_ble_eq_true rfl⟩) hv (isC := [0, 1, 2, 6, 7, 8, 10]) ⟨rfl, rfl⟩ (hv.recv 5 0 rfl rfl) [3, 4, 5, 9] [4, 5, 6, 0, 1, 2, 7, 8, 9, 3, 10] rfl rfl (by decide) rfl rfl rfl hl.1 rfl (Nat.le_of_ble_eq_true rfl) dX5_planIn_82 ⟨Nat.le_of_ble_eq_true rfl, Nat.le_of_ble_eq_true rfl⟩ (fun H locs hv => ?_)
          refine lv_iinc (v := v4 + 1) (lv' := [(4, .int (v4 + 1)), (3, .int (v3 + (A_gains_17 (f_pointMany - 1).toNatClampNeg))), (0, .ref aT), (1, .int v1)]) hx hb dX5_planIn_85 hl (k := 3) rfl rfl (by decide) rfl (fun ls hl => ?_)
          refine lv_goto (tgt := 50) hx hb dX5_planIn_88 (by decide) ?_
          exact ih (v3 + (A_gains_17 (f_pointMany - 1).toNatClampNeg)) (v4 + 1) A_flows_21 A_isUsed_22 A_gains_17 A_ways_18 hf _ _ _ hv (lv_sub hl [2, 3, 1, 0] rfl) hκ
  unfold f_X5_planIn at hf
  refine lv_aload_n hx hb dX5_planIn_0 rfl (lv_at hl 0 rfl) ?_
  obtain ⟨⟨f_pointMany_1, A_points_2, A_flows_3, A_isUsed_4⟩, hcl5, hf⟩ := xb_some hf
  dsimp only at hf
  refine kV_v (wr := [(aT_weights, .inl (cy.1, 40, .inl A_weights)), (aT_counts, .inl (cy.2.1, 40, .inl A_counts)), (aT_gains, .inl (cy.1, 80, .inl A_gains)), (aT_ways, .inl (cy.1, 80, .inl A_ways))]) (w2 := [(aT, .inr (5, [.int f_thrown, .int f_many, .ref aT_begins, .ref aT_ends, .ref aT_weights, .ref aT_isThere, .ref aT_rooms, .int f_factor, .ref aT_isOffered, .ref aT_isAccepted, .int f_dropped, .ref aT_best, .ref aT_order, .ref aT_froms, .ref aT_tos, .ref aT_counts, .ref aT_points, .ref aT_flows, .ref aT_isUsed, .ref aT_gains, .ref aT_ways, .int f_pointMany_1])), (aT_begins, .inl (cy.1, 40, .inl A_begins)), (aT_ends, .inl (cy.1, 40, .inl A_ends)), (aT_weights, .inl (cy.1, 40, .inl A_weights)), (aT_isThere, .inl (cy.2.1, 40, .inl A_isThere)), (aT_counts, .inl (cy.2.1, 40, .inl A_counts)), (aT_points, .inl (cy.1, 80, .inl A_points_2)), (aT_flows, .inl (cy.1, 80, .inl A_flows_3)), (aT_isUsed, .inl (cy.2.1, 40, .inl A_isUsed_4)), (aT_gains, .inl (cy.1, 80, .inl A_gains)), (aT_ways, .inl (cy.1, 80, .inl A_ways))]) ⟨hx, hb, hml, hown, hts⟩ (c_X5_layPoints l G cy k aT aT_begins aT_ends aT_weights aT_isThere aT_rooms aT_isOffered aT_isAccepted aT_best aT_order aT_froms aT_tos aT_counts aT_points aT_flows aT_isUsed aT_gains aT_ways f_thrown f_many f_factor f_dropped f_pointMany A_begins A_ends A_isThere A_points A_flows A_isUsed hcl5) (cwV 0 hts gX5_planIn_X5_layPoints rfl rfl rfl (by decide +kernel) ⟨Nat.le_of_ble_eq_true rfl, Nat.le_of_ble_eq_true rfl⟩) hv (isC := [0, 1, 2, 4, 6, 7, 8]) ⟨rfl, rfl⟩ (hv.recv 5 0 rfl rfl) [3, 5, 9, 10] [4, 5, 6, 0, 7, 1, 8, 9, 10, 2, 3] rfl rfl (by decide) rfl rfl rfl hl.1 rfl (Nat.le_of_ble_eq_true rfl) dX5_planIn_1 ⟨Nat.le_of_ble_eq_true rfl, Nat.le_of_ble_eq_true rfl⟩ (fun H locs hv => ?_)
  refine lv_iconst (v := 0) hx hb dX5_planIn_4 (by decide) ?_
  refine lv_istore_n (lv' := [(3, .int 0), (0, .ref aT), (1, .int p1), (2, .int p2)]) hx hb dX5_planIn_5 rfl hl (by decide) rfl (fun ls hl => ?_)
  refine L6 _ _ _ _ _ _ _ _ _ _ _ _ hf _ _ _ hv (lv_sub hl [1, 2, 3, 0] rfl) (fun v3_13 A_counts_14 hf H locs ls hv hl => ?_)
  try dsimp only at hf
  refine lv_iconst (v := 0) hx hb dX5_planIn_45 (by decide) ?_
  refine lv_istore_n (lv' := [(3, .int 0), (0, .ref aT), (1, .int p1)]) hx hb dX5_planIn_46 rfl hl (by decide) rfl (fun ls hl => ?_)
  refine lv_iconst (v := 0) hx hb dX5_planIn_47 (by decide) ?_
  refine lv_istore (lv' := [(4, .int 0), (3, .int 0), (0, .ref aT), (1, .int p1)]) hx hb dX5_planIn_48 hl (by decide) rfl (fun ls hl => ?_)
  refine L50 _ _ _ _ _ _ _ _ _ _ _ _ hf _ _ _ hv (lv_sub hl [2, 3, 1, 0] rfl) (fun v3_24 v4_25 A_flows_26 A_isUsed_27 A_gains_28 A_ways_29 hf H locs ls hv hl => ?_)
  try dsimp only at hf
  refine lv_iload_n hx hb dX5_planIn_91 rfl (lv_at hl 0 rfl) ?_
  cases hf
  exact kret _ _ _ _ hv dX5_planIn_92

def f_X5_heaviestIn (k : Nat) (p1 : Int32) (f_thrown : Int32) (f_many : Int32) (f_pointMany : Int32) (A_begins : Nat → Int32) (A_ends : Nat → Int32) (A_weights : Nat → Int32) (A_isThere : Nat → Int32) (A_counts : Nat → Int32) (A_points : Nat → Int32) (A_flows : Nat → Int32) (A_isUsed : Nat → Int32) (A_gains : Nat → Int32) (A_ways : Nat → Int32) : Option (Int32 × Int32 × Int32 × (Nat → Int32) × (Nat → Int32) × (Nat → Int32) × (Nat → Int32) × (Nat → Int32) × (Nat → Int32)) := xb (f_X5_in k p1 1 6) (fun r1 => xj (fun (x5 : Int32) => xb (f_X5_goesWell k x5 f_thrown) (fun (r6, f_thrown_7) => if r6 = 0 then some (0, f_thrown_7, f_pointMany, A_counts, A_points, A_flows, A_isUsed, A_gains, A_ways) else xb (f_X5_planIn k p1 (-1) f_many f_pointMany A_begins A_ends A_weights A_isThere A_counts A_points A_flows A_isUsed A_gains A_ways) (fun (r10, f_pointMany_11, A_counts_12, A_points_13, A_flows_14, A_isUsed_15, A_gains_16, A_ways_17) => some (r10, f_thrown_7, f_pointMany_11, A_counts_12, A_points_13, A_flows_14, A_isUsed_15, A_gains_16, A_ways_17)))) (fun (j16_4 : Int32 → Option (Int32 × Int32 × Int32 × (Nat → Int32) × (Nat → Int32) × (Nat → Int32) × (Nat → Int32) × (Nat → Int32) × (Nat → Int32))) => if r1 = 0 then j16_4 1 else j16_4 0))
abbrev rm_X5_heaviestIn : Room := { frames := 3, cells := 0, slots := 0, locals := 72 }
set_option maxHeartbeats 4000000 in
set_option maxRecDepth 100000 in
theorem c_X5_heaviestIn (l : Launch) (G : va_G) (cy : ClassId × ClassId × ClassId) (k : Nat) (aT aT_begins aT_ends aT_weights aT_isThere aT_rooms aT_isOffered aT_isAccepted aT_best aT_order aT_froms aT_tos aT_counts aT_points aT_flows aT_isUsed aT_gains aT_ways : Nat) (f_thrown : Int32) (f_many : Int32) (f_factor : Int32) (f_dropped : Int32) (f_pointMany : Int32) (A_begins : Nat → Int32) (A_ends : Nat → Int32) (A_weights : Nat → Int32) (A_isThere : Nat → Int32) (A_counts : Nat → Int32) (A_points : Nat → Int32) (A_flows : Nat → Int32) (A_isUsed : Nat → Int32) (A_gains : Nat → Int32) (A_ways : Nat → Int32) (p1 : Int32) {r : Int32} {wf_thrown : Int32} {wf_pointMany : Int32} {wA_counts : Nat → Int32} {wA_points : Nat → Int32} {wA_flows : Nat → Int32} {wA_isUsed : Nat → Int32} {wA_gains : Nat → Int32} {wA_ways : Nat → Int32} (hf : f_X5_heaviestIn k p1 f_thrown f_many f_pointMany A_begins A_ends A_weights A_isThere A_counts A_points A_flows A_isUsed A_gains A_ways = some (r, wf_thrown, wf_pointMany, wA_counts, wA_points, wA_flows, wA_isUsed, wA_gains, wA_ways)) : Ci l yX5_heaviestIn wsX5_heaviestIn rm_X5_heaviestIn 0 0 G cy [.ref aT, .int p1] [(aT, .inr (5, [.int f_thrown, .int f_many, .ref aT_begins, .ref aT_ends, .ref aT_weights, .ref aT_isThere, .ref aT_rooms, .int f_factor, .ref aT_isOffered, .ref aT_isAccepted, .int f_dropped, .ref aT_best, .ref aT_order, .ref aT_froms, .ref aT_tos, .ref aT_counts, .ref aT_points, .ref aT_flows, .ref aT_isUsed, .ref aT_gains, .ref aT_ways, .int f_pointMany])), (aT_begins, .inl (cy.1, 40, .inl A_begins)), (aT_ends, .inl (cy.1, 40, .inl A_ends)), (aT_weights, .inl (cy.1, 40, .inl A_weights)), (aT_isThere, .inl (cy.2.1, 40, .inl A_isThere)), (aT_counts, .inl (cy.2.1, 40, .inl A_counts)), (aT_points, .inl (cy.1, 80, .inl A_points)), (aT_flows, .inl (cy.1, 80, .inl A_flows)), (aT_isUsed, .inl (cy.2.1, 40, .inl A_isUsed)), (aT_gains, .inl (cy.1, 80, .inl A_gains)), (aT_ways, .inl (cy.1, 80, .inl A_ways))] [(aT, .inr (5, [.int wf_thrown, .int f_many, .ref aT_begins, .ref aT_ends, .ref aT_weights, .ref aT_isThere, .ref aT_rooms, .int f_factor, .ref aT_isOffered, .ref aT_isAccepted, .int f_dropped, .ref aT_best, .ref aT_order, .ref aT_froms, .ref aT_tos, .ref aT_counts, .ref aT_points, .ref aT_flows, .ref aT_isUsed, .ref aT_gains, .ref aT_ways, .int wf_pointMany])), (aT_begins, .inl (cy.1, 40, .inl A_begins)), (aT_ends, .inl (cy.1, 40, .inl A_ends)), (aT_weights, .inl (cy.1, 40, .inl A_weights)), (aT_isThere, .inl (cy.2.1, 40, .inl A_isThere)), (aT_counts, .inl (cy.2.1, 40, .inl wA_counts)), (aT_points, .inl (cy.1, 80, .inl wA_points)), (aT_flows, .inl (cy.1, 80, .inl wA_flows)), (aT_isUsed, .inl (cy.2.1, 40, .inl wA_isUsed)), (aT_gains, .inl (cy.1, 80, .inl wA_gains)), (aT_ways, .inl (cy.1, 80, .inl wA_ways))] r := by
  refine kMetI (cc := cX5_heaviestIn) (maxL := 2) (by decide) rfl (Nat.le_of_ble_eq_true rfl) ?_
  intro p e s m args below meth c Q A ls hx hb hml hts hown hv hl kret
  replace hown : s.vm.findClass RX5 = some m.cls := hown
  replace hl : lv_has ls 2 [(0, .ref aT), (1, .int p1)] := hl
  unfold f_X5_heaviestIn at hf
  refine lv_aload_n hx hb dX5_heaviestIn_0 rfl (lv_at hl 0 rfl) ?_
  refine lv_iload_n hx hb dX5_heaviestIn_1 rfl (lv_at hl 1 rfl) ?_
  refine lv_iconst (v := 1) hx hb dX5_heaviestIn_2 (by decide) ?_
  refine lv_bipush (v := 6) hx hb dX5_heaviestIn_3 (by decide) ?_
  obtain ⟨r1, hcl2, hf⟩ := xb_some hf
  refine kS_i (r := r1) ⟨hx, hb, hml, hown, hts⟩ (c_X5_in l G cy k p1 1 6 hcl2) (va_cwS 3 hts gX5_heaviestIn_X5_in rfl rfl rfl (by decide +kernel) ⟨Nat.le_of_ble_eq_true rfl, Nat.le_of_ble_eq_true rfl⟩) hv rfl hl.1 rfl (Nat.le_of_ble_eq_true rfl) dX5_heaviestIn_5 ⟨Nat.le_of_ble_eq_true rfl, Nat.le_of_ble_eq_true rfl⟩ (fun H locs hv => ?_)
  refine xj_elim hf (fun j16_4 ej16_4 hf => ?_)
  have J16_4 : ∀ (x5 : Int32), j16_4 x5 = some (r, wf_thrown, wf_pointMany, wA_counts, wA_points, wA_flows, wA_isUsed, wA_gains, wA_ways) → ∀ (H : Heap) (locs : List Loc) (ls : Array Slot), Hv s H locs G cy A [(aT, .inr (5, [.int f_thrown, .int f_many, .ref aT_begins, .ref aT_ends, .ref aT_weights, .ref aT_isThere, .ref aT_rooms, .int f_factor, .ref aT_isOffered, .ref aT_isAccepted, .int f_dropped, .ref aT_best, .ref aT_order, .ref aT_froms, .ref aT_tos, .ref aT_counts, .ref aT_points, .ref aT_flows, .ref aT_isUsed, .ref aT_gains, .ref aT_ways, .int f_pointMany])), (aT_begins, .inl (cy.1, 40, .inl A_begins)), (aT_ends, .inl (cy.1, 40, .inl A_ends)), (aT_weights, .inl (cy.1, 40, .inl A_weights)), (aT_isThere, .inl (cy.2.1, 40, .inl A_isThere)), (aT_counts, .inl (cy.2.1, 40, .inl A_counts)), (aT_points, .inl (cy.1, 80, .inl A_points)), (aT_flows, .inl (cy.1, 80, .inl A_flows)), (aT_isUsed, .inl (cy.2.1, 40, .inl A_isUsed)), (aT_gains, .inl (cy.1, 80, .inl A_gains)), (aT_ways, .inl (cy.1, 80, .inl A_ways))] → lv_has ls 2 [(0, .ref aT), (1, .int p1)] → W p l e rm_X5_heaviestIn s m args below meth c H locs 0 0 Q (F0 m 16 ls [.int x5, .ref aT]) := by
    intro x5 hf H locs ls hv hl
    rw [ej16_4] at hf
    try dsimp only at hf
    obtain ⟨⟨r6, f_thrown_7⟩, hcl8, hf⟩ := xb_some hf
    dsimp only at hf
    refine kV_i (r := r6) (wr := [(aT_begins, .inl (cy.1, 40, .inl A_begins)), (aT_ends, .inl (cy.1, 40, .inl A_ends)), (aT_weights, .inl (cy.1, 40, .inl A_weights)), (aT_isThere, .inl (cy.2.1, 40, .inl A_isThere)), (aT_counts, .inl (cy.2.1, 40, .inl A_counts)), (aT_points, .inl (cy.1, 80, .inl A_points)), (aT_flows, .inl (cy.1, 80, .inl A_flows)), (aT_isUsed, .inl (cy.2.1, 40, .inl A_isUsed)), (aT_gains, .inl (cy.1, 80, .inl A_gains)), (aT_ways, .inl (cy.1, 80, .inl A_ways))]) (w2 := [(aT, .inr (5, [.int f_thrown_7, .int f_many, .ref aT_begins, .ref aT_ends, .ref aT_weights, .ref aT_isThere, .ref aT_rooms, .int f_factor, .ref aT_isOffered, .ref aT_isAccepted, .int f_dropped, .ref aT_best, .ref aT_order, .ref aT_froms, .ref aT_tos, .ref aT_counts, .ref aT_points, .ref aT_flows, .ref aT_isUsed, .ref aT_gains, .ref aT_ways, .int f_pointMany])), (aT_begins, .inl (cy.1, 40, .inl A_begins)), (aT_ends, .inl (cy.1, 40, .inl A_ends)), (aT_weights, .inl (cy.1, 40, .inl A_weights)), (aT_isThere, .inl (cy.2.1, 40, .inl A_isThere)), (aT_counts, .inl (cy.2.1, 40, .inl A_counts)), (aT_points, .inl (cy.1, 80, .inl A_points)), (aT_flows, .inl (cy.1, 80, .inl A_flows)), (aT_isUsed, .inl (cy.2.1, 40, .inl A_isUsed)), (aT_gains, .inl (cy.1, 80, .inl A_gains)), (aT_ways, .inl (cy.1, 80, .inl A_ways))]) ⟨hx, hb, hml, hown, hts⟩ (c_X5_goesWell l G cy k aT aT_begins aT_ends aT_weights aT_isThere aT_rooms aT_isOffered aT_isAccepted aT_best aT_order aT_froms aT_tos aT_counts aT_points aT_flows aT_isUsed aT_gains aT_ways f_thrown f_many f_factor f_dropped f_pointMany x5 hcl8) (cwV 1 hts gX5_heaviestIn_X5_goesWell rfl rfl rfl (by decide +kernel) ⟨Nat.le_of_ble_eq_true rfl, Nat.le_of_ble_eq_true rfl⟩) hv (isC := [0]) ⟨rfl, rfl⟩ (hv.recv 5 0 rfl rfl) [1, 2, 3, 4, 5, 6, 7, 8, 9, 10] [10, 0, 1, 2, 3, 4, 5, 6, 7, 8, 9] rfl rfl (by decide) rfl rfl rfl hl.1 rfl (Nat.le_of_ble_eq_true rfl) dX5_heaviestIn_16 ⟨Nat.le_of_ble_eq_true rfl, Nat.le_of_ble_eq_true rfl⟩ (fun H locs hv => ?_)
    refine lv_if_eq (tgt := 31) hx hb dX5_heaviestIn_19 (by decide) (fun hc9 => ?_) (fun hc9 => ?_)
    · replace hf := ite_t hf hc9
      refine lv_iconst (v := 0) hx hb dX5_heaviestIn_31 (by decide) ?_
      cases hf
      exact kret _ _ _ _ hv dX5_heaviestIn_32
    · replace hf := ite_f hf hc9
      refine lv_aload_n hx hb dX5_heaviestIn_22 rfl (lv_at hl 0 rfl) ?_
      refine lv_iload_n hx hb dX5_heaviestIn_23 rfl (lv_at hl 1 rfl) ?_
      refine lv_iconst (v := (-1)) hx hb dX5_heaviestIn_24 (by decide) ?_
      obtain ⟨⟨r10, f_pointMany_11, A_counts_12, A_points_13, A_flows_14, A_isUsed_15, A_gains_16, A_ways_17⟩, hcl18, hf⟩ := xb_some hf
      dsimp only at hf
      refine kV_i (r := r10) (wr := []) (w2 := [(aT, .inr (5, [.int f_thrown_7, .int f_many, .ref aT_begins, .ref aT_ends, .ref aT_weights, .ref aT_isThere, .ref aT_rooms, .int f_factor, .ref aT_isOffered, .ref aT_isAccepted, .int f_dropped, .ref aT_best, .ref aT_order, .ref aT_froms, .ref aT_tos, .ref aT_counts, .ref aT_points, .ref aT_flows, .ref aT_isUsed, .ref aT_gains, .ref aT_ways, .int f_pointMany_11])), (aT_begins, .inl (cy.1, 40, .inl A_begins)), (aT_ends, .inl (cy.1, 40, .inl A_ends)), (aT_weights, .inl (cy.1, 40, .inl A_weights)), (aT_isThere, .inl (cy.2.1, 40, .inl A_isThere)), (aT_counts, .inl (cy.2.1, 40, .inl A_counts_12)), (aT_points, .inl (cy.1, 80, .inl A_points_13)), (aT_flows, .inl (cy.1, 80, .inl A_flows_14)), (aT_isUsed, .inl (cy.2.1, 40, .inl A_isUsed_15)), (aT_gains, .inl (cy.1, 80, .inl A_gains_16)), (aT_ways, .inl (cy.1, 80, .inl A_ways_17))]) ⟨hx, hb, hml, hown, hts⟩ (c_X5_planIn l G cy k aT aT_begins aT_ends aT_weights aT_isThere aT_rooms aT_isOffered aT_isAccepted aT_best aT_order aT_froms aT_tos aT_counts aT_points aT_flows aT_isUsed aT_gains aT_ways f_thrown_7 f_many f_factor f_dropped f_pointMany A_begins A_ends A_weights A_isThere A_counts A_points A_flows A_isUsed A_gains A_ways p1 (-1) hcl18) (cwV 2 hts gX5_heaviestIn_X5_planIn rfl rfl rfl (by decide +kernel) ⟨Nat.le_of_ble_eq_true rfl, Nat.le_of_ble_eq_true rfl⟩) hv (isC := [0, 1, 2, 3, 4, 5, 6, 7, 8, 9, 10]) ⟨rfl, rfl⟩ (hv.recv 5 0 rfl rfl) [] [0, 1, 2, 3, 4, 5, 6, 7, 8, 9, 10] rfl rfl (by decide) rfl rfl rfl hl.1 rfl (Nat.le_of_ble_eq_true rfl) dX5_heaviestIn_25 ⟨Nat.le_of_ble_eq_true rfl, Nat.le_of_ble_eq_true rfl⟩ (fun H locs hv => ?_)
      refine lv_goto (tgt := 32) hx hb dX5_heaviestIn_28 (by decide) ?_
      cases hf
      exact kret _ _ _ _ hv dX5_heaviestIn_32
  refine lv_if_eq (tgt := 15) hx hb dX5_heaviestIn_8 (by decide) (fun hc3 => ?_) (fun hc3 => ?_)
  · replace hf := ite_t hf hc3
    refine lv_iconst (v := 1) hx hb dX5_heaviestIn_15 (by decide) ?_
    exact J16_4 1 hf _ _ _ hv (lv_sub hl [0, 1] rfl)
  · replace hf := ite_f hf hc3
    refine lv_iconst (v := 0) hx hb dX5_heaviestIn_11 (by decide) ?_
    refine lv_goto (tgt := 16) hx hb dX5_heaviestIn_12 (by decide) ?_
    exact J16_4 0 hf _ _ _ hv (lv_sub hl [0, 1] rfl)

def f_X5_planBeside_L83 (k : Nat) (v1 : Int32) (v2 : Int32) (v3 : Int32) (A_begins : Nat → Int32) (A_ends : Nat → Int32) (κ : Int32 → (Nat → Int32) → Option (Int32 × (Nat → Int32) × (Nat → Int32) × (Nat → Int32) × (Nat → Int32))) : Nat → Int32 → (Nat → Int32) → Option (Int32 × (Nat → Int32) × (Nat → Int32) × (Nat → Int32) × (Nat → Int32))
  | 0, _, _ => none
  | n + 1, v4, A_counts => if v2 ≤ v4 then κ v4 A_counts else xi v3 40 (if (A_counts v3.toNatClampNeg) = 0 then κ v4 A_counts else if v1 = (-1) then κ v4 A_counts else xb (f_X5_takes k v3 v4 v2 A_begins A_ends) (fun r18 => if r18 = 0 then xi v3 40 (f_X5_planBeside_L83 k v1 v2 v3 A_begins A_ends κ n (v4 + 1) (upd A_counts v3.toNatClampNeg (vp_nar .boolean 1))) else xb (f_X5_takes k v1 v4 v2 A_begins A_ends) (fun r22 => if r22 = 0 then xi v3 40 (f_X5_planBeside_L83 k v1 v2 v3 A_begins A_ends κ n (v4 + 1) (upd A_counts v3.toNatClampNeg (vp_nar .boolean 1))) else xi v3 40 (f_X5_planBeside_L83 k v1 v2 v3 A_begins A_ends κ n (v4 + 1) (upd A_counts v3.toNatClampNeg (vp_nar .boolean 0))))))
theorem f_X5_planBeside_L83_z (k : Nat) (v1 : Int32) (v2 : Int32) (v3 : Int32) (A_begins : Nat → Int32) (A_ends : Nat → Int32) (κ : Int32 → (Nat → Int32) → Option (Int32 × (Nat → Int32) × (Nat → Int32) × (Nat → Int32) × (Nat → Int32))) (v4 : Int32) (A_counts : Nat → Int32) : f_X5_planBeside_L83 k v1 v2 v3 A_begins A_ends κ 0 v4 A_counts = none := rfl
theorem f_X5_planBeside_L83_s (k : Nat) (v1 : Int32) (v2 : Int32) (v3 : Int32) (A_begins : Nat → Int32) (A_ends : Nat → Int32) (κ : Int32 → (Nat → Int32) → Option (Int32 × (Nat → Int32) × (Nat → Int32) × (Nat → Int32) × (Nat → Int32))) (n : Nat) (v4 : Int32) (A_counts : Nat → Int32) : f_X5_planBeside_L83 k v1 v2 v3 A_begins A_ends κ (n + 1) v4 A_counts = if v2 ≤ v4 then κ v4 A_counts else xi v3 40 (if (A_counts v3.toNatClampNeg) = 0 then κ v4 A_counts else if v1 = (-1) then κ v4 A_counts else xb (f_X5_takes k v3 v4 v2 A_begins A_ends) (fun r18 => if r18 = 0 then xi v3 40 (f_X5_planBeside_L83 k v1 v2 v3 A_begins A_ends κ n (v4 + 1) (upd A_counts v3.toNatClampNeg (vp_nar .boolean 1))) else xb (f_X5_takes k v1 v4 v2 A_begins A_ends) (fun r22 => if r22 = 0 then xi v3 40 (f_X5_planBeside_L83 k v1 v2 v3 A_begins A_ends κ n (v4 + 1) (upd A_counts v3.toNatClampNeg (vp_nar .boolean 1))) else xi v3 40 (f_X5_planBeside_L83 k v1 v2 v3 A_begins A_ends κ n (v4 + 1) (upd A_counts v3.toNatClampNeg (vp_nar .boolean 0)))))) := rfl
def f_X5_planBeside_L2 (k : Nat) (v1 : Int32) (v2 : Int32) (f_many : Int32) (A_begins : Nat → Int32) (A_ends : Nat → Int32) (A_isThere : Nat → Int32) (κ : Int32 → (Nat → Int32) → (Nat → Int32) → (Nat → Int32) → Option (Int32 × (Nat → Int32) × (Nat → Int32) × (Nat → Int32) × (Nat → Int32))) : Nat → Int32 → (Nat → Int32) → (Nat → Int32) → (Nat → Int32) → Option (Int32 × (Nat → Int32) × (Nat → Int32) × (Nat → Int32) × (Nat → Int32))
  | 0, _, _, _, _ => none
  | n + 1, v3, A_froms, A_tos, A_counts => if f_many ≤ v3 then κ v3 A_froms A_tos A_counts else xi v3 40 (xd v2 (xi v3 40 (xi v3 40 (xi v3 40 (xi v3 40 (xi v3 40 (xi v3 40 (xj (fun (x12 : Int32) => xi v3 40 (f_X5_planBeside_L83 k v1 v2 v3 A_begins A_ends (fun (v4_27 : Int32) (A_counts_28 : Nat → Int32) => f_X5_planBeside_L2 k v1 v2 f_many A_begins A_ends A_isThere κ n (v3 + 1) (upd A_froms v3.toNatClampNeg ((A_begins v3.toNatClampNeg) - (A_begins v3.toNatClampNeg) / v2 * v2)) (upd A_tos v3.toNatClampNeg ((((upd A_froms v3.toNatClampNeg ((A_begins v3.toNatClampNeg) - (A_begins v3.toNatClampNeg) / v2 * v2)) v3.toNatClampNeg) + (A_ends v3.toNatClampNeg)) - (A_begins v3.toNatClampNeg))) A_counts_28) k 0 (upd A_counts v3.toNatClampNeg (vp_nar .boolean x12)))) (fun (j79_11 : Int32 → Option (Int32 × (Nat → Int32) × (Nat → Int32) × (Nat → Int32) × (Nat → Int32))) => xj (fun (_ : Unit) => j79_11 0) (fun (j78_29 : Unit → Option (Int32 × (Nat → Int32) × (Nat → Int32) × (Nat → Int32) × (Nat → Int32))) => if (A_isThere v3.toNatClampNeg) = 0 then j78_29 () else xb (f_X5_takes k v3 0 v2 A_begins A_ends) (fun r30 => if r30 = 0 then j79_11 1 else j78_29 ())))))))))))
theorem f_X5_planBeside_L2_z (k : Nat) (v1 : Int32) (v2 : Int32) (f_many : Int32) (A_begins : Nat → Int32) (A_ends : Nat → Int32) (A_isThere : Nat → Int32) (κ : Int32 → (Nat → Int32) → (Nat → Int32) → (Nat → Int32) → Option (Int32 × (Nat → Int32) × (Nat → Int32) × (Nat → Int32) × (Nat → Int32))) (v3 : Int32) (A_froms : Nat → Int32) (A_tos : Nat → Int32) (A_counts : Nat → Int32) : f_X5_planBeside_L2 k v1 v2 f_many A_begins A_ends A_isThere κ 0 v3 A_froms A_tos A_counts = none := rfl
theorem f_X5_planBeside_L2_s (k : Nat) (v1 : Int32) (v2 : Int32) (f_many : Int32) (A_begins : Nat → Int32) (A_ends : Nat → Int32) (A_isThere : Nat → Int32) (κ : Int32 → (Nat → Int32) → (Nat → Int32) → (Nat → Int32) → Option (Int32 × (Nat → Int32) × (Nat → Int32) × (Nat → Int32) × (Nat → Int32))) (n : Nat) (v3 : Int32) (A_froms : Nat → Int32) (A_tos : Nat → Int32) (A_counts : Nat → Int32) : f_X5_planBeside_L2 k v1 v2 f_many A_begins A_ends A_isThere κ (n + 1) v3 A_froms A_tos A_counts = if f_many ≤ v3 then κ v3 A_froms A_tos A_counts else xi v3 40 (xd v2 (xi v3 40 (xi v3 40 (xi v3 40 (xi v3 40 (xi v3 40 (xi v3 40 (xj (fun (x12 : Int32) => xi v3 40 (f_X5_planBeside_L83 k v1 v2 v3 A_begins A_ends (fun (v4_27 : Int32) (A_counts_28 : Nat → Int32) => f_X5_planBeside_L2 k v1 v2 f_many A_begins A_ends A_isThere κ n (v3 + 1) (upd A_froms v3.toNatClampNeg ((A_begins v3.toNatClampNeg) - (A_begins v3.toNatClampNeg) / v2 * v2)) (upd A_tos v3.toNatClampNeg ((((upd A_froms v3.toNatClampNeg ((A_begins v3.toNatClampNeg) - (A_begins v3.toNatClampNeg) / v2 * v2)) v3.toNatClampNeg) + (A_ends v3.toNatClampNeg)) - (A_begins v3.toNatClampNeg))) A_counts_28) k 0 (upd A_counts v3.toNatClampNeg (vp_nar .boolean x12)))) (fun (j79_11 : Int32 → Option (Int32 × (Nat → Int32) × (Nat → Int32) × (Nat → Int32) × (Nat → Int32))) => xj (fun (_ : Unit) => j79_11 0) (fun (j78_29 : Unit → Option (Int32 × (Nat → Int32) × (Nat → Int32) × (Nat → Int32) × (Nat → Int32))) => if (A_isThere v3.toNatClampNeg) = 0 then j78_29 () else xb (f_X5_takes k v3 0 v2 A_begins A_ends) (fun r30 => if r30 = 0 then j79_11 1 else j78_29 ()))))))))))) := rfl
def f_X5_planBeside (k : Nat) (p1 : Int32) (p2 : Int32) (f_many : Int32) (A_begins : Nat → Int32) (A_ends : Nat → Int32) (A_weights : Nat → Int32) (A_isThere : Nat → Int32) (A_best : Nat → Int32) (A_froms : Nat → Int32) (A_tos : Nat → Int32) (A_counts : Nat → Int32) : Option (Int32 × (Nat → Int32) × (Nat → Int32) × (Nat → Int32) × (Nat → Int32)) := f_X5_planBeside_L2 k p1 p2 f_many A_begins A_ends A_isThere (fun (v3_33 : Int32) (A_froms_34 : Nat → Int32) (A_tos_35 : Nat → Int32) (A_counts_36 : Nat → Int32) => xb (f_X5_plan k p2 f_many A_weights A_best A_froms_34 A_tos_35 A_counts_36) (fun (r37, A_best_38) => if p1 = (-1) then some (r37 + 0, A_best_38, A_froms_34, A_tos_35, A_counts_36) else xi p1 40 (some (r37 + (A_weights p1.toNatClampNeg), A_best_38, A_froms_34, A_tos_35, A_counts_36)))) k 0 A_froms A_tos A_counts
abbrev rm_X5_planBeside : Room := { frames := 1, cells := 0, slots := 0, locals := 25 }
set_option maxHeartbeats 4000000 in
set_option maxRecDepth 100000 in
theorem c_X5_planBeside (l : Launch) (G : va_G) (cy : ClassId × ClassId × ClassId) (k : Nat) (aT aT_begins aT_ends aT_weights aT_isThere aT_rooms aT_isOffered aT_isAccepted aT_best aT_order aT_froms aT_tos aT_counts aT_points aT_flows aT_isUsed aT_gains aT_ways : Nat) (f_thrown : Int32) (f_many : Int32) (f_factor : Int32) (f_dropped : Int32) (f_pointMany : Int32) (A_begins : Nat → Int32) (A_ends : Nat → Int32) (A_weights : Nat → Int32) (A_isThere : Nat → Int32) (A_best : Nat → Int32) (A_froms : Nat → Int32) (A_tos : Nat → Int32) (A_counts : Nat → Int32) (p1 : Int32) (p2 : Int32) {r : Int32} {wA_best : Nat → Int32} {wA_froms : Nat → Int32} {wA_tos : Nat → Int32} {wA_counts : Nat → Int32} (hf : f_X5_planBeside k p1 p2 f_many A_begins A_ends A_weights A_isThere A_best A_froms A_tos A_counts = some (r, wA_best, wA_froms, wA_tos, wA_counts)) : Ci l yX5_planBeside wsX5_planBeside rm_X5_planBeside 0 0 G cy [.ref aT, .int p1, .int p2] [(aT, .inr (5, [.int f_thrown, .int f_many, .ref aT_begins, .ref aT_ends, .ref aT_weights, .ref aT_isThere, .ref aT_rooms, .int f_factor, .ref aT_isOffered, .ref aT_isAccepted, .int f_dropped, .ref aT_best, .ref aT_order, .ref aT_froms, .ref aT_tos, .ref aT_counts, .ref aT_points, .ref aT_flows, .ref aT_isUsed, .ref aT_gains, .ref aT_ways, .int f_pointMany])), (aT_begins, .inl (cy.1, 40, .inl A_begins)), (aT_ends, .inl (cy.1, 40, .inl A_ends)), (aT_weights, .inl (cy.1, 40, .inl A_weights)), (aT_isThere, .inl (cy.2.1, 40, .inl A_isThere)), (aT_best, .inl (cy.1, 1001, .inl A_best)), (aT_froms, .inl (cy.1, 40, .inl A_froms)), (aT_tos, .inl (cy.1, 40, .inl A_tos)), (aT_counts, .inl (cy.2.1, 40, .inl A_counts))] [(aT, .inr (5, [.int f_thrown, .int f_many, .ref aT_begins, .ref aT_ends, .ref aT_weights, .ref aT_isThere, .ref aT_rooms, .int f_factor, .ref aT_isOffered, .ref aT_isAccepted, .int f_dropped, .ref aT_best, .ref aT_order, .ref aT_froms, .ref aT_tos, .ref aT_counts, .ref aT_points, .ref aT_flows, .ref aT_isUsed, .ref aT_gains, .ref aT_ways, .int f_pointMany])), (aT_begins, .inl (cy.1, 40, .inl A_begins)), (aT_ends, .inl (cy.1, 40, .inl A_ends)), (aT_weights, .inl (cy.1, 40, .inl A_weights)), (aT_isThere, .inl (cy.2.1, 40, .inl A_isThere)), (aT_best, .inl (cy.1, 1001, .inl wA_best)), (aT_froms, .inl (cy.1, 40, .inl wA_froms)), (aT_tos, .inl (cy.1, 40, .inl wA_tos)), (aT_counts, .inl (cy.2.1, 40, .inl wA_counts))] r := by
  refine kMetI (cc := cX5_planBeside) (maxL := 5) (by decide) rfl (Nat.le_of_ble_eq_true rfl) ?_
  intro p e s m args below meth c Q A ls hx hb hml hts hown hv hl kret
  replace hown : s.vm.findClass RX5 = some m.cls := hown
  replace hl : lv_has ls 5 [(0, .ref aT), (1, .int p1), (2, .int p2)] := hl
  have hk69 : (Cond.fieldLink RX5 69 "RoomcolourModel" "many" "I").before args s = true := hts _ (by decide +kernel)
  have hinX5 : ∀ w ∈ wsX50, w ∈ wsX5_planBeside := by decide +kernel
  have hk42 : (Cond.fieldLink RX5 42 "RoomcolourModel" "froms" "[I").before args s = true := hts _ (by decide +kernel)
  have hk7 : (Cond.fieldLink RX5 7 "RoomcolourModel" "begins" "[I").before args s = true := hts _ (by decide +kernel)
  have hk45 : (Cond.fieldLink RX5 45 "RoomcolourModel" "tos" "[I").before args s = true := hts _ (by decide +kernel)
  have hk13 : (Cond.fieldLink RX5 13 "RoomcolourModel" "ends" "[I").before args s = true := hts _ (by decide +kernel)
  have hk48 : (Cond.fieldLink RX5 48 "RoomcolourModel" "counts" "[Z").before args s = true := hts _ (by decide +kernel)
  have hk19 : (Cond.fieldLink RX5 19 "RoomcolourModel" "isThere" "[Z").before args s = true := hts _ (by decide +kernel)
  have hk16 : (Cond.fieldLink RX5 16 "RoomcolourModel" "weights" "[I").before args s = true := hts _ (by decide +kernel)
  have L83 : ∀ (v1 : Int32) (v2 : Int32) (v3 : Int32) (A_best : Nat → Int32) (A_froms : Nat → Int32) (A_tos : Nat → Int32) (κ : Int32 → (Nat → Int32) → Option (Int32 × (Nat → Int32) × (Nat → Int32) × (Nat → Int32) × (Nat → Int32))) (n : Nat) (v4 : Int32) (A_counts : Nat → Int32), f_X5_planBeside_L83 k v1 v2 v3 A_begins A_ends κ n v4 A_counts = some (r, wA_best, wA_froms, wA_tos, wA_counts) → ∀ (H : Heap) (locs : List Loc) (ls : Array Slot), Hv s H locs G cy A [(aT, .inr (5, [.int f_thrown, .int f_many, .ref aT_begins, .ref aT_ends, .ref aT_weights, .ref aT_isThere, .ref aT_rooms, .int f_factor, .ref aT_isOffered, .ref aT_isAccepted, .int f_dropped, .ref aT_best, .ref aT_order, .ref aT_froms, .ref aT_tos, .ref aT_counts, .ref aT_points, .ref aT_flows, .ref aT_isUsed, .ref aT_gains, .ref aT_ways, .int f_pointMany])), (aT_begins, .inl (cy.1, 40, .inl A_begins)), (aT_ends, .inl (cy.1, 40, .inl A_ends)), (aT_weights, .inl (cy.1, 40, .inl A_weights)), (aT_isThere, .inl (cy.2.1, 40, .inl A_isThere)), (aT_best, .inl (cy.1, 1001, .inl A_best)), (aT_froms, .inl (cy.1, 40, .inl A_froms)), (aT_tos, .inl (cy.1, 40, .inl A_tos)), (aT_counts, .inl (cy.2.1, 40, .inl A_counts))] → lv_has ls 5 [(0, .ref aT), (1, .int v1), (2, .int v2), (3, .int v3), (4, .int v4)] → (∀ (v4 : Int32) (A_counts : Nat → Int32), κ v4 A_counts = some (r, wA_best, wA_froms, wA_tos, wA_counts) → ∀ (H : Heap) (locs : List Loc) (ls : Array Slot), Hv s H locs G cy A [(aT, .inr (5, [.int f_thrown, .int f_many, .ref aT_begins, .ref aT_ends, .ref aT_weights, .ref aT_isThere, .ref aT_rooms, .int f_factor, .ref aT_isOffered, .ref aT_isAccepted, .int f_dropped, .ref aT_best, .ref aT_order, .ref aT_froms, .ref aT_tos, .ref aT_counts, .ref aT_points, .ref aT_flows, .ref aT_isUsed, .ref aT_gains, .ref aT_ways, .int f_pointMany])), (aT_begins, .inl (cy.1, 40, .inl A_begins)), (aT_ends, .inl (cy.1, 40, .inl A_ends)), (aT_weights, .inl (cy.1, 40, .inl A_weights)), (aT_isThere, .inl (cy.2.1, 40, .inl A_isThere)), (aT_best, .inl (cy.1, 1001, .inl A_best)), (aT_froms, .inl (cy.1, 40, .inl A_froms)), (aT_tos, .inl (cy.1, 40, .inl A_tos)), (aT_counts, .inl (cy.2.1, 40, .inl A_counts))] → lv_has ls 5 [(0, .ref aT), (1, .int v1), (2, .int v2), (3, .int v3)] → W p l e rm_X5_planBeside s m args below meth c H locs 0 0 Q (F0 m 142 ls [])) → W p l e rm_X5_planBeside s m args below meth c H locs 0 0 Q (F0 m 83 ls []) := by
    intro v1 v2 v3 A_best A_froms A_tos κ n
    induction n with
    | zero =>
      intro v4 A_counts hf
      rw [f_X5_planBeside_L83_z] at hf
      cases hf
    | succ n ih =>
      intro v4 A_counts hf H locs ls hv hl hκ
      rw [f_X5_planBeside_L83_s] at hf
      refine lv_iload hx hb dX5_planBeside_83 (lv_at hl 4 rfl) ?_
      refine lv_iload_n hx hb dX5_planBeside_85 rfl (lv_at hl 2 rfl) ?_
      refine lv_icmp_ge (tgt := 142) hx hb dX5_planBeside_86 (by decide) (fun hc14 => ?_) (fun hc14 => ?_)
      · replace hf := ite_t hf hc14
        exact hκ v4 A_counts hf _ _ _ hv (lv_sub hl [0, 1, 2, 3] rfl)
      · replace hf := ite_f hf hc14
        refine lv_aload_n hx hb dX5_planBeside_89 rfl (lv_at hl 0 rfl) ?_
        refine kGet (v := .ref aT_counts) (C := RX5) (T := TX5) (N := 22) hx hb hts hinX5 hown hv 0 rfl rfl 15 (by decide) hk48 (fun _ h9 => h9) rfl dX5_planBeside_90 ?_
        refine lv_iload_n hx hb dX5_planBeside_93 rfl (lv_at hl 3 rfl) ?_
        obtain ⟨hi15, hf⟩ := xi_some hf
        refine kZald hx hb hv 8 rfl hi15 dX5_planBeside_94 ?_
        refine lv_if_eq (tgt := 142) hx hb dX5_planBeside_95 (by decide) (fun hc16 => ?_) (fun hc16 => ?_)
        · replace hf := ite_t hf hc16
          exact hκ v4 A_counts hf _ _ _ hv (lv_sub hl [0, 1, 2, 3] rfl)
        · replace hf := ite_f hf hc16
          refine lv_iload_n hx hb dX5_planBeside_98 rfl (lv_at hl 1 rfl) ?_
          refine lv_iconst (v := (-1)) hx hb dX5_planBeside_99 (by decide) ?_
          refine lv_icmp_eq (tgt := 142) hx hb dX5_planBeside_100 (by decide) (fun hc17 => ?_) (fun hc17 => ?_)
          · replace hf := ite_t hf hc17
            exact hκ v4 A_counts hf _ _ _ hv (lv_sub hl [0, 1, 2, 3] rfl)
          · replace hf := ite_f hf hc17
            refine lv_aload_n hx hb dX5_planBeside_103 rfl (lv_at hl 0 rfl) ?_
            refine kGet (v := .ref aT_counts) (C := RX5) (T := TX5) (N := 22) hx hb hts hinX5 hown hv 0 rfl rfl 15 (by decide) hk48 (fun _ h9 => h9) rfl dX5_planBeside_104 ?_
            refine lv_iload_n hx hb dX5_planBeside_107 rfl (lv_at hl 3 rfl) ?_
            refine lv_aload_n hx hb dX5_planBeside_108 rfl (lv_at hl 0 rfl) ?_
            refine lv_iload_n hx hb dX5_planBeside_109 rfl (lv_at hl 3 rfl) ?_
            refine lv_iload hx hb dX5_planBeside_110 (lv_at hl 4 rfl) ?_
            refine lv_iload_n hx hb dX5_planBeside_112 rfl (lv_at hl 2 rfl) ?_
            obtain ⟨r18, hcl19, hf⟩ := xb_some hf
            refine kV_i (r := r18) (wr := [(aT_weights, .inl (cy.1, 40, .inl A_weights)), (aT_isThere, .inl (cy.2.1, 40, .inl A_isThere)), (aT_best, .inl (cy.1, 1001, .inl A_best)), (aT_froms, .inl (cy.1, 40, .inl A_froms)), (aT_tos, .inl (cy.1, 40, .inl A_tos)), (aT_counts, .inl (cy.2.1, 40, .inl A_counts))]) (w2 := [(aT, .inr (5, [.int f_thrown, .int f_many, .ref aT_begins, .ref aT_ends, .ref aT_weights, .ref aT_isThere, .ref aT_rooms, .int f_factor, .ref aT_isOffered, .ref aT_isAccepted, .int f_dropped, .ref aT_best, .ref aT_order, .ref aT_froms, .ref aT_tos, .ref aT_counts, .ref aT_points, .ref aT_flows, .ref aT_isUsed, .ref aT_gains, .ref aT_ways, .int f_pointMany])), (aT_begins, .inl (cy.1, 40, .inl A_begins)), (aT_ends, .inl (cy.1, 40, .inl A_ends)), (aT_weights, .inl (cy.1, 40, .inl A_weights)), (aT_isThere, .inl (cy.2.1, 40, .inl A_isThere)), (aT_best, .inl (cy.1, 1001, .inl A_best)), (aT_froms, .inl (cy.1, 40, .inl A_froms)), (aT_tos, .inl (cy.1, 40, .inl A_tos)), (aT_counts, .inl (cy.2.1, 40, .inl A_counts))]) ⟨hx, hb, hml, hown, hts⟩ (c_X5_takes l G cy k aT aT_begins aT_ends aT_weights aT_isThere aT_rooms aT_isOffered aT_isAccepted aT_best aT_order aT_froms aT_tos aT_counts aT_points aT_flows aT_isUsed aT_gains aT_ways f_thrown f_many f_factor f_dropped f_pointMany A_begins A_ends v3 v4 v2 hcl19) (cwV 3 hts gX5_planBeside_X5_takes rfl rfl rfl (by decide +kernel) ⟨Nat.le_of_ble_eq_true rfl, Nat.le_of_ble_eq_true rfl⟩) hv (isC := [0, 1, 2]) ⟨rfl, rfl⟩ (hv.recv 5 0 rfl rfl) [3, 4, 5, 6, 7, 8] [6, 7, 8, 0, 1, 2, 3, 4, 5] rfl rfl (by decide) rfl rfl rfl hl.1 rfl (Nat.le_of_ble_eq_true rfl) dX5_planBeside_113 ⟨Nat.le_of_ble_eq_true rfl, Nat.le_of_ble_eq_true rfl⟩ (fun H locs hv => ?_)
            refine lv_if_eq (tgt := 130) hx hb dX5_planBeside_116 (by decide) (fun hc20 => ?_) (fun hc20 => ?_)
            · replace hf := ite_t hf hc20
              refine lv_iconst (v := 1) hx hb dX5_planBeside_130 (by decide) ?_
              refine lv_goto (tgt := 135) hx hb dX5_planBeside_131 (by decide) ?_
              obtain ⟨hi21, hf⟩ := xi_some hf
              refine kZast hx hb hv 8 rfl hi21 dX5_planBeside_135 (fun H locs hv => ?_)
              replace hv : Hv s H locs G cy A [(aT, .inr (5, [.int f_thrown, .int f_many, .ref aT_begins, .ref aT_ends, .ref aT_weights, .ref aT_isThere, .ref aT_rooms, .int f_factor, .ref aT_isOffered, .ref aT_isAccepted, .int f_dropped, .ref aT_best, .ref aT_order, .ref aT_froms, .ref aT_tos, .ref aT_counts, .ref aT_points, .ref aT_flows, .ref aT_isUsed, .ref aT_gains, .ref aT_ways, .int f_pointMany])), (aT_begins, .inl (cy.1, 40, .inl A_begins)), (aT_ends, .inl (cy.1, 40, .inl A_ends)), (aT_weights, .inl (cy.1, 40, .inl A_weights)), (aT_isThere, .inl (cy.2.1, 40, .inl A_isThere)), (aT_best, .inl (cy.1, 1001, .inl A_best)), (aT_froms, .inl (cy.1, 40, .inl A_froms)), (aT_tos, .inl (cy.1, 40, .inl A_tos)), (aT_counts, .inl (cy.2.1, 40, .inl (upd A_counts v3.toNatClampNeg (vp_nar .boolean 1))))] := hv
              refine lv_iinc (v := v4 + 1) (lv' := [(4, .int (v4 + 1)), (0, .ref aT), (1, .int v1), (2, .int v2), (3, .int v3)]) hx hb dX5_planBeside_136 hl (k := 4) rfl rfl (by decide) rfl (fun ls hl => ?_)
              refine lv_goto (tgt := 83) hx hb dX5_planBeside_139 (by decide) ?_
              exact ih (v4 + 1) (upd A_counts v3.toNatClampNeg (vp_nar .boolean 1)) hf _ _ _ hv (lv_sub hl [1, 2, 3, 4, 0] rfl) hκ
            · replace hf := ite_f hf hc20
              refine lv_aload_n hx hb dX5_planBeside_119 rfl (lv_at hl 0 rfl) ?_
              refine lv_iload_n hx hb dX5_planBeside_120 rfl (lv_at hl 1 rfl) ?_
              refine lv_iload hx hb dX5_planBeside_121 (lv_at hl 4 rfl) ?_
              refine lv_iload_n hx hb dX5_planBeside_123 rfl (lv_at hl 2 rfl) ?_
              obtain ⟨r22, hcl23, hf⟩ := xb_some hf
              refine kV_i (r := r22) (wr := [(aT_weights, .inl (cy.1, 40, .inl A_weights)), (aT_isThere, .inl (cy.2.1, 40, .inl A_isThere)), (aT_best, .inl (cy.1, 1001, .inl A_best)), (aT_froms, .inl (cy.1, 40, .inl A_froms)), (aT_tos, .inl (cy.1, 40, .inl A_tos)), (aT_counts, .inl (cy.2.1, 40, .inl A_counts))]) (w2 := [(aT, .inr (5, [.int f_thrown, .int f_many, .ref aT_begins, .ref aT_ends, .ref aT_weights, .ref aT_isThere, .ref aT_rooms, .int f_factor, .ref aT_isOffered, .ref aT_isAccepted, .int f_dropped, .ref aT_best, .ref aT_order, .ref aT_froms, .ref aT_tos, .ref aT_counts, .ref aT_points, .ref aT_flows, .ref aT_isUsed, .ref aT_gains, .ref aT_ways, .int f_pointMany])), (aT_begins, .inl (cy.1, 40, .inl A_begins)), (aT_ends, .inl (cy.1, 40, .inl A_ends)), (aT_weights, .inl (cy.1, 40, .inl A_weights)), (aT_isThere, .inl (cy.2.1, 40, .inl A_isThere)), (aT_best, .inl (cy.1, 1001, .inl A_best)), (aT_froms, .inl (cy.1, 40, .inl A_froms)), (aT_tos, .inl (cy.1, 40, .inl A_tos)), (aT_counts, .inl (cy.2.1, 40, .inl A_counts))]) ⟨hx, hb, hml, hown, hts⟩ (c_X5_takes l G cy k aT aT_begins aT_ends aT_weights aT_isThere aT_rooms aT_isOffered aT_isAccepted aT_best aT_order aT_froms aT_tos aT_counts aT_points aT_flows aT_isUsed aT_gains aT_ways f_thrown f_many f_factor f_dropped f_pointMany A_begins A_ends v1 v4 v2 hcl23) (cwV 3 hts gX5_planBeside_X5_takes rfl rfl rfl (by decide +kernel) ⟨Nat.le_of_ble_eq_true rfl, Nat.le_of_ble_eq_true rfl⟩) hv (isC := [0, 1, 2]) ⟨rfl, rfl⟩ (hv.recv 5 0 rfl rfl) [3, 4, 5, 6, 7, 8] [6, 7, 8, 0, 1, 2, 3, 4, 5] rfl rfl (by decide) rfl rfl rfl hl.1 rfl (Nat.le_of_ble_eq_true rfl) dX5_planBeside_124 ⟨Nat.le_of_ble_eq_true rfl, Nat.le_of_ble_eq_true rfl⟩ (fun H locs hv => ?_)
              refine lv_if_ne (tgt := 134) hx hb dX5_planBeside_127 (by decide) (fun hc24 => ?_) (fun hc24 => ?_)
              · replace hf := ite_f hf hc24
                refine lv_iconst (v := 0) hx hb dX5_planBeside_134 (by decide) ?_
                obtain ⟨hi25, hf⟩ := xi_some hf
                refine kZast hx hb hv 8 rfl hi25 dX5_planBeside_135 (fun H locs hv => ?_)
                replace hv : Hv s H locs G cy A [(aT, .inr (5, [.int f_thrown, .int f_many, .ref aT_begins, .ref aT_ends, .ref aT_weights, .ref aT_isThere, .ref aT_rooms, .int f_factor, .ref aT_isOffered, .ref aT_isAccepted, .int f_dropped, .ref aT_best, .ref aT_order, .ref aT_froms, .ref aT_tos, .ref aT_counts, .ref aT_points, .ref aT_flows, .ref aT_isUsed, .ref aT_gains, .ref aT_ways, .int f_pointMany])), (aT_begins, .inl (cy.1, 40, .inl A_begins)), (aT_ends, .inl (cy.1, 40, .inl A_ends)), (aT_weights, .inl (cy.1, 40, .inl A_weights)), (aT_isThere, .inl (cy.2.1, 40, .inl A_isThere)), (aT_best, .inl (cy.1, 1001, .inl A_best)), (aT_froms, .inl (cy.1, 40, .inl A_froms)), (aT_tos, .inl (cy.1, 40, .inl A_tos)), (aT_counts, .inl (cy.2.1, 40, .inl (upd A_counts v3.toNatClampNeg (vp_nar .boolean 0))))] := hv
                refine lv_iinc (v := v4 + 1) (lv' := [(4, .int (v4 + 1)), (0, .ref aT), (1, .int v1), (2, .int v2), (3, .int v3)]) hx hb dX5_planBeside_136 hl (k := 4) rfl rfl (by decide) rfl (fun ls hl => ?_)
                refine lv_goto (tgt := 83) hx hb dX5_planBeside_139 (by decide) ?_
                exact ih (v4 + 1) (upd A_counts v3.toNatClampNeg (vp_nar .boolean 0)) hf _ _ _ hv (lv_sub hl [1, 2, 3, 4, 0] rfl) hκ
              · replace hf := ite_t hf hc24
                refine lv_iconst (v := 1) hx hb dX5_planBeside_130 (by decide) ?_
                refine lv_goto (tgt := 135) hx hb dX5_planBeside_131 (by decide) ?_
                obtain ⟨hi26, hf⟩ := xi_some hf
                refine kZast hx hb hv 8 rfl hi26 dX5_planBeside_135 (fun H locs hv => ?_)
                replace hv : Hv s H locs G cy A [(aT, .inr (5, [.int f_thrown, .int f_many, .ref aT_begins, .ref aT_ends, .ref aT_weights, .ref aT_isThere, .ref aT_rooms, .int f_factor, .ref aT_isOffered, .ref aT_isAccepted, .int f_dropped, .ref aT_best, .ref aT_order, .ref aT_froms, .ref aT_tos, .ref aT_counts, .ref aT_points, .ref aT_flows, .ref aT_isUsed, .ref aT_gains, .ref aT_ways, .int f_pointMany])), (aT_begins, .inl (cy.1, 40, .inl A_begins)), (aT_ends, .inl (cy.1, 40, .inl A_ends)), (aT_weights, .inl (cy.1, 40, .inl A_weights)), (aT_isThere, .inl (cy.2.1, 40, .inl A_isThere)), (aT_best, .inl (cy.1, 1001, .inl A_best)), (aT_froms, .inl (cy.1, 40, .inl A_froms)), (aT_tos, .inl (cy.1, 40, .inl A_tos)), (aT_counts, .inl (cy.2.1, 40, .inl (upd A_counts v3.toNatClampNeg (vp_nar .boolean 1))))] := hv
                refine lv_iinc (v := v4 + 1) (lv' := [(4, .int (v4 + 1)), (0, .ref aT), (1, .int v1), (2, .int v2), (3, .int v3)]) hx hb dX5_planBeside_136 hl (k := 4) rfl rfl (by decide) rfl (fun ls hl => ?_)
                refine lv_goto (tgt := 83) hx hb dX5_planBeside_139 (by decide) ?_
                exact ih (v4 + 1) (upd A_counts v3.toNatClampNeg (vp_nar .boolean 1)) hf _ _ _ hv (lv_sub hl [1, 2, 3, 4, 0] rfl) hκ
  have L2 : ∀ (v1 : Int32) (v2 : Int32) (A_best : Nat → Int32) (κ : Int32 → (Nat → Int32) → (Nat → Int32) → (Nat → Int32) → Option (Int32 × (Nat → Int32) × (Nat → Int32) × (Nat → Int32) × (Nat → Int32))) (n : Nat) (v3 : Int32) (A_froms : Nat → Int32) (A_tos : Nat → Int32) (A_counts : Nat → Int32), f_X5_planBeside_L2 k v1 v2 f_many A_begins A_ends A_isThere κ n v3 A_froms A_tos A_counts = some (r, wA_best, wA_froms, wA_tos, wA_counts) → ∀ (H : Heap) (locs : List Loc) (ls : Array Slot), Hv s H locs G cy A [(aT, .inr (5, [.int f_thrown, .int f_many, .ref aT_begins, .ref aT_ends, .ref aT_weights, .ref aT_isThere, .ref aT_rooms, .int f_factor, .ref aT_isOffered, .ref aT_isAccepted, .int f_dropped, .ref aT_best, .ref aT_order, .ref aT_froms, .ref aT_tos, .ref aT_counts, .ref aT_points, .ref aT_flows, .ref aT_isUsed, .ref aT_gains, .ref aT_ways, .int f_pointMany])), (aT_begins, .inl (cy.1, 40, .inl A_begins)), (aT_ends, .inl (cy.1, 40, .inl A_ends)), (aT_weights, .inl (cy.1, 40, .inl A_weights)), (aT_isThere, .inl (cy.2.1, 40, .inl A_isThere)), (aT_best, .inl (cy.1, 1001, .inl A_best)), (aT_froms, .inl (cy.1, 40, .inl A_froms)), (aT_tos, .inl (cy.1, 40, .inl A_tos)), (aT_counts, .inl (cy.2.1, 40, .inl A_counts))] → lv_has ls 5 [(0, .ref aT), (1, .int v1), (2, .int v2), (3, .int v3)] → (∀ (v3 : Int32) (A_froms : Nat → Int32) (A_tos : Nat → Int32) (A_counts : Nat → Int32), κ v3 A_froms A_tos A_counts = some (r, wA_best, wA_froms, wA_tos, wA_counts) → ∀ (H : Heap) (locs : List Loc) (ls : Array Slot), Hv s H locs G cy A [(aT, .inr (5, [.int f_thrown, .int f_many, .ref aT_begins, .ref aT_ends, .ref aT_weights, .ref aT_isThere, .ref aT_rooms, .int f_factor, .ref aT_isOffered, .ref aT_isAccepted, .int f_dropped, .ref aT_best, .ref aT_order, .ref aT_froms, .ref aT_tos, .ref aT_counts, .ref aT_points, .ref aT_flows, .ref aT_isUsed, .ref aT_gains, .ref aT_ways, .int f_pointMany])), (aT_begins, .inl (cy.1, 40, .inl A_begins)), (aT_ends, .inl (cy.1, 40, .inl A_ends)), (aT_weights, .inl (cy.1, 40, .inl A_weights)), (aT_isThere, .inl (cy.2.1, 40, .inl A_isThere)), (aT_best, .inl (cy.1, 1001, .inl A_best)), (aT_froms, .inl (cy.1, 40, .inl A_froms)), (aT_tos, .inl (cy.1, 40, .inl A_tos)), (aT_counts, .inl (cy.2.1, 40, .inl A_counts))] → lv_has ls 5 [(0, .ref aT), (1, .int v1), (2, .int v2)] → W p l e rm_X5_planBeside s m args below meth c H locs 0 0 Q (F0 m 148 ls [])) → W p l e rm_X5_planBeside s m args below meth c H locs 0 0 Q (F0 m 2 ls []) := by
    intro v1 v2 A_best κ n
    induction n with
    | zero =>
      intro v3 A_froms A_tos A_counts hf
      rw [f_X5_planBeside_L2_z] at hf
      cases hf
    | succ n ih =>
      intro v3 A_froms A_tos A_counts hf H locs ls hv hl hκ
      rw [f_X5_planBeside_L2_s] at hf
      refine lv_iload_n hx hb dX5_planBeside_2 rfl (lv_at hl 3 rfl) ?_
      refine lv_aload_n hx hb dX5_planBeside_3 rfl (lv_at hl 0 rfl) ?_
      refine kGet (v := .int f_many) (C := RX5) (T := TX5) (N := 22) hx hb hts hinX5 hown hv 0 rfl rfl 1 (by decide) hk69 (fun _ h9 => h9) rfl dX5_planBeside_4 ?_
      refine lv_icmp_ge (tgt := 148) hx hb dX5_planBeside_7 (by decide) (fun hc1 => ?_) (fun hc1 => ?_)
      · replace hf := ite_t hf hc1
        exact hκ v3 A_froms A_tos A_counts hf _ _ _ hv (lv_sub hl [0, 1, 2] rfl)
      · replace hf := ite_f hf hc1
        refine lv_aload_n hx hb dX5_planBeside_10 rfl (lv_at hl 0 rfl) ?_
        refine kGet (v := .ref aT_froms) (C := RX5) (T := TX5) (N := 22) hx hb hts hinX5 hown hv 0 rfl rfl 13 (by decide) hk42 (fun _ h9 => h9) rfl dX5_planBeside_11 ?_
        refine lv_iload_n hx hb dX5_planBeside_14 rfl (lv_at hl 3 rfl) ?_
        refine lv_aload_n hx hb dX5_planBeside_15 rfl (lv_at hl 0 rfl) ?_
        refine kGet (v := .ref aT_begins) (C := RX5) (T := TX5) (N := 22) hx hb hts hinX5 hown hv 0 rfl rfl 2 (by decide) hk7 (fun _ h9 => h9) rfl dX5_planBeside_16 ?_
        refine lv_iload_n hx hb dX5_planBeside_19 rfl (lv_at hl 3 rfl) ?_
        obtain ⟨hi2, hf⟩ := xi_some hf
        refine kIald hx hb hv 1 rfl hi2 dX5_planBeside_20 ?_
        refine lv_iload_n hx hb dX5_planBeside_21 rfl (lv_at hl 2 rfl) ?_
        obtain ⟨hd3, hf⟩ := xd_some hf
        refine lv_irem hx hb dX5_planBeside_22 hd3 ?_
        obtain ⟨hi4, hf⟩ := xi_some hf
        refine kIast hx hb hv 6 rfl hi4 dX5_planBeside_23 (fun H locs hv => ?_)
        replace hv : Hv s H locs G cy A [(aT, .inr (5, [.int f_thrown, .int f_many, .ref aT_begins, .ref aT_ends, .ref aT_weights, .ref aT_isThere, .ref aT_rooms, .int f_factor, .ref aT_isOffered, .ref aT_isAccepted, .int f_dropped, .ref aT_best, .ref aT_order, .ref aT_froms, .ref aT_tos, .ref aT_counts, .ref aT_points, .ref aT_flows, .ref aT_isUsed, .ref aT_gains, .ref aT_ways, .int f_pointMany])), (aT_begins, .inl (cy.1, 40, .inl A_begins)), (aT_ends, .inl (cy.1, 40, .inl A_ends)), (aT_weights, .inl (cy.1, 40, .inl A_weights)), (aT_isThere, .inl (cy.2.1, 40, .inl A_isThere)), (aT_best, .inl (cy.1, 1001, .inl A_best)), (aT_froms, .inl (cy.1, 40, .inl (upd A_froms v3.toNatClampNeg ((A_begins v3.toNatClampNeg) - (A_begins v3.toNatClampNeg) / v2 * v2)))), (aT_tos, .inl (cy.1, 40, .inl A_tos)), (aT_counts, .inl (cy.2.1, 40, .inl A_counts))] := hv
        refine lv_aload_n hx hb dX5_planBeside_24 rfl (lv_at hl 0 rfl) ?_
        refine kGet (v := .ref aT_tos) (C := RX5) (T := TX5) (N := 22) hx hb hts hinX5 hown hv 0 rfl rfl 14 (by decide) hk45 (fun _ h9 => h9) rfl dX5_planBeside_25 ?_
        refine lv_iload_n hx hb dX5_planBeside_28 rfl (lv_at hl 3 rfl) ?_
        refine lv_aload_n hx hb dX5_planBeside_29 rfl (lv_at hl 0 rfl) ?_
        refine kGet (v := .ref aT_froms) (C := RX5) (T := TX5) (N := 22) hx hb hts hinX5 hown hv 0 rfl rfl 13 (by decide) hk42 (fun _ h9 => h9) rfl dX5_planBeside_30 ?_
        refine lv_iload_n hx hb dX5_planBeside_33 rfl (lv_at hl 3 rfl) ?_
        obtain ⟨hi5, hf⟩ := xi_some hf
        refine kIald hx hb hv 6 rfl hi5 dX5_planBeside_34 ?_
        refine lv_aload_n hx hb dX5_planBeside_35 rfl (lv_at hl 0 rfl) ?_
        refine kGet (v := .ref aT_ends) (C := RX5) (T := TX5) (N := 22) hx hb hts hinX5 hown hv 0 rfl rfl 3 (by decide) hk13 (fun _ h9 => h9) rfl dX5_planBeside_36 ?_
        refine lv_iload_n hx hb dX5_planBeside_39 rfl (lv_at hl 3 rfl) ?_
        obtain ⟨hi6, hf⟩ := xi_some hf
        refine kIald hx hb hv 2 rfl hi6 dX5_planBeside_40 ?_
        refine lv_iadd hx hb dX5_planBeside_41 ?_
        refine lv_aload_n hx hb dX5_planBeside_42 rfl (lv_at hl 0 rfl) ?_
        refine kGet (v := .ref aT_begins) (C := RX5) (T := TX5) (N := 22) hx hb hts hinX5 hown hv 0 rfl rfl 2 (by decide) hk7 (fun _ h9 => h9) rfl dX5_planBeside_43 ?_
        refine lv_iload_n hx hb dX5_planBeside_46 rfl (lv_at hl 3 rfl) ?_
        obtain ⟨hi7, hf⟩ := xi_some hf
        refine kIald hx hb hv 1 rfl hi7 dX5_planBeside_47 ?_
        refine lv_isub hx hb dX5_planBeside_48 ?_
        obtain ⟨hi8, hf⟩ := xi_some hf
        refine kIast hx hb hv 7 rfl hi8 dX5_planBeside_49 (fun H locs hv => ?_)
        replace hv : Hv s H locs G cy A [(aT, .inr (5, [.int f_thrown, .int f_many, .ref aT_begins, .ref aT_ends, .ref aT_weights, .ref aT_isThere, .ref aT_rooms, .int f_factor, .ref aT_isOffered, .ref aT_isAccepted, .int f_dropped, .ref aT_best, .ref aT_order, .ref aT_froms, .ref aT_tos, .ref aT_counts, .ref aT_points, .ref aT_flows, .ref aT_isUsed, .ref aT_gains, .ref aT_ways, .int f_pointMany])), (aT_begins, .inl (cy.1, 40, .inl A_begins)), (aT_ends, .inl (cy.1, 40, .inl A_ends)), (aT_weights, .inl (cy.1, 40, .inl A_weights)), (aT_isThere, .inl (cy.2.1, 40, .inl A_isThere)), (aT_best, .inl (cy.1, 1001, .inl A_best)), (aT_froms, .inl (cy.1, 40, .inl (upd A_froms v3.toNatClampNeg ((A_begins v3.toNatClampNeg) - (A_begins v3.toNatClampNeg) / v2 * v2)))), (aT_tos, .inl (cy.1, 40, .inl (upd A_tos v3.toNatClampNeg ((((upd A_froms v3.toNatClampNeg ((A_begins v3.toNatClampNeg) - (A_begins v3.toNatClampNeg) / v2 * v2)) v3.toNatClampNeg) + (A_ends v3.toNatClampNeg)) - (A_begins v3.toNatClampNeg))))), (aT_counts, .inl (cy.2.1, 40, .inl A_counts))] := hv
        refine lv_aload_n hx hb dX5_planBeside_50 rfl (lv_at hl 0 rfl) ?_
        refine kGet (v := .ref aT_counts) (C := RX5) (T := TX5) (N := 22) hx hb hts hinX5 hown hv 0 rfl rfl 15 (by decide) hk48 (fun _ h9 => h9) rfl dX5_planBeside_51 ?_
        refine lv_iload_n hx hb dX5_planBeside_54 rfl (lv_at hl 3 rfl) ?_
        refine lv_aload_n hx hb dX5_planBeside_55 rfl (lv_at hl 0 rfl) ?_
        refine kGet (v := .ref aT_isThere) (C := RX5) (T := TX5) (N := 22) hx hb hts hinX5 hown hv 0 rfl rfl 5 (by decide) hk19 (fun _ h9 => h9) rfl dX5_planBeside_56 ?_
        refine lv_iload_n hx hb dX5_planBeside_59 rfl (lv_at hl 3 rfl) ?_
        obtain ⟨hi9, hf⟩ := xi_some hf
        refine kZald hx hb hv 4 rfl hi9 dX5_planBeside_60 ?_
        refine xj_elim hf (fun j79_11 ej79_11 hf => ?_)
        have J79_11 : ∀ (x12 : Int32), j79_11 x12 = some (r, wA_best, wA_froms, wA_tos, wA_counts) → ∀ (H : Heap) (locs : List Loc) (ls : Array Slot), Hv s H locs G cy A [(aT, .inr (5, [.int f_thrown, .int f_many, .ref aT_begins, .ref aT_ends, .ref aT_weights, .ref aT_isThere, .ref aT_rooms, .int f_factor, .ref aT_isOffered, .ref aT_isAccepted, .int f_dropped, .ref aT_best, .ref aT_order, .ref aT_froms, .ref aT_tos, .ref aT_counts, .ref aT_points, .ref aT_flows, .ref aT_isUsed, .ref aT_gains, .ref aT_ways, .int f_pointMany])), (aT_begins, .inl (cy.1, 40, .inl A_begins)), (aT_ends, .inl (cy.1, 40, .inl A_ends)), (aT_weights, .inl (cy.1, 40, .inl A_weights)), (aT_isThere, .inl (cy.2.1, 40, .inl A_isThere)), (aT_best, .inl (cy.1, 1001, .inl A_best)), (aT_froms, .inl (cy.1, 40, .inl (upd A_froms v3.toNatClampNeg ((A_begins v3.toNatClampNeg) - (A_begins v3.toNatClampNeg) / v2 * v2)))), (aT_tos, .inl (cy.1, 40, .inl (upd A_tos v3.toNatClampNeg ((((upd A_froms v3.toNatClampNeg ((A_begins v3.toNatClampNeg) - (A_begins v3.toNatClampNeg) / v2 * v2)) v3.toNatClampNeg) + (A_ends v3.toNatClampNeg)) - (A_begins v3.toNatClampNeg))))), (aT_counts, .inl (cy.2.1, 40, .inl A_counts))] → lv_has ls 5 [(0, .ref aT), (1, .int v1), (2, .int v2), (3, .int v3)] → W p l e rm_X5_planBeside s m args below meth c H locs 0 0 Q (F0 m 79 ls [.int x12, .int v3, .ref aT_counts]) := by
          intro x12 hf H locs ls hv hl
          rw [ej79_11] at hf
          try dsimp only at hf
          obtain ⟨hi13, hf⟩ := xi_some hf
          refine kZast hx hb hv 8 rfl hi13 dX5_planBeside_79 (fun H locs hv => ?_)
          replace hv : Hv s H locs G cy A [(aT, .inr (5, [.int f_thrown, .int f_many, .ref aT_begins, .ref aT_ends, .ref aT_weights, .ref aT_isThere, .ref aT_rooms, .int f_factor, .ref aT_isOffered, .ref aT_isAccepted, .int f_dropped, .ref aT_best, .ref aT_order, .ref aT_froms, .ref aT_tos, .ref aT_counts, .ref aT_points, .ref aT_flows, .ref aT_isUsed, .ref aT_gains, .ref aT_ways, .int f_pointMany])), (aT_begins, .inl (cy.1, 40, .inl A_begins)), (aT_ends, .inl (cy.1, 40, .inl A_ends)), (aT_weights, .inl (cy.1, 40, .inl A_weights)), (aT_isThere, .inl (cy.2.1, 40, .inl A_isThere)), (aT_best, .inl (cy.1, 1001, .inl A_best)), (aT_froms, .inl (cy.1, 40, .inl (upd A_froms v3.toNatClampNeg ((A_begins v3.toNatClampNeg) - (A_begins v3.toNatClampNeg) / v2 * v2)))), (aT_tos, .inl (cy.1, 40, .inl (upd A_tos v3.toNatClampNeg ((((upd A_froms v3.toNatClampNeg ((A_begins v3.toNatClampNeg) - (A_begins v3.toNatClampNeg) / v2 * v2)) v3.toNatClampNeg) + (A_ends v3.toNatClampNeg)) - (A_begins v3.toNatClampNeg))))), (aT_counts, .inl (cy.2.1, 40, .inl (upd A_counts v3.toNatClampNeg (vp_nar .boolean x12))))] := hv
          refine lv_iconst (v := 0) hx hb dX5_planBeside_80 (by decide) ?_
          refine lv_istore (lv' := [(4, .int 0), (0, .ref aT), (1, .int v1), (2, .int v2), (3, .int v3)]) hx hb dX5_planBeside_81 hl (by decide) rfl (fun ls hl => ?_)
          refine L83 _ _ _ _ _ _ _ _ _ _ hf _ _ _ hv (lv_sub hl [1, 2, 3, 4, 0] rfl) (fun v4_27 A_counts_28 hf H locs ls hv hl => ?_)
          try dsimp only at hf
          refine lv_iinc (v := v3 + 1) (lv' := [(3, .int (v3 + 1)), (0, .ref aT), (1, .int v1), (2, .int v2)]) hx hb dX5_planBeside_142 hl (k := 3) rfl rfl (by decide) rfl (fun ls hl => ?_)
          refine lv_goto (tgt := 2) hx hb dX5_planBeside_145 (by decide) ?_
          exact ih (v3 + 1) (upd A_froms v3.toNatClampNeg ((A_begins v3.toNatClampNeg) - (A_begins v3.toNatClampNeg) / v2 * v2)) (upd A_tos v3.toNatClampNeg ((((upd A_froms v3.toNatClampNeg ((A_begins v3.toNatClampNeg) - (A_begins v3.toNatClampNeg) / v2 * v2)) v3.toNatClampNeg) + (A_ends v3.toNatClampNeg)) - (A_begins v3.toNatClampNeg))) A_counts_28 hf _ _ _ hv (lv_sub hl [1, 2, 3, 0] rfl) hκ
        refine xj_elim hf (fun j78_29 ej78_29 hf => ?_)
        have J78_29 : ∀ (u : Unit), j78_29 u = some (r, wA_best, wA_froms, wA_tos, wA_counts) → ∀ (H : Heap) (locs : List Loc) (ls : Array Slot), Hv s H locs G cy A [(aT, .inr (5, [.int f_thrown, .int f_many, .ref aT_begins, .ref aT_ends, .ref aT_weights, .ref aT_isThere, .ref aT_rooms, .int f_factor, .ref aT_isOffered, .ref aT_isAccepted, .int f_dropped, .ref aT_best, .ref aT_order, .ref aT_froms, .ref aT_tos, .ref aT_counts, .ref aT_points, .ref aT_flows, .ref aT_isUsed, .ref aT_gains, .ref aT_ways, .int f_pointMany])), (aT_begins, .inl (cy.1, 40, .inl A_begins)), (aT_ends, .inl (cy.1, 40, .inl A_ends)), (aT_weights, .inl (cy.1, 40, .inl A_weights)), (aT_isThere, .inl (cy.2.1, 40, .inl A_isThere)), (aT_best, .inl (cy.1, 1001, .inl A_best)), (aT_froms, .inl (cy.1, 40, .inl (upd A_froms v3.toNatClampNeg ((A_begins v3.toNatClampNeg) - (A_begins v3.toNatClampNeg) / v2 * v2)))), (aT_tos, .inl (cy.1, 40, .inl (upd A_tos v3.toNatClampNeg ((((upd A_froms v3.toNatClampNeg ((A_begins v3.toNatClampNeg) - (A_begins v3.toNatClampNeg) / v2 * v2)) v3.toNatClampNeg) + (A_ends v3.toNatClampNeg)) - (A_begins v3.toNatClampNeg))))), (aT_counts, .inl (cy.2.1, 40, .inl A_counts))] → lv_has ls 5 [(0, .ref aT), (1, .int v1), (2, .int v2), (3, .int v3)] → W p l e rm_X5_planBeside s m args below meth c H locs 0 0 Q (F0 m 78 ls [.int v3, .ref aT_counts]) := by
          intro u hf H locs ls hv hl
          rw [ej78_29] at hf
          try dsimp only at hf
          refine lv_iconst (v := 0) hx hb dX5_planBeside_78 (by decide) ?_
          exact J79_11 0 hf _ _ _ hv (lv_sub hl [0, 1, 2, 3] rfl)
        refine lv_if_eq (tgt := 78) hx hb dX5_planBeside_61 (by decide) (fun hc10 => ?_) (fun hc10 => ?_)
        · replace hf := ite_t hf hc10
          exact J78_29 () hf _ _ _ hv (lv_sub hl [0, 1, 2, 3] rfl)
        · replace hf := ite_f hf hc10
          refine lv_aload_n hx hb dX5_planBeside_64 rfl (lv_at hl 0 rfl) ?_
          refine lv_iload_n hx hb dX5_planBeside_65 rfl (lv_at hl 3 rfl) ?_
          refine lv_iconst (v := 0) hx hb dX5_planBeside_66 (by decide) ?_
          refine lv_iload_n hx hb dX5_planBeside_67 rfl (lv_at hl 2 rfl) ?_
          obtain ⟨r30, hcl31, hf⟩ := xb_some hf
          refine kV_i (r := r30) (wr := [(aT_weights, .inl (cy.1, 40, .inl A_weights)), (aT_isThere, .inl (cy.2.1, 40, .inl A_isThere)), (aT_best, .inl (cy.1, 1001, .inl A_best)), (aT_froms, .inl (cy.1, 40, .inl (upd A_froms v3.toNatClampNeg ((A_begins v3.toNatClampNeg) - (A_begins v3.toNatClampNeg) / v2 * v2)))), (aT_tos, .inl (cy.1, 40, .inl (upd A_tos v3.toNatClampNeg ((((upd A_froms v3.toNatClampNeg ((A_begins v3.toNatClampNeg) - (A_begins v3.toNatClampNeg) / v2 * v2)) v3.toNatClampNeg) + (A_ends v3.toNatClampNeg)) - (A_begins v3.toNatClampNeg))))), (aT_counts, .inl (cy.2.1, 40, .inl A_counts))]) (w2 := [(aT, .inr (5, [.int f_thrown, .int f_many, .ref aT_begins, .ref aT_ends, .ref aT_weights, .ref aT_isThere, .ref aT_rooms, .int f_factor, .ref aT_isOffered, .ref aT_isAccepted, .int f_dropped, .ref aT_best, .ref aT_order, .ref aT_froms, .ref aT_tos, .ref aT_counts, .ref aT_points, .ref aT_flows, .ref aT_isUsed, .ref aT_gains, .ref aT_ways, .int f_pointMany])), (aT_begins, .inl (cy.1, 40, .inl A_begins)), (aT_ends, .inl (cy.1, 40, .inl A_ends)), (aT_weights, .inl (cy.1, 40, .inl A_weights)), (aT_isThere, .inl (cy.2.1, 40, .inl A_isThere)), (aT_best, .inl (cy.1, 1001, .inl A_best)), (aT_froms, .inl (cy.1, 40, .inl (upd A_froms v3.toNatClampNeg ((A_begins v3.toNatClampNeg) - (A_begins v3.toNatClampNeg) / v2 * v2)))), (aT_tos, .inl (cy.1, 40, .inl (upd A_tos v3.toNatClampNeg ((((upd A_froms v3.toNatClampNeg ((A_begins v3.toNatClampNeg) - (A_begins v3.toNatClampNeg) / v2 * v2)) v3.toNatClampNeg) + (A_ends v3.toNatClampNeg)) - (A_begins v3.toNatClampNeg))))), (aT_counts, .inl (cy.2.1, 40, .inl A_counts))]) ⟨hx, hb, hml, hown, hts⟩ (c_X5_takes l G cy k aT aT_begins aT_ends aT_weights aT_isThere aT_rooms aT_isOffered aT_isAccepted aT_best aT_order aT_froms aT_tos aT_counts aT_points aT_flows aT_isUsed aT_gains aT_ways f_thrown f_many f_factor f_dropped f_pointMany A_begins A_ends v3 0 v2 hcl31) (cwV 3 hts gX5_planBeside_X5_takes rfl rfl rfl (by decide +kernel) ⟨Nat.le_of_ble_eq_true rfl, Nat.le_of_ble_eq_true rfl⟩) hv (isC := [0, 1, 2]) ⟨rfl, rfl⟩ (hv.recv 5 0 rfl rfl) [3, 4, 5, 6, 7, 8] [6, 7, 8, 0, 1, 2, 3, 4, 5] rfl rfl (by decide) rfl rfl rfl hl.1 rfl (Nat.le_of_ble_eq_true rfl) dX5_planBeside_68 ⟨Nat.le_of_ble_eq_true rfl, Nat.le_of_ble_eq_true rfl⟩ (fun H locs hv => ?_)
          refine lv_if_ne (tgt := 78) hx hb dX5_planBeside_71 (by decide) (fun hc32 => ?_) (fun hc32 => ?_)
          · replace hf := ite_f hf hc32
            exact J78_29 () hf _ _ _ hv (lv_sub hl [0, 1, 2, 3] rfl)
          · replace hf := ite_t hf hc32
            refine lv_iconst (v := 1) hx hb dX5_planBeside_74 (by decide) ?_
            refine lv_goto (tgt := 79) hx hb dX5_planBeside_75 (by decide) ?_
            exact J79_11 1 hf _ _ _ hv (lv_sub hl [0, 1, 2, 3] rfl)
  unfold f_X5_planBeside at hf
  refine lv_iconst (v := 0) hx hb dX5_planBeside_0 (by decide) ?_
  refine lv_istore_n (lv' := [(3, .int 0), (0, .ref aT), (1, .int p1), (2, .int p2)]) hx hb dX5_planBeside_1 rfl hl (by decide) rfl (fun ls hl => ?_)
  refine L2 _ _ _ _ _ _ _ _ _ hf _ _ _ hv (lv_sub hl [1, 2, 3, 0] rfl) (fun v3_33 A_froms_34 A_tos_35 A_counts_36 hf H locs ls hv hl => ?_)
  try dsimp only at hf
  refine lv_aload_n hx hb dX5_planBeside_148 rfl (lv_at hl 0 rfl) ?_
  refine lv_iload_n hx hb dX5_planBeside_149 rfl (lv_at hl 2 rfl) ?_
  obtain ⟨⟨r37, A_best_38⟩, hcl39, hf⟩ := xb_some hf
  dsimp only at hf
  refine kV_i (r := r37) (wr := [(aT_begins, .inl (cy.1, 40, .inl A_begins)), (aT_ends, .inl (cy.1, 40, .inl A_ends)), (aT_isThere, .inl (cy.2.1, 40, .inl A_isThere))]) (w2 := [(aT, .inr (5, [.int f_thrown, .int f_many, .ref aT_begins, .ref aT_ends, .ref aT_weights, .ref aT_isThere, .ref aT_rooms, .int f_factor, .ref aT_isOffered, .ref aT_isAccepted, .int f_dropped, .ref aT_best, .ref aT_order, .ref aT_froms, .ref aT_tos, .ref aT_counts, .ref aT_points, .ref aT_flows, .ref aT_isUsed, .ref aT_gains, .ref aT_ways, .int f_pointMany])), (aT_begins, .inl (cy.1, 40, .inl A_begins)), (aT_ends, .inl (cy.1, 40, .inl A_ends)), (aT_weights, .inl (cy.1, 40, .inl A_weights)), (aT_isThere, .inl (cy.2.1, 40, .inl A_isThere)), (aT_best, .inl (cy.1, 1001, .inl A_best_38)), (aT_froms, .inl (cy.1, 40, .inl A_froms_34)), (aT_tos, .inl (cy.1, 40, .inl A_tos_35)), (aT_counts, .inl (cy.2.1, 40, .inl A_counts_36))]) ⟨hx, hb, hml, hown, hts⟩ (c_X5_plan l G cy k aT aT_begins aT_ends aT_weights aT_isThere aT_rooms aT_isOffered aT_isAccepted aT_best aT_order aT_froms aT_tos aT_counts aT_points aT_flows aT_isUsed aT_gains aT_ways f_thrown f_many f_factor f_dropped f_pointMany A_weights A_best A_froms_34 A_tos_35 A_counts_36 p2 hcl39) (cwV 1 hts gX5_planBeside_X5_plan rfl rfl rfl (by decide +kernel) ⟨Nat.le_of_ble_eq_true rfl, Nat.le_of_ble_eq_true rfl⟩) hv (isC := [0, 3, 5, 6, 7, 8]) ⟨rfl, rfl⟩ (hv.recv 5 0 rfl rfl) [1, 2, 4] [3, 0, 1, 4, 2, 5, 6, 7, 8] rfl rfl (by decide) rfl rfl rfl hl.1 rfl (Nat.le_of_ble_eq_true rfl) dX5_planBeside_150 ⟨Nat.le_of_ble_eq_true rfl, Nat.le_of_ble_eq_true rfl⟩ (fun H locs hv => ?_)
  refine lv_iload_n hx hb dX5_planBeside_153 rfl (lv_at hl 1 rfl) ?_
  refine lv_iconst (v := (-1)) hx hb dX5_planBeside_154 (by decide) ?_
  refine lv_icmp_ne (tgt := 162) hx hb dX5_planBeside_155 (by decide) (fun hc40 => ?_) (fun hc40 => ?_)
  · replace hf := ite_f hf hc40
    refine lv_aload_n hx hb dX5_planBeside_162 rfl (lv_at hl 0 rfl) ?_
    refine kGet (v := .ref aT_weights) (C := RX5) (T := TX5) (N := 22) hx hb hts hinX5 hown hv 0 rfl rfl 4 (by decide) hk16 (fun _ h9 => h9) rfl dX5_planBeside_163 ?_
    refine lv_iload_n hx hb dX5_planBeside_166 rfl (lv_at hl 1 rfl) ?_
    obtain ⟨hi41, hf⟩ := xi_some hf
    refine kIald hx hb hv 3 rfl hi41 dX5_planBeside_167 ?_
    refine lv_iadd hx hb dX5_planBeside_168 ?_
    cases hf
    exact kret _ _ _ _ hv dX5_planBeside_169
  · replace hf := ite_t hf hc40
    refine lv_iconst (v := 0) hx hb dX5_planBeside_158 (by decide) ?_
    refine lv_goto (tgt := 168) hx hb dX5_planBeside_159 (by decide) ?_
    refine lv_iadd hx hb dX5_planBeside_168 ?_
    cases hf
    exact kret _ _ _ _ hv dX5_planBeside_169

def f_X5_heaviestRound_L23 (k : Nat) (v1 : Int32) (f_many : Int32) (A_begins : Nat → Int32) (A_ends : Nat → Int32) (A_weights : Nat → Int32) (A_isThere : Nat → Int32) (κ : Int32 → Int32 → (Nat → Int32) → (Nat → Int32) → (Nat → Int32) → (Nat → Int32) → Option (Int32 × Int32 × (Nat → Int32) × (Nat → Int32) × (Nat → Int32) × (Nat → Int32))) : Nat → Int32 → Int32 → (Nat → Int32) → (Nat → Int32) → (Nat → Int32) → (Nat → Int32) → Option (Int32 × Int32 × (Nat → Int32) × (Nat → Int32) × (Nat → Int32) × (Nat → Int32))
  | 0, _, _, _, _, _, _ => none
  | n + 1, v2, v3, A_best, A_froms, A_tos, A_counts => if f_many ≤ v3 then κ v2 v3 A_best A_froms A_tos A_counts else xi v3 40 (xj (fun (x17 : Int32) (A_best_18 : Nat → Int32) (A_froms_19 : Nat → Int32) (A_tos_20 : Nat → Int32) (A_counts_21 : Nat → Int32) => if x17 ≤ v2 then f_X5_heaviestRound_L23 k v1 f_many A_begins A_ends A_weights A_isThere κ n v2 (v3 + 1) A_best_18 A_froms_19 A_tos_20 A_counts_21 else f_X5_heaviestRound_L23 k v1 f_many A_begins A_ends A_weights A_isThere κ n x17 (v3 + 1) A_best_18 A_froms_19 A_tos_20 A_counts_21) (fun (j60_16 : Int32 → (Nat → Int32) → (Nat → Int32) → (Nat → Int32) → (Nat → Int32) → Option (Int32 × Int32 × (Nat → Int32) × (Nat → Int32) × (Nat → Int32) × (Nat → Int32))) => xj (fun (_ : Unit) => j60_16 0 A_best A_froms A_tos A_counts) (fun (j59_23 : Unit → Option (Int32 × Int32 × (Nat → Int32) × (Nat → Int32) × (Nat → Int32) × (Nat → Int32))) => if (A_isThere v3.toNatClampNeg) = 0 then j59_23 () else xb (f_X5_takes k v3 0 v1 A_begins A_ends) (fun r24 => if r24 = 0 then j59_23 () else xb (f_X5_planBeside k v3 v1 f_many A_begins A_ends A_weights A_isThere A_best A_froms A_tos A_counts) (fun (r27, A_best_28, A_froms_29, A_tos_30, A_counts_31) => j60_16 r27 A_best_28 A_froms_29 A_tos_30 A_counts_31)))))
theorem f_X5_heaviestRound_L23_z (k : Nat) (v1 : Int32) (f_many : Int32) (A_begins : Nat → Int32) (A_ends : Nat → Int32) (A_weights : Nat → Int32) (A_isThere : Nat → Int32) (κ : Int32 → Int32 → (Nat → Int32) → (Nat → Int32) → (Nat → Int32) → (Nat → Int32) → Option (Int32 × Int32 × (Nat → Int32) × (Nat → Int32) × (Nat → Int32) × (Nat → Int32))) (v2 : Int32) (v3 : Int32) (A_best : Nat → Int32) (A_froms : Nat → Int32) (A_tos : Nat → Int32) (A_counts : Nat → Int32) : f_X5_heaviestRound_L23 k v1 f_many A_begins A_ends A_weights A_isThere κ 0 v2 v3 A_best A_froms A_tos A_counts = none := rfl
theorem f_X5_heaviestRound_L23_s (k : Nat) (v1 : Int32) (f_many : Int32) (A_begins : Nat → Int32) (A_ends : Nat → Int32) (A_weights : Nat → Int32) (A_isThere : Nat → Int32) (κ : Int32 → Int32 → (Nat → Int32) → (Nat → Int32) → (Nat → Int32) → (Nat → Int32) → Option (Int32 × Int32 × (Nat → Int32) × (Nat → Int32) × (Nat → Int32) × (Nat → Int32))) (n : Nat) (v2 : Int32) (v3 : Int32) (A_best : Nat → Int32) (A_froms : Nat → Int32) (A_tos : Nat → Int32) (A_counts : Nat → Int32) : f_X5_heaviestRound_L23 k v1 f_many A_begins A_ends A_weights A_isThere κ (n + 1) v2 v3 A_best A_froms A_tos A_counts = if f_many ≤ v3 then κ v2 v3 A_best A_froms A_tos A_counts else xi v3 40 (xj (fun (x17 : Int32) (A_best_18 : Nat → Int32) (A_froms_19 : Nat → Int32) (A_tos_20 : Nat → Int32) (A_counts_21 : Nat → Int32) => if x17 ≤ v2 then f_X5_heaviestRound_L23 k v1 f_many A_begins A_ends A_weights A_isThere κ n v2 (v3 + 1) A_best_18 A_froms_19 A_tos_20 A_counts_21 else f_X5_heaviestRound_L23 k v1 f_many A_begins A_ends A_weights A_isThere κ n x17 (v3 + 1) A_best_18 A_froms_19 A_tos_20 A_counts_21) (fun (j60_16 : Int32 → (Nat → Int32) → (Nat → Int32) → (Nat → Int32) → (Nat → Int32) → Option (Int32 × Int32 × (Nat → Int32) × (Nat → Int32) × (Nat → Int32) × (Nat → Int32))) => xj (fun (_ : Unit) => j60_16 0 A_best A_froms A_tos A_counts) (fun (j59_23 : Unit → Option (Int32 × Int32 × (Nat → Int32) × (Nat → Int32) × (Nat → Int32) × (Nat → Int32))) => if (A_isThere v3.toNatClampNeg) = 0 then j59_23 () else xb (f_X5_takes k v3 0 v1 A_begins A_ends) (fun r24 => if r24 = 0 then j59_23 () else xb (f_X5_planBeside k v3 v1 f_many A_begins A_ends A_weights A_isThere A_best A_froms A_tos A_counts) (fun (r27, A_best_28, A_froms_29, A_tos_30, A_counts_31) => j60_16 r27 A_best_28 A_froms_29 A_tos_30 A_counts_31))))) := rfl
def f_X5_heaviestRound (k : Nat) (p1 : Int32) (f_thrown : Int32) (f_many : Int32) (A_begins : Nat → Int32) (A_ends : Nat → Int32) (A_weights : Nat → Int32) (A_isThere : Nat → Int32) (A_best : Nat → Int32) (A_froms : Nat → Int32) (A_tos : Nat → Int32) (A_counts : Nat → Int32) : Option (Int32 × Int32 × (Nat → Int32) × (Nat → Int32) × (Nat → Int32) × (Nat → Int32)) := xb (f_X5_faultRound k p1 f_many A_begins A_ends A_isThere) (fun r1 => xb (f_X5_goesWell k r1 f_thrown) (fun (r3, f_thrown_4) => if r3 = 0 then some (0, f_thrown_4, A_best, A_froms, A_tos, A_counts) else xb (f_X5_planBeside k (-1) p1 f_many A_begins A_ends A_weights A_isThere A_best A_froms A_tos A_counts) (fun (r7, A_best_8, A_froms_9, A_tos_10, A_counts_11) => f_X5_heaviestRound_L23 k p1 f_many A_begins A_ends A_weights A_isThere (fun (v2_33 : Int32) (v3_34 : Int32) (A_best_35 : Nat → Int32) (A_froms_36 : Nat → Int32) (A_tos_37 : Nat → Int32) (A_counts_38 : Nat → Int32) => some (v2_33, f_thrown_4, A_best_35, A_froms_36, A_tos_37, A_counts_38)) k r7 0 A_best_8 A_froms_9 A_tos_10 A_counts_11)))
abbrev rm_X5_heaviestRound : Room := { frames := 2, cells := 0, slots := 0, locals := 49 }
set_option maxHeartbeats 4000000 in
set_option maxRecDepth 100000 in
theorem c_X5_heaviestRound (l : Launch) (G : va_G) (cy : ClassId × ClassId × ClassId) (k : Nat) (aT aT_begins aT_ends aT_weights aT_isThere aT_rooms aT_isOffered aT_isAccepted aT_best aT_order aT_froms aT_tos aT_counts aT_points aT_flows aT_isUsed aT_gains aT_ways : Nat) (f_thrown : Int32) (f_many : Int32) (f_factor : Int32) (f_dropped : Int32) (f_pointMany : Int32) (A_begins : Nat → Int32) (A_ends : Nat → Int32) (A_weights : Nat → Int32) (A_isThere : Nat → Int32) (A_best : Nat → Int32) (A_froms : Nat → Int32) (A_tos : Nat → Int32) (A_counts : Nat → Int32) (p1 : Int32) {r : Int32} {wf_thrown : Int32} {wA_best : Nat → Int32} {wA_froms : Nat → Int32} {wA_tos : Nat → Int32} {wA_counts : Nat → Int32} (hf : f_X5_heaviestRound k p1 f_thrown f_many A_begins A_ends A_weights A_isThere A_best A_froms A_tos A_counts = some (r, wf_thrown, wA_best, wA_froms, wA_tos, wA_counts)) : Ci l yX5_heaviestRound wsX5_heaviestRound rm_X5_heaviestRound 0 0 G cy [.ref aT, .int p1] [(aT, .inr (5, [.int f_thrown, .int f_many, .ref aT_begins, .ref aT_ends, .ref aT_weights, .ref aT_isThere, .ref aT_rooms, .int f_factor, .ref aT_isOffered, .ref aT_isAccepted, .int f_dropped, .ref aT_best, .ref aT_order, .ref aT_froms, .ref aT_tos, .ref aT_counts, .ref aT_points, .ref aT_flows, .ref aT_isUsed, .ref aT_gains, .ref aT_ways, .int f_pointMany])), (aT_begins, .inl (cy.1, 40, .inl A_begins)), (aT_ends, .inl (cy.1, 40, .inl A_ends)), (aT_weights, .inl (cy.1, 40, .inl A_weights)), (aT_isThere, .inl (cy.2.1, 40, .inl A_isThere)), (aT_best, .inl (cy.1, 1001, .inl A_best)), (aT_froms, .inl (cy.1, 40, .inl A_froms)), (aT_tos, .inl (cy.1, 40, .inl A_tos)), (aT_counts, .inl (cy.2.1, 40, .inl A_counts))] [(aT, .inr (5, [.int wf_thrown, .int f_many, .ref aT_begins, .ref aT_ends, .ref aT_weights, .ref aT_isThere, .ref aT_rooms, .int f_factor, .ref aT_isOffered, .ref aT_isAccepted, .int f_dropped, .ref aT_best, .ref aT_order, .ref aT_froms, .ref aT_tos, .ref aT_counts, .ref aT_points, .ref aT_flows, .ref aT_isUsed, .ref aT_gains, .ref aT_ways, .int f_pointMany])), (aT_begins, .inl (cy.1, 40, .inl A_begins)), (aT_ends, .inl (cy.1, 40, .inl A_ends)), (aT_weights, .inl (cy.1, 40, .inl A_weights)), (aT_isThere, .inl (cy.2.1, 40, .inl A_isThere)), (aT_best, .inl (cy.1, 1001, .inl wA_best)), (aT_froms, .inl (cy.1, 40, .inl wA_froms)), (aT_tos, .inl (cy.1, 40, .inl wA_tos)), (aT_counts, .inl (cy.2.1, 40, .inl wA_counts))] r := by
  refine kMetI (cc := cX5_heaviestRound) (maxL := 5) (by decide) rfl (Nat.le_of_ble_eq_true rfl) ?_
  intro p e s m args below meth c Q A ls hx hb hml hts hown hv hl kret
  replace hown : s.vm.findClass RX5 = some m.cls := hown
  replace hl : lv_has ls 5 [(0, .ref aT), (1, .int p1)] := hl
  have hk69 : (Cond.fieldLink RX5 69 "RoomcolourModel" "many" "I").before args s = true := hts _ (by decide +kernel)
  have hinX5 : ∀ w ∈ wsX50, w ∈ wsX5_heaviestRound := by decide +kernel
  have hk19 : (Cond.fieldLink RX5 19 "RoomcolourModel" "isThere" "[Z").before args s = true := hts _ (by decide +kernel)
  have L23 : ∀ (v1 : Int32) (f_thrown : Int32) (κ : Int32 → Int32 → (Nat → Int32) → (Nat → Int32) → (Nat → Int32) → (Nat → Int32) → Option (Int32 × Int32 × (Nat → Int32) × (Nat → Int32) × (Nat → Int32) × (Nat → Int32))) (n : Nat) (v2 : Int32) (v3 : Int32) (A_best : Nat → Int32) (A_froms : Nat → Int32) (A_tos : Nat → Int32) (A_counts : Nat → Int32), f_X5_heaviestRound_L23 k v1 f_many A_begins A_ends A_weights A_isThere κ n v2 v3 A_best A_froms A_tos A_counts = some (r, wf_thrown, wA_best, wA_froms, wA_tos, wA_counts) → ∀ (H : Heap) (locs : List Loc) (ls : Array Slot), Hv s H locs G cy A [(aT, .inr (5, [.int f_thrown, .int f_many, .ref aT_begins, .ref aT_ends, .ref aT_weights, .ref aT_isThere, .ref aT_rooms, .int f_factor, .ref aT_isOffered, .ref aT_isAccepted, .int f_dropped, .ref aT_best, .ref aT_order, .ref aT_froms, .ref aT_tos, .ref aT_counts, .ref aT_points, .ref aT_flows, .ref aT_isUsed, .ref aT_gains, .ref aT_ways, .int f_pointMany])), (aT_begins, .inl (cy.1, 40, .inl A_begins)), (aT_ends, .inl (cy.1, 40, .inl A_ends)), (aT_weights, .inl (cy.1, 40, .inl A_weights)), (aT_isThere, .inl (cy.2.1, 40, .inl A_isThere)), (aT_best, .inl (cy.1, 1001, .inl A_best)), (aT_froms, .inl (cy.1, 40, .inl A_froms)), (aT_tos, .inl (cy.1, 40, .inl A_tos)), (aT_counts, .inl (cy.2.1, 40, .inl A_counts))] → lv_has ls 5 [(0, .ref aT), (1, .int v1), (2, .int v2), (3, .int v3)] → (∀ (v2 : Int32) (v3 : Int32) (A_best : Nat → Int32) (A_froms : Nat → Int32) (A_tos : Nat → Int32) (A_counts : Nat → Int32), κ v2 v3 A_best A_froms A_tos A_counts = some (r, wf_thrown, wA_best, wA_froms, wA_tos, wA_counts) → ∀ (H : Heap) (locs : List Loc) (ls : Array Slot), Hv s H locs G cy A [(aT, .inr (5, [.int f_thrown, .int f_many, .ref aT_begins, .ref aT_ends, .ref aT_weights, .ref aT_isThere, .ref aT_rooms, .int f_factor, .ref aT_isOffered, .ref aT_isAccepted, .int f_dropped, .ref aT_best, .ref aT_order, .ref aT_froms, .ref aT_tos, .ref aT_counts, .ref aT_points, .ref aT_flows, .ref aT_isUsed, .ref aT_gains, .ref aT_ways, .int f_pointMany])), (aT_begins, .inl (cy.1, 40, .inl A_begins)), (aT_ends, .inl (cy.1, 40, .inl A_ends)), (aT_weights, .inl (cy.1, 40, .inl A_weights)), (aT_isThere, .inl (cy.2.1, 40, .inl A_isThere)), (aT_best, .inl (cy.1, 1001, .inl A_best)), (aT_froms, .inl (cy.1, 40, .inl A_froms)), (aT_tos, .inl (cy.1, 40, .inl A_tos)), (aT_counts, .inl (cy.2.1, 40, .inl A_counts))] → lv_has ls 5 [(2, .int v2)] → W p l e rm_X5_heaviestRound s m args below meth c H locs 0 0 Q (F0 m 81 ls [])) → W p l e rm_X5_heaviestRound s m args below meth c H locs 0 0 Q (F0 m 23 ls []) := by
    intro v1 f_thrown κ n
    induction n with
    | zero =>
      intro v2 v3 A_best A_froms A_tos A_counts hf
      rw [f_X5_heaviestRound_L23_z] at hf
      cases hf
    | succ n ih =>
      intro v2 v3 A_best A_froms A_tos A_counts hf H locs ls hv hl hκ
      rw [f_X5_heaviestRound_L23_s] at hf
      refine lv_iload_n hx hb dX5_heaviestRound_23 rfl (lv_at hl 3 rfl) ?_
      refine lv_aload_n hx hb dX5_heaviestRound_24 rfl (lv_at hl 0 rfl) ?_
      refine kGet (v := .int f_many) (C := RX5) (T := TX5) (N := 22) hx hb hts hinX5 hown hv 0 rfl rfl 1 (by decide) hk69 (fun _ h9 => h9) rfl dX5_heaviestRound_25 ?_
      refine lv_icmp_ge (tgt := 81) hx hb dX5_heaviestRound_28 (by decide) (fun hc13 => ?_) (fun hc13 => ?_)
      · replace hf := ite_t hf hc13
        exact hκ v2 v3 A_best A_froms A_tos A_counts hf _ _ _ hv (lv_sub hl [2] rfl)
      · replace hf := ite_f hf hc13
        refine lv_aload_n hx hb dX5_heaviestRound_31 rfl (lv_at hl 0 rfl) ?_
        refine kGet (v := .ref aT_isThere) (C := RX5) (T := TX5) (N := 22) hx hb hts hinX5 hown hv 0 rfl rfl 5 (by decide) hk19 (fun _ h9 => h9) rfl dX5_heaviestRound_32 ?_
        refine lv_iload_n hx hb dX5_heaviestRound_35 rfl (lv_at hl 3 rfl) ?_
        obtain ⟨hi14, hf⟩ := xi_some hf
        refine kZald hx hb hv 4 rfl hi14 dX5_heaviestRound_36 ?_
        refine xj_elim hf (fun j60_16 ej60_16 hf => ?_)
        have J60_16 : ∀ (x17 : Int32) (A_best_18 : Nat → Int32) (A_froms_19 : Nat → Int32) (A_tos_20 : Nat → Int32) (A_counts_21 : Nat → Int32), j60_16 x17 A_best_18 A_froms_19 A_tos_20 A_counts_21 = some (r, wf_thrown, wA_best, wA_froms, wA_tos, wA_counts) → ∀ (H : Heap) (locs : List Loc) (ls : Array Slot), Hv s H locs G cy A [(aT, .inr (5, [.int f_thrown, .int f_many, .ref aT_begins, .ref aT_ends, .ref aT_weights, .ref aT_isThere, .ref aT_rooms, .int f_factor, .ref aT_isOffered, .ref aT_isAccepted, .int f_dropped, .ref aT_best, .ref aT_order, .ref aT_froms, .ref aT_tos, .ref aT_counts, .ref aT_points, .ref aT_flows, .ref aT_isUsed, .ref aT_gains, .ref aT_ways, .int f_pointMany])), (aT_begins, .inl (cy.1, 40, .inl A_begins)), (aT_ends, .inl (cy.1, 40, .inl A_ends)), (aT_weights, .inl (cy.1, 40, .inl A_weights)), (aT_isThere, .inl (cy.2.1, 40, .inl A_isThere)), (aT_best, .inl (cy.1, 1001, .inl A_best_18)), (aT_froms, .inl (cy.1, 40, .inl A_froms_19)), (aT_tos, .inl (cy.1, 40, .inl A_tos_20)), (aT_counts, .inl (cy.2.1, 40, .inl A_counts_21))] → lv_has ls 5 [(0, .ref aT), (1, .int v1), (2, .int v2), (3, .int v3)] → W p l e rm_X5_heaviestRound s m args below meth c H locs 0 0 Q (F0 m 60 ls [.int x17]) := by
          intro x17 A_best_18 A_froms_19 A_tos_20 A_counts_21 hf H locs ls hv hl
          rw [ej60_16] at hf
          try dsimp only at hf
          refine lv_istore (lv' := [(4, .int x17), (0, .ref aT), (1, .int v1), (2, .int v2), (3, .int v3)]) hx hb dX5_heaviestRound_60 hl (by decide) rfl (fun ls hl => ?_)
          refine lv_iload hx hb dX5_heaviestRound_62 (lv_at hl 0 rfl) ?_
          refine lv_iload_n hx hb dX5_heaviestRound_64 rfl (lv_at hl 3 rfl) ?_
          refine lv_icmp_le (tgt := 73) hx hb dX5_heaviestRound_65 (by decide) (fun hc22 => ?_) (fun hc22 => ?_)
          · replace hf := ite_t hf hc22
            refine lv_iload_n hx hb dX5_heaviestRound_73 rfl (lv_at hl 3 rfl) ?_
            refine lv_istore_n (lv' := [(2, .int v2), (4, .int x17), (0, .ref aT), (1, .int v1), (3, .int v3)]) hx hb dX5_heaviestRound_74 rfl hl (by decide) rfl (fun ls hl => ?_)
            refine lv_iinc (v := v3 + 1) (lv' := [(3, .int (v3 + 1)), (2, .int v2), (4, .int x17), (0, .ref aT), (1, .int v1)]) hx hb dX5_heaviestRound_75 hl (k := 4) rfl rfl (by decide) rfl (fun ls hl => ?_)
            refine lv_goto (tgt := 23) hx hb dX5_heaviestRound_78 (by decide) ?_
            exact ih v2 (v3 + 1) A_best_18 A_froms_19 A_tos_20 A_counts_21 hf _ _ _ hv (lv_sub hl [3, 4, 1, 0] rfl) hκ
          · replace hf := ite_f hf hc22
            refine lv_iload hx hb dX5_heaviestRound_68 (lv_at hl 0 rfl) ?_
            refine lv_goto (tgt := 74) hx hb dX5_heaviestRound_70 (by decide) ?_
            refine lv_istore_n (lv' := [(2, .int x17), (4, .int x17), (0, .ref aT), (1, .int v1), (3, .int v3)]) hx hb dX5_heaviestRound_74 rfl hl (by decide) rfl (fun ls hl => ?_)
            refine lv_iinc (v := v3 + 1) (lv' := [(3, .int (v3 + 1)), (2, .int x17), (4, .int x17), (0, .ref aT), (1, .int v1)]) hx hb dX5_heaviestRound_75 hl (k := 4) rfl rfl (by decide) rfl (fun ls hl => ?_)
            refine lv_goto (tgt := 23) hx hb dX5_heaviestRound_78 (by decide) ?_
            exact ih x17 (v3 + 1) A_best_18 A_froms_19 A_tos_20 A_counts_21 hf _ _ _ hv (lv_sub hl [3, 4, 1, 0] rfl) hκ
        refine xj_elim hf (fun j59_23 ej59_23 hf => ?_)
        have J59_23 : ∀ (u : Unit), j59_23 u = some (r, wf_thrown, wA_best, wA_froms, wA_tos, wA_counts) → ∀ (H : Heap) (locs : List Loc) (ls : Array Slot), Hv s H locs G cy A [(aT, .inr (5, [.int f_thrown, .int f_many, .ref aT_begins, .ref aT_ends, .ref aT_weights, .ref aT_isThere, .ref aT_rooms, .int f_factor, .ref aT_isOffered, .ref aT_isAccepted, .int f_dropped, .ref aT_best, .ref aT_order, .ref aT_froms, .ref aT_tos, .ref aT_counts, .ref aT_points, .ref aT_flows, .ref aT_isUsed, .ref aT_gains, .ref aT_ways, .int f_pointMany])), (aT_begins, .inl (cy.1, 40, .inl A_begins)), (aT_ends, .inl (cy.1, 40, .inl A_ends)), (aT_weights, .inl (cy.1, 40, .inl A_weights)), (aT_isThere, .inl (cy.2.1, 40, .inl A_isThere)), (aT_best, .inl (cy.1, 1001, .inl A_best)), (aT_froms, .inl (cy.1, 40, .inl A_froms)), (aT_tos, .inl (cy.1, 40, .inl A_tos)), (aT_counts, .inl (cy.2.1, 40, .inl A_counts))] → lv_has ls 5 [(0, .ref aT), (1, .int v1), (2, .int v2), (3, .int v3)] → W p l e rm_X5_heaviestRound s m args below meth c H locs 0 0 Q (F0 m 59 ls []) := by
          intro u hf H locs ls hv hl
          rw [ej59_23] at hf
          try dsimp only at hf
          refine lv_iconst (v := 0) hx hb dX5_heaviestRound_59 (by decide) ?_
          exact J60_16 0 A_best A_froms A_tos A_counts hf _ _ _ hv (lv_sub hl [0, 1, 2, 3] rfl)
        refine lv_if_eq (tgt := 59) hx hb dX5_heaviestRound_37 (by decide) (fun hc15 => ?_) (fun hc15 => ?_)
        · replace hf := ite_t hf hc15
          exact J59_23 () hf _ _ _ hv (lv_sub hl [0, 1, 2, 3] rfl)
        · replace hf := ite_f hf hc15
          refine lv_aload_n hx hb dX5_heaviestRound_40 rfl (lv_at hl 0 rfl) ?_
          refine lv_iload_n hx hb dX5_heaviestRound_41 rfl (lv_at hl 3 rfl) ?_
          refine lv_iconst (v := 0) hx hb dX5_heaviestRound_42 (by decide) ?_
          refine lv_iload_n hx hb dX5_heaviestRound_43 rfl (lv_at hl 1 rfl) ?_
          obtain ⟨r24, hcl25, hf⟩ := xb_some hf
          refine kV_i (r := r24) (wr := [(aT_weights, .inl (cy.1, 40, .inl A_weights)), (aT_isThere, .inl (cy.2.1, 40, .inl A_isThere)), (aT_best, .inl (cy.1, 1001, .inl A_best)), (aT_froms, .inl (cy.1, 40, .inl A_froms)), (aT_tos, .inl (cy.1, 40, .inl A_tos)), (aT_counts, .inl (cy.2.1, 40, .inl A_counts))]) (w2 := [(aT, .inr (5, [.int f_thrown, .int f_many, .ref aT_begins, .ref aT_ends, .ref aT_weights, .ref aT_isThere, .ref aT_rooms, .int f_factor, .ref aT_isOffered, .ref aT_isAccepted, .int f_dropped, .ref aT_best, .ref aT_order, .ref aT_froms, .ref aT_tos, .ref aT_counts, .ref aT_points, .ref aT_flows, .ref aT_isUsed, .ref aT_gains, .ref aT_ways, .int f_pointMany])), (aT_begins, .inl (cy.1, 40, .inl A_begins)), (aT_ends, .inl (cy.1, 40, .inl A_ends)), (aT_weights, .inl (cy.1, 40, .inl A_weights)), (aT_isThere, .inl (cy.2.1, 40, .inl A_isThere)), (aT_best, .inl (cy.1, 1001, .inl A_best)), (aT_froms, .inl (cy.1, 40, .inl A_froms)), (aT_tos, .inl (cy.1, 40, .inl A_tos)), (aT_counts, .inl (cy.2.1, 40, .inl A_counts))]) ⟨hx, hb, hml, hown, hts⟩ (c_X5_takes l G cy k aT aT_begins aT_ends aT_weights aT_isThere aT_rooms aT_isOffered aT_isAccepted aT_best aT_order aT_froms aT_tos aT_counts aT_points aT_flows aT_isUsed aT_gains aT_ways f_thrown f_many f_factor f_dropped f_pointMany A_begins A_ends v3 0 v1 hcl25) (cwV 3 hts gX5_heaviestRound_X5_takes rfl rfl rfl (by decide +kernel) ⟨Nat.le_of_ble_eq_true rfl, Nat.le_of_ble_eq_true rfl⟩) hv (isC := [0, 1, 2]) ⟨rfl, rfl⟩ (hv.recv 5 0 rfl rfl) [3, 4, 5, 6, 7, 8] [6, 7, 8, 0, 1, 2, 3, 4, 5] rfl rfl (by decide) rfl rfl rfl hl.1 rfl (Nat.le_of_ble_eq_true rfl) dX5_heaviestRound_44 ⟨Nat.le_of_ble_eq_true rfl, Nat.le_of_ble_eq_true rfl⟩ (fun H locs hv => ?_)
          refine lv_if_eq (tgt := 59) hx hb dX5_heaviestRound_47 (by decide) (fun hc26 => ?_) (fun hc26 => ?_)
          · replace hf := ite_t hf hc26
            exact J59_23 () hf _ _ _ hv (lv_sub hl [0, 1, 2, 3] rfl)
          · replace hf := ite_f hf hc26
            refine lv_aload_n hx hb dX5_heaviestRound_50 rfl (lv_at hl 0 rfl) ?_
            refine lv_iload_n hx hb dX5_heaviestRound_51 rfl (lv_at hl 3 rfl) ?_
            refine lv_iload_n hx hb dX5_heaviestRound_52 rfl (lv_at hl 1 rfl) ?_
            obtain ⟨⟨r27, A_best_28, A_froms_29, A_tos_30, A_counts_31⟩, hcl32, hf⟩ := xb_some hf
            dsimp only at hf
            refine kV_i (r := r27) (wr := []) (w2 := [(aT, .inr (5, [.int f_thrown, .int f_many, .ref aT_begins, .ref aT_ends, .ref aT_weights, .ref aT_isThere, .ref aT_rooms, .int f_factor, .ref aT_isOffered, .ref aT_isAccepted, .int f_dropped, .ref aT_best, .ref aT_order, .ref aT_froms, .ref aT_tos, .ref aT_counts, .ref aT_points, .ref aT_flows, .ref aT_isUsed, .ref aT_gains, .ref aT_ways, .int f_pointMany])), (aT_begins, .inl (cy.1, 40, .inl A_begins)), (aT_ends, .inl (cy.1, 40, .inl A_ends)), (aT_weights, .inl (cy.1, 40, .inl A_weights)), (aT_isThere, .inl (cy.2.1, 40, .inl A_isThere)), (aT_best, .inl (cy.1, 1001, .inl A_best_28)), (aT_froms, .inl (cy.1, 40, .inl A_froms_29)), (aT_tos, .inl (cy.1, 40, .inl A_tos_30)), (aT_counts, .inl (cy.2.1, 40, .inl A_counts_31))]) ⟨hx, hb, hml, hown, hts⟩ (c_X5_planBeside l G cy k aT aT_begins aT_ends aT_weights aT_isThere aT_rooms aT_isOffered aT_isAccepted aT_best aT_order aT_froms aT_tos aT_counts aT_points aT_flows aT_isUsed aT_gains aT_ways f_thrown f_many f_factor f_dropped f_pointMany A_begins A_ends A_weights A_isThere A_best A_froms A_tos A_counts v3 v1 hcl32) (cwV 2 hts gX5_heaviestRound_X5_planBeside rfl rfl rfl (by decide +kernel) ⟨Nat.le_of_ble_eq_true rfl, Nat.le_of_ble_eq_true rfl⟩) hv (isC := [0, 1, 2, 3, 4, 5, 6, 7, 8]) ⟨rfl, rfl⟩ (hv.recv 5 0 rfl rfl) [] [0, 1, 2, 3, 4, 5, 6, 7, 8] rfl rfl (by decide) rfl rfl rfl hl.1 rfl (Nat.le_of_ble_eq_true rfl) dX5_heaviestRound_53 ⟨Nat.le_of_ble_eq_true rfl, Nat.le_of_ble_eq_true rfl⟩ (fun H locs hv => ?_)
            refine lv_goto (tgt := 60) hx hb dX5_heaviestRound_56 (by decide) ?_
            exact J60_16 r27 A_best_28 A_froms_29 A_tos_30 A_counts_31 hf _ _ _ hv (lv_sub hl [0, 1, 2, 3] rfl)
  unfold f_X5_heaviestRound at hf
  refine lv_aload_n hx hb dX5_heaviestRound_0 rfl (lv_at hl 0 rfl) ?_
  refine lv_aload_n hx hb dX5_heaviestRound_1 rfl (lv_at hl 0 rfl) ?_
  refine lv_iload_n hx hb dX5_heaviestRound_2 rfl (lv_at hl 1 rfl) ?_
  obtain ⟨r1, hcl2, hf⟩ := xb_some hf
  refine kV_i (r := r1) (wr := [(aT_weights, .inl (cy.1, 40, .inl A_weights)), (aT_best, .inl (cy.1, 1001, .inl A_best)), (aT_froms, .inl (cy.1, 40, .inl A_froms)), (aT_tos, .inl (cy.1, 40, .inl A_tos)), (aT_counts, .inl (cy.2.1, 40, .inl A_counts))]) (w2 := [(aT, .inr (5, [.int f_thrown, .int f_many, .ref aT_begins, .ref aT_ends, .ref aT_weights, .ref aT_isThere, .ref aT_rooms, .int f_factor, .ref aT_isOffered, .ref aT_isAccepted, .int f_dropped, .ref aT_best, .ref aT_order, .ref aT_froms, .ref aT_tos, .ref aT_counts, .ref aT_points, .ref aT_flows, .ref aT_isUsed, .ref aT_gains, .ref aT_ways, .int f_pointMany])), (aT_begins, .inl (cy.1, 40, .inl A_begins)), (aT_ends, .inl (cy.1, 40, .inl A_ends)), (aT_weights, .inl (cy.1, 40, .inl A_weights)), (aT_isThere, .inl (cy.2.1, 40, .inl A_isThere)), (aT_best, .inl (cy.1, 1001, .inl A_best)), (aT_froms, .inl (cy.1, 40, .inl A_froms)), (aT_tos, .inl (cy.1, 40, .inl A_tos)), (aT_counts, .inl (cy.2.1, 40, .inl A_counts))]) ⟨hx, hb, hml, hown, hts⟩ (c_X5_faultRound l G cy k aT aT_begins aT_ends aT_weights aT_isThere aT_rooms aT_isOffered aT_isAccepted aT_best aT_order aT_froms aT_tos aT_counts aT_points aT_flows aT_isUsed aT_gains aT_ways f_thrown f_many f_factor f_dropped f_pointMany A_begins A_ends A_isThere p1 hcl2) (cwV 1 hts gX5_heaviestRound_X5_faultRound rfl rfl rfl (by decide +kernel) ⟨Nat.le_of_ble_eq_true rfl, Nat.le_of_ble_eq_true rfl⟩) hv (isC := [0, 1, 2, 4]) ⟨rfl, rfl⟩ (hv.recv 5 0 rfl rfl) [3, 5, 6, 7, 8] [5, 6, 7, 0, 8, 1, 2, 3, 4] rfl rfl (by decide) rfl rfl rfl hl.1 rfl (Nat.le_of_ble_eq_true rfl) dX5_heaviestRound_3 ⟨Nat.le_of_ble_eq_true rfl, Nat.le_of_ble_eq_true rfl⟩ (fun H locs hv => ?_)
  obtain ⟨⟨r3, f_thrown_4⟩, hcl5, hf⟩ := xb_some hf
  dsimp only at hf
  refine kV_i (r := r3) (wr := [(aT_begins, .inl (cy.1, 40, .inl A_begins)), (aT_ends, .inl (cy.1, 40, .inl A_ends)), (aT_weights, .inl (cy.1, 40, .inl A_weights)), (aT_isThere, .inl (cy.2.1, 40, .inl A_isThere)), (aT_best, .inl (cy.1, 1001, .inl A_best)), (aT_froms, .inl (cy.1, 40, .inl A_froms)), (aT_tos, .inl (cy.1, 40, .inl A_tos)), (aT_counts, .inl (cy.2.1, 40, .inl A_counts))]) (w2 := [(aT, .inr (5, [.int f_thrown_4, .int f_many, .ref aT_begins, .ref aT_ends, .ref aT_weights, .ref aT_isThere, .ref aT_rooms, .int f_factor, .ref aT_isOffered, .ref aT_isAccepted, .int f_dropped, .ref aT_best, .ref aT_order, .ref aT_froms, .ref aT_tos, .ref aT_counts, .ref aT_points, .ref aT_flows, .ref aT_isUsed, .ref aT_gains, .ref aT_ways, .int f_pointMany])), (aT_begins, .inl (cy.1, 40, .inl A_begins)), (aT_ends, .inl (cy.1, 40, .inl A_ends)), (aT_weights, .inl (cy.1, 40, .inl A_weights)), (aT_isThere, .inl (cy.2.1, 40, .inl A_isThere)), (aT_best, .inl (cy.1, 1001, .inl A_best)), (aT_froms, .inl (cy.1, 40, .inl A_froms)), (aT_tos, .inl (cy.1, 40, .inl A_tos)), (aT_counts, .inl (cy.2.1, 40, .inl A_counts))]) ⟨hx, hb, hml, hown, hts⟩ (c_X5_goesWell l G cy k aT aT_begins aT_ends aT_weights aT_isThere aT_rooms aT_isOffered aT_isAccepted aT_best aT_order aT_froms aT_tos aT_counts aT_points aT_flows aT_isUsed aT_gains aT_ways f_thrown f_many f_factor f_dropped f_pointMany r1 hcl5) (cwV 1 hts gX5_heaviestRound_X5_goesWell rfl rfl rfl (by decide +kernel) ⟨Nat.le_of_ble_eq_true rfl, Nat.le_of_ble_eq_true rfl⟩) hv (isC := [0]) ⟨rfl, rfl⟩ (hv.recv 5 0 rfl rfl) [1, 2, 3, 4, 5, 6, 7, 8] [8, 0, 1, 2, 3, 4, 5, 6, 7] rfl rfl (by decide) rfl rfl rfl hl.1 rfl (Nat.le_of_ble_eq_true rfl) dX5_heaviestRound_6 ⟨Nat.le_of_ble_eq_true rfl, Nat.le_of_ble_eq_true rfl⟩ (fun H locs hv => ?_)
  refine lv_if_ne (tgt := 14) hx hb dX5_heaviestRound_9 (by decide) (fun hc6 => ?_) (fun hc6 => ?_)
  · replace hf := ite_f hf hc6
    refine lv_aload_n hx hb dX5_heaviestRound_14 rfl (lv_at hl 0 rfl) ?_
    refine lv_iconst (v := (-1)) hx hb dX5_heaviestRound_15 (by decide) ?_
    refine lv_iload_n hx hb dX5_heaviestRound_16 rfl (lv_at hl 1 rfl) ?_
    obtain ⟨⟨r7, A_best_8, A_froms_9, A_tos_10, A_counts_11⟩, hcl12, hf⟩ := xb_some hf
    dsimp only at hf
    refine kV_i (r := r7) (wr := []) (w2 := [(aT, .inr (5, [.int f_thrown_4, .int f_many, .ref aT_begins, .ref aT_ends, .ref aT_weights, .ref aT_isThere, .ref aT_rooms, .int f_factor, .ref aT_isOffered, .ref aT_isAccepted, .int f_dropped, .ref aT_best, .ref aT_order, .ref aT_froms, .ref aT_tos, .ref aT_counts, .ref aT_points, .ref aT_flows, .ref aT_isUsed, .ref aT_gains, .ref aT_ways, .int f_pointMany])), (aT_begins, .inl (cy.1, 40, .inl A_begins)), (aT_ends, .inl (cy.1, 40, .inl A_ends)), (aT_weights, .inl (cy.1, 40, .inl A_weights)), (aT_isThere, .inl (cy.2.1, 40, .inl A_isThere)), (aT_best, .inl (cy.1, 1001, .inl A_best_8)), (aT_froms, .inl (cy.1, 40, .inl A_froms_9)), (aT_tos, .inl (cy.1, 40, .inl A_tos_10)), (aT_counts, .inl (cy.2.1, 40, .inl A_counts_11))]) ⟨hx, hb, hml, hown, hts⟩ (c_X5_planBeside l G cy k aT aT_begins aT_ends aT_weights aT_isThere aT_rooms aT_isOffered aT_isAccepted aT_best aT_order aT_froms aT_tos aT_counts aT_points aT_flows aT_isUsed aT_gains aT_ways f_thrown_4 f_many f_factor f_dropped f_pointMany A_begins A_ends A_weights A_isThere A_best A_froms A_tos A_counts (-1) p1 hcl12) (cwV 2 hts gX5_heaviestRound_X5_planBeside rfl rfl rfl (by decide +kernel) ⟨Nat.le_of_ble_eq_true rfl, Nat.le_of_ble_eq_true rfl⟩) hv (isC := [0, 1, 2, 3, 4, 5, 6, 7, 8]) ⟨rfl, rfl⟩ (hv.recv 5 0 rfl rfl) [] [0, 1, 2, 3, 4, 5, 6, 7, 8] rfl rfl (by decide) rfl rfl rfl hl.1 rfl (Nat.le_of_ble_eq_true rfl) dX5_heaviestRound_17 ⟨Nat.le_of_ble_eq_true rfl, Nat.le_of_ble_eq_true rfl⟩ (fun H locs hv => ?_)
    refine lv_istore_n (lv' := [(2, .int r7), (0, .ref aT), (1, .int p1)]) hx hb dX5_heaviestRound_20 rfl hl (by decide) rfl (fun ls hl => ?_)
    refine lv_iconst (v := 0) hx hb dX5_heaviestRound_21 (by decide) ?_
    refine lv_istore_n (lv' := [(3, .int 0), (2, .int r7), (0, .ref aT), (1, .int p1)]) hx hb dX5_heaviestRound_22 rfl hl (by decide) rfl (fun ls hl => ?_)
    refine L23 _ _ _ _ _ _ _ _ _ _ hf _ _ _ hv (lv_sub hl [2, 3, 1, 0] rfl) (fun v2_33 v3_34 A_best_35 A_froms_36 A_tos_37 A_counts_38 hf H locs ls hv hl => ?_)
    try dsimp only at hf
    refine lv_iload_n hx hb dX5_heaviestRound_81 rfl (lv_at hl 0 rfl) ?_
    cases hf
    exact kret _ _ _ _ hv dX5_heaviestRound_82
  · replace hf := ite_t hf hc6
    refine lv_iconst (v := 0) hx hb dX5_heaviestRound_12 (by decide) ?_
    cases hf
    exact kret _ _ _ _ hv dX5_heaviestRound_13

def f_X5_intervals (k : Nat) (f_thrown : Int32) (f_many : Int32) (A_isThere : Nat → Int32) : Option (Int32 × Int32) := xb (f_X5_count k f_many A_isThere) (fun r1 => some (r1, 0))
abbrev rm_X5_intervals : Room := { frames := 1, cells := 0, slots := 0, locals := 22 }
set_option maxHeartbeats 4000000 in
set_option maxRecDepth 100000 in
theorem c_X5_intervals (l : Launch) (G : va_G) (cy : ClassId × ClassId × ClassId) (k : Nat) (aT aT_begins aT_ends aT_weights aT_isThere aT_rooms aT_isOffered aT_isAccepted aT_best aT_order aT_froms aT_tos aT_counts aT_points aT_flows aT_isUsed aT_gains aT_ways : Nat) (f_thrown : Int32) (f_many : Int32) (f_factor : Int32) (f_dropped : Int32) (f_pointMany : Int32) (A_isThere : Nat → Int32) {r : Int32} {wf_thrown : Int32} (hf : f_X5_intervals k f_thrown f_many A_isThere = some (r, wf_thrown)) : Ci l yX5_intervals wsX5_intervals rm_X5_intervals 0 0 G cy [.ref aT] [(aT, .inr (5, [.int f_thrown, .int f_many, .ref aT_begins, .ref aT_ends, .ref aT_weights, .ref aT_isThere, .ref aT_rooms, .int f_factor, .ref aT_isOffered, .ref aT_isAccepted, .int f_dropped, .ref aT_best, .ref aT_order, .ref aT_froms, .ref aT_tos, .ref aT_counts, .ref aT_points, .ref aT_flows, .ref aT_isUsed, .ref aT_gains, .ref aT_ways, .int f_pointMany])), (aT_isThere, .inl (cy.2.1, 40, .inl A_isThere))] [(aT, .inr (5, [.int wf_thrown, .int f_many, .ref aT_begins, .ref aT_ends, .ref aT_weights, .ref aT_isThere, .ref aT_rooms, .int f_factor, .ref aT_isOffered, .ref aT_isAccepted, .int f_dropped, .ref aT_best, .ref aT_order, .ref aT_froms, .ref aT_tos, .ref aT_counts, .ref aT_points, .ref aT_flows, .ref aT_isUsed, .ref aT_gains, .ref aT_ways, .int f_pointMany])), (aT_isThere, .inl (cy.2.1, 40, .inl A_isThere))] r := by
  refine kMetI (cc := cX5_intervals) (maxL := 1) (by decide) rfl (Nat.le_of_ble_eq_true rfl) ?_
  intro p e s m args below meth c Q A ls hx hb hml hts hown hv hl kret
  replace hown : s.vm.findClass RX5 = some m.cls := hown
  replace hl : lv_has ls 1 [(0, .ref aT)] := hl
  have hk66 : (Cond.fieldLink RX5 66 "RoomcolourModel" "thrown" "I").before args s = true := hts _ (by decide +kernel)
  have hinX5 : ∀ w ∈ wsX50, w ∈ wsX5_intervals := by decide +kernel
  unfold f_X5_intervals at hf
  refine lv_aload_n hx hb dX5_intervals_0 rfl (lv_at hl 0 rfl) ?_
  refine lv_iconst (v := 0) hx hb dX5_intervals_1 (by decide) ?_
  refine kPut (v := .int 0) (ty := .int) (C := RX5) (T := TX5) (N := 22) hx hb hts hinX5 tyX5 tyX5_ok nmX5 hown hv 0 rfl rfl 0 (by decide) hk66 (fun _ h9 => h9) rfl (by decide +kernel) rfl rfl (Nat.le_of_ble_eq_true rfl) dX5_intervals_2 (fun H locs hv => ?_)
  replace hv : Hv s H locs G cy A [(aT, .inr (5, [.int 0, .int f_many, .ref aT_begins, .ref aT_ends, .ref aT_weights, .ref aT_isThere, .ref aT_rooms, .int f_factor, .ref aT_isOffered, .ref aT_isAccepted, .int f_dropped, .ref aT_best, .ref aT_order, .ref aT_froms, .ref aT_tos, .ref aT_counts, .ref aT_points, .ref aT_flows, .ref aT_isUsed, .ref aT_gains, .ref aT_ways, .int f_pointMany])), (aT_isThere, .inl (cy.2.1, 40, .inl A_isThere))] := hv
  refine lv_aload_n hx hb dX5_intervals_5 rfl (lv_at hl 0 rfl) ?_
  obtain ⟨r1, hcl2, hf⟩ := xb_some hf
  refine kV_i (r := r1) (wr := []) (w2 := [(aT, .inr (5, [.int 0, .int f_many, .ref aT_begins, .ref aT_ends, .ref aT_weights, .ref aT_isThere, .ref aT_rooms, .int f_factor, .ref aT_isOffered, .ref aT_isAccepted, .int f_dropped, .ref aT_best, .ref aT_order, .ref aT_froms, .ref aT_tos, .ref aT_counts, .ref aT_points, .ref aT_flows, .ref aT_isUsed, .ref aT_gains, .ref aT_ways, .int f_pointMany])), (aT_isThere, .inl (cy.2.1, 40, .inl A_isThere))]) ⟨hx, hb, hml, hown, hts⟩ (c_X5_count l G cy k aT aT_begins aT_ends aT_weights aT_isThere aT_rooms aT_isOffered aT_isAccepted aT_best aT_order aT_froms aT_tos aT_counts aT_points aT_flows aT_isUsed aT_gains aT_ways 0 f_many f_factor f_dropped f_pointMany A_isThere hcl2) (cwV 0 hts gX5_intervals_X5_count rfl rfl rfl (by decide +kernel) ⟨Nat.le_of_ble_eq_true rfl, Nat.le_of_ble_eq_true rfl⟩) hv (isC := [0, 1]) ⟨rfl, rfl⟩ (hv.recv 5 0 rfl rfl) [] [0, 1] rfl rfl (by decide) rfl rfl rfl hl.1 rfl (Nat.le_of_ble_eq_true rfl) dX5_intervals_6 ⟨Nat.le_of_ble_eq_true rfl, Nat.le_of_ble_eq_true rfl⟩ (fun H locs hv => ?_)
  cases hf
  exact kret _ _ _ _ hv dX5_intervals_9

def f_X5_is (k : Nat) (p1 : Int32) (f_many : Int32) (A_isThere : Nat → Int32) : Option (Int32) := xb (f_X5_in k p1 0 (f_many - 1)) (fun r1 => if r1 = 0 then some 0 else xi p1 40 (if (A_isThere p1.toNatClampNeg) = 0 then some 0 else some 1))
abbrev rm_X5_is : Room := { frames := 1, cells := 0, slots := 0, locals := 22 }
set_option maxHeartbeats 4000000 in
set_option maxRecDepth 100000 in
theorem c_X5_is (l : Launch) (G : va_G) (cy : ClassId × ClassId × ClassId) (k : Nat) (aT aT_begins aT_ends aT_weights aT_isThere aT_rooms aT_isOffered aT_isAccepted aT_best aT_order aT_froms aT_tos aT_counts aT_points aT_flows aT_isUsed aT_gains aT_ways : Nat) (f_thrown : Int32) (f_many : Int32) (f_factor : Int32) (f_dropped : Int32) (f_pointMany : Int32) (A_isThere : Nat → Int32) (p1 : Int32) {r : Int32} (hf : f_X5_is k p1 f_many A_isThere = some r) : Ci l yX5_is wsX5_is rm_X5_is 0 0 G cy [.ref aT, .int p1] [(aT, .inr (5, [.int f_thrown, .int f_many, .ref aT_begins, .ref aT_ends, .ref aT_weights, .ref aT_isThere, .ref aT_rooms, .int f_factor, .ref aT_isOffered, .ref aT_isAccepted, .int f_dropped, .ref aT_best, .ref aT_order, .ref aT_froms, .ref aT_tos, .ref aT_counts, .ref aT_points, .ref aT_flows, .ref aT_isUsed, .ref aT_gains, .ref aT_ways, .int f_pointMany])), (aT_isThere, .inl (cy.2.1, 40, .inl A_isThere))] [(aT, .inr (5, [.int f_thrown, .int f_many, .ref aT_begins, .ref aT_ends, .ref aT_weights, .ref aT_isThere, .ref aT_rooms, .int f_factor, .ref aT_isOffered, .ref aT_isAccepted, .int f_dropped, .ref aT_best, .ref aT_order, .ref aT_froms, .ref aT_tos, .ref aT_counts, .ref aT_points, .ref aT_flows, .ref aT_isUsed, .ref aT_gains, .ref aT_ways, .int f_pointMany])), (aT_isThere, .inl (cy.2.1, 40, .inl A_isThere))] r := by
  refine kMetZ (cc := cX5_is) (maxL := 2) (by decide) rfl (Nat.le_of_ble_eq_true rfl) ?_
  intro p e s m args below meth c Q A ls hx hb hml hts hown hv hl kret
  replace hown : s.vm.findClass RX5 = some m.cls := hown
  replace hl : lv_has ls 2 [(0, .ref aT), (1, .int p1)] := hl
  have hk69 : (Cond.fieldLink RX5 69 "RoomcolourModel" "many" "I").before args s = true := hts _ (by decide +kernel)
  have hinX5 : ∀ w ∈ wsX50, w ∈ wsX5_is := by decide +kernel
  have hk19 : (Cond.fieldLink RX5 19 "RoomcolourModel" "isThere" "[Z").before args s = true := hts _ (by decide +kernel)
  unfold f_X5_is at hf
  refine lv_iload_n hx hb dX5_is_0 rfl (lv_at hl 1 rfl) ?_
  refine lv_iconst (v := 0) hx hb dX5_is_1 (by decide) ?_
  refine lv_aload_n hx hb dX5_is_2 rfl (lv_at hl 0 rfl) ?_
  refine kGet (v := .int f_many) (C := RX5) (T := TX5) (N := 22) hx hb hts hinX5 hown hv 0 rfl rfl 1 (by decide) hk69 (fun _ h9 => h9) rfl dX5_is_3 ?_
  refine lv_iconst (v := 1) hx hb dX5_is_6 (by decide) ?_
  refine lv_isub hx hb dX5_is_7 ?_
  obtain ⟨r1, hcl2, hf⟩ := xb_some hf
  refine kS_i (r := r1) ⟨hx, hb, hml, hown, hts⟩ (c_X5_in l G cy k p1 0 (f_many - 1) hcl2) (va_cwS 3 hts gX5_is_X5_in rfl rfl rfl (by decide +kernel) ⟨Nat.le_of_ble_eq_true rfl, Nat.le_of_ble_eq_true rfl⟩) hv rfl hl.1 rfl (Nat.le_of_ble_eq_true rfl) dX5_is_8 ⟨Nat.le_of_ble_eq_true rfl, Nat.le_of_ble_eq_true rfl⟩ (fun H locs hv => ?_)
  refine lv_if_eq (tgt := 27) hx hb dX5_is_11 (by decide) (fun hc3 => ?_) (fun hc3 => ?_)
  · replace hf := ite_t hf hc3
    refine lv_iconst (v := 0) hx hb dX5_is_27 (by decide) ?_
    cases hf
    exact kret _ _ _ _ hv dX5_is_28 rfl
  · replace hf := ite_f hf hc3
    refine lv_aload_n hx hb dX5_is_14 rfl (lv_at hl 0 rfl) ?_
    refine kGet (v := .ref aT_isThere) (C := RX5) (T := TX5) (N := 22) hx hb hts hinX5 hown hv 0 rfl rfl 5 (by decide) hk19 (fun _ h9 => h9) rfl dX5_is_15 ?_
    refine lv_iload_n hx hb dX5_is_18 rfl (lv_at hl 1 rfl) ?_
    obtain ⟨hi4, hf⟩ := xi_some hf
    refine kZald hx hb hv 1 rfl hi4 dX5_is_19 ?_
    refine lv_if_eq (tgt := 27) hx hb dX5_is_20 (by decide) (fun hc5 => ?_) (fun hc5 => ?_)
    · replace hf := ite_t hf hc5
      refine lv_iconst (v := 0) hx hb dX5_is_27 (by decide) ?_
      cases hf
      exact kret _ _ _ _ hv dX5_is_28 rfl
    · replace hf := ite_f hf hc5
      refine lv_iconst (v := 1) hx hb dX5_is_23 (by decide) ?_
      refine lv_goto (tgt := 28) hx hb dX5_is_24 (by decide) ?_
      cases hf
      exact kret _ _ _ _ hv dX5_is_28 rfl

def f_X5_overlap (k : Nat) (p1 : Int32) (p2 : Int32) (A_begins : Nat → Int32) (A_ends : Nat → Int32) : Option (Int32) := xi p1 40 (xi p2 40 (if (A_ends p2.toNatClampNeg) ≤ (A_begins p1.toNatClampNeg) then some 0 else xi p2 40 (xi p1 40 (if (A_ends p1.toNatClampNeg) ≤ (A_begins p2.toNatClampNeg) then some 0 else some 1))))
abbrev rm_X5_overlap : Room := { frames := 0, cells := 0, slots := 0, locals := 0 }
set_option maxHeartbeats 4000000 in
set_option maxRecDepth 100000 in
theorem c_X5_overlap (l : Launch) (G : va_G) (cy : ClassId × ClassId × ClassId) (k : Nat) (aT aT_begins aT_ends aT_weights aT_isThere aT_rooms aT_isOffered aT_isAccepted aT_best aT_order aT_froms aT_tos aT_counts aT_points aT_flows aT_isUsed aT_gains aT_ways : Nat) (f_thrown : Int32) (f_many : Int32) (f_factor : Int32) (f_dropped : Int32) (f_pointMany : Int32) (A_begins : Nat → Int32) (A_ends : Nat → Int32) (p1 : Int32) (p2 : Int32) {r : Int32} (hf : f_X5_overlap k p1 p2 A_begins A_ends = some r) : Ci l yX5_overlap wsX5_overlap rm_X5_overlap 0 0 G cy [.ref aT, .int p1, .int p2] [(aT, .inr (5, [.int f_thrown, .int f_many, .ref aT_begins, .ref aT_ends, .ref aT_weights, .ref aT_isThere, .ref aT_rooms, .int f_factor, .ref aT_isOffered, .ref aT_isAccepted, .int f_dropped, .ref aT_best, .ref aT_order, .ref aT_froms, .ref aT_tos, .ref aT_counts, .ref aT_points, .ref aT_flows, .ref aT_isUsed, .ref aT_gains, .ref aT_ways, .int f_pointMany])), (aT_begins, .inl (cy.1, 40, .inl A_begins)), (aT_ends, .inl (cy.1, 40, .inl A_ends))] [(aT, .inr (5, [.int f_thrown, .int f_many, .ref aT_begins, .ref aT_ends, .ref aT_weights, .ref aT_isThere, .ref aT_rooms, .int f_factor, .ref aT_isOffered, .ref aT_isAccepted, .int f_dropped, .ref aT_best, .ref aT_order, .ref aT_froms, .ref aT_tos, .ref aT_counts, .ref aT_points, .ref aT_flows, .ref aT_isUsed, .ref aT_gains, .ref aT_ways, .int f_pointMany])), (aT_begins, .inl (cy.1, 40, .inl A_begins)), (aT_ends, .inl (cy.1, 40, .inl A_ends))] r := by
  refine kMetZ (cc := cX5_overlap) (maxL := 3) (by decide) rfl (Nat.le_of_ble_eq_true rfl) ?_
  intro p e s m args below meth c Q A ls hx hb hml hts hown hv hl kret
  replace hown : s.vm.findClass RX5 = some m.cls := hown
  replace hl : lv_has ls 3 [(0, .ref aT), (1, .int p1), (2, .int p2)] := hl
  have hk7 : (Cond.fieldLink RX5 7 "RoomcolourModel" "begins" "[I").before args s = true := hts _ (by decide +kernel)
  have hinX5 : ∀ w ∈ wsX50, w ∈ wsX5_overlap := by decide +kernel
  have hk13 : (Cond.fieldLink RX5 13 "RoomcolourModel" "ends" "[I").before args s = true := hts _ (by decide +kernel)
  unfold f_X5_overlap at hf
  refine lv_aload_n hx hb dX5_overlap_0 rfl (lv_at hl 0 rfl) ?_
  refine kGet (v := .ref aT_begins) (C := RX5) (T := TX5) (N := 22) hx hb hts hinX5 hown hv 0 rfl rfl 2 (by decide) hk7 (fun _ h9 => h9) rfl dX5_overlap_1 ?_
  refine lv_iload_n hx hb dX5_overlap_4 rfl (lv_at hl 1 rfl) ?_
  obtain ⟨hi1, hf⟩ := xi_some hf
  refine kIald hx hb hv 1 rfl hi1 dX5_overlap_5 ?_
  refine lv_aload_n hx hb dX5_overlap_6 rfl (lv_at hl 0 rfl) ?_
  refine kGet (v := .ref aT_ends) (C := RX5) (T := TX5) (N := 22) hx hb hts hinX5 hown hv 0 rfl rfl 3 (by decide) hk13 (fun _ h9 => h9) rfl dX5_overlap_7 ?_
  refine lv_iload_n hx hb dX5_overlap_10 rfl (lv_at hl 2 rfl) ?_
  obtain ⟨hi2, hf⟩ := xi_some hf
  refine kIald hx hb hv 2 rfl hi2 dX5_overlap_11 ?_
  refine lv_icmp_ge (tgt := 34) hx hb dX5_overlap_12 (by decide) (fun hc3 => ?_) (fun hc3 => ?_)
  · replace hf := ite_t hf hc3
    refine lv_iconst (v := 0) hx hb dX5_overlap_34 (by decide) ?_
    cases hf
    exact kret _ _ _ _ hv dX5_overlap_35 rfl
  · replace hf := ite_f hf hc3
    refine lv_aload_n hx hb dX5_overlap_15 rfl (lv_at hl 0 rfl) ?_
    refine kGet (v := .ref aT_begins) (C := RX5) (T := TX5) (N := 22) hx hb hts hinX5 hown hv 0 rfl rfl 2 (by decide) hk7 (fun _ h9 => h9) rfl dX5_overlap_16 ?_
    refine lv_iload_n hx hb dX5_overlap_19 rfl (lv_at hl 2 rfl) ?_
    obtain ⟨hi4, hf⟩ := xi_some hf
    refine kIald hx hb hv 1 rfl hi4 dX5_overlap_20 ?_
    refine lv_aload_n hx hb dX5_overlap_21 rfl (lv_at hl 0 rfl) ?_
    refine kGet (v := .ref aT_ends) (C := RX5) (T := TX5) (N := 22) hx hb hts hinX5 hown hv 0 rfl rfl 3 (by decide) hk13 (fun _ h9 => h9) rfl dX5_overlap_22 ?_
    refine lv_iload_n hx hb dX5_overlap_25 rfl (lv_at hl 1 rfl) ?_
    obtain ⟨hi5, hf⟩ := xi_some hf
    refine kIald hx hb hv 2 rfl hi5 dX5_overlap_26 ?_
    refine lv_icmp_ge (tgt := 34) hx hb dX5_overlap_27 (by decide) (fun hc6 => ?_) (fun hc6 => ?_)
    · replace hf := ite_t hf hc6
      refine lv_iconst (v := 0) hx hb dX5_overlap_34 (by decide) ?_
      cases hf
      exact kret _ _ _ _ hv dX5_overlap_35 rfl
    · replace hf := ite_f hf hc6
      refine lv_iconst (v := 1) hx hb dX5_overlap_30 (by decide) ?_
      refine lv_goto (tgt := 35) hx hb dX5_overlap_31 (by decide) ?_
      cases hf
      exact kret _ _ _ _ hv dX5_overlap_35 rfl

def f_X5_isFree_L5 (k : Nat) (v1 : Int32) (v2 : Int32) (f_many : Int32) (A_begins : Nat → Int32) (A_ends : Nat → Int32) (A_isThere : Nat → Int32) (A_rooms : Nat → Int32) (κ : Int32 → Int32 → Option (Int32)) : Nat → Int32 → Int32 → Option (Int32)
  | 0, _, _ => none
  | n + 1, v3, v4 => if f_many ≤ v4 then κ v3 v4 else if v3 = 0 then f_X5_isFree_L5 k v1 v2 f_many A_begins A_ends A_isThere A_rooms κ n 0 (v4 + 1) else xi v4 40 (if (A_isThere v4.toNatClampNeg) = 0 then f_X5_isFree_L5 k v1 v2 f_many A_begins A_ends A_isThere A_rooms κ n 1 (v4 + 1) else xi v4 40 (if (A_rooms v4.toNatClampNeg) = v1 then xb (f_X5_overlap k v4 v2 A_begins A_ends) (fun r7 => if r7 = 0 then f_X5_isFree_L5 k v1 v2 f_many A_begins A_ends A_isThere A_rooms κ n 1 (v4 + 1) else f_X5_isFree_L5 k v1 v2 f_many A_begins A_ends A_isThere A_rooms κ n 0 (v4 + 1)) else f_X5_isFree_L5 k v1 v2 f_many A_begins A_ends A_isThere A_rooms κ n 1 (v4 + 1)))
theorem f_X5_isFree_L5_z (k : Nat) (v1 : Int32) (v2 : Int32) (f_many : Int32) (A_begins : Nat → Int32) (A_ends : Nat → Int32) (A_isThere : Nat → Int32) (A_rooms : Nat → Int32) (κ : Int32 → Int32 → Option (Int32)) (v3 : Int32) (v4 : Int32) : f_X5_isFree_L5 k v1 v2 f_many A_begins A_ends A_isThere A_rooms κ 0 v3 v4 = none := rfl
theorem f_X5_isFree_L5_s (k : Nat) (v1 : Int32) (v2 : Int32) (f_many : Int32) (A_begins : Nat → Int32) (A_ends : Nat → Int32) (A_isThere : Nat → Int32) (A_rooms : Nat → Int32) (κ : Int32 → Int32 → Option (Int32)) (n : Nat) (v3 : Int32) (v4 : Int32) : f_X5_isFree_L5 k v1 v2 f_many A_begins A_ends A_isThere A_rooms κ (n + 1) v3 v4 = if f_many ≤ v4 then κ v3 v4 else if v3 = 0 then f_X5_isFree_L5 k v1 v2 f_many A_begins A_ends A_isThere A_rooms κ n 0 (v4 + 1) else xi v4 40 (if (A_isThere v4.toNatClampNeg) = 0 then f_X5_isFree_L5 k v1 v2 f_many A_begins A_ends A_isThere A_rooms κ n 1 (v4 + 1) else xi v4 40 (if (A_rooms v4.toNatClampNeg) = v1 then xb (f_X5_overlap k v4 v2 A_begins A_ends) (fun r7 => if r7 = 0 then f_X5_isFree_L5 k v1 v2 f_many A_begins A_ends A_isThere A_rooms κ n 1 (v4 + 1) else f_X5_isFree_L5 k v1 v2 f_many A_begins A_ends A_isThere A_rooms κ n 0 (v4 + 1)) else f_X5_isFree_L5 k v1 v2 f_many A_begins A_ends A_isThere A_rooms κ n 1 (v4 + 1))) := rfl
def f_X5_isFree (k : Nat) (p1 : Int32) (p2 : Int32) (f_many : Int32) (A_begins : Nat → Int32) (A_ends : Nat → Int32) (A_isThere : Nat → Int32) (A_rooms : Nat → Int32) : Option (Int32) := f_X5_isFree_L5 k p1 p2 f_many A_begins A_ends A_isThere A_rooms (fun (v3_10 : Int32) (v4_11 : Int32) => xq v3_10 (some v3_10)) k 1 0
abbrev rm_X5_isFree : Room := { frames := 1, cells := 0, slots := 0, locals := 22 }
set_option maxHeartbeats 4000000 in
set_option maxRecDepth 100000 in
theorem c_X5_isFree (l : Launch) (G : va_G) (cy : ClassId × ClassId × ClassId) (k : Nat) (aT aT_begins aT_ends aT_weights aT_isThere aT_rooms aT_isOffered aT_isAccepted aT_best aT_order aT_froms aT_tos aT_counts aT_points aT_flows aT_isUsed aT_gains aT_ways : Nat) (f_thrown : Int32) (f_many : Int32) (f_factor : Int32) (f_dropped : Int32) (f_pointMany : Int32) (A_begins : Nat → Int32) (A_ends : Nat → Int32) (A_isThere : Nat → Int32) (A_rooms : Nat → Int32) (p1 : Int32) (p2 : Int32) {r : Int32} (hf : f_X5_isFree k p1 p2 f_many A_begins A_ends A_isThere A_rooms = some r) : Ci l yX5_isFree wsX5_isFree rm_X5_isFree 0 0 G cy [.ref aT, .int p1, .int p2] [(aT, .inr (5, [.int f_thrown, .int f_many, .ref aT_begins, .ref aT_ends, .ref aT_weights, .ref aT_isThere, .ref aT_rooms, .int f_factor, .ref aT_isOffered, .ref aT_isAccepted, .int f_dropped, .ref aT_best, .ref aT_order, .ref aT_froms, .ref aT_tos, .ref aT_counts, .ref aT_points, .ref aT_flows, .ref aT_isUsed, .ref aT_gains, .ref aT_ways, .int f_pointMany])), (aT_begins, .inl (cy.1, 40, .inl A_begins)), (aT_ends, .inl (cy.1, 40, .inl A_ends)), (aT_isThere, .inl (cy.2.1, 40, .inl A_isThere)), (aT_rooms, .inl (cy.1, 40, .inl A_rooms))] [(aT, .inr (5, [.int f_thrown, .int f_many, .ref aT_begins, .ref aT_ends, .ref aT_weights, .ref aT_isThere, .ref aT_rooms, .int f_factor, .ref aT_isOffered, .ref aT_isAccepted, .int f_dropped, .ref aT_best, .ref aT_order, .ref aT_froms, .ref aT_tos, .ref aT_counts, .ref aT_points, .ref aT_flows, .ref aT_isUsed, .ref aT_gains, .ref aT_ways, .int f_pointMany])), (aT_begins, .inl (cy.1, 40, .inl A_begins)), (aT_ends, .inl (cy.1, 40, .inl A_ends)), (aT_isThere, .inl (cy.2.1, 40, .inl A_isThere)), (aT_rooms, .inl (cy.1, 40, .inl A_rooms))] r := by
  refine kMetZ (cc := cX5_isFree) (maxL := 5) (by decide) rfl (Nat.le_of_ble_eq_true rfl) ?_
  intro p e s m args below meth c Q A ls hx hb hml hts hown hv hl kret
  replace hown : s.vm.findClass RX5 = some m.cls := hown
  replace hl : lv_has ls 5 [(0, .ref aT), (1, .int p1), (2, .int p2)] := hl
  have hk69 : (Cond.fieldLink RX5 69 "RoomcolourModel" "many" "I").before args s = true := hts _ (by decide +kernel)
  have hinX5 : ∀ w ∈ wsX50, w ∈ wsX5_isFree := by decide +kernel
  have hk19 : (Cond.fieldLink RX5 19 "RoomcolourModel" "isThere" "[Z").before args s = true := hts _ (by decide +kernel)
  have hk23 : (Cond.fieldLink RX5 23 "RoomcolourModel" "rooms" "[I").before args s = true := hts _ (by decide +kernel)
  have L5 : ∀ (v1 : Int32) (v2 : Int32) (κ : Int32 → Int32 → Option (Int32)) (n : Nat) (v3 : Int32) (v4 : Int32), f_X5_isFree_L5 k v1 v2 f_many A_begins A_ends A_isThere A_rooms κ n v3 v4 = some r → ∀ (H : Heap) (locs : List Loc) (ls : Array Slot), Hv s H locs G cy A [(aT, .inr (5, [.int f_thrown, .int f_many, .ref aT_begins, .ref aT_ends, .ref aT_weights, .ref aT_isThere, .ref aT_rooms, .int f_factor, .ref aT_isOffered, .ref aT_isAccepted, .int f_dropped, .ref aT_best, .ref aT_order, .ref aT_froms, .ref aT_tos, .ref aT_counts, .ref aT_points, .ref aT_flows, .ref aT_isUsed, .ref aT_gains, .ref aT_ways, .int f_pointMany])), (aT_begins, .inl (cy.1, 40, .inl A_begins)), (aT_ends, .inl (cy.1, 40, .inl A_ends)), (aT_isThere, .inl (cy.2.1, 40, .inl A_isThere)), (aT_rooms, .inl (cy.1, 40, .inl A_rooms))] → lv_has ls 5 [(0, .ref aT), (1, .int v1), (2, .int v2), (3, .int v3), (4, .int v4)] → (∀ (v3 : Int32) (v4 : Int32), κ v3 v4 = some r → ∀ (H : Heap) (locs : List Loc) (ls : Array Slot), Hv s H locs G cy A [(aT, .inr (5, [.int f_thrown, .int f_many, .ref aT_begins, .ref aT_ends, .ref aT_weights, .ref aT_isThere, .ref aT_rooms, .int f_factor, .ref aT_isOffered, .ref aT_isAccepted, .int f_dropped, .ref aT_best, .ref aT_order, .ref aT_froms, .ref aT_tos, .ref aT_counts, .ref aT_points, .ref aT_flows, .ref aT_isUsed, .ref aT_gains, .ref aT_ways, .int f_pointMany])), (aT_begins, .inl (cy.1, 40, .inl A_begins)), (aT_ends, .inl (cy.1, 40, .inl A_ends)), (aT_isThere, .inl (cy.2.1, 40, .inl A_isThere)), (aT_rooms, .inl (cy.1, 40, .inl A_rooms))] → lv_has ls 5 [(3, .int v3)] → W p l e rm_X5_isFree s m args below meth c H locs 0 0 Q (F0 m 61 ls [])) → W p l e rm_X5_isFree s m args below meth c H locs 0 0 Q (F0 m 5 ls []) := by
    intro v1 v2 κ n
    induction n with
    | zero =>
      intro v3 v4 hf
      rw [f_X5_isFree_L5_z] at hf
      cases hf
    | succ n ih =>
      intro v3 v4 hf H locs ls hv hl hκ
      rw [f_X5_isFree_L5_s] at hf
      refine lv_iload hx hb dX5_isFree_5 (lv_at hl 4 rfl) ?_
      refine lv_aload_n hx hb dX5_isFree_7 rfl (lv_at hl 0 rfl) ?_
      refine kGet (v := .int f_many) (C := RX5) (T := TX5) (N := 22) hx hb hts hinX5 hown hv 0 rfl rfl 1 (by decide) hk69 (fun _ h9 => h9) rfl dX5_isFree_8 ?_
      refine lv_icmp_ge (tgt := 61) hx hb dX5_isFree_11 (by decide) (fun hc1 => ?_) (fun hc1 => ?_)
      · replace hf := ite_t hf hc1
        exact hκ v3 v4 hf _ _ _ hv (lv_sub hl [3] rfl)
      · replace hf := ite_f hf hc1
        refine lv_iload_n hx hb dX5_isFree_14 rfl (lv_at hl 3 rfl) ?_
        refine lv_if_eq (tgt := 53) hx hb dX5_isFree_15 (by decide) (fun hc2 => ?_) (fun hc2 => ?_)
        · replace hf := ite_t hf hc2
          refine lv_iconst (v := 0) hx hb dX5_isFree_53 (by decide) ?_
          refine lv_istore_n (lv' := [(3, .int 0), (0, .ref aT), (1, .int v1), (2, .int v2), (4, .int v4)]) hx hb dX5_isFree_54 rfl hl (by decide) rfl (fun ls hl => ?_)
          refine lv_iinc (v := v4 + 1) (lv' := [(4, .int (v4 + 1)), (3, .int 0), (0, .ref aT), (1, .int v1), (2, .int v2)]) hx hb dX5_isFree_55 hl (k := 4) rfl rfl (by decide) rfl (fun ls hl => ?_)
          refine lv_goto (tgt := 5) hx hb dX5_isFree_58 (by decide) ?_
          exact ih 0 (v4 + 1) hf _ _ _ hv (lv_sub hl [2, 3, 4, 1, 0] rfl) hκ
        · replace hf := ite_f hf hc2
          refine lv_aload_n hx hb dX5_isFree_18 rfl (lv_at hl 0 rfl) ?_
          refine kGet (v := .ref aT_isThere) (C := RX5) (T := TX5) (N := 22) hx hb hts hinX5 hown hv 0 rfl rfl 5 (by decide) hk19 (fun _ h9 => h9) rfl dX5_isFree_19 ?_
          refine lv_iload hx hb dX5_isFree_22 (lv_at hl 4 rfl) ?_
          obtain ⟨hi3, hf⟩ := xi_some hf
          refine kZald hx hb hv 3 rfl hi3 dX5_isFree_24 ?_
          refine lv_if_eq (tgt := 49) hx hb dX5_isFree_25 (by decide) (fun hc4 => ?_) (fun hc4 => ?_)
          · replace hf := ite_t hf hc4
            refine lv_iconst (v := 1) hx hb dX5_isFree_49 (by decide) ?_
            refine lv_goto (tgt := 54) hx hb dX5_isFree_50 (by decide) ?_
            refine lv_istore_n (lv' := [(3, .int 1), (0, .ref aT), (1, .int v1), (2, .int v2), (4, .int v4)]) hx hb dX5_isFree_54 rfl hl (by decide) rfl (fun ls hl => ?_)
            refine lv_iinc (v := v4 + 1) (lv' := [(4, .int (v4 + 1)), (3, .int 1), (0, .ref aT), (1, .int v1), (2, .int v2)]) hx hb dX5_isFree_55 hl (k := 4) rfl rfl (by decide) rfl (fun ls hl => ?_)
            refine lv_goto (tgt := 5) hx hb dX5_isFree_58 (by decide) ?_
            exact ih 1 (v4 + 1) hf _ _ _ hv (lv_sub hl [2, 3, 4, 1, 0] rfl) hκ
          · replace hf := ite_f hf hc4
            refine lv_aload_n hx hb dX5_isFree_28 rfl (lv_at hl 0 rfl) ?_
            refine kGet (v := .ref aT_rooms) (C := RX5) (T := TX5) (N := 22) hx hb hts hinX5 hown hv 0 rfl rfl 6 (by decide) hk23 (fun _ h9 => h9) rfl dX5_isFree_29 ?_
            refine lv_iload hx hb dX5_isFree_32 (lv_at hl 4 rfl) ?_
            obtain ⟨hi5, hf⟩ := xi_some hf
            refine kIald hx hb hv 4 rfl hi5 dX5_isFree_34 ?_
            refine lv_iload_n hx hb dX5_isFree_35 rfl (lv_at hl 1 rfl) ?_
            refine lv_icmp_ne (tgt := 49) hx hb dX5_isFree_36 (by decide) (fun hc6 => ?_) (fun hc6 => ?_)
            · replace hf := ite_f hf hc6
              refine lv_iconst (v := 1) hx hb dX5_isFree_49 (by decide) ?_
              refine lv_goto (tgt := 54) hx hb dX5_isFree_50 (by decide) ?_
              refine lv_istore_n (lv' := [(3, .int 1), (0, .ref aT), (1, .int v1), (2, .int v2), (4, .int v4)]) hx hb dX5_isFree_54 rfl hl (by decide) rfl (fun ls hl => ?_)
              refine lv_iinc (v := v4 + 1) (lv' := [(4, .int (v4 + 1)), (3, .int 1), (0, .ref aT), (1, .int v1), (2, .int v2)]) hx hb dX5_isFree_55 hl (k := 4) rfl rfl (by decide) rfl (fun ls hl => ?_)
              refine lv_goto (tgt := 5) hx hb dX5_isFree_58 (by decide) ?_
              exact ih 1 (v4 + 1) hf _ _ _ hv (lv_sub hl [2, 3, 4, 1, 0] rfl) hκ
            · replace hf := ite_t hf hc6
              refine lv_aload_n hx hb dX5_isFree_39 rfl (lv_at hl 0 rfl) ?_
              refine lv_iload hx hb dX5_isFree_40 (lv_at hl 4 rfl) ?_
              refine lv_iload_n hx hb dX5_isFree_42 rfl (lv_at hl 2 rfl) ?_
              obtain ⟨r7, hcl8, hf⟩ := xb_some hf
              refine kV_i (r := r7) (wr := [(aT_isThere, .inl (cy.2.1, 40, .inl A_isThere)), (aT_rooms, .inl (cy.1, 40, .inl A_rooms))]) (w2 := [(aT, .inr (5, [.int f_thrown, .int f_many, .ref aT_begins, .ref aT_ends, .ref aT_weights, .ref aT_isThere, .ref aT_rooms, .int f_factor, .ref aT_isOffered, .ref aT_isAccepted, .int f_dropped, .ref aT_best, .ref aT_order, .ref aT_froms, .ref aT_tos, .ref aT_counts, .ref aT_points, .ref aT_flows, .ref aT_isUsed, .ref aT_gains, .ref aT_ways, .int f_pointMany])), (aT_begins, .inl (cy.1, 40, .inl A_begins)), (aT_ends, .inl (cy.1, 40, .inl A_ends)), (aT_isThere, .inl (cy.2.1, 40, .inl A_isThere)), (aT_rooms, .inl (cy.1, 40, .inl A_rooms))]) ⟨hx, hb, hml, hown, hts⟩ (c_X5_overlap l G cy k aT aT_begins aT_ends aT_weights aT_isThere aT_rooms aT_isOffered aT_isAccepted aT_best aT_order aT_froms aT_tos aT_counts aT_points aT_flows aT_isUsed aT_gains aT_ways f_thrown f_many f_factor f_dropped f_pointMany A_begins A_ends v4 v2 hcl8) (cwV 2 hts gX5_isFree_X5_overlap rfl rfl rfl (by decide +kernel) ⟨Nat.le_of_ble_eq_true rfl, Nat.le_of_ble_eq_true rfl⟩) hv (isC := [0, 1, 2]) ⟨rfl, rfl⟩ (hv.recv 5 0 rfl rfl) [3, 4] [2, 3, 4, 0, 1] rfl rfl (by decide) rfl rfl rfl hl.1 rfl (Nat.le_of_ble_eq_true rfl) dX5_isFree_43 ⟨Nat.le_of_ble_eq_true rfl, Nat.le_of_ble_eq_true rfl⟩ (fun H locs hv => ?_)
              refine lv_if_ne (tgt := 53) hx hb dX5_isFree_46 (by decide) (fun hc9 => ?_) (fun hc9 => ?_)
              · replace hf := ite_f hf hc9
                refine lv_iconst (v := 0) hx hb dX5_isFree_53 (by decide) ?_
                refine lv_istore_n (lv' := [(3, .int 0), (0, .ref aT), (1, .int v1), (2, .int v2), (4, .int v4)]) hx hb dX5_isFree_54 rfl hl (by decide) rfl (fun ls hl => ?_)
                refine lv_iinc (v := v4 + 1) (lv' := [(4, .int (v4 + 1)), (3, .int 0), (0, .ref aT), (1, .int v1), (2, .int v2)]) hx hb dX5_isFree_55 hl (k := 4) rfl rfl (by decide) rfl (fun ls hl => ?_)
                refine lv_goto (tgt := 5) hx hb dX5_isFree_58 (by decide) ?_
                exact ih 0 (v4 + 1) hf _ _ _ hv (lv_sub hl [2, 3, 4, 1, 0] rfl) hκ
              · replace hf := ite_t hf hc9
                refine lv_iconst (v := 1) hx hb dX5_isFree_49 (by decide) ?_
                refine lv_goto (tgt := 54) hx hb dX5_isFree_50 (by decide) ?_
                refine lv_istore_n (lv' := [(3, .int 1), (0, .ref aT), (1, .int v1), (2, .int v2), (4, .int v4)]) hx hb dX5_isFree_54 rfl hl (by decide) rfl (fun ls hl => ?_)
                refine lv_iinc (v := v4 + 1) (lv' := [(4, .int (v4 + 1)), (3, .int 1), (0, .ref aT), (1, .int v1), (2, .int v2)]) hx hb dX5_isFree_55 hl (k := 4) rfl rfl (by decide) rfl (fun ls hl => ?_)
                refine lv_goto (tgt := 5) hx hb dX5_isFree_58 (by decide) ?_
                exact ih 1 (v4 + 1) hf _ _ _ hv (lv_sub hl [2, 3, 4, 1, 0] rfl) hκ
  unfold f_X5_isFree at hf
  refine lv_iconst (v := 1) hx hb dX5_isFree_0 (by decide) ?_
  refine lv_istore_n (lv' := [(3, .int 1), (0, .ref aT), (1, .int p1), (2, .int p2)]) hx hb dX5_isFree_1 rfl hl (by decide) rfl (fun ls hl => ?_)
  refine lv_iconst (v := 0) hx hb dX5_isFree_2 (by decide) ?_
  refine lv_istore (lv' := [(4, .int 0), (3, .int 1), (0, .ref aT), (1, .int p1), (2, .int p2)]) hx hb dX5_isFree_3 hl (by decide) rfl (fun ls hl => ?_)
  refine L5 _ _ _ _ _ _ hf _ _ _ hv (lv_sub hl [2, 3, 4, 1, 0] rfl) (fun v3_10 v4_11 hf H locs ls hv hl => ?_)
  try dsimp only at hf
  refine lv_iload_n hx hb dX5_isFree_61 rfl (lv_at hl 0 rfl) ?_
  obtain ⟨hq9, hf⟩ := xq_some hf
  cases hf
  exact kret _ _ _ _ hv dX5_isFree_62 hq9

def f_X5_lossWithout (k : Nat) (p1 : Int32) (p2 : Int32) (f_thrown : Int32) (f_many : Int32) (f_pointMany : Int32) (A_begins : Nat → Int32) (A_ends : Nat → Int32) (A_weights : Nat → Int32) (A_isThere : Nat → Int32) (A_counts : Nat → Int32) (A_points : Nat → Int32) (A_flows : Nat → Int32) (A_isUsed : Nat → Int32) (A_gains : Nat → Int32) (A_ways : Nat → Int32) : Option (Int32 × Int32 × Int32 × (Nat → Int32) × (Nat → Int32) × (Nat → Int32) × (Nat → Int32) × (Nat → Int32) × (Nat → Int32)) := xb (f_X5_is k p1 f_many A_isThere) (fun r1 => xj (fun (x5 : Int32) => xb (f_X5_goesWell k x5 f_thrown) (fun (r6, f_thrown_7) => if r6 = 0 then some (0, f_thrown_7, f_pointMany, A_counts, A_points, A_flows, A_isUsed, A_gains, A_ways) else xb (f_X5_planIn k p2 (-1) f_many f_pointMany A_begins A_ends A_weights A_isThere A_counts A_points A_flows A_isUsed A_gains A_ways) (fun (r10, f_pointMany_11, A_counts_12, A_points_13, A_flows_14, A_isUsed_15, A_gains_16, A_ways_17) => xb (f_X5_planIn k p2 p1 f_many f_pointMany_11 A_begins A_ends A_weights A_isThere A_counts_12 A_points_13 A_flows_14 A_isUsed_15 A_gains_16 A_ways_17) (fun (r19, f_pointMany_20, A_counts_21, A_points_22, A_flows_23, A_isUsed_24, A_gains_25, A_ways_26) => some (r10 - r19, f_thrown_7, f_pointMany_20, A_counts_21, A_points_22, A_flows_23, A_isUsed_24, A_gains_25, A_ways_26))))) (fun (j28_4 : Int32 → Option (Int32 × Int32 × Int32 × (Nat → Int32) × (Nat → Int32) × (Nat → Int32) × (Nat → Int32) × (Nat → Int32) × (Nat → Int32))) => if r1 = 0 then j28_4 1 else xb (f_X5_in k p2 1 6) (fun r28 => if r28 = 0 then j28_4 2 else j28_4 0)))
abbrev rm_X5_lossWithout : Room := { frames := 3, cells := 0, slots := 0, locals := 72 }
set_option maxHeartbeats 4000000 in
set_option maxRecDepth 100000 in
theorem c_X5_lossWithout (l : Launch) (G : va_G) (cy : ClassId × ClassId × ClassId) (k : Nat) (aT aT_begins aT_ends aT_weights aT_isThere aT_rooms aT_isOffered aT_isAccepted aT_best aT_order aT_froms aT_tos aT_counts aT_points aT_flows aT_isUsed aT_gains aT_ways : Nat) (f_thrown : Int32) (f_many : Int32) (f_factor : Int32) (f_dropped : Int32) (f_pointMany : Int32) (A_begins : Nat → Int32) (A_ends : Nat → Int32) (A_weights : Nat → Int32) (A_isThere : Nat → Int32) (A_counts : Nat → Int32) (A_points : Nat → Int32) (A_flows : Nat → Int32) (A_isUsed : Nat → Int32) (A_gains : Nat → Int32) (A_ways : Nat → Int32) (p1 : Int32) (p2 : Int32) {r : Int32} {wf_thrown : Int32} {wf_pointMany : Int32} {wA_counts : Nat → Int32} {wA_points : Nat → Int32} {wA_flows : Nat → Int32} {wA_isUsed : Nat → Int32} {wA_gains : Nat → Int32} {wA_ways : Nat → Int32} (hf : f_X5_lossWithout k p1 p2 f_thrown f_many f_pointMany A_begins A_ends A_weights A_isThere A_counts A_points A_flows A_isUsed A_gains A_ways = some (r, wf_thrown, wf_pointMany, wA_counts, wA_points, wA_flows, wA_isUsed, wA_gains, wA_ways)) : Ci l yX5_lossWithout wsX5_lossWithout rm_X5_lossWithout 0 0 G cy [.ref aT, .int p1, .int p2] [(aT, .inr (5, [.int f_thrown, .int f_many, .ref aT_begins, .ref aT_ends, .ref aT_weights, .ref aT_isThere, .ref aT_rooms, .int f_factor, .ref aT_isOffered, .ref aT_isAccepted, .int f_dropped, .ref aT_best, .ref aT_order, .ref aT_froms, .ref aT_tos, .ref aT_counts, .ref aT_points, .ref aT_flows, .ref aT_isUsed, .ref aT_gains, .ref aT_ways, .int f_pointMany])), (aT_begins, .inl (cy.1, 40, .inl A_begins)), (aT_ends, .inl (cy.1, 40, .inl A_ends)), (aT_weights, .inl (cy.1, 40, .inl A_weights)), (aT_isThere, .inl (cy.2.1, 40, .inl A_isThere)), (aT_counts, .inl (cy.2.1, 40, .inl A_counts)), (aT_points, .inl (cy.1, 80, .inl A_points)), (aT_flows, .inl (cy.1, 80, .inl A_flows)), (aT_isUsed, .inl (cy.2.1, 40, .inl A_isUsed)), (aT_gains, .inl (cy.1, 80, .inl A_gains)), (aT_ways, .inl (cy.1, 80, .inl A_ways))] [(aT, .inr (5, [.int wf_thrown, .int f_many, .ref aT_begins, .ref aT_ends, .ref aT_weights, .ref aT_isThere, .ref aT_rooms, .int f_factor, .ref aT_isOffered, .ref aT_isAccepted, .int f_dropped, .ref aT_best, .ref aT_order, .ref aT_froms, .ref aT_tos, .ref aT_counts, .ref aT_points, .ref aT_flows, .ref aT_isUsed, .ref aT_gains, .ref aT_ways, .int wf_pointMany])), (aT_begins, .inl (cy.1, 40, .inl A_begins)), (aT_ends, .inl (cy.1, 40, .inl A_ends)), (aT_weights, .inl (cy.1, 40, .inl A_weights)), (aT_isThere, .inl (cy.2.1, 40, .inl A_isThere)), (aT_counts, .inl (cy.2.1, 40, .inl wA_counts)), (aT_points, .inl (cy.1, 80, .inl wA_points)), (aT_flows, .inl (cy.1, 80, .inl wA_flows)), (aT_isUsed, .inl (cy.2.1, 40, .inl wA_isUsed)), (aT_gains, .inl (cy.1, 80, .inl wA_gains)), (aT_ways, .inl (cy.1, 80, .inl wA_ways))] r := by
  refine kMetI (cc := cX5_lossWithout) (maxL := 3) (by decide) rfl (Nat.le_of_ble_eq_true rfl) ?_
  intro p e s m args below meth c Q A ls hx hb hml hts hown hv hl kret
  replace hown : s.vm.findClass RX5 = some m.cls := hown
  replace hl : lv_has ls 3 [(0, .ref aT), (1, .int p1), (2, .int p2)] := hl
  unfold f_X5_lossWithout at hf
  refine lv_aload_n hx hb dX5_lossWithout_0 rfl (lv_at hl 0 rfl) ?_
  refine lv_aload_n hx hb dX5_lossWithout_1 rfl (lv_at hl 0 rfl) ?_
  refine lv_iload_n hx hb dX5_lossWithout_2 rfl (lv_at hl 1 rfl) ?_
  obtain ⟨r1, hcl2, hf⟩ := xb_some hf
  refine kV_i (r := r1) (wr := [(aT_begins, .inl (cy.1, 40, .inl A_begins)), (aT_ends, .inl (cy.1, 40, .inl A_ends)), (aT_weights, .inl (cy.1, 40, .inl A_weights)), (aT_counts, .inl (cy.2.1, 40, .inl A_counts)), (aT_points, .inl (cy.1, 80, .inl A_points)), (aT_flows, .inl (cy.1, 80, .inl A_flows)), (aT_isUsed, .inl (cy.2.1, 40, .inl A_isUsed)), (aT_gains, .inl (cy.1, 80, .inl A_gains)), (aT_ways, .inl (cy.1, 80, .inl A_ways))]) (w2 := [(aT, .inr (5, [.int f_thrown, .int f_many, .ref aT_begins, .ref aT_ends, .ref aT_weights, .ref aT_isThere, .ref aT_rooms, .int f_factor, .ref aT_isOffered, .ref aT_isAccepted, .int f_dropped, .ref aT_best, .ref aT_order, .ref aT_froms, .ref aT_tos, .ref aT_counts, .ref aT_points, .ref aT_flows, .ref aT_isUsed, .ref aT_gains, .ref aT_ways, .int f_pointMany])), (aT_begins, .inl (cy.1, 40, .inl A_begins)), (aT_ends, .inl (cy.1, 40, .inl A_ends)), (aT_weights, .inl (cy.1, 40, .inl A_weights)), (aT_isThere, .inl (cy.2.1, 40, .inl A_isThere)), (aT_counts, .inl (cy.2.1, 40, .inl A_counts)), (aT_points, .inl (cy.1, 80, .inl A_points)), (aT_flows, .inl (cy.1, 80, .inl A_flows)), (aT_isUsed, .inl (cy.2.1, 40, .inl A_isUsed)), (aT_gains, .inl (cy.1, 80, .inl A_gains)), (aT_ways, .inl (cy.1, 80, .inl A_ways))]) ⟨hx, hb, hml, hown, hts⟩ (c_X5_is l G cy k aT aT_begins aT_ends aT_weights aT_isThere aT_rooms aT_isOffered aT_isAccepted aT_best aT_order aT_froms aT_tos aT_counts aT_points aT_flows aT_isUsed aT_gains aT_ways f_thrown f_many f_factor f_dropped f_pointMany A_isThere p1 hcl2) (cwV 1 hts gX5_lossWithout_X5_is rfl rfl rfl (by decide +kernel) ⟨Nat.le_of_ble_eq_true rfl, Nat.le_of_ble_eq_true rfl⟩) hv (isC := [0, 4]) ⟨rfl, rfl⟩ (hv.recv 5 0 rfl rfl) [1, 2, 3, 5, 6, 7, 8, 9, 10] [9, 0, 1, 2, 10, 3, 4, 5, 6, 7, 8] rfl rfl (by decide) rfl rfl rfl hl.1 rfl (Nat.le_of_ble_eq_true rfl) dX5_lossWithout_3 ⟨Nat.le_of_ble_eq_true rfl, Nat.le_of_ble_eq_true rfl⟩ (fun H locs hv => ?_)
  refine xj_elim hf (fun j28_4 ej28_4 hf => ?_)
  have J28_4 : ∀ (x5 : Int32), j28_4 x5 = some (r, wf_thrown, wf_pointMany, wA_counts, wA_points, wA_flows, wA_isUsed, wA_gains, wA_ways) → ∀ (H : Heap) (locs : List Loc) (ls : Array Slot), Hv s H locs G cy A [(aT, .inr (5, [.int f_thrown, .int f_many, .ref aT_begins, .ref aT_ends, .ref aT_weights, .ref aT_isThere, .ref aT_rooms, .int f_factor, .ref aT_isOffered, .ref aT_isAccepted, .int f_dropped, .ref aT_best, .ref aT_order, .ref aT_froms, .ref aT_tos, .ref aT_counts, .ref aT_points, .ref aT_flows, .ref aT_isUsed, .ref aT_gains, .ref aT_ways, .int f_pointMany])), (aT_begins, .inl (cy.1, 40, .inl A_begins)), (aT_ends, .inl (cy.1, 40, .inl A_ends)), (aT_weights, .inl (cy.1, 40, .inl A_weights)), (aT_isThere, .inl (cy.2.1, 40, .inl A_isThere)), (aT_counts, .inl (cy.2.1, 40, .inl A_counts)), (aT_points, .inl (cy.1, 80, .inl A_points)), (aT_flows, .inl (cy.1, 80, .inl A_flows)), (aT_isUsed, .inl (cy.2.1, 40, .inl A_isUsed)), (aT_gains, .inl (cy.1, 80, .inl A_gains)), (aT_ways, .inl (cy.1, 80, .inl A_ways))] → lv_has ls 3 [(0, .ref aT), (1, .int p1), (2, .int p2)] → W p l e rm_X5_lossWithout s m args below meth c H locs 0 0 Q (F0 m 28 ls [.int x5, .ref aT]) := by
    intro x5 hf H locs ls hv hl
    rw [ej28_4] at hf
    try dsimp only at hf
    obtain ⟨⟨r6, f_thrown_7⟩, hcl8, hf⟩ := xb_some hf
    dsimp only at hf
    refine kV_i (r := r6) (wr := [(aT_begins, .inl (cy.1, 40, .inl A_begins)), (aT_ends, .inl (cy.1, 40, .inl A_ends)), (aT_weights, .inl (cy.1, 40, .inl A_weights)), (aT_isThere, .inl (cy.2.1, 40, .inl A_isThere)), (aT_counts, .inl (cy.2.1, 40, .inl A_counts)), (aT_points, .inl (cy.1, 80, .inl A_points)), (aT_flows, .inl (cy.1, 80, .inl A_flows)), (aT_isUsed, .inl (cy.2.1, 40, .inl A_isUsed)), (aT_gains, .inl (cy.1, 80, .inl A_gains)), (aT_ways, .inl (cy.1, 80, .inl A_ways))]) (w2 := [(aT, .inr (5, [.int f_thrown_7, .int f_many, .ref aT_begins, .ref aT_ends, .ref aT_weights, .ref aT_isThere, .ref aT_rooms, .int f_factor, .ref aT_isOffered, .ref aT_isAccepted, .int f_dropped, .ref aT_best, .ref aT_order, .ref aT_froms, .ref aT_tos, .ref aT_counts, .ref aT_points, .ref aT_flows, .ref aT_isUsed, .ref aT_gains, .ref aT_ways, .int f_pointMany])), (aT_begins, .inl (cy.1, 40, .inl A_begins)), (aT_ends, .inl (cy.1, 40, .inl A_ends)), (aT_weights, .inl (cy.1, 40, .inl A_weights)), (aT_isThere, .inl (cy.2.1, 40, .inl A_isThere)), (aT_counts, .inl (cy.2.1, 40, .inl A_counts)), (aT_points, .inl (cy.1, 80, .inl A_points)), (aT_flows, .inl (cy.1, 80, .inl A_flows)), (aT_isUsed, .inl (cy.2.1, 40, .inl A_isUsed)), (aT_gains, .inl (cy.1, 80, .inl A_gains)), (aT_ways, .inl (cy.1, 80, .inl A_ways))]) ⟨hx, hb, hml, hown, hts⟩ (c_X5_goesWell l G cy k aT aT_begins aT_ends aT_weights aT_isThere aT_rooms aT_isOffered aT_isAccepted aT_best aT_order aT_froms aT_tos aT_counts aT_points aT_flows aT_isUsed aT_gains aT_ways f_thrown f_many f_factor f_dropped f_pointMany x5 hcl8) (cwV 1 hts gX5_lossWithout_X5_goesWell rfl rfl rfl (by decide +kernel) ⟨Nat.le_of_ble_eq_true rfl, Nat.le_of_ble_eq_true rfl⟩) hv (isC := [0]) ⟨rfl, rfl⟩ (hv.recv 5 0 rfl rfl) [1, 2, 3, 4, 5, 6, 7, 8, 9, 10] [10, 0, 1, 2, 3, 4, 5, 6, 7, 8, 9] rfl rfl (by decide) rfl rfl rfl hl.1 rfl (Nat.le_of_ble_eq_true rfl) dX5_lossWithout_28 ⟨Nat.le_of_ble_eq_true rfl, Nat.le_of_ble_eq_true rfl⟩ (fun H locs hv => ?_)
    refine lv_if_eq (tgt := 50) hx hb dX5_lossWithout_31 (by decide) (fun hc9 => ?_) (fun hc9 => ?_)
    · replace hf := ite_t hf hc9
      refine lv_iconst (v := 0) hx hb dX5_lossWithout_50 (by decide) ?_
      cases hf
      exact kret _ _ _ _ hv dX5_lossWithout_51
    · replace hf := ite_f hf hc9
      refine lv_aload_n hx hb dX5_lossWithout_34 rfl (lv_at hl 0 rfl) ?_
      refine lv_iload_n hx hb dX5_lossWithout_35 rfl (lv_at hl 2 rfl) ?_
      refine lv_iconst (v := (-1)) hx hb dX5_lossWithout_36 (by decide) ?_
      obtain ⟨⟨r10, f_pointMany_11, A_counts_12, A_points_13, A_flows_14, A_isUsed_15, A_gains_16, A_ways_17⟩, hcl18, hf⟩ := xb_some hf
      dsimp only at hf
      refine kV_i (r := r10) (wr := []) (w2 := [(aT, .inr (5, [.int f_thrown_7, .int f_many, .ref aT_begins, .ref aT_ends, .ref aT_weights, .ref aT_isThere, .ref aT_rooms, .int f_factor, .ref aT_isOffered, .ref aT_isAccepted, .int f_dropped, .ref aT_best, .ref aT_order, .ref aT_froms, .ref aT_tos, .ref aT_counts, .ref aT_points, .ref aT_flows, .ref aT_isUsed, .ref aT_gains, .ref aT_ways, .int f_pointMany_11])), (aT_begins, .inl (cy.1, 40, .inl A_begins)), (aT_ends, .inl (cy.1, 40, .inl A_ends)), (aT_weights, .inl (cy.1, 40, .inl A_weights)), (aT_isThere, .inl (cy.2.1, 40, .inl A_isThere)), (aT_counts, .inl (cy.2.1, 40, .inl A_counts_12)), (aT_points, .inl (cy.1, 80, .inl A_points_13)), (aT_flows, .inl (cy.1, 80, .inl A_flows_14)), (aT_isUsed, .inl (cy.2.1, 40, .inl A_isUsed_15)), (aT_gains, .inl (cy.1, 80, .inl A_gains_16)), (aT_ways, .inl (cy.1, 80, .inl A_ways_17))]) ⟨hx, hb, hml, hown, hts⟩ (c_X5_planIn l G cy k aT aT_begins aT_ends aT_weights aT_isThere aT_rooms aT_isOffered aT_isAccepted aT_best aT_order aT_froms aT_tos aT_counts aT_points aT_flows aT_isUsed aT_gains aT_ways f_thrown_7 f_many f_factor f_dropped f_pointMany A_begins A_ends A_weights A_isThere A_counts A_points A_flows A_isUsed A_gains A_ways p2 (-1) hcl18) (cwV 2 hts gX5_lossWithout_X5_planIn rfl rfl rfl (by decide +kernel) ⟨Nat.le_of_ble_eq_true rfl, Nat.le_of_ble_eq_true rfl⟩) hv (isC := [0, 1, 2, 3, 4, 5, 6, 7, 8, 9, 10]) ⟨rfl, rfl⟩ (hv.recv 5 0 rfl rfl) [] [0, 1, 2, 3, 4, 5, 6, 7, 8, 9, 10] rfl rfl (by decide) rfl rfl rfl hl.1 rfl (Nat.le_of_ble_eq_true rfl) dX5_lossWithout_37 ⟨Nat.le_of_ble_eq_true rfl, Nat.le_of_ble_eq_true rfl⟩ (fun H locs hv => ?_)
      refine lv_aload_n hx hb dX5_lossWithout_40 rfl (lv_at hl 0 rfl) ?_
      refine lv_iload_n hx hb dX5_lossWithout_41 rfl (lv_at hl 2 rfl) ?_
      refine lv_iload_n hx hb dX5_lossWithout_42 rfl (lv_at hl 1 rfl) ?_
      obtain ⟨⟨r19, f_pointMany_20, A_counts_21, A_points_22, A_flows_23, A_isUsed_24, A_gains_25, A_ways_26⟩, hcl27, hf⟩ := xb_some hf
      dsimp only at hf
      refine kV_i (r := r19) (wr := []) (w2 := [(aT, .inr (5, [.int f_thrown_7, .int f_many, .ref aT_begins, .ref aT_ends, .ref aT_weights, .ref aT_isThere, .ref aT_rooms, .int f_factor, .ref aT_isOffered, .ref aT_isAccepted, .int f_dropped, .ref aT_best, .ref aT_order, .ref aT_froms, .ref aT_tos, .ref aT_counts, .ref aT_points, .ref aT_flows, .ref aT_isUsed, .ref aT_gains, .ref aT_ways, .int f_pointMany_20])), (aT_begins, .inl (cy.1, 40, .inl A_begins)), (aT_ends, .inl (cy.1, 40, .inl A_ends)), (aT_weights, .inl (cy.1, 40, .inl A_weights)), (aT_isThere, .inl (cy.2.1, 40, .inl A_isThere)), (aT_counts, .inl (cy.2.1, 40, .inl A_counts_21)), (aT_points, .inl (cy.1, 80, .inl A_points_22)), (aT_flows, .inl (cy.1, 80, .inl A_flows_23)), (aT_isUsed, .inl (cy.2.1, 40, .inl A_isUsed_24)), (aT_gains, .inl (cy.1, 80, .inl A_gains_25)), (aT_ways, .inl (cy.1, 80, .inl A_ways_26))]) ⟨hx, hb, hml, hown, hts⟩ (c_X5_planIn l G cy k aT aT_begins aT_ends aT_weights aT_isThere aT_rooms aT_isOffered aT_isAccepted aT_best aT_order aT_froms aT_tos aT_counts aT_points aT_flows aT_isUsed aT_gains aT_ways f_thrown_7 f_many f_factor f_dropped f_pointMany_11 A_begins A_ends A_weights A_isThere A_counts_12 A_points_13 A_flows_14 A_isUsed_15 A_gains_16 A_ways_17 p2 p1 hcl27) (cwV 2 hts gX5_lossWithout_X5_planIn rfl rfl rfl (by decide +kernel) ⟨Nat.le_of_ble_eq_true rfl, Nat.le_of_ble_eq_true rfl⟩) hv (isC := [0, 1, 2, 3, 4, 5, 6, 7, 8, 9, 10]) ⟨rfl, rfl⟩ (hv.recv 5 0 rfl rfl) [] [0, 1, 2, 3, 4, 5, 6, 7, 8, 9, 10] rfl rfl (by decide) rfl rfl rfl hl.1 rfl (Nat.le_of_ble_eq_true rfl) dX5_lossWithout_43 ⟨Nat.le_of_ble_eq_true rfl, Nat.le_of_ble_eq_true rfl⟩ (fun H locs hv => ?_)
      refine lv_isub hx hb dX5_lossWithout_46 ?_
      refine lv_goto (tgt := 51) hx hb dX5_lossWithout_47 (by decide) ?_
      cases hf
      exact kret _ _ _ _ hv dX5_lossWithout_51
  refine lv_if_ne (tgt := 13) hx hb dX5_lossWithout_6 (by decide) (fun hc3 => ?_) (fun hc3 => ?_)
  · replace hf := ite_f hf hc3
    refine lv_iload_n hx hb dX5_lossWithout_13 rfl (lv_at hl 2 rfl) ?_
    refine lv_iconst (v := 1) hx hb dX5_lossWithout_14 (by decide) ?_
    refine lv_bipush (v := 6) hx hb dX5_lossWithout_15 (by decide) ?_
    obtain ⟨r28, hcl29, hf⟩ := xb_some hf
    refine kS_i (r := r28) ⟨hx, hb, hml, hown, hts⟩ (c_X5_in l G cy k p2 1 6 hcl29) (va_cwS 3 hts gX5_lossWithout_X5_in rfl rfl rfl (by decide +kernel) ⟨Nat.le_of_ble_eq_true rfl, Nat.le_of_ble_eq_true rfl⟩) hv rfl hl.1 rfl (Nat.le_of_ble_eq_true rfl) dX5_lossWithout_17 ⟨Nat.le_of_ble_eq_true rfl, Nat.le_of_ble_eq_true rfl⟩ (fun H locs hv => ?_)
    refine lv_if_eq (tgt := 27) hx hb dX5_lossWithout_20 (by decide) (fun hc30 => ?_) (fun hc30 => ?_)
    · replace hf := ite_t hf hc30
      refine lv_iconst (v := 2) hx hb dX5_lossWithout_27 (by decide) ?_
      exact J28_4 2 hf _ _ _ hv (lv_sub hl [0, 1, 2] rfl)
    · replace hf := ite_f hf hc30
      refine lv_iconst (v := 0) hx hb dX5_lossWithout_23 (by decide) ?_
      refine lv_goto (tgt := 28) hx hb dX5_lossWithout_24 (by decide) ?_
      exact J28_4 0 hf _ _ _ hv (lv_sub hl [0, 1, 2] rfl)
  · replace hf := ite_t hf hc3
    refine lv_iconst (v := 1) hx hb dX5_lossWithout_9 (by decide) ?_
    refine lv_goto (tgt := 28) hx hb dX5_lossWithout_10 (by decide) ?_
    exact J28_4 1 hf _ _ _ hv (lv_sub hl [0, 1, 2] rfl)

def f_X5_most_L17 (k : Nat) (v1 : Int32) (A_begins : Nat → Int32) (A_ends : Nat → Int32) (A_order : Nat → Int32) (κ : Int32 → Int32 → Int32 → Option (Int32 × Int32 × (Nat → Int32))) : Nat → Int32 → Int32 → Int32 → Option (Int32 × Int32 × (Nat → Int32))
  | 0, _, _, _ => none
  | n + 1, v2, v3, v4 => if v1 ≤ v4 then κ v2 v3 v4 else xi v4 40 (xi (A_order v4.toNatClampNeg) 40 (if (A_begins (A_order v4.toNatClampNeg).toNatClampNeg) < v3 then f_X5_most_L17 k v1 A_begins A_ends A_order κ n v2 v3 (v4 + 1) else xi v4 40 (xi (A_order v4.toNatClampNeg) 40 (f_X5_most_L17 k v1 A_begins A_ends A_order κ n (v2 + 1) (A_ends (A_order v4.toNatClampNeg).toNatClampNeg) (v4 + 1)))))
theorem f_X5_most_L17_z (k : Nat) (v1 : Int32) (A_begins : Nat → Int32) (A_ends : Nat → Int32) (A_order : Nat → Int32) (κ : Int32 → Int32 → Int32 → Option (Int32 × Int32 × (Nat → Int32))) (v2 : Int32) (v3 : Int32) (v4 : Int32) : f_X5_most_L17 k v1 A_begins A_ends A_order κ 0 v2 v3 v4 = none := rfl
theorem f_X5_most_L17_s (k : Nat) (v1 : Int32) (A_begins : Nat → Int32) (A_ends : Nat → Int32) (A_order : Nat → Int32) (κ : Int32 → Int32 → Int32 → Option (Int32 × Int32 × (Nat → Int32))) (n : Nat) (v2 : Int32) (v3 : Int32) (v4 : Int32) : f_X5_most_L17 k v1 A_begins A_ends A_order κ (n + 1) v2 v3 v4 = if v1 ≤ v4 then κ v2 v3 v4 else xi v4 40 (xi (A_order v4.toNatClampNeg) 40 (if (A_begins (A_order v4.toNatClampNeg).toNatClampNeg) < v3 then f_X5_most_L17 k v1 A_begins A_ends A_order κ n v2 v3 (v4 + 1) else xi v4 40 (xi (A_order v4.toNatClampNeg) 40 (f_X5_most_L17 k v1 A_begins A_ends A_order κ n (v2 + 1) (A_ends (A_order v4.toNatClampNeg).toNatClampNeg) (v4 + 1))))) := rfl
def f_X5_most (k : Nat) (f_thrown : Int32) (f_many : Int32) (A_begins : Nat → Int32) (A_ends : Nat → Int32) (A_isThere : Nat → Int32) (A_order : Nat → Int32) : Option (Int32 × Int32 × (Nat → Int32)) := xb (f_X5_layOrder k f_many A_ends A_isThere A_order) (fun (r1, A_order_2) => f_X5_most_L17 k r1 A_begins A_ends A_order_2 (fun (v2_10 : Int32) (v3_11 : Int32) (v4_12 : Int32) => some (v2_10, 0, A_order_2)) k 0 0 0)
abbrev rm_X5_most : Room := { frames := 1, cells := 0, slots := 0, locals := 23 }
set_option maxHeartbeats 4000000 in
set_option maxRecDepth 100000 in
theorem c_X5_most (l : Launch) (G : va_G) (cy : ClassId × ClassId × ClassId) (k : Nat) (aT aT_begins aT_ends aT_weights aT_isThere aT_rooms aT_isOffered aT_isAccepted aT_best aT_order aT_froms aT_tos aT_counts aT_points aT_flows aT_isUsed aT_gains aT_ways : Nat) (f_thrown : Int32) (f_many : Int32) (f_factor : Int32) (f_dropped : Int32) (f_pointMany : Int32) (A_begins : Nat → Int32) (A_ends : Nat → Int32) (A_isThere : Nat → Int32) (A_order : Nat → Int32) {r : Int32} {wf_thrown : Int32} {wA_order : Nat → Int32} (hf : f_X5_most k f_thrown f_many A_begins A_ends A_isThere A_order = some (r, wf_thrown, wA_order)) : Ci l yX5_most wsX5_most rm_X5_most 0 0 G cy [.ref aT] [(aT, .inr (5, [.int f_thrown, .int f_many, .ref aT_begins, .ref aT_ends, .ref aT_weights, .ref aT_isThere, .ref aT_rooms, .int f_factor, .ref aT_isOffered, .ref aT_isAccepted, .int f_dropped, .ref aT_best, .ref aT_order, .ref aT_froms, .ref aT_tos, .ref aT_counts, .ref aT_points, .ref aT_flows, .ref aT_isUsed, .ref aT_gains, .ref aT_ways, .int f_pointMany])), (aT_begins, .inl (cy.1, 40, .inl A_begins)), (aT_ends, .inl (cy.1, 40, .inl A_ends)), (aT_isThere, .inl (cy.2.1, 40, .inl A_isThere)), (aT_order, .inl (cy.1, 40, .inl A_order))] [(aT, .inr (5, [.int wf_thrown, .int f_many, .ref aT_begins, .ref aT_ends, .ref aT_weights, .ref aT_isThere, .ref aT_rooms, .int f_factor, .ref aT_isOffered, .ref aT_isAccepted, .int f_dropped, .ref aT_best, .ref aT_order, .ref aT_froms, .ref aT_tos, .ref aT_counts, .ref aT_points, .ref aT_flows, .ref aT_isUsed, .ref aT_gains, .ref aT_ways, .int f_pointMany])), (aT_begins, .inl (cy.1, 40, .inl A_begins)), (aT_ends, .inl (cy.1, 40, .inl A_ends)), (aT_isThere, .inl (cy.2.1, 40, .inl A_isThere)), (aT_order, .inl (cy.1, 40, .inl wA_order))] r := by
  refine kMetI (cc := cX5_most) (maxL := 5) (by decide) rfl (Nat.le_of_ble_eq_true rfl) ?_
  intro p e s m args below meth c Q A ls hx hb hml hts hown hv hl kret
  replace hown : s.vm.findClass RX5 = some m.cls := hown
  replace hl : lv_has ls 5 [(0, .ref aT)] := hl
  have hk66 : (Cond.fieldLink RX5 66 "RoomcolourModel" "thrown" "I").before args s = true := hts _ (by decide +kernel)
  have hinX5 : ∀ w ∈ wsX50, w ∈ wsX5_most := by decide +kernel
  have hk7 : (Cond.fieldLink RX5 7 "RoomcolourModel" "begins" "[I").before args s = true := hts _ (by decide +kernel)
  have hk39 : (Cond.fieldLink RX5 39 "RoomcolourModel" "order" "[I").before args s = true := hts _ (by decide +kernel)
  have hk13 : (Cond.fieldLink RX5 13 "RoomcolourModel" "ends" "[I").before args s = true := hts _ (by decide +kernel)
  have L17 : ∀ (v1 : Int32) (A_order : Nat → Int32) (f_thrown : Int32) (κ : Int32 → Int32 → Int32 → Option (Int32 × Int32 × (Nat → Int32))) (n : Nat) (v2 : Int32) (v3 : Int32) (v4 : Int32), f_X5_most_L17 k v1 A_begins A_ends A_order κ n v2 v3 v4 = some (r, wf_thrown, wA_order) → ∀ (H : Heap) (locs : List Loc) (ls : Array Slot), Hv s H locs G cy A [(aT, .inr (5, [.int f_thrown, .int f_many, .ref aT_begins, .ref aT_ends, .ref aT_weights, .ref aT_isThere, .ref aT_rooms, .int f_factor, .ref aT_isOffered, .ref aT_isAccepted, .int f_dropped, .ref aT_best, .ref aT_order, .ref aT_froms, .ref aT_tos, .ref aT_counts, .ref aT_points, .ref aT_flows, .ref aT_isUsed, .ref aT_gains, .ref aT_ways, .int f_pointMany])), (aT_begins, .inl (cy.1, 40, .inl A_begins)), (aT_ends, .inl (cy.1, 40, .inl A_ends)), (aT_isThere, .inl (cy.2.1, 40, .inl A_isThere)), (aT_order, .inl (cy.1, 40, .inl A_order))] → lv_has ls 5 [(0, .ref aT), (1, .int v1), (2, .int v2), (3, .int v3), (4, .int v4)] → (∀ (v2 : Int32) (v3 : Int32) (v4 : Int32), κ v2 v3 v4 = some (r, wf_thrown, wA_order) → ∀ (H : Heap) (locs : List Loc) (ls : Array Slot), Hv s H locs G cy A [(aT, .inr (5, [.int f_thrown, .int f_many, .ref aT_begins, .ref aT_ends, .ref aT_weights, .ref aT_isThere, .ref aT_rooms, .int f_factor, .ref aT_isOffered, .ref aT_isAccepted, .int f_dropped, .ref aT_best, .ref aT_order, .ref aT_froms, .ref aT_tos, .ref aT_counts, .ref aT_points, .ref aT_flows, .ref aT_isUsed, .ref aT_gains, .ref aT_ways, .int f_pointMany])), (aT_begins, .inl (cy.1, 40, .inl A_begins)), (aT_ends, .inl (cy.1, 40, .inl A_ends)), (aT_isThere, .inl (cy.2.1, 40, .inl A_isThere)), (aT_order, .inl (cy.1, 40, .inl A_order))] → lv_has ls 5 [(2, .int v2)] → W p l e rm_X5_most s m args below meth c H locs 0 0 Q (F0 m 61 ls [])) → W p l e rm_X5_most s m args below meth c H locs 0 0 Q (F0 m 17 ls []) := by
    intro v1 A_order f_thrown κ n
    induction n with
    | zero =>
      intro v2 v3 v4 hf
      rw [f_X5_most_L17_z] at hf
      cases hf
    | succ n ih =>
      intro v2 v3 v4 hf H locs ls hv hl hκ
      rw [f_X5_most_L17_s] at hf
      refine lv_iload hx hb dX5_most_17 (lv_at hl 4 rfl) ?_
      refine lv_iload_n hx hb dX5_most_19 rfl (lv_at hl 1 rfl) ?_
      refine lv_icmp_ge (tgt := 61) hx hb dX5_most_20 (by decide) (fun hc4 => ?_) (fun hc4 => ?_)
      · replace hf := ite_t hf hc4
        exact hκ v2 v3 v4 hf _ _ _ hv (lv_sub hl [2] rfl)
      · replace hf := ite_f hf hc4
        refine lv_aload_n hx hb dX5_most_23 rfl (lv_at hl 0 rfl) ?_
        refine kGet (v := .ref aT_begins) (C := RX5) (T := TX5) (N := 22) hx hb hts hinX5 hown hv 0 rfl rfl 2 (by decide) hk7 (fun _ h9 => h9) rfl dX5_most_24 ?_
        refine lv_aload_n hx hb dX5_most_27 rfl (lv_at hl 0 rfl) ?_
        refine kGet (v := .ref aT_order) (C := RX5) (T := TX5) (N := 22) hx hb hts hinX5 hown hv 0 rfl rfl 12 (by decide) hk39 (fun _ h9 => h9) rfl dX5_most_28 ?_
        refine lv_iload hx hb dX5_most_31 (lv_at hl 4 rfl) ?_
        obtain ⟨hi5, hf⟩ := xi_some hf
        refine kIald hx hb hv 4 rfl hi5 dX5_most_33 ?_
        obtain ⟨hi6, hf⟩ := xi_some hf
        refine kIald hx hb hv 1 rfl hi6 dX5_most_34 ?_
        refine lv_iload_n hx hb dX5_most_35 rfl (lv_at hl 3 rfl) ?_
        refine lv_icmp_lt (tgt := 55) hx hb dX5_most_36 (by decide) (fun hc7 => ?_) (fun hc7 => ?_)
        · replace hf := ite_t hf hc7
          refine lv_iinc (v := v4 + 1) (lv' := [(4, .int (v4 + 1)), (0, .ref aT), (1, .int v1), (2, .int v2), (3, .int v3)]) hx hb dX5_most_55 hl (k := 4) rfl rfl (by decide) rfl (fun ls hl => ?_)
          refine lv_goto (tgt := 17) hx hb dX5_most_58 (by decide) ?_
          exact ih v2 v3 (v4 + 1) hf _ _ _ hv (lv_sub hl [1, 2, 3, 4, 0] rfl) hκ
        · replace hf := ite_f hf hc7
          refine lv_aload_n hx hb dX5_most_39 rfl (lv_at hl 0 rfl) ?_
          refine kGet (v := .ref aT_ends) (C := RX5) (T := TX5) (N := 22) hx hb hts hinX5 hown hv 0 rfl rfl 3 (by decide) hk13 (fun _ h9 => h9) rfl dX5_most_40 ?_
          refine lv_aload_n hx hb dX5_most_43 rfl (lv_at hl 0 rfl) ?_
          refine kGet (v := .ref aT_order) (C := RX5) (T := TX5) (N := 22) hx hb hts hinX5 hown hv 0 rfl rfl 12 (by decide) hk39 (fun _ h9 => h9) rfl dX5_most_44 ?_
          refine lv_iload hx hb dX5_most_47 (lv_at hl 4 rfl) ?_
          obtain ⟨hi8, hf⟩ := xi_some hf
          refine kIald hx hb hv 4 rfl hi8 dX5_most_49 ?_
          obtain ⟨hi9, hf⟩ := xi_some hf
          refine kIald hx hb hv 2 rfl hi9 dX5_most_50 ?_
          refine lv_istore_n (lv' := [(3, .int (A_ends (A_order v4.toNatClampNeg).toNatClampNeg)), (0, .ref aT), (1, .int v1), (2, .int v2), (4, .int v4)]) hx hb dX5_most_51 rfl hl (by decide) rfl (fun ls hl => ?_)
          refine lv_iinc (v := v2 + 1) (lv' := [(2, .int (v2 + 1)), (3, .int (A_ends (A_order v4.toNatClampNeg).toNatClampNeg)), (0, .ref aT), (1, .int v1), (4, .int v4)]) hx hb dX5_most_52 hl (k := 3) rfl rfl (by decide) rfl (fun ls hl => ?_)
          refine lv_iinc (v := v4 + 1) (lv' := [(4, .int (v4 + 1)), (2, .int (v2 + 1)), (3, .int (A_ends (A_order v4.toNatClampNeg).toNatClampNeg)), (0, .ref aT), (1, .int v1)]) hx hb dX5_most_55 hl (k := 4) rfl rfl (by decide) rfl (fun ls hl => ?_)
          refine lv_goto (tgt := 17) hx hb dX5_most_58 (by decide) ?_
          exact ih (v2 + 1) (A_ends (A_order v4.toNatClampNeg).toNatClampNeg) (v4 + 1) hf _ _ _ hv (lv_sub hl [3, 4, 1, 2, 0] rfl) hκ
  unfold f_X5_most at hf
  refine lv_aload_n hx hb dX5_most_0 rfl (lv_at hl 0 rfl) ?_
  refine lv_iconst (v := 0) hx hb dX5_most_1 (by decide) ?_
  refine kPut (v := .int 0) (ty := .int) (C := RX5) (T := TX5) (N := 22) hx hb hts hinX5 tyX5 tyX5_ok nmX5 hown hv 0 rfl rfl 0 (by decide) hk66 (fun _ h9 => h9) rfl (by decide +kernel) rfl rfl (Nat.le_of_ble_eq_true rfl) dX5_most_2 (fun H locs hv => ?_)
  replace hv : Hv s H locs G cy A [(aT, .inr (5, [.int 0, .int f_many, .ref aT_begins, .ref aT_ends, .ref aT_weights, .ref aT_isThere, .ref aT_rooms, .int f_factor, .ref aT_isOffered, .ref aT_isAccepted, .int f_dropped, .ref aT_best, .ref aT_order, .ref aT_froms, .ref aT_tos, .ref aT_counts, .ref aT_points, .ref aT_flows, .ref aT_isUsed, .ref aT_gains, .ref aT_ways, .int f_pointMany])), (aT_begins, .inl (cy.1, 40, .inl A_begins)), (aT_ends, .inl (cy.1, 40, .inl A_ends)), (aT_isThere, .inl (cy.2.1, 40, .inl A_isThere)), (aT_order, .inl (cy.1, 40, .inl A_order))] := hv
  refine lv_aload_n hx hb dX5_most_5 rfl (lv_at hl 0 rfl) ?_
  obtain ⟨⟨r1, A_order_2⟩, hcl3, hf⟩ := xb_some hf
  dsimp only at hf
  refine kV_i (r := r1) (wr := [(aT_begins, .inl (cy.1, 40, .inl A_begins))]) (w2 := [(aT, .inr (5, [.int 0, .int f_many, .ref aT_begins, .ref aT_ends, .ref aT_weights, .ref aT_isThere, .ref aT_rooms, .int f_factor, .ref aT_isOffered, .ref aT_isAccepted, .int f_dropped, .ref aT_best, .ref aT_order, .ref aT_froms, .ref aT_tos, .ref aT_counts, .ref aT_points, .ref aT_flows, .ref aT_isUsed, .ref aT_gains, .ref aT_ways, .int f_pointMany])), (aT_begins, .inl (cy.1, 40, .inl A_begins)), (aT_ends, .inl (cy.1, 40, .inl A_ends)), (aT_isThere, .inl (cy.2.1, 40, .inl A_isThere)), (aT_order, .inl (cy.1, 40, .inl A_order_2))]) ⟨hx, hb, hml, hown, hts⟩ (c_X5_layOrder l G cy k aT aT_begins aT_ends aT_weights aT_isThere aT_rooms aT_isOffered aT_isAccepted aT_best aT_order aT_froms aT_tos aT_counts aT_points aT_flows aT_isUsed aT_gains aT_ways 0 f_many f_factor f_dropped f_pointMany A_ends A_isThere A_order hcl3) (cwV 0 hts gX5_most_X5_layOrder rfl rfl rfl (by decide +kernel) ⟨Nat.le_of_ble_eq_true rfl, Nat.le_of_ble_eq_true rfl⟩) hv (isC := [0, 2, 3, 4]) ⟨rfl, rfl⟩ (hv.recv 5 0 rfl rfl) [1] [1, 0, 2, 3, 4] rfl rfl (by decide) rfl rfl rfl hl.1 rfl (Nat.le_of_ble_eq_true rfl) dX5_most_6 ⟨Nat.le_of_ble_eq_true rfl, Nat.le_of_ble_eq_true rfl⟩ (fun H locs hv => ?_)
  refine lv_istore_n (lv' := [(1, .int r1), (0, .ref aT)]) hx hb dX5_most_9 rfl hl (by decide) rfl (fun ls hl => ?_)
  refine lv_iconst (v := 0) hx hb dX5_most_10 (by decide) ?_
  refine lv_istore_n (lv' := [(2, .int 0), (1, .int r1), (0, .ref aT)]) hx hb dX5_most_11 rfl hl (by decide) rfl (fun ls hl => ?_)
  refine lv_iconst (v := 0) hx hb dX5_most_12 (by decide) ?_
  refine lv_istore_n (lv' := [(3, .int 0), (2, .int 0), (1, .int r1), (0, .ref aT)]) hx hb dX5_most_13 rfl hl (by decide) rfl (fun ls hl => ?_)
  refine lv_iconst (v := 0) hx hb dX5_most_14 (by decide) ?_
  refine lv_istore (lv' := [(4, .int 0), (3, .int 0), (2, .int 0), (1, .int r1), (0, .ref aT)]) hx hb dX5_most_15 hl (by decide) rfl (fun ls hl => ?_)
  refine L17 _ _ _ _ _ _ _ _ hf _ _ _ hv (lv_sub hl [4, 3, 2, 1, 0] rfl) (fun v2_10 v3_11 v4_12 hf H locs ls hv hl => ?_)
  try dsimp only at hf
  refine lv_iload_n hx hb dX5_most_61 rfl (lv_at hl 0 rfl) ?_
  cases hf
  exact kret _ _ _ _ hv dX5_most_62

def f_X5_move (k : Nat) (p1 : Int32) (p2 : Int32) (f_thrown : Int32) (f_many : Int32) (A_begins : Nat → Int32) (A_ends : Nat → Int32) (A_isThere : Nat → Int32) (A_isAccepted : Nat → Int32) : Option (Int32 × Int32 × (Nat → Int32) × (Nat → Int32) × (Nat → Int32)) := xb (f_X5_is k p1 f_many A_isThere) (fun r1 => xj (fun (x5 : Int32) => xb (f_X5_in k p2 0 999) (fun r6 => xj (fun (x10 : Int32) => xb (f_X5_is k p1 f_many A_isThere) (fun r11 => xj (fun (x15 : Int32) => xb (f_X5_goesWell k x15 f_thrown) (fun (r16, f_thrown_17) => if r16 = 0 then some (0, f_thrown_17, A_begins, A_ends, A_isAccepted) else xi p1 40 (xi p1 40 (xi p1 40 (xi p1 40 (some (A_begins p1.toNatClampNeg, f_thrown_17, upd A_begins p1.toNatClampNeg p2, upd A_ends p1.toNatClampNeg (p2 + x5), upd A_isAccepted p1.toNatClampNeg (vp_nar .boolean 0)))))))) (fun (j76_14 : Int32 → Option (Int32 × Int32 × (Nat → Int32) × (Nat → Int32) × (Nat → Int32))) => if r11 = 0 then j76_14 1 else if x10 = 0 then j76_14 2 else j76_14 0))) (fun (j51_9 : Int32 → Option (Int32 × Int32 × (Nat → Int32) × (Nat → Int32) × (Nat → Int32))) => xj (fun (_ : Unit) => j51_9 0) (fun (j50_25 : Unit → Option (Int32 × Int32 × (Nat → Int32) × (Nat → Int32) × (Nat → Int32))) => if r6 = 0 then j50_25 () else if (1000 : Int32) < (p2 + x5) then j50_25 () else j51_9 1)))) (fun (j25_4 : Int32 → Option (Int32 × Int32 × (Nat → Int32) × (Nat → Int32) × (Nat → Int32))) => if r1 = 0 then j25_4 0 else xi p1 40 (xi p1 40 (j25_4 ((A_ends p1.toNatClampNeg) - (A_begins p1.toNatClampNeg))))))
abbrev rm_X5_move : Room := { frames := 2, cells := 0, slots := 0, locals := 43 }
set_option maxHeartbeats 4000000 in
set_option maxRecDepth 100000 in
theorem c_X5_move (l : Launch) (G : va_G) (cy : ClassId × ClassId × ClassId) (k : Nat) (aT aT_begins aT_ends aT_weights aT_isThere aT_rooms aT_isOffered aT_isAccepted aT_best aT_order aT_froms aT_tos aT_counts aT_points aT_flows aT_isUsed aT_gains aT_ways : Nat) (f_thrown : Int32) (f_many : Int32) (f_factor : Int32) (f_dropped : Int32) (f_pointMany : Int32) (A_begins : Nat → Int32) (A_ends : Nat → Int32) (A_isThere : Nat → Int32) (A_isAccepted : Nat → Int32) (p1 : Int32) (p2 : Int32) {r : Int32} {wf_thrown : Int32} {wA_begins : Nat → Int32} {wA_ends : Nat → Int32} {wA_isAccepted : Nat → Int32} (hf : f_X5_move k p1 p2 f_thrown f_many A_begins A_ends A_isThere A_isAccepted = some (r, wf_thrown, wA_begins, wA_ends, wA_isAccepted)) : Ci l yX5_move wsX5_move rm_X5_move 0 0 G cy [.ref aT, .int p1, .int p2] [(aT, .inr (5, [.int f_thrown, .int f_many, .ref aT_begins, .ref aT_ends, .ref aT_weights, .ref aT_isThere, .ref aT_rooms, .int f_factor, .ref aT_isOffered, .ref aT_isAccepted, .int f_dropped, .ref aT_best, .ref aT_order, .ref aT_froms, .ref aT_tos, .ref aT_counts, .ref aT_points, .ref aT_flows, .ref aT_isUsed, .ref aT_gains, .ref aT_ways, .int f_pointMany])), (aT_begins, .inl (cy.1, 40, .inl A_begins)), (aT_ends, .inl (cy.1, 40, .inl A_ends)), (aT_isThere, .inl (cy.2.1, 40, .inl A_isThere)), (aT_isAccepted, .inl (cy.2.1, 40, .inl A_isAccepted))] [(aT, .inr (5, [.int wf_thrown, .int f_many, .ref aT_begins, .ref aT_ends, .ref aT_weights, .ref aT_isThere, .ref aT_rooms, .int f_factor, .ref aT_isOffered, .ref aT_isAccepted, .int f_dropped, .ref aT_best, .ref aT_order, .ref aT_froms, .ref aT_tos, .ref aT_counts, .ref aT_points, .ref aT_flows, .ref aT_isUsed, .ref aT_gains, .ref aT_ways, .int f_pointMany])), (aT_begins, .inl (cy.1, 40, .inl wA_begins)), (aT_ends, .inl (cy.1, 40, .inl wA_ends)), (aT_isThere, .inl (cy.2.1, 40, .inl A_isThere)), (aT_isAccepted, .inl (cy.2.1, 40, .inl wA_isAccepted))] r := by
  refine kMetI (cc := cX5_move) (maxL := 6) (by decide) rfl (Nat.le_of_ble_eq_true rfl) ?_
  intro p e s m args below meth c Q A ls hx hb hml hts hown hv hl kret
  replace hown : s.vm.findClass RX5 = some m.cls := hown
  replace hl : lv_has ls 6 [(0, .ref aT), (1, .int p1), (2, .int p2)] := hl
  have hk7 : (Cond.fieldLink RX5 7 "RoomcolourModel" "begins" "[I").before args s = true := hts _ (by decide +kernel)
  have hinX5 : ∀ w ∈ wsX50, w ∈ wsX5_move := by decide +kernel
  have hk13 : (Cond.fieldLink RX5 13 "RoomcolourModel" "ends" "[I").before args s = true := hts _ (by decide +kernel)
  have hk33 : (Cond.fieldLink RX5 33 "RoomcolourModel" "isAccepted" "[Z").before args s = true := hts _ (by decide +kernel)
  unfold f_X5_move at hf
  refine lv_aload_n hx hb dX5_move_0 rfl (lv_at hl 0 rfl) ?_
  refine lv_iload_n hx hb dX5_move_1 rfl (lv_at hl 1 rfl) ?_
  obtain ⟨r1, hcl2, hf⟩ := xb_some hf
  refine kV_i (r := r1) (wr := [(aT_begins, .inl (cy.1, 40, .inl A_begins)), (aT_ends, .inl (cy.1, 40, .inl A_ends)), (aT_isAccepted, .inl (cy.2.1, 40, .inl A_isAccepted))]) (w2 := [(aT, .inr (5, [.int f_thrown, .int f_many, .ref aT_begins, .ref aT_ends, .ref aT_weights, .ref aT_isThere, .ref aT_rooms, .int f_factor, .ref aT_isOffered, .ref aT_isAccepted, .int f_dropped, .ref aT_best, .ref aT_order, .ref aT_froms, .ref aT_tos, .ref aT_counts, .ref aT_points, .ref aT_flows, .ref aT_isUsed, .ref aT_gains, .ref aT_ways, .int f_pointMany])), (aT_begins, .inl (cy.1, 40, .inl A_begins)), (aT_ends, .inl (cy.1, 40, .inl A_ends)), (aT_isThere, .inl (cy.2.1, 40, .inl A_isThere)), (aT_isAccepted, .inl (cy.2.1, 40, .inl A_isAccepted))]) ⟨hx, hb, hml, hown, hts⟩ (c_X5_is l G cy k aT aT_begins aT_ends aT_weights aT_isThere aT_rooms aT_isOffered aT_isAccepted aT_best aT_order aT_froms aT_tos aT_counts aT_points aT_flows aT_isUsed aT_gains aT_ways f_thrown f_many f_factor f_dropped f_pointMany A_isThere p1 hcl2) (cwV 1 hts gX5_move_X5_is rfl rfl rfl (by decide +kernel) ⟨Nat.le_of_ble_eq_true rfl, Nat.le_of_ble_eq_true rfl⟩) hv (isC := [0, 3]) ⟨rfl, rfl⟩ (hv.recv 5 0 rfl rfl) [1, 2, 4] [3, 0, 1, 4, 2] rfl rfl (by decide) rfl rfl rfl hl.1 rfl (Nat.le_of_ble_eq_true rfl) dX5_move_2 ⟨Nat.le_of_ble_eq_true rfl, Nat.le_of_ble_eq_true rfl⟩ (fun H locs hv => ?_)
  refine xj_elim hf (fun j25_4 ej25_4 hf => ?_)
  have J25_4 : ∀ (x5 : Int32), j25_4 x5 = some (r, wf_thrown, wA_begins, wA_ends, wA_isAccepted) → ∀ (H : Heap) (locs : List Loc) (ls : Array Slot), Hv s H locs G cy A [(aT, .inr (5, [.int f_thrown, .int f_many, .ref aT_begins, .ref aT_ends, .ref aT_weights, .ref aT_isThere, .ref aT_rooms, .int f_factor, .ref aT_isOffered, .ref aT_isAccepted, .int f_dropped, .ref aT_best, .ref aT_order, .ref aT_froms, .ref aT_tos, .ref aT_counts, .ref aT_points, .ref aT_flows, .ref aT_isUsed, .ref aT_gains, .ref aT_ways, .int f_pointMany])), (aT_begins, .inl (cy.1, 40, .inl A_begins)), (aT_ends, .inl (cy.1, 40, .inl A_ends)), (aT_isThere, .inl (cy.2.1, 40, .inl A_isThere)), (aT_isAccepted, .inl (cy.2.1, 40, .inl A_isAccepted))] → lv_has ls 6 [(0, .ref aT), (1, .int p1), (2, .int p2)] → W p l e rm_X5_move s m args below meth c H locs 0 0 Q (F0 m 25 ls [.int x5]) := by
    intro x5 hf H locs ls hv hl
    rw [ej25_4] at hf
    try dsimp only at hf
    refine lv_istore_n (lv' := [(3, .int x5), (0, .ref aT), (1, .int p1), (2, .int p2)]) hx hb dX5_move_25 rfl hl (by decide) rfl (fun ls hl => ?_)
    refine lv_iload_n hx hb dX5_move_26 rfl (lv_at hl 3 rfl) ?_
    refine lv_iconst (v := 0) hx hb dX5_move_27 (by decide) ?_
    refine lv_sipush (v := 999) hx hb dX5_move_28 (by decide) ?_
    obtain ⟨r6, hcl7, hf⟩ := xb_some hf
    refine kS_i (r := r6) ⟨hx, hb, hml, hown, hts⟩ (c_X5_in l G cy k p2 0 999 hcl7) (va_cwS 3 hts gX5_move_X5_in rfl rfl rfl (by decide +kernel) ⟨Nat.le_of_ble_eq_true rfl, Nat.le_of_ble_eq_true rfl⟩) hv rfl hl.1 rfl (Nat.le_of_ble_eq_true rfl) dX5_move_31 ⟨Nat.le_of_ble_eq_true rfl, Nat.le_of_ble_eq_true rfl⟩ (fun H locs hv => ?_)
    refine xj_elim hf (fun j51_9 ej51_9 hf => ?_)
    have J51_9 : ∀ (x10 : Int32), j51_9 x10 = some (r, wf_thrown, wA_begins, wA_ends, wA_isAccepted) → ∀ (H : Heap) (locs : List Loc) (ls : Array Slot), Hv s H locs G cy A [(aT, .inr (5, [.int f_thrown, .int f_many, .ref aT_begins, .ref aT_ends, .ref aT_weights, .ref aT_isThere, .ref aT_rooms, .int f_factor, .ref aT_isOffered, .ref aT_isAccepted, .int f_dropped, .ref aT_best, .ref aT_order, .ref aT_froms, .ref aT_tos, .ref aT_counts, .ref aT_points, .ref aT_flows, .ref aT_isUsed, .ref aT_gains, .ref aT_ways, .int f_pointMany])), (aT_begins, .inl (cy.1, 40, .inl A_begins)), (aT_ends, .inl (cy.1, 40, .inl A_ends)), (aT_isThere, .inl (cy.2.1, 40, .inl A_isThere)), (aT_isAccepted, .inl (cy.2.1, 40, .inl A_isAccepted))] → lv_has ls 6 [(0, .ref aT), (1, .int p1), (2, .int p2), (3, .int x5)] → W p l e rm_X5_move s m args below meth c H locs 0 0 Q (F0 m 51 ls [.int x10]) := by
      intro x10 hf H locs ls hv hl
      rw [ej51_9] at hf
      try dsimp only at hf
      refine lv_istore (lv' := [(4, .int x10), (0, .ref aT), (1, .int p1), (2, .int p2), (3, .int x5)]) hx hb dX5_move_51 hl (by decide) rfl (fun ls hl => ?_)
      refine lv_aload_n hx hb dX5_move_53 rfl (lv_at hl 1 rfl) ?_
      refine lv_aload_n hx hb dX5_move_54 rfl (lv_at hl 1 rfl) ?_
      refine lv_iload_n hx hb dX5_move_55 rfl (lv_at hl 2 rfl) ?_
      obtain ⟨r11, hcl12, hf⟩ := xb_some hf
      refine kV_i (r := r11) (wr := [(aT_begins, .inl (cy.1, 40, .inl A_begins)), (aT_ends, .inl (cy.1, 40, .inl A_ends)), (aT_isAccepted, .inl (cy.2.1, 40, .inl A_isAccepted))]) (w2 := [(aT, .inr (5, [.int f_thrown, .int f_many, .ref aT_begins, .ref aT_ends, .ref aT_weights, .ref aT_isThere, .ref aT_rooms, .int f_factor, .ref aT_isOffered, .ref aT_isAccepted, .int f_dropped, .ref aT_best, .ref aT_order, .ref aT_froms, .ref aT_tos, .ref aT_counts, .ref aT_points, .ref aT_flows, .ref aT_isUsed, .ref aT_gains, .ref aT_ways, .int f_pointMany])), (aT_begins, .inl (cy.1, 40, .inl A_begins)), (aT_ends, .inl (cy.1, 40, .inl A_ends)), (aT_isThere, .inl (cy.2.1, 40, .inl A_isThere)), (aT_isAccepted, .inl (cy.2.1, 40, .inl A_isAccepted))]) ⟨hx, hb, hml, hown, hts⟩ (c_X5_is l G cy k aT aT_begins aT_ends aT_weights aT_isThere aT_rooms aT_isOffered aT_isAccepted aT_best aT_order aT_froms aT_tos aT_counts aT_points aT_flows aT_isUsed aT_gains aT_ways f_thrown f_many f_factor f_dropped f_pointMany A_isThere p1 hcl12) (cwV 1 hts gX5_move_X5_is rfl rfl rfl (by decide +kernel) ⟨Nat.le_of_ble_eq_true rfl, Nat.le_of_ble_eq_true rfl⟩) hv (isC := [0, 3]) ⟨rfl, rfl⟩ (hv.recv 5 0 rfl rfl) [1, 2, 4] [3, 0, 1, 4, 2] rfl rfl (by decide) rfl rfl rfl hl.1 rfl (Nat.le_of_ble_eq_true rfl) dX5_move_56 ⟨Nat.le_of_ble_eq_true rfl, Nat.le_of_ble_eq_true rfl⟩ (fun H locs hv => ?_)
      refine xj_elim hf (fun j76_14 ej76_14 hf => ?_)
      have J76_14 : ∀ (x15 : Int32), j76_14 x15 = some (r, wf_thrown, wA_begins, wA_ends, wA_isAccepted) → ∀ (H : Heap) (locs : List Loc) (ls : Array Slot), Hv s H locs G cy A [(aT, .inr (5, [.int f_thrown, .int f_many, .ref aT_begins, .ref aT_ends, .ref aT_weights, .ref aT_isThere, .ref aT_rooms, .int f_factor, .ref aT_isOffered, .ref aT_isAccepted, .int f_dropped, .ref aT_best, .ref aT_order, .ref aT_froms, .ref aT_tos, .ref aT_counts, .ref aT_points, .ref aT_flows, .ref aT_isUsed, .ref aT_gains, .ref aT_ways, .int f_pointMany])), (aT_begins, .inl (cy.1, 40, .inl A_begins)), (aT_ends, .inl (cy.1, 40, .inl A_ends)), (aT_isThere, .inl (cy.2.1, 40, .inl A_isThere)), (aT_isAccepted, .inl (cy.2.1, 40, .inl A_isAccepted))] → lv_has ls 6 [(0, .ref aT), (1, .int p1), (2, .int p2), (3, .int x5)] → W p l e rm_X5_move s m args below meth c H locs 0 0 Q (F0 m 76 ls [.int x15, .ref aT]) := by
        intro x15 hf H locs ls hv hl
        rw [ej76_14] at hf
        try dsimp only at hf
        obtain ⟨⟨r16, f_thrown_17⟩, hcl18, hf⟩ := xb_some hf
        dsimp only at hf
        refine kV_i (r := r16) (wr := [(aT_begins, .inl (cy.1, 40, .inl A_begins)), (aT_ends, .inl (cy.1, 40, .inl A_ends)), (aT_isThere, .inl (cy.2.1, 40, .inl A_isThere)), (aT_isAccepted, .inl (cy.2.1, 40, .inl A_isAccepted))]) (w2 := [(aT, .inr (5, [.int f_thrown_17, .int f_many, .ref aT_begins, .ref aT_ends, .ref aT_weights, .ref aT_isThere, .ref aT_rooms, .int f_factor, .ref aT_isOffered, .ref aT_isAccepted, .int f_dropped, .ref aT_best, .ref aT_order, .ref aT_froms, .ref aT_tos, .ref aT_counts, .ref aT_points, .ref aT_flows, .ref aT_isUsed, .ref aT_gains, .ref aT_ways, .int f_pointMany])), (aT_begins, .inl (cy.1, 40, .inl A_begins)), (aT_ends, .inl (cy.1, 40, .inl A_ends)), (aT_isThere, .inl (cy.2.1, 40, .inl A_isThere)), (aT_isAccepted, .inl (cy.2.1, 40, .inl A_isAccepted))]) ⟨hx, hb, hml, hown, hts⟩ (c_X5_goesWell l G cy k aT aT_begins aT_ends aT_weights aT_isThere aT_rooms aT_isOffered aT_isAccepted aT_best aT_order aT_froms aT_tos aT_counts aT_points aT_flows aT_isUsed aT_gains aT_ways f_thrown f_many f_factor f_dropped f_pointMany x15 hcl18) (cwV 1 hts gX5_move_X5_goesWell rfl rfl rfl (by decide +kernel) ⟨Nat.le_of_ble_eq_true rfl, Nat.le_of_ble_eq_true rfl⟩) hv (isC := [0]) ⟨rfl, rfl⟩ (hv.recv 5 0 rfl rfl) [1, 2, 3, 4] [4, 0, 1, 2, 3] rfl rfl (by decide) rfl rfl rfl hl.1 rfl (Nat.le_of_ble_eq_true rfl) dX5_move_76 ⟨Nat.le_of_ble_eq_true rfl, Nat.le_of_ble_eq_true rfl⟩ (fun H locs hv => ?_)
        refine lv_if_ne (tgt := 84) hx hb dX5_move_79 (by decide) (fun hc19 => ?_) (fun hc19 => ?_)
        · replace hf := ite_f hf hc19
          refine lv_aload_n hx hb dX5_move_84 rfl (lv_at hl 0 rfl) ?_
          refine kGet (v := .ref aT_begins) (C := RX5) (T := TX5) (N := 22) hx hb hts hinX5 hown hv 0 rfl rfl 2 (by decide) hk7 (fun _ h9 => h9) rfl dX5_move_85 ?_
          refine lv_iload_n hx hb dX5_move_88 rfl (lv_at hl 1 rfl) ?_
          obtain ⟨hi20, hf⟩ := xi_some hf
          refine kIald hx hb hv 1 rfl hi20 dX5_move_89 ?_
          refine lv_istore (lv' := [(5, .int (A_begins p1.toNatClampNeg)), (0, .ref aT), (1, .int p1), (2, .int p2), (3, .int x5)]) hx hb dX5_move_90 hl (by decide) rfl (fun ls hl => ?_)
          refine lv_aload_n hx hb dX5_move_92 rfl (lv_at hl 1 rfl) ?_
          refine kGet (v := .ref aT_begins) (C := RX5) (T := TX5) (N := 22) hx hb hts hinX5 hown hv 0 rfl rfl 2 (by decide) hk7 (fun _ h9 => h9) rfl dX5_move_93 ?_
          refine lv_iload_n hx hb dX5_move_96 rfl (lv_at hl 2 rfl) ?_
          refine lv_iload_n hx hb dX5_move_97 rfl (lv_at hl 3 rfl) ?_
          obtain ⟨hi21, hf⟩ := xi_some hf
          refine kIast hx hb hv 1 rfl hi21 dX5_move_98 (fun H locs hv => ?_)
          replace hv : Hv s H locs G cy A [(aT, .inr (5, [.int f_thrown_17, .int f_many, .ref aT_begins, .ref aT_ends, .ref aT_weights, .ref aT_isThere, .ref aT_rooms, .int f_factor, .ref aT_isOffered, .ref aT_isAccepted, .int f_dropped, .ref aT_best, .ref aT_order, .ref aT_froms, .ref aT_tos, .ref aT_counts, .ref aT_points, .ref aT_flows, .ref aT_isUsed, .ref aT_gains, .ref aT_ways, .int f_pointMany])), (aT_begins, .inl (cy.1, 40, .inl (upd A_begins p1.toNatClampNeg p2))), (aT_ends, .inl (cy.1, 40, .inl A_ends)), (aT_isThere, .inl (cy.2.1, 40, .inl A_isThere)), (aT_isAccepted, .inl (cy.2.1, 40, .inl A_isAccepted))] := hv
          refine lv_aload_n hx hb dX5_move_99 rfl (lv_at hl 1 rfl) ?_
          refine kGet (v := .ref aT_ends) (C := RX5) (T := TX5) (N := 22) hx hb hts hinX5 hown hv 0 rfl rfl 3 (by decide) hk13 (fun _ h9 => h9) rfl dX5_move_100 ?_
          refine lv_iload_n hx hb dX5_move_103 rfl (lv_at hl 2 rfl) ?_
          refine lv_iload_n hx hb dX5_move_104 rfl (lv_at hl 3 rfl) ?_
          refine lv_iload_n hx hb dX5_move_105 rfl (lv_at hl 4 rfl) ?_
          refine lv_iadd hx hb dX5_move_106 ?_
          obtain ⟨hi22, hf⟩ := xi_some hf
          refine kIast hx hb hv 2 rfl hi22 dX5_move_107 (fun H locs hv => ?_)
          replace hv : Hv s H locs G cy A [(aT, .inr (5, [.int f_thrown_17, .int f_many, .ref aT_begins, .ref aT_ends, .ref aT_weights, .ref aT_isThere, .ref aT_rooms, .int f_factor, .ref aT_isOffered, .ref aT_isAccepted, .int f_dropped, .ref aT_best, .ref aT_order, .ref aT_froms, .ref aT_tos, .ref aT_counts, .ref aT_points, .ref aT_flows, .ref aT_isUsed, .ref aT_gains, .ref aT_ways, .int f_pointMany])), (aT_begins, .inl (cy.1, 40, .inl (upd A_begins p1.toNatClampNeg p2))), (aT_ends, .inl (cy.1, 40, .inl (upd A_ends p1.toNatClampNeg (p2 + x5)))), (aT_isThere, .inl (cy.2.1, 40, .inl A_isThere)), (aT_isAccepted, .inl (cy.2.1, 40, .inl A_isAccepted))] := hv
          refine lv_aload_n hx hb dX5_move_108 rfl (lv_at hl 1 rfl) ?_
          refine kGet (v := .ref aT_isAccepted) (C := RX5) (T := TX5) (N := 22) hx hb hts hinX5 hown hv 0 rfl rfl 9 (by decide) hk33 (fun _ h9 => h9) rfl dX5_move_109 ?_
          refine lv_iload_n hx hb dX5_move_112 rfl (lv_at hl 2 rfl) ?_
          refine lv_iconst (v := 0) hx hb dX5_move_113 (by decide) ?_
          obtain ⟨hi23, hf⟩ := xi_some hf
          refine kZast hx hb hv 4 rfl hi23 dX5_move_114 (fun H locs hv => ?_)
          replace hv : Hv s H locs G cy A [(aT, .inr (5, [.int f_thrown_17, .int f_many, .ref aT_begins, .ref aT_ends, .ref aT_weights, .ref aT_isThere, .ref aT_rooms, .int f_factor, .ref aT_isOffered, .ref aT_isAccepted, .int f_dropped, .ref aT_best, .ref aT_order, .ref aT_froms, .ref aT_tos, .ref aT_counts, .ref aT_points, .ref aT_flows, .ref aT_isUsed, .ref aT_gains, .ref aT_ways, .int f_pointMany])), (aT_begins, .inl (cy.1, 40, .inl (upd A_begins p1.toNatClampNeg p2))), (aT_ends, .inl (cy.1, 40, .inl (upd A_ends p1.toNatClampNeg (p2 + x5)))), (aT_isThere, .inl (cy.2.1, 40, .inl A_isThere)), (aT_isAccepted, .inl (cy.2.1, 40, .inl (upd A_isAccepted p1.toNatClampNeg (vp_nar .boolean 0))))] := hv
          refine lv_iload hx hb dX5_move_115 (lv_at hl 0 rfl) ?_
          cases hf
          exact kret _ _ _ _ hv dX5_move_117
        · replace hf := ite_t hf hc19
          refine lv_iconst (v := 0) hx hb dX5_move_82 (by decide) ?_
          cases hf
          exact kret _ _ _ _ hv dX5_move_83
      refine lv_if_ne (tgt := 66) hx hb dX5_move_59 (by decide) (fun hc13 => ?_) (fun hc13 => ?_)
      · replace hf := ite_f hf hc13
        refine lv_iload hx hb dX5_move_66 (lv_at hl 0 rfl) ?_
        refine lv_if_eq (tgt := 75) hx hb dX5_move_68 (by decide) (fun hc24 => ?_) (fun hc24 => ?_)
        · replace hf := ite_t hf hc24
          refine lv_iconst (v := 2) hx hb dX5_move_75 (by decide) ?_
          exact J76_14 2 hf _ _ _ hv (lv_sub hl [1, 2, 3, 4] rfl)
        · replace hf := ite_f hf hc24
          refine lv_iconst (v := 0) hx hb dX5_move_71 (by decide) ?_
          refine lv_goto (tgt := 76) hx hb dX5_move_72 (by decide) ?_
          exact J76_14 0 hf _ _ _ hv (lv_sub hl [1, 2, 3, 4] rfl)
      · replace hf := ite_t hf hc13
        refine lv_iconst (v := 1) hx hb dX5_move_62 (by decide) ?_
        refine lv_goto (tgt := 76) hx hb dX5_move_63 (by decide) ?_
        exact J76_14 1 hf _ _ _ hv (lv_sub hl [1, 2, 3, 4] rfl)
    refine xj_elim hf (fun j50_25 ej50_25 hf => ?_)
    have J50_25 : ∀ (u : Unit), j50_25 u = some (r, wf_thrown, wA_begins, wA_ends, wA_isAccepted) → ∀ (H : Heap) (locs : List Loc) (ls : Array Slot), Hv s H locs G cy A [(aT, .inr (5, [.int f_thrown, .int f_many, .ref aT_begins, .ref aT_ends, .ref aT_weights, .ref aT_isThere, .ref aT_rooms, .int f_factor, .ref aT_isOffered, .ref aT_isAccepted, .int f_dropped, .ref aT_best, .ref aT_order, .ref aT_froms, .ref aT_tos, .ref aT_counts, .ref aT_points, .ref aT_flows, .ref aT_isUsed, .ref aT_gains, .ref aT_ways, .int f_pointMany])), (aT_begins, .inl (cy.1, 40, .inl A_begins)), (aT_ends, .inl (cy.1, 40, .inl A_ends)), (aT_isThere, .inl (cy.2.1, 40, .inl A_isThere)), (aT_isAccepted, .inl (cy.2.1, 40, .inl A_isAccepted))] → lv_has ls 6 [(0, .ref aT), (1, .int p1), (2, .int p2), (3, .int x5)] → W p l e rm_X5_move s m args below meth c H locs 0 0 Q (F0 m 50 ls []) := by
      intro u hf H locs ls hv hl
      rw [ej50_25] at hf
      try dsimp only at hf
      refine lv_iconst (v := 0) hx hb dX5_move_50 (by decide) ?_
      exact J51_9 0 hf _ _ _ hv (lv_sub hl [0, 1, 2, 3] rfl)
    refine lv_if_eq (tgt := 50) hx hb dX5_move_34 (by decide) (fun hc8 => ?_) (fun hc8 => ?_)
    · replace hf := ite_t hf hc8
      exact J50_25 () hf _ _ _ hv (lv_sub hl [1, 2, 3, 0] rfl)
    · replace hf := ite_f hf hc8
      refine lv_iload_n hx hb dX5_move_37 rfl (lv_at hl 3 rfl) ?_
      refine lv_iload_n hx hb dX5_move_38 rfl (lv_at hl 0 rfl) ?_
      refine lv_iadd hx hb dX5_move_39 ?_
      refine lv_sipush (v := 1000) hx hb dX5_move_40 (by decide) ?_
      refine lv_icmp_gt (tgt := 50) hx hb dX5_move_43 (by decide) (fun hc26 => ?_) (fun hc26 => ?_)
      · replace hf := ite_t hf hc26
        exact J50_25 () hf _ _ _ hv (lv_sub hl [1, 2, 3, 0] rfl)
      · replace hf := ite_f hf hc26
        refine lv_iconst (v := 1) hx hb dX5_move_46 (by decide) ?_
        refine lv_goto (tgt := 51) hx hb dX5_move_47 (by decide) ?_
        exact J51_9 1 hf _ _ _ hv (lv_sub hl [1, 2, 3, 0] rfl)
  refine lv_if_eq (tgt := 24) hx hb dX5_move_5 (by decide) (fun hc3 => ?_) (fun hc3 => ?_)
  · replace hf := ite_t hf hc3
    refine lv_iconst (v := 0) hx hb dX5_move_24 (by decide) ?_
    exact J25_4 0 hf _ _ _ hv (lv_sub hl [0, 1, 2] rfl)
  · replace hf := ite_f hf hc3
    refine lv_aload_n hx hb dX5_move_8 rfl (lv_at hl 0 rfl) ?_
    refine kGet (v := .ref aT_ends) (C := RX5) (T := TX5) (N := 22) hx hb hts hinX5 hown hv 0 rfl rfl 3 (by decide) hk13 (fun _ h9 => h9) rfl dX5_move_9 ?_
    refine lv_iload_n hx hb dX5_move_12 rfl (lv_at hl 1 rfl) ?_
    obtain ⟨hi27, hf⟩ := xi_some hf
    refine kIald hx hb hv 2 rfl hi27 dX5_move_13 ?_
    refine lv_aload_n hx hb dX5_move_14 rfl (lv_at hl 0 rfl) ?_
    refine kGet (v := .ref aT_begins) (C := RX5) (T := TX5) (N := 22) hx hb hts hinX5 hown hv 0 rfl rfl 2 (by decide) hk7 (fun _ h9 => h9) rfl dX5_move_15 ?_
    refine lv_iload_n hx hb dX5_move_18 rfl (lv_at hl 1 rfl) ?_
    obtain ⟨hi28, hf⟩ := xi_some hf
    refine kIald hx hb hv 1 rfl hi28 dX5_move_19 ?_
    refine lv_isub hx hb dX5_move_20 ?_
    refine lv_goto (tgt := 25) hx hb dX5_move_21 (by decide) ?_
    exact J25_4 ((A_ends p1.toNatClampNeg) - (A_begins p1.toNatClampNeg)) hf _ _ _ hv (lv_sub hl [0, 1, 2] rfl)

def f_X5_offer_L46 (k : Nat) (v1 : Int32) (f_many : Int32) (A_begins : Nat → Int32) (A_ends : Nat → Int32) (A_weights : Nat → Int32) (A_isAccepted : Nat → Int32) (κ : Int32 → Int32 → Option (Int32 × Int32 × Int32 × (Nat → Int32) × (Nat → Int32))) : Nat → Int32 → Int32 → Option (Int32 × Int32 × Int32 × (Nat → Int32) × (Nat → Int32))
  | 0, _, _ => none
  | n + 1, v2, v3 => if f_many ≤ v3 then κ v2 v3 else xi v3 40 (if (A_isAccepted v3.toNatClampNeg) = 0 then f_X5_offer_L46 k v1 f_many A_begins A_ends A_weights A_isAccepted κ n (v2 + 0) (v3 + 1) else xb (f_X5_overlap k v3 v1 A_begins A_ends) (fun r14 => if r14 = 0 then f_X5_offer_L46 k v1 f_many A_begins A_ends A_weights A_isAccepted κ n (v2 + 0) (v3 + 1) else xi v3 40 (f_X5_offer_L46 k v1 f_many A_begins A_ends A_weights A_isAccepted κ n (v2 + (A_weights v3.toNatClampNeg)) (v3 + 1))))
theorem f_X5_offer_L46_z (k : Nat) (v1 : Int32) (f_many : Int32) (A_begins : Nat → Int32) (A_ends : Nat → Int32) (A_weights : Nat → Int32) (A_isAccepted : Nat → Int32) (κ : Int32 → Int32 → Option (Int32 × Int32 × Int32 × (Nat → Int32) × (Nat → Int32))) (v2 : Int32) (v3 : Int32) : f_X5_offer_L46 k v1 f_many A_begins A_ends A_weights A_isAccepted κ 0 v2 v3 = none := rfl
theorem f_X5_offer_L46_s (k : Nat) (v1 : Int32) (f_many : Int32) (A_begins : Nat → Int32) (A_ends : Nat → Int32) (A_weights : Nat → Int32) (A_isAccepted : Nat → Int32) (κ : Int32 → Int32 → Option (Int32 × Int32 × Int32 × (Nat → Int32) × (Nat → Int32))) (n : Nat) (v2 : Int32) (v3 : Int32) : f_X5_offer_L46 k v1 f_many A_begins A_ends A_weights A_isAccepted κ (n + 1) v2 v3 = if f_many ≤ v3 then κ v2 v3 else xi v3 40 (if (A_isAccepted v3.toNatClampNeg) = 0 then f_X5_offer_L46 k v1 f_many A_begins A_ends A_weights A_isAccepted κ n (v2 + 0) (v3 + 1) else xb (f_X5_overlap k v3 v1 A_begins A_ends) (fun r14 => if r14 = 0 then f_X5_offer_L46 k v1 f_many A_begins A_ends A_weights A_isAccepted κ n (v2 + 0) (v3 + 1) else xi v3 40 (f_X5_offer_L46 k v1 f_many A_begins A_ends A_weights A_isAccepted κ n (v2 + (A_weights v3.toNatClampNeg)) (v3 + 1)))) := rfl
def f_X5_offer_L113 (k : Nat) (v1 : Int32) (v2 : Int32) (f_many : Int32) (A_begins : Nat → Int32) (A_ends : Nat → Int32) (κ : Int32 → (Nat → Int32) → Option (Int32 × Int32 × Int32 × (Nat → Int32) × (Nat → Int32))) : Nat → Int32 → (Nat → Int32) → Option (Int32 × Int32 × Int32 × (Nat → Int32) × (Nat → Int32))
  | 0, _, _ => none
  | n + 1, v3, A_isAccepted => if f_many ≤ v3 then κ v3 A_isAccepted else xi v3 40 (if (A_isAccepted v3.toNatClampNeg) = 0 then xi v3 40 (f_X5_offer_L113 k v1 v2 f_many A_begins A_ends κ n (v3 + 1) (upd A_isAccepted v3.toNatClampNeg (vp_nar .boolean 0))) else xb (f_X5_overlap k v3 v1 A_begins A_ends) (fun r26 => if r26 = 0 then xi v3 40 (f_X5_offer_L113 k v1 v2 f_many A_begins A_ends κ n (v3 + 1) (upd A_isAccepted v3.toNatClampNeg (vp_nar .boolean 1))) else xi v3 40 (f_X5_offer_L113 k v1 v2 f_many A_begins A_ends κ n (v3 + 1) (upd A_isAccepted v3.toNatClampNeg (vp_nar .boolean 0)))))
theorem f_X5_offer_L113_z (k : Nat) (v1 : Int32) (v2 : Int32) (f_many : Int32) (A_begins : Nat → Int32) (A_ends : Nat → Int32) (κ : Int32 → (Nat → Int32) → Option (Int32 × Int32 × Int32 × (Nat → Int32) × (Nat → Int32))) (v3 : Int32) (A_isAccepted : Nat → Int32) : f_X5_offer_L113 k v1 v2 f_many A_begins A_ends κ 0 v3 A_isAccepted = none := rfl
theorem f_X5_offer_L113_s (k : Nat) (v1 : Int32) (v2 : Int32) (f_many : Int32) (A_begins : Nat → Int32) (A_ends : Nat → Int32) (κ : Int32 → (Nat → Int32) → Option (Int32 × Int32 × Int32 × (Nat → Int32) × (Nat → Int32))) (n : Nat) (v3 : Int32) (A_isAccepted : Nat → Int32) : f_X5_offer_L113 k v1 v2 f_many A_begins A_ends κ (n + 1) v3 A_isAccepted = if f_many ≤ v3 then κ v3 A_isAccepted else xi v3 40 (if (A_isAccepted v3.toNatClampNeg) = 0 then xi v3 40 (f_X5_offer_L113 k v1 v2 f_many A_begins A_ends κ n (v3 + 1) (upd A_isAccepted v3.toNatClampNeg (vp_nar .boolean 0))) else xb (f_X5_overlap k v3 v1 A_begins A_ends) (fun r26 => if r26 = 0 then xi v3 40 (f_X5_offer_L113 k v1 v2 f_many A_begins A_ends κ n (v3 + 1) (upd A_isAccepted v3.toNatClampNeg (vp_nar .boolean 1))) else xi v3 40 (f_X5_offer_L113 k v1 v2 f_many A_begins A_ends κ n (v3 + 1) (upd A_isAccepted v3.toNatClampNeg (vp_nar .boolean 0))))) := rfl
def f_X5_offer (k : Nat) (p1 : Int32) (f_thrown : Int32) (f_many : Int32) (f_factor : Int32) (f_dropped : Int32) (A_begins : Nat → Int32) (A_ends : Nat → Int32) (A_weights : Nat → Int32) (A_isThere : Nat → Int32) (A_isOffered : Nat → Int32) (A_isAccepted : Nat → Int32) : Option (Int32 × Int32 × Int32 × (Nat → Int32) × (Nat → Int32)) := xb (f_X5_is k p1 f_many A_isThere) (fun r1 => xj (fun (x5 : Int32) => xb (f_X5_goesWell k x5 f_thrown) (fun (r6, f_thrown_7) => if r6 = 0 then some (0, f_thrown_7, f_dropped, A_isOffered, A_isAccepted) else xi p1 40 (f_X5_offer_L46 k p1 f_many A_begins A_ends A_weights A_isAccepted (fun (v2_18 : Int32) (v3_19 : Int32) => xi p1 40 (if (f_factor * v2_18) < (100 * (A_weights p1.toNatClampNeg)) then f_X5_offer_L113 k p1 v2_18 f_many A_begins A_ends (fun (v3_31 : Int32) (A_isAccepted_32 : Nat → Int32) => xi p1 40 (some (v2_18, f_thrown_7, f_dropped + v2_18, upd A_isOffered p1.toNatClampNeg (vp_nar .boolean 1), upd A_isAccepted_32 p1.toNatClampNeg (vp_nar .boolean 1)))) k 0 A_isAccepted else some ((-1), f_thrown_7, f_dropped, upd A_isOffered p1.toNatClampNeg (vp_nar .boolean 1), A_isAccepted))) k 0 0))) (fun (j27_4 : Int32 → Option (Int32 × Int32 × Int32 × (Nat → Int32) × (Nat → Int32))) => if r1 = 0 then j27_4 1 else xi p1 40 (if (A_isOffered p1.toNatClampNeg) = 0 then j27_4 0 else j27_4 2)))
abbrev rm_X5_offer : Room := { frames := 2, cells := 0, slots := 0, locals := 43 }
set_option maxHeartbeats 4000000 in
set_option maxRecDepth 100000 in
theorem c_X5_offer (l : Launch) (G : va_G) (cy : ClassId × ClassId × ClassId) (k : Nat) (aT aT_begins aT_ends aT_weights aT_isThere aT_rooms aT_isOffered aT_isAccepted aT_best aT_order aT_froms aT_tos aT_counts aT_points aT_flows aT_isUsed aT_gains aT_ways : Nat) (f_thrown : Int32) (f_many : Int32) (f_factor : Int32) (f_dropped : Int32) (f_pointMany : Int32) (A_begins : Nat → Int32) (A_ends : Nat → Int32) (A_weights : Nat → Int32) (A_isThere : Nat → Int32) (A_isOffered : Nat → Int32) (A_isAccepted : Nat → Int32) (p1 : Int32) {r : Int32} {wf_thrown : Int32} {wf_dropped : Int32} {wA_isOffered : Nat → Int32} {wA_isAccepted : Nat → Int32} (hf : f_X5_offer k p1 f_thrown f_many f_factor f_dropped A_begins A_ends A_weights A_isThere A_isOffered A_isAccepted = some (r, wf_thrown, wf_dropped, wA_isOffered, wA_isAccepted)) : Ci l yX5_offer wsX5_offer rm_X5_offer 0 0 G cy [.ref aT, .int p1] [(aT, .inr (5, [.int f_thrown, .int f_many, .ref aT_begins, .ref aT_ends, .ref aT_weights, .ref aT_isThere, .ref aT_rooms, .int f_factor, .ref aT_isOffered, .ref aT_isAccepted, .int f_dropped, .ref aT_best, .ref aT_order, .ref aT_froms, .ref aT_tos, .ref aT_counts, .ref aT_points, .ref aT_flows, .ref aT_isUsed, .ref aT_gains, .ref aT_ways, .int f_pointMany])), (aT_begins, .inl (cy.1, 40, .inl A_begins)), (aT_ends, .inl (cy.1, 40, .inl A_ends)), (aT_weights, .inl (cy.1, 40, .inl A_weights)), (aT_isThere, .inl (cy.2.1, 40, .inl A_isThere)), (aT_isOffered, .inl (cy.2.1, 40, .inl A_isOffered)), (aT_isAccepted, .inl (cy.2.1, 40, .inl A_isAccepted))] [(aT, .inr (5, [.int wf_thrown, .int f_many, .ref aT_begins, .ref aT_ends, .ref aT_weights, .ref aT_isThere, .ref aT_rooms, .int f_factor, .ref aT_isOffered, .ref aT_isAccepted, .int wf_dropped, .ref aT_best, .ref aT_order, .ref aT_froms, .ref aT_tos, .ref aT_counts, .ref aT_points, .ref aT_flows, .ref aT_isUsed, .ref aT_gains, .ref aT_ways, .int f_pointMany])), (aT_begins, .inl (cy.1, 40, .inl A_begins)), (aT_ends, .inl (cy.1, 40, .inl A_ends)), (aT_weights, .inl (cy.1, 40, .inl A_weights)), (aT_isThere, .inl (cy.2.1, 40, .inl A_isThere)), (aT_isOffered, .inl (cy.2.1, 40, .inl wA_isOffered)), (aT_isAccepted, .inl (cy.2.1, 40, .inl wA_isAccepted))] r := by
  refine kMetI (cc := cX5_offer) (maxL := 4) (by decide) rfl (Nat.le_of_ble_eq_true rfl) ?_
  intro p e s m args below meth c Q A ls hx hb hml hts hown hv hl kret
  replace hown : s.vm.findClass RX5 = some m.cls := hown
  replace hl : lv_has ls 4 [(0, .ref aT), (1, .int p1)] := hl
  have hk30 : (Cond.fieldLink RX5 30 "RoomcolourModel" "isOffered" "[Z").before args s = true := hts _ (by decide +kernel)
  have hinX5 : ∀ w ∈ wsX50, w ∈ wsX5_offer := by decide +kernel
  have hk69 : (Cond.fieldLink RX5 69 "RoomcolourModel" "many" "I").before args s = true := hts _ (by decide +kernel)
  have hk33 : (Cond.fieldLink RX5 33 "RoomcolourModel" "isAccepted" "[Z").before args s = true := hts _ (by decide +kernel)
  have hk16 : (Cond.fieldLink RX5 16 "RoomcolourModel" "weights" "[I").before args s = true := hts _ (by decide +kernel)
  have hk26 : (Cond.fieldLink RX5 26 "RoomcolourModel" "factor" "I").before args s = true := hts _ (by decide +kernel)
  have hk141 : (Cond.fieldLink RX5 141 "RoomcolourModel" "dropped" "I").before args s = true := hts _ (by decide +kernel)
  have L46 : ∀ (v1 : Int32) (A_isAccepted : Nat → Int32) (f_thrown : Int32) (f_dropped : Int32) (A_isOffered : Nat → Int32) (κ : Int32 → Int32 → Option (Int32 × Int32 × Int32 × (Nat → Int32) × (Nat → Int32))) (n : Nat) (v2 : Int32) (v3 : Int32), f_X5_offer_L46 k v1 f_many A_begins A_ends A_weights A_isAccepted κ n v2 v3 = some (r, wf_thrown, wf_dropped, wA_isOffered, wA_isAccepted) → ∀ (H : Heap) (locs : List Loc) (ls : Array Slot), Hv s H locs G cy A [(aT, .inr (5, [.int f_thrown, .int f_many, .ref aT_begins, .ref aT_ends, .ref aT_weights, .ref aT_isThere, .ref aT_rooms, .int f_factor, .ref aT_isOffered, .ref aT_isAccepted, .int f_dropped, .ref aT_best, .ref aT_order, .ref aT_froms, .ref aT_tos, .ref aT_counts, .ref aT_points, .ref aT_flows, .ref aT_isUsed, .ref aT_gains, .ref aT_ways, .int f_pointMany])), (aT_begins, .inl (cy.1, 40, .inl A_begins)), (aT_ends, .inl (cy.1, 40, .inl A_ends)), (aT_weights, .inl (cy.1, 40, .inl A_weights)), (aT_isThere, .inl (cy.2.1, 40, .inl A_isThere)), (aT_isOffered, .inl (cy.2.1, 40, .inl A_isOffered)), (aT_isAccepted, .inl (cy.2.1, 40, .inl A_isAccepted))] → lv_has ls 4 [(0, .ref aT), (1, .int v1), (2, .int v2), (3, .int v3)] → (∀ (v2 : Int32) (v3 : Int32), κ v2 v3 = some (r, wf_thrown, wf_dropped, wA_isOffered, wA_isAccepted) → ∀ (H : Heap) (locs : List Loc) (ls : Array Slot), Hv s H locs G cy A [(aT, .inr (5, [.int f_thrown, .int f_many, .ref aT_begins, .ref aT_ends, .ref aT_weights, .ref aT_isThere, .ref aT_rooms, .int f_factor, .ref aT_isOffered, .ref aT_isAccepted, .int f_dropped, .ref aT_best, .ref aT_order, .ref aT_froms, .ref aT_tos, .ref aT_counts, .ref aT_points, .ref aT_flows, .ref aT_isUsed, .ref aT_gains, .ref aT_ways, .int f_pointMany])), (aT_begins, .inl (cy.1, 40, .inl A_begins)), (aT_ends, .inl (cy.1, 40, .inl A_ends)), (aT_weights, .inl (cy.1, 40, .inl A_weights)), (aT_isThere, .inl (cy.2.1, 40, .inl A_isThere)), (aT_isOffered, .inl (cy.2.1, 40, .inl A_isOffered)), (aT_isAccepted, .inl (cy.2.1, 40, .inl A_isAccepted))] → lv_has ls 4 [(0, .ref aT), (1, .int v1), (2, .int v2)] → W p l e rm_X5_offer s m args below meth c H locs 0 0 Q (F0 m 91 ls [])) → W p l e rm_X5_offer s m args below meth c H locs 0 0 Q (F0 m 46 ls []) := by
    intro v1 A_isAccepted f_thrown f_dropped A_isOffered κ n
    induction n with
    | zero =>
      intro v2 v3 hf
      rw [f_X5_offer_L46_z] at hf
      cases hf
    | succ n ih =>
      intro v2 v3 hf H locs ls hv hl hκ
      rw [f_X5_offer_L46_s] at hf
      refine lv_iload_n hx hb dX5_offer_46 rfl (lv_at hl 3 rfl) ?_
      refine lv_aload_n hx hb dX5_offer_47 rfl (lv_at hl 0 rfl) ?_
      refine kGet (v := .int f_many) (C := RX5) (T := TX5) (N := 22) hx hb hts hinX5 hown hv 0 rfl rfl 1 (by decide) hk69 (fun _ h9 => h9) rfl dX5_offer_48 ?_
      refine lv_icmp_ge (tgt := 91) hx hb dX5_offer_51 (by decide) (fun hc11 => ?_) (fun hc11 => ?_)
      · replace hf := ite_t hf hc11
        exact hκ v2 v3 hf _ _ _ hv (lv_sub hl [0, 1, 2] rfl)
      · replace hf := ite_f hf hc11
        refine lv_iload_n hx hb dX5_offer_54 rfl (lv_at hl 2 rfl) ?_
        refine lv_aload_n hx hb dX5_offer_55 rfl (lv_at hl 0 rfl) ?_
        refine kGet (v := .ref aT_isAccepted) (C := RX5) (T := TX5) (N := 22) hx hb hts hinX5 hown hv 0 rfl rfl 9 (by decide) hk33 (fun _ h9 => h9) rfl dX5_offer_56 ?_
        refine lv_iload_n hx hb dX5_offer_59 rfl (lv_at hl 3 rfl) ?_
        obtain ⟨hi12, hf⟩ := xi_some hf
        refine kZald hx hb hv 6 rfl hi12 dX5_offer_60 ?_
        refine lv_if_eq (tgt := 82) hx hb dX5_offer_61 (by decide) (fun hc13 => ?_) (fun hc13 => ?_)
        · replace hf := ite_t hf hc13
          refine lv_iconst (v := 0) hx hb dX5_offer_82 (by decide) ?_
          refine lv_iadd hx hb dX5_offer_83 ?_
          refine lv_istore_n (lv' := [(2, .int (v2 + 0)), (0, .ref aT), (1, .int v1), (3, .int v3)]) hx hb dX5_offer_84 rfl hl (by decide) rfl (fun ls hl => ?_)
          refine lv_iinc (v := v3 + 1) (lv' := [(3, .int (v3 + 1)), (2, .int (v2 + 0)), (0, .ref aT), (1, .int v1)]) hx hb dX5_offer_85 hl (k := 3) rfl rfl (by decide) rfl (fun ls hl => ?_)
          refine lv_goto (tgt := 46) hx hb dX5_offer_88 (by decide) ?_
          exact ih (v2 + 0) (v3 + 1) hf _ _ _ hv (lv_sub hl [2, 3, 1, 0] rfl) hκ
        · replace hf := ite_f hf hc13
          refine lv_aload_n hx hb dX5_offer_64 rfl (lv_at hl 0 rfl) ?_
          refine lv_iload_n hx hb dX5_offer_65 rfl (lv_at hl 3 rfl) ?_
          refine lv_iload_n hx hb dX5_offer_66 rfl (lv_at hl 1 rfl) ?_
          obtain ⟨r14, hcl15, hf⟩ := xb_some hf
          refine kV_i (r := r14) (wr := [(aT_weights, .inl (cy.1, 40, .inl A_weights)), (aT_isThere, .inl (cy.2.1, 40, .inl A_isThere)), (aT_isOffered, .inl (cy.2.1, 40, .inl A_isOffered)), (aT_isAccepted, .inl (cy.2.1, 40, .inl A_isAccepted))]) (w2 := [(aT, .inr (5, [.int f_thrown, .int f_many, .ref aT_begins, .ref aT_ends, .ref aT_weights, .ref aT_isThere, .ref aT_rooms, .int f_factor, .ref aT_isOffered, .ref aT_isAccepted, .int f_dropped, .ref aT_best, .ref aT_order, .ref aT_froms, .ref aT_tos, .ref aT_counts, .ref aT_points, .ref aT_flows, .ref aT_isUsed, .ref aT_gains, .ref aT_ways, .int f_pointMany])), (aT_begins, .inl (cy.1, 40, .inl A_begins)), (aT_ends, .inl (cy.1, 40, .inl A_ends)), (aT_weights, .inl (cy.1, 40, .inl A_weights)), (aT_isThere, .inl (cy.2.1, 40, .inl A_isThere)), (aT_isOffered, .inl (cy.2.1, 40, .inl A_isOffered)), (aT_isAccepted, .inl (cy.2.1, 40, .inl A_isAccepted))]) ⟨hx, hb, hml, hown, hts⟩ (c_X5_overlap l G cy k aT aT_begins aT_ends aT_weights aT_isThere aT_rooms aT_isOffered aT_isAccepted aT_best aT_order aT_froms aT_tos aT_counts aT_points aT_flows aT_isUsed aT_gains aT_ways f_thrown f_many f_factor f_dropped f_pointMany A_begins A_ends v3 v1 hcl15) (cwV 2 hts gX5_offer_X5_overlap rfl rfl rfl (by decide +kernel) ⟨Nat.le_of_ble_eq_true rfl, Nat.le_of_ble_eq_true rfl⟩) hv (isC := [0, 1, 2]) ⟨rfl, rfl⟩ (hv.recv 5 0 rfl rfl) [3, 4, 5, 6] [4, 5, 6, 0, 1, 2, 3] rfl rfl (by decide) rfl rfl rfl hl.1 rfl (Nat.le_of_ble_eq_true rfl) dX5_offer_67 ⟨Nat.le_of_ble_eq_true rfl, Nat.le_of_ble_eq_true rfl⟩ (fun H locs hv => ?_)
          refine lv_if_eq (tgt := 82) hx hb dX5_offer_70 (by decide) (fun hc16 => ?_) (fun hc16 => ?_)
          · replace hf := ite_t hf hc16
            refine lv_iconst (v := 0) hx hb dX5_offer_82 (by decide) ?_
            refine lv_iadd hx hb dX5_offer_83 ?_
            refine lv_istore_n (lv' := [(2, .int (v2 + 0)), (0, .ref aT), (1, .int v1), (3, .int v3)]) hx hb dX5_offer_84 rfl hl (by decide) rfl (fun ls hl => ?_)
            refine lv_iinc (v := v3 + 1) (lv' := [(3, .int (v3 + 1)), (2, .int (v2 + 0)), (0, .ref aT), (1, .int v1)]) hx hb dX5_offer_85 hl (k := 3) rfl rfl (by decide) rfl (fun ls hl => ?_)
            refine lv_goto (tgt := 46) hx hb dX5_offer_88 (by decide) ?_
            exact ih (v2 + 0) (v3 + 1) hf _ _ _ hv (lv_sub hl [2, 3, 1, 0] rfl) hκ
          · replace hf := ite_f hf hc16
            refine lv_aload_n hx hb dX5_offer_73 rfl (lv_at hl 0 rfl) ?_
            refine kGet (v := .ref aT_weights) (C := RX5) (T := TX5) (N := 22) hx hb hts hinX5 hown hv 0 rfl rfl 4 (by decide) hk16 (fun _ h9 => h9) rfl dX5_offer_74 ?_
            refine lv_iload_n hx hb dX5_offer_77 rfl (lv_at hl 3 rfl) ?_
            obtain ⟨hi17, hf⟩ := xi_some hf
            refine kIald hx hb hv 3 rfl hi17 dX5_offer_78 ?_
            refine lv_goto (tgt := 83) hx hb dX5_offer_79 (by decide) ?_
            refine lv_iadd hx hb dX5_offer_83 ?_
            refine lv_istore_n (lv' := [(2, .int (v2 + (A_weights v3.toNatClampNeg))), (0, .ref aT), (1, .int v1), (3, .int v3)]) hx hb dX5_offer_84 rfl hl (by decide) rfl (fun ls hl => ?_)
            refine lv_iinc (v := v3 + 1) (lv' := [(3, .int (v3 + 1)), (2, .int (v2 + (A_weights v3.toNatClampNeg))), (0, .ref aT), (1, .int v1)]) hx hb dX5_offer_85 hl (k := 3) rfl rfl (by decide) rfl (fun ls hl => ?_)
            refine lv_goto (tgt := 46) hx hb dX5_offer_88 (by decide) ?_
            exact ih (v2 + (A_weights v3.toNatClampNeg)) (v3 + 1) hf _ _ _ hv (lv_sub hl [2, 3, 1, 0] rfl) hκ
  have L113 : ∀ (v1 : Int32) (v2 : Int32) (f_thrown : Int32) (f_dropped : Int32) (A_isOffered : Nat → Int32) (κ : Int32 → (Nat → Int32) → Option (Int32 × Int32 × Int32 × (Nat → Int32) × (Nat → Int32))) (n : Nat) (v3 : Int32) (A_isAccepted : Nat → Int32), f_X5_offer_L113 k v1 v2 f_many A_begins A_ends κ n v3 A_isAccepted = some (r, wf_thrown, wf_dropped, wA_isOffered, wA_isAccepted) → ∀ (H : Heap) (locs : List Loc) (ls : Array Slot), Hv s H locs G cy A [(aT, .inr (5, [.int f_thrown, .int f_many, .ref aT_begins, .ref aT_ends, .ref aT_weights, .ref aT_isThere, .ref aT_rooms, .int f_factor, .ref aT_isOffered, .ref aT_isAccepted, .int f_dropped, .ref aT_best, .ref aT_order, .ref aT_froms, .ref aT_tos, .ref aT_counts, .ref aT_points, .ref aT_flows, .ref aT_isUsed, .ref aT_gains, .ref aT_ways, .int f_pointMany])), (aT_begins, .inl (cy.1, 40, .inl A_begins)), (aT_ends, .inl (cy.1, 40, .inl A_ends)), (aT_weights, .inl (cy.1, 40, .inl A_weights)), (aT_isThere, .inl (cy.2.1, 40, .inl A_isThere)), (aT_isOffered, .inl (cy.2.1, 40, .inl A_isOffered)), (aT_isAccepted, .inl (cy.2.1, 40, .inl A_isAccepted))] → lv_has ls 4 [(0, .ref aT), (1, .int v1), (2, .int v2), (3, .int v3)] → (∀ (v3 : Int32) (A_isAccepted : Nat → Int32), κ v3 A_isAccepted = some (r, wf_thrown, wf_dropped, wA_isOffered, wA_isAccepted) → ∀ (H : Heap) (locs : List Loc) (ls : Array Slot), Hv s H locs G cy A [(aT, .inr (5, [.int f_thrown, .int f_many, .ref aT_begins, .ref aT_ends, .ref aT_weights, .ref aT_isThere, .ref aT_rooms, .int f_factor, .ref aT_isOffered, .ref aT_isAccepted, .int f_dropped, .ref aT_best, .ref aT_order, .ref aT_froms, .ref aT_tos, .ref aT_counts, .ref aT_points, .ref aT_flows, .ref aT_isUsed, .ref aT_gains, .ref aT_ways, .int f_pointMany])), (aT_begins, .inl (cy.1, 40, .inl A_begins)), (aT_ends, .inl (cy.1, 40, .inl A_ends)), (aT_weights, .inl (cy.1, 40, .inl A_weights)), (aT_isThere, .inl (cy.2.1, 40, .inl A_isThere)), (aT_isOffered, .inl (cy.2.1, 40, .inl A_isOffered)), (aT_isAccepted, .inl (cy.2.1, 40, .inl A_isAccepted))] → lv_has ls 4 [(0, .ref aT), (1, .int v1), (2, .int v2)] → W p l e rm_X5_offer s m args below meth c H locs 0 0 Q (F0 m 156 ls [])) → W p l e rm_X5_offer s m args below meth c H locs 0 0 Q (F0 m 113 ls []) := by
    intro v1 v2 f_thrown f_dropped A_isOffered κ n
    induction n with
    | zero =>
      intro v3 A_isAccepted hf
      rw [f_X5_offer_L113_z] at hf
      cases hf
    | succ n ih =>
      intro v3 A_isAccepted hf H locs ls hv hl hκ
      rw [f_X5_offer_L113_s] at hf
      refine lv_iload_n hx hb dX5_offer_113 rfl (lv_at hl 3 rfl) ?_
      refine lv_aload_n hx hb dX5_offer_114 rfl (lv_at hl 0 rfl) ?_
      refine kGet (v := .int f_many) (C := RX5) (T := TX5) (N := 22) hx hb hts hinX5 hown hv 0 rfl rfl 1 (by decide) hk69 (fun _ h9 => h9) rfl dX5_offer_115 ?_
      refine lv_icmp_ge (tgt := 156) hx hb dX5_offer_118 (by decide) (fun hc22 => ?_) (fun hc22 => ?_)
      · replace hf := ite_t hf hc22
        exact hκ v3 A_isAccepted hf _ _ _ hv (lv_sub hl [0, 1, 2] rfl)
      · replace hf := ite_f hf hc22
        refine lv_aload_n hx hb dX5_offer_121 rfl (lv_at hl 0 rfl) ?_
        refine kGet (v := .ref aT_isAccepted) (C := RX5) (T := TX5) (N := 22) hx hb hts hinX5 hown hv 0 rfl rfl 9 (by decide) hk33 (fun _ h9 => h9) rfl dX5_offer_122 ?_
        refine lv_iload_n hx hb dX5_offer_125 rfl (lv_at hl 3 rfl) ?_
        refine lv_aload_n hx hb dX5_offer_126 rfl (lv_at hl 0 rfl) ?_
        refine kGet (v := .ref aT_isAccepted) (C := RX5) (T := TX5) (N := 22) hx hb hts hinX5 hown hv 0 rfl rfl 9 (by decide) hk33 (fun _ h9 => h9) rfl dX5_offer_127 ?_
        refine lv_iload_n hx hb dX5_offer_130 rfl (lv_at hl 3 rfl) ?_
        obtain ⟨hi23, hf⟩ := xi_some hf
        refine kZald hx hb hv 6 rfl hi23 dX5_offer_131 ?_
        refine lv_if_eq (tgt := 148) hx hb dX5_offer_132 (by decide) (fun hc24 => ?_) (fun hc24 => ?_)
        · replace hf := ite_t hf hc24
          refine lv_iconst (v := 0) hx hb dX5_offer_148 (by decide) ?_
          obtain ⟨hi25, hf⟩ := xi_some hf
          refine kZast hx hb hv 6 rfl hi25 dX5_offer_149 (fun H locs hv => ?_)
          replace hv : Hv s H locs G cy A [(aT, .inr (5, [.int f_thrown, .int f_many, .ref aT_begins, .ref aT_ends, .ref aT_weights, .ref aT_isThere, .ref aT_rooms, .int f_factor, .ref aT_isOffered, .ref aT_isAccepted, .int f_dropped, .ref aT_best, .ref aT_order, .ref aT_froms, .ref aT_tos, .ref aT_counts, .ref aT_points, .ref aT_flows, .ref aT_isUsed, .ref aT_gains, .ref aT_ways, .int f_pointMany])), (aT_begins, .inl (cy.1, 40, .inl A_begins)), (aT_ends, .inl (cy.1, 40, .inl A_ends)), (aT_weights, .inl (cy.1, 40, .inl A_weights)), (aT_isThere, .inl (cy.2.1, 40, .inl A_isThere)), (aT_isOffered, .inl (cy.2.1, 40, .inl A_isOffered)), (aT_isAccepted, .inl (cy.2.1, 40, .inl (upd A_isAccepted v3.toNatClampNeg (vp_nar .boolean 0))))] := hv
          refine lv_iinc (v := v3 + 1) (lv' := [(3, .int (v3 + 1)), (0, .ref aT), (1, .int v1), (2, .int v2)]) hx hb dX5_offer_150 hl (k := 3) rfl rfl (by decide) rfl (fun ls hl => ?_)
          refine lv_goto (tgt := 113) hx hb dX5_offer_153 (by decide) ?_
          exact ih (v3 + 1) (upd A_isAccepted v3.toNatClampNeg (vp_nar .boolean 0)) hf _ _ _ hv (lv_sub hl [1, 2, 3, 0] rfl) hκ
        · replace hf := ite_f hf hc24
          refine lv_aload_n hx hb dX5_offer_135 rfl (lv_at hl 0 rfl) ?_
          refine lv_iload_n hx hb dX5_offer_136 rfl (lv_at hl 3 rfl) ?_
          refine lv_iload_n hx hb dX5_offer_137 rfl (lv_at hl 1 rfl) ?_
          obtain ⟨r26, hcl27, hf⟩ := xb_some hf
          refine kV_i (r := r26) (wr := [(aT_weights, .inl (cy.1, 40, .inl A_weights)), (aT_isThere, .inl (cy.2.1, 40, .inl A_isThere)), (aT_isOffered, .inl (cy.2.1, 40, .inl A_isOffered)), (aT_isAccepted, .inl (cy.2.1, 40, .inl A_isAccepted))]) (w2 := [(aT, .inr (5, [.int f_thrown, .int f_many, .ref aT_begins, .ref aT_ends, .ref aT_weights, .ref aT_isThere, .ref aT_rooms, .int f_factor, .ref aT_isOffered, .ref aT_isAccepted, .int f_dropped, .ref aT_best, .ref aT_order, .ref aT_froms, .ref aT_tos, .ref aT_counts, .ref aT_points, .ref aT_flows, .ref aT_isUsed, .ref aT_gains, .ref aT_ways, .int f_pointMany])), (aT_begins, .inl (cy.1, 40, .inl A_begins)), (aT_ends, .inl (cy.1, 40, .inl A_ends)), (aT_weights, .inl (cy.1, 40, .inl A_weights)), (aT_isThere, .inl (cy.2.1, 40, .inl A_isThere)), (aT_isOffered, .inl (cy.2.1, 40, .inl A_isOffered)), (aT_isAccepted, .inl (cy.2.1, 40, .inl A_isAccepted))]) ⟨hx, hb, hml, hown, hts⟩ (c_X5_overlap l G cy k aT aT_begins aT_ends aT_weights aT_isThere aT_rooms aT_isOffered aT_isAccepted aT_best aT_order aT_froms aT_tos aT_counts aT_points aT_flows aT_isUsed aT_gains aT_ways f_thrown f_many f_factor f_dropped f_pointMany A_begins A_ends v3 v1 hcl27) (cwV 2 hts gX5_offer_X5_overlap rfl rfl rfl (by decide +kernel) ⟨Nat.le_of_ble_eq_true rfl, Nat.le_of_ble_eq_true rfl⟩) hv (isC := [0, 1, 2]) ⟨rfl, rfl⟩ (hv.recv 5 0 rfl rfl) [3, 4, 5, 6] [4, 5, 6, 0, 1, 2, 3] rfl rfl (by decide) rfl rfl rfl hl.1 rfl (Nat.le_of_ble_eq_true rfl) dX5_offer_138 ⟨Nat.le_of_ble_eq_true rfl, Nat.le_of_ble_eq_true rfl⟩ (fun H locs hv => ?_)
          refine lv_if_ne (tgt := 148) hx hb dX5_offer_141 (by decide) (fun hc28 => ?_) (fun hc28 => ?_)
          · replace hf := ite_f hf hc28
            refine lv_iconst (v := 0) hx hb dX5_offer_148 (by decide) ?_
            obtain ⟨hi29, hf⟩ := xi_some hf
            refine kZast hx hb hv 6 rfl hi29 dX5_offer_149 (fun H locs hv => ?_)
            replace hv : Hv s H locs G cy A [(aT, .inr (5, [.int f_thrown, .int f_many, .ref aT_begins, .ref aT_ends, .ref aT_weights, .ref aT_isThere, .ref aT_rooms, .int f_factor, .ref aT_isOffered, .ref aT_isAccepted, .int f_dropped, .ref aT_best, .ref aT_order, .ref aT_froms, .ref aT_tos, .ref aT_counts, .ref aT_points, .ref aT_flows, .ref aT_isUsed, .ref aT_gains, .ref aT_ways, .int f_pointMany])), (aT_begins, .inl (cy.1, 40, .inl A_begins)), (aT_ends, .inl (cy.1, 40, .inl A_ends)), (aT_weights, .inl (cy.1, 40, .inl A_weights)), (aT_isThere, .inl (cy.2.1, 40, .inl A_isThere)), (aT_isOffered, .inl (cy.2.1, 40, .inl A_isOffered)), (aT_isAccepted, .inl (cy.2.1, 40, .inl (upd A_isAccepted v3.toNatClampNeg (vp_nar .boolean 0))))] := hv
            refine lv_iinc (v := v3 + 1) (lv' := [(3, .int (v3 + 1)), (0, .ref aT), (1, .int v1), (2, .int v2)]) hx hb dX5_offer_150 hl (k := 3) rfl rfl (by decide) rfl (fun ls hl => ?_)
            refine lv_goto (tgt := 113) hx hb dX5_offer_153 (by decide) ?_
            exact ih (v3 + 1) (upd A_isAccepted v3.toNatClampNeg (vp_nar .boolean 0)) hf _ _ _ hv (lv_sub hl [1, 2, 3, 0] rfl) hκ
          · replace hf := ite_t hf hc28
            refine lv_iconst (v := 1) hx hb dX5_offer_144 (by decide) ?_
            refine lv_goto (tgt := 149) hx hb dX5_offer_145 (by decide) ?_
            obtain ⟨hi30, hf⟩ := xi_some hf
            refine kZast hx hb hv 6 rfl hi30 dX5_offer_149 (fun H locs hv => ?_)
            replace hv : Hv s H locs G cy A [(aT, .inr (5, [.int f_thrown, .int f_many, .ref aT_begins, .ref aT_ends, .ref aT_weights, .ref aT_isThere, .ref aT_rooms, .int f_factor, .ref aT_isOffered, .ref aT_isAccepted, .int f_dropped, .ref aT_best, .ref aT_order, .ref aT_froms, .ref aT_tos, .ref aT_counts, .ref aT_points, .ref aT_flows, .ref aT_isUsed, .ref aT_gains, .ref aT_ways, .int f_pointMany])), (aT_begins, .inl (cy.1, 40, .inl A_begins)), (aT_ends, .inl (cy.1, 40, .inl A_ends)), (aT_weights, .inl (cy.1, 40, .inl A_weights)), (aT_isThere, .inl (cy.2.1, 40, .inl A_isThere)), (aT_isOffered, .inl (cy.2.1, 40, .inl A_isOffered)), (aT_isAccepted, .inl (cy.2.1, 40, .inl (upd A_isAccepted v3.toNatClampNeg (vp_nar .boolean 1))))] := hv
            refine lv_iinc (v := v3 + 1) (lv' := [(3, .int (v3 + 1)), (0, .ref aT), (1, .int v1), (2, .int v2)]) hx hb dX5_offer_150 hl (k := 3) rfl rfl (by decide) rfl (fun ls hl => ?_)
            refine lv_goto (tgt := 113) hx hb dX5_offer_153 (by decide) ?_
            exact ih (v3 + 1) (upd A_isAccepted v3.toNatClampNeg (vp_nar .boolean 1)) hf _ _ _ hv (lv_sub hl [1, 2, 3, 0] rfl) hκ
  unfold f_X5_offer at hf
  refine lv_aload_n hx hb dX5_offer_0 rfl (lv_at hl 0 rfl) ?_
  refine lv_aload_n hx hb dX5_offer_1 rfl (lv_at hl 0 rfl) ?_
  refine lv_iload_n hx hb dX5_offer_2 rfl (lv_at hl 1 rfl) ?_
  obtain ⟨r1, hcl2, hf⟩ := xb_some hf
  refine kV_i (r := r1) (wr := [(aT_begins, .inl (cy.1, 40, .inl A_begins)), (aT_ends, .inl (cy.1, 40, .inl A_ends)), (aT_weights, .inl (cy.1, 40, .inl A_weights)), (aT_isOffered, .inl (cy.2.1, 40, .inl A_isOffered)), (aT_isAccepted, .inl (cy.2.1, 40, .inl A_isAccepted))]) (w2 := [(aT, .inr (5, [.int f_thrown, .int f_many, .ref aT_begins, .ref aT_ends, .ref aT_weights, .ref aT_isThere, .ref aT_rooms, .int f_factor, .ref aT_isOffered, .ref aT_isAccepted, .int f_dropped, .ref aT_best, .ref aT_order, .ref aT_froms, .ref aT_tos, .ref aT_counts, .ref aT_points, .ref aT_flows, .ref aT_isUsed, .ref aT_gains, .ref aT_ways, .int f_pointMany])), (aT_begins, .inl (cy.1, 40, .inl A_begins)), (aT_ends, .inl (cy.1, 40, .inl A_ends)), (aT_weights, .inl (cy.1, 40, .inl A_weights)), (aT_isThere, .inl (cy.2.1, 40, .inl A_isThere)), (aT_isOffered, .inl (cy.2.1, 40, .inl A_isOffered)), (aT_isAccepted, .inl (cy.2.1, 40, .inl A_isAccepted))]) ⟨hx, hb, hml, hown, hts⟩ (c_X5_is l G cy k aT aT_begins aT_ends aT_weights aT_isThere aT_rooms aT_isOffered aT_isAccepted aT_best aT_order aT_froms aT_tos aT_counts aT_points aT_flows aT_isUsed aT_gains aT_ways f_thrown f_many f_factor f_dropped f_pointMany A_isThere p1 hcl2) (cwV 1 hts gX5_offer_X5_is rfl rfl rfl (by decide +kernel) ⟨Nat.le_of_ble_eq_true rfl, Nat.le_of_ble_eq_true rfl⟩) hv (isC := [0, 4]) ⟨rfl, rfl⟩ (hv.recv 5 0 rfl rfl) [1, 2, 3, 5, 6] [5, 0, 1, 2, 6, 3, 4] rfl rfl (by decide) rfl rfl rfl hl.1 rfl (Nat.le_of_ble_eq_true rfl) dX5_offer_3 ⟨Nat.le_of_ble_eq_true rfl, Nat.le_of_ble_eq_true rfl⟩ (fun H locs hv => ?_)
  refine xj_elim hf (fun j27_4 ej27_4 hf => ?_)
  have J27_4 : ∀ (x5 : Int32), j27_4 x5 = some (r, wf_thrown, wf_dropped, wA_isOffered, wA_isAccepted) → ∀ (H : Heap) (locs : List Loc) (ls : Array Slot), Hv s H locs G cy A [(aT, .inr (5, [.int f_thrown, .int f_many, .ref aT_begins, .ref aT_ends, .ref aT_weights, .ref aT_isThere, .ref aT_rooms, .int f_factor, .ref aT_isOffered, .ref aT_isAccepted, .int f_dropped, .ref aT_best, .ref aT_order, .ref aT_froms, .ref aT_tos, .ref aT_counts, .ref aT_points, .ref aT_flows, .ref aT_isUsed, .ref aT_gains, .ref aT_ways, .int f_pointMany])), (aT_begins, .inl (cy.1, 40, .inl A_begins)), (aT_ends, .inl (cy.1, 40, .inl A_ends)), (aT_weights, .inl (cy.1, 40, .inl A_weights)), (aT_isThere, .inl (cy.2.1, 40, .inl A_isThere)), (aT_isOffered, .inl (cy.2.1, 40, .inl A_isOffered)), (aT_isAccepted, .inl (cy.2.1, 40, .inl A_isAccepted))] → lv_has ls 4 [(0, .ref aT), (1, .int p1)] → W p l e rm_X5_offer s m args below meth c H locs 0 0 Q (F0 m 27 ls [.int x5, .ref aT]) := by
    intro x5 hf H locs ls hv hl
    rw [ej27_4] at hf
    try dsimp only at hf
    obtain ⟨⟨r6, f_thrown_7⟩, hcl8, hf⟩ := xb_some hf
    dsimp only at hf
    refine kV_i (r := r6) (wr := [(aT_begins, .inl (cy.1, 40, .inl A_begins)), (aT_ends, .inl (cy.1, 40, .inl A_ends)), (aT_weights, .inl (cy.1, 40, .inl A_weights)), (aT_isThere, .inl (cy.2.1, 40, .inl A_isThere)), (aT_isOffered, .inl (cy.2.1, 40, .inl A_isOffered)), (aT_isAccepted, .inl (cy.2.1, 40, .inl A_isAccepted))]) (w2 := [(aT, .inr (5, [.int f_thrown_7, .int f_many, .ref aT_begins, .ref aT_ends, .ref aT_weights, .ref aT_isThere, .ref aT_rooms, .int f_factor, .ref aT_isOffered, .ref aT_isAccepted, .int f_dropped, .ref aT_best, .ref aT_order, .ref aT_froms, .ref aT_tos, .ref aT_counts, .ref aT_points, .ref aT_flows, .ref aT_isUsed, .ref aT_gains, .ref aT_ways, .int f_pointMany])), (aT_begins, .inl (cy.1, 40, .inl A_begins)), (aT_ends, .inl (cy.1, 40, .inl A_ends)), (aT_weights, .inl (cy.1, 40, .inl A_weights)), (aT_isThere, .inl (cy.2.1, 40, .inl A_isThere)), (aT_isOffered, .inl (cy.2.1, 40, .inl A_isOffered)), (aT_isAccepted, .inl (cy.2.1, 40, .inl A_isAccepted))]) ⟨hx, hb, hml, hown, hts⟩ (c_X5_goesWell l G cy k aT aT_begins aT_ends aT_weights aT_isThere aT_rooms aT_isOffered aT_isAccepted aT_best aT_order aT_froms aT_tos aT_counts aT_points aT_flows aT_isUsed aT_gains aT_ways f_thrown f_many f_factor f_dropped f_pointMany x5 hcl8) (cwV 1 hts gX5_offer_X5_goesWell rfl rfl rfl (by decide +kernel) ⟨Nat.le_of_ble_eq_true rfl, Nat.le_of_ble_eq_true rfl⟩) hv (isC := [0]) ⟨rfl, rfl⟩ (hv.recv 5 0 rfl rfl) [1, 2, 3, 4, 5, 6] [6, 0, 1, 2, 3, 4, 5] rfl rfl (by decide) rfl rfl rfl hl.1 rfl (Nat.le_of_ble_eq_true rfl) dX5_offer_27 ⟨Nat.le_of_ble_eq_true rfl, Nat.le_of_ble_eq_true rfl⟩ (fun H locs hv => ?_)
    refine lv_if_ne (tgt := 35) hx hb dX5_offer_30 (by decide) (fun hc9 => ?_) (fun hc9 => ?_)
    · replace hf := ite_f hf hc9
      refine lv_aload_n hx hb dX5_offer_35 rfl (lv_at hl 0 rfl) ?_
      refine kGet (v := .ref aT_isOffered) (C := RX5) (T := TX5) (N := 22) hx hb hts hinX5 hown hv 0 rfl rfl 8 (by decide) hk30 (fun _ h9 => h9) rfl dX5_offer_36 ?_
      refine lv_iload_n hx hb dX5_offer_39 rfl (lv_at hl 1 rfl) ?_
      refine lv_iconst (v := 1) hx hb dX5_offer_40 (by decide) ?_
      obtain ⟨hi10, hf⟩ := xi_some hf
      refine kZast hx hb hv 5 rfl hi10 dX5_offer_41 (fun H locs hv => ?_)
      replace hv : Hv s H locs G cy A [(aT, .inr (5, [.int f_thrown_7, .int f_many, .ref aT_begins, .ref aT_ends, .ref aT_weights, .ref aT_isThere, .ref aT_rooms, .int f_factor, .ref aT_isOffered, .ref aT_isAccepted, .int f_dropped, .ref aT_best, .ref aT_order, .ref aT_froms, .ref aT_tos, .ref aT_counts, .ref aT_points, .ref aT_flows, .ref aT_isUsed, .ref aT_gains, .ref aT_ways, .int f_pointMany])), (aT_begins, .inl (cy.1, 40, .inl A_begins)), (aT_ends, .inl (cy.1, 40, .inl A_ends)), (aT_weights, .inl (cy.1, 40, .inl A_weights)), (aT_isThere, .inl (cy.2.1, 40, .inl A_isThere)), (aT_isOffered, .inl (cy.2.1, 40, .inl (upd A_isOffered p1.toNatClampNeg (vp_nar .boolean 1)))), (aT_isAccepted, .inl (cy.2.1, 40, .inl A_isAccepted))] := hv
      refine lv_iconst (v := 0) hx hb dX5_offer_42 (by decide) ?_
      refine lv_istore_n (lv' := [(2, .int 0), (0, .ref aT), (1, .int p1)]) hx hb dX5_offer_43 rfl hl (by decide) rfl (fun ls hl => ?_)
      refine lv_iconst (v := 0) hx hb dX5_offer_44 (by decide) ?_
      refine lv_istore_n (lv' := [(3, .int 0), (2, .int 0), (0, .ref aT), (1, .int p1)]) hx hb dX5_offer_45 rfl hl (by decide) rfl (fun ls hl => ?_)
      refine L46 _ _ _ _ _ _ _ _ _ hf _ _ _ hv (lv_sub hl [2, 3, 1, 0] rfl) (fun v2_18 v3_19 hf H locs ls hv hl => ?_)
      try dsimp only at hf
      refine lv_bipush (v := 100) hx hb dX5_offer_91 (by decide) ?_
      refine lv_aload_n hx hb dX5_offer_93 rfl (lv_at hl 0 rfl) ?_
      refine kGet (v := .ref aT_weights) (C := RX5) (T := TX5) (N := 22) hx hb hts hinX5 hown hv 0 rfl rfl 4 (by decide) hk16 (fun _ h9 => h9) rfl dX5_offer_94 ?_
      refine lv_iload_n hx hb dX5_offer_97 rfl (lv_at hl 1 rfl) ?_
      obtain ⟨hi20, hf⟩ := xi_some hf
      refine kIald hx hb hv 3 rfl hi20 dX5_offer_98 ?_
      refine lv_imul hx hb dX5_offer_99 ?_
      refine lv_aload_n hx hb dX5_offer_100 rfl (lv_at hl 0 rfl) ?_
      refine kGet (v := .int f_factor) (C := RX5) (T := TX5) (N := 22) hx hb hts hinX5 hown hv 0 rfl rfl 7 (by decide) hk26 (fun _ h9 => h9) rfl dX5_offer_101 ?_
      refine lv_iload_n hx hb dX5_offer_104 rfl (lv_at hl 2 rfl) ?_
      refine lv_imul hx hb dX5_offer_105 ?_
      refine lv_icmp_gt (tgt := 111) hx hb dX5_offer_106 (by decide) (fun hc21 => ?_) (fun hc21 => ?_)
      · replace hf := ite_t hf hc21
        refine lv_iconst (v := 0) hx hb dX5_offer_111 (by decide) ?_
        refine lv_istore_n (lv' := [(3, .int 0), (0, .ref aT), (1, .int p1), (2, .int v2_18)]) hx hb dX5_offer_112 rfl hl (by decide) rfl (fun ls hl => ?_)
        refine L113 _ _ _ _ _ _ _ _ _ hf _ _ _ hv (lv_sub hl [1, 2, 3, 0] rfl) (fun v3_31 A_isAccepted_32 hf H locs ls hv hl => ?_)
        try dsimp only at hf
        refine lv_aload_n hx hb dX5_offer_156 rfl (lv_at hl 0 rfl) ?_
        refine kGet (v := .ref aT_isAccepted) (C := RX5) (T := TX5) (N := 22) hx hb hts hinX5 hown hv 0 rfl rfl 9 (by decide) hk33 (fun _ h9 => h9) rfl dX5_offer_157 ?_
        refine lv_iload_n hx hb dX5_offer_160 rfl (lv_at hl 1 rfl) ?_
        refine lv_iconst (v := 1) hx hb dX5_offer_161 (by decide) ?_
        obtain ⟨hi33, hf⟩ := xi_some hf
        refine kZast hx hb hv 6 rfl hi33 dX5_offer_162 (fun H locs hv => ?_)
        replace hv : Hv s H locs G cy A [(aT, .inr (5, [.int f_thrown_7, .int f_many, .ref aT_begins, .ref aT_ends, .ref aT_weights, .ref aT_isThere, .ref aT_rooms, .int f_factor, .ref aT_isOffered, .ref aT_isAccepted, .int f_dropped, .ref aT_best, .ref aT_order, .ref aT_froms, .ref aT_tos, .ref aT_counts, .ref aT_points, .ref aT_flows, .ref aT_isUsed, .ref aT_gains, .ref aT_ways, .int f_pointMany])), (aT_begins, .inl (cy.1, 40, .inl A_begins)), (aT_ends, .inl (cy.1, 40, .inl A_ends)), (aT_weights, .inl (cy.1, 40, .inl A_weights)), (aT_isThere, .inl (cy.2.1, 40, .inl A_isThere)), (aT_isOffered, .inl (cy.2.1, 40, .inl (upd A_isOffered p1.toNatClampNeg (vp_nar .boolean 1)))), (aT_isAccepted, .inl (cy.2.1, 40, .inl (upd A_isAccepted_32 p1.toNatClampNeg (vp_nar .boolean 1))))] := hv
        refine lv_aload_n hx hb dX5_offer_163 rfl (lv_at hl 0 rfl) ?_
        refine lv_dup hx hb dX5_offer_164 rfl ?_
        refine kGet (v := .int f_dropped) (C := RX5) (T := TX5) (N := 22) hx hb hts hinX5 hown hv 0 rfl rfl 10 (by decide) hk141 (fun _ h9 => h9) rfl dX5_offer_165 ?_
        refine lv_iload_n hx hb dX5_offer_168 rfl (lv_at hl 2 rfl) ?_
        refine lv_iadd hx hb dX5_offer_169 ?_
        refine kPut (v := .int (f_dropped + v2_18)) (ty := .int) (C := RX5) (T := TX5) (N := 22) hx hb hts hinX5 tyX5 tyX5_ok nmX5 hown hv 0 rfl rfl 10 (by decide) hk141 (fun _ h9 => h9) rfl (by decide +kernel) rfl rfl (Nat.le_of_ble_eq_true rfl) dX5_offer_170 (fun H locs hv => ?_)
        replace hv : Hv s H locs G cy A [(aT, .inr (5, [.int f_thrown_7, .int f_many, .ref aT_begins, .ref aT_ends, .ref aT_weights, .ref aT_isThere, .ref aT_rooms, .int f_factor, .ref aT_isOffered, .ref aT_isAccepted, .int (f_dropped + v2_18), .ref aT_best, .ref aT_order, .ref aT_froms, .ref aT_tos, .ref aT_counts, .ref aT_points, .ref aT_flows, .ref aT_isUsed, .ref aT_gains, .ref aT_ways, .int f_pointMany])), (aT_begins, .inl (cy.1, 40, .inl A_begins)), (aT_ends, .inl (cy.1, 40, .inl A_ends)), (aT_weights, .inl (cy.1, 40, .inl A_weights)), (aT_isThere, .inl (cy.2.1, 40, .inl A_isThere)), (aT_isOffered, .inl (cy.2.1, 40, .inl (upd A_isOffered p1.toNatClampNeg (vp_nar .boolean 1)))), (aT_isAccepted, .inl (cy.2.1, 40, .inl (upd A_isAccepted_32 p1.toNatClampNeg (vp_nar .boolean 1))))] := hv
        refine lv_iload_n hx hb dX5_offer_173 rfl (lv_at hl 2 rfl) ?_
        cases hf
        exact kret _ _ _ _ hv dX5_offer_174
      · replace hf := ite_f hf hc21
        refine lv_iconst (v := (-1)) hx hb dX5_offer_109 (by decide) ?_
        cases hf
        exact kret _ _ _ _ hv dX5_offer_110
    · replace hf := ite_t hf hc9
      refine lv_iconst (v := 0) hx hb dX5_offer_33 (by decide) ?_
      cases hf
      exact kret _ _ _ _ hv dX5_offer_34
  refine lv_if_ne (tgt := 13) hx hb dX5_offer_6 (by decide) (fun hc3 => ?_) (fun hc3 => ?_)
  · replace hf := ite_f hf hc3
    refine lv_aload_n hx hb dX5_offer_13 rfl (lv_at hl 0 rfl) ?_
    refine kGet (v := .ref aT_isOffered) (C := RX5) (T := TX5) (N := 22) hx hb hts hinX5 hown hv 0 rfl rfl 8 (by decide) hk30 (fun _ h9 => h9) rfl dX5_offer_14 ?_
    refine lv_iload_n hx hb dX5_offer_17 rfl (lv_at hl 1 rfl) ?_
    obtain ⟨hi34, hf⟩ := xi_some hf
    refine kZald hx hb hv 5 rfl hi34 dX5_offer_18 ?_
    refine lv_if_eq (tgt := 26) hx hb dX5_offer_19 (by decide) (fun hc35 => ?_) (fun hc35 => ?_)
    · replace hf := ite_t hf hc35
      refine lv_iconst (v := 0) hx hb dX5_offer_26 (by decide) ?_
      exact J27_4 0 hf _ _ _ hv (lv_sub hl [0, 1] rfl)
    · replace hf := ite_f hf hc35
      refine lv_iconst (v := 2) hx hb dX5_offer_22 (by decide) ?_
      refine lv_goto (tgt := 27) hx hb dX5_offer_23 (by decide) ?_
      exact J27_4 2 hf _ _ _ hv (lv_sub hl [0, 1] rfl)
  · replace hf := ite_t hf hc3
    refine lv_iconst (v := 1) hx hb dX5_offer_9 (by decide) ?_
    refine lv_goto (tgt := 27) hx hb dX5_offer_10 (by decide) ?_
    exact J27_4 1 hf _ _ _ hv (lv_sub hl [0, 1] rfl)

def f_X5_openDesk_L43 (k : Nat) (v2 : Int32) (κ : Int32 → (Nat → Int32) → (Nat → Int32) → Option (Int32 × Int32 × Int32 × Int32 × (Nat → Int32) × (Nat → Int32))) : Nat → Int32 → (Nat → Int32) → (Nat → Int32) → Option (Int32 × Int32 × Int32 × Int32 × (Nat → Int32) × (Nat → Int32))
  | 0, _, _, _ => none
  | n + 1, v3, A_isOffered, A_isAccepted => if (40 : Int32) ≤ v3 then κ v3 A_isOffered A_isAccepted else xi v3 40 (xi v3 40 (f_X5_openDesk_L43 k v2 κ n (v3 + 1) (upd A_isOffered v3.toNatClampNeg (vp_nar .boolean 0)) (upd A_isAccepted v3.toNatClampNeg (vp_nar .boolean 0))))
theorem f_X5_openDesk_L43_z (k : Nat) (v2 : Int32) (κ : Int32 → (Nat → Int32) → (Nat → Int32) → Option (Int32 × Int32 × Int32 × Int32 × (Nat → Int32) × (Nat → Int32))) (v3 : Int32) (A_isOffered : Nat → Int32) (A_isAccepted : Nat → Int32) : f_X5_openDesk_L43 k v2 κ 0 v3 A_isOffered A_isAccepted = none := rfl
theorem f_X5_openDesk_L43_s (k : Nat) (v2 : Int32) (κ : Int32 → (Nat → Int32) → (Nat → Int32) → Option (Int32 × Int32 × Int32 × Int32 × (Nat → Int32) × (Nat → Int32))) (n : Nat) (v3 : Int32) (A_isOffered : Nat → Int32) (A_isAccepted : Nat → Int32) : f_X5_openDesk_L43 k v2 κ (n + 1) v3 A_isOffered A_isAccepted = if (40 : Int32) ≤ v3 then κ v3 A_isOffered A_isAccepted else xi v3 40 (xi v3 40 (f_X5_openDesk_L43 k v2 κ n (v3 + 1) (upd A_isOffered v3.toNatClampNeg (vp_nar .boolean 0)) (upd A_isAccepted v3.toNatClampNeg (vp_nar .boolean 0)))) := rfl
def f_X5_openDesk (k : Nat) (p1 : Int32) (f_thrown : Int32) (f_many : Int32) (f_factor : Int32) (f_dropped : Int32) (A_weights : Nat → Int32) (A_isOffered : Nat → Int32) (A_isAccepted : Nat → Int32) : Option (Int32 × Int32 × Int32 × Int32 × (Nat → Int32) × (Nat → Int32)) := xb (f_X5_in k p1 100 400) (fun r1 => xj (fun (x5 : Int32) => xb (f_X5_goesWell k x5 f_thrown) (fun (r6, f_thrown_7) => if r6 = 0 then some (0, f_thrown_7, f_factor, f_dropped, A_isOffered, A_isAccepted) else xb (f_X5_weightAccepted k f_many A_weights A_isAccepted) (fun r10 => f_X5_openDesk_L43 k r10 (fun (v3_15 : Int32) (A_isOffered_16 : Nat → Int32) (A_isAccepted_17 : Nat → Int32) => some (r10, f_thrown_7, p1, 0, A_isOffered_16, A_isAccepted_17)) k 0 A_isOffered A_isAccepted))) (fun (j18_4 : Int32 → Option (Int32 × Int32 × Int32 × Int32 × (Nat → Int32) × (Nat → Int32))) => if r1 = 0 then j18_4 1 else j18_4 0))
abbrev rm_X5_openDesk : Room := { frames := 1, cells := 0, slots := 0, locals := 22 }
set_option maxHeartbeats 4000000 in
set_option maxRecDepth 100000 in
theorem c_X5_openDesk (l : Launch) (G : va_G) (cy : ClassId × ClassId × ClassId) (k : Nat) (aT aT_begins aT_ends aT_weights aT_isThere aT_rooms aT_isOffered aT_isAccepted aT_best aT_order aT_froms aT_tos aT_counts aT_points aT_flows aT_isUsed aT_gains aT_ways : Nat) (f_thrown : Int32) (f_many : Int32) (f_factor : Int32) (f_dropped : Int32) (f_pointMany : Int32) (A_weights : Nat → Int32) (A_isOffered : Nat → Int32) (A_isAccepted : Nat → Int32) (p1 : Int32) {r : Int32} {wf_thrown : Int32} {wf_factor : Int32} {wf_dropped : Int32} {wA_isOffered : Nat → Int32} {wA_isAccepted : Nat → Int32} (hf : f_X5_openDesk k p1 f_thrown f_many f_factor f_dropped A_weights A_isOffered A_isAccepted = some (r, wf_thrown, wf_factor, wf_dropped, wA_isOffered, wA_isAccepted)) : Ci l yX5_openDesk wsX5_openDesk rm_X5_openDesk 0 0 G cy [.ref aT, .int p1] [(aT, .inr (5, [.int f_thrown, .int f_many, .ref aT_begins, .ref aT_ends, .ref aT_weights, .ref aT_isThere, .ref aT_rooms, .int f_factor, .ref aT_isOffered, .ref aT_isAccepted, .int f_dropped, .ref aT_best, .ref aT_order, .ref aT_froms, .ref aT_tos, .ref aT_counts, .ref aT_points, .ref aT_flows, .ref aT_isUsed, .ref aT_gains, .ref aT_ways, .int f_pointMany])), (aT_weights, .inl (cy.1, 40, .inl A_weights)), (aT_isOffered, .inl (cy.2.1, 40, .inl A_isOffered)), (aT_isAccepted, .inl (cy.2.1, 40, .inl A_isAccepted))] [(aT, .inr (5, [.int wf_thrown, .int f_many, .ref aT_begins, .ref aT_ends, .ref aT_weights, .ref aT_isThere, .ref aT_rooms, .int wf_factor, .ref aT_isOffered, .ref aT_isAccepted, .int wf_dropped, .ref aT_best, .ref aT_order, .ref aT_froms, .ref aT_tos, .ref aT_counts, .ref aT_points, .ref aT_flows, .ref aT_isUsed, .ref aT_gains, .ref aT_ways, .int f_pointMany])), (aT_weights, .inl (cy.1, 40, .inl A_weights)), (aT_isOffered, .inl (cy.2.1, 40, .inl wA_isOffered)), (aT_isAccepted, .inl (cy.2.1, 40, .inl wA_isAccepted))] r := by
  refine kMetI (cc := cX5_openDesk) (maxL := 4) (by decide) rfl (Nat.le_of_ble_eq_true rfl) ?_
  intro p e s m args below meth c Q A ls hx hb hml hts hown hv hl kret
  replace hown : s.vm.findClass RX5 = some m.cls := hown
  replace hl : lv_has ls 4 [(0, .ref aT), (1, .int p1)] := hl
  have hk26 : (Cond.fieldLink RX5 26 "RoomcolourModel" "factor" "I").before args s = true := hts _ (by decide +kernel)
  have hinX5 : ∀ w ∈ wsX50, w ∈ wsX5_openDesk := by decide +kernel
  have hk141 : (Cond.fieldLink RX5 141 "RoomcolourModel" "dropped" "I").before args s = true := hts _ (by decide +kernel)
  have hk33 : (Cond.fieldLink RX5 33 "RoomcolourModel" "isAccepted" "[Z").before args s = true := hts _ (by decide +kernel)
  have hk30 : (Cond.fieldLink RX5 30 "RoomcolourModel" "isOffered" "[Z").before args s = true := hts _ (by decide +kernel)
  have L43 : ∀ (v2 : Int32) (f_thrown : Int32) (f_factor : Int32) (f_dropped : Int32) (κ : Int32 → (Nat → Int32) → (Nat → Int32) → Option (Int32 × Int32 × Int32 × Int32 × (Nat → Int32) × (Nat → Int32))) (n : Nat) (v3 : Int32) (A_isOffered : Nat → Int32) (A_isAccepted : Nat → Int32), f_X5_openDesk_L43 k v2 κ n v3 A_isOffered A_isAccepted = some (r, wf_thrown, wf_factor, wf_dropped, wA_isOffered, wA_isAccepted) → ∀ (H : Heap) (locs : List Loc) (ls : Array Slot), Hv s H locs G cy A [(aT, .inr (5, [.int f_thrown, .int f_many, .ref aT_begins, .ref aT_ends, .ref aT_weights, .ref aT_isThere, .ref aT_rooms, .int f_factor, .ref aT_isOffered, .ref aT_isAccepted, .int f_dropped, .ref aT_best, .ref aT_order, .ref aT_froms, .ref aT_tos, .ref aT_counts, .ref aT_points, .ref aT_flows, .ref aT_isUsed, .ref aT_gains, .ref aT_ways, .int f_pointMany])), (aT_weights, .inl (cy.1, 40, .inl A_weights)), (aT_isOffered, .inl (cy.2.1, 40, .inl A_isOffered)), (aT_isAccepted, .inl (cy.2.1, 40, .inl A_isAccepted))] → lv_has ls 4 [(0, .ref aT), (2, .int v2), (3, .int v3)] → (∀ (v3 : Int32) (A_isOffered : Nat → Int32) (A_isAccepted : Nat → Int32), κ v3 A_isOffered A_isAccepted = some (r, wf_thrown, wf_factor, wf_dropped, wA_isOffered, wA_isAccepted) → ∀ (H : Heap) (locs : List Loc) (ls : Array Slot), Hv s H locs G cy A [(aT, .inr (5, [.int f_thrown, .int f_many, .ref aT_begins, .ref aT_ends, .ref aT_weights, .ref aT_isThere, .ref aT_rooms, .int f_factor, .ref aT_isOffered, .ref aT_isAccepted, .int f_dropped, .ref aT_best, .ref aT_order, .ref aT_froms, .ref aT_tos, .ref aT_counts, .ref aT_points, .ref aT_flows, .ref aT_isUsed, .ref aT_gains, .ref aT_ways, .int f_pointMany])), (aT_weights, .inl (cy.1, 40, .inl A_weights)), (aT_isOffered, .inl (cy.2.1, 40, .inl A_isOffered)), (aT_isAccepted, .inl (cy.2.1, 40, .inl A_isAccepted))] → lv_has ls 4 [(2, .int v2)] → W p l e rm_X5_openDesk s m args below meth c H locs 0 0 Q (F0 m 69 ls [])) → W p l e rm_X5_openDesk s m args below meth c H locs 0 0 Q (F0 m 43 ls []) := by
    intro v2 f_thrown f_factor f_dropped κ n
    induction n with
    | zero =>
      intro v3 A_isOffered A_isAccepted hf
      rw [f_X5_openDesk_L43_z] at hf
      cases hf
    | succ n ih =>
      intro v3 A_isOffered A_isAccepted hf H locs ls hv hl hκ
      rw [f_X5_openDesk_L43_s] at hf
      refine lv_iload_n hx hb dX5_openDesk_43 rfl (lv_at hl 2 rfl) ?_
      refine lv_bipush (v := 40) hx hb dX5_openDesk_44 (by decide) ?_
      refine lv_icmp_ge (tgt := 69) hx hb dX5_openDesk_46 (by decide) (fun hc12 => ?_) (fun hc12 => ?_)
      · replace hf := ite_t hf hc12
        exact hκ v3 A_isOffered A_isAccepted hf _ _ _ hv (lv_sub hl [1] rfl)
      · replace hf := ite_f hf hc12
        refine lv_aload_n hx hb dX5_openDesk_49 rfl (lv_at hl 0 rfl) ?_
        refine kGet (v := .ref aT_isAccepted) (C := RX5) (T := TX5) (N := 22) hx hb hts hinX5 hown hv 0 rfl rfl 9 (by decide) hk33 (fun _ h9 => h9) rfl dX5_openDesk_50 ?_
        refine lv_iload_n hx hb dX5_openDesk_53 rfl (lv_at hl 2 rfl) ?_
        refine lv_iconst (v := 0) hx hb dX5_openDesk_54 (by decide) ?_
        obtain ⟨hi13, hf⟩ := xi_some hf
        refine kZast hx hb hv 3 rfl hi13 dX5_openDesk_55 (fun H locs hv => ?_)
        replace hv : Hv s H locs G cy A [(aT, .inr (5, [.int f_thrown, .int f_many, .ref aT_begins, .ref aT_ends, .ref aT_weights, .ref aT_isThere, .ref aT_rooms, .int f_factor, .ref aT_isOffered, .ref aT_isAccepted, .int f_dropped, .ref aT_best, .ref aT_order, .ref aT_froms, .ref aT_tos, .ref aT_counts, .ref aT_points, .ref aT_flows, .ref aT_isUsed, .ref aT_gains, .ref aT_ways, .int f_pointMany])), (aT_weights, .inl (cy.1, 40, .inl A_weights)), (aT_isOffered, .inl (cy.2.1, 40, .inl A_isOffered)), (aT_isAccepted, .inl (cy.2.1, 40, .inl (upd A_isAccepted v3.toNatClampNeg (vp_nar .boolean 0))))] := hv
        refine lv_aload_n hx hb dX5_openDesk_56 rfl (lv_at hl 0 rfl) ?_
        refine kGet (v := .ref aT_isOffered) (C := RX5) (T := TX5) (N := 22) hx hb hts hinX5 hown hv 0 rfl rfl 8 (by decide) hk30 (fun _ h9 => h9) rfl dX5_openDesk_57 ?_
        refine lv_iload_n hx hb dX5_openDesk_60 rfl (lv_at hl 2 rfl) ?_
        refine lv_iconst (v := 0) hx hb dX5_openDesk_61 (by decide) ?_
        obtain ⟨hi14, hf⟩ := xi_some hf
        refine kZast hx hb hv 2 rfl hi14 dX5_openDesk_62 (fun H locs hv => ?_)
        replace hv : Hv s H locs G cy A [(aT, .inr (5, [.int f_thrown, .int f_many, .ref aT_begins, .ref aT_ends, .ref aT_weights, .ref aT_isThere, .ref aT_rooms, .int f_factor, .ref aT_isOffered, .ref aT_isAccepted, .int f_dropped, .ref aT_best, .ref aT_order, .ref aT_froms, .ref aT_tos, .ref aT_counts, .ref aT_points, .ref aT_flows, .ref aT_isUsed, .ref aT_gains, .ref aT_ways, .int f_pointMany])), (aT_weights, .inl (cy.1, 40, .inl A_weights)), (aT_isOffered, .inl (cy.2.1, 40, .inl (upd A_isOffered v3.toNatClampNeg (vp_nar .boolean 0)))), (aT_isAccepted, .inl (cy.2.1, 40, .inl (upd A_isAccepted v3.toNatClampNeg (vp_nar .boolean 0))))] := hv
        refine lv_iinc (v := v3 + 1) (lv' := [(3, .int (v3 + 1)), (0, .ref aT), (2, .int v2)]) hx hb dX5_openDesk_63 hl (k := 2) rfl rfl (by decide) rfl (fun ls hl => ?_)
        refine lv_goto (tgt := 43) hx hb dX5_openDesk_66 (by decide) ?_
        exact ih (v3 + 1) (upd A_isOffered v3.toNatClampNeg (vp_nar .boolean 0)) (upd A_isAccepted v3.toNatClampNeg (vp_nar .boolean 0)) hf _ _ _ hv (lv_sub hl [1, 2, 0] rfl) hκ
  unfold f_X5_openDesk at hf
  refine lv_aload_n hx hb dX5_openDesk_0 rfl (lv_at hl 0 rfl) ?_
  refine lv_iload_n hx hb dX5_openDesk_1 rfl (lv_at hl 1 rfl) ?_
  refine lv_bipush (v := 100) hx hb dX5_openDesk_2 (by decide) ?_
  refine lv_sipush (v := 400) hx hb dX5_openDesk_4 (by decide) ?_
  obtain ⟨r1, hcl2, hf⟩ := xb_some hf
  refine kS_i (r := r1) ⟨hx, hb, hml, hown, hts⟩ (c_X5_in l G cy k p1 100 400 hcl2) (va_cwS 3 hts gX5_openDesk_X5_in rfl rfl rfl (by decide +kernel) ⟨Nat.le_of_ble_eq_true rfl, Nat.le_of_ble_eq_true rfl⟩) hv rfl hl.1 rfl (Nat.le_of_ble_eq_true rfl) dX5_openDesk_7 ⟨Nat.le_of_ble_eq_true rfl, Nat.le_of_ble_eq_true rfl⟩ (fun H locs hv => ?_)
  refine xj_elim hf (fun j18_4 ej18_4 hf => ?_)
  have J18_4 : ∀ (x5 : Int32), j18_4 x5 = some (r, wf_thrown, wf_factor, wf_dropped, wA_isOffered, wA_isAccepted) → ∀ (H : Heap) (locs : List Loc) (ls : Array Slot), Hv s H locs G cy A [(aT, .inr (5, [.int f_thrown, .int f_many, .ref aT_begins, .ref aT_ends, .ref aT_weights, .ref aT_isThere, .ref aT_rooms, .int f_factor, .ref aT_isOffered, .ref aT_isAccepted, .int f_dropped, .ref aT_best, .ref aT_order, .ref aT_froms, .ref aT_tos, .ref aT_counts, .ref aT_points, .ref aT_flows, .ref aT_isUsed, .ref aT_gains, .ref aT_ways, .int f_pointMany])), (aT_weights, .inl (cy.1, 40, .inl A_weights)), (aT_isOffered, .inl (cy.2.1, 40, .inl A_isOffered)), (aT_isAccepted, .inl (cy.2.1, 40, .inl A_isAccepted))] → lv_has ls 4 [(0, .ref aT), (1, .int p1)] → W p l e rm_X5_openDesk s m args below meth c H locs 0 0 Q (F0 m 18 ls [.int x5, .ref aT]) := by
    intro x5 hf H locs ls hv hl
    rw [ej18_4] at hf
    try dsimp only at hf
    obtain ⟨⟨r6, f_thrown_7⟩, hcl8, hf⟩ := xb_some hf
    dsimp only at hf
    refine kV_i (r := r6) (wr := [(aT_weights, .inl (cy.1, 40, .inl A_weights)), (aT_isOffered, .inl (cy.2.1, 40, .inl A_isOffered)), (aT_isAccepted, .inl (cy.2.1, 40, .inl A_isAccepted))]) (w2 := [(aT, .inr (5, [.int f_thrown_7, .int f_many, .ref aT_begins, .ref aT_ends, .ref aT_weights, .ref aT_isThere, .ref aT_rooms, .int f_factor, .ref aT_isOffered, .ref aT_isAccepted, .int f_dropped, .ref aT_best, .ref aT_order, .ref aT_froms, .ref aT_tos, .ref aT_counts, .ref aT_points, .ref aT_flows, .ref aT_isUsed, .ref aT_gains, .ref aT_ways, .int f_pointMany])), (aT_weights, .inl (cy.1, 40, .inl A_weights)), (aT_isOffered, .inl (cy.2.1, 40, .inl A_isOffered)), (aT_isAccepted, .inl (cy.2.1, 40, .inl A_isAccepted))]) ⟨hx, hb, hml, hown, hts⟩ (c_X5_goesWell l G cy k aT aT_begins aT_ends aT_weights aT_isThere aT_rooms aT_isOffered aT_isAccepted aT_best aT_order aT_froms aT_tos aT_counts aT_points aT_flows aT_isUsed aT_gains aT_ways f_thrown f_many f_factor f_dropped f_pointMany x5 hcl8) (cwV 1 hts gX5_openDesk_X5_goesWell rfl rfl rfl (by decide +kernel) ⟨Nat.le_of_ble_eq_true rfl, Nat.le_of_ble_eq_true rfl⟩) hv (isC := [0]) ⟨rfl, rfl⟩ (hv.recv 5 0 rfl rfl) [1, 2, 3] [3, 0, 1, 2] rfl rfl (by decide) rfl rfl rfl hl.1 rfl (Nat.le_of_ble_eq_true rfl) dX5_openDesk_18 ⟨Nat.le_of_ble_eq_true rfl, Nat.le_of_ble_eq_true rfl⟩ (fun H locs hv => ?_)
    refine lv_if_ne (tgt := 26) hx hb dX5_openDesk_21 (by decide) (fun hc9 => ?_) (fun hc9 => ?_)
    · replace hf := ite_f hf hc9
      refine lv_aload_n hx hb dX5_openDesk_26 rfl (lv_at hl 0 rfl) ?_
      obtain ⟨r10, hcl11, hf⟩ := xb_some hf
      refine kV_i (r := r10) (wr := [(aT_isOffered, .inl (cy.2.1, 40, .inl A_isOffered))]) (w2 := [(aT, .inr (5, [.int f_thrown_7, .int f_many, .ref aT_begins, .ref aT_ends, .ref aT_weights, .ref aT_isThere, .ref aT_rooms, .int f_factor, .ref aT_isOffered, .ref aT_isAccepted, .int f_dropped, .ref aT_best, .ref aT_order, .ref aT_froms, .ref aT_tos, .ref aT_counts, .ref aT_points, .ref aT_flows, .ref aT_isUsed, .ref aT_gains, .ref aT_ways, .int f_pointMany])), (aT_weights, .inl (cy.1, 40, .inl A_weights)), (aT_isOffered, .inl (cy.2.1, 40, .inl A_isOffered)), (aT_isAccepted, .inl (cy.2.1, 40, .inl A_isAccepted))]) ⟨hx, hb, hml, hown, hts⟩ (c_X5_weightAccepted l G cy k aT aT_begins aT_ends aT_weights aT_isThere aT_rooms aT_isOffered aT_isAccepted aT_best aT_order aT_froms aT_tos aT_counts aT_points aT_flows aT_isUsed aT_gains aT_ways f_thrown_7 f_many f_factor f_dropped f_pointMany A_weights A_isAccepted hcl11) (cwV 0 hts gX5_openDesk_X5_weightAccepted rfl rfl rfl (by decide +kernel) ⟨Nat.le_of_ble_eq_true rfl, Nat.le_of_ble_eq_true rfl⟩) hv (isC := [0, 1, 3]) ⟨rfl, rfl⟩ (hv.recv 5 0 rfl rfl) [2] [1, 2, 0, 3] rfl rfl (by decide) rfl rfl rfl hl.1 rfl (Nat.le_of_ble_eq_true rfl) dX5_openDesk_27 ⟨Nat.le_of_ble_eq_true rfl, Nat.le_of_ble_eq_true rfl⟩ (fun H locs hv => ?_)
      refine lv_istore_n (lv' := [(2, .int r10), (0, .ref aT), (1, .int p1)]) hx hb dX5_openDesk_30 rfl hl (by decide) rfl (fun ls hl => ?_)
      refine lv_aload_n hx hb dX5_openDesk_31 rfl (lv_at hl 1 rfl) ?_
      refine lv_iload_n hx hb dX5_openDesk_32 rfl (lv_at hl 2 rfl) ?_
      refine kPut (v := .int p1) (ty := .int) (C := RX5) (T := TX5) (N := 22) hx hb hts hinX5 tyX5 tyX5_ok nmX5 hown hv 0 rfl rfl 7 (by decide) hk26 (fun _ h9 => h9) rfl (by decide +kernel) rfl rfl (Nat.le_of_ble_eq_true rfl) dX5_openDesk_33 (fun H locs hv => ?_)
      replace hv : Hv s H locs G cy A [(aT, .inr (5, [.int f_thrown_7, .int f_many, .ref aT_begins, .ref aT_ends, .ref aT_weights, .ref aT_isThere, .ref aT_rooms, .int p1, .ref aT_isOffered, .ref aT_isAccepted, .int f_dropped, .ref aT_best, .ref aT_order, .ref aT_froms, .ref aT_tos, .ref aT_counts, .ref aT_points, .ref aT_flows, .ref aT_isUsed, .ref aT_gains, .ref aT_ways, .int f_pointMany])), (aT_weights, .inl (cy.1, 40, .inl A_weights)), (aT_isOffered, .inl (cy.2.1, 40, .inl A_isOffered)), (aT_isAccepted, .inl (cy.2.1, 40, .inl A_isAccepted))] := hv
      refine lv_aload_n hx hb dX5_openDesk_36 rfl (lv_at hl 1 rfl) ?_
      refine lv_iconst (v := 0) hx hb dX5_openDesk_37 (by decide) ?_
      refine kPut (v := .int 0) (ty := .int) (C := RX5) (T := TX5) (N := 22) hx hb hts hinX5 tyX5 tyX5_ok nmX5 hown hv 0 rfl rfl 10 (by decide) hk141 (fun _ h9 => h9) rfl (by decide +kernel) rfl rfl (Nat.le_of_ble_eq_true rfl) dX5_openDesk_38 (fun H locs hv => ?_)
      replace hv : Hv s H locs G cy A [(aT, .inr (5, [.int f_thrown_7, .int f_many, .ref aT_begins, .ref aT_ends, .ref aT_weights, .ref aT_isThere, .ref aT_rooms, .int p1, .ref aT_isOffered, .ref aT_isAccepted, .int 0, .ref aT_best, .ref aT_order, .ref aT_froms, .ref aT_tos, .ref aT_counts, .ref aT_points, .ref aT_flows, .ref aT_isUsed, .ref aT_gains, .ref aT_ways, .int f_pointMany])), (aT_weights, .inl (cy.1, 40, .inl A_weights)), (aT_isOffered, .inl (cy.2.1, 40, .inl A_isOffered)), (aT_isAccepted, .inl (cy.2.1, 40, .inl A_isAccepted))] := hv
      refine lv_iconst (v := 0) hx hb dX5_openDesk_41 (by decide) ?_
      refine lv_istore_n (lv' := [(3, .int 0), (2, .int r10), (0, .ref aT), (1, .int p1)]) hx hb dX5_openDesk_42 rfl hl (by decide) rfl (fun ls hl => ?_)
      refine L43 _ _ _ _ _ _ _ _ _ hf _ _ _ hv (lv_sub hl [2, 1, 0] rfl) (fun v3_15 A_isOffered_16 A_isAccepted_17 hf H locs ls hv hl => ?_)
      try dsimp only at hf
      refine lv_iload_n hx hb dX5_openDesk_69 rfl (lv_at hl 0 rfl) ?_
      cases hf
      exact kret _ _ _ _ hv dX5_openDesk_70
    · replace hf := ite_t hf hc9
      refine lv_iconst (v := 0) hx hb dX5_openDesk_24 (by decide) ?_
      cases hf
      exact kret _ _ _ _ hv dX5_openDesk_25
  refine lv_if_eq (tgt := 17) hx hb dX5_openDesk_10 (by decide) (fun hc3 => ?_) (fun hc3 => ?_)
  · replace hf := ite_t hf hc3
    refine lv_iconst (v := 1) hx hb dX5_openDesk_17 (by decide) ?_
    exact J18_4 1 hf _ _ _ hv (lv_sub hl [0, 1] rfl)
  · replace hf := ite_f hf hc3
    refine lv_iconst (v := 0) hx hb dX5_openDesk_13 (by decide) ?_
    refine lv_goto (tgt := 18) hx hb dX5_openDesk_14 (by decide) ?_
    exact J18_4 0 hf _ _ _ hv (lv_sub hl [0, 1] rfl)

def f_X5_overlapping_L27 (k : Nat) (v1 : Int32) (f_many : Int32) (A_begins : Nat → Int32) (A_ends : Nat → Int32) (A_isThere : Nat → Int32) (κ : Int64 → Int32 → Option (Int64 × Int32)) : Nat → Int64 → Int32 → Option (Int64 × Int32)
  | 0, _, _ => none
  | n + 1, v2, v4 => if f_many ≤ v4 then κ v2 v4 else if v4 = v1 then f_X5_overlapping_L27 k v1 f_many A_begins A_ends A_isThere κ n (v2 ||| 0) (v4 + 1) else xi v4 40 (if (A_isThere v4.toNatClampNeg) = 0 then f_X5_overlapping_L27 k v1 f_many A_begins A_ends A_isThere κ n (v2 ||| 0) (v4 + 1) else xb (f_X5_overlap k v4 v1 A_begins A_ends) (fun r14 => if r14 = 0 then f_X5_overlapping_L27 k v1 f_many A_begins A_ends A_isThere κ n (v2 ||| 0) (v4 + 1) else f_X5_overlapping_L27 k v1 f_many A_begins A_ends A_isThere κ n (v2 ||| ((1 : Int64) <<< ((v4 : Int32).toInt64 &&& 63))) (v4 + 1)))
theorem f_X5_overlapping_L27_z (k : Nat) (v1 : Int32) (f_many : Int32) (A_begins : Nat → Int32) (A_ends : Nat → Int32) (A_isThere : Nat → Int32) (κ : Int64 → Int32 → Option (Int64 × Int32)) (v2 : Int64) (v4 : Int32) : f_X5_overlapping_L27 k v1 f_many A_begins A_ends A_isThere κ 0 v2 v4 = none := rfl
theorem f_X5_overlapping_L27_s (k : Nat) (v1 : Int32) (f_many : Int32) (A_begins : Nat → Int32) (A_ends : Nat → Int32) (A_isThere : Nat → Int32) (κ : Int64 → Int32 → Option (Int64 × Int32)) (n : Nat) (v2 : Int64) (v4 : Int32) : f_X5_overlapping_L27 k v1 f_many A_begins A_ends A_isThere κ (n + 1) v2 v4 = if f_many ≤ v4 then κ v2 v4 else if v4 = v1 then f_X5_overlapping_L27 k v1 f_many A_begins A_ends A_isThere κ n (v2 ||| 0) (v4 + 1) else xi v4 40 (if (A_isThere v4.toNatClampNeg) = 0 then f_X5_overlapping_L27 k v1 f_many A_begins A_ends A_isThere κ n (v2 ||| 0) (v4 + 1) else xb (f_X5_overlap k v4 v1 A_begins A_ends) (fun r14 => if r14 = 0 then f_X5_overlapping_L27 k v1 f_many A_begins A_ends A_isThere κ n (v2 ||| 0) (v4 + 1) else f_X5_overlapping_L27 k v1 f_many A_begins A_ends A_isThere κ n (v2 ||| ((1 : Int64) <<< ((v4 : Int32).toInt64 &&& 63))) (v4 + 1))) := rfl
def f_X5_overlapping (k : Nat) (p1 : Int32) (f_thrown : Int32) (f_many : Int32) (A_begins : Nat → Int32) (A_ends : Nat → Int32) (A_isThere : Nat → Int32) : Option (Int64 × Int32) := xb (f_X5_is k p1 f_many A_isThere) (fun r1 => xj (fun (x5 : Int32) => xb (f_X5_goesWell k x5 f_thrown) (fun (r6, f_thrown_7) => if r6 = 0 then some (0, f_thrown_7) else f_X5_overlapping_L27 k p1 f_many A_begins A_ends A_isThere (fun (v2_17 : Int64) (v4_18 : Int32) => some (v2_17, f_thrown_7)) k 0 0)) (fun (j14_4 : Int32 → Option (Int64 × Int32)) => if r1 = 0 then j14_4 1 else j14_4 0))
abbrev rm_X5_overlapping : Room := { frames := 2, cells := 0, slots := 0, locals := 43 }
set_option maxHeartbeats 4000000 in
set_option maxRecDepth 100000 in
theorem c_X5_overlapping (l : Launch) (G : va_G) (cy : ClassId × ClassId × ClassId) (k : Nat) (aT aT_begins aT_ends aT_weights aT_isThere aT_rooms aT_isOffered aT_isAccepted aT_best aT_order aT_froms aT_tos aT_counts aT_points aT_flows aT_isUsed aT_gains aT_ways : Nat) (f_thrown : Int32) (f_many : Int32) (f_factor : Int32) (f_dropped : Int32) (f_pointMany : Int32) (A_begins : Nat → Int32) (A_ends : Nat → Int32) (A_isThere : Nat → Int32) (p1 : Int32) {r : Int64} {wf_thrown : Int32} (hf : f_X5_overlapping k p1 f_thrown f_many A_begins A_ends A_isThere = some (r, wf_thrown)) : Cl l yX5_overlapping wsX5_overlapping rm_X5_overlapping 0 0 G cy [.ref aT, .int p1] [(aT, .inr (5, [.int f_thrown, .int f_many, .ref aT_begins, .ref aT_ends, .ref aT_weights, .ref aT_isThere, .ref aT_rooms, .int f_factor, .ref aT_isOffered, .ref aT_isAccepted, .int f_dropped, .ref aT_best, .ref aT_order, .ref aT_froms, .ref aT_tos, .ref aT_counts, .ref aT_points, .ref aT_flows, .ref aT_isUsed, .ref aT_gains, .ref aT_ways, .int f_pointMany])), (aT_begins, .inl (cy.1, 40, .inl A_begins)), (aT_ends, .inl (cy.1, 40, .inl A_ends)), (aT_isThere, .inl (cy.2.1, 40, .inl A_isThere))] [(aT, .inr (5, [.int wf_thrown, .int f_many, .ref aT_begins, .ref aT_ends, .ref aT_weights, .ref aT_isThere, .ref aT_rooms, .int f_factor, .ref aT_isOffered, .ref aT_isAccepted, .int f_dropped, .ref aT_best, .ref aT_order, .ref aT_froms, .ref aT_tos, .ref aT_counts, .ref aT_points, .ref aT_flows, .ref aT_isUsed, .ref aT_gains, .ref aT_ways, .int f_pointMany])), (aT_begins, .inl (cy.1, 40, .inl A_begins)), (aT_ends, .inl (cy.1, 40, .inl A_ends)), (aT_isThere, .inl (cy.2.1, 40, .inl A_isThere))] r := by
  refine kMetL (cc := cX5_overlapping) (maxL := 5) (by decide) rfl (Nat.le_of_ble_eq_true rfl) ?_
  intro p e s m args below meth c Q A ls hx hb hml hts hown hv hl kret
  replace hown : s.vm.findClass RX5 = some m.cls := hown
  replace hl : lv_has ls 5 [(0, .ref aT), (1, .int p1)] := hl
  have hk69 : (Cond.fieldLink RX5 69 "RoomcolourModel" "many" "I").before args s = true := hts _ (by decide +kernel)
  have hinX5 : ∀ w ∈ wsX50, w ∈ wsX5_overlapping := by decide +kernel
  have hk19 : (Cond.fieldLink RX5 19 "RoomcolourModel" "isThere" "[Z").before args s = true := hts _ (by decide +kernel)
  have L27 : ∀ (v1 : Int32) (f_thrown : Int32) (κ : Int64 → Int32 → Option (Int64 × Int32)) (n : Nat) (v2 : Int64) (v4 : Int32), f_X5_overlapping_L27 k v1 f_many A_begins A_ends A_isThere κ n v2 v4 = some (r, wf_thrown) → ∀ (H : Heap) (locs : List Loc) (ls : Array Slot), Hv s H locs G cy A [(aT, .inr (5, [.int f_thrown, .int f_many, .ref aT_begins, .ref aT_ends, .ref aT_weights, .ref aT_isThere, .ref aT_rooms, .int f_factor, .ref aT_isOffered, .ref aT_isAccepted, .int f_dropped, .ref aT_best, .ref aT_order, .ref aT_froms, .ref aT_tos, .ref aT_counts, .ref aT_points, .ref aT_flows, .ref aT_isUsed, .ref aT_gains, .ref aT_ways, .int f_pointMany])), (aT_begins, .inl (cy.1, 40, .inl A_begins)), (aT_ends, .inl (cy.1, 40, .inl A_ends)), (aT_isThere, .inl (cy.2.1, 40, .inl A_isThere))] → lv_has ls 5 [(0, .ref aT), (1, .int v1), (2, .long v2), (4, .int v4)] → (∀ (v2 : Int64) (v4 : Int32), κ v2 v4 = some (r, wf_thrown) → ∀ (H : Heap) (locs : List Loc) (ls : Array Slot), Hv s H locs G cy A [(aT, .inr (5, [.int f_thrown, .int f_many, .ref aT_begins, .ref aT_ends, .ref aT_weights, .ref aT_isThere, .ref aT_rooms, .int f_factor, .ref aT_isOffered, .ref aT_isAccepted, .int f_dropped, .ref aT_best, .ref aT_order, .ref aT_froms, .ref aT_tos, .ref aT_counts, .ref aT_points, .ref aT_flows, .ref aT_isUsed, .ref aT_gains, .ref aT_ways, .int f_pointMany])), (aT_begins, .inl (cy.1, 40, .inl A_begins)), (aT_ends, .inl (cy.1, 40, .inl A_ends)), (aT_isThere, .inl (cy.2.1, 40, .inl A_isThere))] → lv_has ls 5 [(2, .long v2)] → W p l e rm_X5_overlapping s m args below meth c H locs 0 0 Q (F0 m 79 ls [])) → W p l e rm_X5_overlapping s m args below meth c H locs 0 0 Q (F0 m 27 ls []) := by
    intro v1 f_thrown κ n
    induction n with
    | zero =>
      intro v2 v4 hf
      rw [f_X5_overlapping_L27_z] at hf
      cases hf
    | succ n ih =>
      intro v2 v4 hf H locs ls hv hl hκ
      rw [f_X5_overlapping_L27_s] at hf
      refine lv_iload hx hb dX5_overlapping_27 (lv_at hl 3 rfl) ?_
      refine lv_aload_n hx hb dX5_overlapping_29 rfl (lv_at hl 0 rfl) ?_
      refine kGet (v := .int f_many) (C := RX5) (T := TX5) (N := 22) hx hb hts hinX5 hown hv 0 rfl rfl 1 (by decide) hk69 (fun _ h9 => h9) rfl dX5_overlapping_30 ?_
      refine lv_icmp_ge (tgt := 79) hx hb dX5_overlapping_33 (by decide) (fun hc10 => ?_) (fun hc10 => ?_)
      · replace hf := ite_t hf hc10
        exact hκ v2 v4 hf _ _ _ hv (lv_sub hl [2] rfl)
      · replace hf := ite_f hf hc10
        refine lv_lload_n hx hb dX5_overlapping_36 rfl (lv_at hl 2 rfl) ?_
        refine lv_iload hx hb dX5_overlapping_37 (lv_at hl 3 rfl) ?_
        refine lv_iload_n hx hb dX5_overlapping_39 rfl (lv_at hl 1 rfl) ?_
        refine lv_icmp_eq (tgt := 70) hx hb dX5_overlapping_40 (by decide) (fun hc11 => ?_) (fun hc11 => ?_)
        · replace hf := ite_t hf hc11
          refine lv_lconst (v := 0) hx hb dX5_overlapping_70 (by decide) ?_
          refine lv_lor hx hb dX5_overlapping_71 ?_
          refine lv_lstore_n (lv' := [(2, .long (v2 ||| 0)), (0, .ref aT), (1, .int v1), (4, .int v4)]) hx hb dX5_overlapping_72 rfl hl (by decide) rfl (fun ls hl => ?_)
          refine lv_iinc (v := v4 + 1) (lv' := [(4, .int (v4 + 1)), (2, .long (v2 ||| 0)), (0, .ref aT), (1, .int v1)]) hx hb dX5_overlapping_73 hl (k := 3) rfl rfl (by decide) rfl (fun ls hl => ?_)
          refine lv_goto (tgt := 27) hx hb dX5_overlapping_76 (by decide) ?_
          exact ih (v2 ||| 0) (v4 + 1) hf _ _ _ hv (lv_sub hl [2, 3, 1, 0] rfl) hκ
        · replace hf := ite_f hf hc11
          refine lv_aload_n hx hb dX5_overlapping_43 rfl (lv_at hl 0 rfl) ?_
          refine kGet (v := .ref aT_isThere) (C := RX5) (T := TX5) (N := 22) hx hb hts hinX5 hown hv 0 rfl rfl 5 (by decide) hk19 (fun _ h9 => h9) rfl dX5_overlapping_44 ?_
          refine lv_iload hx hb dX5_overlapping_47 (lv_at hl 3 rfl) ?_
          obtain ⟨hi12, hf⟩ := xi_some hf
          refine kZald hx hb hv 3 rfl hi12 dX5_overlapping_49 ?_
          refine lv_if_eq (tgt := 70) hx hb dX5_overlapping_50 (by decide) (fun hc13 => ?_) (fun hc13 => ?_)
          · replace hf := ite_t hf hc13
            refine lv_lconst (v := 0) hx hb dX5_overlapping_70 (by decide) ?_
            refine lv_lor hx hb dX5_overlapping_71 ?_
            refine lv_lstore_n (lv' := [(2, .long (v2 ||| 0)), (0, .ref aT), (1, .int v1), (4, .int v4)]) hx hb dX5_overlapping_72 rfl hl (by decide) rfl (fun ls hl => ?_)
            refine lv_iinc (v := v4 + 1) (lv' := [(4, .int (v4 + 1)), (2, .long (v2 ||| 0)), (0, .ref aT), (1, .int v1)]) hx hb dX5_overlapping_73 hl (k := 3) rfl rfl (by decide) rfl (fun ls hl => ?_)
            refine lv_goto (tgt := 27) hx hb dX5_overlapping_76 (by decide) ?_
            exact ih (v2 ||| 0) (v4 + 1) hf _ _ _ hv (lv_sub hl [2, 3, 1, 0] rfl) hκ
          · replace hf := ite_f hf hc13
            refine lv_aload_n hx hb dX5_overlapping_53 rfl (lv_at hl 0 rfl) ?_
            refine lv_iload hx hb dX5_overlapping_54 (lv_at hl 3 rfl) ?_
            refine lv_iload_n hx hb dX5_overlapping_56 rfl (lv_at hl 1 rfl) ?_
            obtain ⟨r14, hcl15, hf⟩ := xb_some hf
            refine kV_i (r := r14) (wr := [(aT_isThere, .inl (cy.2.1, 40, .inl A_isThere))]) (w2 := [(aT, .inr (5, [.int f_thrown, .int f_many, .ref aT_begins, .ref aT_ends, .ref aT_weights, .ref aT_isThere, .ref aT_rooms, .int f_factor, .ref aT_isOffered, .ref aT_isAccepted, .int f_dropped, .ref aT_best, .ref aT_order, .ref aT_froms, .ref aT_tos, .ref aT_counts, .ref aT_points, .ref aT_flows, .ref aT_isUsed, .ref aT_gains, .ref aT_ways, .int f_pointMany])), (aT_begins, .inl (cy.1, 40, .inl A_begins)), (aT_ends, .inl (cy.1, 40, .inl A_ends)), (aT_isThere, .inl (cy.2.1, 40, .inl A_isThere))]) ⟨hx, hb, hml, hown, hts⟩ (c_X5_overlap l G cy k aT aT_begins aT_ends aT_weights aT_isThere aT_rooms aT_isOffered aT_isAccepted aT_best aT_order aT_froms aT_tos aT_counts aT_points aT_flows aT_isUsed aT_gains aT_ways f_thrown f_many f_factor f_dropped f_pointMany A_begins A_ends v4 v1 hcl15) (cwV 2 hts gX5_overlapping_X5_overlap rfl rfl rfl (by decide +kernel) ⟨Nat.le_of_ble_eq_true rfl, Nat.le_of_ble_eq_true rfl⟩) hv (isC := [0, 1, 2]) ⟨rfl, rfl⟩ (hv.recv 5 0 rfl rfl) [3] [1, 2, 3, 0] rfl rfl (by decide) rfl rfl rfl hl.1 rfl (Nat.le_of_ble_eq_true rfl) dX5_overlapping_57 ⟨Nat.le_of_ble_eq_true rfl, Nat.le_of_ble_eq_true rfl⟩ (fun H locs hv => ?_)
            refine lv_if_eq (tgt := 70) hx hb dX5_overlapping_60 (by decide) (fun hc16 => ?_) (fun hc16 => ?_)
            · replace hf := ite_t hf hc16
              refine lv_lconst (v := 0) hx hb dX5_overlapping_70 (by decide) ?_
              refine lv_lor hx hb dX5_overlapping_71 ?_
              refine lv_lstore_n (lv' := [(2, .long (v2 ||| 0)), (0, .ref aT), (1, .int v1), (4, .int v4)]) hx hb dX5_overlapping_72 rfl hl (by decide) rfl (fun ls hl => ?_)
              refine lv_iinc (v := v4 + 1) (lv' := [(4, .int (v4 + 1)), (2, .long (v2 ||| 0)), (0, .ref aT), (1, .int v1)]) hx hb dX5_overlapping_73 hl (k := 3) rfl rfl (by decide) rfl (fun ls hl => ?_)
              refine lv_goto (tgt := 27) hx hb dX5_overlapping_76 (by decide) ?_
              exact ih (v2 ||| 0) (v4 + 1) hf _ _ _ hv (lv_sub hl [2, 3, 1, 0] rfl) hκ
            · replace hf := ite_f hf hc16
              refine lv_lconst (v := 1) hx hb dX5_overlapping_63 (by decide) ?_
              refine lv_iload hx hb dX5_overlapping_64 (lv_at hl 3 rfl) ?_
              refine lv_lshl hx hb dX5_overlapping_66 rfl ?_
              refine lv_goto (tgt := 71) hx hb dX5_overlapping_67 (by decide) ?_
              refine lv_lor hx hb dX5_overlapping_71 ?_
              refine lv_lstore_n (lv' := [(2, .long (v2 ||| ((1 : Int64) <<< ((v4 : Int32).toInt64 &&& 63)))), (0, .ref aT), (1, .int v1), (4, .int v4)]) hx hb dX5_overlapping_72 rfl hl (by decide) rfl (fun ls hl => ?_)
              refine lv_iinc (v := v4 + 1) (lv' := [(4, .int (v4 + 1)), (2, .long (v2 ||| ((1 : Int64) <<< ((v4 : Int32).toInt64 &&& 63)))), (0, .ref aT), (1, .int v1)]) hx hb dX5_overlapping_73 hl (k := 3) rfl rfl (by decide) rfl (fun ls hl => ?_)
              refine lv_goto (tgt := 27) hx hb dX5_overlapping_76 (by decide) ?_
              exact ih (v2 ||| ((1 : Int64) <<< ((v4 : Int32).toInt64 &&& 63))) (v4 + 1) hf _ _ _ hv (lv_sub hl [2, 3, 1, 0] rfl) hκ
  unfold f_X5_overlapping at hf
  refine lv_aload_n hx hb dX5_overlapping_0 rfl (lv_at hl 0 rfl) ?_
  refine lv_aload_n hx hb dX5_overlapping_1 rfl (lv_at hl 0 rfl) ?_
  refine lv_iload_n hx hb dX5_overlapping_2 rfl (lv_at hl 1 rfl) ?_
  obtain ⟨r1, hcl2, hf⟩ := xb_some hf
  refine kV_i (r := r1) (wr := [(aT_begins, .inl (cy.1, 40, .inl A_begins)), (aT_ends, .inl (cy.1, 40, .inl A_ends))]) (w2 := [(aT, .inr (5, [.int f_thrown, .int f_many, .ref aT_begins, .ref aT_ends, .ref aT_weights, .ref aT_isThere, .ref aT_rooms, .int f_factor, .ref aT_isOffered, .ref aT_isAccepted, .int f_dropped, .ref aT_best, .ref aT_order, .ref aT_froms, .ref aT_tos, .ref aT_counts, .ref aT_points, .ref aT_flows, .ref aT_isUsed, .ref aT_gains, .ref aT_ways, .int f_pointMany])), (aT_begins, .inl (cy.1, 40, .inl A_begins)), (aT_ends, .inl (cy.1, 40, .inl A_ends)), (aT_isThere, .inl (cy.2.1, 40, .inl A_isThere))]) ⟨hx, hb, hml, hown, hts⟩ (c_X5_is l G cy k aT aT_begins aT_ends aT_weights aT_isThere aT_rooms aT_isOffered aT_isAccepted aT_best aT_order aT_froms aT_tos aT_counts aT_points aT_flows aT_isUsed aT_gains aT_ways f_thrown f_many f_factor f_dropped f_pointMany A_isThere p1 hcl2) (cwV 1 hts gX5_overlapping_X5_is rfl rfl rfl (by decide +kernel) ⟨Nat.le_of_ble_eq_true rfl, Nat.le_of_ble_eq_true rfl⟩) hv (isC := [0, 3]) ⟨rfl, rfl⟩ (hv.recv 5 0 rfl rfl) [1, 2] [2, 0, 1, 3] rfl rfl (by decide) rfl rfl rfl hl.1 rfl (Nat.le_of_ble_eq_true rfl) dX5_overlapping_3 ⟨Nat.le_of_ble_eq_true rfl, Nat.le_of_ble_eq_true rfl⟩ (fun H locs hv => ?_)
  refine xj_elim hf (fun j14_4 ej14_4 hf => ?_)
  have J14_4 : ∀ (x5 : Int32), j14_4 x5 = some (r, wf_thrown) → ∀ (H : Heap) (locs : List Loc) (ls : Array Slot), Hv s H locs G cy A [(aT, .inr (5, [.int f_thrown, .int f_many, .ref aT_begins, .ref aT_ends, .ref aT_weights, .ref aT_isThere, .ref aT_rooms, .int f_factor, .ref aT_isOffered, .ref aT_isAccepted, .int f_dropped, .ref aT_best, .ref aT_order, .ref aT_froms, .ref aT_tos, .ref aT_counts, .ref aT_points, .ref aT_flows, .ref aT_isUsed, .ref aT_gains, .ref aT_ways, .int f_pointMany])), (aT_begins, .inl (cy.1, 40, .inl A_begins)), (aT_ends, .inl (cy.1, 40, .inl A_ends)), (aT_isThere, .inl (cy.2.1, 40, .inl A_isThere))] → lv_has ls 5 [(0, .ref aT), (1, .int p1)] → W p l e rm_X5_overlapping s m args below meth c H locs 0 0 Q (F0 m 14 ls [.int x5, .ref aT]) := by
    intro x5 hf H locs ls hv hl
    rw [ej14_4] at hf
    try dsimp only at hf
    obtain ⟨⟨r6, f_thrown_7⟩, hcl8, hf⟩ := xb_some hf
    dsimp only at hf
    refine kV_i (r := r6) (wr := [(aT_begins, .inl (cy.1, 40, .inl A_begins)), (aT_ends, .inl (cy.1, 40, .inl A_ends)), (aT_isThere, .inl (cy.2.1, 40, .inl A_isThere))]) (w2 := [(aT, .inr (5, [.int f_thrown_7, .int f_many, .ref aT_begins, .ref aT_ends, .ref aT_weights, .ref aT_isThere, .ref aT_rooms, .int f_factor, .ref aT_isOffered, .ref aT_isAccepted, .int f_dropped, .ref aT_best, .ref aT_order, .ref aT_froms, .ref aT_tos, .ref aT_counts, .ref aT_points, .ref aT_flows, .ref aT_isUsed, .ref aT_gains, .ref aT_ways, .int f_pointMany])), (aT_begins, .inl (cy.1, 40, .inl A_begins)), (aT_ends, .inl (cy.1, 40, .inl A_ends)), (aT_isThere, .inl (cy.2.1, 40, .inl A_isThere))]) ⟨hx, hb, hml, hown, hts⟩ (c_X5_goesWell l G cy k aT aT_begins aT_ends aT_weights aT_isThere aT_rooms aT_isOffered aT_isAccepted aT_best aT_order aT_froms aT_tos aT_counts aT_points aT_flows aT_isUsed aT_gains aT_ways f_thrown f_many f_factor f_dropped f_pointMany x5 hcl8) (cwV 1 hts gX5_overlapping_X5_goesWell rfl rfl rfl (by decide +kernel) ⟨Nat.le_of_ble_eq_true rfl, Nat.le_of_ble_eq_true rfl⟩) hv (isC := [0]) ⟨rfl, rfl⟩ (hv.recv 5 0 rfl rfl) [1, 2, 3] [3, 0, 1, 2] rfl rfl (by decide) rfl rfl rfl hl.1 rfl (Nat.le_of_ble_eq_true rfl) dX5_overlapping_14 ⟨Nat.le_of_ble_eq_true rfl, Nat.le_of_ble_eq_true rfl⟩ (fun H locs hv => ?_)
    refine lv_if_ne (tgt := 22) hx hb dX5_overlapping_17 (by decide) (fun hc9 => ?_) (fun hc9 => ?_)
    · replace hf := ite_f hf hc9
      refine lv_lconst (v := 0) hx hb dX5_overlapping_22 (by decide) ?_
      refine lv_lstore_n (lv' := [(2, .long 0), (0, .ref aT), (1, .int p1)]) hx hb dX5_overlapping_23 rfl hl (by decide) rfl (fun ls hl => ?_)
      refine lv_iconst (v := 0) hx hb dX5_overlapping_24 (by decide) ?_
      refine lv_istore (lv' := [(4, .int 0), (2, .long 0), (0, .ref aT), (1, .int p1)]) hx hb dX5_overlapping_25 hl (by decide) rfl (fun ls hl => ?_)
      refine L27 _ _ _ _ _ _ hf _ _ _ hv (lv_sub hl [2, 3, 1, 0] rfl) (fun v2_17 v4_18 hf H locs ls hv hl => ?_)
      try dsimp only at hf
      refine lv_lload_n hx hb dX5_overlapping_79 rfl (lv_at hl 0 rfl) ?_
      cases hf
      exact kret _ _ _ _ hv dX5_overlapping_80
    · replace hf := ite_t hf hc9
      refine lv_lconst (v := 0) hx hb dX5_overlapping_20 (by decide) ?_
      cases hf
      exact kret _ _ _ _ hv dX5_overlapping_21
  refine lv_if_eq (tgt := 13) hx hb dX5_overlapping_6 (by decide) (fun hc3 => ?_) (fun hc3 => ?_)
  · replace hf := ite_t hf hc3
    refine lv_iconst (v := 1) hx hb dX5_overlapping_13 (by decide) ?_
    exact J14_4 1 hf _ _ _ hv (lv_sub hl [0, 1] rfl)
  · replace hf := ite_f hf hc3
    refine lv_iconst (v := 0) hx hb dX5_overlapping_9 (by decide) ?_
    refine lv_goto (tgt := 14) hx hb dX5_overlapping_10 (by decide) ?_
    exact J14_4 0 hf _ _ _ hv (lv_sub hl [0, 1] rfl)

def f_X5_present_L9 (k : Nat) (f_many : Int32) (A_isThere : Nat → Int32) (κ : Int64 → Int32 → Option (Int64 × Int32)) : Nat → Int64 → Int32 → Option (Int64 × Int32)
  | 0, _, _ => none
  | n + 1, v1, v3 => if f_many ≤ v3 then κ v1 v3 else xi v3 40 (if (A_isThere v3.toNatClampNeg) = 0 then f_X5_present_L9 k f_many A_isThere κ n (v1 ||| 0) (v3 + 1) else f_X5_present_L9 k f_many A_isThere κ n (v1 ||| ((1 : Int64) <<< ((v3 : Int32).toInt64 &&& 63))) (v3 + 1))
theorem f_X5_present_L9_z (k : Nat) (f_many : Int32) (A_isThere : Nat → Int32) (κ : Int64 → Int32 → Option (Int64 × Int32)) (v1 : Int64) (v3 : Int32) : f_X5_present_L9 k f_many A_isThere κ 0 v1 v3 = none := rfl
theorem f_X5_present_L9_s (k : Nat) (f_many : Int32) (A_isThere : Nat → Int32) (κ : Int64 → Int32 → Option (Int64 × Int32)) (n : Nat) (v1 : Int64) (v3 : Int32) : f_X5_present_L9 k f_many A_isThere κ (n + 1) v1 v3 = if f_many ≤ v3 then κ v1 v3 else xi v3 40 (if (A_isThere v3.toNatClampNeg) = 0 then f_X5_present_L9 k f_many A_isThere κ n (v1 ||| 0) (v3 + 1) else f_X5_present_L9 k f_many A_isThere κ n (v1 ||| ((1 : Int64) <<< ((v3 : Int32).toInt64 &&& 63))) (v3 + 1)) := rfl
def f_X5_present (k : Nat) (f_thrown : Int32) (f_many : Int32) (A_isThere : Nat → Int32) : Option (Int64 × Int32) := f_X5_present_L9 k f_many A_isThere (fun (v1_4 : Int64) (v3_5 : Int32) => some (v1_4, 0)) k 0 0
abbrev rm_X5_present : Room := { frames := 0, cells := 0, slots := 0, locals := 0 }
set_option maxHeartbeats 4000000 in
set_option maxRecDepth 100000 in
theorem c_X5_present (l : Launch) (G : va_G) (cy : ClassId × ClassId × ClassId) (k : Nat) (aT aT_begins aT_ends aT_weights aT_isThere aT_rooms aT_isOffered aT_isAccepted aT_best aT_order aT_froms aT_tos aT_counts aT_points aT_flows aT_isUsed aT_gains aT_ways : Nat) (f_thrown : Int32) (f_many : Int32) (f_factor : Int32) (f_dropped : Int32) (f_pointMany : Int32) (A_isThere : Nat → Int32) {r : Int64} {wf_thrown : Int32} (hf : f_X5_present k f_thrown f_many A_isThere = some (r, wf_thrown)) : Cl l yX5_present wsX5_present rm_X5_present 0 0 G cy [.ref aT] [(aT, .inr (5, [.int f_thrown, .int f_many, .ref aT_begins, .ref aT_ends, .ref aT_weights, .ref aT_isThere, .ref aT_rooms, .int f_factor, .ref aT_isOffered, .ref aT_isAccepted, .int f_dropped, .ref aT_best, .ref aT_order, .ref aT_froms, .ref aT_tos, .ref aT_counts, .ref aT_points, .ref aT_flows, .ref aT_isUsed, .ref aT_gains, .ref aT_ways, .int f_pointMany])), (aT_isThere, .inl (cy.2.1, 40, .inl A_isThere))] [(aT, .inr (5, [.int wf_thrown, .int f_many, .ref aT_begins, .ref aT_ends, .ref aT_weights, .ref aT_isThere, .ref aT_rooms, .int f_factor, .ref aT_isOffered, .ref aT_isAccepted, .int f_dropped, .ref aT_best, .ref aT_order, .ref aT_froms, .ref aT_tos, .ref aT_counts, .ref aT_points, .ref aT_flows, .ref aT_isUsed, .ref aT_gains, .ref aT_ways, .int f_pointMany])), (aT_isThere, .inl (cy.2.1, 40, .inl A_isThere))] r := by
  refine kMetL (cc := cX5_present) (maxL := 4) (by decide) rfl (Nat.le_of_ble_eq_true rfl) ?_
  intro p e s m args below meth c Q A ls hx hb hml hts hown hv hl kret
  replace hown : s.vm.findClass RX5 = some m.cls := hown
  replace hl : lv_has ls 4 [(0, .ref aT)] := hl
  have hk66 : (Cond.fieldLink RX5 66 "RoomcolourModel" "thrown" "I").before args s = true := hts _ (by decide +kernel)
  have hinX5 : ∀ w ∈ wsX50, w ∈ wsX5_present := by decide +kernel
  have hk69 : (Cond.fieldLink RX5 69 "RoomcolourModel" "many" "I").before args s = true := hts _ (by decide +kernel)
  have hk19 : (Cond.fieldLink RX5 19 "RoomcolourModel" "isThere" "[Z").before args s = true := hts _ (by decide +kernel)
  have L9 : ∀ (f_thrown : Int32) (κ : Int64 → Int32 → Option (Int64 × Int32)) (n : Nat) (v1 : Int64) (v3 : Int32), f_X5_present_L9 k f_many A_isThere κ n v1 v3 = some (r, wf_thrown) → ∀ (H : Heap) (locs : List Loc) (ls : Array Slot), Hv s H locs G cy A [(aT, .inr (5, [.int f_thrown, .int f_many, .ref aT_begins, .ref aT_ends, .ref aT_weights, .ref aT_isThere, .ref aT_rooms, .int f_factor, .ref aT_isOffered, .ref aT_isAccepted, .int f_dropped, .ref aT_best, .ref aT_order, .ref aT_froms, .ref aT_tos, .ref aT_counts, .ref aT_points, .ref aT_flows, .ref aT_isUsed, .ref aT_gains, .ref aT_ways, .int f_pointMany])), (aT_isThere, .inl (cy.2.1, 40, .inl A_isThere))] → lv_has ls 4 [(0, .ref aT), (1, .long v1), (3, .int v3)] → (∀ (v1 : Int64) (v3 : Int32), κ v1 v3 = some (r, wf_thrown) → ∀ (H : Heap) (locs : List Loc) (ls : Array Slot), Hv s H locs G cy A [(aT, .inr (5, [.int f_thrown, .int f_many, .ref aT_begins, .ref aT_ends, .ref aT_weights, .ref aT_isThere, .ref aT_rooms, .int f_factor, .ref aT_isOffered, .ref aT_isAccepted, .int f_dropped, .ref aT_best, .ref aT_order, .ref aT_froms, .ref aT_tos, .ref aT_counts, .ref aT_points, .ref aT_flows, .ref aT_isUsed, .ref aT_gains, .ref aT_ways, .int f_pointMany])), (aT_isThere, .inl (cy.2.1, 40, .inl A_isThere))] → lv_has ls 4 [(1, .long v1)] → W p l e rm_X5_present s m args below meth c H locs 0 0 Q (F0 m 42 ls [])) → W p l e rm_X5_present s m args below meth c H locs 0 0 Q (F0 m 9 ls []) := by
    intro f_thrown κ n
    induction n with
    | zero =>
      intro v1 v3 hf
      rw [f_X5_present_L9_z] at hf
      cases hf
    | succ n ih =>
      intro v1 v3 hf H locs ls hv hl hκ
      rw [f_X5_present_L9_s] at hf
      refine lv_iload_n hx hb dX5_present_9 rfl (lv_at hl 2 rfl) ?_
      refine lv_aload_n hx hb dX5_present_10 rfl (lv_at hl 0 rfl) ?_
      refine kGet (v := .int f_many) (C := RX5) (T := TX5) (N := 22) hx hb hts hinX5 hown hv 0 rfl rfl 1 (by decide) hk69 (fun _ h9 => h9) rfl dX5_present_11 ?_
      refine lv_icmp_ge (tgt := 42) hx hb dX5_present_14 (by decide) (fun hc1 => ?_) (fun hc1 => ?_)
      · replace hf := ite_t hf hc1
        exact hκ v1 v3 hf _ _ _ hv (lv_sub hl [1] rfl)
      · replace hf := ite_f hf hc1
        refine lv_lload_n hx hb dX5_present_17 rfl (lv_at hl 1 rfl) ?_
        refine lv_aload_n hx hb dX5_present_18 rfl (lv_at hl 0 rfl) ?_
        refine kGet (v := .ref aT_isThere) (C := RX5) (T := TX5) (N := 22) hx hb hts hinX5 hown hv 0 rfl rfl 5 (by decide) hk19 (fun _ h9 => h9) rfl dX5_present_19 ?_
        refine lv_iload_n hx hb dX5_present_22 rfl (lv_at hl 2 rfl) ?_
        obtain ⟨hi2, hf⟩ := xi_some hf
        refine kZald hx hb hv 1 rfl hi2 dX5_present_23 ?_
        refine lv_if_eq (tgt := 33) hx hb dX5_present_24 (by decide) (fun hc3 => ?_) (fun hc3 => ?_)
        · replace hf := ite_t hf hc3
          refine lv_lconst (v := 0) hx hb dX5_present_33 (by decide) ?_
          refine lv_lor hx hb dX5_present_34 ?_
          refine lv_lstore_n (lv' := [(1, .long (v1 ||| 0)), (0, .ref aT), (3, .int v3)]) hx hb dX5_present_35 rfl hl (by decide) rfl (fun ls hl => ?_)
          refine lv_iinc (v := v3 + 1) (lv' := [(3, .int (v3 + 1)), (1, .long (v1 ||| 0)), (0, .ref aT)]) hx hb dX5_present_36 hl (k := 2) rfl rfl (by decide) rfl (fun ls hl => ?_)
          refine lv_goto (tgt := 9) hx hb dX5_present_39 (by decide) ?_
          exact ih (v1 ||| 0) (v3 + 1) hf _ _ _ hv (lv_sub hl [2, 1, 0] rfl) hκ
        · replace hf := ite_f hf hc3
          refine lv_lconst (v := 1) hx hb dX5_present_27 (by decide) ?_
          refine lv_iload_n hx hb dX5_present_28 rfl (lv_at hl 2 rfl) ?_
          refine lv_lshl hx hb dX5_present_29 rfl ?_
          refine lv_goto (tgt := 34) hx hb dX5_present_30 (by decide) ?_
          refine lv_lor hx hb dX5_present_34 ?_
          refine lv_lstore_n (lv' := [(1, .long (v1 ||| ((1 : Int64) <<< ((v3 : Int32).toInt64 &&& 63)))), (0, .ref aT), (3, .int v3)]) hx hb dX5_present_35 rfl hl (by decide) rfl (fun ls hl => ?_)
          refine lv_iinc (v := v3 + 1) (lv' := [(3, .int (v3 + 1)), (1, .long (v1 ||| ((1 : Int64) <<< ((v3 : Int32).toInt64 &&& 63)))), (0, .ref aT)]) hx hb dX5_present_36 hl (k := 2) rfl rfl (by decide) rfl (fun ls hl => ?_)
          refine lv_goto (tgt := 9) hx hb dX5_present_39 (by decide) ?_
          exact ih (v1 ||| ((1 : Int64) <<< ((v3 : Int32).toInt64 &&& 63))) (v3 + 1) hf _ _ _ hv (lv_sub hl [2, 1, 0] rfl) hκ
  unfold f_X5_present at hf
  refine lv_aload_n hx hb dX5_present_0 rfl (lv_at hl 0 rfl) ?_
  refine lv_iconst (v := 0) hx hb dX5_present_1 (by decide) ?_
  refine kPut (v := .int 0) (ty := .int) (C := RX5) (T := TX5) (N := 22) hx hb hts hinX5 tyX5 tyX5_ok nmX5 hown hv 0 rfl rfl 0 (by decide) hk66 (fun _ h9 => h9) rfl (by decide +kernel) rfl rfl (Nat.le_of_ble_eq_true rfl) dX5_present_2 (fun H locs hv => ?_)
  replace hv : Hv s H locs G cy A [(aT, .inr (5, [.int 0, .int f_many, .ref aT_begins, .ref aT_ends, .ref aT_weights, .ref aT_isThere, .ref aT_rooms, .int f_factor, .ref aT_isOffered, .ref aT_isAccepted, .int f_dropped, .ref aT_best, .ref aT_order, .ref aT_froms, .ref aT_tos, .ref aT_counts, .ref aT_points, .ref aT_flows, .ref aT_isUsed, .ref aT_gains, .ref aT_ways, .int f_pointMany])), (aT_isThere, .inl (cy.2.1, 40, .inl A_isThere))] := hv
  refine lv_lconst (v := 0) hx hb dX5_present_5 (by decide) ?_
  refine lv_lstore_n (lv' := [(1, .long 0), (0, .ref aT)]) hx hb dX5_present_6 rfl hl (by decide) rfl (fun ls hl => ?_)
  refine lv_iconst (v := 0) hx hb dX5_present_7 (by decide) ?_
  refine lv_istore_n (lv' := [(3, .int 0), (1, .long 0), (0, .ref aT)]) hx hb dX5_present_8 rfl hl (by decide) rfl (fun ls hl => ?_)
  refine L9 _ _ _ _ _ hf _ _ _ hv (lv_sub hl [2, 1, 0] rfl) (fun v1_4 v3_5 hf H locs ls hv hl => ?_)
  try dsimp only at hf
  refine lv_lload_n hx hb dX5_present_42 rfl (lv_at hl 0 rfl) ?_
  cases hf
  exact kret _ _ _ _ hv dX5_present_43

def f_X5_remove (k : Nat) (p1 : Int32) (f_thrown : Int32) (f_many : Int32) (A_isThere : Nat → Int32) (A_isAccepted : Nat → Int32) : Option (Int32 × Int32 × (Nat → Int32) × (Nat → Int32)) := xb (f_X5_is k p1 f_many A_isThere) (fun r1 => xj (fun (x5 : Int32) => xb (f_X5_goesWell k x5 f_thrown) (fun (r6, f_thrown_7) => if r6 = 0 then some (0, f_thrown_7, A_isThere, A_isAccepted) else xi p1 40 (xi p1 40 (xb (f_X5_count k f_many (upd A_isThere p1.toNatClampNeg (vp_nar .boolean 0))) (fun r12 => some (r12, f_thrown_7, upd A_isThere p1.toNatClampNeg (vp_nar .boolean 0), upd A_isAccepted p1.toNatClampNeg (vp_nar .boolean 0))))))) (fun (j14_4 : Int32 → Option (Int32 × Int32 × (Nat → Int32) × (Nat → Int32))) => if r1 = 0 then j14_4 1 else j14_4 0))
abbrev rm_X5_remove : Room := { frames := 2, cells := 0, slots := 0, locals := 43 }
set_option maxHeartbeats 4000000 in
set_option maxRecDepth 100000 in
theorem c_X5_remove (l : Launch) (G : va_G) (cy : ClassId × ClassId × ClassId) (k : Nat) (aT aT_begins aT_ends aT_weights aT_isThere aT_rooms aT_isOffered aT_isAccepted aT_best aT_order aT_froms aT_tos aT_counts aT_points aT_flows aT_isUsed aT_gains aT_ways : Nat) (f_thrown : Int32) (f_many : Int32) (f_factor : Int32) (f_dropped : Int32) (f_pointMany : Int32) (A_isThere : Nat → Int32) (A_isAccepted : Nat → Int32) (p1 : Int32) {r : Int32} {wf_thrown : Int32} {wA_isThere : Nat → Int32} {wA_isAccepted : Nat → Int32} (hf : f_X5_remove k p1 f_thrown f_many A_isThere A_isAccepted = some (r, wf_thrown, wA_isThere, wA_isAccepted)) : Ci l yX5_remove wsX5_remove rm_X5_remove 0 0 G cy [.ref aT, .int p1] [(aT, .inr (5, [.int f_thrown, .int f_many, .ref aT_begins, .ref aT_ends, .ref aT_weights, .ref aT_isThere, .ref aT_rooms, .int f_factor, .ref aT_isOffered, .ref aT_isAccepted, .int f_dropped, .ref aT_best, .ref aT_order, .ref aT_froms, .ref aT_tos, .ref aT_counts, .ref aT_points, .ref aT_flows, .ref aT_isUsed, .ref aT_gains, .ref aT_ways, .int f_pointMany])), (aT_isThere, .inl (cy.2.1, 40, .inl A_isThere)), (aT_isAccepted, .inl (cy.2.1, 40, .inl A_isAccepted))] [(aT, .inr (5, [.int wf_thrown, .int f_many, .ref aT_begins, .ref aT_ends, .ref aT_weights, .ref aT_isThere, .ref aT_rooms, .int f_factor, .ref aT_isOffered, .ref aT_isAccepted, .int f_dropped, .ref aT_best, .ref aT_order, .ref aT_froms, .ref aT_tos, .ref aT_counts, .ref aT_points, .ref aT_flows, .ref aT_isUsed, .ref aT_gains, .ref aT_ways, .int f_pointMany])), (aT_isThere, .inl (cy.2.1, 40, .inl wA_isThere)), (aT_isAccepted, .inl (cy.2.1, 40, .inl wA_isAccepted))] r := by
  refine kMetI (cc := cX5_remove) (maxL := 2) (by decide) rfl (Nat.le_of_ble_eq_true rfl) ?_
  intro p e s m args below meth c Q A ls hx hb hml hts hown hv hl kret
  replace hown : s.vm.findClass RX5 = some m.cls := hown
  replace hl : lv_has ls 2 [(0, .ref aT), (1, .int p1)] := hl
  have hk19 : (Cond.fieldLink RX5 19 "RoomcolourModel" "isThere" "[Z").before args s = true := hts _ (by decide +kernel)
  have hinX5 : ∀ w ∈ wsX50, w ∈ wsX5_remove := by decide +kernel
  have hk33 : (Cond.fieldLink RX5 33 "RoomcolourModel" "isAccepted" "[Z").before args s = true := hts _ (by decide +kernel)
  unfold f_X5_remove at hf
  refine lv_aload_n hx hb dX5_remove_0 rfl (lv_at hl 0 rfl) ?_
  refine lv_aload_n hx hb dX5_remove_1 rfl (lv_at hl 0 rfl) ?_
  refine lv_iload_n hx hb dX5_remove_2 rfl (lv_at hl 1 rfl) ?_
  obtain ⟨r1, hcl2, hf⟩ := xb_some hf
  refine kV_i (r := r1) (wr := [(aT_isAccepted, .inl (cy.2.1, 40, .inl A_isAccepted))]) (w2 := [(aT, .inr (5, [.int f_thrown, .int f_many, .ref aT_begins, .ref aT_ends, .ref aT_weights, .ref aT_isThere, .ref aT_rooms, .int f_factor, .ref aT_isOffered, .ref aT_isAccepted, .int f_dropped, .ref aT_best, .ref aT_order, .ref aT_froms, .ref aT_tos, .ref aT_counts, .ref aT_points, .ref aT_flows, .ref aT_isUsed, .ref aT_gains, .ref aT_ways, .int f_pointMany])), (aT_isThere, .inl (cy.2.1, 40, .inl A_isThere)), (aT_isAccepted, .inl (cy.2.1, 40, .inl A_isAccepted))]) ⟨hx, hb, hml, hown, hts⟩ (c_X5_is l G cy k aT aT_begins aT_ends aT_weights aT_isThere aT_rooms aT_isOffered aT_isAccepted aT_best aT_order aT_froms aT_tos aT_counts aT_points aT_flows aT_isUsed aT_gains aT_ways f_thrown f_many f_factor f_dropped f_pointMany A_isThere p1 hcl2) (cwV 1 hts gX5_remove_X5_is rfl rfl rfl (by decide +kernel) ⟨Nat.le_of_ble_eq_true rfl, Nat.le_of_ble_eq_true rfl⟩) hv (isC := [0, 1]) ⟨rfl, rfl⟩ (hv.recv 5 0 rfl rfl) [2] [1, 2, 0] rfl rfl (by decide) rfl rfl rfl hl.1 rfl (Nat.le_of_ble_eq_true rfl) dX5_remove_3 ⟨Nat.le_of_ble_eq_true rfl, Nat.le_of_ble_eq_true rfl⟩ (fun H locs hv => ?_)
  refine xj_elim hf (fun j14_4 ej14_4 hf => ?_)
  have J14_4 : ∀ (x5 : Int32), j14_4 x5 = some (r, wf_thrown, wA_isThere, wA_isAccepted) → ∀ (H : Heap) (locs : List Loc) (ls : Array Slot), Hv s H locs G cy A [(aT, .inr (5, [.int f_thrown, .int f_many, .ref aT_begins, .ref aT_ends, .ref aT_weights, .ref aT_isThere, .ref aT_rooms, .int f_factor, .ref aT_isOffered, .ref aT_isAccepted, .int f_dropped, .ref aT_best, .ref aT_order, .ref aT_froms, .ref aT_tos, .ref aT_counts, .ref aT_points, .ref aT_flows, .ref aT_isUsed, .ref aT_gains, .ref aT_ways, .int f_pointMany])), (aT_isThere, .inl (cy.2.1, 40, .inl A_isThere)), (aT_isAccepted, .inl (cy.2.1, 40, .inl A_isAccepted))] → lv_has ls 2 [(0, .ref aT), (1, .int p1)] → W p l e rm_X5_remove s m args below meth c H locs 0 0 Q (F0 m 14 ls [.int x5, .ref aT]) := by
    intro x5 hf H locs ls hv hl
    rw [ej14_4] at hf
    try dsimp only at hf
    obtain ⟨⟨r6, f_thrown_7⟩, hcl8, hf⟩ := xb_some hf
    dsimp only at hf
    refine kV_i (r := r6) (wr := [(aT_isThere, .inl (cy.2.1, 40, .inl A_isThere)), (aT_isAccepted, .inl (cy.2.1, 40, .inl A_isAccepted))]) (w2 := [(aT, .inr (5, [.int f_thrown_7, .int f_many, .ref aT_begins, .ref aT_ends, .ref aT_weights, .ref aT_isThere, .ref aT_rooms, .int f_factor, .ref aT_isOffered, .ref aT_isAccepted, .int f_dropped, .ref aT_best, .ref aT_order, .ref aT_froms, .ref aT_tos, .ref aT_counts, .ref aT_points, .ref aT_flows, .ref aT_isUsed, .ref aT_gains, .ref aT_ways, .int f_pointMany])), (aT_isThere, .inl (cy.2.1, 40, .inl A_isThere)), (aT_isAccepted, .inl (cy.2.1, 40, .inl A_isAccepted))]) ⟨hx, hb, hml, hown, hts⟩ (c_X5_goesWell l G cy k aT aT_begins aT_ends aT_weights aT_isThere aT_rooms aT_isOffered aT_isAccepted aT_best aT_order aT_froms aT_tos aT_counts aT_points aT_flows aT_isUsed aT_gains aT_ways f_thrown f_many f_factor f_dropped f_pointMany x5 hcl8) (cwV 1 hts gX5_remove_X5_goesWell rfl rfl rfl (by decide +kernel) ⟨Nat.le_of_ble_eq_true rfl, Nat.le_of_ble_eq_true rfl⟩) hv (isC := [0]) ⟨rfl, rfl⟩ (hv.recv 5 0 rfl rfl) [1, 2] [2, 0, 1] rfl rfl (by decide) rfl rfl rfl hl.1 rfl (Nat.le_of_ble_eq_true rfl) dX5_remove_14 ⟨Nat.le_of_ble_eq_true rfl, Nat.le_of_ble_eq_true rfl⟩ (fun H locs hv => ?_)
    refine lv_if_ne (tgt := 22) hx hb dX5_remove_17 (by decide) (fun hc9 => ?_) (fun hc9 => ?_)
    · replace hf := ite_f hf hc9
      refine lv_aload_n hx hb dX5_remove_22 rfl (lv_at hl 0 rfl) ?_
      refine kGet (v := .ref aT_isThere) (C := RX5) (T := TX5) (N := 22) hx hb hts hinX5 hown hv 0 rfl rfl 5 (by decide) hk19 (fun _ h9 => h9) rfl dX5_remove_23 ?_
      refine lv_iload_n hx hb dX5_remove_26 rfl (lv_at hl 1 rfl) ?_
      refine lv_iconst (v := 0) hx hb dX5_remove_27 (by decide) ?_
      obtain ⟨hi10, hf⟩ := xi_some hf
      refine kZast hx hb hv 1 rfl hi10 dX5_remove_28 (fun H locs hv => ?_)
      replace hv : Hv s H locs G cy A [(aT, .inr (5, [.int f_thrown_7, .int f_many, .ref aT_begins, .ref aT_ends, .ref aT_weights, .ref aT_isThere, .ref aT_rooms, .int f_factor, .ref aT_isOffered, .ref aT_isAccepted, .int f_dropped, .ref aT_best, .ref aT_order, .ref aT_froms, .ref aT_tos, .ref aT_counts, .ref aT_points, .ref aT_flows, .ref aT_isUsed, .ref aT_gains, .ref aT_ways, .int f_pointMany])), (aT_isThere, .inl (cy.2.1, 40, .inl (upd A_isThere p1.toNatClampNeg (vp_nar .boolean 0)))), (aT_isAccepted, .inl (cy.2.1, 40, .inl A_isAccepted))] := hv
      refine lv_aload_n hx hb dX5_remove_29 rfl (lv_at hl 0 rfl) ?_
      refine kGet (v := .ref aT_isAccepted) (C := RX5) (T := TX5) (N := 22) hx hb hts hinX5 hown hv 0 rfl rfl 9 (by decide) hk33 (fun _ h9 => h9) rfl dX5_remove_30 ?_
      refine lv_iload_n hx hb dX5_remove_33 rfl (lv_at hl 1 rfl) ?_
      refine lv_iconst (v := 0) hx hb dX5_remove_34 (by decide) ?_
      obtain ⟨hi11, hf⟩ := xi_some hf
      refine kZast hx hb hv 2 rfl hi11 dX5_remove_35 (fun H locs hv => ?_)
      replace hv : Hv s H locs G cy A [(aT, .inr (5, [.int f_thrown_7, .int f_many, .ref aT_begins, .ref aT_ends, .ref aT_weights, .ref aT_isThere, .ref aT_rooms, .int f_factor, .ref aT_isOffered, .ref aT_isAccepted, .int f_dropped, .ref aT_best, .ref aT_order, .ref aT_froms, .ref aT_tos, .ref aT_counts, .ref aT_points, .ref aT_flows, .ref aT_isUsed, .ref aT_gains, .ref aT_ways, .int f_pointMany])), (aT_isThere, .inl (cy.2.1, 40, .inl (upd A_isThere p1.toNatClampNeg (vp_nar .boolean 0)))), (aT_isAccepted, .inl (cy.2.1, 40, .inl (upd A_isAccepted p1.toNatClampNeg (vp_nar .boolean 0))))] := hv
      refine lv_aload_n hx hb dX5_remove_36 rfl (lv_at hl 0 rfl) ?_
      obtain ⟨r12, hcl13, hf⟩ := xb_some hf
      refine kV_i (r := r12) (wr := [(aT_isAccepted, .inl (cy.2.1, 40, .inl (upd A_isAccepted p1.toNatClampNeg (vp_nar .boolean 0))))]) (w2 := [(aT, .inr (5, [.int f_thrown_7, .int f_many, .ref aT_begins, .ref aT_ends, .ref aT_weights, .ref aT_isThere, .ref aT_rooms, .int f_factor, .ref aT_isOffered, .ref aT_isAccepted, .int f_dropped, .ref aT_best, .ref aT_order, .ref aT_froms, .ref aT_tos, .ref aT_counts, .ref aT_points, .ref aT_flows, .ref aT_isUsed, .ref aT_gains, .ref aT_ways, .int f_pointMany])), (aT_isThere, .inl (cy.2.1, 40, .inl (upd A_isThere p1.toNatClampNeg (vp_nar .boolean 0)))), (aT_isAccepted, .inl (cy.2.1, 40, .inl (upd A_isAccepted p1.toNatClampNeg (vp_nar .boolean 0))))]) ⟨hx, hb, hml, hown, hts⟩ (c_X5_count l G cy k aT aT_begins aT_ends aT_weights aT_isThere aT_rooms aT_isOffered aT_isAccepted aT_best aT_order aT_froms aT_tos aT_counts aT_points aT_flows aT_isUsed aT_gains aT_ways f_thrown_7 f_many f_factor f_dropped f_pointMany (upd A_isThere p1.toNatClampNeg (vp_nar .boolean 0)) hcl13) (cwV 0 hts gX5_remove_X5_count rfl rfl rfl (by decide +kernel) ⟨Nat.le_of_ble_eq_true rfl, Nat.le_of_ble_eq_true rfl⟩) hv (isC := [0, 1]) ⟨rfl, rfl⟩ (hv.recv 5 0 rfl rfl) [2] [1, 2, 0] rfl rfl (by decide) rfl rfl rfl hl.1 rfl (Nat.le_of_ble_eq_true rfl) dX5_remove_37 ⟨Nat.le_of_ble_eq_true rfl, Nat.le_of_ble_eq_true rfl⟩ (fun H locs hv => ?_)
      cases hf
      exact kret _ _ _ _ hv dX5_remove_40
    · replace hf := ite_t hf hc9
      refine lv_iconst (v := 0) hx hb dX5_remove_20 (by decide) ?_
      cases hf
      exact kret _ _ _ _ hv dX5_remove_21
  refine lv_if_eq (tgt := 13) hx hb dX5_remove_6 (by decide) (fun hc3 => ?_) (fun hc3 => ?_)
  · replace hf := ite_t hf hc3
    refine lv_iconst (v := 1) hx hb dX5_remove_13 (by decide) ?_
    exact J14_4 1 hf _ _ _ hv (lv_sub hl [0, 1] rfl)
  · replace hf := ite_f hf hc3
    refine lv_iconst (v := 0) hx hb dX5_remove_9 (by decide) ?_
    refine lv_goto (tgt := 14) hx hb dX5_remove_10 (by decide) ?_
    exact J14_4 0 hf _ _ _ hv (lv_sub hl [0, 1] rfl)

def f_X5_roomOf_L24 (k : Nat) (v1 : Int32) (f_many : Int32) (κ : Int32 → (Nat → Int32) → Option (Int32 × Int32 × (Nat → Int32))) : Nat → Int32 → (Nat → Int32) → Option (Int32 × Int32 × (Nat → Int32))
  | 0, _, _ => none
  | n + 1, v2, A_rooms => if f_many ≤ v2 then κ v2 A_rooms else xi v2 40 (f_X5_roomOf_L24 k v1 f_many κ n (v2 + 1) (upd A_rooms v2.toNatClampNeg (-1)))
theorem f_X5_roomOf_L24_z (k : Nat) (v1 : Int32) (f_many : Int32) (κ : Int32 → (Nat → Int32) → Option (Int32 × Int32 × (Nat → Int32))) (v2 : Int32) (A_rooms : Nat → Int32) : f_X5_roomOf_L24 k v1 f_many κ 0 v2 A_rooms = none := rfl
theorem f_X5_roomOf_L24_s (k : Nat) (v1 : Int32) (f_many : Int32) (κ : Int32 → (Nat → Int32) → Option (Int32 × Int32 × (Nat → Int32))) (n : Nat) (v2 : Int32) (A_rooms : Nat → Int32) : f_X5_roomOf_L24 k v1 f_many κ (n + 1) v2 A_rooms = if f_many ≤ v2 then κ v2 A_rooms else xi v2 40 (f_X5_roomOf_L24 k v1 f_many κ n (v2 + 1) (upd A_rooms v2.toNatClampNeg (-1))) := rfl
def f_X5_roomOf_L86 (k : Nat) (v1 : Int32) (v2 : Int32) (v3 : Int32) (f_many : Int32) (A_begins : Nat → Int32) (A_ends : Nat → Int32) (A_isThere : Nat → Int32) (A_rooms : Nat → Int32) (κ : Int32 → Option (Int32 × Int32 × (Nat → Int32))) : Nat → Int32 → Option (Int32 × Int32 × (Nat → Int32))
  | 0, _ => none
  | n + 1, v4 => xb (f_X5_isFree k v4 v3 f_many A_begins A_ends A_isThere A_rooms) (fun r20 => if r20 = 0 then f_X5_roomOf_L86 k v1 v2 v3 f_many A_begins A_ends A_isThere A_rooms κ n (v4 + 1) else κ v4)
theorem f_X5_roomOf_L86_z (k : Nat) (v1 : Int32) (v2 : Int32) (v3 : Int32) (f_many : Int32) (A_begins : Nat → Int32) (A_ends : Nat → Int32) (A_isThere : Nat → Int32) (A_rooms : Nat → Int32) (κ : Int32 → Option (Int32 × Int32 × (Nat → Int32))) (v4 : Int32) : f_X5_roomOf_L86 k v1 v2 v3 f_many A_begins A_ends A_isThere A_rooms κ 0 v4 = none := rfl
theorem f_X5_roomOf_L86_s (k : Nat) (v1 : Int32) (v2 : Int32) (v3 : Int32) (f_many : Int32) (A_begins : Nat → Int32) (A_ends : Nat → Int32) (A_isThere : Nat → Int32) (A_rooms : Nat → Int32) (κ : Int32 → Option (Int32 × Int32 × (Nat → Int32))) (n : Nat) (v4 : Int32) : f_X5_roomOf_L86 k v1 v2 v3 f_many A_begins A_ends A_isThere A_rooms κ (n + 1) v4 = xb (f_X5_isFree k v4 v3 f_many A_begins A_ends A_isThere A_rooms) (fun r20 => if r20 = 0 then f_X5_roomOf_L86 k v1 v2 v3 f_many A_begins A_ends A_isThere A_rooms κ n (v4 + 1) else κ v4) := rfl
def f_X5_roomOf_L56 (k : Nat) (v1 : Int32) (v2 : Int32) (f_many : Int32) (A_begins : Nat → Int32) (A_ends : Nat → Int32) (A_isThere : Nat → Int32) (κ : Int32 → (Nat → Int32) → Option (Int32 × Int32 × (Nat → Int32))) : Nat → Int32 → (Nat → Int32) → Option (Int32 × Int32 × (Nat → Int32))
  | 0, _, _ => none
  | n + 1, v3, A_rooms => if f_many ≤ v3 then κ v3 A_rooms else xi v3 40 (if (A_isThere v3.toNatClampNeg) = 0 then f_X5_roomOf_L56 k v1 v2 f_many A_begins A_ends A_isThere κ n (v3 + 1) A_rooms else xi v3 40 (if (A_begins v3.toNatClampNeg) = v2 then f_X5_roomOf_L86 k v1 v2 v3 f_many A_begins A_ends A_isThere A_rooms (fun (v4_23 : Int32) => xi v3 40 (f_X5_roomOf_L56 k v1 v2 f_many A_begins A_ends A_isThere κ n (v3 + 1) (upd A_rooms v3.toNatClampNeg v4_23))) k 0 else f_X5_roomOf_L56 k v1 v2 f_many A_begins A_ends A_isThere κ n (v3 + 1) A_rooms))
theorem f_X5_roomOf_L56_z (k : Nat) (v1 : Int32) (v2 : Int32) (f_many : Int32) (A_begins : Nat → Int32) (A_ends : Nat → Int32) (A_isThere : Nat → Int32) (κ : Int32 → (Nat → Int32) → Option (Int32 × Int32 × (Nat → Int32))) (v3 : Int32) (A_rooms : Nat → Int32) : f_X5_roomOf_L56 k v1 v2 f_many A_begins A_ends A_isThere κ 0 v3 A_rooms = none := rfl
theorem f_X5_roomOf_L56_s (k : Nat) (v1 : Int32) (v2 : Int32) (f_many : Int32) (A_begins : Nat → Int32) (A_ends : Nat → Int32) (A_isThere : Nat → Int32) (κ : Int32 → (Nat → Int32) → Option (Int32 × Int32 × (Nat → Int32))) (n : Nat) (v3 : Int32) (A_rooms : Nat → Int32) : f_X5_roomOf_L56 k v1 v2 f_many A_begins A_ends A_isThere κ (n + 1) v3 A_rooms = if f_many ≤ v3 then κ v3 A_rooms else xi v3 40 (if (A_isThere v3.toNatClampNeg) = 0 then f_X5_roomOf_L56 k v1 v2 f_many A_begins A_ends A_isThere κ n (v3 + 1) A_rooms else xi v3 40 (if (A_begins v3.toNatClampNeg) = v2 then f_X5_roomOf_L86 k v1 v2 v3 f_many A_begins A_ends A_isThere A_rooms (fun (v4_23 : Int32) => xi v3 40 (f_X5_roomOf_L56 k v1 v2 f_many A_begins A_ends A_isThere κ n (v3 + 1) (upd A_rooms v3.toNatClampNeg v4_23))) k 0 else f_X5_roomOf_L56 k v1 v2 f_many A_begins A_ends A_isThere κ n (v3 + 1) A_rooms)) := rfl
def f_X5_roomOf_L47 (k : Nat) (v1 : Int32) (f_many : Int32) (A_begins : Nat → Int32) (A_ends : Nat → Int32) (A_isThere : Nat → Int32) (κ : Int32 → (Nat → Int32) → Option (Int32 × Int32 × (Nat → Int32))) : Nat → Int32 → (Nat → Int32) → Option (Int32 × Int32 × (Nat → Int32))
  | 0, _, _ => none
  | n + 1, v2, A_rooms => if (1000 : Int32) ≤ v2 then κ v2 A_rooms else f_X5_roomOf_L56 k v1 v2 f_many A_begins A_ends A_isThere (fun (v3_25 : Int32) (A_rooms_26 : Nat → Int32) => f_X5_roomOf_L47 k v1 f_many A_begins A_ends A_isThere κ n (v2 + 1) A_rooms_26) k 0 A_rooms
theorem f_X5_roomOf_L47_z (k : Nat) (v1 : Int32) (f_many : Int32) (A_begins : Nat → Int32) (A_ends : Nat → Int32) (A_isThere : Nat → Int32) (κ : Int32 → (Nat → Int32) → Option (Int32 × Int32 × (Nat → Int32))) (v2 : Int32) (A_rooms : Nat → Int32) : f_X5_roomOf_L47 k v1 f_many A_begins A_ends A_isThere κ 0 v2 A_rooms = none := rfl
theorem f_X5_roomOf_L47_s (k : Nat) (v1 : Int32) (f_many : Int32) (A_begins : Nat → Int32) (A_ends : Nat → Int32) (A_isThere : Nat → Int32) (κ : Int32 → (Nat → Int32) → Option (Int32 × Int32 × (Nat → Int32))) (n : Nat) (v2 : Int32) (A_rooms : Nat → Int32) : f_X5_roomOf_L47 k v1 f_many A_begins A_ends A_isThere κ (n + 1) v2 A_rooms = if (1000 : Int32) ≤ v2 then κ v2 A_rooms else f_X5_roomOf_L56 k v1 v2 f_many A_begins A_ends A_isThere (fun (v3_25 : Int32) (A_rooms_26 : Nat → Int32) => f_X5_roomOf_L47 k v1 f_many A_begins A_ends A_isThere κ n (v2 + 1) A_rooms_26) k 0 A_rooms := rfl
def f_X5_roomOf (k : Nat) (p1 : Int32) (f_thrown : Int32) (f_many : Int32) (A_begins : Nat → Int32) (A_ends : Nat → Int32) (A_isThere : Nat → Int32) (A_rooms : Nat → Int32) : Option (Int32 × Int32 × (Nat → Int32)) := xb (f_X5_is k p1 f_many A_isThere) (fun r1 => xj (fun (x5 : Int32) => xb (f_X5_goesWell k x5 f_thrown) (fun (r6, f_thrown_7) => if r6 = 0 then some (0, f_thrown_7, A_rooms) else f_X5_roomOf_L24 k p1 f_many (fun (v2_12 : Int32) (A_rooms_13 : Nat → Int32) => f_X5_roomOf_L47 k p1 f_many A_begins A_ends A_isThere (fun (v2_27 : Int32) (A_rooms_28 : Nat → Int32) => xi p1 40 (some (A_rooms_28 p1.toNatClampNeg, f_thrown_7, A_rooms_28))) k 0 A_rooms_13) k 0 A_rooms)) (fun (j14_4 : Int32 → Option (Int32 × Int32 × (Nat → Int32))) => if r1 = 0 then j14_4 1 else j14_4 0))
abbrev rm_X5_roomOf : Room := { frames := 2, cells := 0, slots := 0, locals := 46 }
set_option maxHeartbeats 4000000 in
set_option maxRecDepth 100000 in
theorem c_X5_roomOf (l : Launch) (G : va_G) (cy : ClassId × ClassId × ClassId) (k : Nat) (aT aT_begins aT_ends aT_weights aT_isThere aT_rooms aT_isOffered aT_isAccepted aT_best aT_order aT_froms aT_tos aT_counts aT_points aT_flows aT_isUsed aT_gains aT_ways : Nat) (f_thrown : Int32) (f_many : Int32) (f_factor : Int32) (f_dropped : Int32) (f_pointMany : Int32) (A_begins : Nat → Int32) (A_ends : Nat → Int32) (A_isThere : Nat → Int32) (A_rooms : Nat → Int32) (p1 : Int32) {r : Int32} {wf_thrown : Int32} {wA_rooms : Nat → Int32} (hf : f_X5_roomOf k p1 f_thrown f_many A_begins A_ends A_isThere A_rooms = some (r, wf_thrown, wA_rooms)) : Ci l yX5_roomOf wsX5_roomOf rm_X5_roomOf 0 0 G cy [.ref aT, .int p1] [(aT, .inr (5, [.int f_thrown, .int f_many, .ref aT_begins, .ref aT_ends, .ref aT_weights, .ref aT_isThere, .ref aT_rooms, .int f_factor, .ref aT_isOffered, .ref aT_isAccepted, .int f_dropped, .ref aT_best, .ref aT_order, .ref aT_froms, .ref aT_tos, .ref aT_counts, .ref aT_points, .ref aT_flows, .ref aT_isUsed, .ref aT_gains, .ref aT_ways, .int f_pointMany])), (aT_begins, .inl (cy.1, 40, .inl A_begins)), (aT_ends, .inl (cy.1, 40, .inl A_ends)), (aT_isThere, .inl (cy.2.1, 40, .inl A_isThere)), (aT_rooms, .inl (cy.1, 40, .inl A_rooms))] [(aT, .inr (5, [.int wf_thrown, .int f_many, .ref aT_begins, .ref aT_ends, .ref aT_weights, .ref aT_isThere, .ref aT_rooms, .int f_factor, .ref aT_isOffered, .ref aT_isAccepted, .int f_dropped, .ref aT_best, .ref aT_order, .ref aT_froms, .ref aT_tos, .ref aT_counts, .ref aT_points, .ref aT_flows, .ref aT_isUsed, .ref aT_gains, .ref aT_ways, .int f_pointMany])), (aT_begins, .inl (cy.1, 40, .inl A_begins)), (aT_ends, .inl (cy.1, 40, .inl A_ends)), (aT_isThere, .inl (cy.2.1, 40, .inl A_isThere)), (aT_rooms, .inl (cy.1, 40, .inl wA_rooms))] r := by
  refine kMetI (cc := cX5_roomOf) (maxL := 5) (by decide) rfl (Nat.le_of_ble_eq_true rfl) ?_
  intro p e s m args below meth c Q A ls hx hb hml hts hown hv hl kret
  replace hown : s.vm.findClass RX5 = some m.cls := hown
  replace hl : lv_has ls 5 [(0, .ref aT), (1, .int p1)] := hl
  have hk69 : (Cond.fieldLink RX5 69 "RoomcolourModel" "many" "I").before args s = true := hts _ (by decide +kernel)
  have hinX5 : ∀ w ∈ wsX50, w ∈ wsX5_roomOf := by decide +kernel
  have hk23 : (Cond.fieldLink RX5 23 "RoomcolourModel" "rooms" "[I").before args s = true := hts _ (by decide +kernel)
  have hk19 : (Cond.fieldLink RX5 19 "RoomcolourModel" "isThere" "[Z").before args s = true := hts _ (by decide +kernel)
  have hk7 : (Cond.fieldLink RX5 7 "RoomcolourModel" "begins" "[I").before args s = true := hts _ (by decide +kernel)
  have L24 : ∀ (v1 : Int32) (f_thrown : Int32) (κ : Int32 → (Nat → Int32) → Option (Int32 × Int32 × (Nat → Int32))) (n : Nat) (v2 : Int32) (A_rooms : Nat → Int32), f_X5_roomOf_L24 k v1 f_many κ n v2 A_rooms = some (r, wf_thrown, wA_rooms) → ∀ (H : Heap) (locs : List Loc) (ls : Array Slot), Hv s H locs G cy A [(aT, .inr (5, [.int f_thrown, .int f_many, .ref aT_begins, .ref aT_ends, .ref aT_weights, .ref aT_isThere, .ref aT_rooms, .int f_factor, .ref aT_isOffered, .ref aT_isAccepted, .int f_dropped, .ref aT_best, .ref aT_order, .ref aT_froms, .ref aT_tos, .ref aT_counts, .ref aT_points, .ref aT_flows, .ref aT_isUsed, .ref aT_gains, .ref aT_ways, .int f_pointMany])), (aT_begins, .inl (cy.1, 40, .inl A_begins)), (aT_ends, .inl (cy.1, 40, .inl A_ends)), (aT_isThere, .inl (cy.2.1, 40, .inl A_isThere)), (aT_rooms, .inl (cy.1, 40, .inl A_rooms))] → lv_has ls 5 [(0, .ref aT), (1, .int v1), (2, .int v2)] → (∀ (v2 : Int32) (A_rooms : Nat → Int32), κ v2 A_rooms = some (r, wf_thrown, wA_rooms) → ∀ (H : Heap) (locs : List Loc) (ls : Array Slot), Hv s H locs G cy A [(aT, .inr (5, [.int f_thrown, .int f_many, .ref aT_begins, .ref aT_ends, .ref aT_weights, .ref aT_isThere, .ref aT_rooms, .int f_factor, .ref aT_isOffered, .ref aT_isAccepted, .int f_dropped, .ref aT_best, .ref aT_order, .ref aT_froms, .ref aT_tos, .ref aT_counts, .ref aT_points, .ref aT_flows, .ref aT_isUsed, .ref aT_gains, .ref aT_ways, .int f_pointMany])), (aT_begins, .inl (cy.1, 40, .inl A_begins)), (aT_ends, .inl (cy.1, 40, .inl A_ends)), (aT_isThere, .inl (cy.2.1, 40, .inl A_isThere)), (aT_rooms, .inl (cy.1, 40, .inl A_rooms))] → lv_has ls 5 [(0, .ref aT), (1, .int v1)] → W p l e rm_X5_roomOf s m args below meth c H locs 0 0 Q (F0 m 45 ls [])) → W p l e rm_X5_roomOf s m args below meth c H locs 0 0 Q (F0 m 24 ls []) := by
    intro v1 f_thrown κ n
    induction n with
    | zero =>
      intro v2 A_rooms hf
      rw [f_X5_roomOf_L24_z] at hf
      cases hf
    | succ n ih =>
      intro v2 A_rooms hf H locs ls hv hl hκ
      rw [f_X5_roomOf_L24_s] at hf
      refine lv_iload_n hx hb dX5_roomOf_24 rfl (lv_at hl 2 rfl) ?_
      refine lv_aload_n hx hb dX5_roomOf_25 rfl (lv_at hl 0 rfl) ?_
      refine kGet (v := .int f_many) (C := RX5) (T := TX5) (N := 22) hx hb hts hinX5 hown hv 0 rfl rfl 1 (by decide) hk69 (fun _ h9 => h9) rfl dX5_roomOf_26 ?_
      refine lv_icmp_ge (tgt := 45) hx hb dX5_roomOf_29 (by decide) (fun hc10 => ?_) (fun hc10 => ?_)
      · replace hf := ite_t hf hc10
        exact hκ v2 A_rooms hf _ _ _ hv (lv_sub hl [0, 1] rfl)
      · replace hf := ite_f hf hc10
        refine lv_aload_n hx hb dX5_roomOf_32 rfl (lv_at hl 0 rfl) ?_
        refine kGet (v := .ref aT_rooms) (C := RX5) (T := TX5) (N := 22) hx hb hts hinX5 hown hv 0 rfl rfl 6 (by decide) hk23 (fun _ h9 => h9) rfl dX5_roomOf_33 ?_
        refine lv_iload_n hx hb dX5_roomOf_36 rfl (lv_at hl 2 rfl) ?_
        refine lv_iconst (v := (-1)) hx hb dX5_roomOf_37 (by decide) ?_
        obtain ⟨hi11, hf⟩ := xi_some hf
        refine kIast hx hb hv 4 rfl hi11 dX5_roomOf_38 (fun H locs hv => ?_)
        replace hv : Hv s H locs G cy A [(aT, .inr (5, [.int f_thrown, .int f_many, .ref aT_begins, .ref aT_ends, .ref aT_weights, .ref aT_isThere, .ref aT_rooms, .int f_factor, .ref aT_isOffered, .ref aT_isAccepted, .int f_dropped, .ref aT_best, .ref aT_order, .ref aT_froms, .ref aT_tos, .ref aT_counts, .ref aT_points, .ref aT_flows, .ref aT_isUsed, .ref aT_gains, .ref aT_ways, .int f_pointMany])), (aT_begins, .inl (cy.1, 40, .inl A_begins)), (aT_ends, .inl (cy.1, 40, .inl A_ends)), (aT_isThere, .inl (cy.2.1, 40, .inl A_isThere)), (aT_rooms, .inl (cy.1, 40, .inl (upd A_rooms v2.toNatClampNeg (-1))))] := hv
        refine lv_iinc (v := v2 + 1) (lv' := [(2, .int (v2 + 1)), (0, .ref aT), (1, .int v1)]) hx hb dX5_roomOf_39 hl (k := 2) rfl rfl (by decide) rfl (fun ls hl => ?_)
        refine lv_goto (tgt := 24) hx hb dX5_roomOf_42 (by decide) ?_
        exact ih (v2 + 1) (upd A_rooms v2.toNatClampNeg (-1)) hf _ _ _ hv (lv_sub hl [1, 2, 0] rfl) hκ
  have L86 : ∀ (v1 : Int32) (v2 : Int32) (v3 : Int32) (A_rooms : Nat → Int32) (f_thrown : Int32) (κ : Int32 → Option (Int32 × Int32 × (Nat → Int32))) (n : Nat) (v4 : Int32), f_X5_roomOf_L86 k v1 v2 v3 f_many A_begins A_ends A_isThere A_rooms κ n v4 = some (r, wf_thrown, wA_rooms) → ∀ (H : Heap) (locs : List Loc) (ls : Array Slot), Hv s H locs G cy A [(aT, .inr (5, [.int f_thrown, .int f_many, .ref aT_begins, .ref aT_ends, .ref aT_weights, .ref aT_isThere, .ref aT_rooms, .int f_factor, .ref aT_isOffered, .ref aT_isAccepted, .int f_dropped, .ref aT_best, .ref aT_order, .ref aT_froms, .ref aT_tos, .ref aT_counts, .ref aT_points, .ref aT_flows, .ref aT_isUsed, .ref aT_gains, .ref aT_ways, .int f_pointMany])), (aT_begins, .inl (cy.1, 40, .inl A_begins)), (aT_ends, .inl (cy.1, 40, .inl A_ends)), (aT_isThere, .inl (cy.2.1, 40, .inl A_isThere)), (aT_rooms, .inl (cy.1, 40, .inl A_rooms))] → lv_has ls 5 [(0, .ref aT), (1, .int v1), (2, .int v2), (3, .int v3), (4, .int v4)] → (∀ (v4 : Int32), κ v4 = some (r, wf_thrown, wA_rooms) → ∀ (H : Heap) (locs : List Loc) (ls : Array Slot), Hv s H locs G cy A [(aT, .inr (5, [.int f_thrown, .int f_many, .ref aT_begins, .ref aT_ends, .ref aT_weights, .ref aT_isThere, .ref aT_rooms, .int f_factor, .ref aT_isOffered, .ref aT_isAccepted, .int f_dropped, .ref aT_best, .ref aT_order, .ref aT_froms, .ref aT_tos, .ref aT_counts, .ref aT_points, .ref aT_flows, .ref aT_isUsed, .ref aT_gains, .ref aT_ways, .int f_pointMany])), (aT_begins, .inl (cy.1, 40, .inl A_begins)), (aT_ends, .inl (cy.1, 40, .inl A_ends)), (aT_isThere, .inl (cy.2.1, 40, .inl A_isThere)), (aT_rooms, .inl (cy.1, 40, .inl A_rooms))] → lv_has ls 5 [(0, .ref aT), (1, .int v1), (2, .int v2), (3, .int v3), (4, .int v4)] → W p l e rm_X5_roomOf s m args below meth c H locs 0 0 Q (F0 m 102 ls [])) → W p l e rm_X5_roomOf s m args below meth c H locs 0 0 Q (F0 m 86 ls []) := by
    intro v1 v2 v3 A_rooms f_thrown κ n
    induction n with
    | zero =>
      intro v4 hf
      rw [f_X5_roomOf_L86_z] at hf
      cases hf
    | succ n ih =>
      intro v4 hf H locs ls hv hl hκ
      rw [f_X5_roomOf_L86_s] at hf
      refine lv_aload_n hx hb dX5_roomOf_86 rfl (lv_at hl 0 rfl) ?_
      refine lv_iload hx hb dX5_roomOf_87 (lv_at hl 4 rfl) ?_
      refine lv_iload_n hx hb dX5_roomOf_89 rfl (lv_at hl 3 rfl) ?_
      obtain ⟨r20, hcl21, hf⟩ := xb_some hf
      refine kV_i (r := r20) (wr := []) (w2 := [(aT, .inr (5, [.int f_thrown, .int f_many, .ref aT_begins, .ref aT_ends, .ref aT_weights, .ref aT_isThere, .ref aT_rooms, .int f_factor, .ref aT_isOffered, .ref aT_isAccepted, .int f_dropped, .ref aT_best, .ref aT_order, .ref aT_froms, .ref aT_tos, .ref aT_counts, .ref aT_points, .ref aT_flows, .ref aT_isUsed, .ref aT_gains, .ref aT_ways, .int f_pointMany])), (aT_begins, .inl (cy.1, 40, .inl A_begins)), (aT_ends, .inl (cy.1, 40, .inl A_ends)), (aT_isThere, .inl (cy.2.1, 40, .inl A_isThere)), (aT_rooms, .inl (cy.1, 40, .inl A_rooms))]) ⟨hx, hb, hml, hown, hts⟩ (c_X5_isFree l G cy k aT aT_begins aT_ends aT_weights aT_isThere aT_rooms aT_isOffered aT_isAccepted aT_best aT_order aT_froms aT_tos aT_counts aT_points aT_flows aT_isUsed aT_gains aT_ways f_thrown f_many f_factor f_dropped f_pointMany A_begins A_ends A_isThere A_rooms v4 v3 hcl21) (cwV 2 hts gX5_roomOf_X5_isFree rfl rfl rfl (by decide +kernel) ⟨Nat.le_of_ble_eq_true rfl, Nat.le_of_ble_eq_true rfl⟩) hv (isC := [0, 1, 2, 3, 4]) ⟨rfl, rfl⟩ (hv.recv 5 0 rfl rfl) [] [0, 1, 2, 3, 4] rfl rfl (by decide) rfl rfl rfl hl.1 rfl (Nat.le_of_ble_eq_true rfl) dX5_roomOf_90 ⟨Nat.le_of_ble_eq_true rfl, Nat.le_of_ble_eq_true rfl⟩ (fun H locs hv => ?_)
      refine lv_if_ne (tgt := 102) hx hb dX5_roomOf_93 (by decide) (fun hc22 => ?_) (fun hc22 => ?_)
      · replace hf := ite_f hf hc22
        exact hκ v4 hf _ _ _ hv (lv_sub hl [0, 1, 2, 3, 4] rfl)
      · replace hf := ite_t hf hc22
        refine lv_iinc (v := v4 + 1) (lv' := [(4, .int (v4 + 1)), (0, .ref aT), (1, .int v1), (2, .int v2), (3, .int v3)]) hx hb dX5_roomOf_96 hl (k := 4) rfl rfl (by decide) rfl (fun ls hl => ?_)
        refine lv_goto (tgt := 86) hx hb dX5_roomOf_99 (by decide) ?_
        exact ih (v4 + 1) hf _ _ _ hv (lv_sub hl [1, 2, 3, 4, 0] rfl) hκ
  have L56 : ∀ (v1 : Int32) (v2 : Int32) (f_thrown : Int32) (κ : Int32 → (Nat → Int32) → Option (Int32 × Int32 × (Nat → Int32))) (n : Nat) (v3 : Int32) (A_rooms : Nat → Int32), f_X5_roomOf_L56 k v1 v2 f_many A_begins A_ends A_isThere κ n v3 A_rooms = some (r, wf_thrown, wA_rooms) → ∀ (H : Heap) (locs : List Loc) (ls : Array Slot), Hv s H locs G cy A [(aT, .inr (5, [.int f_thrown, .int f_many, .ref aT_begins, .ref aT_ends, .ref aT_weights, .ref aT_isThere, .ref aT_rooms, .int f_factor, .ref aT_isOffered, .ref aT_isAccepted, .int f_dropped, .ref aT_best, .ref aT_order, .ref aT_froms, .ref aT_tos, .ref aT_counts, .ref aT_points, .ref aT_flows, .ref aT_isUsed, .ref aT_gains, .ref aT_ways, .int f_pointMany])), (aT_begins, .inl (cy.1, 40, .inl A_begins)), (aT_ends, .inl (cy.1, 40, .inl A_ends)), (aT_isThere, .inl (cy.2.1, 40, .inl A_isThere)), (aT_rooms, .inl (cy.1, 40, .inl A_rooms))] → lv_has ls 5 [(0, .ref aT), (1, .int v1), (2, .int v2), (3, .int v3)] → (∀ (v3 : Int32) (A_rooms : Nat → Int32), κ v3 A_rooms = some (r, wf_thrown, wA_rooms) → ∀ (H : Heap) (locs : List Loc) (ls : Array Slot), Hv s H locs G cy A [(aT, .inr (5, [.int f_thrown, .int f_many, .ref aT_begins, .ref aT_ends, .ref aT_weights, .ref aT_isThere, .ref aT_rooms, .int f_factor, .ref aT_isOffered, .ref aT_isAccepted, .int f_dropped, .ref aT_best, .ref aT_order, .ref aT_froms, .ref aT_tos, .ref aT_counts, .ref aT_points, .ref aT_flows, .ref aT_isUsed, .ref aT_gains, .ref aT_ways, .int f_pointMany])), (aT_begins, .inl (cy.1, 40, .inl A_begins)), (aT_ends, .inl (cy.1, 40, .inl A_ends)), (aT_isThere, .inl (cy.2.1, 40, .inl A_isThere)), (aT_rooms, .inl (cy.1, 40, .inl A_rooms))] → lv_has ls 5 [(0, .ref aT), (1, .int v1), (2, .int v2)] → W p l e rm_X5_roomOf s m args below meth c H locs 0 0 Q (F0 m 116 ls [])) → W p l e rm_X5_roomOf s m args below meth c H locs 0 0 Q (F0 m 56 ls []) := by
    intro v1 v2 f_thrown κ n
    induction n with
    | zero =>
      intro v3 A_rooms hf
      rw [f_X5_roomOf_L56_z] at hf
      cases hf
    | succ n ih =>
      intro v3 A_rooms hf H locs ls hv hl hκ
      rw [f_X5_roomOf_L56_s] at hf
      refine lv_iload_n hx hb dX5_roomOf_56 rfl (lv_at hl 3 rfl) ?_
      refine lv_aload_n hx hb dX5_roomOf_57 rfl (lv_at hl 0 rfl) ?_
      refine kGet (v := .int f_many) (C := RX5) (T := TX5) (N := 22) hx hb hts hinX5 hown hv 0 rfl rfl 1 (by decide) hk69 (fun _ h9 => h9) rfl dX5_roomOf_58 ?_
      refine lv_icmp_ge (tgt := 116) hx hb dX5_roomOf_61 (by decide) (fun hc15 => ?_) (fun hc15 => ?_)
      · replace hf := ite_t hf hc15
        exact hκ v3 A_rooms hf _ _ _ hv (lv_sub hl [0, 1, 2] rfl)
      · replace hf := ite_f hf hc15
        refine lv_aload_n hx hb dX5_roomOf_64 rfl (lv_at hl 0 rfl) ?_
        refine kGet (v := .ref aT_isThere) (C := RX5) (T := TX5) (N := 22) hx hb hts hinX5 hown hv 0 rfl rfl 5 (by decide) hk19 (fun _ h9 => h9) rfl dX5_roomOf_65 ?_
        refine lv_iload_n hx hb dX5_roomOf_68 rfl (lv_at hl 3 rfl) ?_
        obtain ⟨hi16, hf⟩ := xi_some hf
        refine kZald hx hb hv 3 rfl hi16 dX5_roomOf_69 ?_
        refine lv_if_eq (tgt := 110) hx hb dX5_roomOf_70 (by decide) (fun hc17 => ?_) (fun hc17 => ?_)
        · replace hf := ite_t hf hc17
          refine lv_iinc (v := v3 + 1) (lv' := [(3, .int (v3 + 1)), (0, .ref aT), (1, .int v1), (2, .int v2)]) hx hb dX5_roomOf_110 hl (k := 3) rfl rfl (by decide) rfl (fun ls hl => ?_)
          refine lv_goto (tgt := 56) hx hb dX5_roomOf_113 (by decide) ?_
          exact ih (v3 + 1) A_rooms hf _ _ _ hv (lv_sub hl [1, 2, 3, 0] rfl) hκ
        · replace hf := ite_f hf hc17
          refine lv_aload_n hx hb dX5_roomOf_73 rfl (lv_at hl 0 rfl) ?_
          refine kGet (v := .ref aT_begins) (C := RX5) (T := TX5) (N := 22) hx hb hts hinX5 hown hv 0 rfl rfl 2 (by decide) hk7 (fun _ h9 => h9) rfl dX5_roomOf_74 ?_
          refine lv_iload_n hx hb dX5_roomOf_77 rfl (lv_at hl 3 rfl) ?_
          obtain ⟨hi18, hf⟩ := xi_some hf
          refine kIald hx hb hv 1 rfl hi18 dX5_roomOf_78 ?_
          refine lv_iload_n hx hb dX5_roomOf_79 rfl (lv_at hl 2 rfl) ?_
          refine lv_icmp_ne (tgt := 110) hx hb dX5_roomOf_80 (by decide) (fun hc19 => ?_) (fun hc19 => ?_)
          · replace hf := ite_f hf hc19
            refine lv_iinc (v := v3 + 1) (lv' := [(3, .int (v3 + 1)), (0, .ref aT), (1, .int v1), (2, .int v2)]) hx hb dX5_roomOf_110 hl (k := 3) rfl rfl (by decide) rfl (fun ls hl => ?_)
            refine lv_goto (tgt := 56) hx hb dX5_roomOf_113 (by decide) ?_
            exact ih (v3 + 1) A_rooms hf _ _ _ hv (lv_sub hl [1, 2, 3, 0] rfl) hκ
          · replace hf := ite_t hf hc19
            refine lv_iconst (v := 0) hx hb dX5_roomOf_83 (by decide) ?_
            refine lv_istore (lv' := [(4, .int 0), (0, .ref aT), (1, .int v1), (2, .int v2), (3, .int v3)]) hx hb dX5_roomOf_84 hl (by decide) rfl (fun ls hl => ?_)
            refine L86 _ _ _ _ _ _ _ _ hf _ _ _ hv (lv_sub hl [1, 2, 3, 4, 0] rfl) (fun v4_23 hf H locs ls hv hl => ?_)
            try dsimp only at hf
            refine lv_aload_n hx hb dX5_roomOf_102 rfl (lv_at hl 0 rfl) ?_
            refine kGet (v := .ref aT_rooms) (C := RX5) (T := TX5) (N := 22) hx hb hts hinX5 hown hv 0 rfl rfl 6 (by decide) hk23 (fun _ h9 => h9) rfl dX5_roomOf_103 ?_
            refine lv_iload_n hx hb dX5_roomOf_106 rfl (lv_at hl 3 rfl) ?_
            refine lv_iload hx hb dX5_roomOf_107 (lv_at hl 4 rfl) ?_
            obtain ⟨hi24, hf⟩ := xi_some hf
            refine kIast hx hb hv 4 rfl hi24 dX5_roomOf_109 (fun H locs hv => ?_)
            replace hv : Hv s H locs G cy A [(aT, .inr (5, [.int f_thrown, .int f_many, .ref aT_begins, .ref aT_ends, .ref aT_weights, .ref aT_isThere, .ref aT_rooms, .int f_factor, .ref aT_isOffered, .ref aT_isAccepted, .int f_dropped, .ref aT_best, .ref aT_order, .ref aT_froms, .ref aT_tos, .ref aT_counts, .ref aT_points, .ref aT_flows, .ref aT_isUsed, .ref aT_gains, .ref aT_ways, .int f_pointMany])), (aT_begins, .inl (cy.1, 40, .inl A_begins)), (aT_ends, .inl (cy.1, 40, .inl A_ends)), (aT_isThere, .inl (cy.2.1, 40, .inl A_isThere)), (aT_rooms, .inl (cy.1, 40, .inl (upd A_rooms v3.toNatClampNeg v4_23)))] := hv
            refine lv_iinc (v := v3 + 1) (lv' := [(3, .int (v3 + 1)), (0, .ref aT), (1, .int v1), (2, .int v2), (4, .int v4_23)]) hx hb dX5_roomOf_110 hl (k := 3) rfl rfl (by decide) rfl (fun ls hl => ?_)
            refine lv_goto (tgt := 56) hx hb dX5_roomOf_113 (by decide) ?_
            exact ih (v3 + 1) (upd A_rooms v3.toNatClampNeg v4_23) hf _ _ _ hv (lv_sub hl [1, 2, 3, 0] rfl) hκ
  have L47 : ∀ (v1 : Int32) (f_thrown : Int32) (κ : Int32 → (Nat → Int32) → Option (Int32 × Int32 × (Nat → Int32))) (n : Nat) (v2 : Int32) (A_rooms : Nat → Int32), f_X5_roomOf_L47 k v1 f_many A_begins A_ends A_isThere κ n v2 A_rooms = some (r, wf_thrown, wA_rooms) → ∀ (H : Heap) (locs : List Loc) (ls : Array Slot), Hv s H locs G cy A [(aT, .inr (5, [.int f_thrown, .int f_many, .ref aT_begins, .ref aT_ends, .ref aT_weights, .ref aT_isThere, .ref aT_rooms, .int f_factor, .ref aT_isOffered, .ref aT_isAccepted, .int f_dropped, .ref aT_best, .ref aT_order, .ref aT_froms, .ref aT_tos, .ref aT_counts, .ref aT_points, .ref aT_flows, .ref aT_isUsed, .ref aT_gains, .ref aT_ways, .int f_pointMany])), (aT_begins, .inl (cy.1, 40, .inl A_begins)), (aT_ends, .inl (cy.1, 40, .inl A_ends)), (aT_isThere, .inl (cy.2.1, 40, .inl A_isThere)), (aT_rooms, .inl (cy.1, 40, .inl A_rooms))] → lv_has ls 5 [(0, .ref aT), (1, .int v1), (2, .int v2)] → (∀ (v2 : Int32) (A_rooms : Nat → Int32), κ v2 A_rooms = some (r, wf_thrown, wA_rooms) → ∀ (H : Heap) (locs : List Loc) (ls : Array Slot), Hv s H locs G cy A [(aT, .inr (5, [.int f_thrown, .int f_many, .ref aT_begins, .ref aT_ends, .ref aT_weights, .ref aT_isThere, .ref aT_rooms, .int f_factor, .ref aT_isOffered, .ref aT_isAccepted, .int f_dropped, .ref aT_best, .ref aT_order, .ref aT_froms, .ref aT_tos, .ref aT_counts, .ref aT_points, .ref aT_flows, .ref aT_isUsed, .ref aT_gains, .ref aT_ways, .int f_pointMany])), (aT_begins, .inl (cy.1, 40, .inl A_begins)), (aT_ends, .inl (cy.1, 40, .inl A_ends)), (aT_isThere, .inl (cy.2.1, 40, .inl A_isThere)), (aT_rooms, .inl (cy.1, 40, .inl A_rooms))] → lv_has ls 5 [(0, .ref aT), (1, .int v1)] → W p l e rm_X5_roomOf s m args below meth c H locs 0 0 Q (F0 m 122 ls [])) → W p l e rm_X5_roomOf s m args below meth c H locs 0 0 Q (F0 m 47 ls []) := by
    intro v1 f_thrown κ n
    induction n with
    | zero =>
      intro v2 A_rooms hf
      rw [f_X5_roomOf_L47_z] at hf
      cases hf
    | succ n ih =>
      intro v2 A_rooms hf H locs ls hv hl hκ
      rw [f_X5_roomOf_L47_s] at hf
      refine lv_iload_n hx hb dX5_roomOf_47 rfl (lv_at hl 2 rfl) ?_
      refine lv_sipush (v := 1000) hx hb dX5_roomOf_48 (by decide) ?_
      refine lv_icmp_ge (tgt := 122) hx hb dX5_roomOf_51 (by decide) (fun hc14 => ?_) (fun hc14 => ?_)
      · replace hf := ite_t hf hc14
        exact hκ v2 A_rooms hf _ _ _ hv (lv_sub hl [0, 1] rfl)
      · replace hf := ite_f hf hc14
        refine lv_iconst (v := 0) hx hb dX5_roomOf_54 (by decide) ?_
        refine lv_istore_n (lv' := [(3, .int 0), (0, .ref aT), (1, .int v1), (2, .int v2)]) hx hb dX5_roomOf_55 rfl hl (by decide) rfl (fun ls hl => ?_)
        refine L56 _ _ _ _ _ _ _ hf _ _ _ hv (lv_sub hl [1, 2, 3, 0] rfl) (fun v3_25 A_rooms_26 hf H locs ls hv hl => ?_)
        try dsimp only at hf
        refine lv_iinc (v := v2 + 1) (lv' := [(2, .int (v2 + 1)), (0, .ref aT), (1, .int v1)]) hx hb dX5_roomOf_116 hl (k := 2) rfl rfl (by decide) rfl (fun ls hl => ?_)
        refine lv_goto (tgt := 47) hx hb dX5_roomOf_119 (by decide) ?_
        exact ih (v2 + 1) A_rooms_26 hf _ _ _ hv (lv_sub hl [1, 2, 0] rfl) hκ
  unfold f_X5_roomOf at hf
  refine lv_aload_n hx hb dX5_roomOf_0 rfl (lv_at hl 0 rfl) ?_
  refine lv_aload_n hx hb dX5_roomOf_1 rfl (lv_at hl 0 rfl) ?_
  refine lv_iload_n hx hb dX5_roomOf_2 rfl (lv_at hl 1 rfl) ?_
  obtain ⟨r1, hcl2, hf⟩ := xb_some hf
  refine kV_i (r := r1) (wr := [(aT_begins, .inl (cy.1, 40, .inl A_begins)), (aT_ends, .inl (cy.1, 40, .inl A_ends)), (aT_rooms, .inl (cy.1, 40, .inl A_rooms))]) (w2 := [(aT, .inr (5, [.int f_thrown, .int f_many, .ref aT_begins, .ref aT_ends, .ref aT_weights, .ref aT_isThere, .ref aT_rooms, .int f_factor, .ref aT_isOffered, .ref aT_isAccepted, .int f_dropped, .ref aT_best, .ref aT_order, .ref aT_froms, .ref aT_tos, .ref aT_counts, .ref aT_points, .ref aT_flows, .ref aT_isUsed, .ref aT_gains, .ref aT_ways, .int f_pointMany])), (aT_begins, .inl (cy.1, 40, .inl A_begins)), (aT_ends, .inl (cy.1, 40, .inl A_ends)), (aT_isThere, .inl (cy.2.1, 40, .inl A_isThere)), (aT_rooms, .inl (cy.1, 40, .inl A_rooms))]) ⟨hx, hb, hml, hown, hts⟩ (c_X5_is l G cy k aT aT_begins aT_ends aT_weights aT_isThere aT_rooms aT_isOffered aT_isAccepted aT_best aT_order aT_froms aT_tos aT_counts aT_points aT_flows aT_isUsed aT_gains aT_ways f_thrown f_many f_factor f_dropped f_pointMany A_isThere p1 hcl2) (cwV 1 hts gX5_roomOf_X5_is rfl rfl rfl (by decide +kernel) ⟨Nat.le_of_ble_eq_true rfl, Nat.le_of_ble_eq_true rfl⟩) hv (isC := [0, 3]) ⟨rfl, rfl⟩ (hv.recv 5 0 rfl rfl) [1, 2, 4] [3, 0, 1, 4, 2] rfl rfl (by decide) rfl rfl rfl hl.1 rfl (Nat.le_of_ble_eq_true rfl) dX5_roomOf_3 ⟨Nat.le_of_ble_eq_true rfl, Nat.le_of_ble_eq_true rfl⟩ (fun H locs hv => ?_)
  refine xj_elim hf (fun j14_4 ej14_4 hf => ?_)
  have J14_4 : ∀ (x5 : Int32), j14_4 x5 = some (r, wf_thrown, wA_rooms) → ∀ (H : Heap) (locs : List Loc) (ls : Array Slot), Hv s H locs G cy A [(aT, .inr (5, [.int f_thrown, .int f_many, .ref aT_begins, .ref aT_ends, .ref aT_weights, .ref aT_isThere, .ref aT_rooms, .int f_factor, .ref aT_isOffered, .ref aT_isAccepted, .int f_dropped, .ref aT_best, .ref aT_order, .ref aT_froms, .ref aT_tos, .ref aT_counts, .ref aT_points, .ref aT_flows, .ref aT_isUsed, .ref aT_gains, .ref aT_ways, .int f_pointMany])), (aT_begins, .inl (cy.1, 40, .inl A_begins)), (aT_ends, .inl (cy.1, 40, .inl A_ends)), (aT_isThere, .inl (cy.2.1, 40, .inl A_isThere)), (aT_rooms, .inl (cy.1, 40, .inl A_rooms))] → lv_has ls 5 [(0, .ref aT), (1, .int p1)] → W p l e rm_X5_roomOf s m args below meth c H locs 0 0 Q (F0 m 14 ls [.int x5, .ref aT]) := by
    intro x5 hf H locs ls hv hl
    rw [ej14_4] at hf
    try dsimp only at hf
    obtain ⟨⟨r6, f_thrown_7⟩, hcl8, hf⟩ := xb_some hf
    dsimp only at hf
    refine kV_i (r := r6) (wr := [(aT_begins, .inl (cy.1, 40, .inl A_begins)), (aT_ends, .inl (cy.1, 40, .inl A_ends)), (aT_isThere, .inl (cy.2.1, 40, .inl A_isThere)), (aT_rooms, .inl (cy.1, 40, .inl A_rooms))]) (w2 := [(aT, .inr (5, [.int f_thrown_7, .int f_many, .ref aT_begins, .ref aT_ends, .ref aT_weights, .ref aT_isThere, .ref aT_rooms, .int f_factor, .ref aT_isOffered, .ref aT_isAccepted, .int f_dropped, .ref aT_best, .ref aT_order, .ref aT_froms, .ref aT_tos, .ref aT_counts, .ref aT_points, .ref aT_flows, .ref aT_isUsed, .ref aT_gains, .ref aT_ways, .int f_pointMany])), (aT_begins, .inl (cy.1, 40, .inl A_begins)), (aT_ends, .inl (cy.1, 40, .inl A_ends)), (aT_isThere, .inl (cy.2.1, 40, .inl A_isThere)), (aT_rooms, .inl (cy.1, 40, .inl A_rooms))]) ⟨hx, hb, hml, hown, hts⟩ (c_X5_goesWell l G cy k aT aT_begins aT_ends aT_weights aT_isThere aT_rooms aT_isOffered aT_isAccepted aT_best aT_order aT_froms aT_tos aT_counts aT_points aT_flows aT_isUsed aT_gains aT_ways f_thrown f_many f_factor f_dropped f_pointMany x5 hcl8) (cwV 1 hts gX5_roomOf_X5_goesWell rfl rfl rfl (by decide +kernel) ⟨Nat.le_of_ble_eq_true rfl, Nat.le_of_ble_eq_true rfl⟩) hv (isC := [0]) ⟨rfl, rfl⟩ (hv.recv 5 0 rfl rfl) [1, 2, 3, 4] [4, 0, 1, 2, 3] rfl rfl (by decide) rfl rfl rfl hl.1 rfl (Nat.le_of_ble_eq_true rfl) dX5_roomOf_14 ⟨Nat.le_of_ble_eq_true rfl, Nat.le_of_ble_eq_true rfl⟩ (fun H locs hv => ?_)
    refine lv_if_ne (tgt := 22) hx hb dX5_roomOf_17 (by decide) (fun hc9 => ?_) (fun hc9 => ?_)
    · replace hf := ite_f hf hc9
      refine lv_iconst (v := 0) hx hb dX5_roomOf_22 (by decide) ?_
      refine lv_istore_n (lv' := [(2, .int 0), (0, .ref aT), (1, .int p1)]) hx hb dX5_roomOf_23 rfl hl (by decide) rfl (fun ls hl => ?_)
      refine L24 _ _ _ _ _ _ hf _ _ _ hv (lv_sub hl [1, 2, 0] rfl) (fun v2_12 A_rooms_13 hf H locs ls hv hl => ?_)
      try dsimp only at hf
      refine lv_iconst (v := 0) hx hb dX5_roomOf_45 (by decide) ?_
      refine lv_istore_n (lv' := [(2, .int 0), (0, .ref aT), (1, .int p1)]) hx hb dX5_roomOf_46 rfl hl (by decide) rfl (fun ls hl => ?_)
      refine L47 _ _ _ _ _ _ hf _ _ _ hv (lv_sub hl [1, 2, 0] rfl) (fun v2_27 A_rooms_28 hf H locs ls hv hl => ?_)
      try dsimp only at hf
      refine lv_aload_n hx hb dX5_roomOf_122 rfl (lv_at hl 0 rfl) ?_
      refine kGet (v := .ref aT_rooms) (C := RX5) (T := TX5) (N := 22) hx hb hts hinX5 hown hv 0 rfl rfl 6 (by decide) hk23 (fun _ h9 => h9) rfl dX5_roomOf_123 ?_
      refine lv_iload_n hx hb dX5_roomOf_126 rfl (lv_at hl 1 rfl) ?_
      obtain ⟨hi29, hf⟩ := xi_some hf
      refine kIald hx hb hv 4 rfl hi29 dX5_roomOf_127 ?_
      cases hf
      exact kret _ _ _ _ hv dX5_roomOf_128
    · replace hf := ite_t hf hc9
      refine lv_iconst (v := 0) hx hb dX5_roomOf_20 (by decide) ?_
      cases hf
      exact kret _ _ _ _ hv dX5_roomOf_21
  refine lv_if_eq (tgt := 13) hx hb dX5_roomOf_6 (by decide) (fun hc3 => ?_) (fun hc3 => ?_)
  · replace hf := ite_t hf hc3
    refine lv_iconst (v := 1) hx hb dX5_roomOf_13 (by decide) ?_
    exact J14_4 1 hf _ _ _ hv (lv_sub hl [0, 1] rfl)
  · replace hf := ite_f hf hc3
    refine lv_iconst (v := 0) hx hb dX5_roomOf_9 (by decide) ?_
    refine lv_goto (tgt := 14) hx hb dX5_roomOf_10 (by decide) ?_
    exact J14_4 0 hf _ _ _ hv (lv_sub hl [0, 1] rfl)

def f_X5_rooms (k : Nat) (f_thrown : Int32) (f_many : Int32) (A_begins : Nat → Int32) (A_ends : Nat → Int32) (A_isThere : Nat → Int32) : Option (Int32 × Int32) := xb (f_X5_deepest k f_many A_begins A_ends A_isThere) (fun r1 => xb (f_X5_depthAt k r1 f_many A_begins A_ends A_isThere) (fun r3 => some (r3, 0)))
abbrev rm_X5_rooms : Room := { frames := 2, cells := 0, slots := 0, locals := 45 }
set_option maxHeartbeats 4000000 in
set_option maxRecDepth 100000 in
theorem c_X5_rooms (l : Launch) (G : va_G) (cy : ClassId × ClassId × ClassId) (k : Nat) (aT aT_begins aT_ends aT_weights aT_isThere aT_rooms aT_isOffered aT_isAccepted aT_best aT_order aT_froms aT_tos aT_counts aT_points aT_flows aT_isUsed aT_gains aT_ways : Nat) (f_thrown : Int32) (f_many : Int32) (f_factor : Int32) (f_dropped : Int32) (f_pointMany : Int32) (A_begins : Nat → Int32) (A_ends : Nat → Int32) (A_isThere : Nat → Int32) {r : Int32} {wf_thrown : Int32} (hf : f_X5_rooms k f_thrown f_many A_begins A_ends A_isThere = some (r, wf_thrown)) : Ci l yX5_rooms wsX5_rooms rm_X5_rooms 0 0 G cy [.ref aT] [(aT, .inr (5, [.int f_thrown, .int f_many, .ref aT_begins, .ref aT_ends, .ref aT_weights, .ref aT_isThere, .ref aT_rooms, .int f_factor, .ref aT_isOffered, .ref aT_isAccepted, .int f_dropped, .ref aT_best, .ref aT_order, .ref aT_froms, .ref aT_tos, .ref aT_counts, .ref aT_points, .ref aT_flows, .ref aT_isUsed, .ref aT_gains, .ref aT_ways, .int f_pointMany])), (aT_begins, .inl (cy.1, 40, .inl A_begins)), (aT_ends, .inl (cy.1, 40, .inl A_ends)), (aT_isThere, .inl (cy.2.1, 40, .inl A_isThere))] [(aT, .inr (5, [.int wf_thrown, .int f_many, .ref aT_begins, .ref aT_ends, .ref aT_weights, .ref aT_isThere, .ref aT_rooms, .int f_factor, .ref aT_isOffered, .ref aT_isAccepted, .int f_dropped, .ref aT_best, .ref aT_order, .ref aT_froms, .ref aT_tos, .ref aT_counts, .ref aT_points, .ref aT_flows, .ref aT_isUsed, .ref aT_gains, .ref aT_ways, .int f_pointMany])), (aT_begins, .inl (cy.1, 40, .inl A_begins)), (aT_ends, .inl (cy.1, 40, .inl A_ends)), (aT_isThere, .inl (cy.2.1, 40, .inl A_isThere))] r := by
  refine kMetI (cc := cX5_rooms) (maxL := 1) (by decide) rfl (Nat.le_of_ble_eq_true rfl) ?_
  intro p e s m args below meth c Q A ls hx hb hml hts hown hv hl kret
  replace hown : s.vm.findClass RX5 = some m.cls := hown
  replace hl : lv_has ls 1 [(0, .ref aT)] := hl
  have hk66 : (Cond.fieldLink RX5 66 "RoomcolourModel" "thrown" "I").before args s = true := hts _ (by decide +kernel)
  have hinX5 : ∀ w ∈ wsX50, w ∈ wsX5_rooms := by decide +kernel
  unfold f_X5_rooms at hf
  refine lv_aload_n hx hb dX5_rooms_0 rfl (lv_at hl 0 rfl) ?_
  refine lv_iconst (v := 0) hx hb dX5_rooms_1 (by decide) ?_
  refine kPut (v := .int 0) (ty := .int) (C := RX5) (T := TX5) (N := 22) hx hb hts hinX5 tyX5 tyX5_ok nmX5 hown hv 0 rfl rfl 0 (by decide) hk66 (fun _ h9 => h9) rfl (by decide +kernel) rfl rfl (Nat.le_of_ble_eq_true rfl) dX5_rooms_2 (fun H locs hv => ?_)
  replace hv : Hv s H locs G cy A [(aT, .inr (5, [.int 0, .int f_many, .ref aT_begins, .ref aT_ends, .ref aT_weights, .ref aT_isThere, .ref aT_rooms, .int f_factor, .ref aT_isOffered, .ref aT_isAccepted, .int f_dropped, .ref aT_best, .ref aT_order, .ref aT_froms, .ref aT_tos, .ref aT_counts, .ref aT_points, .ref aT_flows, .ref aT_isUsed, .ref aT_gains, .ref aT_ways, .int f_pointMany])), (aT_begins, .inl (cy.1, 40, .inl A_begins)), (aT_ends, .inl (cy.1, 40, .inl A_ends)), (aT_isThere, .inl (cy.2.1, 40, .inl A_isThere))] := hv
  refine lv_aload_n hx hb dX5_rooms_5 rfl (lv_at hl 0 rfl) ?_
  refine lv_aload_n hx hb dX5_rooms_6 rfl (lv_at hl 0 rfl) ?_
  obtain ⟨r1, hcl2, hf⟩ := xb_some hf
  refine kV_i (r := r1) (wr := []) (w2 := [(aT, .inr (5, [.int 0, .int f_many, .ref aT_begins, .ref aT_ends, .ref aT_weights, .ref aT_isThere, .ref aT_rooms, .int f_factor, .ref aT_isOffered, .ref aT_isAccepted, .int f_dropped, .ref aT_best, .ref aT_order, .ref aT_froms, .ref aT_tos, .ref aT_counts, .ref aT_points, .ref aT_flows, .ref aT_isUsed, .ref aT_gains, .ref aT_ways, .int f_pointMany])), (aT_begins, .inl (cy.1, 40, .inl A_begins)), (aT_ends, .inl (cy.1, 40, .inl A_ends)), (aT_isThere, .inl (cy.2.1, 40, .inl A_isThere))]) ⟨hx, hb, hml, hown, hts⟩ (c_X5_deepest l G cy k aT aT_begins aT_ends aT_weights aT_isThere aT_rooms aT_isOffered aT_isAccepted aT_best aT_order aT_froms aT_tos aT_counts aT_points aT_flows aT_isUsed aT_gains aT_ways 0 f_many f_factor f_dropped f_pointMany A_begins A_ends A_isThere hcl2) (cwV 0 hts gX5_rooms_X5_deepest rfl rfl rfl (by decide +kernel) ⟨Nat.le_of_ble_eq_true rfl, Nat.le_of_ble_eq_true rfl⟩) hv (isC := [0, 1, 2, 3]) ⟨rfl, rfl⟩ (hv.recv 5 0 rfl rfl) [] [0, 1, 2, 3] rfl rfl (by decide) rfl rfl rfl hl.1 rfl (Nat.le_of_ble_eq_true rfl) dX5_rooms_7 ⟨Nat.le_of_ble_eq_true rfl, Nat.le_of_ble_eq_true rfl⟩ (fun H locs hv => ?_)
  obtain ⟨r3, hcl4, hf⟩ := xb_some hf
  refine kV_i (r := r3) (wr := []) (w2 := [(aT, .inr (5, [.int 0, .int f_many, .ref aT_begins, .ref aT_ends, .ref aT_weights, .ref aT_isThere, .ref aT_rooms, .int f_factor, .ref aT_isOffered, .ref aT_isAccepted, .int f_dropped, .ref aT_best, .ref aT_order, .ref aT_froms, .ref aT_tos, .ref aT_counts, .ref aT_points, .ref aT_flows, .ref aT_isUsed, .ref aT_gains, .ref aT_ways, .int f_pointMany])), (aT_begins, .inl (cy.1, 40, .inl A_begins)), (aT_ends, .inl (cy.1, 40, .inl A_ends)), (aT_isThere, .inl (cy.2.1, 40, .inl A_isThere))]) ⟨hx, hb, hml, hown, hts⟩ (c_X5_depthAt l G cy k aT aT_begins aT_ends aT_weights aT_isThere aT_rooms aT_isOffered aT_isAccepted aT_best aT_order aT_froms aT_tos aT_counts aT_points aT_flows aT_isUsed aT_gains aT_ways 0 f_many f_factor f_dropped f_pointMany A_begins A_ends A_isThere r1 hcl4) (cwV 1 hts gX5_rooms_X5_depthAt rfl rfl rfl (by decide +kernel) ⟨Nat.le_of_ble_eq_true rfl, Nat.le_of_ble_eq_true rfl⟩) hv (isC := [0, 1, 2, 3]) ⟨rfl, rfl⟩ (hv.recv 5 0 rfl rfl) [] [0, 1, 2, 3] rfl rfl (by decide) rfl rfl rfl hl.1 rfl (Nat.le_of_ble_eq_true rfl) dX5_rooms_10 ⟨Nat.le_of_ble_eq_true rfl, Nat.le_of_ble_eq_true rfl⟩ (fun H locs hv => ?_)
  cases hf
  exact kret _ _ _ _ hv dX5_rooms_13

def f_X5_thrown (k : Nat) (f_thrown : Int32) : Option (Int32) := some f_thrown
abbrev rm_X5_thrown : Room := { frames := 0, cells := 0, slots := 0, locals := 0 }
set_option maxHeartbeats 4000000 in
set_option maxRecDepth 100000 in
theorem c_X5_thrown (l : Launch) (G : va_G) (cy : ClassId × ClassId × ClassId) (k : Nat) (aT aT_begins aT_ends aT_weights aT_isThere aT_rooms aT_isOffered aT_isAccepted aT_best aT_order aT_froms aT_tos aT_counts aT_points aT_flows aT_isUsed aT_gains aT_ways : Nat) (f_thrown : Int32) (f_many : Int32) (f_factor : Int32) (f_dropped : Int32) (f_pointMany : Int32) {r : Int32} (hf : f_X5_thrown k f_thrown = some r) : Ci l yX5_thrown wsX5_thrown rm_X5_thrown 0 0 G cy [.ref aT] [(aT, .inr (5, [.int f_thrown, .int f_many, .ref aT_begins, .ref aT_ends, .ref aT_weights, .ref aT_isThere, .ref aT_rooms, .int f_factor, .ref aT_isOffered, .ref aT_isAccepted, .int f_dropped, .ref aT_best, .ref aT_order, .ref aT_froms, .ref aT_tos, .ref aT_counts, .ref aT_points, .ref aT_flows, .ref aT_isUsed, .ref aT_gains, .ref aT_ways, .int f_pointMany]))] [(aT, .inr (5, [.int f_thrown, .int f_many, .ref aT_begins, .ref aT_ends, .ref aT_weights, .ref aT_isThere, .ref aT_rooms, .int f_factor, .ref aT_isOffered, .ref aT_isAccepted, .int f_dropped, .ref aT_best, .ref aT_order, .ref aT_froms, .ref aT_tos, .ref aT_counts, .ref aT_points, .ref aT_flows, .ref aT_isUsed, .ref aT_gains, .ref aT_ways, .int f_pointMany]))] r := by
  refine kMetI (cc := cX5_thrown) (maxL := 1) (by decide) rfl (Nat.le_of_ble_eq_true rfl) ?_
  intro p e s m args below meth c Q A ls hx hb hml hts hown hv hl kret
  replace hown : s.vm.findClass RX5 = some m.cls := hown
  replace hl : lv_has ls 1 [(0, .ref aT)] := hl
  have hk66 : (Cond.fieldLink RX5 66 "RoomcolourModel" "thrown" "I").before args s = true := hts _ (by decide +kernel)
  have hinX5 : ∀ w ∈ wsX50, w ∈ wsX5_thrown := by decide +kernel
  unfold f_X5_thrown at hf
  refine lv_aload_n hx hb dX5_thrown_0 rfl (lv_at hl 0 rfl) ?_
  refine kGet (v := .int f_thrown) (C := RX5) (T := TX5) (N := 22) hx hb hts hinX5 hown hv 0 rfl rfl 0 (by decide) hk66 (fun _ h9 => h9) rfl dX5_thrown_1 ?_
  cases hf
  exact kret _ _ _ _ hv dX5_thrown_4
