def f_J13_bitCount_95d88 (k : Nat) (p0 : Int64) : Option (Int32) := some ((((((((((p0 - ((((p0 : Int64).toUInt64 >>> ((1 : Int32).toInt64.toUInt64 &&& Int64.toUInt64 63)).toInt64) &&& 6148914691236517205)) &&& 3689348814741910323) + ((((p0 - ((((p0 : Int64).toUInt64 >>> ((1 : Int32).toInt64.toUInt64 &&& Int64.toUInt64 63)).toInt64) &&& 6148914691236517205) : Int64).toUInt64 >>> ((2 : Int32).toInt64.toUInt64 &&& Int64.toUInt64 63)).toInt64) &&& 3689348814741910323)) + (((((p0 - ((((p0 : Int64).toUInt64 >>> ((1 : Int32).toInt64.toUInt64 &&& Int64.toUInt64 63)).toInt64) &&& 6148914691236517205)) &&& 3689348814741910323) + ((((p0 - ((((p0 : Int64).toUInt64 >>> ((1 : Int32).toInt64.toUInt64 &&& Int64.toUInt64 63)).toInt64) &&& 6148914691236517205) : Int64).toUInt64 >>> ((2 : Int32).toInt64.toUInt64 &&& Int64.toUInt64 63)).toInt64) &&& 3689348814741910323) : Int64).toUInt64 >>> ((4 : Int32).toInt64.toUInt64 &&& Int64.toUInt64 63)).toInt64)) &&& 1085102592571150095) + (((((((p0 - ((((p0 : Int64).toUInt64 >>> ((1 : Int32).toInt64.toUInt64 &&& Int64.toUInt64 63)).toInt64) &&& 6148914691236517205)) &&& 3689348814741910323) + ((((p0 - ((((p0 : Int64).toUInt64 >>> ((1 : Int32).toInt64.toUInt64 &&& Int64.toUInt64 63)).toInt64) &&& 6148914691236517205) : Int64).toUInt64 >>> ((2 : Int32).toInt64.toUInt64 &&& Int64.toUInt64 63)).toInt64) &&& 3689348814741910323)) + (((((p0 - ((((p0 : Int64).toUInt64 >>> ((1 : Int32).toInt64.toUInt64 &&& Int64.toUInt64 63)).toInt64) &&& 6148914691236517205)) &&& 3689348814741910323) + ((((p0 - ((((p0 : Int64).toUInt64 >>> ((1 : Int32).toInt64.toUInt64 &&& Int64.toUInt64 63)).toInt64) &&& 6148914691236517205) : Int64).toUInt64 >>> ((2 : Int32).toInt64.toUInt64 &&& Int64.toUInt64 63)).toInt64) &&& 3689348814741910323) : Int64).toUInt64 >>> ((4 : Int32).toInt64.toUInt64 &&& Int64.toUInt64 63)).toInt64)) &&& 1085102592571150095 : Int64).toUInt64 >>> ((8 : Int32).toInt64.toUInt64 &&& Int64.toUInt64 63)).toInt64)) + ((((((((p0 - ((((p0 : Int64).toUInt64 >>> ((1 : Int32).toInt64.toUInt64 &&& Int64.toUInt64 63)).toInt64) &&& 6148914691236517205)) &&& 3689348814741910323) + ((((p0 - ((((p0 : Int64).toUInt64 >>> ((1 : Int32).toInt64.toUInt64 &&& Int64.toUInt64 63)).toInt64) &&& 6148914691236517205) : Int64).toUInt64 >>> ((2 : Int32).toInt64.toUInt64 &&& Int64.toUInt64 63)).toInt64) &&& 3689348814741910323)) + (((((p0 - ((((p0 : Int64).toUInt64 >>> ((1 : Int32).toInt64.toUInt64 &&& Int64.toUInt64 63)).toInt64) &&& 6148914691236517205)) &&& 3689348814741910323) + ((((p0 - ((((p0 : Int64).toUInt64 >>> ((1 : Int32).toInt64.toUInt64 &&& Int64.toUInt64 63)).toInt64) &&& 6148914691236517205) : Int64).toUInt64 >>> ((2 : Int32).toInt64.toUInt64 &&& Int64.toUInt64 63)).toInt64) &&& 3689348814741910323) : Int64).toUInt64 >>> ((4 : Int32).toInt64.toUInt64 &&& Int64.toUInt64 63)).toInt64)) &&& 1085102592571150095) + (((((((p0 - ((((p0 : Int64).toUInt64 >>> ((1 : Int32).toInt64.toUInt64 &&& Int64.toUInt64 63)).toInt64) &&& 6148914691236517205)) &&& 3689348814741910323) + ((((p0 - ((((p0 : Int64).toUInt64 >>> ((1 : Int32).toInt64.toUInt64 &&& Int64.toUInt64 63)).toInt64) &&& 6148914691236517205) : Int64).toUInt64 >>> ((2 : Int32).toInt64.toUInt64 &&& Int64.toUInt64 63)).toInt64) &&& 3689348814741910323)) + (((((p0 - ((((p0 : Int64).toUInt64 >>> ((1 : Int32).toInt64.toUInt64 &&& Int64.toUInt64 63)).toInt64) &&& 6148914691236517205)) &&& 3689348814741910323) + ((((p0 - ((((p0 : Int64).toUInt64 >>> ((1 : Int32).toInt64.toUInt64 &&& Int64.toUInt64 63)).toInt64) &&& 6148914691236517205) : Int64).toUInt64 >>> ((2 : Int32).toInt64.toUInt64 &&& Int64.toUInt64 63)).toInt64) &&& 3689348814741910323) : Int64).toUInt64 >>> ((4 : Int32).toInt64.toUInt64 &&& Int64.toUInt64 63)).toInt64)) &&& 1085102592571150095 : Int64).toUInt64 >>> ((8 : Int32).toInt64.toUInt64 &&& Int64.toUInt64 63)).toInt64) : Int64).toUInt64 >>> ((16 : Int32).toInt64.toUInt64 &&& Int64.toUInt64 63)).toInt64)) + (((((((((p0 - ((((p0 : Int64).toUInt64 >>> ((1 : Int32).toInt64.toUInt64 &&& Int64.toUInt64 63)).toInt64) &&& 6148914691236517205)) &&& 3689348814741910323) + ((((p0 - ((((p0 : Int64).toUInt64 >>> ((1 : Int32).toInt64.toUInt64 &&& Int64.toUInt64 63)).toInt64) &&& 6148914691236517205) : Int64).toUInt64 >>> ((2 : Int32).toInt64.toUInt64 &&& Int64.toUInt64 63)).toInt64) &&& 3689348814741910323)) + (((((p0 - ((((p0 : Int64).toUInt64 >>> ((1 : Int32).toInt64.toUInt64 &&& Int64.toUInt64 63)).toInt64) &&& 6148914691236517205)) &&& 3689348814741910323) + ((((p0 - ((((p0 : Int64).toUInt64 >>> ((1 : Int32).toInt64.toUInt64 &&& Int64.toUInt64 63)).toInt64) &&& 6148914691236517205) : Int64).toUInt64 >>> ((2 : Int32).toInt64.toUInt64 &&& Int64.toUInt64 63)).toInt64) &&& 3689348814741910323) : Int64).toUInt64 >>> ((4 : Int32).toInt64.toUInt64 &&& Int64.toUInt64 63)).toInt64)) &&& 1085102592571150095) + (((((((p0 - ((((p0 : Int64).toUInt64 >>> ((1 : Int32).toInt64.toUInt64 &&& Int64.toUInt64 63)).toInt64) &&& 6148914691236517205)) &&& 3689348814741910323) + ((((p0 - ((((p0 : Int64).toUInt64 >>> ((1 : Int32).toInt64.toUInt64 &&& Int64.toUInt64 63)).toInt64) &&& 6148914691236517205) : Int64).toUInt64 >>> ((2 : Int32).toInt64.toUInt64 &&& Int64.toUInt64 63)).toInt64) &&& 3689348814741910323)) + (((((p0 - ((((p0 : Int64).toUInt64 >>> ((1 : Int32).toInt64.toUInt64 &&& Int64.toUInt64 63)).toInt64) &&& 6148914691236517205)) &&& 3689348814741910323) + ((((p0 - ((((p0 : Int64).toUInt64 >>> ((1 : Int32).toInt64.toUInt64 &&& Int64.toUInt64 63)).toInt64) &&& 6148914691236517205) : Int64).toUInt64 >>> ((2 : Int32).toInt64.toUInt64 &&& Int64.toUInt64 63)).toInt64) &&& 3689348814741910323) : Int64).toUInt64 >>> ((4 : Int32).toInt64.toUInt64 &&& Int64.toUInt64 63)).toInt64)) &&& 1085102592571150095 : Int64).toUInt64 >>> ((8 : Int32).toInt64.toUInt64 &&& Int64.toUInt64 63)).toInt64)) + ((((((((p0 - ((((p0 : Int64).toUInt64 >>> ((1 : Int32).toInt64.toUInt64 &&& Int64.toUInt64 63)).toInt64) &&& 6148914691236517205)) &&& 3689348814741910323) + ((((p0 - ((((p0 : Int64).toUInt64 >>> ((1 : Int32).toInt64.toUInt64 &&& Int64.toUInt64 63)).toInt64) &&& 6148914691236517205) : Int64).toUInt64 >>> ((2 : Int32).toInt64.toUInt64 &&& Int64.toUInt64 63)).toInt64) &&& 3689348814741910323)) + (((((p0 - ((((p0 : Int64).toUInt64 >>> ((1 : Int32).toInt64.toUInt64 &&& Int64.toUInt64 63)).toInt64) &&& 6148914691236517205)) &&& 3689348814741910323) + ((((p0 - ((((p0 : Int64).toUInt64 >>> ((1 : Int32).toInt64.toUInt64 &&& Int64.toUInt64 63)).toInt64) &&& 6148914691236517205) : Int64).toUInt64 >>> ((2 : Int32).toInt64.toUInt64 &&& Int64.toUInt64 63)).toInt64) &&& 3689348814741910323) : Int64).toUInt64 >>> ((4 : Int32).toInt64.toUInt64 &&& Int64.toUInt64 63)).toInt64)) &&& 1085102592571150095) + (((((((p0 - ((((p0 : Int64).toUInt64 >>> ((1 : Int32).toInt64.toUInt64 &&& Int64.toUInt64 63)).toInt64) &&& 6148914691236517205)) &&& 3689348814741910323) + ((((p0 - ((((p0 : Int64).toUInt64 >>> ((1 : Int32).toInt64.toUInt64 &&& Int64.toUInt64 63)).toInt64) &&& 6148914691236517205) : Int64).toUInt64 >>> ((2 : Int32).toInt64.toUInt64 &&& Int64.toUInt64 63)).toInt64) &&& 3689348814741910323)) + (((((p0 - ((((p0 : Int64).toUInt64 >>> ((1 : Int32).toInt64.toUInt64 &&& Int64.toUInt64 63)).toInt64) &&& 6148914691236517205)) &&& 3689348814741910323) + ((((p0 - ((((p0 : Int64).toUInt64 >>> ((1 : Int32).toInt64.toUInt64 &&& Int64.toUInt64 63)).toInt64) &&& 6148914691236517205) : Int64).toUInt64 >>> ((2 : Int32).toInt64.toUInt64 &&& Int64.toUInt64 63)).toInt64) &&& 3689348814741910323) : Int64).toUInt64 >>> ((4 : Int32).toInt64.toUInt64 &&& Int64.toUInt64 63)).toInt64)) &&& 1085102592571150095 : Int64).toUInt64 >>> ((8 : Int32).toInt64.toUInt64 &&& Int64.toUInt64 63)).toInt64) : Int64).toUInt64 >>> ((16 : Int32).toInt64.toUInt64 &&& Int64.toUInt64 63)).toInt64) : Int64).toUInt64 >>> ((32 : Int32).toInt64.toUInt64 &&& Int64.toUInt64 63)).toInt64)).toInt32) &&& 127)
abbrev rm_J13_bitCount_95d88 : Room := { frames := 0, cells := 0, slots := 0, locals := 0 }
set_option maxHeartbeats 4000000 in
set_option maxRecDepth 100000 in
theorem c_J13_bitCount_95d88 (l : Launch) (G : va_G) (cy : ClassId × ClassId × ClassId) (k : Nat) (p0 : Int64) {r : Int32} (hf : f_J13_bitCount_95d88 k p0 = some r) : Ci l yJ13_bitCount_95d88 wsJ13_bitCount_95d88 rm_J13_bitCount_95d88 0 0 G cy [.long p0] [] [] r := by
  refine kMetI (cc := cJ13_bitCount_95d88) (maxL := 2) (by decide) rfl (Nat.le_of_ble_eq_true rfl) ?_
  intro p e s m args below meth c Q A ls hx hb hml hts hown hv hl kret
  replace hown : s.vm.findClass RJ13 = some m.cls := hown
  replace hl : lv_has ls 2 [(0, .long p0)] := hl
  have hk314 : (Cond.constantLong RJ13 314 6148914691236517205).before args s = true := hts _ (by decide +kernel)
  have hk316 : (Cond.constantLong RJ13 316 3689348814741910323).before args s = true := hts _ (by decide +kernel)
  have hk318 : (Cond.constantLong RJ13 318 1085102592571150095).before args s = true := hts _ (by decide +kernel)
  unfold f_J13_bitCount_95d88 at hf
  refine lv_lload_n hx hb dJ13_bitCount_95d88_0 rfl (lv_at hl 0 rfl) ?_
  refine lv_lload_n hx hb dJ13_bitCount_95d88_1 rfl (lv_at hl 0 rfl) ?_
  refine lv_iconst (v := 1) hx hb dJ13_bitCount_95d88_2 (by decide) ?_
  refine lv_lushr hx hb dJ13_bitCount_95d88_3 rfl ?_
  refine lv_ldc2 hx hb hown hk314 dJ13_bitCount_95d88_4 ?_
  refine lv_land hx hb dJ13_bitCount_95d88_7 ?_
  refine lv_lsub hx hb dJ13_bitCount_95d88_8 ?_
  refine lv_lstore_n (lv' := [(0, .long (p0 - ((((p0 : Int64).toUInt64 >>> ((1 : Int32).toInt64.toUInt64 &&& Int64.toUInt64 63)).toInt64) &&& 6148914691236517205)))]) hx hb dJ13_bitCount_95d88_9 rfl hl (by decide) rfl (fun ls hl => ?_)
  refine lv_lload_n hx hb dJ13_bitCount_95d88_10 rfl (lv_at hl 0 rfl) ?_
  refine lv_ldc2 hx hb hown hk316 dJ13_bitCount_95d88_11 ?_
  refine lv_land hx hb dJ13_bitCount_95d88_14 ?_
  refine lv_lload_n hx hb dJ13_bitCount_95d88_15 rfl (lv_at hl 0 rfl) ?_
  refine lv_iconst (v := 2) hx hb dJ13_bitCount_95d88_16 (by decide) ?_
  refine lv_lushr hx hb dJ13_bitCount_95d88_17 rfl ?_
  refine lv_ldc2 hx hb hown hk316 dJ13_bitCount_95d88_18 ?_
  refine lv_land hx hb dJ13_bitCount_95d88_21 ?_
  refine lv_ladd hx hb dJ13_bitCount_95d88_22 ?_
  refine lv_lstore_n (lv' := [(0, .long (((p0 - ((((p0 : Int64).toUInt64 >>> ((1 : Int32).toInt64.toUInt64 &&& Int64.toUInt64 63)).toInt64) &&& 6148914691236517205)) &&& 3689348814741910323) + ((((p0 - ((((p0 : Int64).toUInt64 >>> ((1 : Int32).toInt64.toUInt64 &&& Int64.toUInt64 63)).toInt64) &&& 6148914691236517205) : Int64).toUInt64 >>> ((2 : Int32).toInt64.toUInt64 &&& Int64.toUInt64 63)).toInt64) &&& 3689348814741910323)))]) hx hb dJ13_bitCount_95d88_23 rfl hl (by decide) rfl (fun ls hl => ?_)
  refine lv_lload_n hx hb dJ13_bitCount_95d88_24 rfl (lv_at hl 0 rfl) ?_
  refine lv_lload_n hx hb dJ13_bitCount_95d88_25 rfl (lv_at hl 0 rfl) ?_
  refine lv_iconst (v := 4) hx hb dJ13_bitCount_95d88_26 (by decide) ?_
  refine lv_lushr hx hb dJ13_bitCount_95d88_27 rfl ?_
  refine lv_ladd hx hb dJ13_bitCount_95d88_28 ?_
  refine lv_ldc2 hx hb hown hk318 dJ13_bitCount_95d88_29 ?_
  refine lv_land hx hb dJ13_bitCount_95d88_32 ?_
  refine lv_lstore_n (lv' := [(0, .long (((((p0 - ((((p0 : Int64).toUInt64 >>> ((1 : Int32).toInt64.toUInt64 &&& Int64.toUInt64 63)).toInt64) &&& 6148914691236517205)) &&& 3689348814741910323) + ((((p0 - ((((p0 : Int64).toUInt64 >>> ((1 : Int32).toInt64.toUInt64 &&& Int64.toUInt64 63)).toInt64) &&& 6148914691236517205) : Int64).toUInt64 >>> ((2 : Int32).toInt64.toUInt64 &&& Int64.toUInt64 63)).toInt64) &&& 3689348814741910323)) + (((((p0 - ((((p0 : Int64).toUInt64 >>> ((1 : Int32).toInt64.toUInt64 &&& Int64.toUInt64 63)).toInt64) &&& 6148914691236517205)) &&& 3689348814741910323) + ((((p0 - ((((p0 : Int64).toUInt64 >>> ((1 : Int32).toInt64.toUInt64 &&& Int64.toUInt64 63)).toInt64) &&& 6148914691236517205) : Int64).toUInt64 >>> ((2 : Int32).toInt64.toUInt64 &&& Int64.toUInt64 63)).toInt64) &&& 3689348814741910323) : Int64).toUInt64 >>> ((4 : Int32).toInt64.toUInt64 &&& Int64.toUInt64 63)).toInt64)) &&& 1085102592571150095))]) hx hb dJ13_bitCount_95d88_33 rfl hl (by decide) rfl (fun ls hl => ?_)
  refine lv_lload_n hx hb dJ13_bitCount_95d88_34 rfl (lv_at hl 0 rfl) ?_
  refine lv_lload_n hx hb dJ13_bitCount_95d88_35 rfl (lv_at hl 0 rfl) ?_
  refine lv_bipush (v := 8) hx hb dJ13_bitCount_95d88_36 (by decide) ?_
  refine lv_lushr hx hb dJ13_bitCount_95d88_38 rfl ?_
  refine lv_ladd hx hb dJ13_bitCount_95d88_39 ?_
  refine lv_lstore_n (lv' := [(0, .long ((((((p0 - ((((p0 : Int64).toUInt64 >>> ((1 : Int32).toInt64.toUInt64 &&& Int64.toUInt64 63)).toInt64) &&& 6148914691236517205)) &&& 3689348814741910323) + ((((p0 - ((((p0 : Int64).toUInt64 >>> ((1 : Int32).toInt64.toUInt64 &&& Int64.toUInt64 63)).toInt64) &&& 6148914691236517205) : Int64).toUInt64 >>> ((2 : Int32).toInt64.toUInt64 &&& Int64.toUInt64 63)).toInt64) &&& 3689348814741910323)) + (((((p0 - ((((p0 : Int64).toUInt64 >>> ((1 : Int32).toInt64.toUInt64 &&& Int64.toUInt64 63)).toInt64) &&& 6148914691236517205)) &&& 3689348814741910323) + ((((p0 - ((((p0 : Int64).toUInt64 >>> ((1 : Int32).toInt64.toUInt64 &&& Int64.toUInt64 63)).toInt64) &&& 6148914691236517205) : Int64).toUInt64 >>> ((2 : Int32).toInt64.toUInt64 &&& Int64.toUInt64 63)).toInt64) &&& 3689348814741910323) : Int64).toUInt64 >>> ((4 : Int32).toInt64.toUInt64 &&& Int64.toUInt64 63)).toInt64)) &&& 1085102592571150095) + (((((((p0 - ((((p0 : Int64).toUInt64 >>> ((1 : Int32).toInt64.toUInt64 &&& Int64.toUInt64 63)).toInt64) &&& 6148914691236517205)) &&& 3689348814741910323) + ((((p0 - ((((p0 : Int64).toUInt64 >>> ((1 : Int32).toInt64.toUInt64 &&& Int64.toUInt64 63)).toInt64) &&& 6148914691236517205) : Int64).toUInt64 >>> ((2 : Int32).toInt64.toUInt64 &&& Int64.toUInt64 63)).toInt64) &&& 3689348814741910323)) + (((((p0 - ((((p0 : Int64).toUInt64 >>> ((1 : Int32).toInt64.toUInt64 &&& Int64.toUInt64 63)).toInt64) &&& 6148914691236517205)) &&& 3689348814741910323) + ((((p0 - ((((p0 : Int64).toUInt64 >>> ((1 : Int32).toInt64.toUInt64 &&& Int64.toUInt64 63)).toInt64) &&& 6148914691236517205) : Int64).toUInt64 >>> ((2 : Int32).toInt64.toUInt64 &&& Int64.toUInt64 63)).toInt64) &&& 3689348814741910323) : Int64).toUInt64 >>> ((4 : Int32).toInt64.toUInt64 &&& Int64.toUInt64 63)).toInt64)) &&& 1085102592571150095 : Int64).toUInt64 >>> ((8 : Int32).toInt64.toUInt64 &&& Int64.toUInt64 63)).toInt64)))]) hx hb dJ13_bitCount_95d88_40 rfl hl (by decide) rfl (fun ls hl => ?_)
  refine lv_lload_n hx hb dJ13_bitCount_95d88_41 rfl (lv_at hl 0 rfl) ?_
  refine lv_lload_n hx hb dJ13_bitCount_95d88_42 rfl (lv_at hl 0 rfl) ?_
  refine lv_bipush (v := 16) hx hb dJ13_bitCount_95d88_43 (by decide) ?_
  refine lv_lushr hx hb dJ13_bitCount_95d88_45 rfl ?_
  refine lv_ladd hx hb dJ13_bitCount_95d88_46 ?_
  refine lv_lstore_n (lv' := [(0, .long (((((((p0 - ((((p0 : Int64).toUInt64 >>> ((1 : Int32).toInt64.toUInt64 &&& Int64.toUInt64 63)).toInt64) &&& 6148914691236517205)) &&& 3689348814741910323) + ((((p0 - ((((p0 : Int64).toUInt64 >>> ((1 : Int32).toInt64.toUInt64 &&& Int64.toUInt64 63)).toInt64) &&& 6148914691236517205) : Int64).toUInt64 >>> ((2 : Int32).toInt64.toUInt64 &&& Int64.toUInt64 63)).toInt64) &&& 3689348814741910323)) + (((((p0 - ((((p0 : Int64).toUInt64 >>> ((1 : Int32).toInt64.toUInt64 &&& Int64.toUInt64 63)).toInt64) &&& 6148914691236517205)) &&& 3689348814741910323) + ((((p0 - ((((p0 : Int64).toUInt64 >>> ((1 : Int32).toInt64.toUInt64 &&& Int64.toUInt64 63)).toInt64) &&& 6148914691236517205) : Int64).toUInt64 >>> ((2 : Int32).toInt64.toUInt64 &&& Int64.toUInt64 63)).toInt64) &&& 3689348814741910323) : Int64).toUInt64 >>> ((4 : Int32).toInt64.toUInt64 &&& Int64.toUInt64 63)).toInt64)) &&& 1085102592571150095) + (((((((p0 - ((((p0 : Int64).toUInt64 >>> ((1 : Int32).toInt64.toUInt64 &&& Int64.toUInt64 63)).toInt64) &&& 6148914691236517205)) &&& 3689348814741910323) + ((((p0 - ((((p0 : Int64).toUInt64 >>> ((1 : Int32).toInt64.toUInt64 &&& Int64.toUInt64 63)).toInt64) &&& 6148914691236517205) : Int64).toUInt64 >>> ((2 : Int32).toInt64.toUInt64 &&& Int64.toUInt64 63)).toInt64) &&& 3689348814741910323)) + (((((p0 - ((((p0 : Int64).toUInt64 >>> ((1 : Int32).toInt64.toUInt64 &&& Int64.toUInt64 63)).toInt64) &&& 6148914691236517205)) &&& 3689348814741910323) + ((((p0 - ((((p0 : Int64).toUInt64 >>> ((1 : Int32).toInt64.toUInt64 &&& Int64.toUInt64 63)).toInt64) &&& 6148914691236517205) : Int64).toUInt64 >>> ((2 : Int32).toInt64.toUInt64 &&& Int64.toUInt64 63)).toInt64) &&& 3689348814741910323) : Int64).toUInt64 >>> ((4 : Int32).toInt64.toUInt64 &&& Int64.toUInt64 63)).toInt64)) &&& 1085102592571150095 : Int64).toUInt64 >>> ((8 : Int32).toInt64.toUInt64 &&& Int64.toUInt64 63)).toInt64)) + ((((((((p0 - ((((p0 : Int64).toUInt64 >>> ((1 : Int32).toInt64.toUInt64 &&& Int64.toUInt64 63)).toInt64) &&& 6148914691236517205)) &&& 3689348814741910323) + ((((p0 - ((((p0 : Int64).toUInt64 >>> ((1 : Int32).toInt64.toUInt64 &&& Int64.toUInt64 63)).toInt64) &&& 6148914691236517205) : Int64).toUInt64 >>> ((2 : Int32).toInt64.toUInt64 &&& Int64.toUInt64 63)).toInt64) &&& 3689348814741910323)) + (((((p0 - ((((p0 : Int64).toUInt64 >>> ((1 : Int32).toInt64.toUInt64 &&& Int64.toUInt64 63)).toInt64) &&& 6148914691236517205)) &&& 3689348814741910323) + ((((p0 - ((((p0 : Int64).toUInt64 >>> ((1 : Int32).toInt64.toUInt64 &&& Int64.toUInt64 63)).toInt64) &&& 6148914691236517205) : Int64).toUInt64 >>> ((2 : Int32).toInt64.toUInt64 &&& Int64.toUInt64 63)).toInt64) &&& 3689348814741910323) : Int64).toUInt64 >>> ((4 : Int32).toInt64.toUInt64 &&& Int64.toUInt64 63)).toInt64)) &&& 1085102592571150095) + (((((((p0 - ((((p0 : Int64).toUInt64 >>> ((1 : Int32).toInt64.toUInt64 &&& Int64.toUInt64 63)).toInt64) &&& 6148914691236517205)) &&& 3689348814741910323) + ((((p0 - ((((p0 : Int64).toUInt64 >>> ((1 : Int32).toInt64.toUInt64 &&& Int64.toUInt64 63)).toInt64) &&& 6148914691236517205) : Int64).toUInt64 >>> ((2 : Int32).toInt64.toUInt64 &&& Int64.toUInt64 63)).toInt64) &&& 3689348814741910323)) + (((((p0 - ((((p0 : Int64).toUInt64 >>> ((1 : Int32).toInt64.toUInt64 &&& Int64.toUInt64 63)).toInt64) &&& 6148914691236517205)) &&& 3689348814741910323) + ((((p0 - ((((p0 : Int64).toUInt64 >>> ((1 : Int32).toInt64.toUInt64 &&& Int64.toUInt64 63)).toInt64) &&& 6148914691236517205) : Int64).toUInt64 >>> ((2 : Int32).toInt64.toUInt64 &&& Int64.toUInt64 63)).toInt64) &&& 3689348814741910323) : Int64).toUInt64 >>> ((4 : Int32).toInt64.toUInt64 &&& Int64.toUInt64 63)).toInt64)) &&& 1085102592571150095 : Int64).toUInt64 >>> ((8 : Int32).toInt64.toUInt64 &&& Int64.toUInt64 63)).toInt64) : Int64).toUInt64 >>> ((16 : Int32).toInt64.toUInt64 &&& Int64.toUInt64 63)).toInt64)))]) hx hb dJ13_bitCount_95d88_47 rfl hl (by decide) rfl (fun ls hl => ?_)
  refine lv_lload_n hx hb dJ13_bitCount_95d88_48 rfl (lv_at hl 0 rfl) ?_
  refine lv_lload_n hx hb dJ13_bitCount_95d88_49 rfl (lv_at hl 0 rfl) ?_
  refine lv_bipush (v := 32) hx hb dJ13_bitCount_95d88_50 (by decide) ?_
  refine lv_lushr hx hb dJ13_bitCount_95d88_52 rfl ?_
  refine lv_ladd hx hb dJ13_bitCount_95d88_53 ?_
  refine lv_lstore_n (lv' := [(0, .long ((((((((p0 - ((((p0 : Int64).toUInt64 >>> ((1 : Int32).toInt64.toUInt64 &&& Int64.toUInt64 63)).toInt64) &&& 6148914691236517205)) &&& 3689348814741910323) + ((((p0 - ((((p0 : Int64).toUInt64 >>> ((1 : Int32).toInt64.toUInt64 &&& Int64.toUInt64 63)).toInt64) &&& 6148914691236517205) : Int64).toUInt64 >>> ((2 : Int32).toInt64.toUInt64 &&& Int64.toUInt64 63)).toInt64) &&& 3689348814741910323)) + (((((p0 - ((((p0 : Int64).toUInt64 >>> ((1 : Int32).toInt64.toUInt64 &&& Int64.toUInt64 63)).toInt64) &&& 6148914691236517205)) &&& 3689348814741910323) + ((((p0 - ((((p0 : Int64).toUInt64 >>> ((1 : Int32).toInt64.toUInt64 &&& Int64.toUInt64 63)).toInt64) &&& 6148914691236517205) : Int64).toUInt64 >>> ((2 : Int32).toInt64.toUInt64 &&& Int64.toUInt64 63)).toInt64) &&& 3689348814741910323) : Int64).toUInt64 >>> ((4 : Int32).toInt64.toUInt64 &&& Int64.toUInt64 63)).toInt64)) &&& 1085102592571150095) + (((((((p0 - ((((p0 : Int64).toUInt64 >>> ((1 : Int32).toInt64.toUInt64 &&& Int64.toUInt64 63)).toInt64) &&& 6148914691236517205)) &&& 3689348814741910323) + ((((p0 - ((((p0 : Int64).toUInt64 >>> ((1 : Int32).toInt64.toUInt64 &&& Int64.toUInt64 63)).toInt64) &&& 6148914691236517205) : Int64).toUInt64 >>> ((2 : Int32).toInt64.toUInt64 &&& Int64.toUInt64 63)).toInt64) &&& 3689348814741910323)) + (((((p0 - ((((p0 : Int64).toUInt64 >>> ((1 : Int32).toInt64.toUInt64 &&& Int64.toUInt64 63)).toInt64) &&& 6148914691236517205)) &&& 3689348814741910323) + ((((p0 - ((((p0 : Int64).toUInt64 >>> ((1 : Int32).toInt64.toUInt64 &&& Int64.toUInt64 63)).toInt64) &&& 6148914691236517205) : Int64).toUInt64 >>> ((2 : Int32).toInt64.toUInt64 &&& Int64.toUInt64 63)).toInt64) &&& 3689348814741910323) : Int64).toUInt64 >>> ((4 : Int32).toInt64.toUInt64 &&& Int64.toUInt64 63)).toInt64)) &&& 1085102592571150095 : Int64).toUInt64 >>> ((8 : Int32).toInt64.toUInt64 &&& Int64.toUInt64 63)).toInt64)) + ((((((((p0 - ((((p0 : Int64).toUInt64 >>> ((1 : Int32).toInt64.toUInt64 &&& Int64.toUInt64 63)).toInt64) &&& 6148914691236517205)) &&& 3689348814741910323) + ((((p0 - ((((p0 : Int64).toUInt64 >>> ((1 : Int32).toInt64.toUInt64 &&& Int64.toUInt64 63)).toInt64) &&& 6148914691236517205) : Int64).toUInt64 >>> ((2 : Int32).toInt64.toUInt64 &&& Int64.toUInt64 63)).toInt64) &&& 3689348814741910323)) + (((((p0 - ((((p0 : Int64).toUInt64 >>> ((1 : Int32).toInt64.toUInt64 &&& Int64.toUInt64 63)).toInt64) &&& 6148914691236517205)) &&& 3689348814741910323) + ((((p0 - ((((p0 : Int64).toUInt64 >>> ((1 : Int32).toInt64.toUInt64 &&& Int64.toUInt64 63)).toInt64) &&& 6148914691236517205) : Int64).toUInt64 >>> ((2 : Int32).toInt64.toUInt64 &&& Int64.toUInt64 63)).toInt64) &&& 3689348814741910323) : Int64).toUInt64 >>> ((4 : Int32).toInt64.toUInt64 &&& Int64.toUInt64 63)).toInt64)) &&& 1085102592571150095) + (((((((p0 - ((((p0 : Int64).toUInt64 >>> ((1 : Int32).toInt64.toUInt64 &&& Int64.toUInt64 63)).toInt64) &&& 6148914691236517205)) &&& 3689348814741910323) + ((((p0 - ((((p0 : Int64).toUInt64 >>> ((1 : Int32).toInt64.toUInt64 &&& Int64.toUInt64 63)).toInt64) &&& 6148914691236517205) : Int64).toUInt64 >>> ((2 : Int32).toInt64.toUInt64 &&& Int64.toUInt64 63)).toInt64) &&& 3689348814741910323)) + (((((p0 - ((((p0 : Int64).toUInt64 >>> ((1 : Int32).toInt64.toUInt64 &&& Int64.toUInt64 63)).toInt64) &&& 6148914691236517205)) &&& 3689348814741910323) + ((((p0 - ((((p0 : Int64).toUInt64 >>> ((1 : Int32).toInt64.toUInt64 &&& Int64.toUInt64 63)).toInt64) &&& 6148914691236517205) : Int64).toUInt64 >>> ((2 : Int32).toInt64.toUInt64 &&& Int64.toUInt64 63)).toInt64) &&& 3689348814741910323) : Int64).toUInt64 >>> ((4 : Int32).toInt64.toUInt64 &&& Int64.toUInt64 63)).toInt64)) &&& 1085102592571150095 : Int64).toUInt64 >>> ((8 : Int32).toInt64.toUInt64 &&& Int64.toUInt64 63)).toInt64) : Int64).toUInt64 >>> ((16 : Int32).toInt64.toUInt64 &&& Int64.toUInt64 63)).toInt64)) + (((((((((p0 - ((((p0 : Int64).toUInt64 >>> ((1 : Int32).toInt64.toUInt64 &&& Int64.toUInt64 63)).toInt64) &&& 6148914691236517205)) &&& 3689348814741910323) + ((((p0 - ((((p0 : Int64).toUInt64 >>> ((1 : Int32).toInt64.toUInt64 &&& Int64.toUInt64 63)).toInt64) &&& 6148914691236517205) : Int64).toUInt64 >>> ((2 : Int32).toInt64.toUInt64 &&& Int64.toUInt64 63)).toInt64) &&& 3689348814741910323)) + (((((p0 - ((((p0 : Int64).toUInt64 >>> ((1 : Int32).toInt64.toUInt64 &&& Int64.toUInt64 63)).toInt64) &&& 6148914691236517205)) &&& 3689348814741910323) + ((((p0 - ((((p0 : Int64).toUInt64 >>> ((1 : Int32).toInt64.toUInt64 &&& Int64.toUInt64 63)).toInt64) &&& 6148914691236517205) : Int64).toUInt64 >>> ((2 : Int32).toInt64.toUInt64 &&& Int64.toUInt64 63)).toInt64) &&& 3689348814741910323) : Int64).toUInt64 >>> ((4 : Int32).toInt64.toUInt64 &&& Int64.toUInt64 63)).toInt64)) &&& 1085102592571150095) + (((((((p0 - ((((p0 : Int64).toUInt64 >>> ((1 : Int32).toInt64.toUInt64 &&& Int64.toUInt64 63)).toInt64) &&& 6148914691236517205)) &&& 3689348814741910323) + ((((p0 - ((((p0 : Int64).toUInt64 >>> ((1 : Int32).toInt64.toUInt64 &&& Int64.toUInt64 63)).toInt64) &&& 6148914691236517205) : Int64).toUInt64 >>> ((2 : Int32).toInt64.toUInt64 &&& Int64.toUInt64 63)).toInt64) &&& 3689348814741910323)) + (((((p0 - ((((p0 : Int64).toUInt64 >>> ((1 : Int32).toInt64.toUInt64 &&& Int64.toUInt64 63)).toInt64) &&& 6148914691236517205)) &&& 3689348814741910323) + ((((p0 - ((((p0 : Int64).toUInt64 >>> ((1 : Int32).toInt64.toUInt64 &&& Int64.toUInt64 63)).toInt64) &&& 6148914691236517205) : Int64).toUInt64 >>> ((2 : Int32).toInt64.toUInt64 &&& Int64.toUInt64 63)).toInt64) &&& 3689348814741910323) : Int64).toUInt64 >>> ((4 : Int32).toInt64.toUInt64 &&& Int64.toUInt64 63)).toInt64)) &&& 1085102592571150095 : Int64).toUInt64 >>> ((8 : Int32).toInt64.toUInt64 &&& Int64.toUInt64 63)).toInt64)) + ((((((((p0 - ((((p0 : Int64).toUInt64 >>> ((1 : Int32).toInt64.toUInt64 &&& Int64.toUInt64 63)).toInt64) &&& 6148914691236517205)) &&& 3689348814741910323) + ((((p0 - ((((p0 : Int64).toUInt64 >>> ((1 : Int32).toInt64.toUInt64 &&& Int64.toUInt64 63)).toInt64) &&& 6148914691236517205) : Int64).toUInt64 >>> ((2 : Int32).toInt64.toUInt64 &&& Int64.toUInt64 63)).toInt64) &&& 3689348814741910323)) + (((((p0 - ((((p0 : Int64).toUInt64 >>> ((1 : Int32).toInt64.toUInt64 &&& Int64.toUInt64 63)).toInt64) &&& 6148914691236517205)) &&& 3689348814741910323) + ((((p0 - ((((p0 : Int64).toUInt64 >>> ((1 : Int32).toInt64.toUInt64 &&& Int64.toUInt64 63)).toInt64) &&& 6148914691236517205) : Int64).toUInt64 >>> ((2 : Int32).toInt64.toUInt64 &&& Int64.toUInt64 63)).toInt64) &&& 3689348814741910323) : Int64).toUInt64 >>> ((4 : Int32).toInt64.toUInt64 &&& Int64.toUInt64 63)).toInt64)) &&& 1085102592571150095) + (((((((p0 - ((((p0 : Int64).toUInt64 >>> ((1 : Int32).toInt64.toUInt64 &&& Int64.toUInt64 63)).toInt64) &&& 6148914691236517205)) &&& 3689348814741910323) + ((((p0 - ((((p0 : Int64).toUInt64 >>> ((1 : Int32).toInt64.toUInt64 &&& Int64.toUInt64 63)).toInt64) &&& 6148914691236517205) : Int64).toUInt64 >>> ((2 : Int32).toInt64.toUInt64 &&& Int64.toUInt64 63)).toInt64) &&& 3689348814741910323)) + (((((p0 - ((((p0 : Int64).toUInt64 >>> ((1 : Int32).toInt64.toUInt64 &&& Int64.toUInt64 63)).toInt64) &&& 6148914691236517205)) &&& 3689348814741910323) + ((((p0 - ((((p0 : Int64).toUInt64 >>> ((1 : Int32).toInt64.toUInt64 &&& Int64.toUInt64 63)).toInt64) &&& 6148914691236517205) : Int64).toUInt64 >>> ((2 : Int32).toInt64.toUInt64 &&& Int64.toUInt64 63)).toInt64) &&& 3689348814741910323) : Int64).toUInt64 >>> ((4 : Int32).toInt64.toUInt64 &&& Int64.toUInt64 63)).toInt64)) &&& 1085102592571150095 : Int64).toUInt64 >>> ((8 : Int32).toInt64.toUInt64 &&& Int64.toUInt64 63)).toInt64) : Int64).toUInt64 >>> ((16 : Int32).toInt64.toUInt64 &&& Int64.toUInt64 63)).toInt64) : Int64).toUInt64 >>> ((32 : Int32).toInt64.toUInt64 &&& Int64.toUInt64 63)).toInt64)))]) hx hb dJ13_bitCount_95d88_54 rfl hl (by decide) rfl (fun ls hl => ?_)
  refine lv_lload_n hx hb dJ13_bitCount_95d88_55 rfl (lv_at hl 0 rfl) ?_
  refine lv_l2i hx hb dJ13_bitCount_95d88_56 rfl ?_
  refine lv_bipush (v := 127) hx hb dJ13_bitCount_95d88_57 (by decide) ?_
  refine lv_iand hx hb dJ13_bitCount_95d88_59 ?_
  cases hf
  exact kret _ _ _ _ hv dJ13_bitCount_95d88_60

def f_J9_floorMod_7cf53 (k : Nat) (p0 : Int32) (p1 : Int32) : Option (Int32) := xd p1 (if 0 ≤ (p0 ^^^ p1) then some (p0 - p0 / p1 * p1) else if (p0 - p0 / p1 * p1) = 0 then some (p0 - p0 / p1 * p1) else some ((p0 - p0 / p1 * p1) + p1))
abbrev rm_J9_floorMod_7cf53 : Room := { frames := 0, cells := 0, slots := 0, locals := 0 }
set_option maxHeartbeats 4000000 in
set_option maxRecDepth 100000 in
theorem c_J9_floorMod_7cf53 (l : Launch) (G : va_G) (cy : ClassId × ClassId × ClassId) (k : Nat) (p0 : Int32) (p1 : Int32) {r : Int32} (hf : f_J9_floorMod_7cf53 k p0 p1 = some r) : Ci l yJ9_floorMod_7cf53 wsJ9_floorMod_7cf53 rm_J9_floorMod_7cf53 0 0 G cy [.int p0, .int p1] [] [] r := by
  intro sz
  refine va_MetF (cc := cJ9_floorMod_7cf53) (maxL := 3) (ret := some .int) (by decide +kernel) rfl ?_
  intro p e s m args below meth c s₁ B hml hv0
  obtain ⟨rfl, hsz, hP, hK, hD0, hE⟩ := hv0
  subst hsz
  refine kBodyI (Nat.le_of_ble_eq_true rfl) B hml hP hK hD0 hE ?_
  clear B hml hP hK hD0 hE
  intro p e s m args below meth c Q A ls hx hb hml hts hown hv hl kret
  replace hown : s.vm.findClass RJ9 = some m.cls := hown
  replace hl : lv_has ls 3 [(0, .int p0), (1, .int p1)] := hl
  unfold f_J9_floorMod_7cf53 at hf
  refine lv_iload_n hx hb dJ9_floorMod_7cf53_0 rfl (lv_at hl 0 rfl) ?_
  refine lv_iload_n hx hb dJ9_floorMod_7cf53_1 rfl (lv_at hl 1 rfl) ?_
  obtain ⟨hd1, hf⟩ := xd_some hf
  refine lv_irem hx hb dJ9_floorMod_7cf53_2 hd1 ?_
  refine lv_istore_n (lv' := [(2, .int (p0 - p0 / p1 * p1)), (0, .int p0), (1, .int p1)]) hx hb dJ9_floorMod_7cf53_3 rfl hl (by decide) rfl (fun ls hl => ?_)
  refine lv_iload_n hx hb dJ9_floorMod_7cf53_4 rfl (lv_at hl 1 rfl) ?_
  refine lv_iload_n hx hb dJ9_floorMod_7cf53_5 rfl (lv_at hl 2 rfl) ?_
  refine lv_ixor hx hb dJ9_floorMod_7cf53_6 ?_
  refine lv_if_ge (tgt := 18) hx hb dJ9_floorMod_7cf53_7 (by decide) (fun hc2 => ?_) (fun hc2 => ?_)
  · replace hf := ite_t hf hc2
    refine lv_iload_n hx hb dJ9_floorMod_7cf53_18 rfl (lv_at hl 0 rfl) ?_
    cases hf
    exact kret _ _ _ _ hv dJ9_floorMod_7cf53_19
  · replace hf := ite_f hf hc2
    refine lv_iload_n hx hb dJ9_floorMod_7cf53_10 rfl (lv_at hl 0 rfl) ?_
    refine lv_if_eq (tgt := 18) hx hb dJ9_floorMod_7cf53_11 (by decide) (fun hc3 => ?_) (fun hc3 => ?_)
    · replace hf := ite_t hf hc3
      refine lv_iload_n hx hb dJ9_floorMod_7cf53_18 rfl (lv_at hl 0 rfl) ?_
      cases hf
      exact kret _ _ _ _ hv dJ9_floorMod_7cf53_19
    · replace hf := ite_f hf hc3
      refine lv_iload_n hx hb dJ9_floorMod_7cf53_14 rfl (lv_at hl 0 rfl) ?_
      refine lv_iload_n hx hb dJ9_floorMod_7cf53_15 rfl (lv_at hl 2 rfl) ?_
      refine lv_iadd hx hb dJ9_floorMod_7cf53_16 ?_
      cases hf
      exact kret _ _ _ _ hv dJ9_floorMod_7cf53_17

def f_X0_clearRooms_L2 (k : Nat) (κ : Int32 → (Nat → Int32) → Option ((Nat → Int32))) : Nat → Int32 → (Nat → Int32) → Option ((Nat → Int32))
  | 0, _, _ => none
  | n + 1, v1, A_freeFrom => if (40 : Int32) ≤ v1 then κ v1 A_freeFrom else xi v1 40 (f_X0_clearRooms_L2 k κ n (v1 + 1) (upd A_freeFrom v1.toNatClampNeg 0))
theorem f_X0_clearRooms_L2_z (k : Nat) (κ : Int32 → (Nat → Int32) → Option ((Nat → Int32))) (v1 : Int32) (A_freeFrom : Nat → Int32) : f_X0_clearRooms_L2 k κ 0 v1 A_freeFrom = none := rfl
theorem f_X0_clearRooms_L2_s (k : Nat) (κ : Int32 → (Nat → Int32) → Option ((Nat → Int32))) (n : Nat) (v1 : Int32) (A_freeFrom : Nat → Int32) : f_X0_clearRooms_L2 k κ (n + 1) v1 A_freeFrom = if (40 : Int32) ≤ v1 then κ v1 A_freeFrom else xi v1 40 (f_X0_clearRooms_L2 k κ n (v1 + 1) (upd A_freeFrom v1.toNatClampNeg 0)) := rfl
def f_X0_clearRooms (k : Nat) (A_freeFrom : Nat → Int32) : Option ((Nat → Int32)) := f_X0_clearRooms_L2 k (fun (v1_3 : Int32) (A_freeFrom_4 : Nat → Int32) => some A_freeFrom_4) k 0 A_freeFrom
abbrev rm_X0_clearRooms : Room := { frames := 0, cells := 0, slots := 0, locals := 0 }
set_option maxHeartbeats 4000000 in
set_option maxRecDepth 100000 in
theorem c_X0_clearRooms (l : Launch) (G : va_G) (cy : ClassId × ClassId × ClassId) (k : Nat) (aT aT_row aT_freeFrom : Nat) (A_freeFrom : Nat → Int32) {wA_freeFrom : Nat → Int32} (hf : f_X0_clearRooms k A_freeFrom = some wA_freeFrom) : Cv l yX0_clearRooms wsX0_clearRooms rm_X0_clearRooms 0 0 G cy [.ref aT] [(aT, .inr (0, [.ref aT_row, .ref aT_freeFrom])), (aT_freeFrom, .inl (cy.1, 40, .inl A_freeFrom))] [(aT, .inr (0, [.ref aT_row, .ref aT_freeFrom])), (aT_freeFrom, .inl (cy.1, 40, .inl wA_freeFrom))] := by
  refine kMetV (cc := cX0_clearRooms) (maxL := 2) (by decide) rfl (Nat.le_of_ble_eq_true rfl) ?_
  intro p e s m args below meth c Q A ls hx hb hml hts hown hv hl kret
  replace hown : s.vm.findClass RX0 = some m.cls := hown
  replace hl : lv_has ls 2 [(0, .ref aT)] := hl
  have hk20 : (Cond.fieldLink RX0 20 "Roomcolour$GivenRooms" "freeFrom" "[I").before args s = true := hts _ (by decide +kernel)
  have hinX0 : ∀ w ∈ wsX00, w ∈ wsX0_clearRooms := by decide +kernel
  have L2 : ∀ (κ : Int32 → (Nat → Int32) → Option ((Nat → Int32))) (n : Nat) (v1 : Int32) (A_freeFrom : Nat → Int32), f_X0_clearRooms_L2 k κ n v1 A_freeFrom = some wA_freeFrom → ∀ (H : Heap) (locs : List Loc) (ls : Array Slot), Hv s H locs G cy A [(aT, .inr (0, [.ref aT_row, .ref aT_freeFrom])), (aT_freeFrom, .inl (cy.1, 40, .inl A_freeFrom))] → lv_has ls 2 [(0, .ref aT), (1, .int v1)] → (∀ (v1 : Int32) (A_freeFrom : Nat → Int32), κ v1 A_freeFrom = some wA_freeFrom → ∀ (H : Heap) (locs : List Loc) (ls : Array Slot), Hv s H locs G cy A [(aT, .inr (0, [.ref aT_row, .ref aT_freeFrom])), (aT_freeFrom, .inl (cy.1, 40, .inl A_freeFrom))] → lv_has ls 2 [] → W p l e rm_X0_clearRooms s m args below meth c H locs 0 0 Q (F0 m 21 ls [])) → W p l e rm_X0_clearRooms s m args below meth c H locs 0 0 Q (F0 m 2 ls []) := by
    intro κ n
    induction n with
    | zero =>
      intro v1 A_freeFrom hf
      rw [f_X0_clearRooms_L2_z] at hf
      cases hf
    | succ n ih =>
      intro v1 A_freeFrom hf H locs ls hv hl hκ
      rw [f_X0_clearRooms_L2_s] at hf
      refine lv_iload_n hx hb dX0_clearRooms_2 rfl (lv_at hl 1 rfl) ?_
      refine lv_bipush (v := 40) hx hb dX0_clearRooms_3 (by decide) ?_
      refine lv_icmp_ge (tgt := 21) hx hb dX0_clearRooms_5 (by decide) (fun hc1 => ?_) (fun hc1 => ?_)
      · replace hf := ite_t hf hc1
        exact hκ v1 A_freeFrom hf _ _ _ hv (lv_sub hl [] rfl)
      · replace hf := ite_f hf hc1
        refine lv_aload_n hx hb dX0_clearRooms_8 rfl (lv_at hl 0 rfl) ?_
        refine kGet (v := .ref aT_freeFrom) (C := RX0) (T := TX0) (N := 2) hx hb hts hinX0 hown hv 0 rfl rfl 1 (by decide) hk20 (fun _ h9 => h9) rfl dX0_clearRooms_9 ?_
        refine lv_iload_n hx hb dX0_clearRooms_12 rfl (lv_at hl 1 rfl) ?_
        refine lv_iconst (v := 0) hx hb dX0_clearRooms_13 (by decide) ?_
        obtain ⟨hi2, hf⟩ := xi_some hf
        refine kIast hx hb hv 1 rfl hi2 dX0_clearRooms_14 (fun H locs hv => ?_)
        replace hv : Hv s H locs G cy A [(aT, .inr (0, [.ref aT_row, .ref aT_freeFrom])), (aT_freeFrom, .inl (cy.1, 40, .inl (upd A_freeFrom v1.toNatClampNeg 0)))] := hv
        refine lv_iinc (v := v1 + 1) (lv' := [(1, .int (v1 + 1)), (0, .ref aT)]) hx hb dX0_clearRooms_15 hl (k := 1) rfl rfl (by decide) rfl (fun ls hl => ?_)
        refine lv_goto (tgt := 2) hx hb dX0_clearRooms_18 (by decide) ?_
        exact ih (v1 + 1) (upd A_freeFrom v1.toNatClampNeg 0) hf _ _ _ hv (lv_sub hl [1, 0] rfl) hκ
  unfold f_X0_clearRooms at hf
  refine lv_iconst (v := 0) hx hb dX0_clearRooms_0 (by decide) ?_
  refine lv_istore_n (lv' := [(1, .int 0), (0, .ref aT)]) hx hb dX0_clearRooms_1 rfl hl (by decide) rfl (fun ls hl => ?_)
  refine L2 _ _ _ _ hf _ _ _ hv (lv_sub hl [1, 0] rfl) (fun v1_3 A_freeFrom_4 hf H locs ls hv hl => ?_)
  try dsimp only at hf
  cases hf
  exact kret _ _ _ _ hv dX0_clearRooms_21

def f_X0_lowestFreeRoom_L2 (k : Nat) (v1 : Int32) (A_freeFrom : Nat → Int32) (κ : Int32 → Option (Int32)) : Nat → Int32 → Option (Int32)
  | 0, _ => none
  | n + 1, v2 => if (39 : Int32) ≤ v2 then κ v2 else xi v2 40 (if (A_freeFrom v2.toNatClampNeg) ≤ v1 then κ v2 else f_X0_lowestFreeRoom_L2 k v1 A_freeFrom κ n (v2 + 1))
theorem f_X0_lowestFreeRoom_L2_z (k : Nat) (v1 : Int32) (A_freeFrom : Nat → Int32) (κ : Int32 → Option (Int32)) (v2 : Int32) : f_X0_lowestFreeRoom_L2 k v1 A_freeFrom κ 0 v2 = none := rfl
theorem f_X0_lowestFreeRoom_L2_s (k : Nat) (v1 : Int32) (A_freeFrom : Nat → Int32) (κ : Int32 → Option (Int32)) (n : Nat) (v2 : Int32) : f_X0_lowestFreeRoom_L2 k v1 A_freeFrom κ (n + 1) v2 = if (39 : Int32) ≤ v2 then κ v2 else xi v2 40 (if (A_freeFrom v2.toNatClampNeg) ≤ v1 then κ v2 else f_X0_lowestFreeRoom_L2 k v1 A_freeFrom κ n (v2 + 1)) := rfl
def f_X0_lowestFreeRoom (k : Nat) (p1 : Int32) (A_freeFrom : Nat → Int32) : Option (Int32) := f_X0_lowestFreeRoom_L2 k p1 A_freeFrom (fun (v2_4 : Int32) => some v2_4) k 0
abbrev rm_X0_lowestFreeRoom : Room := { frames := 0, cells := 0, slots := 0, locals := 0 }
set_option maxHeartbeats 4000000 in
set_option maxRecDepth 100000 in
theorem c_X0_lowestFreeRoom (l : Launch) (G : va_G) (cy : ClassId × ClassId × ClassId) (k : Nat) (aT aT_row aT_freeFrom : Nat) (A_freeFrom : Nat → Int32) (p1 : Int32) {r : Int32} (hf : f_X0_lowestFreeRoom k p1 A_freeFrom = some r) : Ci l yX0_lowestFreeRoom wsX0_lowestFreeRoom rm_X0_lowestFreeRoom 0 0 G cy [.ref aT, .int p1] [(aT, .inr (0, [.ref aT_row, .ref aT_freeFrom])), (aT_freeFrom, .inl (cy.1, 40, .inl A_freeFrom))] [(aT, .inr (0, [.ref aT_row, .ref aT_freeFrom])), (aT_freeFrom, .inl (cy.1, 40, .inl A_freeFrom))] r := by
  refine kMetI (cc := cX0_lowestFreeRoom) (maxL := 3) (by decide) rfl (Nat.le_of_ble_eq_true rfl) ?_
  intro p e s m args below meth c Q A ls hx hb hml hts hown hv hl kret
  replace hown : s.vm.findClass RX0 = some m.cls := hown
  replace hl : lv_has ls 3 [(0, .ref aT), (1, .int p1)] := hl
  have hk20 : (Cond.fieldLink RX0 20 "Roomcolour$GivenRooms" "freeFrom" "[I").before args s = true := hts _ (by decide +kernel)
  have hinX0 : ∀ w ∈ wsX00, w ∈ wsX0_lowestFreeRoom := by decide +kernel
  have L2 : ∀ (v1 : Int32) (κ : Int32 → Option (Int32)) (n : Nat) (v2 : Int32), f_X0_lowestFreeRoom_L2 k v1 A_freeFrom κ n v2 = some r → ∀ (H : Heap) (locs : List Loc) (ls : Array Slot), Hv s H locs G cy A [(aT, .inr (0, [.ref aT_row, .ref aT_freeFrom])), (aT_freeFrom, .inl (cy.1, 40, .inl A_freeFrom))] → lv_has ls 3 [(0, .ref aT), (1, .int v1), (2, .int v2)] → (∀ (v2 : Int32), κ v2 = some r → ∀ (H : Heap) (locs : List Loc) (ls : Array Slot), Hv s H locs G cy A [(aT, .inr (0, [.ref aT_row, .ref aT_freeFrom])), (aT_freeFrom, .inl (cy.1, 40, .inl A_freeFrom))] → lv_has ls 3 [(2, .int v2)] → W p l e rm_X0_lowestFreeRoom s m args below meth c H locs 0 0 Q (F0 m 24 ls [])) → W p l e rm_X0_lowestFreeRoom s m args below meth c H locs 0 0 Q (F0 m 2 ls []) := by
    intro v1 κ n
    induction n with
    | zero =>
      intro v2 hf
      rw [f_X0_lowestFreeRoom_L2_z] at hf
      cases hf
    | succ n ih =>
      intro v2 hf H locs ls hv hl hκ
      rw [f_X0_lowestFreeRoom_L2_s] at hf
      refine lv_iload_n hx hb dX0_lowestFreeRoom_2 rfl (lv_at hl 2 rfl) ?_
      refine lv_bipush (v := 39) hx hb dX0_lowestFreeRoom_3 (by decide) ?_
      refine lv_icmp_ge (tgt := 24) hx hb dX0_lowestFreeRoom_5 (by decide) (fun hc1 => ?_) (fun hc1 => ?_)
      · replace hf := ite_t hf hc1
        exact hκ v2 hf _ _ _ hv (lv_sub hl [2] rfl)
      · replace hf := ite_f hf hc1
        refine lv_aload_n hx hb dX0_lowestFreeRoom_8 rfl (lv_at hl 0 rfl) ?_
        refine kGet (v := .ref aT_freeFrom) (C := RX0) (T := TX0) (N := 2) hx hb hts hinX0 hown hv 0 rfl rfl 1 (by decide) hk20 (fun _ h9 => h9) rfl dX0_lowestFreeRoom_9 ?_
        refine lv_iload_n hx hb dX0_lowestFreeRoom_12 rfl (lv_at hl 2 rfl) ?_
        obtain ⟨hi2, hf⟩ := xi_some hf
        refine kIald hx hb hv 1 rfl hi2 dX0_lowestFreeRoom_13 ?_
        refine lv_iload_n hx hb dX0_lowestFreeRoom_14 rfl (lv_at hl 1 rfl) ?_
        refine lv_icmp_le (tgt := 24) hx hb dX0_lowestFreeRoom_15 (by decide) (fun hc3 => ?_) (fun hc3 => ?_)
        · replace hf := ite_t hf hc3
          exact hκ v2 hf _ _ _ hv (lv_sub hl [2] rfl)
        · replace hf := ite_f hf hc3
          refine lv_iinc (v := v2 + 1) (lv' := [(2, .int (v2 + 1)), (0, .ref aT), (1, .int v1)]) hx hb dX0_lowestFreeRoom_18 hl (k := 2) rfl rfl (by decide) rfl (fun ls hl => ?_)
          refine lv_goto (tgt := 2) hx hb dX0_lowestFreeRoom_21 (by decide) ?_
          exact ih (v2 + 1) hf _ _ _ hv (lv_sub hl [1, 2, 0] rfl) hκ
  unfold f_X0_lowestFreeRoom at hf
  refine lv_iconst (v := 0) hx hb dX0_lowestFreeRoom_0 (by decide) ?_
  refine lv_istore_n (lv' := [(2, .int 0), (0, .ref aT), (1, .int p1)]) hx hb dX0_lowestFreeRoom_1 rfl hl (by decide) rfl (fun ls hl => ?_)
  refine L2 _ _ _ _ hf _ _ _ hv (lv_sub hl [1, 2, 0] rfl) (fun v2_4 hf H locs ls hv hl => ?_)
  try dsimp only at hf
  refine lv_iload_n hx hb dX0_lowestFreeRoom_24 rfl (lv_at hl 0 rfl) ?_
  cases hf
  exact kret _ _ _ _ hv dX0_lowestFreeRoom_25

def f_X0_givenTo_L6 (k : Nat) (v1 : Int32) (f_row_count : Int32) (A_row_numbers : Nat → Int32) (A_row_begins : Nat → Int32) (A_row_ends : Nat → Int32) (κ : Int32 → (Nat → Int32) → Option (Int32 × (Nat → Int32))) : Nat → Int32 → (Nat → Int32) → Option (Int32 × (Nat → Int32))
  | 0, _, _ => none
  | n + 1, v2, A_freeFrom => if f_row_count ≤ v2 then κ v2 A_freeFrom else xi v2 40 (xb (f_X0_lowestFreeRoom k (A_row_begins v2.toNatClampNeg) A_freeFrom) (fun r5 => xi v2 40 (if (A_row_numbers v2.toNatClampNeg) = v1 then some (r5, A_freeFrom) else xi v2 40 (xi r5 40 (f_X0_givenTo_L6 k v1 f_row_count A_row_numbers A_row_begins A_row_ends κ n (v2 + 1) (upd A_freeFrom r5.toNatClampNeg (A_row_ends v2.toNatClampNeg)))))))
theorem f_X0_givenTo_L6_z (k : Nat) (v1 : Int32) (f_row_count : Int32) (A_row_numbers : Nat → Int32) (A_row_begins : Nat → Int32) (A_row_ends : Nat → Int32) (κ : Int32 → (Nat → Int32) → Option (Int32 × (Nat → Int32))) (v2 : Int32) (A_freeFrom : Nat → Int32) : f_X0_givenTo_L6 k v1 f_row_count A_row_numbers A_row_begins A_row_ends κ 0 v2 A_freeFrom = none := rfl
theorem f_X0_givenTo_L6_s (k : Nat) (v1 : Int32) (f_row_count : Int32) (A_row_numbers : Nat → Int32) (A_row_begins : Nat → Int32) (A_row_ends : Nat → Int32) (κ : Int32 → (Nat → Int32) → Option (Int32 × (Nat → Int32))) (n : Nat) (v2 : Int32) (A_freeFrom : Nat → Int32) : f_X0_givenTo_L6 k v1 f_row_count A_row_numbers A_row_begins A_row_ends κ (n + 1) v2 A_freeFrom = if f_row_count ≤ v2 then κ v2 A_freeFrom else xi v2 40 (xb (f_X0_lowestFreeRoom k (A_row_begins v2.toNatClampNeg) A_freeFrom) (fun r5 => xi v2 40 (if (A_row_numbers v2.toNatClampNeg) = v1 then some (r5, A_freeFrom) else xi v2 40 (xi r5 40 (f_X0_givenTo_L6 k v1 f_row_count A_row_numbers A_row_begins A_row_ends κ n (v2 + 1) (upd A_freeFrom r5.toNatClampNeg (A_row_ends v2.toNatClampNeg))))))) := rfl
def f_X0_givenTo (k : Nat) (p1 : Int32) (f_row_count : Int32) (A_row_numbers : Nat → Int32) (A_row_begins : Nat → Int32) (A_row_ends : Nat → Int32) (A_freeFrom : Nat → Int32) : Option (Int32 × (Nat → Int32)) := xb (f_X0_clearRooms k A_freeFrom) (fun A_freeFrom_1 => f_X0_givenTo_L6 k p1 f_row_count A_row_numbers A_row_begins A_row_ends (fun (v2_11 : Int32) (A_freeFrom_12 : Nat → Int32) => some ((-1), A_freeFrom_12)) k 0 A_freeFrom_1)
abbrev rm_X0_givenTo : Room := { frames := 1, cells := 0, slots := 0, locals := 22 }
set_option maxHeartbeats 4000000 in
set_option maxRecDepth 100000 in
theorem c_X0_givenTo (l : Launch) (G : va_G) (cy : ClassId × ClassId × ClassId) (k : Nat) (aT aT_row aT_freeFrom aT_row_numbers aT_row_begins aT_row_ends aT_row_weights : Nat) (f_row_byEnd : Int32) (f_row_count : Int32) (A_row_numbers : Nat → Int32) (A_row_begins : Nat → Int32) (A_row_ends : Nat → Int32) (A_freeFrom : Nat → Int32) (p1 : Int32) {r : Int32} {wA_freeFrom : Nat → Int32} (hf : f_X0_givenTo k p1 f_row_count A_row_numbers A_row_begins A_row_ends A_freeFrom = some (r, wA_freeFrom)) : Ci l yX0_givenTo wsX0_givenTo rm_X0_givenTo 0 0 G cy [.ref aT, .int p1] [(aT, .inr (0, [.ref aT_row, .ref aT_freeFrom])), (aT_row, .inr (3, [.int f_row_byEnd, .ref aT_row_numbers, .ref aT_row_begins, .ref aT_row_ends, .ref aT_row_weights, .int f_row_count])), (aT_row_numbers, .inl (cy.1, 40, .inl A_row_numbers)), (aT_row_begins, .inl (cy.1, 40, .inl A_row_begins)), (aT_row_ends, .inl (cy.1, 40, .inl A_row_ends)), (aT_freeFrom, .inl (cy.1, 40, .inl A_freeFrom))] [(aT, .inr (0, [.ref aT_row, .ref aT_freeFrom])), (aT_row, .inr (3, [.int f_row_byEnd, .ref aT_row_numbers, .ref aT_row_begins, .ref aT_row_ends, .ref aT_row_weights, .int f_row_count])), (aT_row_numbers, .inl (cy.1, 40, .inl A_row_numbers)), (aT_row_begins, .inl (cy.1, 40, .inl A_row_begins)), (aT_row_ends, .inl (cy.1, 40, .inl A_row_ends)), (aT_freeFrom, .inl (cy.1, 40, .inl wA_freeFrom))] r := by
  refine kMetI (cc := cX0_givenTo) (maxL := 4) (by decide) rfl (Nat.le_of_ble_eq_true rfl) ?_
  intro p e s m args below meth c Q A ls hx hb hml hts hown hv hl kret
  replace hown : s.vm.findClass RX0 = some m.cls := hown
  replace hl : lv_has ls 4 [(0, .ref aT), (1, .int p1)] := hl
  have hk14 : (Cond.fieldLink RX0 14 "Roomcolour$GivenRooms" "row" "LRoomcolour$Row;").before args s = true := hts _ (by decide +kernel)
  have hinX0 : ∀ w ∈ wsX00, w ∈ wsX0_givenTo := by decide +kernel
  have hn27 : (Cond.fieldLinkNest RX0 27 "Roomcolour$Row" "count" "I" RX4).before args s = true := va_Nw.use rfl (hv.2.2.2.2.2.1 _ (by decide +kernel))
  have hinX3 : ∀ w ∈ wsX30, w ∈ wsX0_givenTo := by decide +kernel
  have hn31 : (Cond.fieldLinkNest RX0 31 "Roomcolour$Row" "begins" "[I" RX4).before args s = true := va_Nw.use rfl (hv.2.2.2.2.2.1 _ (by decide +kernel))
  have hn38 : (Cond.fieldLinkNest RX0 38 "Roomcolour$Row" "numbers" "[I" RX4).before args s = true := va_Nw.use rfl (hv.2.2.2.2.2.1 _ (by decide +kernel))
  have hk20 : (Cond.fieldLink RX0 20 "Roomcolour$GivenRooms" "freeFrom" "[I").before args s = true := hts _ (by decide +kernel)
  have hn41 : (Cond.fieldLinkNest RX0 41 "Roomcolour$Row" "ends" "[I" RX4).before args s = true := va_Nw.use rfl (hv.2.2.2.2.2.1 _ (by decide +kernel))
  have L6 : ∀ (v1 : Int32) (κ : Int32 → (Nat → Int32) → Option (Int32 × (Nat → Int32))) (n : Nat) (v2 : Int32) (A_freeFrom : Nat → Int32), f_X0_givenTo_L6 k v1 f_row_count A_row_numbers A_row_begins A_row_ends κ n v2 A_freeFrom = some (r, wA_freeFrom) → ∀ (H : Heap) (locs : List Loc) (ls : Array Slot), Hv s H locs G cy A [(aT, .inr (0, [.ref aT_row, .ref aT_freeFrom])), (aT_row, .inr (3, [.int f_row_byEnd, .ref aT_row_numbers, .ref aT_row_begins, .ref aT_row_ends, .ref aT_row_weights, .int f_row_count])), (aT_row_numbers, .inl (cy.1, 40, .inl A_row_numbers)), (aT_row_begins, .inl (cy.1, 40, .inl A_row_begins)), (aT_row_ends, .inl (cy.1, 40, .inl A_row_ends)), (aT_freeFrom, .inl (cy.1, 40, .inl A_freeFrom))] → lv_has ls 4 [(0, .ref aT), (1, .int v1), (2, .int v2)] → (∀ (v2 : Int32) (A_freeFrom : Nat → Int32), κ v2 A_freeFrom = some (r, wA_freeFrom) → ∀ (H : Heap) (locs : List Loc) (ls : Array Slot), Hv s H locs G cy A [(aT, .inr (0, [.ref aT_row, .ref aT_freeFrom])), (aT_row, .inr (3, [.int f_row_byEnd, .ref aT_row_numbers, .ref aT_row_begins, .ref aT_row_ends, .ref aT_row_weights, .int f_row_count])), (aT_row_numbers, .inl (cy.1, 40, .inl A_row_numbers)), (aT_row_begins, .inl (cy.1, 40, .inl A_row_begins)), (aT_row_ends, .inl (cy.1, 40, .inl A_row_ends)), (aT_freeFrom, .inl (cy.1, 40, .inl A_freeFrom))] → lv_has ls 4 [] → W p l e rm_X0_givenTo s m args below meth c H locs 0 0 Q (F0 m 67 ls [])) → W p l e rm_X0_givenTo s m args below meth c H locs 0 0 Q (F0 m 6 ls []) := by
    intro v1 κ n
    induction n with
    | zero =>
      intro v2 A_freeFrom hf
      rw [f_X0_givenTo_L6_z] at hf
      cases hf
    | succ n ih =>
      intro v2 A_freeFrom hf H locs ls hv hl hκ
      rw [f_X0_givenTo_L6_s] at hf
      refine lv_iload_n hx hb dX0_givenTo_6 rfl (lv_at hl 2 rfl) ?_
      refine lv_aload_n hx hb dX0_givenTo_7 rfl (lv_at hl 0 rfl) ?_
      refine kGet (v := .ref aT_row) (C := RX0) (T := TX0) (N := 2) hx hb hts hinX0 hown hv 0 rfl rfl 0 (by decide) hk14 (fun _ h9 => h9) rfl dX0_givenTo_8 ?_
      refine kGetN (v := .int f_row_count) (C := RX3) (T := TX3) (N := 6) hx hb hts hinX3 hown hv 1 rfl rfl 5 (by decide) hn27 (fun _ h9 => h9) rfl dX0_givenTo_11 ?_
      refine lv_icmp_ge (tgt := 67) hx hb dX0_givenTo_14 (by decide) (fun hc3 => ?_) (fun hc3 => ?_)
      · replace hf := ite_t hf hc3
        exact hκ v2 A_freeFrom hf _ _ _ hv (lv_sub hl [] rfl)
      · replace hf := ite_f hf hc3
        refine lv_aload_n hx hb dX0_givenTo_17 rfl (lv_at hl 0 rfl) ?_
        refine lv_aload_n hx hb dX0_givenTo_18 rfl (lv_at hl 0 rfl) ?_
        refine kGet (v := .ref aT_row) (C := RX0) (T := TX0) (N := 2) hx hb hts hinX0 hown hv 0 rfl rfl 0 (by decide) hk14 (fun _ h9 => h9) rfl dX0_givenTo_19 ?_
        refine kGetN (v := .ref aT_row_begins) (C := RX3) (T := TX3) (N := 6) hx hb hts hinX3 hown hv 1 rfl rfl 2 (by decide) hn31 (fun _ h9 => h9) rfl dX0_givenTo_22 ?_
        refine lv_iload_n hx hb dX0_givenTo_25 rfl (lv_at hl 2 rfl) ?_
        obtain ⟨hi4, hf⟩ := xi_some hf
        refine kIald hx hb hv 3 rfl hi4 dX0_givenTo_26 ?_
        obtain ⟨r5, hcl6, hf⟩ := xb_some hf
        refine kV_i (r := r5) (wr := [(aT_row, .inr (3, [.int f_row_byEnd, .ref aT_row_numbers, .ref aT_row_begins, .ref aT_row_ends, .ref aT_row_weights, .int f_row_count])), (aT_row_numbers, .inl (cy.1, 40, .inl A_row_numbers)), (aT_row_begins, .inl (cy.1, 40, .inl A_row_begins)), (aT_row_ends, .inl (cy.1, 40, .inl A_row_ends))]) (w2 := [(aT, .inr (0, [.ref aT_row, .ref aT_freeFrom])), (aT_row, .inr (3, [.int f_row_byEnd, .ref aT_row_numbers, .ref aT_row_begins, .ref aT_row_ends, .ref aT_row_weights, .int f_row_count])), (aT_row_numbers, .inl (cy.1, 40, .inl A_row_numbers)), (aT_row_begins, .inl (cy.1, 40, .inl A_row_begins)), (aT_row_ends, .inl (cy.1, 40, .inl A_row_ends)), (aT_freeFrom, .inl (cy.1, 40, .inl A_freeFrom))]) ⟨hx, hb, hml, hown, hts⟩ (c_X0_lowestFreeRoom l G cy k aT aT_row aT_freeFrom A_freeFrom (A_row_begins v2.toNatClampNeg) hcl6) (cwV 1 hts gX0_givenTo_X0_lowestFreeRoom rfl rfl rfl (by decide +kernel) ⟨Nat.le_of_ble_eq_true rfl, Nat.le_of_ble_eq_true rfl⟩) hv (isC := [0, 5]) ⟨rfl, rfl⟩ (hv.recv 0 0 rfl rfl) [1, 2, 3, 4] [4, 0, 1, 2, 3, 5] rfl rfl (by decide) rfl rfl rfl hl.1 rfl (Nat.le_of_ble_eq_true rfl) dX0_givenTo_27 ⟨Nat.le_of_ble_eq_true rfl, Nat.le_of_ble_eq_true rfl⟩ (fun H locs hv => ?_)
        refine lv_istore_n (lv' := [(3, .int r5), (0, .ref aT), (1, .int v1), (2, .int v2)]) hx hb dX0_givenTo_30 rfl hl (by decide) rfl (fun ls hl => ?_)
        refine lv_aload_n hx hb dX0_givenTo_31 rfl (lv_at hl 1 rfl) ?_
        refine kGet (v := .ref aT_row) (C := RX0) (T := TX0) (N := 2) hx hb hts hinX0 hown hv 0 rfl rfl 0 (by decide) hk14 (fun _ h9 => h9) rfl dX0_givenTo_32 ?_
        refine kGetN (v := .ref aT_row_numbers) (C := RX3) (T := TX3) (N := 6) hx hb hts hinX3 hown hv 1 rfl rfl 1 (by decide) hn38 (fun _ h9 => h9) rfl dX0_givenTo_35 ?_
        refine lv_iload_n hx hb dX0_givenTo_38 rfl (lv_at hl 3 rfl) ?_
        obtain ⟨hi7, hf⟩ := xi_some hf
        refine kIald hx hb hv 2 rfl hi7 dX0_givenTo_39 ?_
        refine lv_iload_n hx hb dX0_givenTo_40 rfl (lv_at hl 2 rfl) ?_
        refine lv_icmp_ne (tgt := 46) hx hb dX0_givenTo_41 (by decide) (fun hc8 => ?_) (fun hc8 => ?_)
        · replace hf := ite_f hf hc8
          refine lv_aload_n hx hb dX0_givenTo_46 rfl (lv_at hl 1 rfl) ?_
          refine kGet (v := .ref aT_freeFrom) (C := RX0) (T := TX0) (N := 2) hx hb hts hinX0 hown hv 0 rfl rfl 1 (by decide) hk20 (fun _ h9 => h9) rfl dX0_givenTo_47 ?_
          refine lv_iload_n hx hb dX0_givenTo_50 rfl (lv_at hl 0 rfl) ?_
          refine lv_aload_n hx hb dX0_givenTo_51 rfl (lv_at hl 1 rfl) ?_
          refine kGet (v := .ref aT_row) (C := RX0) (T := TX0) (N := 2) hx hb hts hinX0 hown hv 0 rfl rfl 0 (by decide) hk14 (fun _ h9 => h9) rfl dX0_givenTo_52 ?_
          refine kGetN (v := .ref aT_row_ends) (C := RX3) (T := TX3) (N := 6) hx hb hts hinX3 hown hv 1 rfl rfl 3 (by decide) hn41 (fun _ h9 => h9) rfl dX0_givenTo_55 ?_
          refine lv_iload_n hx hb dX0_givenTo_58 rfl (lv_at hl 3 rfl) ?_
          obtain ⟨hi9, hf⟩ := xi_some hf
          refine kIald hx hb hv 4 rfl hi9 dX0_givenTo_59 ?_
          obtain ⟨hi10, hf⟩ := xi_some hf
          refine kIast hx hb hv 5 rfl hi10 dX0_givenTo_60 (fun H locs hv => ?_)
          replace hv : Hv s H locs G cy A [(aT, .inr (0, [.ref aT_row, .ref aT_freeFrom])), (aT_row, .inr (3, [.int f_row_byEnd, .ref aT_row_numbers, .ref aT_row_begins, .ref aT_row_ends, .ref aT_row_weights, .int f_row_count])), (aT_row_numbers, .inl (cy.1, 40, .inl A_row_numbers)), (aT_row_begins, .inl (cy.1, 40, .inl A_row_begins)), (aT_row_ends, .inl (cy.1, 40, .inl A_row_ends)), (aT_freeFrom, .inl (cy.1, 40, .inl (upd A_freeFrom r5.toNatClampNeg (A_row_ends v2.toNatClampNeg))))] := hv
          refine lv_iinc (v := v2 + 1) (lv' := [(2, .int (v2 + 1)), (3, .int r5), (0, .ref aT), (1, .int v1)]) hx hb dX0_givenTo_61 hl (k := 3) rfl rfl (by decide) rfl (fun ls hl => ?_)
          refine lv_goto (tgt := 6) hx hb dX0_givenTo_64 (by decide) ?_
          exact ih (v2 + 1) (upd A_freeFrom r5.toNatClampNeg (A_row_ends v2.toNatClampNeg)) hf _ _ _ hv (lv_sub hl [2, 3, 0] rfl) hκ
        · replace hf := ite_t hf hc8
          refine lv_iload_n hx hb dX0_givenTo_44 rfl (lv_at hl 0 rfl) ?_
          cases hf
          exact kret _ _ _ _ hv dX0_givenTo_45
  unfold f_X0_givenTo at hf
  refine lv_aload_n hx hb dX0_givenTo_0 rfl (lv_at hl 0 rfl) ?_
  obtain ⟨A_freeFrom_1, hcl2, hf⟩ := xb_some hf
  refine kV_v (wr := [(aT_row, .inr (3, [.int f_row_byEnd, .ref aT_row_numbers, .ref aT_row_begins, .ref aT_row_ends, .ref aT_row_weights, .int f_row_count])), (aT_row_numbers, .inl (cy.1, 40, .inl A_row_numbers)), (aT_row_begins, .inl (cy.1, 40, .inl A_row_begins)), (aT_row_ends, .inl (cy.1, 40, .inl A_row_ends))]) (w2 := [(aT, .inr (0, [.ref aT_row, .ref aT_freeFrom])), (aT_row, .inr (3, [.int f_row_byEnd, .ref aT_row_numbers, .ref aT_row_begins, .ref aT_row_ends, .ref aT_row_weights, .int f_row_count])), (aT_row_numbers, .inl (cy.1, 40, .inl A_row_numbers)), (aT_row_begins, .inl (cy.1, 40, .inl A_row_begins)), (aT_row_ends, .inl (cy.1, 40, .inl A_row_ends)), (aT_freeFrom, .inl (cy.1, 40, .inl A_freeFrom_1))]) ⟨hx, hb, hml, hown, hts⟩ (c_X0_clearRooms l G cy k aT aT_row aT_freeFrom A_freeFrom hcl2) (cwV 0 hts gX0_givenTo_X0_clearRooms rfl rfl rfl (by decide +kernel) ⟨Nat.le_of_ble_eq_true rfl, Nat.le_of_ble_eq_true rfl⟩) hv (isC := [0, 5]) ⟨rfl, rfl⟩ (hv.recv 0 0 rfl rfl) [1, 2, 3, 4] [4, 0, 1, 2, 3, 5] rfl rfl (by decide) rfl rfl rfl hl.1 rfl (Nat.le_of_ble_eq_true rfl) dX0_givenTo_1 ⟨Nat.le_of_ble_eq_true rfl, Nat.le_of_ble_eq_true rfl⟩ (fun H locs hv => ?_)
  refine lv_iconst (v := 0) hx hb dX0_givenTo_4 (by decide) ?_
  refine lv_istore_n (lv' := [(2, .int 0), (0, .ref aT), (1, .int p1)]) hx hb dX0_givenTo_5 rfl hl (by decide) rfl (fun ls hl => ?_)
  refine L6 _ _ _ _ _ hf _ _ _ hv (lv_sub hl [1, 2, 0] rfl) (fun v2_11 A_freeFrom_12 hf H locs ls hv hl => ?_)
  try dsimp only at hf
  refine lv_iconst (v := (-1)) hx hb dX0_givenTo_67 (by decide) ?_
  cases hf
  exact kret _ _ _ _ hv dX0_givenTo_68

def f_X1_firstBegunFrom_L2 (k : Nat) (v1 : Int32) (f_row_count : Int32) (A_row_begins : Nat → Int32) (κ : Int32 → Option (Int32)) : Nat → Int32 → Option (Int32)
  | 0, _ => none
  | n + 1, v3 => if f_row_count ≤ v3 then κ v3 else xi v3 40 (if v1 ≤ (A_row_begins v3.toNatClampNeg) then κ v3 else f_X1_firstBegunFrom_L2 k v1 f_row_count A_row_begins κ n (v3 + 1))
theorem f_X1_firstBegunFrom_L2_z (k : Nat) (v1 : Int32) (f_row_count : Int32) (A_row_begins : Nat → Int32) (κ : Int32 → Option (Int32)) (v3 : Int32) : f_X1_firstBegunFrom_L2 k v1 f_row_count A_row_begins κ 0 v3 = none := rfl
theorem f_X1_firstBegunFrom_L2_s (k : Nat) (v1 : Int32) (f_row_count : Int32) (A_row_begins : Nat → Int32) (κ : Int32 → Option (Int32)) (n : Nat) (v3 : Int32) : f_X1_firstBegunFrom_L2 k v1 f_row_count A_row_begins κ (n + 1) v3 = if f_row_count ≤ v3 then κ v3 else xi v3 40 (if v1 ≤ (A_row_begins v3.toNatClampNeg) then κ v3 else f_X1_firstBegunFrom_L2 k v1 f_row_count A_row_begins κ n (v3 + 1)) := rfl
def f_X1_firstBegunFrom (k : Nat) (p1 : Int32) (p2 : Int32) (f_row_count : Int32) (A_row_begins : Nat → Int32) : Option (Int32) := f_X1_firstBegunFrom_L2 k p1 f_row_count A_row_begins (fun (v3_4 : Int32) => some v3_4) k p2
abbrev rm_X1_firstBegunFrom : Room := { frames := 0, cells := 0, slots := 0, locals := 0 }
set_option maxHeartbeats 4000000 in
set_option maxRecDepth 100000 in
theorem c_X1_firstBegunFrom (l : Launch) (G : va_G) (cy : ClassId × ClassId × ClassId) (k : Nat) (aT aT_row aT_stopAfter aT_taken aT_waiting aT_gain aT_cameFrom aT_cameByTaking aT_row_numbers aT_row_begins aT_row_ends aT_row_weights : Nat) (f_row_byEnd : Int32) (f_row_count : Int32) (A_row_begins : Nat → Int32) (p1 : Int32) (p2 : Int32) {r : Int32} (hf : f_X1_firstBegunFrom k p1 p2 f_row_count A_row_begins = some r) : Ci l yX1_firstBegunFrom wsX1_firstBegunFrom rm_X1_firstBegunFrom 0 0 G cy [.ref aT, .int p1, .int p2] [(aT, .inr (1, [.ref aT_row, .ref aT_stopAfter, .ref aT_taken, .ref aT_waiting, .ref aT_gain, .ref aT_cameFrom, .ref aT_cameByTaking])), (aT_row, .inr (3, [.int f_row_byEnd, .ref aT_row_numbers, .ref aT_row_begins, .ref aT_row_ends, .ref aT_row_weights, .int f_row_count])), (aT_row_begins, .inl (cy.1, 40, .inl A_row_begins))] [(aT, .inr (1, [.ref aT_row, .ref aT_stopAfter, .ref aT_taken, .ref aT_waiting, .ref aT_gain, .ref aT_cameFrom, .ref aT_cameByTaking])), (aT_row, .inr (3, [.int f_row_byEnd, .ref aT_row_numbers, .ref aT_row_begins, .ref aT_row_ends, .ref aT_row_weights, .int f_row_count])), (aT_row_begins, .inl (cy.1, 40, .inl A_row_begins))] r := by
  refine kMetI (cc := cX1_firstBegunFrom) (maxL := 4) (by decide) rfl (Nat.le_of_ble_eq_true rfl) ?_
  intro p e s m args below meth c Q A ls hx hb hml hts hown hv hl kret
  replace hown : s.vm.findClass RX1 = some m.cls := hown
  replace hl : lv_has ls 4 [(0, .ref aT), (1, .int p1), (2, .int p2)] := hl
  have hk14 : (Cond.fieldLink RX1 14 "Roomcolour$ManyRoomsPlan" "row" "LRoomcolour$Row;").before args s = true := hts _ (by decide +kernel)
  have hinX1 : ∀ w ∈ wsX10, w ∈ wsX1_firstBegunFrom := by decide +kernel
  have hn46 : (Cond.fieldLinkNest RX1 46 "Roomcolour$Row" "count" "I" RX4).before args s = true := va_Nw.use rfl (hv.2.2.2.2.2.1 _ (by decide +kernel))
  have hinX3 : ∀ w ∈ wsX30, w ∈ wsX1_firstBegunFrom := by decide +kernel
  have hn60 : (Cond.fieldLinkNest RX1 60 "Roomcolour$Row" "begins" "[I" RX4).before args s = true := va_Nw.use rfl (hv.2.2.2.2.2.1 _ (by decide +kernel))
  have L2 : ∀ (v1 : Int32) (κ : Int32 → Option (Int32)) (n : Nat) (v3 : Int32), f_X1_firstBegunFrom_L2 k v1 f_row_count A_row_begins κ n v3 = some r → ∀ (H : Heap) (locs : List Loc) (ls : Array Slot), Hv s H locs G cy A [(aT, .inr (1, [.ref aT_row, .ref aT_stopAfter, .ref aT_taken, .ref aT_waiting, .ref aT_gain, .ref aT_cameFrom, .ref aT_cameByTaking])), (aT_row, .inr (3, [.int f_row_byEnd, .ref aT_row_numbers, .ref aT_row_begins, .ref aT_row_ends, .ref aT_row_weights, .int f_row_count])), (aT_row_begins, .inl (cy.1, 40, .inl A_row_begins))] → lv_has ls 4 [(0, .ref aT), (1, .int v1), (3, .int v3)] → (∀ (v3 : Int32), κ v3 = some r → ∀ (H : Heap) (locs : List Loc) (ls : Array Slot), Hv s H locs G cy A [(aT, .inr (1, [.ref aT_row, .ref aT_stopAfter, .ref aT_taken, .ref aT_waiting, .ref aT_gain, .ref aT_cameFrom, .ref aT_cameByTaking])), (aT_row, .inr (3, [.int f_row_byEnd, .ref aT_row_numbers, .ref aT_row_begins, .ref aT_row_ends, .ref aT_row_weights, .int f_row_count])), (aT_row_begins, .inl (cy.1, 40, .inl A_row_begins))] → lv_has ls 4 [(3, .int v3)] → W p l e rm_X1_firstBegunFrom s m args below meth c H locs 0 0 Q (F0 m 32 ls [])) → W p l e rm_X1_firstBegunFrom s m args below meth c H locs 0 0 Q (F0 m 2 ls []) := by
    intro v1 κ n
    induction n with
    | zero =>
      intro v3 hf
      rw [f_X1_firstBegunFrom_L2_z] at hf
      cases hf
    | succ n ih =>
      intro v3 hf H locs ls hv hl hκ
      rw [f_X1_firstBegunFrom_L2_s] at hf
      refine lv_iload_n hx hb dX1_firstBegunFrom_2 rfl (lv_at hl 2 rfl) ?_
      refine lv_aload_n hx hb dX1_firstBegunFrom_3 rfl (lv_at hl 0 rfl) ?_
      refine kGet (v := .ref aT_row) (C := RX1) (T := TX1) (N := 7) hx hb hts hinX1 hown hv 0 rfl rfl 0 (by decide) hk14 (fun _ h9 => h9) rfl dX1_firstBegunFrom_4 ?_
      refine kGetN (v := .int f_row_count) (C := RX3) (T := TX3) (N := 6) hx hb hts hinX3 hown hv 1 rfl rfl 5 (by decide) hn46 (fun _ h9 => h9) rfl dX1_firstBegunFrom_7 ?_
      refine lv_icmp_ge (tgt := 32) hx hb dX1_firstBegunFrom_10 (by decide) (fun hc1 => ?_) (fun hc1 => ?_)
      · replace hf := ite_t hf hc1
        exact hκ v3 hf _ _ _ hv (lv_sub hl [2] rfl)
      · replace hf := ite_f hf hc1
        refine lv_aload_n hx hb dX1_firstBegunFrom_13 rfl (lv_at hl 0 rfl) ?_
        refine kGet (v := .ref aT_row) (C := RX1) (T := TX1) (N := 7) hx hb hts hinX1 hown hv 0 rfl rfl 0 (by decide) hk14 (fun _ h9 => h9) rfl dX1_firstBegunFrom_14 ?_
        refine kGetN (v := .ref aT_row_begins) (C := RX3) (T := TX3) (N := 6) hx hb hts hinX3 hown hv 1 rfl rfl 2 (by decide) hn60 (fun _ h9 => h9) rfl dX1_firstBegunFrom_17 ?_
        refine lv_iload_n hx hb dX1_firstBegunFrom_20 rfl (lv_at hl 2 rfl) ?_
        obtain ⟨hi2, hf⟩ := xi_some hf
        refine kIald hx hb hv 2 rfl hi2 dX1_firstBegunFrom_21 ?_
        refine lv_iload_n hx hb dX1_firstBegunFrom_22 rfl (lv_at hl 1 rfl) ?_
        refine lv_icmp_ge (tgt := 32) hx hb dX1_firstBegunFrom_23 (by decide) (fun hc3 => ?_) (fun hc3 => ?_)
        · replace hf := ite_t hf hc3
          exact hκ v3 hf _ _ _ hv (lv_sub hl [2] rfl)
        · replace hf := ite_f hf hc3
          refine lv_iinc (v := v3 + 1) (lv' := [(3, .int (v3 + 1)), (0, .ref aT), (1, .int v1)]) hx hb dX1_firstBegunFrom_26 hl (k := 2) rfl rfl (by decide) rfl (fun ls hl => ?_)
          refine lv_goto (tgt := 2) hx hb dX1_firstBegunFrom_29 (by decide) ?_
          exact ih (v3 + 1) hf _ _ _ hv (lv_sub hl [1, 2, 0] rfl) hκ
  unfold f_X1_firstBegunFrom at hf
  refine lv_iload_n hx hb dX1_firstBegunFrom_0 rfl (lv_at hl 2 rfl) ?_
  refine lv_istore_n (lv' := [(3, .int p2), (0, .ref aT), (1, .int p1), (2, .int p2)]) hx hb dX1_firstBegunFrom_1 rfl hl (by decide) rfl (fun ls hl => ?_)
  refine L2 _ _ _ _ hf _ _ _ hv (lv_sub hl [1, 2, 0] rfl) (fun v3_4 hf H locs ls hv hl => ?_)
  try dsimp only at hf
  refine lv_iload_n hx hb dX1_firstBegunFrom_32 rfl (lv_at hl 0 rfl) ?_
  cases hf
  exact kret _ _ _ _ hv dX1_firstBegunFrom_33

def f_X1_clearRooms_L2 (k : Nat) (f_row_count : Int32) (A_row_begins : Nat → Int32) (A_row_ends : Nat → Int32) (κ : Int32 → (Nat → Int32) → (Nat → Int32) → (Nat → Int32) → Option ((Nat → Int32) × (Nat → Int32) × (Nat → Int32))) : Nat → Int32 → (Nat → Int32) → (Nat → Int32) → (Nat → Int32) → Option ((Nat → Int32) × (Nat → Int32) × (Nat → Int32))
  | 0, _, _, _, _ => none
  | n + 1, v1, A_stopAfter, A_taken, A_waiting => if f_row_count ≤ v1 then κ v1 A_stopAfter A_taken A_waiting else xi v1 40 (xi v1 40 (xi v1 40 (xb (f_X1_firstBegunFrom k (A_row_ends v1.toNatClampNeg) (v1 + 1) f_row_count A_row_begins) (fun r5 => xi v1 40 (f_X1_clearRooms_L2 k f_row_count A_row_begins A_row_ends κ n (v1 + 1) (upd A_stopAfter v1.toNatClampNeg r5) (upd A_taken v1.toNatClampNeg (vp_nar .boolean 0)) (upd A_waiting v1.toNatClampNeg 0))))))
theorem f_X1_clearRooms_L2_z (k : Nat) (f_row_count : Int32) (A_row_begins : Nat → Int32) (A_row_ends : Nat → Int32) (κ : Int32 → (Nat → Int32) → (Nat → Int32) → (Nat → Int32) → Option ((Nat → Int32) × (Nat → Int32) × (Nat → Int32))) (v1 : Int32) (A_stopAfter : Nat → Int32) (A_taken : Nat → Int32) (A_waiting : Nat → Int32) : f_X1_clearRooms_L2 k f_row_count A_row_begins A_row_ends κ 0 v1 A_stopAfter A_taken A_waiting = none := rfl
theorem f_X1_clearRooms_L2_s (k : Nat) (f_row_count : Int32) (A_row_begins : Nat → Int32) (A_row_ends : Nat → Int32) (κ : Int32 → (Nat → Int32) → (Nat → Int32) → (Nat → Int32) → Option ((Nat → Int32) × (Nat → Int32) × (Nat → Int32))) (n : Nat) (v1 : Int32) (A_stopAfter : Nat → Int32) (A_taken : Nat → Int32) (A_waiting : Nat → Int32) : f_X1_clearRooms_L2 k f_row_count A_row_begins A_row_ends κ (n + 1) v1 A_stopAfter A_taken A_waiting = if f_row_count ≤ v1 then κ v1 A_stopAfter A_taken A_waiting else xi v1 40 (xi v1 40 (xi v1 40 (xb (f_X1_firstBegunFrom k (A_row_ends v1.toNatClampNeg) (v1 + 1) f_row_count A_row_begins) (fun r5 => xi v1 40 (f_X1_clearRooms_L2 k f_row_count A_row_begins A_row_ends κ n (v1 + 1) (upd A_stopAfter v1.toNatClampNeg r5) (upd A_taken v1.toNatClampNeg (vp_nar .boolean 0)) (upd A_waiting v1.toNatClampNeg 0)))))) := rfl
def f_X1_clearRooms (k : Nat) (f_row_count : Int32) (A_row_begins : Nat → Int32) (A_row_ends : Nat → Int32) (A_stopAfter : Nat → Int32) (A_taken : Nat → Int32) (A_waiting : Nat → Int32) : Option ((Nat → Int32) × (Nat → Int32) × (Nat → Int32)) := f_X1_clearRooms_L2 k f_row_count A_row_begins A_row_ends (fun (v1_8 : Int32) (A_stopAfter_9 : Nat → Int32) (A_taken_10 : Nat → Int32) (A_waiting_11 : Nat → Int32) => some (A_stopAfter_9, A_taken_10, A_waiting_11)) k 0 A_stopAfter A_taken A_waiting
abbrev rm_X1_clearRooms : Room := { frames := 1, cells := 0, slots := 0, locals := 23 }
set_option maxHeartbeats 4000000 in
set_option maxRecDepth 100000 in
theorem c_X1_clearRooms (l : Launch) (G : va_G) (cy : ClassId × ClassId × ClassId) (k : Nat) (aT aT_row aT_stopAfter aT_taken aT_waiting aT_gain aT_cameFrom aT_cameByTaking aT_row_numbers aT_row_begins aT_row_ends aT_row_weights : Nat) (f_row_byEnd : Int32) (f_row_count : Int32) (A_row_begins : Nat → Int32) (A_row_ends : Nat → Int32) (A_stopAfter : Nat → Int32) (A_taken : Nat → Int32) (A_waiting : Nat → Int32) {wA_stopAfter : Nat → Int32} {wA_taken : Nat → Int32} {wA_waiting : Nat → Int32} (hf : f_X1_clearRooms k f_row_count A_row_begins A_row_ends A_stopAfter A_taken A_waiting = some (wA_stopAfter, wA_taken, wA_waiting)) : Cv l yX1_clearRooms wsX1_clearRooms rm_X1_clearRooms 0 0 G cy [.ref aT] [(aT, .inr (1, [.ref aT_row, .ref aT_stopAfter, .ref aT_taken, .ref aT_waiting, .ref aT_gain, .ref aT_cameFrom, .ref aT_cameByTaking])), (aT_row, .inr (3, [.int f_row_byEnd, .ref aT_row_numbers, .ref aT_row_begins, .ref aT_row_ends, .ref aT_row_weights, .int f_row_count])), (aT_row_begins, .inl (cy.1, 40, .inl A_row_begins)), (aT_row_ends, .inl (cy.1, 40, .inl A_row_ends)), (aT_stopAfter, .inl (cy.1, 40, .inl A_stopAfter)), (aT_taken, .inl (cy.2.1, 40, .inl A_taken)), (aT_waiting, .inl (cy.1, 40, .inl A_waiting))] [(aT, .inr (1, [.ref aT_row, .ref aT_stopAfter, .ref aT_taken, .ref aT_waiting, .ref aT_gain, .ref aT_cameFrom, .ref aT_cameByTaking])), (aT_row, .inr (3, [.int f_row_byEnd, .ref aT_row_numbers, .ref aT_row_begins, .ref aT_row_ends, .ref aT_row_weights, .int f_row_count])), (aT_row_begins, .inl (cy.1, 40, .inl A_row_begins)), (aT_row_ends, .inl (cy.1, 40, .inl A_row_ends)), (aT_stopAfter, .inl (cy.1, 40, .inl wA_stopAfter)), (aT_taken, .inl (cy.2.1, 40, .inl wA_taken)), (aT_waiting, .inl (cy.1, 40, .inl wA_waiting))] := by
  refine kMetV (cc := cX1_clearRooms) (maxL := 2) (by decide) rfl (Nat.le_of_ble_eq_true rfl) ?_
  intro p e s m args below meth c Q A ls hx hb hml hts hown hv hl kret
  replace hown : s.vm.findClass RX1 = some m.cls := hown
  replace hl : lv_has ls 2 [(0, .ref aT)] := hl
  have hk14 : (Cond.fieldLink RX1 14 "Roomcolour$ManyRoomsPlan" "row" "LRoomcolour$Row;").before args s = true := hts _ (by decide +kernel)
  have hinX1 : ∀ w ∈ wsX10, w ∈ wsX1_clearRooms := by decide +kernel
  have hn46 : (Cond.fieldLinkNest RX1 46 "Roomcolour$Row" "count" "I" RX4).before args s = true := va_Nw.use rfl (hv.2.2.2.2.2.1 _ (by decide +kernel))
  have hinX3 : ∀ w ∈ wsX30, w ∈ wsX1_clearRooms := by decide +kernel
  have hk24 : (Cond.fieldLink RX1 24 "Roomcolour$ManyRoomsPlan" "taken" "[Z").before args s = true := hts _ (by decide +kernel)
  have hk28 : (Cond.fieldLink RX1 28 "Roomcolour$ManyRoomsPlan" "waiting" "[I").before args s = true := hts _ (by decide +kernel)
  have hk20 : (Cond.fieldLink RX1 20 "Roomcolour$ManyRoomsPlan" "stopAfter" "[I").before args s = true := hts _ (by decide +kernel)
  have hn53 : (Cond.fieldLinkNest RX1 53 "Roomcolour$Row" "ends" "[I" RX4).before args s = true := va_Nw.use rfl (hv.2.2.2.2.2.1 _ (by decide +kernel))
  have L2 : ∀ (κ : Int32 → (Nat → Int32) → (Nat → Int32) → (Nat → Int32) → Option ((Nat → Int32) × (Nat → Int32) × (Nat → Int32))) (n : Nat) (v1 : Int32) (A_stopAfter : Nat → Int32) (A_taken : Nat → Int32) (A_waiting : Nat → Int32), f_X1_clearRooms_L2 k f_row_count A_row_begins A_row_ends κ n v1 A_stopAfter A_taken A_waiting = some (wA_stopAfter, wA_taken, wA_waiting) → ∀ (H : Heap) (locs : List Loc) (ls : Array Slot), Hv s H locs G cy A [(aT, .inr (1, [.ref aT_row, .ref aT_stopAfter, .ref aT_taken, .ref aT_waiting, .ref aT_gain, .ref aT_cameFrom, .ref aT_cameByTaking])), (aT_row, .inr (3, [.int f_row_byEnd, .ref aT_row_numbers, .ref aT_row_begins, .ref aT_row_ends, .ref aT_row_weights, .int f_row_count])), (aT_row_begins, .inl (cy.1, 40, .inl A_row_begins)), (aT_row_ends, .inl (cy.1, 40, .inl A_row_ends)), (aT_stopAfter, .inl (cy.1, 40, .inl A_stopAfter)), (aT_taken, .inl (cy.2.1, 40, .inl A_taken)), (aT_waiting, .inl (cy.1, 40, .inl A_waiting))] → lv_has ls 2 [(0, .ref aT), (1, .int v1)] → (∀ (v1 : Int32) (A_stopAfter : Nat → Int32) (A_taken : Nat → Int32) (A_waiting : Nat → Int32), κ v1 A_stopAfter A_taken A_waiting = some (wA_stopAfter, wA_taken, wA_waiting) → ∀ (H : Heap) (locs : List Loc) (ls : Array Slot), Hv s H locs G cy A [(aT, .inr (1, [.ref aT_row, .ref aT_stopAfter, .ref aT_taken, .ref aT_waiting, .ref aT_gain, .ref aT_cameFrom, .ref aT_cameByTaking])), (aT_row, .inr (3, [.int f_row_byEnd, .ref aT_row_numbers, .ref aT_row_begins, .ref aT_row_ends, .ref aT_row_weights, .int f_row_count])), (aT_row_begins, .inl (cy.1, 40, .inl A_row_begins)), (aT_row_ends, .inl (cy.1, 40, .inl A_row_ends)), (aT_stopAfter, .inl (cy.1, 40, .inl A_stopAfter)), (aT_taken, .inl (cy.2.1, 40, .inl A_taken)), (aT_waiting, .inl (cy.1, 40, .inl A_waiting))] → lv_has ls 2 [] → W p l e rm_X1_clearRooms s m args below meth c H locs 0 0 Q (F0 m 55 ls [])) → W p l e rm_X1_clearRooms s m args below meth c H locs 0 0 Q (F0 m 2 ls []) := by
    intro κ n
    induction n with
    | zero =>
      intro v1 A_stopAfter A_taken A_waiting hf
      rw [f_X1_clearRooms_L2_z] at hf
      cases hf
    | succ n ih =>
      intro v1 A_stopAfter A_taken A_waiting hf H locs ls hv hl hκ
      rw [f_X1_clearRooms_L2_s] at hf
      refine lv_iload_n hx hb dX1_clearRooms_2 rfl (lv_at hl 1 rfl) ?_
      refine lv_aload_n hx hb dX1_clearRooms_3 rfl (lv_at hl 0 rfl) ?_
      refine kGet (v := .ref aT_row) (C := RX1) (T := TX1) (N := 7) hx hb hts hinX1 hown hv 0 rfl rfl 0 (by decide) hk14 (fun _ h9 => h9) rfl dX1_clearRooms_4 ?_
      refine kGetN (v := .int f_row_count) (C := RX3) (T := TX3) (N := 6) hx hb hts hinX3 hown hv 1 rfl rfl 5 (by decide) hn46 (fun _ h9 => h9) rfl dX1_clearRooms_7 ?_
      refine lv_icmp_ge (tgt := 55) hx hb dX1_clearRooms_10 (by decide) (fun hc1 => ?_) (fun hc1 => ?_)
      · replace hf := ite_t hf hc1
        exact hκ v1 A_stopAfter A_taken A_waiting hf _ _ _ hv (lv_sub hl [] rfl)
      · replace hf := ite_f hf hc1
        refine lv_aload_n hx hb dX1_clearRooms_13 rfl (lv_at hl 0 rfl) ?_
        refine kGet (v := .ref aT_taken) (C := RX1) (T := TX1) (N := 7) hx hb hts hinX1 hown hv 0 rfl rfl 2 (by decide) hk24 (fun _ h9 => h9) rfl dX1_clearRooms_14 ?_
        refine lv_iload_n hx hb dX1_clearRooms_17 rfl (lv_at hl 1 rfl) ?_
        refine lv_iconst (v := 0) hx hb dX1_clearRooms_18 (by decide) ?_
        obtain ⟨hi2, hf⟩ := xi_some hf
        refine kZast hx hb hv 5 rfl hi2 dX1_clearRooms_19 (fun H locs hv => ?_)
        replace hv : Hv s H locs G cy A [(aT, .inr (1, [.ref aT_row, .ref aT_stopAfter, .ref aT_taken, .ref aT_waiting, .ref aT_gain, .ref aT_cameFrom, .ref aT_cameByTaking])), (aT_row, .inr (3, [.int f_row_byEnd, .ref aT_row_numbers, .ref aT_row_begins, .ref aT_row_ends, .ref aT_row_weights, .int f_row_count])), (aT_row_begins, .inl (cy.1, 40, .inl A_row_begins)), (aT_row_ends, .inl (cy.1, 40, .inl A_row_ends)), (aT_stopAfter, .inl (cy.1, 40, .inl A_stopAfter)), (aT_taken, .inl (cy.2.1, 40, .inl (upd A_taken v1.toNatClampNeg (vp_nar .boolean 0)))), (aT_waiting, .inl (cy.1, 40, .inl A_waiting))] := hv
        refine lv_aload_n hx hb dX1_clearRooms_20 rfl (lv_at hl 0 rfl) ?_
        refine kGet (v := .ref aT_waiting) (C := RX1) (T := TX1) (N := 7) hx hb hts hinX1 hown hv 0 rfl rfl 3 (by decide) hk28 (fun _ h9 => h9) rfl dX1_clearRooms_21 ?_
        refine lv_iload_n hx hb dX1_clearRooms_24 rfl (lv_at hl 1 rfl) ?_
        refine lv_iconst (v := 0) hx hb dX1_clearRooms_25 (by decide) ?_
        obtain ⟨hi3, hf⟩ := xi_some hf
        refine kIast hx hb hv 6 rfl hi3 dX1_clearRooms_26 (fun H locs hv => ?_)
        replace hv : Hv s H locs G cy A [(aT, .inr (1, [.ref aT_row, .ref aT_stopAfter, .ref aT_taken, .ref aT_waiting, .ref aT_gain, .ref aT_cameFrom, .ref aT_cameByTaking])), (aT_row, .inr (3, [.int f_row_byEnd, .ref aT_row_numbers, .ref aT_row_begins, .ref aT_row_ends, .ref aT_row_weights, .int f_row_count])), (aT_row_begins, .inl (cy.1, 40, .inl A_row_begins)), (aT_row_ends, .inl (cy.1, 40, .inl A_row_ends)), (aT_stopAfter, .inl (cy.1, 40, .inl A_stopAfter)), (aT_taken, .inl (cy.2.1, 40, .inl (upd A_taken v1.toNatClampNeg (vp_nar .boolean 0)))), (aT_waiting, .inl (cy.1, 40, .inl (upd A_waiting v1.toNatClampNeg 0)))] := hv
        refine lv_aload_n hx hb dX1_clearRooms_27 rfl (lv_at hl 0 rfl) ?_
        refine kGet (v := .ref aT_stopAfter) (C := RX1) (T := TX1) (N := 7) hx hb hts hinX1 hown hv 0 rfl rfl 1 (by decide) hk20 (fun _ h9 => h9) rfl dX1_clearRooms_28 ?_
        refine lv_iload_n hx hb dX1_clearRooms_31 rfl (lv_at hl 1 rfl) ?_
        refine lv_aload_n hx hb dX1_clearRooms_32 rfl (lv_at hl 0 rfl) ?_
        refine lv_aload_n hx hb dX1_clearRooms_33 rfl (lv_at hl 0 rfl) ?_
        refine kGet (v := .ref aT_row) (C := RX1) (T := TX1) (N := 7) hx hb hts hinX1 hown hv 0 rfl rfl 0 (by decide) hk14 (fun _ h9 => h9) rfl dX1_clearRooms_34 ?_
        refine kGetN (v := .ref aT_row_ends) (C := RX3) (T := TX3) (N := 6) hx hb hts hinX3 hown hv 1 rfl rfl 3 (by decide) hn53 (fun _ h9 => h9) rfl dX1_clearRooms_37 ?_
        refine lv_iload_n hx hb dX1_clearRooms_40 rfl (lv_at hl 1 rfl) ?_
        obtain ⟨hi4, hf⟩ := xi_some hf
        refine kIald hx hb hv 3 rfl hi4 dX1_clearRooms_41 ?_
        refine lv_iload_n hx hb dX1_clearRooms_42 rfl (lv_at hl 1 rfl) ?_
        refine lv_iconst (v := 1) hx hb dX1_clearRooms_43 (by decide) ?_
        refine lv_iadd hx hb dX1_clearRooms_44 ?_
        obtain ⟨r5, hcl6, hf⟩ := xb_some hf
        refine kV_i (r := r5) (wr := [(aT_row_ends, .inl (cy.1, 40, .inl A_row_ends)), (aT_stopAfter, .inl (cy.1, 40, .inl A_stopAfter)), (aT_taken, .inl (cy.2.1, 40, .inl (upd A_taken v1.toNatClampNeg (vp_nar .boolean 0)))), (aT_waiting, .inl (cy.1, 40, .inl (upd A_waiting v1.toNatClampNeg 0)))]) (w2 := [(aT, .inr (1, [.ref aT_row, .ref aT_stopAfter, .ref aT_taken, .ref aT_waiting, .ref aT_gain, .ref aT_cameFrom, .ref aT_cameByTaking])), (aT_row, .inr (3, [.int f_row_byEnd, .ref aT_row_numbers, .ref aT_row_begins, .ref aT_row_ends, .ref aT_row_weights, .int f_row_count])), (aT_row_begins, .inl (cy.1, 40, .inl A_row_begins)), (aT_row_ends, .inl (cy.1, 40, .inl A_row_ends)), (aT_stopAfter, .inl (cy.1, 40, .inl A_stopAfter)), (aT_taken, .inl (cy.2.1, 40, .inl (upd A_taken v1.toNatClampNeg (vp_nar .boolean 0)))), (aT_waiting, .inl (cy.1, 40, .inl (upd A_waiting v1.toNatClampNeg 0)))]) ⟨hx, hb, hml, hown, hts⟩ (c_X1_firstBegunFrom l G cy k aT aT_row aT_stopAfter aT_taken aT_waiting aT_gain aT_cameFrom aT_cameByTaking aT_row_numbers aT_row_begins aT_row_ends aT_row_weights f_row_byEnd f_row_count A_row_begins (A_row_ends v1.toNatClampNeg) (v1 + 1) hcl6) (cwV 2 hts gX1_clearRooms_X1_firstBegunFrom rfl rfl rfl (by decide +kernel) ⟨Nat.le_of_ble_eq_true rfl, Nat.le_of_ble_eq_true rfl⟩) hv (isC := [0, 1, 2]) ⟨rfl, rfl⟩ (hv.recv 1 0 rfl rfl) [3, 4, 5, 6] [4, 5, 6, 0, 1, 2, 3] rfl rfl (by decide) rfl rfl rfl hl.1 rfl (Nat.le_of_ble_eq_true rfl) dX1_clearRooms_45 ⟨Nat.le_of_ble_eq_true rfl, Nat.le_of_ble_eq_true rfl⟩ (fun H locs hv => ?_)
        obtain ⟨hi7, hf⟩ := xi_some hf
        refine kIast hx hb hv 4 rfl hi7 dX1_clearRooms_48 (fun H locs hv => ?_)
        replace hv : Hv s H locs G cy A [(aT, .inr (1, [.ref aT_row, .ref aT_stopAfter, .ref aT_taken, .ref aT_waiting, .ref aT_gain, .ref aT_cameFrom, .ref aT_cameByTaking])), (aT_row, .inr (3, [.int f_row_byEnd, .ref aT_row_numbers, .ref aT_row_begins, .ref aT_row_ends, .ref aT_row_weights, .int f_row_count])), (aT_row_begins, .inl (cy.1, 40, .inl A_row_begins)), (aT_row_ends, .inl (cy.1, 40, .inl A_row_ends)), (aT_stopAfter, .inl (cy.1, 40, .inl (upd A_stopAfter v1.toNatClampNeg r5))), (aT_taken, .inl (cy.2.1, 40, .inl (upd A_taken v1.toNatClampNeg (vp_nar .boolean 0)))), (aT_waiting, .inl (cy.1, 40, .inl (upd A_waiting v1.toNatClampNeg 0)))] := hv
        refine lv_iinc (v := v1 + 1) (lv' := [(1, .int (v1 + 1)), (0, .ref aT)]) hx hb dX1_clearRooms_49 hl (k := 1) rfl rfl (by decide) rfl (fun ls hl => ?_)
        refine lv_goto (tgt := 2) hx hb dX1_clearRooms_52 (by decide) ?_
        exact ih (v1 + 1) (upd A_stopAfter v1.toNatClampNeg r5) (upd A_taken v1.toNatClampNeg (vp_nar .boolean 0)) (upd A_waiting v1.toNatClampNeg 0) hf _ _ _ hv (lv_sub hl [1, 0] rfl) hκ
  unfold f_X1_clearRooms at hf
  refine lv_iconst (v := 0) hx hb dX1_clearRooms_0 (by decide) ?_
  refine lv_istore_n (lv' := [(1, .int 0), (0, .ref aT)]) hx hb dX1_clearRooms_1 rfl hl (by decide) rfl (fun ls hl => ?_)
  refine L2 _ _ _ _ _ _ hf _ _ _ hv (lv_sub hl [1, 0] rfl) (fun v1_8 A_stopAfter_9 A_taken_10 A_waiting_11 hf H locs ls hv hl => ?_)
  try dsimp only at hf
  cases hf
  exact kret _ _ _ _ hv dX1_clearRooms_55

def f_X1_reach (k : Nat) (p1 : Int32) (p2 : Int32) (p3 : Int32) (p4 : Int32) (A_gain : Nat → Int32) (A_cameFrom : Nat → Int32) (A_cameByTaking : Nat → Int32) : Option (Int32 × (Nat → Int32) × (Nat → Int32) × (Nat → Int32)) := xi p1 41 (if (A_gain p1.toNatClampNeg) < p3 then xi p1 41 (xi p1 41 (xi p1 41 (some (1, upd A_gain p1.toNatClampNeg p3, upd A_cameFrom p1.toNatClampNeg p2, upd A_cameByTaking p1.toNatClampNeg (vp_nar .boolean p4))))) else some (0, A_gain, A_cameFrom, A_cameByTaking))
abbrev rm_X1_reach : Room := { frames := 0, cells := 0, slots := 0, locals := 0 }
set_option maxHeartbeats 4000000 in
set_option maxRecDepth 100000 in
theorem c_X1_reach (l : Launch) (G : va_G) (cy : ClassId × ClassId × ClassId) (k : Nat) (aT aT_row aT_stopAfter aT_taken aT_waiting aT_gain aT_cameFrom aT_cameByTaking : Nat) (A_gain : Nat → Int32) (A_cameFrom : Nat → Int32) (A_cameByTaking : Nat → Int32) (p1 : Int32) (p2 : Int32) (p3 : Int32) (p4 : Int32) {r : Int32} {wA_gain : Nat → Int32} {wA_cameFrom : Nat → Int32} {wA_cameByTaking : Nat → Int32} (hf : f_X1_reach k p1 p2 p3 p4 A_gain A_cameFrom A_cameByTaking = some (r, wA_gain, wA_cameFrom, wA_cameByTaking)) : Ci l yX1_reach wsX1_reach rm_X1_reach 0 0 G cy [.ref aT, .int p1, .int p2, .int p3, .int p4] [(aT, .inr (1, [.ref aT_row, .ref aT_stopAfter, .ref aT_taken, .ref aT_waiting, .ref aT_gain, .ref aT_cameFrom, .ref aT_cameByTaking])), (aT_gain, .inl (cy.1, 41, .inl A_gain)), (aT_cameFrom, .inl (cy.1, 41, .inl A_cameFrom)), (aT_cameByTaking, .inl (cy.2.1, 41, .inl A_cameByTaking))] [(aT, .inr (1, [.ref aT_row, .ref aT_stopAfter, .ref aT_taken, .ref aT_waiting, .ref aT_gain, .ref aT_cameFrom, .ref aT_cameByTaking])), (aT_gain, .inl (cy.1, 41, .inl wA_gain)), (aT_cameFrom, .inl (cy.1, 41, .inl wA_cameFrom)), (aT_cameByTaking, .inl (cy.2.1, 41, .inl wA_cameByTaking))] r := by
  refine kMetZ (cc := cX1_reach) (maxL := 5) (by decide) rfl (Nat.le_of_ble_eq_true rfl) ?_
  intro p e s m args below meth c Q A ls hx hb hml hts hown hv hl kret
  replace hown : s.vm.findClass RX1 = some m.cls := hown
  replace hl : lv_has ls 5 [(0, .ref aT), (1, .int p1), (2, .int p2), (3, .int p3), (4, .int p4)] := hl
  have hk31 : (Cond.fieldLink RX1 31 "Roomcolour$ManyRoomsPlan" "gain" "[I").before args s = true := hts _ (by decide +kernel)
  have hinX1 : ∀ w ∈ wsX10, w ∈ wsX1_reach := by decide +kernel
  have hk34 : (Cond.fieldLink RX1 34 "Roomcolour$ManyRoomsPlan" "cameFrom" "[I").before args s = true := hts _ (by decide +kernel)
  have hk37 : (Cond.fieldLink RX1 37 "Roomcolour$ManyRoomsPlan" "cameByTaking" "[Z").before args s = true := hts _ (by decide +kernel)
  unfold f_X1_reach at hf
  refine lv_iload_n hx hb dX1_reach_0 rfl (lv_at hl 3 rfl) ?_
  refine lv_aload_n hx hb dX1_reach_1 rfl (lv_at hl 0 rfl) ?_
  refine kGet (v := .ref aT_gain) (C := RX1) (T := TX1) (N := 7) hx hb hts hinX1 hown hv 0 rfl rfl 4 (by decide) hk31 (fun _ h9 => h9) rfl dX1_reach_2 ?_
  refine lv_iload_n hx hb dX1_reach_5 rfl (lv_at hl 1 rfl) ?_
  obtain ⟨hi1, hf⟩ := xi_some hf
  refine kIald hx hb hv 1 rfl hi1 dX1_reach_6 ?_
  refine lv_icmp_gt (tgt := 12) hx hb dX1_reach_7 (by decide) (fun hc2 => ?_) (fun hc2 => ?_)
  · replace hf := ite_t hf hc2
    refine lv_aload_n hx hb dX1_reach_12 rfl (lv_at hl 0 rfl) ?_
    refine kGet (v := .ref aT_gain) (C := RX1) (T := TX1) (N := 7) hx hb hts hinX1 hown hv 0 rfl rfl 4 (by decide) hk31 (fun _ h9 => h9) rfl dX1_reach_13 ?_
    refine lv_iload_n hx hb dX1_reach_16 rfl (lv_at hl 1 rfl) ?_
    refine lv_iload_n hx hb dX1_reach_17 rfl (lv_at hl 3 rfl) ?_
    obtain ⟨hi3, hf⟩ := xi_some hf
    refine kIast hx hb hv 1 rfl hi3 dX1_reach_18 (fun H locs hv => ?_)
    replace hv : Hv s H locs G cy A [(aT, .inr (1, [.ref aT_row, .ref aT_stopAfter, .ref aT_taken, .ref aT_waiting, .ref aT_gain, .ref aT_cameFrom, .ref aT_cameByTaking])), (aT_gain, .inl (cy.1, 41, .inl (upd A_gain p1.toNatClampNeg p3))), (aT_cameFrom, .inl (cy.1, 41, .inl A_cameFrom)), (aT_cameByTaking, .inl (cy.2.1, 41, .inl A_cameByTaking))] := hv
    refine lv_aload_n hx hb dX1_reach_19 rfl (lv_at hl 0 rfl) ?_
    refine kGet (v := .ref aT_cameFrom) (C := RX1) (T := TX1) (N := 7) hx hb hts hinX1 hown hv 0 rfl rfl 5 (by decide) hk34 (fun _ h9 => h9) rfl dX1_reach_20 ?_
    refine lv_iload_n hx hb dX1_reach_23 rfl (lv_at hl 1 rfl) ?_
    refine lv_iload_n hx hb dX1_reach_24 rfl (lv_at hl 2 rfl) ?_
    obtain ⟨hi4, hf⟩ := xi_some hf
    refine kIast hx hb hv 2 rfl hi4 dX1_reach_25 (fun H locs hv => ?_)
    replace hv : Hv s H locs G cy A [(aT, .inr (1, [.ref aT_row, .ref aT_stopAfter, .ref aT_taken, .ref aT_waiting, .ref aT_gain, .ref aT_cameFrom, .ref aT_cameByTaking])), (aT_gain, .inl (cy.1, 41, .inl (upd A_gain p1.toNatClampNeg p3))), (aT_cameFrom, .inl (cy.1, 41, .inl (upd A_cameFrom p1.toNatClampNeg p2))), (aT_cameByTaking, .inl (cy.2.1, 41, .inl A_cameByTaking))] := hv
    refine lv_aload_n hx hb dX1_reach_26 rfl (lv_at hl 0 rfl) ?_
    refine kGet (v := .ref aT_cameByTaking) (C := RX1) (T := TX1) (N := 7) hx hb hts hinX1 hown hv 0 rfl rfl 6 (by decide) hk37 (fun _ h9 => h9) rfl dX1_reach_27 ?_
    refine lv_iload_n hx hb dX1_reach_30 rfl (lv_at hl 1 rfl) ?_
    refine lv_iload hx hb dX1_reach_31 (lv_at hl 4 rfl) ?_
    obtain ⟨hi5, hf⟩ := xi_some hf
    refine kZast hx hb hv 3 rfl hi5 dX1_reach_33 (fun H locs hv => ?_)
    replace hv : Hv s H locs G cy A [(aT, .inr (1, [.ref aT_row, .ref aT_stopAfter, .ref aT_taken, .ref aT_waiting, .ref aT_gain, .ref aT_cameFrom, .ref aT_cameByTaking])), (aT_gain, .inl (cy.1, 41, .inl (upd A_gain p1.toNatClampNeg p3))), (aT_cameFrom, .inl (cy.1, 41, .inl (upd A_cameFrom p1.toNatClampNeg p2))), (aT_cameByTaking, .inl (cy.2.1, 41, .inl (upd A_cameByTaking p1.toNatClampNeg (vp_nar .boolean p4))))] := hv
    refine lv_iconst (v := 1) hx hb dX1_reach_34 (by decide) ?_
    cases hf
    exact kret _ _ _ _ hv dX1_reach_35 rfl
  · replace hf := ite_f hf hc2
    refine lv_iconst (v := 0) hx hb dX1_reach_10 (by decide) ?_
    cases hf
    exact kret _ _ _ _ hv dX1_reach_11 rfl

def f_X1_improveForwards_L4 (k : Nat) (f_row_count : Int32) (A_row_weights : Nat → Int32) (A_stopAfter : Nat → Int32) (A_taken : Nat → Int32) (κ : Int32 → Int32 → (Nat → Int32) → (Nat → Int32) → (Nat → Int32) → Option (Int32 × (Nat → Int32) × (Nat → Int32) × (Nat → Int32))) : Nat → Int32 → Int32 → (Nat → Int32) → (Nat → Int32) → (Nat → Int32) → Option (Int32 × (Nat → Int32) × (Nat → Int32) × (Nat → Int32))
  | 0, _, _, _, _, _ => none
  | n + 1, v1, v2, A_gain, A_cameFrom, A_cameByTaking => if f_row_count ≤ v2 then κ v1 v2 A_gain A_cameFrom A_cameByTaking else xi v2 41 (xb (f_X1_reach k (v2 + 1) v2 (A_gain v2.toNatClampNeg) 0 A_gain A_cameFrom A_cameByTaking) (fun (r3, A_gain_4, A_cameFrom_5, A_cameByTaking_6) => xj (fun (v1_10 : Int32) => xi v2 41 (xi v2 40 (xi v2 40 (if (A_taken v2.toNatClampNeg) = 0 then xi v2 40 (xb (f_X1_reach k (A_stopAfter v2.toNatClampNeg) v2 ((A_gain_4 v2.toNatClampNeg) + (A_row_weights v2.toNatClampNeg)) 1 A_gain_4 A_cameFrom_5 A_cameByTaking_6) (fun (r16, A_gain_17, A_cameFrom_18, A_cameByTaking_19) => if r16 = 0 then f_X1_improveForwards_L4 k f_row_count A_row_weights A_stopAfter A_taken κ n v1_10 (v2 + 1) A_gain_17 A_cameFrom_18 A_cameByTaking_19 else f_X1_improveForwards_L4 k f_row_count A_row_weights A_stopAfter A_taken κ n 1 (v2 + 1) A_gain_17 A_cameFrom_18 A_cameByTaking_19)) else f_X1_improveForwards_L4 k f_row_count A_row_weights A_stopAfter A_taken κ n v1_10 (v2 + 1) A_gain_4 A_cameFrom_5 A_cameByTaking_6)))) (fun (j35_9 : Int32 → Option (Int32 × (Nat → Int32) × (Nat → Int32) × (Nat → Int32))) => if r3 = 0 then j35_9 v1 else j35_9 1)))
theorem f_X1_improveForwards_L4_z (k : Nat) (f_row_count : Int32) (A_row_weights : Nat → Int32) (A_stopAfter : Nat → Int32) (A_taken : Nat → Int32) (κ : Int32 → Int32 → (Nat → Int32) → (Nat → Int32) → (Nat → Int32) → Option (Int32 × (Nat → Int32) × (Nat → Int32) × (Nat → Int32))) (v1 : Int32) (v2 : Int32) (A_gain : Nat → Int32) (A_cameFrom : Nat → Int32) (A_cameByTaking : Nat → Int32) : f_X1_improveForwards_L4 k f_row_count A_row_weights A_stopAfter A_taken κ 0 v1 v2 A_gain A_cameFrom A_cameByTaking = none := rfl
theorem f_X1_improveForwards_L4_s (k : Nat) (f_row_count : Int32) (A_row_weights : Nat → Int32) (A_stopAfter : Nat → Int32) (A_taken : Nat → Int32) (κ : Int32 → Int32 → (Nat → Int32) → (Nat → Int32) → (Nat → Int32) → Option (Int32 × (Nat → Int32) × (Nat → Int32) × (Nat → Int32))) (n : Nat) (v1 : Int32) (v2 : Int32) (A_gain : Nat → Int32) (A_cameFrom : Nat → Int32) (A_cameByTaking : Nat → Int32) : f_X1_improveForwards_L4 k f_row_count A_row_weights A_stopAfter A_taken κ (n + 1) v1 v2 A_gain A_cameFrom A_cameByTaking = if f_row_count ≤ v2 then κ v1 v2 A_gain A_cameFrom A_cameByTaking else xi v2 41 (xb (f_X1_reach k (v2 + 1) v2 (A_gain v2.toNatClampNeg) 0 A_gain A_cameFrom A_cameByTaking) (fun (r3, A_gain_4, A_cameFrom_5, A_cameByTaking_6) => xj (fun (v1_10 : Int32) => xi v2 41 (xi v2 40 (xi v2 40 (if (A_taken v2.toNatClampNeg) = 0 then xi v2 40 (xb (f_X1_reach k (A_stopAfter v2.toNatClampNeg) v2 ((A_gain_4 v2.toNatClampNeg) + (A_row_weights v2.toNatClampNeg)) 1 A_gain_4 A_cameFrom_5 A_cameByTaking_6) (fun (r16, A_gain_17, A_cameFrom_18, A_cameByTaking_19) => if r16 = 0 then f_X1_improveForwards_L4 k f_row_count A_row_weights A_stopAfter A_taken κ n v1_10 (v2 + 1) A_gain_17 A_cameFrom_18 A_cameByTaking_19 else f_X1_improveForwards_L4 k f_row_count A_row_weights A_stopAfter A_taken κ n 1 (v2 + 1) A_gain_17 A_cameFrom_18 A_cameByTaking_19)) else f_X1_improveForwards_L4 k f_row_count A_row_weights A_stopAfter A_taken κ n v1_10 (v2 + 1) A_gain_4 A_cameFrom_5 A_cameByTaking_6)))) (fun (j35_9 : Int32 → Option (Int32 × (Nat → Int32) × (Nat → Int32) × (Nat → Int32))) => if r3 = 0 then j35_9 v1 else j35_9 1))) := rfl
def f_X1_improveForwards (k : Nat) (f_row_count : Int32) (A_row_weights : Nat → Int32) (A_stopAfter : Nat → Int32) (A_taken : Nat → Int32) (A_gain : Nat → Int32) (A_cameFrom : Nat → Int32) (A_cameByTaking : Nat → Int32) : Option (Int32 × (Nat → Int32) × (Nat → Int32) × (Nat → Int32)) := f_X1_improveForwards_L4 k f_row_count A_row_weights A_stopAfter A_taken (fun (v1_22 : Int32) (v2_23 : Int32) (A_gain_24 : Nat → Int32) (A_cameFrom_25 : Nat → Int32) (A_cameByTaking_26 : Nat → Int32) => xq v1_22 (some (v1_22, A_gain_24, A_cameFrom_25, A_cameByTaking_26))) k 0 0 A_gain A_cameFrom A_cameByTaking
abbrev rm_X1_improveForwards : Room := { frames := 1, cells := 0, slots := 0, locals := 24 }
set_option maxHeartbeats 4000000 in
set_option maxRecDepth 100000 in
theorem c_X1_improveForwards (l : Launch) (G : va_G) (cy : ClassId × ClassId × ClassId) (k : Nat) (aT aT_row aT_stopAfter aT_taken aT_waiting aT_gain aT_cameFrom aT_cameByTaking aT_row_numbers aT_row_begins aT_row_ends aT_row_weights : Nat) (f_row_byEnd : Int32) (f_row_count : Int32) (A_row_weights : Nat → Int32) (A_stopAfter : Nat → Int32) (A_taken : Nat → Int32) (A_gain : Nat → Int32) (A_cameFrom : Nat → Int32) (A_cameByTaking : Nat → Int32) {r : Int32} {wA_gain : Nat → Int32} {wA_cameFrom : Nat → Int32} {wA_cameByTaking : Nat → Int32} (hf : f_X1_improveForwards k f_row_count A_row_weights A_stopAfter A_taken A_gain A_cameFrom A_cameByTaking = some (r, wA_gain, wA_cameFrom, wA_cameByTaking)) : Ci l yX1_improveForwards wsX1_improveForwards rm_X1_improveForwards 0 0 G cy [.ref aT] [(aT, .inr (1, [.ref aT_row, .ref aT_stopAfter, .ref aT_taken, .ref aT_waiting, .ref aT_gain, .ref aT_cameFrom, .ref aT_cameByTaking])), (aT_row, .inr (3, [.int f_row_byEnd, .ref aT_row_numbers, .ref aT_row_begins, .ref aT_row_ends, .ref aT_row_weights, .int f_row_count])), (aT_row_weights, .inl (cy.1, 40, .inl A_row_weights)), (aT_stopAfter, .inl (cy.1, 40, .inl A_stopAfter)), (aT_taken, .inl (cy.2.1, 40, .inl A_taken)), (aT_gain, .inl (cy.1, 41, .inl A_gain)), (aT_cameFrom, .inl (cy.1, 41, .inl A_cameFrom)), (aT_cameByTaking, .inl (cy.2.1, 41, .inl A_cameByTaking))] [(aT, .inr (1, [.ref aT_row, .ref aT_stopAfter, .ref aT_taken, .ref aT_waiting, .ref aT_gain, .ref aT_cameFrom, .ref aT_cameByTaking])), (aT_row, .inr (3, [.int f_row_byEnd, .ref aT_row_numbers, .ref aT_row_begins, .ref aT_row_ends, .ref aT_row_weights, .int f_row_count])), (aT_row_weights, .inl (cy.1, 40, .inl A_row_weights)), (aT_stopAfter, .inl (cy.1, 40, .inl A_stopAfter)), (aT_taken, .inl (cy.2.1, 40, .inl A_taken)), (aT_gain, .inl (cy.1, 41, .inl wA_gain)), (aT_cameFrom, .inl (cy.1, 41, .inl wA_cameFrom)), (aT_cameByTaking, .inl (cy.2.1, 41, .inl wA_cameByTaking))] r := by
  refine kMetZ (cc := cX1_improveForwards) (maxL := 4) (by decide) rfl (Nat.le_of_ble_eq_true rfl) ?_
  intro p e s m args below meth c Q A ls hx hb hml hts hown hv hl kret
  replace hown : s.vm.findClass RX1 = some m.cls := hown
  replace hl : lv_has ls 4 [(0, .ref aT)] := hl
  have hk14 : (Cond.fieldLink RX1 14 "Roomcolour$ManyRoomsPlan" "row" "LRoomcolour$Row;").before args s = true := hts _ (by decide +kernel)
  have hinX1 : ∀ w ∈ wsX10, w ∈ wsX1_improveForwards := by decide +kernel
  have hn46 : (Cond.fieldLinkNest RX1 46 "Roomcolour$Row" "count" "I" RX4).before args s = true := va_Nw.use rfl (hv.2.2.2.2.2.1 _ (by decide +kernel))
  have hinX3 : ∀ w ∈ wsX30, w ∈ wsX1_improveForwards := by decide +kernel
  have hk31 : (Cond.fieldLink RX1 31 "Roomcolour$ManyRoomsPlan" "gain" "[I").before args s = true := hts _ (by decide +kernel)
  have hn74 : (Cond.fieldLinkNest RX1 74 "Roomcolour$Row" "weights" "[I" RX4).before args s = true := va_Nw.use rfl (hv.2.2.2.2.2.1 _ (by decide +kernel))
  have hk24 : (Cond.fieldLink RX1 24 "Roomcolour$ManyRoomsPlan" "taken" "[Z").before args s = true := hts _ (by decide +kernel)
  have hk20 : (Cond.fieldLink RX1 20 "Roomcolour$ManyRoomsPlan" "stopAfter" "[I").before args s = true := hts _ (by decide +kernel)
  have L4 : ∀ (κ : Int32 → Int32 → (Nat → Int32) → (Nat → Int32) → (Nat → Int32) → Option (Int32 × (Nat → Int32) × (Nat → Int32) × (Nat → Int32))) (n : Nat) (v1 : Int32) (v2 : Int32) (A_gain : Nat → Int32) (A_cameFrom : Nat → Int32) (A_cameByTaking : Nat → Int32), f_X1_improveForwards_L4 k f_row_count A_row_weights A_stopAfter A_taken κ n v1 v2 A_gain A_cameFrom A_cameByTaking = some (r, wA_gain, wA_cameFrom, wA_cameByTaking) → ∀ (H : Heap) (locs : List Loc) (ls : Array Slot), Hv s H locs G cy A [(aT, .inr (1, [.ref aT_row, .ref aT_stopAfter, .ref aT_taken, .ref aT_waiting, .ref aT_gain, .ref aT_cameFrom, .ref aT_cameByTaking])), (aT_row, .inr (3, [.int f_row_byEnd, .ref aT_row_numbers, .ref aT_row_begins, .ref aT_row_ends, .ref aT_row_weights, .int f_row_count])), (aT_row_weights, .inl (cy.1, 40, .inl A_row_weights)), (aT_stopAfter, .inl (cy.1, 40, .inl A_stopAfter)), (aT_taken, .inl (cy.2.1, 40, .inl A_taken)), (aT_gain, .inl (cy.1, 41, .inl A_gain)), (aT_cameFrom, .inl (cy.1, 41, .inl A_cameFrom)), (aT_cameByTaking, .inl (cy.2.1, 41, .inl A_cameByTaking))] → lv_has ls 4 [(0, .ref aT), (1, .int v1), (2, .int v2)] → (∀ (v1 : Int32) (v2 : Int32) (A_gain : Nat → Int32) (A_cameFrom : Nat → Int32) (A_cameByTaking : Nat → Int32), κ v1 v2 A_gain A_cameFrom A_cameByTaking = some (r, wA_gain, wA_cameFrom, wA_cameByTaking) → ∀ (H : Heap) (locs : List Loc) (ls : Array Slot), Hv s H locs G cy A [(aT, .inr (1, [.ref aT_row, .ref aT_stopAfter, .ref aT_taken, .ref aT_waiting, .ref aT_gain, .ref aT_cameFrom, .ref aT_cameByTaking])), (aT_row, .inr (3, [.int f_row_byEnd, .ref aT_row_numbers, .ref aT_row_begins, .ref aT_row_ends, .ref aT_row_weights, .int f_row_count])), (aT_row_weights, .inl (cy.1, 40, .inl A_row_weights)), (aT_stopAfter, .inl (cy.1, 40, .inl A_stopAfter)), (aT_taken, .inl (cy.2.1, 40, .inl A_taken)), (aT_gain, .inl (cy.1, 41, .inl A_gain)), (aT_cameFrom, .inl (cy.1, 41, .inl A_cameFrom)), (aT_cameByTaking, .inl (cy.2.1, 41, .inl A_cameByTaking))] → lv_has ls 4 [(1, .int v1)] → W p l e rm_X1_improveForwards s m args below meth c H locs 0 0 Q (F0 m 85 ls [])) → W p l e rm_X1_improveForwards s m args below meth c H locs 0 0 Q (F0 m 4 ls []) := by
    intro κ n
    induction n with
    | zero =>
      intro v1 v2 A_gain A_cameFrom A_cameByTaking hf
      rw [f_X1_improveForwards_L4_z] at hf
      cases hf
    | succ n ih =>
      intro v1 v2 A_gain A_cameFrom A_cameByTaking hf H locs ls hv hl hκ
      rw [f_X1_improveForwards_L4_s] at hf
      refine lv_iload_n hx hb dX1_improveForwards_4 rfl (lv_at hl 2 rfl) ?_
      refine lv_aload_n hx hb dX1_improveForwards_5 rfl (lv_at hl 0 rfl) ?_
      refine kGet (v := .ref aT_row) (C := RX1) (T := TX1) (N := 7) hx hb hts hinX1 hown hv 0 rfl rfl 0 (by decide) hk14 (fun _ h9 => h9) rfl dX1_improveForwards_6 ?_
      refine kGetN (v := .int f_row_count) (C := RX3) (T := TX3) (N := 6) hx hb hts hinX3 hown hv 1 rfl rfl 5 (by decide) hn46 (fun _ h9 => h9) rfl dX1_improveForwards_9 ?_
      refine lv_icmp_ge (tgt := 85) hx hb dX1_improveForwards_12 (by decide) (fun hc1 => ?_) (fun hc1 => ?_)
      · replace hf := ite_t hf hc1
        exact hκ v1 v2 A_gain A_cameFrom A_cameByTaking hf _ _ _ hv (lv_sub hl [1] rfl)
      · replace hf := ite_f hf hc1
        refine lv_aload_n hx hb dX1_improveForwards_15 rfl (lv_at hl 0 rfl) ?_
        refine lv_iload_n hx hb dX1_improveForwards_16 rfl (lv_at hl 2 rfl) ?_
        refine lv_iconst (v := 1) hx hb dX1_improveForwards_17 (by decide) ?_
        refine lv_iadd hx hb dX1_improveForwards_18 ?_
        refine lv_iload_n hx hb dX1_improveForwards_19 rfl (lv_at hl 2 rfl) ?_
        refine lv_aload_n hx hb dX1_improveForwards_20 rfl (lv_at hl 0 rfl) ?_
        refine kGet (v := .ref aT_gain) (C := RX1) (T := TX1) (N := 7) hx hb hts hinX1 hown hv 0 rfl rfl 4 (by decide) hk31 (fun _ h9 => h9) rfl dX1_improveForwards_21 ?_
        refine lv_iload_n hx hb dX1_improveForwards_24 rfl (lv_at hl 2 rfl) ?_
        obtain ⟨hi2, hf⟩ := xi_some hf
        refine kIald hx hb hv 5 rfl hi2 dX1_improveForwards_25 ?_
        refine lv_iconst (v := 0) hx hb dX1_improveForwards_26 (by decide) ?_
        obtain ⟨⟨r3, A_gain_4, A_cameFrom_5, A_cameByTaking_6⟩, hcl7, hf⟩ := xb_some hf
        dsimp only at hf
        refine kV_i (r := r3) (wr := [(aT_row, .inr (3, [.int f_row_byEnd, .ref aT_row_numbers, .ref aT_row_begins, .ref aT_row_ends, .ref aT_row_weights, .int f_row_count])), (aT_row_weights, .inl (cy.1, 40, .inl A_row_weights)), (aT_stopAfter, .inl (cy.1, 40, .inl A_stopAfter)), (aT_taken, .inl (cy.2.1, 40, .inl A_taken))]) (w2 := [(aT, .inr (1, [.ref aT_row, .ref aT_stopAfter, .ref aT_taken, .ref aT_waiting, .ref aT_gain, .ref aT_cameFrom, .ref aT_cameByTaking])), (aT_row, .inr (3, [.int f_row_byEnd, .ref aT_row_numbers, .ref aT_row_begins, .ref aT_row_ends, .ref aT_row_weights, .int f_row_count])), (aT_row_weights, .inl (cy.1, 40, .inl A_row_weights)), (aT_stopAfter, .inl (cy.1, 40, .inl A_stopAfter)), (aT_taken, .inl (cy.2.1, 40, .inl A_taken)), (aT_gain, .inl (cy.1, 41, .inl A_gain_4)), (aT_cameFrom, .inl (cy.1, 41, .inl A_cameFrom_5)), (aT_cameByTaking, .inl (cy.2.1, 41, .inl A_cameByTaking_6))]) ⟨hx, hb, hml, hown, hts⟩ (c_X1_reach l G cy k aT aT_row aT_stopAfter aT_taken aT_waiting aT_gain aT_cameFrom aT_cameByTaking A_gain A_cameFrom A_cameByTaking (v2 + 1) v2 (A_gain v2.toNatClampNeg) 0 hcl7) (cwV 4 hts gX1_improveForwards_X1_reach rfl rfl rfl (by decide +kernel) ⟨Nat.le_of_ble_eq_true rfl, Nat.le_of_ble_eq_true rfl⟩) hv (isC := [0, 5, 6, 7]) ⟨rfl, rfl⟩ (hv.recv 1 0 rfl rfl) [1, 2, 3, 4] [4, 0, 1, 2, 3, 5, 6, 7] rfl rfl (by decide) rfl rfl rfl hl.1 rfl (Nat.le_of_ble_eq_true rfl) dX1_improveForwards_27 ⟨Nat.le_of_ble_eq_true rfl, Nat.le_of_ble_eq_true rfl⟩ (fun H locs hv => ?_)
        refine xj_elim hf (fun j35_9 ej35_9 hf => ?_)
        have J35_9 : ∀ (v1_10 : Int32), j35_9 v1_10 = some (r, wA_gain, wA_cameFrom, wA_cameByTaking) → ∀ (H : Heap) (locs : List Loc) (ls : Array Slot), Hv s H locs G cy A [(aT, .inr (1, [.ref aT_row, .ref aT_stopAfter, .ref aT_taken, .ref aT_waiting, .ref aT_gain, .ref aT_cameFrom, .ref aT_cameByTaking])), (aT_row, .inr (3, [.int f_row_byEnd, .ref aT_row_numbers, .ref aT_row_begins, .ref aT_row_ends, .ref aT_row_weights, .int f_row_count])), (aT_row_weights, .inl (cy.1, 40, .inl A_row_weights)), (aT_stopAfter, .inl (cy.1, 40, .inl A_stopAfter)), (aT_taken, .inl (cy.2.1, 40, .inl A_taken)), (aT_gain, .inl (cy.1, 41, .inl A_gain_4)), (aT_cameFrom, .inl (cy.1, 41, .inl A_cameFrom_5)), (aT_cameByTaking, .inl (cy.2.1, 41, .inl A_cameByTaking_6))] → lv_has ls 4 [(0, .ref aT), (1, .int v1_10), (2, .int v2)] → W p l e rm_X1_improveForwards s m args below meth c H locs 0 0 Q (F0 m 35 ls []) := by
          intro v1_10 hf H locs ls hv hl
          rw [ej35_9] at hf
          try dsimp only at hf
          refine lv_aload_n hx hb dX1_improveForwards_35 rfl (lv_at hl 0 rfl) ?_
          refine kGet (v := .ref aT_gain) (C := RX1) (T := TX1) (N := 7) hx hb hts hinX1 hown hv 0 rfl rfl 4 (by decide) hk31 (fun _ h9 => h9) rfl dX1_improveForwards_36 ?_
          refine lv_iload_n hx hb dX1_improveForwards_39 rfl (lv_at hl 2 rfl) ?_
          obtain ⟨hi11, hf⟩ := xi_some hf
          refine kIald hx hb hv 5 rfl hi11 dX1_improveForwards_40 ?_
          refine lv_aload_n hx hb dX1_improveForwards_41 rfl (lv_at hl 0 rfl) ?_
          refine kGet (v := .ref aT_row) (C := RX1) (T := TX1) (N := 7) hx hb hts hinX1 hown hv 0 rfl rfl 0 (by decide) hk14 (fun _ h9 => h9) rfl dX1_improveForwards_42 ?_
          refine kGetN (v := .ref aT_row_weights) (C := RX3) (T := TX3) (N := 6) hx hb hts hinX3 hown hv 1 rfl rfl 4 (by decide) hn74 (fun _ h9 => h9) rfl dX1_improveForwards_45 ?_
          refine lv_iload_n hx hb dX1_improveForwards_48 rfl (lv_at hl 2 rfl) ?_
          obtain ⟨hi12, hf⟩ := xi_some hf
          refine kIald hx hb hv 2 rfl hi12 dX1_improveForwards_49 ?_
          refine lv_iadd hx hb dX1_improveForwards_50 ?_
          refine lv_istore_n (lv' := [(3, .int ((A_gain_4 v2.toNatClampNeg) + (A_row_weights v2.toNatClampNeg))), (0, .ref aT), (1, .int v1_10), (2, .int v2)]) hx hb dX1_improveForwards_51 rfl hl (by decide) rfl (fun ls hl => ?_)
          refine lv_aload_n hx hb dX1_improveForwards_52 rfl (lv_at hl 1 rfl) ?_
          refine kGet (v := .ref aT_taken) (C := RX1) (T := TX1) (N := 7) hx hb hts hinX1 hown hv 0 rfl rfl 2 (by decide) hk24 (fun _ h9 => h9) rfl dX1_improveForwards_53 ?_
          refine lv_iload_n hx hb dX1_improveForwards_56 rfl (lv_at hl 3 rfl) ?_
          obtain ⟨hi13, hf⟩ := xi_some hf
          refine kZald hx hb hv 4 rfl hi13 dX1_improveForwards_57 ?_
          refine lv_if_ne (tgt := 79) hx hb dX1_improveForwards_58 (by decide) (fun hc14 => ?_) (fun hc14 => ?_)
          · replace hf := ite_f hf hc14
            refine lv_iinc (v := v2 + 1) (lv' := [(2, .int (v2 + 1)), (3, .int ((A_gain_4 v2.toNatClampNeg) + (A_row_weights v2.toNatClampNeg))), (0, .ref aT), (1, .int v1_10)]) hx hb dX1_improveForwards_79 hl (k := 3) rfl rfl (by decide) rfl (fun ls hl => ?_)
            refine lv_goto (tgt := 4) hx hb dX1_improveForwards_82 (by decide) ?_
            exact ih v1_10 (v2 + 1) A_gain_4 A_cameFrom_5 A_cameByTaking_6 hf _ _ _ hv (lv_sub hl [2, 3, 0] rfl) hκ
          · replace hf := ite_t hf hc14
            refine lv_aload_n hx hb dX1_improveForwards_61 rfl (lv_at hl 1 rfl) ?_
            refine lv_aload_n hx hb dX1_improveForwards_62 rfl (lv_at hl 1 rfl) ?_
            refine kGet (v := .ref aT_stopAfter) (C := RX1) (T := TX1) (N := 7) hx hb hts hinX1 hown hv 0 rfl rfl 1 (by decide) hk20 (fun _ h9 => h9) rfl dX1_improveForwards_63 ?_
            refine lv_iload_n hx hb dX1_improveForwards_66 rfl (lv_at hl 3 rfl) ?_
            obtain ⟨hi15, hf⟩ := xi_some hf
            refine kIald hx hb hv 3 rfl hi15 dX1_improveForwards_67 ?_
            refine lv_iload_n hx hb dX1_improveForwards_68 rfl (lv_at hl 3 rfl) ?_
            refine lv_iload_n hx hb dX1_improveForwards_69 rfl (lv_at hl 0 rfl) ?_
            refine lv_iconst (v := 1) hx hb dX1_improveForwards_70 (by decide) ?_
            obtain ⟨⟨r16, A_gain_17, A_cameFrom_18, A_cameByTaking_19⟩, hcl20, hf⟩ := xb_some hf
            dsimp only at hf
            refine kV_i (r := r16) (wr := [(aT_row, .inr (3, [.int f_row_byEnd, .ref aT_row_numbers, .ref aT_row_begins, .ref aT_row_ends, .ref aT_row_weights, .int f_row_count])), (aT_row_weights, .inl (cy.1, 40, .inl A_row_weights)), (aT_stopAfter, .inl (cy.1, 40, .inl A_stopAfter)), (aT_taken, .inl (cy.2.1, 40, .inl A_taken))]) (w2 := [(aT, .inr (1, [.ref aT_row, .ref aT_stopAfter, .ref aT_taken, .ref aT_waiting, .ref aT_gain, .ref aT_cameFrom, .ref aT_cameByTaking])), (aT_row, .inr (3, [.int f_row_byEnd, .ref aT_row_numbers, .ref aT_row_begins, .ref aT_row_ends, .ref aT_row_weights, .int f_row_count])), (aT_row_weights, .inl (cy.1, 40, .inl A_row_weights)), (aT_stopAfter, .inl (cy.1, 40, .inl A_stopAfter)), (aT_taken, .inl (cy.2.1, 40, .inl A_taken)), (aT_gain, .inl (cy.1, 41, .inl A_gain_17)), (aT_cameFrom, .inl (cy.1, 41, .inl A_cameFrom_18)), (aT_cameByTaking, .inl (cy.2.1, 41, .inl A_cameByTaking_19))]) ⟨hx, hb, hml, hown, hts⟩ (c_X1_reach l G cy k aT aT_row aT_stopAfter aT_taken aT_waiting aT_gain aT_cameFrom aT_cameByTaking A_gain_4 A_cameFrom_5 A_cameByTaking_6 (A_stopAfter v2.toNatClampNeg) v2 ((A_gain_4 v2.toNatClampNeg) + (A_row_weights v2.toNatClampNeg)) 1 hcl20) (cwV 4 hts gX1_improveForwards_X1_reach rfl rfl rfl (by decide +kernel) ⟨Nat.le_of_ble_eq_true rfl, Nat.le_of_ble_eq_true rfl⟩) hv (isC := [0, 5, 6, 7]) ⟨rfl, rfl⟩ (hv.recv 1 0 rfl rfl) [1, 2, 3, 4] [4, 0, 1, 2, 3, 5, 6, 7] rfl rfl (by decide) rfl rfl rfl hl.1 rfl (Nat.le_of_ble_eq_true rfl) dX1_improveForwards_71 ⟨Nat.le_of_ble_eq_true rfl, Nat.le_of_ble_eq_true rfl⟩ (fun H locs hv => ?_)
            refine lv_if_eq (tgt := 79) hx hb dX1_improveForwards_74 (by decide) (fun hc21 => ?_) (fun hc21 => ?_)
            · replace hf := ite_t hf hc21
              refine lv_iinc (v := v2 + 1) (lv' := [(2, .int (v2 + 1)), (3, .int ((A_gain_4 v2.toNatClampNeg) + (A_row_weights v2.toNatClampNeg))), (0, .ref aT), (1, .int v1_10)]) hx hb dX1_improveForwards_79 hl (k := 3) rfl rfl (by decide) rfl (fun ls hl => ?_)
              refine lv_goto (tgt := 4) hx hb dX1_improveForwards_82 (by decide) ?_
              exact ih v1_10 (v2 + 1) A_gain_17 A_cameFrom_18 A_cameByTaking_19 hf _ _ _ hv (lv_sub hl [2, 3, 0] rfl) hκ
            · replace hf := ite_f hf hc21
              refine lv_iconst (v := 1) hx hb dX1_improveForwards_77 (by decide) ?_
              refine lv_istore_n (lv' := [(1, .int 1), (3, .int ((A_gain_4 v2.toNatClampNeg) + (A_row_weights v2.toNatClampNeg))), (0, .ref aT), (2, .int v2)]) hx hb dX1_improveForwards_78 rfl hl (by decide) rfl (fun ls hl => ?_)
              refine lv_iinc (v := v2 + 1) (lv' := [(2, .int (v2 + 1)), (1, .int 1), (3, .int ((A_gain_4 v2.toNatClampNeg) + (A_row_weights v2.toNatClampNeg))), (0, .ref aT)]) hx hb dX1_improveForwards_79 hl (k := 3) rfl rfl (by decide) rfl (fun ls hl => ?_)
              refine lv_goto (tgt := 4) hx hb dX1_improveForwards_82 (by decide) ?_
              exact ih 1 (v2 + 1) A_gain_17 A_cameFrom_18 A_cameByTaking_19 hf _ _ _ hv (lv_sub hl [3, 1, 0] rfl) hκ
        refine lv_if_eq (tgt := 35) hx hb dX1_improveForwards_30 (by decide) (fun hc8 => ?_) (fun hc8 => ?_)
        · replace hf := ite_t hf hc8
          exact J35_9 v1 hf _ _ _ hv (lv_sub hl [0, 1, 2] rfl)
        · replace hf := ite_f hf hc8
          refine lv_iconst (v := 1) hx hb dX1_improveForwards_33 (by decide) ?_
          refine lv_istore_n (lv' := [(1, .int 1), (0, .ref aT), (2, .int v2)]) hx hb dX1_improveForwards_34 rfl hl (by decide) rfl (fun ls hl => ?_)
          exact J35_9 1 hf _ _ _ hv (lv_sub hl [1, 0, 2] rfl)
  unfold f_X1_improveForwards at hf
  refine lv_iconst (v := 0) hx hb dX1_improveForwards_0 (by decide) ?_
  refine lv_istore_n (lv' := [(1, .int 0), (0, .ref aT)]) hx hb dX1_improveForwards_1 rfl hl (by decide) rfl (fun ls hl => ?_)
  refine lv_iconst (v := 0) hx hb dX1_improveForwards_2 (by decide) ?_
  refine lv_istore_n (lv' := [(2, .int 0), (1, .int 0), (0, .ref aT)]) hx hb dX1_improveForwards_3 rfl hl (by decide) rfl (fun ls hl => ?_)
  refine L4 _ _ _ _ _ _ _ hf _ _ _ hv (lv_sub hl [2, 1, 0] rfl) (fun v1_22 v2_23 A_gain_24 A_cameFrom_25 A_cameByTaking_26 hf H locs ls hv hl => ?_)
  try dsimp only at hf
  refine lv_iload_n hx hb dX1_improveForwards_85 rfl (lv_at hl 0 rfl) ?_
  obtain ⟨hq9, hf⟩ := xq_some hf
  cases hf
  exact kret _ _ _ _ hv dX1_improveForwards_86 hq9

def f_X1_improveBackwards_L10 (k : Nat) (A_row_weights : Nat → Int32) (A_stopAfter : Nat → Int32) (A_taken : Nat → Int32) (A_waiting : Nat → Int32) (κ : Int32 → (Nat → Int32) → (Nat → Int32) → (Nat → Int32) → Option ((Nat → Int32) × (Nat → Int32) × (Nat → Int32))) : Nat → Int32 → (Nat → Int32) → (Nat → Int32) → (Nat → Int32) → Option ((Nat → Int32) × (Nat → Int32) × (Nat → Int32))
  | 0, _, _, _, _ => none
  | n + 1, v1, A_gain, A_cameFrom, A_cameByTaking => if v1 < 0 then κ v1 A_gain A_cameFrom A_cameByTaking else xi v1 40 (xj (fun (A_gain_5 : Nat → Int32) (A_cameFrom_6 : Nat → Int32) (A_cameByTaking_7 : Nat → Int32) => xi v1 40 (if (A_taken v1.toNatClampNeg) = 0 then f_X1_improveBackwards_L10 k A_row_weights A_stopAfter A_taken A_waiting κ n (v1 + (-1)) A_gain_5 A_cameFrom_6 A_cameByTaking_7 else xi v1 40 (xi (A_stopAfter v1.toNatClampNeg) 41 (xi v1 40 (xb (f_X1_reach k v1 (A_stopAfter v1.toNatClampNeg) ((A_gain_5 (A_stopAfter v1.toNatClampNeg).toNatClampNeg) - (A_row_weights v1.toNatClampNeg)) 1 A_gain_5 A_cameFrom_6 A_cameByTaking_7) (fun (r13, A_gain_14, A_cameFrom_15, A_cameByTaking_16) => f_X1_improveBackwards_L10 k A_row_weights A_stopAfter A_taken A_waiting κ n (v1 + (-1)) A_gain_14 A_cameFrom_15 A_cameByTaking_16)))))) (fun (j41_4 : (Nat → Int32) → (Nat → Int32) → (Nat → Int32) → Option ((Nat → Int32) × (Nat → Int32) × (Nat → Int32))) => if (A_waiting v1.toNatClampNeg) ≤ 0 then j41_4 A_gain A_cameFrom A_cameByTaking else xi (v1 + 1) 41 (xb (f_X1_reach k v1 (v1 + 1) (A_gain (v1 + 1).toNatClampNeg) 0 A_gain A_cameFrom A_cameByTaking) (fun (r19, A_gain_20, A_cameFrom_21, A_cameByTaking_22) => j41_4 A_gain_20 A_cameFrom_21 A_cameByTaking_22))))
theorem f_X1_improveBackwards_L10_z (k : Nat) (A_row_weights : Nat → Int32) (A_stopAfter : Nat → Int32) (A_taken : Nat → Int32) (A_waiting : Nat → Int32) (κ : Int32 → (Nat → Int32) → (Nat → Int32) → (Nat → Int32) → Option ((Nat → Int32) × (Nat → Int32) × (Nat → Int32))) (v1 : Int32) (A_gain : Nat → Int32) (A_cameFrom : Nat → Int32) (A_cameByTaking : Nat → Int32) : f_X1_improveBackwards_L10 k A_row_weights A_stopAfter A_taken A_waiting κ 0 v1 A_gain A_cameFrom A_cameByTaking = none := rfl
theorem f_X1_improveBackwards_L10_s (k : Nat) (A_row_weights : Nat → Int32) (A_stopAfter : Nat → Int32) (A_taken : Nat → Int32) (A_waiting : Nat → Int32) (κ : Int32 → (Nat → Int32) → (Nat → Int32) → (Nat → Int32) → Option ((Nat → Int32) × (Nat → Int32) × (Nat → Int32))) (n : Nat) (v1 : Int32) (A_gain : Nat → Int32) (A_cameFrom : Nat → Int32) (A_cameByTaking : Nat → Int32) : f_X1_improveBackwards_L10 k A_row_weights A_stopAfter A_taken A_waiting κ (n + 1) v1 A_gain A_cameFrom A_cameByTaking = if v1 < 0 then κ v1 A_gain A_cameFrom A_cameByTaking else xi v1 40 (xj (fun (A_gain_5 : Nat → Int32) (A_cameFrom_6 : Nat → Int32) (A_cameByTaking_7 : Nat → Int32) => xi v1 40 (if (A_taken v1.toNatClampNeg) = 0 then f_X1_improveBackwards_L10 k A_row_weights A_stopAfter A_taken A_waiting κ n (v1 + (-1)) A_gain_5 A_cameFrom_6 A_cameByTaking_7 else xi v1 40 (xi (A_stopAfter v1.toNatClampNeg) 41 (xi v1 40 (xb (f_X1_reach k v1 (A_stopAfter v1.toNatClampNeg) ((A_gain_5 (A_stopAfter v1.toNatClampNeg).toNatClampNeg) - (A_row_weights v1.toNatClampNeg)) 1 A_gain_5 A_cameFrom_6 A_cameByTaking_7) (fun (r13, A_gain_14, A_cameFrom_15, A_cameByTaking_16) => f_X1_improveBackwards_L10 k A_row_weights A_stopAfter A_taken A_waiting κ n (v1 + (-1)) A_gain_14 A_cameFrom_15 A_cameByTaking_16)))))) (fun (j41_4 : (Nat → Int32) → (Nat → Int32) → (Nat → Int32) → Option ((Nat → Int32) × (Nat → Int32) × (Nat → Int32))) => if (A_waiting v1.toNatClampNeg) ≤ 0 then j41_4 A_gain A_cameFrom A_cameByTaking else xi (v1 + 1) 41 (xb (f_X1_reach k v1 (v1 + 1) (A_gain (v1 + 1).toNatClampNeg) 0 A_gain A_cameFrom A_cameByTaking) (fun (r19, A_gain_20, A_cameFrom_21, A_cameByTaking_22) => j41_4 A_gain_20 A_cameFrom_21 A_cameByTaking_22)))) := rfl
def f_X1_improveBackwards (k : Nat) (f_row_count : Int32) (A_row_weights : Nat → Int32) (A_stopAfter : Nat → Int32) (A_taken : Nat → Int32) (A_waiting : Nat → Int32) (A_gain : Nat → Int32) (A_cameFrom : Nat → Int32) (A_cameByTaking : Nat → Int32) : Option ((Nat → Int32) × (Nat → Int32) × (Nat → Int32)) := f_X1_improveBackwards_L10 k A_row_weights A_stopAfter A_taken A_waiting (fun (v1_24 : Int32) (A_gain_25 : Nat → Int32) (A_cameFrom_26 : Nat → Int32) (A_cameByTaking_27 : Nat → Int32) => some (A_gain_25, A_cameFrom_26, A_cameByTaking_27)) k (f_row_count - 1) A_gain A_cameFrom A_cameByTaking
abbrev rm_X1_improveBackwards : Room := { frames := 1, cells := 0, slots := 0, locals := 24 }
set_option maxHeartbeats 4000000 in
set_option maxRecDepth 100000 in
theorem c_X1_improveBackwards (l : Launch) (G : va_G) (cy : ClassId × ClassId × ClassId) (k : Nat) (aT aT_row aT_stopAfter aT_taken aT_waiting aT_gain aT_cameFrom aT_cameByTaking aT_row_numbers aT_row_begins aT_row_ends aT_row_weights : Nat) (f_row_byEnd : Int32) (f_row_count : Int32) (A_row_weights : Nat → Int32) (A_stopAfter : Nat → Int32) (A_taken : Nat → Int32) (A_waiting : Nat → Int32) (A_gain : Nat → Int32) (A_cameFrom : Nat → Int32) (A_cameByTaking : Nat → Int32) {wA_gain : Nat → Int32} {wA_cameFrom : Nat → Int32} {wA_cameByTaking : Nat → Int32} (hf : f_X1_improveBackwards k f_row_count A_row_weights A_stopAfter A_taken A_waiting A_gain A_cameFrom A_cameByTaking = some (wA_gain, wA_cameFrom, wA_cameByTaking)) : Cv l yX1_improveBackwards wsX1_improveBackwards rm_X1_improveBackwards 0 0 G cy [.ref aT] [(aT, .inr (1, [.ref aT_row, .ref aT_stopAfter, .ref aT_taken, .ref aT_waiting, .ref aT_gain, .ref aT_cameFrom, .ref aT_cameByTaking])), (aT_row, .inr (3, [.int f_row_byEnd, .ref aT_row_numbers, .ref aT_row_begins, .ref aT_row_ends, .ref aT_row_weights, .int f_row_count])), (aT_row_weights, .inl (cy.1, 40, .inl A_row_weights)), (aT_stopAfter, .inl (cy.1, 40, .inl A_stopAfter)), (aT_taken, .inl (cy.2.1, 40, .inl A_taken)), (aT_waiting, .inl (cy.1, 40, .inl A_waiting)), (aT_gain, .inl (cy.1, 41, .inl A_gain)), (aT_cameFrom, .inl (cy.1, 41, .inl A_cameFrom)), (aT_cameByTaking, .inl (cy.2.1, 41, .inl A_cameByTaking))] [(aT, .inr (1, [.ref aT_row, .ref aT_stopAfter, .ref aT_taken, .ref aT_waiting, .ref aT_gain, .ref aT_cameFrom, .ref aT_cameByTaking])), (aT_row, .inr (3, [.int f_row_byEnd, .ref aT_row_numbers, .ref aT_row_begins, .ref aT_row_ends, .ref aT_row_weights, .int f_row_count])), (aT_row_weights, .inl (cy.1, 40, .inl A_row_weights)), (aT_stopAfter, .inl (cy.1, 40, .inl A_stopAfter)), (aT_taken, .inl (cy.2.1, 40, .inl A_taken)), (aT_waiting, .inl (cy.1, 40, .inl A_waiting)), (aT_gain, .inl (cy.1, 41, .inl wA_gain)), (aT_cameFrom, .inl (cy.1, 41, .inl wA_cameFrom)), (aT_cameByTaking, .inl (cy.2.1, 41, .inl wA_cameByTaking))] := by
  refine kMetV (cc := cX1_improveBackwards) (maxL := 3) (by decide) rfl (Nat.le_of_ble_eq_true rfl) ?_
  intro p e s m args below meth c Q A ls hx hb hml hts hown hv hl kret
  replace hown : s.vm.findClass RX1 = some m.cls := hown
  replace hl : lv_has ls 3 [(0, .ref aT)] := hl
  have hk14 : (Cond.fieldLink RX1 14 "Roomcolour$ManyRoomsPlan" "row" "LRoomcolour$Row;").before args s = true := hts _ (by decide +kernel)
  have hinX1 : ∀ w ∈ wsX10, w ∈ wsX1_improveBackwards := by decide +kernel
  have hn46 : (Cond.fieldLinkNest RX1 46 "Roomcolour$Row" "count" "I" RX4).before args s = true := va_Nw.use rfl (hv.2.2.2.2.2.1 _ (by decide +kernel))
  have hinX3 : ∀ w ∈ wsX30, w ∈ wsX1_improveBackwards := by decide +kernel
  have hk28 : (Cond.fieldLink RX1 28 "Roomcolour$ManyRoomsPlan" "waiting" "[I").before args s = true := hts _ (by decide +kernel)
  have hk24 : (Cond.fieldLink RX1 24 "Roomcolour$ManyRoomsPlan" "taken" "[Z").before args s = true := hts _ (by decide +kernel)
  have hk20 : (Cond.fieldLink RX1 20 "Roomcolour$ManyRoomsPlan" "stopAfter" "[I").before args s = true := hts _ (by decide +kernel)
  have hk31 : (Cond.fieldLink RX1 31 "Roomcolour$ManyRoomsPlan" "gain" "[I").before args s = true := hts _ (by decide +kernel)
  have hn74 : (Cond.fieldLinkNest RX1 74 "Roomcolour$Row" "weights" "[I" RX4).before args s = true := va_Nw.use rfl (hv.2.2.2.2.2.1 _ (by decide +kernel))
  have L10 : ∀ (κ : Int32 → (Nat → Int32) → (Nat → Int32) → (Nat → Int32) → Option ((Nat → Int32) × (Nat → Int32) × (Nat → Int32))) (n : Nat) (v1 : Int32) (A_gain : Nat → Int32) (A_cameFrom : Nat → Int32) (A_cameByTaking : Nat → Int32), f_X1_improveBackwards_L10 k A_row_weights A_stopAfter A_taken A_waiting κ n v1 A_gain A_cameFrom A_cameByTaking = some (wA_gain, wA_cameFrom, wA_cameByTaking) → ∀ (H : Heap) (locs : List Loc) (ls : Array Slot), Hv s H locs G cy A [(aT, .inr (1, [.ref aT_row, .ref aT_stopAfter, .ref aT_taken, .ref aT_waiting, .ref aT_gain, .ref aT_cameFrom, .ref aT_cameByTaking])), (aT_row, .inr (3, [.int f_row_byEnd, .ref aT_row_numbers, .ref aT_row_begins, .ref aT_row_ends, .ref aT_row_weights, .int f_row_count])), (aT_row_weights, .inl (cy.1, 40, .inl A_row_weights)), (aT_stopAfter, .inl (cy.1, 40, .inl A_stopAfter)), (aT_taken, .inl (cy.2.1, 40, .inl A_taken)), (aT_waiting, .inl (cy.1, 40, .inl A_waiting)), (aT_gain, .inl (cy.1, 41, .inl A_gain)), (aT_cameFrom, .inl (cy.1, 41, .inl A_cameFrom)), (aT_cameByTaking, .inl (cy.2.1, 41, .inl A_cameByTaking))] → lv_has ls 3 [(0, .ref aT), (1, .int v1)] → (∀ (v1 : Int32) (A_gain : Nat → Int32) (A_cameFrom : Nat → Int32) (A_cameByTaking : Nat → Int32), κ v1 A_gain A_cameFrom A_cameByTaking = some (wA_gain, wA_cameFrom, wA_cameByTaking) → ∀ (H : Heap) (locs : List Loc) (ls : Array Slot), Hv s H locs G cy A [(aT, .inr (1, [.ref aT_row, .ref aT_stopAfter, .ref aT_taken, .ref aT_waiting, .ref aT_gain, .ref aT_cameFrom, .ref aT_cameByTaking])), (aT_row, .inr (3, [.int f_row_byEnd, .ref aT_row_numbers, .ref aT_row_begins, .ref aT_row_ends, .ref aT_row_weights, .int f_row_count])), (aT_row_weights, .inl (cy.1, 40, .inl A_row_weights)), (aT_stopAfter, .inl (cy.1, 40, .inl A_stopAfter)), (aT_taken, .inl (cy.2.1, 40, .inl A_taken)), (aT_waiting, .inl (cy.1, 40, .inl A_waiting)), (aT_gain, .inl (cy.1, 41, .inl A_gain)), (aT_cameFrom, .inl (cy.1, 41, .inl A_cameFrom)), (aT_cameByTaking, .inl (cy.2.1, 41, .inl A_cameByTaking))] → lv_has ls 3 [] → W p l e rm_X1_improveBackwards s m args below meth c H locs 0 0 Q (F0 m 87 ls [])) → W p l e rm_X1_improveBackwards s m args below meth c H locs 0 0 Q (F0 m 10 ls []) := by
    intro κ n
    induction n with
    | zero =>
      intro v1 A_gain A_cameFrom A_cameByTaking hf
      rw [f_X1_improveBackwards_L10_z] at hf
      cases hf
    | succ n ih =>
      intro v1 A_gain A_cameFrom A_cameByTaking hf H locs ls hv hl hκ
      rw [f_X1_improveBackwards_L10_s] at hf
      refine lv_iload_n hx hb dX1_improveBackwards_10 rfl (lv_at hl 1 rfl) ?_
      refine lv_if_lt (tgt := 87) hx hb dX1_improveBackwards_11 (by decide) (fun hc1 => ?_) (fun hc1 => ?_)
      · replace hf := ite_t hf hc1
        exact hκ v1 A_gain A_cameFrom A_cameByTaking hf _ _ _ hv (lv_sub hl [] rfl)
      · replace hf := ite_f hf hc1
        refine lv_aload_n hx hb dX1_improveBackwards_14 rfl (lv_at hl 0 rfl) ?_
        refine kGet (v := .ref aT_waiting) (C := RX1) (T := TX1) (N := 7) hx hb hts hinX1 hown hv 0 rfl rfl 3 (by decide) hk28 (fun _ h9 => h9) rfl dX1_improveBackwards_15 ?_
        refine lv_iload_n hx hb dX1_improveBackwards_18 rfl (lv_at hl 1 rfl) ?_
        obtain ⟨hi2, hf⟩ := xi_some hf
        refine kIald hx hb hv 5 rfl hi2 dX1_improveBackwards_19 ?_
        refine xj_elim hf (fun j41_4 ej41_4 hf => ?_)
        have J41_4 : ∀ (A_gain_5 : Nat → Int32) (A_cameFrom_6 : Nat → Int32) (A_cameByTaking_7 : Nat → Int32), j41_4 A_gain_5 A_cameFrom_6 A_cameByTaking_7 = some (wA_gain, wA_cameFrom, wA_cameByTaking) → ∀ (H : Heap) (locs : List Loc) (ls : Array Slot), Hv s H locs G cy A [(aT, .inr (1, [.ref aT_row, .ref aT_stopAfter, .ref aT_taken, .ref aT_waiting, .ref aT_gain, .ref aT_cameFrom, .ref aT_cameByTaking])), (aT_row, .inr (3, [.int f_row_byEnd, .ref aT_row_numbers, .ref aT_row_begins, .ref aT_row_ends, .ref aT_row_weights, .int f_row_count])), (aT_row_weights, .inl (cy.1, 40, .inl A_row_weights)), (aT_stopAfter, .inl (cy.1, 40, .inl A_stopAfter)), (aT_taken, .inl (cy.2.1, 40, .inl A_taken)), (aT_waiting, .inl (cy.1, 40, .inl A_waiting)), (aT_gain, .inl (cy.1, 41, .inl A_gain_5)), (aT_cameFrom, .inl (cy.1, 41, .inl A_cameFrom_6)), (aT_cameByTaking, .inl (cy.2.1, 41, .inl A_cameByTaking_7))] → lv_has ls 3 [(0, .ref aT), (1, .int v1)] → W p l e rm_X1_improveBackwards s m args below meth c H locs 0 0 Q (F0 m 41 ls []) := by
          intro A_gain_5 A_cameFrom_6 A_cameByTaking_7 hf H locs ls hv hl
          rw [ej41_4] at hf
          try dsimp only at hf
          refine lv_aload_n hx hb dX1_improveBackwards_41 rfl (lv_at hl 0 rfl) ?_
          refine kGet (v := .ref aT_taken) (C := RX1) (T := TX1) (N := 7) hx hb hts hinX1 hown hv 0 rfl rfl 2 (by decide) hk24 (fun _ h9 => h9) rfl dX1_improveBackwards_42 ?_
          refine lv_iload_n hx hb dX1_improveBackwards_45 rfl (lv_at hl 1 rfl) ?_
          obtain ⟨hi8, hf⟩ := xi_some hf
          refine kZald hx hb hv 4 rfl hi8 dX1_improveBackwards_46 ?_
          refine lv_if_eq (tgt := 81) hx hb dX1_improveBackwards_47 (by decide) (fun hc9 => ?_) (fun hc9 => ?_)
          · replace hf := ite_t hf hc9
            refine lv_iinc (v := v1 + (-1)) (lv' := [(1, .int (v1 + (-1))), (0, .ref aT)]) hx hb dX1_improveBackwards_81 hl (k := 1) rfl rfl (by decide) rfl (fun ls hl => ?_)
            refine lv_goto (tgt := 10) hx hb dX1_improveBackwards_84 (by decide) ?_
            exact ih (v1 + (-1)) A_gain_5 A_cameFrom_6 A_cameByTaking_7 hf _ _ _ hv (lv_sub hl [1, 0] rfl) hκ
          · replace hf := ite_f hf hc9
            refine lv_aload_n hx hb dX1_improveBackwards_50 rfl (lv_at hl 0 rfl) ?_
            refine kGet (v := .ref aT_stopAfter) (C := RX1) (T := TX1) (N := 7) hx hb hts hinX1 hown hv 0 rfl rfl 1 (by decide) hk20 (fun _ h9 => h9) rfl dX1_improveBackwards_51 ?_
            refine lv_iload_n hx hb dX1_improveBackwards_54 rfl (lv_at hl 1 rfl) ?_
            obtain ⟨hi10, hf⟩ := xi_some hf
            refine kIald hx hb hv 3 rfl hi10 dX1_improveBackwards_55 ?_
            refine lv_istore_n (lv' := [(2, .int (A_stopAfter v1.toNatClampNeg)), (0, .ref aT), (1, .int v1)]) hx hb dX1_improveBackwards_56 rfl hl (by decide) rfl (fun ls hl => ?_)
            refine lv_aload_n hx hb dX1_improveBackwards_57 rfl (lv_at hl 1 rfl) ?_
            refine lv_iload_n hx hb dX1_improveBackwards_58 rfl (lv_at hl 2 rfl) ?_
            refine lv_iload_n hx hb dX1_improveBackwards_59 rfl (lv_at hl 0 rfl) ?_
            refine lv_aload_n hx hb dX1_improveBackwards_60 rfl (lv_at hl 1 rfl) ?_
            refine kGet (v := .ref aT_gain) (C := RX1) (T := TX1) (N := 7) hx hb hts hinX1 hown hv 0 rfl rfl 4 (by decide) hk31 (fun _ h9 => h9) rfl dX1_improveBackwards_61 ?_
            refine lv_iload_n hx hb dX1_improveBackwards_64 rfl (lv_at hl 0 rfl) ?_
            obtain ⟨hi11, hf⟩ := xi_some hf
            refine kIald hx hb hv 6 rfl hi11 dX1_improveBackwards_65 ?_
            refine lv_aload_n hx hb dX1_improveBackwards_66 rfl (lv_at hl 1 rfl) ?_
            refine kGet (v := .ref aT_row) (C := RX1) (T := TX1) (N := 7) hx hb hts hinX1 hown hv 0 rfl rfl 0 (by decide) hk14 (fun _ h9 => h9) rfl dX1_improveBackwards_67 ?_
            refine kGetN (v := .ref aT_row_weights) (C := RX3) (T := TX3) (N := 6) hx hb hts hinX3 hown hv 1 rfl rfl 4 (by decide) hn74 (fun _ h9 => h9) rfl dX1_improveBackwards_70 ?_
            refine lv_iload_n hx hb dX1_improveBackwards_73 rfl (lv_at hl 2 rfl) ?_
            obtain ⟨hi12, hf⟩ := xi_some hf
            refine kIald hx hb hv 2 rfl hi12 dX1_improveBackwards_74 ?_
            refine lv_isub hx hb dX1_improveBackwards_75 ?_
            refine lv_iconst (v := 1) hx hb dX1_improveBackwards_76 (by decide) ?_
            obtain ⟨⟨r13, A_gain_14, A_cameFrom_15, A_cameByTaking_16⟩, hcl17, hf⟩ := xb_some hf
            dsimp only at hf
            refine kV_i (r := r13) (wr := [(aT_row, .inr (3, [.int f_row_byEnd, .ref aT_row_numbers, .ref aT_row_begins, .ref aT_row_ends, .ref aT_row_weights, .int f_row_count])), (aT_row_weights, .inl (cy.1, 40, .inl A_row_weights)), (aT_stopAfter, .inl (cy.1, 40, .inl A_stopAfter)), (aT_taken, .inl (cy.2.1, 40, .inl A_taken)), (aT_waiting, .inl (cy.1, 40, .inl A_waiting))]) (w2 := [(aT, .inr (1, [.ref aT_row, .ref aT_stopAfter, .ref aT_taken, .ref aT_waiting, .ref aT_gain, .ref aT_cameFrom, .ref aT_cameByTaking])), (aT_row, .inr (3, [.int f_row_byEnd, .ref aT_row_numbers, .ref aT_row_begins, .ref aT_row_ends, .ref aT_row_weights, .int f_row_count])), (aT_row_weights, .inl (cy.1, 40, .inl A_row_weights)), (aT_stopAfter, .inl (cy.1, 40, .inl A_stopAfter)), (aT_taken, .inl (cy.2.1, 40, .inl A_taken)), (aT_waiting, .inl (cy.1, 40, .inl A_waiting)), (aT_gain, .inl (cy.1, 41, .inl A_gain_14)), (aT_cameFrom, .inl (cy.1, 41, .inl A_cameFrom_15)), (aT_cameByTaking, .inl (cy.2.1, 41, .inl A_cameByTaking_16))]) ⟨hx, hb, hml, hown, hts⟩ (c_X1_reach l G cy k aT aT_row aT_stopAfter aT_taken aT_waiting aT_gain aT_cameFrom aT_cameByTaking A_gain_5 A_cameFrom_6 A_cameByTaking_7 v1 (A_stopAfter v1.toNatClampNeg) ((A_gain_5 (A_stopAfter v1.toNatClampNeg).toNatClampNeg) - (A_row_weights v1.toNatClampNeg)) 1 hcl17) (cwV 4 hts gX1_improveBackwards_X1_reach rfl rfl rfl (by decide +kernel) ⟨Nat.le_of_ble_eq_true rfl, Nat.le_of_ble_eq_true rfl⟩) hv (isC := [0, 6, 7, 8]) ⟨rfl, rfl⟩ (hv.recv 1 0 rfl rfl) [1, 2, 3, 4, 5] [5, 0, 1, 2, 3, 4, 6, 7, 8] rfl rfl (by decide) rfl rfl rfl hl.1 rfl (Nat.le_of_ble_eq_true rfl) dX1_improveBackwards_77 ⟨Nat.le_of_ble_eq_true rfl, Nat.le_of_ble_eq_true rfl⟩ (fun H locs hv => ?_)
            refine lv_pop hx hb dX1_improveBackwards_80 rfl ?_
            refine lv_iinc (v := v1 + (-1)) (lv' := [(1, .int (v1 + (-1))), (2, .int (A_stopAfter v1.toNatClampNeg)), (0, .ref aT)]) hx hb dX1_improveBackwards_81 hl (k := 2) rfl rfl (by decide) rfl (fun ls hl => ?_)
            refine lv_goto (tgt := 10) hx hb dX1_improveBackwards_84 (by decide) ?_
            exact ih (v1 + (-1)) A_gain_14 A_cameFrom_15 A_cameByTaking_16 hf _ _ _ hv (lv_sub hl [2, 0] rfl) hκ
        refine lv_if_le (tgt := 41) hx hb dX1_improveBackwards_20 (by decide) (fun hc3 => ?_) (fun hc3 => ?_)
        · replace hf := ite_t hf hc3
          exact J41_4 A_gain A_cameFrom A_cameByTaking hf _ _ _ hv (lv_sub hl [0, 1] rfl)
        · replace hf := ite_f hf hc3
          refine lv_aload_n hx hb dX1_improveBackwards_23 rfl (lv_at hl 0 rfl) ?_
          refine lv_iload_n hx hb dX1_improveBackwards_24 rfl (lv_at hl 1 rfl) ?_
          refine lv_iload_n hx hb dX1_improveBackwards_25 rfl (lv_at hl 1 rfl) ?_
          refine lv_iconst (v := 1) hx hb dX1_improveBackwards_26 (by decide) ?_
          refine lv_iadd hx hb dX1_improveBackwards_27 ?_
          refine lv_aload_n hx hb dX1_improveBackwards_28 rfl (lv_at hl 0 rfl) ?_
          refine kGet (v := .ref aT_gain) (C := RX1) (T := TX1) (N := 7) hx hb hts hinX1 hown hv 0 rfl rfl 4 (by decide) hk31 (fun _ h9 => h9) rfl dX1_improveBackwards_29 ?_
          refine lv_iload_n hx hb dX1_improveBackwards_32 rfl (lv_at hl 1 rfl) ?_
          refine lv_iconst (v := 1) hx hb dX1_improveBackwards_33 (by decide) ?_
          refine lv_iadd hx hb dX1_improveBackwards_34 ?_
          obtain ⟨hi18, hf⟩ := xi_some hf
          refine kIald hx hb hv 6 rfl hi18 dX1_improveBackwards_35 ?_
          refine lv_iconst (v := 0) hx hb dX1_improveBackwards_36 (by decide) ?_
          obtain ⟨⟨r19, A_gain_20, A_cameFrom_21, A_cameByTaking_22⟩, hcl23, hf⟩ := xb_some hf
          dsimp only at hf
          refine kV_i (r := r19) (wr := [(aT_row, .inr (3, [.int f_row_byEnd, .ref aT_row_numbers, .ref aT_row_begins, .ref aT_row_ends, .ref aT_row_weights, .int f_row_count])), (aT_row_weights, .inl (cy.1, 40, .inl A_row_weights)), (aT_stopAfter, .inl (cy.1, 40, .inl A_stopAfter)), (aT_taken, .inl (cy.2.1, 40, .inl A_taken)), (aT_waiting, .inl (cy.1, 40, .inl A_waiting))]) (w2 := [(aT, .inr (1, [.ref aT_row, .ref aT_stopAfter, .ref aT_taken, .ref aT_waiting, .ref aT_gain, .ref aT_cameFrom, .ref aT_cameByTaking])), (aT_row, .inr (3, [.int f_row_byEnd, .ref aT_row_numbers, .ref aT_row_begins, .ref aT_row_ends, .ref aT_row_weights, .int f_row_count])), (aT_row_weights, .inl (cy.1, 40, .inl A_row_weights)), (aT_stopAfter, .inl (cy.1, 40, .inl A_stopAfter)), (aT_taken, .inl (cy.2.1, 40, .inl A_taken)), (aT_waiting, .inl (cy.1, 40, .inl A_waiting)), (aT_gain, .inl (cy.1, 41, .inl A_gain_20)), (aT_cameFrom, .inl (cy.1, 41, .inl A_cameFrom_21)), (aT_cameByTaking, .inl (cy.2.1, 41, .inl A_cameByTaking_22))]) ⟨hx, hb, hml, hown, hts⟩ (c_X1_reach l G cy k aT aT_row aT_stopAfter aT_taken aT_waiting aT_gain aT_cameFrom aT_cameByTaking A_gain A_cameFrom A_cameByTaking v1 (v1 + 1) (A_gain (v1 + 1).toNatClampNeg) 0 hcl23) (cwV 4 hts gX1_improveBackwards_X1_reach rfl rfl rfl (by decide +kernel) ⟨Nat.le_of_ble_eq_true rfl, Nat.le_of_ble_eq_true rfl⟩) hv (isC := [0, 6, 7, 8]) ⟨rfl, rfl⟩ (hv.recv 1 0 rfl rfl) [1, 2, 3, 4, 5] [5, 0, 1, 2, 3, 4, 6, 7, 8] rfl rfl (by decide) rfl rfl rfl hl.1 rfl (Nat.le_of_ble_eq_true rfl) dX1_improveBackwards_37 ⟨Nat.le_of_ble_eq_true rfl, Nat.le_of_ble_eq_true rfl⟩ (fun H locs hv => ?_)
          refine lv_pop hx hb dX1_improveBackwards_40 rfl ?_
          exact J41_4 A_gain_20 A_cameFrom_21 A_cameByTaking_22 hf _ _ _ hv (lv_sub hl [0, 1] rfl)
  unfold f_X1_improveBackwards at hf
  refine lv_aload_n hx hb dX1_improveBackwards_0 rfl (lv_at hl 0 rfl) ?_
  refine kGet (v := .ref aT_row) (C := RX1) (T := TX1) (N := 7) hx hb hts hinX1 hown hv 0 rfl rfl 0 (by decide) hk14 (fun _ h9 => h9) rfl dX1_improveBackwards_1 ?_
  refine kGetN (v := .int f_row_count) (C := RX3) (T := TX3) (N := 6) hx hb hts hinX3 hown hv 1 rfl rfl 5 (by decide) hn46 (fun _ h9 => h9) rfl dX1_improveBackwards_4 ?_
  refine lv_iconst (v := 1) hx hb dX1_improveBackwards_7 (by decide) ?_
  refine lv_isub hx hb dX1_improveBackwards_8 ?_
  refine lv_istore_n (lv' := [(1, .int (f_row_count - 1)), (0, .ref aT)]) hx hb dX1_improveBackwards_9 rfl hl (by decide) rfl (fun ls hl => ?_)
  refine L10 _ _ _ _ _ _ hf _ _ _ hv (lv_sub hl [1, 0] rfl) (fun v1_24 A_gain_25 A_cameFrom_26 A_cameByTaking_27 hf H locs ls hv hl => ?_)
  try dsimp only at hf
  cases hf
  exact kret _ _ _ _ hv dX1_improveBackwards_87

def f_X1_findBestWay_L2 (k : Nat) (f_row_count : Int32) (κ : Int32 → (Nat → Int32) → (Nat → Int32) → (Nat → Int32) → Option ((Nat → Int32) × (Nat → Int32) × (Nat → Int32))) : Nat → Int32 → (Nat → Int32) → (Nat → Int32) → (Nat → Int32) → Option ((Nat → Int32) × (Nat → Int32) × (Nat → Int32))
  | 0, _, _, _, _ => none
  | n + 1, v1, A_gain, A_cameFrom, A_cameByTaking => if f_row_count < v1 then κ v1 A_gain A_cameFrom A_cameByTaking else xi v1 41 (xi v1 41 (xi v1 41 (f_X1_findBestWay_L2 k f_row_count κ n (v1 + 1) (upd A_gain v1.toNatClampNeg 0) (upd A_cameFrom v1.toNatClampNeg (v1 - 1)) (upd A_cameByTaking v1.toNatClampNeg (vp_nar .boolean 0)))))
theorem f_X1_findBestWay_L2_z (k : Nat) (f_row_count : Int32) (κ : Int32 → (Nat → Int32) → (Nat → Int32) → (Nat → Int32) → Option ((Nat → Int32) × (Nat → Int32) × (Nat → Int32))) (v1 : Int32) (A_gain : Nat → Int32) (A_cameFrom : Nat → Int32) (A_cameByTaking : Nat → Int32) : f_X1_findBestWay_L2 k f_row_count κ 0 v1 A_gain A_cameFrom A_cameByTaking = none := rfl
theorem f_X1_findBestWay_L2_s (k : Nat) (f_row_count : Int32) (κ : Int32 → (Nat → Int32) → (Nat → Int32) → (Nat → Int32) → Option ((Nat → Int32) × (Nat → Int32) × (Nat → Int32))) (n : Nat) (v1 : Int32) (A_gain : Nat → Int32) (A_cameFrom : Nat → Int32) (A_cameByTaking : Nat → Int32) : f_X1_findBestWay_L2 k f_row_count κ (n + 1) v1 A_gain A_cameFrom A_cameByTaking = if f_row_count < v1 then κ v1 A_gain A_cameFrom A_cameByTaking else xi v1 41 (xi v1 41 (xi v1 41 (f_X1_findBestWay_L2 k f_row_count κ n (v1 + 1) (upd A_gain v1.toNatClampNeg 0) (upd A_cameFrom v1.toNatClampNeg (v1 - 1)) (upd A_cameByTaking v1.toNatClampNeg (vp_nar .boolean 0))))) := rfl
def f_X1_findBestWay_L44 (k : Nat) (f_row_count : Int32) (A_row_weights : Nat → Int32) (A_stopAfter : Nat → Int32) (A_taken : Nat → Int32) (A_waiting : Nat → Int32) (κ : Int32 → (Nat → Int32) → (Nat → Int32) → (Nat → Int32) → Option ((Nat → Int32) × (Nat → Int32) × (Nat → Int32))) : Nat → Int32 → (Nat → Int32) → (Nat → Int32) → (Nat → Int32) → Option ((Nat → Int32) × (Nat → Int32) × (Nat → Int32))
  | 0, _, _, _, _ => none
  | n + 1, v1, A_gain, A_cameFrom, A_cameByTaking => if f_row_count < v1 then κ v1 A_gain A_cameFrom A_cameByTaking else xb (f_X1_improveForwards k f_row_count A_row_weights A_stopAfter A_taken A_gain A_cameFrom A_cameByTaking) (fun (r10, A_gain_11, A_cameFrom_12, A_cameByTaking_13) => if r10 = 0 then κ v1 A_gain_11 A_cameFrom_12 A_cameByTaking_13 else xb (f_X1_improveBackwards k f_row_count A_row_weights A_stopAfter A_taken A_waiting A_gain_11 A_cameFrom_12 A_cameByTaking_13) (fun (A_gain_16, A_cameFrom_17, A_cameByTaking_18) => f_X1_findBestWay_L44 k f_row_count A_row_weights A_stopAfter A_taken A_waiting κ n (v1 + 1) A_gain_16 A_cameFrom_17 A_cameByTaking_18))
theorem f_X1_findBestWay_L44_z (k : Nat) (f_row_count : Int32) (A_row_weights : Nat → Int32) (A_stopAfter : Nat → Int32) (A_taken : Nat → Int32) (A_waiting : Nat → Int32) (κ : Int32 → (Nat → Int32) → (Nat → Int32) → (Nat → Int32) → Option ((Nat → Int32) × (Nat → Int32) × (Nat → Int32))) (v1 : Int32) (A_gain : Nat → Int32) (A_cameFrom : Nat → Int32) (A_cameByTaking : Nat → Int32) : f_X1_findBestWay_L44 k f_row_count A_row_weights A_stopAfter A_taken A_waiting κ 0 v1 A_gain A_cameFrom A_cameByTaking = none := rfl
theorem f_X1_findBestWay_L44_s (k : Nat) (f_row_count : Int32) (A_row_weights : Nat → Int32) (A_stopAfter : Nat → Int32) (A_taken : Nat → Int32) (A_waiting : Nat → Int32) (κ : Int32 → (Nat → Int32) → (Nat → Int32) → (Nat → Int32) → Option ((Nat → Int32) × (Nat → Int32) × (Nat → Int32))) (n : Nat) (v1 : Int32) (A_gain : Nat → Int32) (A_cameFrom : Nat → Int32) (A_cameByTaking : Nat → Int32) : f_X1_findBestWay_L44 k f_row_count A_row_weights A_stopAfter A_taken A_waiting κ (n + 1) v1 A_gain A_cameFrom A_cameByTaking = if f_row_count < v1 then κ v1 A_gain A_cameFrom A_cameByTaking else xb (f_X1_improveForwards k f_row_count A_row_weights A_stopAfter A_taken A_gain A_cameFrom A_cameByTaking) (fun (r10, A_gain_11, A_cameFrom_12, A_cameByTaking_13) => if r10 = 0 then κ v1 A_gain_11 A_cameFrom_12 A_cameByTaking_13 else xb (f_X1_improveBackwards k f_row_count A_row_weights A_stopAfter A_taken A_waiting A_gain_11 A_cameFrom_12 A_cameByTaking_13) (fun (A_gain_16, A_cameFrom_17, A_cameByTaking_18) => f_X1_findBestWay_L44 k f_row_count A_row_weights A_stopAfter A_taken A_waiting κ n (v1 + 1) A_gain_16 A_cameFrom_17 A_cameByTaking_18)) := rfl
def f_X1_findBestWay (k : Nat) (f_row_count : Int32) (A_row_weights : Nat → Int32) (A_stopAfter : Nat → Int32) (A_taken : Nat → Int32) (A_waiting : Nat → Int32) (A_gain : Nat → Int32) (A_cameFrom : Nat → Int32) (A_cameByTaking : Nat → Int32) : Option ((Nat → Int32) × (Nat → Int32) × (Nat → Int32)) := f_X1_findBestWay_L2 k f_row_count (fun (v1_5 : Int32) (A_gain_6 : Nat → Int32) (A_cameFrom_7 : Nat → Int32) (A_cameByTaking_8 : Nat → Int32) => f_X1_findBestWay_L44 k f_row_count A_row_weights A_stopAfter A_taken A_waiting (fun (v1_20 : Int32) (A_gain_21 : Nat → Int32) (A_cameFrom_22 : Nat → Int32) (A_cameByTaking_23 : Nat → Int32) => some (A_gain_21, A_cameFrom_22, A_cameByTaking_23)) k 0 A_gain_6 A_cameFrom_7 A_cameByTaking_8) k 0 A_gain A_cameFrom A_cameByTaking
abbrev rm_X1_findBestWay : Room := { frames := 2, cells := 0, slots := 0, locals := 47 }
set_option maxHeartbeats 4000000 in
set_option maxRecDepth 100000 in
theorem c_X1_findBestWay (l : Launch) (G : va_G) (cy : ClassId × ClassId × ClassId) (k : Nat) (aT aT_row aT_stopAfter aT_taken aT_waiting aT_gain aT_cameFrom aT_cameByTaking aT_row_numbers aT_row_begins aT_row_ends aT_row_weights : Nat) (f_row_byEnd : Int32) (f_row_count : Int32) (A_row_weights : Nat → Int32) (A_stopAfter : Nat → Int32) (A_taken : Nat → Int32) (A_waiting : Nat → Int32) (A_gain : Nat → Int32) (A_cameFrom : Nat → Int32) (A_cameByTaking : Nat → Int32) {wA_gain : Nat → Int32} {wA_cameFrom : Nat → Int32} {wA_cameByTaking : Nat → Int32} (hf : f_X1_findBestWay k f_row_count A_row_weights A_stopAfter A_taken A_waiting A_gain A_cameFrom A_cameByTaking = some (wA_gain, wA_cameFrom, wA_cameByTaking)) : Cv l yX1_findBestWay wsX1_findBestWay rm_X1_findBestWay 0 0 G cy [.ref aT] [(aT, .inr (1, [.ref aT_row, .ref aT_stopAfter, .ref aT_taken, .ref aT_waiting, .ref aT_gain, .ref aT_cameFrom, .ref aT_cameByTaking])), (aT_row, .inr (3, [.int f_row_byEnd, .ref aT_row_numbers, .ref aT_row_begins, .ref aT_row_ends, .ref aT_row_weights, .int f_row_count])), (aT_row_weights, .inl (cy.1, 40, .inl A_row_weights)), (aT_stopAfter, .inl (cy.1, 40, .inl A_stopAfter)), (aT_taken, .inl (cy.2.1, 40, .inl A_taken)), (aT_waiting, .inl (cy.1, 40, .inl A_waiting)), (aT_gain, .inl (cy.1, 41, .inl A_gain)), (aT_cameFrom, .inl (cy.1, 41, .inl A_cameFrom)), (aT_cameByTaking, .inl (cy.2.1, 41, .inl A_cameByTaking))] [(aT, .inr (1, [.ref aT_row, .ref aT_stopAfter, .ref aT_taken, .ref aT_waiting, .ref aT_gain, .ref aT_cameFrom, .ref aT_cameByTaking])), (aT_row, .inr (3, [.int f_row_byEnd, .ref aT_row_numbers, .ref aT_row_begins, .ref aT_row_ends, .ref aT_row_weights, .int f_row_count])), (aT_row_weights, .inl (cy.1, 40, .inl A_row_weights)), (aT_stopAfter, .inl (cy.1, 40, .inl A_stopAfter)), (aT_taken, .inl (cy.2.1, 40, .inl A_taken)), (aT_waiting, .inl (cy.1, 40, .inl A_waiting)), (aT_gain, .inl (cy.1, 41, .inl wA_gain)), (aT_cameFrom, .inl (cy.1, 41, .inl wA_cameFrom)), (aT_cameByTaking, .inl (cy.2.1, 41, .inl wA_cameByTaking))] := by
  refine kMetV (cc := cX1_findBestWay) (maxL := 2) (by decide) rfl (Nat.le_of_ble_eq_true rfl) ?_
  intro p e s m args below meth c Q A ls hx hb hml hts hown hv hl kret
  replace hown : s.vm.findClass RX1 = some m.cls := hown
  replace hl : lv_has ls 2 [(0, .ref aT)] := hl
  have hk14 : (Cond.fieldLink RX1 14 "Roomcolour$ManyRoomsPlan" "row" "LRoomcolour$Row;").before args s = true := hts _ (by decide +kernel)
  have hinX1 : ∀ w ∈ wsX10, w ∈ wsX1_findBestWay := by decide +kernel
  have hn46 : (Cond.fieldLinkNest RX1 46 "Roomcolour$Row" "count" "I" RX4).before args s = true := va_Nw.use rfl (hv.2.2.2.2.2.1 _ (by decide +kernel))
  have hinX3 : ∀ w ∈ wsX30, w ∈ wsX1_findBestWay := by decide +kernel
  have hk31 : (Cond.fieldLink RX1 31 "Roomcolour$ManyRoomsPlan" "gain" "[I").before args s = true := hts _ (by decide +kernel)
  have hk34 : (Cond.fieldLink RX1 34 "Roomcolour$ManyRoomsPlan" "cameFrom" "[I").before args s = true := hts _ (by decide +kernel)
  have hk37 : (Cond.fieldLink RX1 37 "Roomcolour$ManyRoomsPlan" "cameByTaking" "[Z").before args s = true := hts _ (by decide +kernel)
  have L2 : ∀ (κ : Int32 → (Nat → Int32) → (Nat → Int32) → (Nat → Int32) → Option ((Nat → Int32) × (Nat → Int32) × (Nat → Int32))) (n : Nat) (v1 : Int32) (A_gain : Nat → Int32) (A_cameFrom : Nat → Int32) (A_cameByTaking : Nat → Int32), f_X1_findBestWay_L2 k f_row_count κ n v1 A_gain A_cameFrom A_cameByTaking = some (wA_gain, wA_cameFrom, wA_cameByTaking) → ∀ (H : Heap) (locs : List Loc) (ls : Array Slot), Hv s H locs G cy A [(aT, .inr (1, [.ref aT_row, .ref aT_stopAfter, .ref aT_taken, .ref aT_waiting, .ref aT_gain, .ref aT_cameFrom, .ref aT_cameByTaking])), (aT_row, .inr (3, [.int f_row_byEnd, .ref aT_row_numbers, .ref aT_row_begins, .ref aT_row_ends, .ref aT_row_weights, .int f_row_count])), (aT_row_weights, .inl (cy.1, 40, .inl A_row_weights)), (aT_stopAfter, .inl (cy.1, 40, .inl A_stopAfter)), (aT_taken, .inl (cy.2.1, 40, .inl A_taken)), (aT_waiting, .inl (cy.1, 40, .inl A_waiting)), (aT_gain, .inl (cy.1, 41, .inl A_gain)), (aT_cameFrom, .inl (cy.1, 41, .inl A_cameFrom)), (aT_cameByTaking, .inl (cy.2.1, 41, .inl A_cameByTaking))] → lv_has ls 2 [(0, .ref aT), (1, .int v1)] → (∀ (v1 : Int32) (A_gain : Nat → Int32) (A_cameFrom : Nat → Int32) (A_cameByTaking : Nat → Int32), κ v1 A_gain A_cameFrom A_cameByTaking = some (wA_gain, wA_cameFrom, wA_cameByTaking) → ∀ (H : Heap) (locs : List Loc) (ls : Array Slot), Hv s H locs G cy A [(aT, .inr (1, [.ref aT_row, .ref aT_stopAfter, .ref aT_taken, .ref aT_waiting, .ref aT_gain, .ref aT_cameFrom, .ref aT_cameByTaking])), (aT_row, .inr (3, [.int f_row_byEnd, .ref aT_row_numbers, .ref aT_row_begins, .ref aT_row_ends, .ref aT_row_weights, .int f_row_count])), (aT_row_weights, .inl (cy.1, 40, .inl A_row_weights)), (aT_stopAfter, .inl (cy.1, 40, .inl A_stopAfter)), (aT_taken, .inl (cy.2.1, 40, .inl A_taken)), (aT_waiting, .inl (cy.1, 40, .inl A_waiting)), (aT_gain, .inl (cy.1, 41, .inl A_gain)), (aT_cameFrom, .inl (cy.1, 41, .inl A_cameFrom)), (aT_cameByTaking, .inl (cy.2.1, 41, .inl A_cameByTaking))] → lv_has ls 2 [(0, .ref aT)] → W p l e rm_X1_findBestWay s m args below meth c H locs 0 0 Q (F0 m 42 ls [])) → W p l e rm_X1_findBestWay s m args below meth c H locs 0 0 Q (F0 m 2 ls []) := by
    intro κ n
    induction n with
    | zero =>
      intro v1 A_gain A_cameFrom A_cameByTaking hf
      rw [f_X1_findBestWay_L2_z] at hf
      cases hf
    | succ n ih =>
      intro v1 A_gain A_cameFrom A_cameByTaking hf H locs ls hv hl hκ
      rw [f_X1_findBestWay_L2_s] at hf
      refine lv_iload_n hx hb dX1_findBestWay_2 rfl (lv_at hl 1 rfl) ?_
      refine lv_aload_n hx hb dX1_findBestWay_3 rfl (lv_at hl 0 rfl) ?_
      refine kGet (v := .ref aT_row) (C := RX1) (T := TX1) (N := 7) hx hb hts hinX1 hown hv 0 rfl rfl 0 (by decide) hk14 (fun _ h9 => h9) rfl dX1_findBestWay_4 ?_
      refine kGetN (v := .int f_row_count) (C := RX3) (T := TX3) (N := 6) hx hb hts hinX3 hown hv 1 rfl rfl 5 (by decide) hn46 (fun _ h9 => h9) rfl dX1_findBestWay_7 ?_
      refine lv_icmp_gt (tgt := 42) hx hb dX1_findBestWay_10 (by decide) (fun hc1 => ?_) (fun hc1 => ?_)
      · replace hf := ite_t hf hc1
        exact hκ v1 A_gain A_cameFrom A_cameByTaking hf _ _ _ hv (lv_sub hl [0] rfl)
      · replace hf := ite_f hf hc1
        refine lv_aload_n hx hb dX1_findBestWay_13 rfl (lv_at hl 0 rfl) ?_
        refine kGet (v := .ref aT_gain) (C := RX1) (T := TX1) (N := 7) hx hb hts hinX1 hown hv 0 rfl rfl 4 (by decide) hk31 (fun _ h9 => h9) rfl dX1_findBestWay_14 ?_
        refine lv_iload_n hx hb dX1_findBestWay_17 rfl (lv_at hl 1 rfl) ?_
        refine lv_iconst (v := 0) hx hb dX1_findBestWay_18 (by decide) ?_
        obtain ⟨hi2, hf⟩ := xi_some hf
        refine kIast hx hb hv 6 rfl hi2 dX1_findBestWay_19 (fun H locs hv => ?_)
        replace hv : Hv s H locs G cy A [(aT, .inr (1, [.ref aT_row, .ref aT_stopAfter, .ref aT_taken, .ref aT_waiting, .ref aT_gain, .ref aT_cameFrom, .ref aT_cameByTaking])), (aT_row, .inr (3, [.int f_row_byEnd, .ref aT_row_numbers, .ref aT_row_begins, .ref aT_row_ends, .ref aT_row_weights, .int f_row_count])), (aT_row_weights, .inl (cy.1, 40, .inl A_row_weights)), (aT_stopAfter, .inl (cy.1, 40, .inl A_stopAfter)), (aT_taken, .inl (cy.2.1, 40, .inl A_taken)), (aT_waiting, .inl (cy.1, 40, .inl A_waiting)), (aT_gain, .inl (cy.1, 41, .inl (upd A_gain v1.toNatClampNeg 0))), (aT_cameFrom, .inl (cy.1, 41, .inl A_cameFrom)), (aT_cameByTaking, .inl (cy.2.1, 41, .inl A_cameByTaking))] := hv
        refine lv_aload_n hx hb dX1_findBestWay_20 rfl (lv_at hl 0 rfl) ?_
        refine kGet (v := .ref aT_cameFrom) (C := RX1) (T := TX1) (N := 7) hx hb hts hinX1 hown hv 0 rfl rfl 5 (by decide) hk34 (fun _ h9 => h9) rfl dX1_findBestWay_21 ?_
        refine lv_iload_n hx hb dX1_findBestWay_24 rfl (lv_at hl 1 rfl) ?_
        refine lv_iload_n hx hb dX1_findBestWay_25 rfl (lv_at hl 1 rfl) ?_
        refine lv_iconst (v := 1) hx hb dX1_findBestWay_26 (by decide) ?_
        refine lv_isub hx hb dX1_findBestWay_27 ?_
        obtain ⟨hi3, hf⟩ := xi_some hf
        refine kIast hx hb hv 7 rfl hi3 dX1_findBestWay_28 (fun H locs hv => ?_)
        replace hv : Hv s H locs G cy A [(aT, .inr (1, [.ref aT_row, .ref aT_stopAfter, .ref aT_taken, .ref aT_waiting, .ref aT_gain, .ref aT_cameFrom, .ref aT_cameByTaking])), (aT_row, .inr (3, [.int f_row_byEnd, .ref aT_row_numbers, .ref aT_row_begins, .ref aT_row_ends, .ref aT_row_weights, .int f_row_count])), (aT_row_weights, .inl (cy.1, 40, .inl A_row_weights)), (aT_stopAfter, .inl (cy.1, 40, .inl A_stopAfter)), (aT_taken, .inl (cy.2.1, 40, .inl A_taken)), (aT_waiting, .inl (cy.1, 40, .inl A_waiting)), (aT_gain, .inl (cy.1, 41, .inl (upd A_gain v1.toNatClampNeg 0))), (aT_cameFrom, .inl (cy.1, 41, .inl (upd A_cameFrom v1.toNatClampNeg (v1 - 1)))), (aT_cameByTaking, .inl (cy.2.1, 41, .inl A_cameByTaking))] := hv
        refine lv_aload_n hx hb dX1_findBestWay_29 rfl (lv_at hl 0 rfl) ?_
        refine kGet (v := .ref aT_cameByTaking) (C := RX1) (T := TX1) (N := 7) hx hb hts hinX1 hown hv 0 rfl rfl 6 (by decide) hk37 (fun _ h9 => h9) rfl dX1_findBestWay_30 ?_
        refine lv_iload_n hx hb dX1_findBestWay_33 rfl (lv_at hl 1 rfl) ?_
        refine lv_iconst (v := 0) hx hb dX1_findBestWay_34 (by decide) ?_
        obtain ⟨hi4, hf⟩ := xi_some hf
        refine kZast hx hb hv 8 rfl hi4 dX1_findBestWay_35 (fun H locs hv => ?_)
        replace hv : Hv s H locs G cy A [(aT, .inr (1, [.ref aT_row, .ref aT_stopAfter, .ref aT_taken, .ref aT_waiting, .ref aT_gain, .ref aT_cameFrom, .ref aT_cameByTaking])), (aT_row, .inr (3, [.int f_row_byEnd, .ref aT_row_numbers, .ref aT_row_begins, .ref aT_row_ends, .ref aT_row_weights, .int f_row_count])), (aT_row_weights, .inl (cy.1, 40, .inl A_row_weights)), (aT_stopAfter, .inl (cy.1, 40, .inl A_stopAfter)), (aT_taken, .inl (cy.2.1, 40, .inl A_taken)), (aT_waiting, .inl (cy.1, 40, .inl A_waiting)), (aT_gain, .inl (cy.1, 41, .inl (upd A_gain v1.toNatClampNeg 0))), (aT_cameFrom, .inl (cy.1, 41, .inl (upd A_cameFrom v1.toNatClampNeg (v1 - 1)))), (aT_cameByTaking, .inl (cy.2.1, 41, .inl (upd A_cameByTaking v1.toNatClampNeg (vp_nar .boolean 0))))] := hv
        refine lv_iinc (v := v1 + 1) (lv' := [(1, .int (v1 + 1)), (0, .ref aT)]) hx hb dX1_findBestWay_36 hl (k := 1) rfl rfl (by decide) rfl (fun ls hl => ?_)
        refine lv_goto (tgt := 2) hx hb dX1_findBestWay_39 (by decide) ?_
        exact ih (v1 + 1) (upd A_gain v1.toNatClampNeg 0) (upd A_cameFrom v1.toNatClampNeg (v1 - 1)) (upd A_cameByTaking v1.toNatClampNeg (vp_nar .boolean 0)) hf _ _ _ hv (lv_sub hl [1, 0] rfl) hκ
  have L44 : ∀ (κ : Int32 → (Nat → Int32) → (Nat → Int32) → (Nat → Int32) → Option ((Nat → Int32) × (Nat → Int32) × (Nat → Int32))) (n : Nat) (v1 : Int32) (A_gain : Nat → Int32) (A_cameFrom : Nat → Int32) (A_cameByTaking : Nat → Int32), f_X1_findBestWay_L44 k f_row_count A_row_weights A_stopAfter A_taken A_waiting κ n v1 A_gain A_cameFrom A_cameByTaking = some (wA_gain, wA_cameFrom, wA_cameByTaking) → ∀ (H : Heap) (locs : List Loc) (ls : Array Slot), Hv s H locs G cy A [(aT, .inr (1, [.ref aT_row, .ref aT_stopAfter, .ref aT_taken, .ref aT_waiting, .ref aT_gain, .ref aT_cameFrom, .ref aT_cameByTaking])), (aT_row, .inr (3, [.int f_row_byEnd, .ref aT_row_numbers, .ref aT_row_begins, .ref aT_row_ends, .ref aT_row_weights, .int f_row_count])), (aT_row_weights, .inl (cy.1, 40, .inl A_row_weights)), (aT_stopAfter, .inl (cy.1, 40, .inl A_stopAfter)), (aT_taken, .inl (cy.2.1, 40, .inl A_taken)), (aT_waiting, .inl (cy.1, 40, .inl A_waiting)), (aT_gain, .inl (cy.1, 41, .inl A_gain)), (aT_cameFrom, .inl (cy.1, 41, .inl A_cameFrom)), (aT_cameByTaking, .inl (cy.2.1, 41, .inl A_cameByTaking))] → lv_has ls 2 [(0, .ref aT), (1, .int v1)] → (∀ (v1 : Int32) (A_gain : Nat → Int32) (A_cameFrom : Nat → Int32) (A_cameByTaking : Nat → Int32), κ v1 A_gain A_cameFrom A_cameByTaking = some (wA_gain, wA_cameFrom, wA_cameByTaking) → ∀ (H : Heap) (locs : List Loc) (ls : Array Slot), Hv s H locs G cy A [(aT, .inr (1, [.ref aT_row, .ref aT_stopAfter, .ref aT_taken, .ref aT_waiting, .ref aT_gain, .ref aT_cameFrom, .ref aT_cameByTaking])), (aT_row, .inr (3, [.int f_row_byEnd, .ref aT_row_numbers, .ref aT_row_begins, .ref aT_row_ends, .ref aT_row_weights, .int f_row_count])), (aT_row_weights, .inl (cy.1, 40, .inl A_row_weights)), (aT_stopAfter, .inl (cy.1, 40, .inl A_stopAfter)), (aT_taken, .inl (cy.2.1, 40, .inl A_taken)), (aT_waiting, .inl (cy.1, 40, .inl A_waiting)), (aT_gain, .inl (cy.1, 41, .inl A_gain)), (aT_cameFrom, .inl (cy.1, 41, .inl A_cameFrom)), (aT_cameByTaking, .inl (cy.2.1, 41, .inl A_cameByTaking))] → lv_has ls 2 [] → W p l e rm_X1_findBestWay s m args below meth c H locs 0 0 Q (F0 m 72 ls [])) → W p l e rm_X1_findBestWay s m args below meth c H locs 0 0 Q (F0 m 44 ls []) := by
    intro κ n
    induction n with
    | zero =>
      intro v1 A_gain A_cameFrom A_cameByTaking hf
      rw [f_X1_findBestWay_L44_z] at hf
      cases hf
    | succ n ih =>
      intro v1 A_gain A_cameFrom A_cameByTaking hf H locs ls hv hl hκ
      rw [f_X1_findBestWay_L44_s] at hf
      refine lv_iload_n hx hb dX1_findBestWay_44 rfl (lv_at hl 1 rfl) ?_
      refine lv_aload_n hx hb dX1_findBestWay_45 rfl (lv_at hl 0 rfl) ?_
      refine kGet (v := .ref aT_row) (C := RX1) (T := TX1) (N := 7) hx hb hts hinX1 hown hv 0 rfl rfl 0 (by decide) hk14 (fun _ h9 => h9) rfl dX1_findBestWay_46 ?_
      refine kGetN (v := .int f_row_count) (C := RX3) (T := TX3) (N := 6) hx hb hts hinX3 hown hv 1 rfl rfl 5 (by decide) hn46 (fun _ h9 => h9) rfl dX1_findBestWay_49 ?_
      refine lv_icmp_gt (tgt := 72) hx hb dX1_findBestWay_52 (by decide) (fun hc9 => ?_) (fun hc9 => ?_)
      · replace hf := ite_t hf hc9
        exact hκ v1 A_gain A_cameFrom A_cameByTaking hf _ _ _ hv (lv_sub hl [] rfl)
      · replace hf := ite_f hf hc9
        refine lv_aload_n hx hb dX1_findBestWay_55 rfl (lv_at hl 0 rfl) ?_
        obtain ⟨⟨r10, A_gain_11, A_cameFrom_12, A_cameByTaking_13⟩, hcl14, hf⟩ := xb_some hf
        dsimp only at hf
        refine kV_i (r := r10) (wr := [(aT_waiting, .inl (cy.1, 40, .inl A_waiting))]) (w2 := [(aT, .inr (1, [.ref aT_row, .ref aT_stopAfter, .ref aT_taken, .ref aT_waiting, .ref aT_gain, .ref aT_cameFrom, .ref aT_cameByTaking])), (aT_row, .inr (3, [.int f_row_byEnd, .ref aT_row_numbers, .ref aT_row_begins, .ref aT_row_ends, .ref aT_row_weights, .int f_row_count])), (aT_row_weights, .inl (cy.1, 40, .inl A_row_weights)), (aT_stopAfter, .inl (cy.1, 40, .inl A_stopAfter)), (aT_taken, .inl (cy.2.1, 40, .inl A_taken)), (aT_waiting, .inl (cy.1, 40, .inl A_waiting)), (aT_gain, .inl (cy.1, 41, .inl A_gain_11)), (aT_cameFrom, .inl (cy.1, 41, .inl A_cameFrom_12)), (aT_cameByTaking, .inl (cy.2.1, 41, .inl A_cameByTaking_13))]) ⟨hx, hb, hml, hown, hts⟩ (c_X1_improveForwards l G cy k aT aT_row aT_stopAfter aT_taken aT_waiting aT_gain aT_cameFrom aT_cameByTaking aT_row_numbers aT_row_begins aT_row_ends aT_row_weights f_row_byEnd f_row_count A_row_weights A_stopAfter A_taken A_gain A_cameFrom A_cameByTaking hcl14) (cwV 0 hts gX1_findBestWay_X1_improveForwards rfl rfl rfl (by decide +kernel) ⟨Nat.le_of_ble_eq_true rfl, Nat.le_of_ble_eq_true rfl⟩) hv (isC := [0, 1, 2, 3, 4, 6, 7, 8]) ⟨rfl, rfl⟩ (hv.recv 1 0 rfl rfl) [5] [1, 2, 3, 4, 5, 0, 6, 7, 8] rfl rfl (by decide) rfl rfl rfl hl.1 rfl (Nat.le_of_ble_eq_true rfl) dX1_findBestWay_56 ⟨Nat.le_of_ble_eq_true rfl, Nat.le_of_ble_eq_true rfl⟩ (fun H locs hv => ?_)
        refine lv_if_eq (tgt := 72) hx hb dX1_findBestWay_59 (by decide) (fun hc15 => ?_) (fun hc15 => ?_)
        · replace hf := ite_t hf hc15
          exact hκ v1 A_gain_11 A_cameFrom_12 A_cameByTaking_13 hf _ _ _ hv (lv_sub hl [] rfl)
        · replace hf := ite_f hf hc15
          refine lv_aload_n hx hb dX1_findBestWay_62 rfl (lv_at hl 0 rfl) ?_
          obtain ⟨⟨A_gain_16, A_cameFrom_17, A_cameByTaking_18⟩, hcl19, hf⟩ := xb_some hf
          dsimp only at hf
          refine kV_v (wr := []) (w2 := [(aT, .inr (1, [.ref aT_row, .ref aT_stopAfter, .ref aT_taken, .ref aT_waiting, .ref aT_gain, .ref aT_cameFrom, .ref aT_cameByTaking])), (aT_row, .inr (3, [.int f_row_byEnd, .ref aT_row_numbers, .ref aT_row_begins, .ref aT_row_ends, .ref aT_row_weights, .int f_row_count])), (aT_row_weights, .inl (cy.1, 40, .inl A_row_weights)), (aT_stopAfter, .inl (cy.1, 40, .inl A_stopAfter)), (aT_taken, .inl (cy.2.1, 40, .inl A_taken)), (aT_waiting, .inl (cy.1, 40, .inl A_waiting)), (aT_gain, .inl (cy.1, 41, .inl A_gain_16)), (aT_cameFrom, .inl (cy.1, 41, .inl A_cameFrom_17)), (aT_cameByTaking, .inl (cy.2.1, 41, .inl A_cameByTaking_18))]) ⟨hx, hb, hml, hown, hts⟩ (c_X1_improveBackwards l G cy k aT aT_row aT_stopAfter aT_taken aT_waiting aT_gain aT_cameFrom aT_cameByTaking aT_row_numbers aT_row_begins aT_row_ends aT_row_weights f_row_byEnd f_row_count A_row_weights A_stopAfter A_taken A_waiting A_gain_11 A_cameFrom_12 A_cameByTaking_13 hcl19) (cwV 0 hts gX1_findBestWay_X1_improveBackwards rfl rfl rfl (by decide +kernel) ⟨Nat.le_of_ble_eq_true rfl, Nat.le_of_ble_eq_true rfl⟩) hv (isC := [0, 1, 2, 3, 4, 5, 6, 7, 8]) ⟨rfl, rfl⟩ (hv.recv 1 0 rfl rfl) [] [0, 1, 2, 3, 4, 5, 6, 7, 8] rfl rfl (by decide) rfl rfl rfl hl.1 rfl (Nat.le_of_ble_eq_true rfl) dX1_findBestWay_63 ⟨Nat.le_of_ble_eq_true rfl, Nat.le_of_ble_eq_true rfl⟩ (fun H locs hv => ?_)
          refine lv_iinc (v := v1 + 1) (lv' := [(1, .int (v1 + 1)), (0, .ref aT)]) hx hb dX1_findBestWay_66 hl (k := 1) rfl rfl (by decide) rfl (fun ls hl => ?_)
          refine lv_goto (tgt := 44) hx hb dX1_findBestWay_69 (by decide) ?_
          exact ih (v1 + 1) A_gain_16 A_cameFrom_17 A_cameByTaking_18 hf _ _ _ hv (lv_sub hl [1, 0] rfl) hκ
  unfold f_X1_findBestWay at hf
  refine lv_iconst (v := 0) hx hb dX1_findBestWay_0 (by decide) ?_
  refine lv_istore_n (lv' := [(1, .int 0), (0, .ref aT)]) hx hb dX1_findBestWay_1 rfl hl (by decide) rfl (fun ls hl => ?_)
  refine L2 _ _ _ _ _ _ hf _ _ _ hv (lv_sub hl [1, 0] rfl) (fun v1_5 A_gain_6 A_cameFrom_7 A_cameByTaking_8 hf H locs ls hv hl => ?_)
  try dsimp only at hf
  refine lv_iconst (v := 0) hx hb dX1_findBestWay_42 (by decide) ?_
  refine lv_istore_n (lv' := [(1, .int 0), (0, .ref aT)]) hx hb dX1_findBestWay_43 rfl hl (by decide) rfl (fun ls hl => ?_)
  refine L44 _ _ _ _ _ _ hf _ _ _ hv (lv_sub hl [1, 0] rfl) (fun v1_20 A_gain_21 A_cameFrom_22 A_cameByTaking_23 hf H locs ls hv hl => ?_)
  try dsimp only at hf
  cases hf
  exact kret _ _ _ _ hv dX1_findBestWay_72

def f_X1_goBestWay_L10 (k : Nat) (f_row_count : Int32) (A_cameFrom : Nat → Int32) (A_cameByTaking : Nat → Int32) (κ : Int32 → Int32 → (Nat → Int32) → (Nat → Int32) → Option ((Nat → Int32) × (Nat → Int32))) : Nat → Int32 → Int32 → (Nat → Int32) → (Nat → Int32) → Option ((Nat → Int32) × (Nat → Int32))
  | 0, _, _, _, _ => none
  | n + 1, v1, v2, A_taken, A_waiting => if v1 ≤ 0 then κ v1 v2 A_taken A_waiting else if f_row_count < v2 then κ v1 v2 A_taken A_waiting else xi v1 41 (xj (fun (x6 : Int32) => xi v1 41 (if (A_cameByTaking v1.toNatClampNeg) = 0 then xi (if v1 < (A_cameFrom v1.toNatClampNeg) then v1 else (A_cameFrom v1.toNatClampNeg)) 40 (if x6 = 0 then xi (if v1 < (A_cameFrom v1.toNatClampNeg) then v1 else (A_cameFrom v1.toNatClampNeg)) 40 (f_X1_goBestWay_L10 k f_row_count A_cameFrom A_cameByTaking κ n (A_cameFrom v1.toNatClampNeg) (v2 + 1) A_taken (upd A_waiting (if v1 < (A_cameFrom v1.toNatClampNeg) then v1 else (A_cameFrom v1.toNatClampNeg)).toNatClampNeg ((A_waiting (if v1 < (A_cameFrom v1.toNatClampNeg) then v1 else (A_cameFrom v1.toNatClampNeg)).toNatClampNeg) + (-1)))) else xi (if v1 < (A_cameFrom v1.toNatClampNeg) then v1 else (A_cameFrom v1.toNatClampNeg)) 40 (f_X1_goBestWay_L10 k f_row_count A_cameFrom A_cameByTaking κ n (A_cameFrom v1.toNatClampNeg) (v2 + 1) A_taken (upd A_waiting (if v1 < (A_cameFrom v1.toNatClampNeg) then v1 else (A_cameFrom v1.toNatClampNeg)).toNatClampNeg ((A_waiting (if v1 < (A_cameFrom v1.toNatClampNeg) then v1 else (A_cameFrom v1.toNatClampNeg)).toNatClampNeg) + 1)))) else xi (if v1 < (A_cameFrom v1.toNatClampNeg) then v1 else (A_cameFrom v1.toNatClampNeg)) 40 (f_X1_goBestWay_L10 k f_row_count A_cameFrom A_cameByTaking κ n (A_cameFrom v1.toNatClampNeg) (v2 + 1) (upd A_taken (if v1 < (A_cameFrom v1.toNatClampNeg) then v1 else (A_cameFrom v1.toNatClampNeg)).toNatClampNeg (vp_nar .boolean x6)) A_waiting))) (fun (j42_5 : Int32 → Option ((Nat → Int32) × (Nat → Int32))) => if v1 ≤ (A_cameFrom v1.toNatClampNeg) then j42_5 0 else j42_5 1))
theorem f_X1_goBestWay_L10_z (k : Nat) (f_row_count : Int32) (A_cameFrom : Nat → Int32) (A_cameByTaking : Nat → Int32) (κ : Int32 → Int32 → (Nat → Int32) → (Nat → Int32) → Option ((Nat → Int32) × (Nat → Int32))) (v1 : Int32) (v2 : Int32) (A_taken : Nat → Int32) (A_waiting : Nat → Int32) : f_X1_goBestWay_L10 k f_row_count A_cameFrom A_cameByTaking κ 0 v1 v2 A_taken A_waiting = none := rfl
theorem f_X1_goBestWay_L10_s (k : Nat) (f_row_count : Int32) (A_cameFrom : Nat → Int32) (A_cameByTaking : Nat → Int32) (κ : Int32 → Int32 → (Nat → Int32) → (Nat → Int32) → Option ((Nat → Int32) × (Nat → Int32))) (n : Nat) (v1 : Int32) (v2 : Int32) (A_taken : Nat → Int32) (A_waiting : Nat → Int32) : f_X1_goBestWay_L10 k f_row_count A_cameFrom A_cameByTaking κ (n + 1) v1 v2 A_taken A_waiting = if v1 ≤ 0 then κ v1 v2 A_taken A_waiting else if f_row_count < v2 then κ v1 v2 A_taken A_waiting else xi v1 41 (xj (fun (x6 : Int32) => xi v1 41 (if (A_cameByTaking v1.toNatClampNeg) = 0 then xi (if v1 < (A_cameFrom v1.toNatClampNeg) then v1 else (A_cameFrom v1.toNatClampNeg)) 40 (if x6 = 0 then xi (if v1 < (A_cameFrom v1.toNatClampNeg) then v1 else (A_cameFrom v1.toNatClampNeg)) 40 (f_X1_goBestWay_L10 k f_row_count A_cameFrom A_cameByTaking κ n (A_cameFrom v1.toNatClampNeg) (v2 + 1) A_taken (upd A_waiting (if v1 < (A_cameFrom v1.toNatClampNeg) then v1 else (A_cameFrom v1.toNatClampNeg)).toNatClampNeg ((A_waiting (if v1 < (A_cameFrom v1.toNatClampNeg) then v1 else (A_cameFrom v1.toNatClampNeg)).toNatClampNeg) + (-1)))) else xi (if v1 < (A_cameFrom v1.toNatClampNeg) then v1 else (A_cameFrom v1.toNatClampNeg)) 40 (f_X1_goBestWay_L10 k f_row_count A_cameFrom A_cameByTaking κ n (A_cameFrom v1.toNatClampNeg) (v2 + 1) A_taken (upd A_waiting (if v1 < (A_cameFrom v1.toNatClampNeg) then v1 else (A_cameFrom v1.toNatClampNeg)).toNatClampNeg ((A_waiting (if v1 < (A_cameFrom v1.toNatClampNeg) then v1 else (A_cameFrom v1.toNatClampNeg)).toNatClampNeg) + 1)))) else xi (if v1 < (A_cameFrom v1.toNatClampNeg) then v1 else (A_cameFrom v1.toNatClampNeg)) 40 (f_X1_goBestWay_L10 k f_row_count A_cameFrom A_cameByTaking κ n (A_cameFrom v1.toNatClampNeg) (v2 + 1) (upd A_taken (if v1 < (A_cameFrom v1.toNatClampNeg) then v1 else (A_cameFrom v1.toNatClampNeg)).toNatClampNeg (vp_nar .boolean x6)) A_waiting))) (fun (j42_5 : Int32 → Option ((Nat → Int32) × (Nat → Int32))) => if v1 ≤ (A_cameFrom v1.toNatClampNeg) then j42_5 0 else j42_5 1)) := rfl
def f_X1_goBestWay (k : Nat) (f_row_count : Int32) (A_taken : Nat → Int32) (A_waiting : Nat → Int32) (A_cameFrom : Nat → Int32) (A_cameByTaking : Nat → Int32) : Option ((Nat → Int32) × (Nat → Int32)) := f_X1_goBestWay_L10 k f_row_count A_cameFrom A_cameByTaking (fun (v1_14 : Int32) (v2_15 : Int32) (A_taken_16 : Nat → Int32) (A_waiting_17 : Nat → Int32) => some (A_taken_16, A_waiting_17)) k f_row_count 0 A_taken A_waiting
abbrev rm_X1_goBestWay : Room := { frames := 1, cells := 0, slots := 0, locals := 21 }
set_option maxHeartbeats 4000000 in
set_option maxRecDepth 100000 in
theorem c_X1_goBestWay (l : Launch) (G : va_G) (cy : ClassId × ClassId × ClassId) (k : Nat) (aT aT_row aT_stopAfter aT_taken aT_waiting aT_gain aT_cameFrom aT_cameByTaking aT_row_numbers aT_row_begins aT_row_ends aT_row_weights : Nat) (f_row_byEnd : Int32) (f_row_count : Int32) (A_taken : Nat → Int32) (A_waiting : Nat → Int32) (A_cameFrom : Nat → Int32) (A_cameByTaking : Nat → Int32) {wA_taken : Nat → Int32} {wA_waiting : Nat → Int32} (hf : f_X1_goBestWay k f_row_count A_taken A_waiting A_cameFrom A_cameByTaking = some (wA_taken, wA_waiting)) : Cv l yX1_goBestWay wsX1_goBestWay rm_X1_goBestWay 0 0 G cy [.ref aT] [(aT, .inr (1, [.ref aT_row, .ref aT_stopAfter, .ref aT_taken, .ref aT_waiting, .ref aT_gain, .ref aT_cameFrom, .ref aT_cameByTaking])), (aT_row, .inr (3, [.int f_row_byEnd, .ref aT_row_numbers, .ref aT_row_begins, .ref aT_row_ends, .ref aT_row_weights, .int f_row_count])), (aT_taken, .inl (cy.2.1, 40, .inl A_taken)), (aT_waiting, .inl (cy.1, 40, .inl A_waiting)), (aT_cameFrom, .inl (cy.1, 41, .inl A_cameFrom)), (aT_cameByTaking, .inl (cy.2.1, 41, .inl A_cameByTaking))] [(aT, .inr (1, [.ref aT_row, .ref aT_stopAfter, .ref aT_taken, .ref aT_waiting, .ref aT_gain, .ref aT_cameFrom, .ref aT_cameByTaking])), (aT_row, .inr (3, [.int f_row_byEnd, .ref aT_row_numbers, .ref aT_row_begins, .ref aT_row_ends, .ref aT_row_weights, .int f_row_count])), (aT_taken, .inl (cy.2.1, 40, .inl wA_taken)), (aT_waiting, .inl (cy.1, 40, .inl wA_waiting)), (aT_cameFrom, .inl (cy.1, 41, .inl A_cameFrom)), (aT_cameByTaking, .inl (cy.2.1, 41, .inl A_cameByTaking))] := by
  refine kMetV (cc := cX1_goBestWay) (maxL := 6) (by decide) rfl (Nat.le_of_ble_eq_true rfl) ?_
  intro p e s m args below meth c Q A ls hx hb hml hts hown hv hl kret
  replace hown : s.vm.findClass RX1 = some m.cls := hown
  replace hl : lv_has ls 6 [(0, .ref aT)] := hl
  have hk14 : (Cond.fieldLink RX1 14 "Roomcolour$ManyRoomsPlan" "row" "LRoomcolour$Row;").before args s = true := hts _ (by decide +kernel)
  have hinX1 : ∀ w ∈ wsX10, w ∈ wsX1_goBestWay := by decide +kernel
  have hn46 : (Cond.fieldLinkNest RX1 46 "Roomcolour$Row" "count" "I" RX4).before args s = true := va_Nw.use rfl (hv.2.2.2.2.2.1 _ (by decide +kernel))
  have hinX3 : ∀ w ∈ wsX30, w ∈ wsX1_goBestWay := by decide +kernel
  have hk34 : (Cond.fieldLink RX1 34 "Roomcolour$ManyRoomsPlan" "cameFrom" "[I").before args s = true := hts _ (by decide +kernel)
  have hm77a : (Cond.methodLink RX1 77 Lib.Math.min.name).before args s = true := hts _ (by decide +kernel)
  have hm77b : (Cond.static Lib.Math.min.name).before args s = true := hts _ (by decide +kernel)
  have hm77c : (Cond.initialized "java/lang/Math").before args s = true := hts _ (by decide +kernel)
  have hm77d : (Cond.code Lib.Math.min.name Lib.Math.min.code 2 (some .int)).before args s = true := hts _ (by decide +kernel)
  have hk37 : (Cond.fieldLink RX1 37 "Roomcolour$ManyRoomsPlan" "cameByTaking" "[Z").before args s = true := hts _ (by decide +kernel)
  have hk28 : (Cond.fieldLink RX1 28 "Roomcolour$ManyRoomsPlan" "waiting" "[I").before args s = true := hts _ (by decide +kernel)
  have hk24 : (Cond.fieldLink RX1 24 "Roomcolour$ManyRoomsPlan" "taken" "[Z").before args s = true := hts _ (by decide +kernel)
  have L10 : ∀ (κ : Int32 → Int32 → (Nat → Int32) → (Nat → Int32) → Option ((Nat → Int32) × (Nat → Int32))) (n : Nat) (v1 : Int32) (v2 : Int32) (A_taken : Nat → Int32) (A_waiting : Nat → Int32), f_X1_goBestWay_L10 k f_row_count A_cameFrom A_cameByTaking κ n v1 v2 A_taken A_waiting = some (wA_taken, wA_waiting) → ∀ (H : Heap) (locs : List Loc) (ls : Array Slot), Hv s H locs G cy A [(aT, .inr (1, [.ref aT_row, .ref aT_stopAfter, .ref aT_taken, .ref aT_waiting, .ref aT_gain, .ref aT_cameFrom, .ref aT_cameByTaking])), (aT_row, .inr (3, [.int f_row_byEnd, .ref aT_row_numbers, .ref aT_row_begins, .ref aT_row_ends, .ref aT_row_weights, .int f_row_count])), (aT_taken, .inl (cy.2.1, 40, .inl A_taken)), (aT_waiting, .inl (cy.1, 40, .inl A_waiting)), (aT_cameFrom, .inl (cy.1, 41, .inl A_cameFrom)), (aT_cameByTaking, .inl (cy.2.1, 41, .inl A_cameByTaking))] → lv_has ls 6 [(0, .ref aT), (1, .int v1), (2, .int v2)] → (∀ (v1 : Int32) (v2 : Int32) (A_taken : Nat → Int32) (A_waiting : Nat → Int32), κ v1 v2 A_taken A_waiting = some (wA_taken, wA_waiting) → ∀ (H : Heap) (locs : List Loc) (ls : Array Slot), Hv s H locs G cy A [(aT, .inr (1, [.ref aT_row, .ref aT_stopAfter, .ref aT_taken, .ref aT_waiting, .ref aT_gain, .ref aT_cameFrom, .ref aT_cameByTaking])), (aT_row, .inr (3, [.int f_row_byEnd, .ref aT_row_numbers, .ref aT_row_begins, .ref aT_row_ends, .ref aT_row_weights, .int f_row_count])), (aT_taken, .inl (cy.2.1, 40, .inl A_taken)), (aT_waiting, .inl (cy.1, 40, .inl A_waiting)), (aT_cameFrom, .inl (cy.1, 41, .inl A_cameFrom)), (aT_cameByTaking, .inl (cy.2.1, 41, .inl A_cameByTaking))] → lv_has ls 6 [] → W p l e rm_X1_goBestWay s m args below meth c H locs 0 0 Q (F0 m 100 ls [])) → W p l e rm_X1_goBestWay s m args below meth c H locs 0 0 Q (F0 m 10 ls []) := by
    intro κ n
    induction n with
    | zero =>
      intro v1 v2 A_taken A_waiting hf
      rw [f_X1_goBestWay_L10_z] at hf
      cases hf
    | succ n ih =>
      intro v1 v2 A_taken A_waiting hf H locs ls hv hl hκ
      rw [f_X1_goBestWay_L10_s] at hf
      refine lv_iload_n hx hb dX1_goBestWay_10 rfl (lv_at hl 1 rfl) ?_
      refine lv_if_le (tgt := 100) hx hb dX1_goBestWay_11 (by decide) (fun hc1 => ?_) (fun hc1 => ?_)
      · replace hf := ite_t hf hc1
        exact hκ v1 v2 A_taken A_waiting hf _ _ _ hv (lv_sub hl [] rfl)
      · replace hf := ite_f hf hc1
        refine lv_iload_n hx hb dX1_goBestWay_14 rfl (lv_at hl 2 rfl) ?_
        refine lv_aload_n hx hb dX1_goBestWay_15 rfl (lv_at hl 0 rfl) ?_
        refine kGet (v := .ref aT_row) (C := RX1) (T := TX1) (N := 7) hx hb hts hinX1 hown hv 0 rfl rfl 0 (by decide) hk14 (fun _ h9 => h9) rfl dX1_goBestWay_16 ?_
        refine kGetN (v := .int f_row_count) (C := RX3) (T := TX3) (N := 6) hx hb hts hinX3 hown hv 1 rfl rfl 5 (by decide) hn46 (fun _ h9 => h9) rfl dX1_goBestWay_19 ?_
        refine lv_icmp_gt (tgt := 100) hx hb dX1_goBestWay_22 (by decide) (fun hc2 => ?_) (fun hc2 => ?_)
        · replace hf := ite_t hf hc2
          exact hκ v1 v2 A_taken A_waiting hf _ _ _ hv (lv_sub hl [] rfl)
        · replace hf := ite_f hf hc2
          refine lv_aload_n hx hb dX1_goBestWay_25 rfl (lv_at hl 0 rfl) ?_
          refine kGet (v := .ref aT_cameFrom) (C := RX1) (T := TX1) (N := 7) hx hb hts hinX1 hown hv 0 rfl rfl 5 (by decide) hk34 (fun _ h9 => h9) rfl dX1_goBestWay_26 ?_
          refine lv_iload_n hx hb dX1_goBestWay_29 rfl (lv_at hl 1 rfl) ?_
          obtain ⟨hi3, hf⟩ := xi_some hf
          refine kIald hx hb hv 4 rfl hi3 dX1_goBestWay_30 ?_
          refine lv_istore_n (lv' := [(3, .int (A_cameFrom v1.toNatClampNeg)), (0, .ref aT), (1, .int v1), (2, .int v2)]) hx hb dX1_goBestWay_31 rfl hl (by decide) rfl (fun ls hl => ?_)
          refine lv_iload_n hx hb dX1_goBestWay_32 rfl (lv_at hl 0 rfl) ?_
          refine lv_iload_n hx hb dX1_goBestWay_33 rfl (lv_at hl 2 rfl) ?_
          refine xj_elim hf (fun j42_5 ej42_5 hf => ?_)
          have J42_5 : ∀ (x6 : Int32), j42_5 x6 = some (wA_taken, wA_waiting) → ∀ (H : Heap) (locs : List Loc) (ls : Array Slot), Hv s H locs G cy A [(aT, .inr (1, [.ref aT_row, .ref aT_stopAfter, .ref aT_taken, .ref aT_waiting, .ref aT_gain, .ref aT_cameFrom, .ref aT_cameByTaking])), (aT_row, .inr (3, [.int f_row_byEnd, .ref aT_row_numbers, .ref aT_row_begins, .ref aT_row_ends, .ref aT_row_weights, .int f_row_count])), (aT_taken, .inl (cy.2.1, 40, .inl A_taken)), (aT_waiting, .inl (cy.1, 40, .inl A_waiting)), (aT_cameFrom, .inl (cy.1, 41, .inl A_cameFrom)), (aT_cameByTaking, .inl (cy.2.1, 41, .inl A_cameByTaking))] → lv_has ls 6 [(0, .ref aT), (1, .int v1), (2, .int v2), (3, .int (A_cameFrom v1.toNatClampNeg))] → W p l e rm_X1_goBestWay s m args below meth c H locs 0 0 Q (F0 m 42 ls [.int x6]) := by
            intro x6 hf H locs ls hv hl
            rw [ej42_5] at hf
            try dsimp only at hf
            refine lv_istore (lv' := [(4, .int x6), (0, .ref aT), (1, .int v1), (2, .int v2), (3, .int (A_cameFrom v1.toNatClampNeg))]) hx hb dX1_goBestWay_42 hl (by decide) rfl (fun ls hl => ?_)
            refine lv_iload_n hx hb dX1_goBestWay_44 rfl (lv_at hl 4 rfl) ?_
            refine lv_iload_n hx hb dX1_goBestWay_45 rfl (lv_at hl 2 rfl) ?_
            refine va_mmin hx hb (by rw [hml]; exact hl.1.symm) hown hm77a hm77b hm77c hm77d (Nat.le_of_ble_eq_true rfl) (Nat.le_of_ble_eq_true rfl) (Nat.le_of_ble_eq_true rfl) (Nat.le_of_ble_eq_true rfl) dX1_goBestWay_46 ?_
            refine lv_istore (lv' := [(5, .int (if v1 < (A_cameFrom v1.toNatClampNeg) then v1 else (A_cameFrom v1.toNatClampNeg))), (4, .int x6), (0, .ref aT), (1, .int v1), (2, .int v2), (3, .int (A_cameFrom v1.toNatClampNeg))]) hx hb dX1_goBestWay_49 hl (by decide) rfl (fun ls hl => ?_)
            refine lv_aload_n hx hb dX1_goBestWay_51 rfl (lv_at hl 2 rfl) ?_
            refine kGet (v := .ref aT_cameByTaking) (C := RX1) (T := TX1) (N := 7) hx hb hts hinX1 hown hv 0 rfl rfl 6 (by decide) hk37 (fun _ h9 => h9) rfl dX1_goBestWay_52 ?_
            refine lv_iload_n hx hb dX1_goBestWay_55 rfl (lv_at hl 3 rfl) ?_
            obtain ⟨hi7, hf⟩ := xi_some hf
            refine kZald hx hb hv 5 rfl hi7 dX1_goBestWay_56 ?_
            refine lv_if_eq (tgt := 72) hx hb dX1_goBestWay_57 (by decide) (fun hc8 => ?_) (fun hc8 => ?_)
            · replace hf := ite_t hf hc8
              refine lv_aload_n hx hb dX1_goBestWay_72 rfl (lv_at hl 2 rfl) ?_
              refine kGet (v := .ref aT_waiting) (C := RX1) (T := TX1) (N := 7) hx hb hts hinX1 hown hv 0 rfl rfl 3 (by decide) hk28 (fun _ h9 => h9) rfl dX1_goBestWay_73 ?_
              refine lv_iload hx hb dX1_goBestWay_76 (lv_at hl 0 rfl) ?_
              refine lv_dup2_11 hx hb dX1_goBestWay_78 rfl rfl ?_
              obtain ⟨hi9, hf⟩ := xi_some hf
              refine kIald hx hb hv 3 rfl hi9 dX1_goBestWay_79 ?_
              refine lv_iload hx hb dX1_goBestWay_80 (lv_at hl 1 rfl) ?_
              refine lv_if_eq (tgt := 89) hx hb dX1_goBestWay_82 (by decide) (fun hc10 => ?_) (fun hc10 => ?_)
              · replace hf := ite_t hf hc10
                refine lv_iconst (v := (-1)) hx hb dX1_goBestWay_89 (by decide) ?_
                refine lv_iadd hx hb dX1_goBestWay_90 ?_
                obtain ⟨hi11, hf⟩ := xi_some hf
                refine kIast hx hb hv 3 rfl hi11 dX1_goBestWay_91 (fun H locs hv => ?_)
                replace hv : Hv s H locs G cy A [(aT, .inr (1, [.ref aT_row, .ref aT_stopAfter, .ref aT_taken, .ref aT_waiting, .ref aT_gain, .ref aT_cameFrom, .ref aT_cameByTaking])), (aT_row, .inr (3, [.int f_row_byEnd, .ref aT_row_numbers, .ref aT_row_begins, .ref aT_row_ends, .ref aT_row_weights, .int f_row_count])), (aT_taken, .inl (cy.2.1, 40, .inl A_taken)), (aT_waiting, .inl (cy.1, 40, .inl (upd A_waiting (if v1 < (A_cameFrom v1.toNatClampNeg) then v1 else (A_cameFrom v1.toNatClampNeg)).toNatClampNeg ((A_waiting (if v1 < (A_cameFrom v1.toNatClampNeg) then v1 else (A_cameFrom v1.toNatClampNeg)).toNatClampNeg) + (-1))))), (aT_cameFrom, .inl (cy.1, 41, .inl A_cameFrom)), (aT_cameByTaking, .inl (cy.2.1, 41, .inl A_cameByTaking))] := hv
                refine lv_iload_n hx hb dX1_goBestWay_92 rfl (lv_at hl 5 rfl) ?_
                refine lv_istore_n (lv' := [(1, .int (A_cameFrom v1.toNatClampNeg)), (5, .int (if v1 < (A_cameFrom v1.toNatClampNeg) then v1 else (A_cameFrom v1.toNatClampNeg))), (4, .int x6), (0, .ref aT), (2, .int v2), (3, .int (A_cameFrom v1.toNatClampNeg))]) hx hb dX1_goBestWay_93 rfl hl (by decide) rfl (fun ls hl => ?_)
                refine lv_iinc (v := v2 + 1) (lv' := [(2, .int (v2 + 1)), (1, .int (A_cameFrom v1.toNatClampNeg)), (5, .int (if v1 < (A_cameFrom v1.toNatClampNeg) then v1 else (A_cameFrom v1.toNatClampNeg))), (4, .int x6), (0, .ref aT), (3, .int (A_cameFrom v1.toNatClampNeg))]) hx hb dX1_goBestWay_94 hl (k := 4) rfl rfl (by decide) rfl (fun ls hl => ?_)
                refine lv_goto (tgt := 10) hx hb dX1_goBestWay_97 (by decide) ?_
                exact ih (A_cameFrom v1.toNatClampNeg) (v2 + 1) A_taken (upd A_waiting (if v1 < (A_cameFrom v1.toNatClampNeg) then v1 else (A_cameFrom v1.toNatClampNeg)).toNatClampNeg ((A_waiting (if v1 < (A_cameFrom v1.toNatClampNeg) then v1 else (A_cameFrom v1.toNatClampNeg)).toNatClampNeg) + (-1))) hf _ _ _ hv (lv_sub hl [4, 1, 0] rfl) hκ
              · replace hf := ite_f hf hc10
                refine lv_iconst (v := 1) hx hb dX1_goBestWay_85 (by decide) ?_
                refine lv_goto (tgt := 90) hx hb dX1_goBestWay_86 (by decide) ?_
                refine lv_iadd hx hb dX1_goBestWay_90 ?_
                obtain ⟨hi12, hf⟩ := xi_some hf
                refine kIast hx hb hv 3 rfl hi12 dX1_goBestWay_91 (fun H locs hv => ?_)
                replace hv : Hv s H locs G cy A [(aT, .inr (1, [.ref aT_row, .ref aT_stopAfter, .ref aT_taken, .ref aT_waiting, .ref aT_gain, .ref aT_cameFrom, .ref aT_cameByTaking])), (aT_row, .inr (3, [.int f_row_byEnd, .ref aT_row_numbers, .ref aT_row_begins, .ref aT_row_ends, .ref aT_row_weights, .int f_row_count])), (aT_taken, .inl (cy.2.1, 40, .inl A_taken)), (aT_waiting, .inl (cy.1, 40, .inl (upd A_waiting (if v1 < (A_cameFrom v1.toNatClampNeg) then v1 else (A_cameFrom v1.toNatClampNeg)).toNatClampNeg ((A_waiting (if v1 < (A_cameFrom v1.toNatClampNeg) then v1 else (A_cameFrom v1.toNatClampNeg)).toNatClampNeg) + 1)))), (aT_cameFrom, .inl (cy.1, 41, .inl A_cameFrom)), (aT_cameByTaking, .inl (cy.2.1, 41, .inl A_cameByTaking))] := hv
                refine lv_iload_n hx hb dX1_goBestWay_92 rfl (lv_at hl 5 rfl) ?_
                refine lv_istore_n (lv' := [(1, .int (A_cameFrom v1.toNatClampNeg)), (5, .int (if v1 < (A_cameFrom v1.toNatClampNeg) then v1 else (A_cameFrom v1.toNatClampNeg))), (4, .int x6), (0, .ref aT), (2, .int v2), (3, .int (A_cameFrom v1.toNatClampNeg))]) hx hb dX1_goBestWay_93 rfl hl (by decide) rfl (fun ls hl => ?_)
                refine lv_iinc (v := v2 + 1) (lv' := [(2, .int (v2 + 1)), (1, .int (A_cameFrom v1.toNatClampNeg)), (5, .int (if v1 < (A_cameFrom v1.toNatClampNeg) then v1 else (A_cameFrom v1.toNatClampNeg))), (4, .int x6), (0, .ref aT), (3, .int (A_cameFrom v1.toNatClampNeg))]) hx hb dX1_goBestWay_94 hl (k := 4) rfl rfl (by decide) rfl (fun ls hl => ?_)
                refine lv_goto (tgt := 10) hx hb dX1_goBestWay_97 (by decide) ?_
                exact ih (A_cameFrom v1.toNatClampNeg) (v2 + 1) A_taken (upd A_waiting (if v1 < (A_cameFrom v1.toNatClampNeg) then v1 else (A_cameFrom v1.toNatClampNeg)).toNatClampNeg ((A_waiting (if v1 < (A_cameFrom v1.toNatClampNeg) then v1 else (A_cameFrom v1.toNatClampNeg)).toNatClampNeg) + 1)) hf _ _ _ hv (lv_sub hl [4, 1, 0] rfl) hκ
            · replace hf := ite_f hf hc8
              refine lv_aload_n hx hb dX1_goBestWay_60 rfl (lv_at hl 2 rfl) ?_
              refine kGet (v := .ref aT_taken) (C := RX1) (T := TX1) (N := 7) hx hb hts hinX1 hown hv 0 rfl rfl 2 (by decide) hk24 (fun _ h9 => h9) rfl dX1_goBestWay_61 ?_
              refine lv_iload hx hb dX1_goBestWay_64 (lv_at hl 0 rfl) ?_
              refine lv_iload hx hb dX1_goBestWay_66 (lv_at hl 1 rfl) ?_
              obtain ⟨hi13, hf⟩ := xi_some hf
              refine kZast hx hb hv 2 rfl hi13 dX1_goBestWay_68 (fun H locs hv => ?_)
              replace hv : Hv s H locs G cy A [(aT, .inr (1, [.ref aT_row, .ref aT_stopAfter, .ref aT_taken, .ref aT_waiting, .ref aT_gain, .ref aT_cameFrom, .ref aT_cameByTaking])), (aT_row, .inr (3, [.int f_row_byEnd, .ref aT_row_numbers, .ref aT_row_begins, .ref aT_row_ends, .ref aT_row_weights, .int f_row_count])), (aT_taken, .inl (cy.2.1, 40, .inl (upd A_taken (if v1 < (A_cameFrom v1.toNatClampNeg) then v1 else (A_cameFrom v1.toNatClampNeg)).toNatClampNeg (vp_nar .boolean x6)))), (aT_waiting, .inl (cy.1, 40, .inl A_waiting)), (aT_cameFrom, .inl (cy.1, 41, .inl A_cameFrom)), (aT_cameByTaking, .inl (cy.2.1, 41, .inl A_cameByTaking))] := hv
              refine lv_goto (tgt := 92) hx hb dX1_goBestWay_69 (by decide) ?_
              refine lv_iload_n hx hb dX1_goBestWay_92 rfl (lv_at hl 5 rfl) ?_
              refine lv_istore_n (lv' := [(1, .int (A_cameFrom v1.toNatClampNeg)), (5, .int (if v1 < (A_cameFrom v1.toNatClampNeg) then v1 else (A_cameFrom v1.toNatClampNeg))), (4, .int x6), (0, .ref aT), (2, .int v2), (3, .int (A_cameFrom v1.toNatClampNeg))]) hx hb dX1_goBestWay_93 rfl hl (by decide) rfl (fun ls hl => ?_)
              refine lv_iinc (v := v2 + 1) (lv' := [(2, .int (v2 + 1)), (1, .int (A_cameFrom v1.toNatClampNeg)), (5, .int (if v1 < (A_cameFrom v1.toNatClampNeg) then v1 else (A_cameFrom v1.toNatClampNeg))), (4, .int x6), (0, .ref aT), (3, .int (A_cameFrom v1.toNatClampNeg))]) hx hb dX1_goBestWay_94 hl (k := 4) rfl rfl (by decide) rfl (fun ls hl => ?_)
              refine lv_goto (tgt := 10) hx hb dX1_goBestWay_97 (by decide) ?_
              exact ih (A_cameFrom v1.toNatClampNeg) (v2 + 1) (upd A_taken (if v1 < (A_cameFrom v1.toNatClampNeg) then v1 else (A_cameFrom v1.toNatClampNeg)).toNatClampNeg (vp_nar .boolean x6)) A_waiting hf _ _ _ hv (lv_sub hl [4, 1, 0] rfl) hκ
          refine lv_icmp_ge (tgt := 41) hx hb dX1_goBestWay_34 (by decide) (fun hc4 => ?_) (fun hc4 => ?_)
          · replace hf := ite_t hf hc4
            refine lv_iconst (v := 0) hx hb dX1_goBestWay_41 (by decide) ?_
            exact J42_5 0 hf _ _ _ hv (lv_sub hl [1, 2, 3, 0] rfl)
          · replace hf := ite_f hf hc4
            refine lv_iconst (v := 1) hx hb dX1_goBestWay_37 (by decide) ?_
            refine lv_goto (tgt := 42) hx hb dX1_goBestWay_38 (by decide) ?_
            exact J42_5 1 hf _ _ _ hv (lv_sub hl [1, 2, 3, 0] rfl)
  unfold f_X1_goBestWay at hf
  refine lv_aload_n hx hb dX1_goBestWay_0 rfl (lv_at hl 0 rfl) ?_
  refine kGet (v := .ref aT_row) (C := RX1) (T := TX1) (N := 7) hx hb hts hinX1 hown hv 0 rfl rfl 0 (by decide) hk14 (fun _ h9 => h9) rfl dX1_goBestWay_1 ?_
  refine kGetN (v := .int f_row_count) (C := RX3) (T := TX3) (N := 6) hx hb hts hinX3 hown hv 1 rfl rfl 5 (by decide) hn46 (fun _ h9 => h9) rfl dX1_goBestWay_4 ?_
  refine lv_istore_n (lv' := [(1, .int f_row_count), (0, .ref aT)]) hx hb dX1_goBestWay_7 rfl hl (by decide) rfl (fun ls hl => ?_)
  refine lv_iconst (v := 0) hx hb dX1_goBestWay_8 (by decide) ?_
  refine lv_istore_n (lv' := [(2, .int 0), (1, .int f_row_count), (0, .ref aT)]) hx hb dX1_goBestWay_9 rfl hl (by decide) rfl (fun ls hl => ?_)
  refine L10 _ _ _ _ _ _ hf _ _ _ hv (lv_sub hl [2, 1, 0] rfl) (fun v1_14 v2_15 A_taken_16 A_waiting_17 hf H locs ls hv hl => ?_)
  try dsimp only at hf
  cases hf
  exact kret _ _ _ _ hv dX1_goBestWay_100

def f_X1_greatestWeight_L8 (k : Nat) (v1 : Int32) (f_row_count : Int32) (A_row_weights : Nat → Int32) (A_stopAfter : Nat → Int32) (κ : Int32 → Int32 → (Nat → Int32) → (Nat → Int32) → (Nat → Int32) → (Nat → Int32) → (Nat → Int32) → Option (Int32 × (Nat → Int32) × (Nat → Int32) × (Nat → Int32) × (Nat → Int32) × (Nat → Int32) × (Nat → Int32))) : Nat → Int32 → Int32 → (Nat → Int32) → (Nat → Int32) → (Nat → Int32) → (Nat → Int32) → (Nat → Int32) → Option (Int32 × (Nat → Int32) × (Nat → Int32) × (Nat → Int32) × (Nat → Int32) × (Nat → Int32) × (Nat → Int32))
  | 0, _, _, _, _, _, _, _ => none
  | n + 1, v2, v3, A_taken, A_waiting, A_gain, A_cameFrom, A_cameByTaking => if v1 ≤ v3 then κ v2 v3 A_taken A_waiting A_gain A_cameFrom A_cameByTaking else xb (f_X1_findBestWay k f_row_count A_row_weights A_stopAfter A_taken A_waiting A_gain A_cameFrom A_cameByTaking) (fun (A_gain_6, A_cameFrom_7, A_cameByTaking_8) => xi f_row_count 41 (xb (f_X1_goBestWay k f_row_count A_taken A_waiting A_cameFrom_7 A_cameByTaking_8) (fun (A_taken_11, A_waiting_12) => f_X1_greatestWeight_L8 k v1 f_row_count A_row_weights A_stopAfter κ n (v2 + (A_gain_6 f_row_count.toNatClampNeg)) (v3 + 1) A_taken_11 A_waiting_12 A_gain_6 A_cameFrom_7 A_cameByTaking_8)))
theorem f_X1_greatestWeight_L8_z (k : Nat) (v1 : Int32) (f_row_count : Int32) (A_row_weights : Nat → Int32) (A_stopAfter : Nat → Int32) (κ : Int32 → Int32 → (Nat → Int32) → (Nat → Int32) → (Nat → Int32) → (Nat → Int32) → (Nat → Int32) → Option (Int32 × (Nat → Int32) × (Nat → Int32) × (Nat → Int32) × (Nat → Int32) × (Nat → Int32) × (Nat → Int32))) (v2 : Int32) (v3 : Int32) (A_taken : Nat → Int32) (A_waiting : Nat → Int32) (A_gain : Nat → Int32) (A_cameFrom : Nat → Int32) (A_cameByTaking : Nat → Int32) : f_X1_greatestWeight_L8 k v1 f_row_count A_row_weights A_stopAfter κ 0 v2 v3 A_taken A_waiting A_gain A_cameFrom A_cameByTaking = none := rfl
theorem f_X1_greatestWeight_L8_s (k : Nat) (v1 : Int32) (f_row_count : Int32) (A_row_weights : Nat → Int32) (A_stopAfter : Nat → Int32) (κ : Int32 → Int32 → (Nat → Int32) → (Nat → Int32) → (Nat → Int32) → (Nat → Int32) → (Nat → Int32) → Option (Int32 × (Nat → Int32) × (Nat → Int32) × (Nat → Int32) × (Nat → Int32) × (Nat → Int32) × (Nat → Int32))) (n : Nat) (v2 : Int32) (v3 : Int32) (A_taken : Nat → Int32) (A_waiting : Nat → Int32) (A_gain : Nat → Int32) (A_cameFrom : Nat → Int32) (A_cameByTaking : Nat → Int32) : f_X1_greatestWeight_L8 k v1 f_row_count A_row_weights A_stopAfter κ (n + 1) v2 v3 A_taken A_waiting A_gain A_cameFrom A_cameByTaking = if v1 ≤ v3 then κ v2 v3 A_taken A_waiting A_gain A_cameFrom A_cameByTaking else xb (f_X1_findBestWay k f_row_count A_row_weights A_stopAfter A_taken A_waiting A_gain A_cameFrom A_cameByTaking) (fun (A_gain_6, A_cameFrom_7, A_cameByTaking_8) => xi f_row_count 41 (xb (f_X1_goBestWay k f_row_count A_taken A_waiting A_cameFrom_7 A_cameByTaking_8) (fun (A_taken_11, A_waiting_12) => f_X1_greatestWeight_L8 k v1 f_row_count A_row_weights A_stopAfter κ n (v2 + (A_gain_6 f_row_count.toNatClampNeg)) (v3 + 1) A_taken_11 A_waiting_12 A_gain_6 A_cameFrom_7 A_cameByTaking_8))) := rfl
def f_X1_greatestWeight (k : Nat) (p1 : Int32) (f_row_count : Int32) (A_row_begins : Nat → Int32) (A_row_ends : Nat → Int32) (A_row_weights : Nat → Int32) (A_stopAfter : Nat → Int32) (A_taken : Nat → Int32) (A_waiting : Nat → Int32) (A_gain : Nat → Int32) (A_cameFrom : Nat → Int32) (A_cameByTaking : Nat → Int32) : Option (Int32 × (Nat → Int32) × (Nat → Int32) × (Nat → Int32) × (Nat → Int32) × (Nat → Int32) × (Nat → Int32)) := xb (f_X1_clearRooms k f_row_count A_row_begins A_row_ends A_stopAfter A_taken A_waiting) (fun (A_stopAfter_1, A_taken_2, A_waiting_3) => f_X1_greatestWeight_L8 k p1 f_row_count A_row_weights A_stopAfter_1 (fun (v2_14 : Int32) (v3_15 : Int32) (A_taken_16 : Nat → Int32) (A_waiting_17 : Nat → Int32) (A_gain_18 : Nat → Int32) (A_cameFrom_19 : Nat → Int32) (A_cameByTaking_20 : Nat → Int32) => some (v2_14, A_stopAfter_1, A_taken_16, A_waiting_17, A_gain_18, A_cameFrom_19, A_cameByTaking_20)) k 0 0 A_taken_2 A_waiting_3 A_gain A_cameFrom A_cameByTaking)
abbrev rm_X1_greatestWeight : Room := { frames := 3, cells := 0, slots := 0, locals := 68 }
set_option maxHeartbeats 4000000 in
set_option maxRecDepth 100000 in
theorem c_X1_greatestWeight (l : Launch) (G : va_G) (cy : ClassId × ClassId × ClassId) (k : Nat) (aT aT_row aT_stopAfter aT_taken aT_waiting aT_gain aT_cameFrom aT_cameByTaking aT_row_numbers aT_row_begins aT_row_ends aT_row_weights : Nat) (f_row_byEnd : Int32) (f_row_count : Int32) (A_row_begins : Nat → Int32) (A_row_ends : Nat → Int32) (A_row_weights : Nat → Int32) (A_stopAfter : Nat → Int32) (A_taken : Nat → Int32) (A_waiting : Nat → Int32) (A_gain : Nat → Int32) (A_cameFrom : Nat → Int32) (A_cameByTaking : Nat → Int32) (p1 : Int32) {r : Int32} {wA_stopAfter : Nat → Int32} {wA_taken : Nat → Int32} {wA_waiting : Nat → Int32} {wA_gain : Nat → Int32} {wA_cameFrom : Nat → Int32} {wA_cameByTaking : Nat → Int32} (hf : f_X1_greatestWeight k p1 f_row_count A_row_begins A_row_ends A_row_weights A_stopAfter A_taken A_waiting A_gain A_cameFrom A_cameByTaking = some (r, wA_stopAfter, wA_taken, wA_waiting, wA_gain, wA_cameFrom, wA_cameByTaking)) : Ci l yX1_greatestWeight wsX1_greatestWeight rm_X1_greatestWeight 0 0 G cy [.ref aT, .int p1] [(aT, .inr (1, [.ref aT_row, .ref aT_stopAfter, .ref aT_taken, .ref aT_waiting, .ref aT_gain, .ref aT_cameFrom, .ref aT_cameByTaking])), (aT_row, .inr (3, [.int f_row_byEnd, .ref aT_row_numbers, .ref aT_row_begins, .ref aT_row_ends, .ref aT_row_weights, .int f_row_count])), (aT_row_begins, .inl (cy.1, 40, .inl A_row_begins)), (aT_row_ends, .inl (cy.1, 40, .inl A_row_ends)), (aT_row_weights, .inl (cy.1, 40, .inl A_row_weights)), (aT_stopAfter, .inl (cy.1, 40, .inl A_stopAfter)), (aT_taken, .inl (cy.2.1, 40, .inl A_taken)), (aT_waiting, .inl (cy.1, 40, .inl A_waiting)), (aT_gain, .inl (cy.1, 41, .inl A_gain)), (aT_cameFrom, .inl (cy.1, 41, .inl A_cameFrom)), (aT_cameByTaking, .inl (cy.2.1, 41, .inl A_cameByTaking))] [(aT, .inr (1, [.ref aT_row, .ref aT_stopAfter, .ref aT_taken, .ref aT_waiting, .ref aT_gain, .ref aT_cameFrom, .ref aT_cameByTaking])), (aT_row, .inr (3, [.int f_row_byEnd, .ref aT_row_numbers, .ref aT_row_begins, .ref aT_row_ends, .ref aT_row_weights, .int f_row_count])), (aT_row_begins, .inl (cy.1, 40, .inl A_row_begins)), (aT_row_ends, .inl (cy.1, 40, .inl A_row_ends)), (aT_row_weights, .inl (cy.1, 40, .inl A_row_weights)), (aT_stopAfter, .inl (cy.1, 40, .inl wA_stopAfter)), (aT_taken, .inl (cy.2.1, 40, .inl wA_taken)), (aT_waiting, .inl (cy.1, 40, .inl wA_waiting)), (aT_gain, .inl (cy.1, 41, .inl wA_gain)), (aT_cameFrom, .inl (cy.1, 41, .inl wA_cameFrom)), (aT_cameByTaking, .inl (cy.2.1, 41, .inl wA_cameByTaking))] r := by
  refine kMetI (cc := cX1_greatestWeight) (maxL := 4) (by decide) rfl (Nat.le_of_ble_eq_true rfl) ?_
  intro p e s m args below meth c Q A ls hx hb hml hts hown hv hl kret
  replace hown : s.vm.findClass RX1 = some m.cls := hown
  replace hl : lv_has ls 4 [(0, .ref aT), (1, .int p1)] := hl
  have hk31 : (Cond.fieldLink RX1 31 "Roomcolour$ManyRoomsPlan" "gain" "[I").before args s = true := hts _ (by decide +kernel)
  have hinX1 : ∀ w ∈ wsX10, w ∈ wsX1_greatestWeight := by decide +kernel
  have hk14 : (Cond.fieldLink RX1 14 "Roomcolour$ManyRoomsPlan" "row" "LRoomcolour$Row;").before args s = true := hts _ (by decide +kernel)
  have hn46 : (Cond.fieldLinkNest RX1 46 "Roomcolour$Row" "count" "I" RX4).before args s = true := va_Nw.use rfl (hv.2.2.2.2.2.1 _ (by decide +kernel))
  have hinX3 : ∀ w ∈ wsX30, w ∈ wsX1_greatestWeight := by decide +kernel
  have L8 : ∀ (v1 : Int32) (A_stopAfter : Nat → Int32) (κ : Int32 → Int32 → (Nat → Int32) → (Nat → Int32) → (Nat → Int32) → (Nat → Int32) → (Nat → Int32) → Option (Int32 × (Nat → Int32) × (Nat → Int32) × (Nat → Int32) × (Nat → Int32) × (Nat → Int32) × (Nat → Int32))) (n : Nat) (v2 : Int32) (v3 : Int32) (A_taken : Nat → Int32) (A_waiting : Nat → Int32) (A_gain : Nat → Int32) (A_cameFrom : Nat → Int32) (A_cameByTaking : Nat → Int32), f_X1_greatestWeight_L8 k v1 f_row_count A_row_weights A_stopAfter κ n v2 v3 A_taken A_waiting A_gain A_cameFrom A_cameByTaking = some (r, wA_stopAfter, wA_taken, wA_waiting, wA_gain, wA_cameFrom, wA_cameByTaking) → ∀ (H : Heap) (locs : List Loc) (ls : Array Slot), Hv s H locs G cy A [(aT, .inr (1, [.ref aT_row, .ref aT_stopAfter, .ref aT_taken, .ref aT_waiting, .ref aT_gain, .ref aT_cameFrom, .ref aT_cameByTaking])), (aT_row, .inr (3, [.int f_row_byEnd, .ref aT_row_numbers, .ref aT_row_begins, .ref aT_row_ends, .ref aT_row_weights, .int f_row_count])), (aT_row_begins, .inl (cy.1, 40, .inl A_row_begins)), (aT_row_ends, .inl (cy.1, 40, .inl A_row_ends)), (aT_row_weights, .inl (cy.1, 40, .inl A_row_weights)), (aT_stopAfter, .inl (cy.1, 40, .inl A_stopAfter)), (aT_taken, .inl (cy.2.1, 40, .inl A_taken)), (aT_waiting, .inl (cy.1, 40, .inl A_waiting)), (aT_gain, .inl (cy.1, 41, .inl A_gain)), (aT_cameFrom, .inl (cy.1, 41, .inl A_cameFrom)), (aT_cameByTaking, .inl (cy.2.1, 41, .inl A_cameByTaking))] → lv_has ls 4 [(0, .ref aT), (1, .int v1), (2, .int v2), (3, .int v3)] → (∀ (v2 : Int32) (v3 : Int32) (A_taken : Nat → Int32) (A_waiting : Nat → Int32) (A_gain : Nat → Int32) (A_cameFrom : Nat → Int32) (A_cameByTaking : Nat → Int32), κ v2 v3 A_taken A_waiting A_gain A_cameFrom A_cameByTaking = some (r, wA_stopAfter, wA_taken, wA_waiting, wA_gain, wA_cameFrom, wA_cameByTaking) → ∀ (H : Heap) (locs : List Loc) (ls : Array Slot), Hv s H locs G cy A [(aT, .inr (1, [.ref aT_row, .ref aT_stopAfter, .ref aT_taken, .ref aT_waiting, .ref aT_gain, .ref aT_cameFrom, .ref aT_cameByTaking])), (aT_row, .inr (3, [.int f_row_byEnd, .ref aT_row_numbers, .ref aT_row_begins, .ref aT_row_ends, .ref aT_row_weights, .int f_row_count])), (aT_row_begins, .inl (cy.1, 40, .inl A_row_begins)), (aT_row_ends, .inl (cy.1, 40, .inl A_row_ends)), (aT_row_weights, .inl (cy.1, 40, .inl A_row_weights)), (aT_stopAfter, .inl (cy.1, 40, .inl A_stopAfter)), (aT_taken, .inl (cy.2.1, 40, .inl A_taken)), (aT_waiting, .inl (cy.1, 40, .inl A_waiting)), (aT_gain, .inl (cy.1, 41, .inl A_gain)), (aT_cameFrom, .inl (cy.1, 41, .inl A_cameFrom)), (aT_cameByTaking, .inl (cy.2.1, 41, .inl A_cameByTaking))] → lv_has ls 4 [(2, .int v2)] → W p l e rm_X1_greatestWeight s m args below meth c H locs 0 0 Q (F0 m 42 ls [])) → W p l e rm_X1_greatestWeight s m args below meth c H locs 0 0 Q (F0 m 8 ls []) := by
    intro v1 A_stopAfter κ n
    induction n with
    | zero =>
      intro v2 v3 A_taken A_waiting A_gain A_cameFrom A_cameByTaking hf
      rw [f_X1_greatestWeight_L8_z] at hf
      cases hf
    | succ n ih =>
      intro v2 v3 A_taken A_waiting A_gain A_cameFrom A_cameByTaking hf H locs ls hv hl hκ
      rw [f_X1_greatestWeight_L8_s] at hf
      refine lv_iload_n hx hb dX1_greatestWeight_8 rfl (lv_at hl 3 rfl) ?_
      refine lv_iload_n hx hb dX1_greatestWeight_9 rfl (lv_at hl 1 rfl) ?_
      refine lv_icmp_ge (tgt := 42) hx hb dX1_greatestWeight_10 (by decide) (fun hc5 => ?_) (fun hc5 => ?_)
      · replace hf := ite_t hf hc5
        exact hκ v2 v3 A_taken A_waiting A_gain A_cameFrom A_cameByTaking hf _ _ _ hv (lv_sub hl [2] rfl)
      · replace hf := ite_f hf hc5
        refine lv_aload_n hx hb dX1_greatestWeight_13 rfl (lv_at hl 0 rfl) ?_
        obtain ⟨⟨A_gain_6, A_cameFrom_7, A_cameByTaking_8⟩, hcl9, hf⟩ := xb_some hf
        dsimp only at hf
        refine kV_v (wr := [(aT_row_begins, .inl (cy.1, 40, .inl A_row_begins)), (aT_row_ends, .inl (cy.1, 40, .inl A_row_ends))]) (w2 := [(aT, .inr (1, [.ref aT_row, .ref aT_stopAfter, .ref aT_taken, .ref aT_waiting, .ref aT_gain, .ref aT_cameFrom, .ref aT_cameByTaking])), (aT_row, .inr (3, [.int f_row_byEnd, .ref aT_row_numbers, .ref aT_row_begins, .ref aT_row_ends, .ref aT_row_weights, .int f_row_count])), (aT_row_begins, .inl (cy.1, 40, .inl A_row_begins)), (aT_row_ends, .inl (cy.1, 40, .inl A_row_ends)), (aT_row_weights, .inl (cy.1, 40, .inl A_row_weights)), (aT_stopAfter, .inl (cy.1, 40, .inl A_stopAfter)), (aT_taken, .inl (cy.2.1, 40, .inl A_taken)), (aT_waiting, .inl (cy.1, 40, .inl A_waiting)), (aT_gain, .inl (cy.1, 41, .inl A_gain_6)), (aT_cameFrom, .inl (cy.1, 41, .inl A_cameFrom_7)), (aT_cameByTaking, .inl (cy.2.1, 41, .inl A_cameByTaking_8))]) ⟨hx, hb, hml, hown, hts⟩ (c_X1_findBestWay l G cy k aT aT_row aT_stopAfter aT_taken aT_waiting aT_gain aT_cameFrom aT_cameByTaking aT_row_numbers aT_row_begins aT_row_ends aT_row_weights f_row_byEnd f_row_count A_row_weights A_stopAfter A_taken A_waiting A_gain A_cameFrom A_cameByTaking hcl9) (cwV 0 hts gX1_greatestWeight_X1_findBestWay rfl rfl rfl (by decide +kernel) ⟨Nat.le_of_ble_eq_true rfl, Nat.le_of_ble_eq_true rfl⟩) hv (isC := [0, 1, 4, 5, 6, 7, 8, 9, 10]) ⟨rfl, rfl⟩ (hv.recv 1 0 rfl rfl) [2, 3] [2, 3, 0, 1, 4, 5, 6, 7, 8, 9, 10] rfl rfl (by decide) rfl rfl rfl hl.1 rfl (Nat.le_of_ble_eq_true rfl) dX1_greatestWeight_14 ⟨Nat.le_of_ble_eq_true rfl, Nat.le_of_ble_eq_true rfl⟩ (fun H locs hv => ?_)
        refine lv_iload_n hx hb dX1_greatestWeight_17 rfl (lv_at hl 2 rfl) ?_
        refine lv_aload_n hx hb dX1_greatestWeight_18 rfl (lv_at hl 0 rfl) ?_
        refine kGet (v := .ref aT_gain) (C := RX1) (T := TX1) (N := 7) hx hb hts hinX1 hown hv 0 rfl rfl 4 (by decide) hk31 (fun _ h9 => h9) rfl dX1_greatestWeight_19 ?_
        refine lv_aload_n hx hb dX1_greatestWeight_22 rfl (lv_at hl 0 rfl) ?_
        refine kGet (v := .ref aT_row) (C := RX1) (T := TX1) (N := 7) hx hb hts hinX1 hown hv 0 rfl rfl 0 (by decide) hk14 (fun _ h9 => h9) rfl dX1_greatestWeight_23 ?_
        refine kGetN (v := .int f_row_count) (C := RX3) (T := TX3) (N := 6) hx hb hts hinX3 hown hv 1 rfl rfl 5 (by decide) hn46 (fun _ h9 => h9) rfl dX1_greatestWeight_26 ?_
        obtain ⟨hi10, hf⟩ := xi_some hf
        refine kIald hx hb hv 8 rfl hi10 dX1_greatestWeight_29 ?_
        refine lv_iadd hx hb dX1_greatestWeight_30 ?_
        refine lv_istore_n (lv' := [(2, .int (v2 + (A_gain_6 f_row_count.toNatClampNeg))), (0, .ref aT), (1, .int v1), (3, .int v3)]) hx hb dX1_greatestWeight_31 rfl hl (by decide) rfl (fun ls hl => ?_)
        refine lv_aload_n hx hb dX1_greatestWeight_32 rfl (lv_at hl 1 rfl) ?_
        obtain ⟨⟨A_taken_11, A_waiting_12⟩, hcl13, hf⟩ := xb_some hf
        dsimp only at hf
        refine kV_v (wr := [(aT_row_begins, .inl (cy.1, 40, .inl A_row_begins)), (aT_row_ends, .inl (cy.1, 40, .inl A_row_ends)), (aT_row_weights, .inl (cy.1, 40, .inl A_row_weights)), (aT_stopAfter, .inl (cy.1, 40, .inl A_stopAfter)), (aT_gain, .inl (cy.1, 41, .inl A_gain_6))]) (w2 := [(aT, .inr (1, [.ref aT_row, .ref aT_stopAfter, .ref aT_taken, .ref aT_waiting, .ref aT_gain, .ref aT_cameFrom, .ref aT_cameByTaking])), (aT_row, .inr (3, [.int f_row_byEnd, .ref aT_row_numbers, .ref aT_row_begins, .ref aT_row_ends, .ref aT_row_weights, .int f_row_count])), (aT_row_begins, .inl (cy.1, 40, .inl A_row_begins)), (aT_row_ends, .inl (cy.1, 40, .inl A_row_ends)), (aT_row_weights, .inl (cy.1, 40, .inl A_row_weights)), (aT_stopAfter, .inl (cy.1, 40, .inl A_stopAfter)), (aT_taken, .inl (cy.2.1, 40, .inl A_taken_11)), (aT_waiting, .inl (cy.1, 40, .inl A_waiting_12)), (aT_gain, .inl (cy.1, 41, .inl A_gain_6)), (aT_cameFrom, .inl (cy.1, 41, .inl A_cameFrom_7)), (aT_cameByTaking, .inl (cy.2.1, 41, .inl A_cameByTaking_8))]) ⟨hx, hb, hml, hown, hts⟩ (c_X1_goBestWay l G cy k aT aT_row aT_stopAfter aT_taken aT_waiting aT_gain aT_cameFrom aT_cameByTaking aT_row_numbers aT_row_begins aT_row_ends aT_row_weights f_row_byEnd f_row_count A_taken A_waiting A_cameFrom_7 A_cameByTaking_8 hcl13) (cwV 0 hts gX1_greatestWeight_X1_goBestWay rfl rfl rfl (by decide +kernel) ⟨Nat.le_of_ble_eq_true rfl, Nat.le_of_ble_eq_true rfl⟩) hv (isC := [0, 1, 6, 7, 9, 10]) ⟨rfl, rfl⟩ (hv.recv 1 0 rfl rfl) [2, 3, 4, 5, 8] [5, 6, 0, 1, 2, 3, 7, 8, 4, 9, 10] rfl rfl (by decide) rfl rfl rfl hl.1 rfl (Nat.le_of_ble_eq_true rfl) dX1_greatestWeight_33 ⟨Nat.le_of_ble_eq_true rfl, Nat.le_of_ble_eq_true rfl⟩ (fun H locs hv => ?_)
        refine lv_iinc (v := v3 + 1) (lv' := [(3, .int (v3 + 1)), (2, .int (v2 + (A_gain_6 f_row_count.toNatClampNeg))), (0, .ref aT), (1, .int v1)]) hx hb dX1_greatestWeight_36 hl (k := 3) rfl rfl (by decide) rfl (fun ls hl => ?_)
        refine lv_goto (tgt := 8) hx hb dX1_greatestWeight_39 (by decide) ?_
        exact ih (v2 + (A_gain_6 f_row_count.toNatClampNeg)) (v3 + 1) A_taken_11 A_waiting_12 A_gain_6 A_cameFrom_7 A_cameByTaking_8 hf _ _ _ hv (lv_sub hl [2, 3, 1, 0] rfl) hκ
  unfold f_X1_greatestWeight at hf
  refine lv_aload_n hx hb dX1_greatestWeight_0 rfl (lv_at hl 0 rfl) ?_
  obtain ⟨⟨A_stopAfter_1, A_taken_2, A_waiting_3⟩, hcl4, hf⟩ := xb_some hf
  dsimp only at hf
  refine kV_v (wr := [(aT_row_weights, .inl (cy.1, 40, .inl A_row_weights)), (aT_gain, .inl (cy.1, 41, .inl A_gain)), (aT_cameFrom, .inl (cy.1, 41, .inl A_cameFrom)), (aT_cameByTaking, .inl (cy.2.1, 41, .inl A_cameByTaking))]) (w2 := [(aT, .inr (1, [.ref aT_row, .ref aT_stopAfter, .ref aT_taken, .ref aT_waiting, .ref aT_gain, .ref aT_cameFrom, .ref aT_cameByTaking])), (aT_row, .inr (3, [.int f_row_byEnd, .ref aT_row_numbers, .ref aT_row_begins, .ref aT_row_ends, .ref aT_row_weights, .int f_row_count])), (aT_row_begins, .inl (cy.1, 40, .inl A_row_begins)), (aT_row_ends, .inl (cy.1, 40, .inl A_row_ends)), (aT_row_weights, .inl (cy.1, 40, .inl A_row_weights)), (aT_stopAfter, .inl (cy.1, 40, .inl A_stopAfter_1)), (aT_taken, .inl (cy.2.1, 40, .inl A_taken_2)), (aT_waiting, .inl (cy.1, 40, .inl A_waiting_3)), (aT_gain, .inl (cy.1, 41, .inl A_gain)), (aT_cameFrom, .inl (cy.1, 41, .inl A_cameFrom)), (aT_cameByTaking, .inl (cy.2.1, 41, .inl A_cameByTaking))]) ⟨hx, hb, hml, hown, hts⟩ (c_X1_clearRooms l G cy k aT aT_row aT_stopAfter aT_taken aT_waiting aT_gain aT_cameFrom aT_cameByTaking aT_row_numbers aT_row_begins aT_row_ends aT_row_weights f_row_byEnd f_row_count A_row_begins A_row_ends A_stopAfter A_taken A_waiting hcl4) (cwV 0 hts gX1_greatestWeight_X1_clearRooms rfl rfl rfl (by decide +kernel) ⟨Nat.le_of_ble_eq_true rfl, Nat.le_of_ble_eq_true rfl⟩) hv (isC := [0, 1, 2, 3, 5, 6, 7]) ⟨rfl, rfl⟩ (hv.recv 1 0 rfl rfl) [4, 8, 9, 10] [4, 5, 6, 7, 0, 8, 9, 10, 1, 2, 3] rfl rfl (by decide) rfl rfl rfl hl.1 rfl (Nat.le_of_ble_eq_true rfl) dX1_greatestWeight_1 ⟨Nat.le_of_ble_eq_true rfl, Nat.le_of_ble_eq_true rfl⟩ (fun H locs hv => ?_)
  refine lv_iconst (v := 0) hx hb dX1_greatestWeight_4 (by decide) ?_
  refine lv_istore_n (lv' := [(2, .int 0), (0, .ref aT), (1, .int p1)]) hx hb dX1_greatestWeight_5 rfl hl (by decide) rfl (fun ls hl => ?_)
  refine lv_iconst (v := 0) hx hb dX1_greatestWeight_6 (by decide) ?_
  refine lv_istore_n (lv' := [(3, .int 0), (2, .int 0), (0, .ref aT), (1, .int p1)]) hx hb dX1_greatestWeight_7 rfl hl (by decide) rfl (fun ls hl => ?_)
  refine L8 _ _ _ _ _ _ _ _ _ _ _ hf _ _ _ hv (lv_sub hl [2, 3, 1, 0] rfl) (fun v2_14 v3_15 A_taken_16 A_waiting_17 A_gain_18 A_cameFrom_19 A_cameByTaking_20 hf H locs ls hv hl => ?_)
  try dsimp only at hf
  refine lv_iload_n hx hb dX1_greatestWeight_42 rfl (lv_at hl 0 rfl) ?_
  cases hf
  exact kret _ _ _ _ hv dX1_greatestWeight_43

def f_X2_endedBy_L2 (k : Nat) (v1 : Int32) (f_row_count : Int32) (A_row_ends : Nat → Int32) (κ : Int32 → Option (Int32)) : Nat → Int32 → Option (Int32)
  | 0, _ => none
  | n + 1, v2 => if f_row_count ≤ v2 then κ v2 else xi v2 40 (if v1 < (A_row_ends v2.toNatClampNeg) then κ v2 else f_X2_endedBy_L2 k v1 f_row_count A_row_ends κ n (v2 + 1))
theorem f_X2_endedBy_L2_z (k : Nat) (v1 : Int32) (f_row_count : Int32) (A_row_ends : Nat → Int32) (κ : Int32 → Option (Int32)) (v2 : Int32) : f_X2_endedBy_L2 k v1 f_row_count A_row_ends κ 0 v2 = none := rfl
theorem f_X2_endedBy_L2_s (k : Nat) (v1 : Int32) (f_row_count : Int32) (A_row_ends : Nat → Int32) (κ : Int32 → Option (Int32)) (n : Nat) (v2 : Int32) : f_X2_endedBy_L2 k v1 f_row_count A_row_ends κ (n + 1) v2 = if f_row_count ≤ v2 then κ v2 else xi v2 40 (if v1 < (A_row_ends v2.toNatClampNeg) then κ v2 else f_X2_endedBy_L2 k v1 f_row_count A_row_ends κ n (v2 + 1)) := rfl
def f_X2_endedBy (k : Nat) (p1 : Int32) (f_row_count : Int32) (A_row_ends : Nat → Int32) : Option (Int32) := f_X2_endedBy_L2 k p1 f_row_count A_row_ends (fun (v2_4 : Int32) => some v2_4) k 0
abbrev rm_X2_endedBy : Room := { frames := 0, cells := 0, slots := 0, locals := 0 }
set_option maxHeartbeats 4000000 in
set_option maxRecDepth 100000 in
theorem c_X2_endedBy (l : Launch) (G : va_G) (cy : ClassId × ClassId × ClassId) (k : Nat) (aT aT_row aT_best aT_row_numbers aT_row_begins aT_row_ends aT_row_weights : Nat) (f_row_byEnd : Int32) (f_row_count : Int32) (A_row_ends : Nat → Int32) (p1 : Int32) {r : Int32} (hf : f_X2_endedBy k p1 f_row_count A_row_ends = some r) : Ci l yX2_endedBy wsX2_endedBy rm_X2_endedBy 0 0 G cy [.ref aT, .int p1] [(aT, .inr (2, [.ref aT_row, .ref aT_best])), (aT_row, .inr (3, [.int f_row_byEnd, .ref aT_row_numbers, .ref aT_row_begins, .ref aT_row_ends, .ref aT_row_weights, .int f_row_count])), (aT_row_ends, .inl (cy.1, 40, .inl A_row_ends))] [(aT, .inr (2, [.ref aT_row, .ref aT_best])), (aT_row, .inr (3, [.int f_row_byEnd, .ref aT_row_numbers, .ref aT_row_begins, .ref aT_row_ends, .ref aT_row_weights, .int f_row_count])), (aT_row_ends, .inl (cy.1, 40, .inl A_row_ends))] r := by
  refine kMetI (cc := cX2_endedBy) (maxL := 3) (by decide) rfl (Nat.le_of_ble_eq_true rfl) ?_
  intro p e s m args below meth c Q A ls hx hb hml hts hown hv hl kret
  replace hown : s.vm.findClass RX2 = some m.cls := hown
  replace hl : lv_has ls 3 [(0, .ref aT), (1, .int p1)] := hl
  have hk14 : (Cond.fieldLink RX2 14 "Roomcolour$OneRoomPlan" "row" "LRoomcolour$Row;").before args s = true := hts _ (by decide +kernel)
  have hinX2 : ∀ w ∈ wsX20, w ∈ wsX2_endedBy := by decide +kernel
  have hn24 : (Cond.fieldLinkNest RX2 24 "Roomcolour$Row" "count" "I" RX4).before args s = true := va_Nw.use rfl (hv.2.2.2.2.2.1 _ (by decide +kernel))
  have hinX3 : ∀ w ∈ wsX30, w ∈ wsX2_endedBy := by decide +kernel
  have hn55 : (Cond.fieldLinkNest RX2 55 "Roomcolour$Row" "ends" "[I" RX4).before args s = true := va_Nw.use rfl (hv.2.2.2.2.2.1 _ (by decide +kernel))
  have L2 : ∀ (v1 : Int32) (κ : Int32 → Option (Int32)) (n : Nat) (v2 : Int32), f_X2_endedBy_L2 k v1 f_row_count A_row_ends κ n v2 = some r → ∀ (H : Heap) (locs : List Loc) (ls : Array Slot), Hv s H locs G cy A [(aT, .inr (2, [.ref aT_row, .ref aT_best])), (aT_row, .inr (3, [.int f_row_byEnd, .ref aT_row_numbers, .ref aT_row_begins, .ref aT_row_ends, .ref aT_row_weights, .int f_row_count])), (aT_row_ends, .inl (cy.1, 40, .inl A_row_ends))] → lv_has ls 3 [(0, .ref aT), (1, .int v1), (2, .int v2)] → (∀ (v2 : Int32), κ v2 = some r → ∀ (H : Heap) (locs : List Loc) (ls : Array Slot), Hv s H locs G cy A [(aT, .inr (2, [.ref aT_row, .ref aT_best])), (aT_row, .inr (3, [.int f_row_byEnd, .ref aT_row_numbers, .ref aT_row_begins, .ref aT_row_ends, .ref aT_row_weights, .int f_row_count])), (aT_row_ends, .inl (cy.1, 40, .inl A_row_ends))] → lv_has ls 3 [(2, .int v2)] → W p l e rm_X2_endedBy s m args below meth c H locs 0 0 Q (F0 m 32 ls [])) → W p l e rm_X2_endedBy s m args below meth c H locs 0 0 Q (F0 m 2 ls []) := by
    intro v1 κ n
    induction n with
    | zero =>
      intro v2 hf
      rw [f_X2_endedBy_L2_z] at hf
      cases hf
    | succ n ih =>
      intro v2 hf H locs ls hv hl hκ
      rw [f_X2_endedBy_L2_s] at hf
      refine lv_iload_n hx hb dX2_endedBy_2 rfl (lv_at hl 2 rfl) ?_
      refine lv_aload_n hx hb dX2_endedBy_3 rfl (lv_at hl 0 rfl) ?_
      refine kGet (v := .ref aT_row) (C := RX2) (T := TX2) (N := 2) hx hb hts hinX2 hown hv 0 rfl rfl 0 (by decide) hk14 (fun _ h9 => h9) rfl dX2_endedBy_4 ?_
      refine kGetN (v := .int f_row_count) (C := RX3) (T := TX3) (N := 6) hx hb hts hinX3 hown hv 1 rfl rfl 5 (by decide) hn24 (fun _ h9 => h9) rfl dX2_endedBy_7 ?_
      refine lv_icmp_ge (tgt := 32) hx hb dX2_endedBy_10 (by decide) (fun hc1 => ?_) (fun hc1 => ?_)
      · replace hf := ite_t hf hc1
        exact hκ v2 hf _ _ _ hv (lv_sub hl [2] rfl)
      · replace hf := ite_f hf hc1
        refine lv_aload_n hx hb dX2_endedBy_13 rfl (lv_at hl 0 rfl) ?_
        refine kGet (v := .ref aT_row) (C := RX2) (T := TX2) (N := 2) hx hb hts hinX2 hown hv 0 rfl rfl 0 (by decide) hk14 (fun _ h9 => h9) rfl dX2_endedBy_14 ?_
        refine kGetN (v := .ref aT_row_ends) (C := RX3) (T := TX3) (N := 6) hx hb hts hinX3 hown hv 1 rfl rfl 3 (by decide) hn55 (fun _ h9 => h9) rfl dX2_endedBy_17 ?_
        refine lv_iload_n hx hb dX2_endedBy_20 rfl (lv_at hl 2 rfl) ?_
        obtain ⟨hi2, hf⟩ := xi_some hf
        refine kIald hx hb hv 2 rfl hi2 dX2_endedBy_21 ?_
        refine lv_iload_n hx hb dX2_endedBy_22 rfl (lv_at hl 1 rfl) ?_
        refine lv_icmp_gt (tgt := 32) hx hb dX2_endedBy_23 (by decide) (fun hc3 => ?_) (fun hc3 => ?_)
        · replace hf := ite_t hf hc3
          exact hκ v2 hf _ _ _ hv (lv_sub hl [2] rfl)
        · replace hf := ite_f hf hc3
          refine lv_iinc (v := v2 + 1) (lv' := [(2, .int (v2 + 1)), (0, .ref aT), (1, .int v1)]) hx hb dX2_endedBy_26 hl (k := 2) rfl rfl (by decide) rfl (fun ls hl => ?_)
          refine lv_goto (tgt := 2) hx hb dX2_endedBy_29 (by decide) ?_
          exact ih (v2 + 1) hf _ _ _ hv (lv_sub hl [1, 2, 0] rfl) hκ
  unfold f_X2_endedBy at hf
  refine lv_iconst (v := 0) hx hb dX2_endedBy_0 (by decide) ?_
  refine lv_istore_n (lv' := [(2, .int 0), (0, .ref aT), (1, .int p1)]) hx hb dX2_endedBy_1 rfl hl (by decide) rfl (fun ls hl => ?_)
  refine L2 _ _ _ _ hf _ _ _ hv (lv_sub hl [1, 2, 0] rfl) (fun v2_4 hf H locs ls hv hl => ?_)
  try dsimp only at hf
  refine lv_iload_n hx hb dX2_endedBy_32 rfl (lv_at hl 0 rfl) ?_
  cases hf
  exact kret _ _ _ _ hv dX2_endedBy_33

def f_X2_greatestWeight_L9 (k : Nat) (f_row_count : Int32) (A_row_begins : Nat → Int32) (A_row_ends : Nat → Int32) (A_row_weights : Nat → Int32) (κ : Int32 → (Nat → Int32) → Option (Int32 × (Nat → Int32))) : Nat → Int32 → (Nat → Int32) → Option (Int32 × (Nat → Int32))
  | 0, _, _ => none
  | n + 1, v1, A_best => if f_row_count < v1 then κ v1 A_best else xi (v1 - 1) 40 (xi (v1 - 1) 40 (xb (f_X2_endedBy k (A_row_begins (v1 - 1).toNatClampNeg) f_row_count A_row_ends) (fun r5 => xi r5 41 (xi (v1 - 1) 41 (xi v1 41 (f_X2_greatestWeight_L9 k f_row_count A_row_begins A_row_ends A_row_weights κ n (v1 + 1) (upd A_best v1.toNatClampNeg (if (A_best (v1 - 1).toNatClampNeg) < ((A_row_weights (v1 - 1).toNatClampNeg) + (A_best r5.toNatClampNeg)) then ((A_row_weights (v1 - 1).toNatClampNeg) + (A_best r5.toNatClampNeg)) else (A_best (v1 - 1).toNatClampNeg)))))))))
theorem f_X2_greatestWeight_L9_z (k : Nat) (f_row_count : Int32) (A_row_begins : Nat → Int32) (A_row_ends : Nat → Int32) (A_row_weights : Nat → Int32) (κ : Int32 → (Nat → Int32) → Option (Int32 × (Nat → Int32))) (v1 : Int32) (A_best : Nat → Int32) : f_X2_greatestWeight_L9 k f_row_count A_row_begins A_row_ends A_row_weights κ 0 v1 A_best = none := rfl
theorem f_X2_greatestWeight_L9_s (k : Nat) (f_row_count : Int32) (A_row_begins : Nat → Int32) (A_row_ends : Nat → Int32) (A_row_weights : Nat → Int32) (κ : Int32 → (Nat → Int32) → Option (Int32 × (Nat → Int32))) (n : Nat) (v1 : Int32) (A_best : Nat → Int32) : f_X2_greatestWeight_L9 k f_row_count A_row_begins A_row_ends A_row_weights κ (n + 1) v1 A_best = if f_row_count < v1 then κ v1 A_best else xi (v1 - 1) 40 (xi (v1 - 1) 40 (xb (f_X2_endedBy k (A_row_begins (v1 - 1).toNatClampNeg) f_row_count A_row_ends) (fun r5 => xi r5 41 (xi (v1 - 1) 41 (xi v1 41 (f_X2_greatestWeight_L9 k f_row_count A_row_begins A_row_ends A_row_weights κ n (v1 + 1) (upd A_best v1.toNatClampNeg (if (A_best (v1 - 1).toNatClampNeg) < ((A_row_weights (v1 - 1).toNatClampNeg) + (A_best r5.toNatClampNeg)) then ((A_row_weights (v1 - 1).toNatClampNeg) + (A_best r5.toNatClampNeg)) else (A_best (v1 - 1).toNatClampNeg))))))))) := rfl
def f_X2_greatestWeight (k : Nat) (f_row_count : Int32) (A_row_begins : Nat → Int32) (A_row_ends : Nat → Int32) (A_row_weights : Nat → Int32) (A_best : Nat → Int32) : Option (Int32 × (Nat → Int32)) := xi (0 : Int32) 41 (f_X2_greatestWeight_L9 k f_row_count A_row_begins A_row_ends A_row_weights (fun (v1_10 : Int32) (A_best_11 : Nat → Int32) => xi f_row_count 41 (some (A_best_11 f_row_count.toNatClampNeg, A_best_11))) k 1 (upd A_best (0 : Int32).toNatClampNeg 0))
abbrev rm_X2_greatestWeight : Room := { frames := 1, cells := 0, slots := 0, locals := 22 }
set_option maxHeartbeats 4000000 in
set_option maxRecDepth 100000 in
theorem c_X2_greatestWeight (l : Launch) (G : va_G) (cy : ClassId × ClassId × ClassId) (k : Nat) (aT aT_row aT_best aT_row_numbers aT_row_begins aT_row_ends aT_row_weights : Nat) (f_row_byEnd : Int32) (f_row_count : Int32) (A_row_begins : Nat → Int32) (A_row_ends : Nat → Int32) (A_row_weights : Nat → Int32) (A_best : Nat → Int32) {r : Int32} {wA_best : Nat → Int32} (hf : f_X2_greatestWeight k f_row_count A_row_begins A_row_ends A_row_weights A_best = some (r, wA_best)) : Ci l yX2_greatestWeight wsX2_greatestWeight rm_X2_greatestWeight 0 0 G cy [.ref aT] [(aT, .inr (2, [.ref aT_row, .ref aT_best])), (aT_row, .inr (3, [.int f_row_byEnd, .ref aT_row_numbers, .ref aT_row_begins, .ref aT_row_ends, .ref aT_row_weights, .int f_row_count])), (aT_row_begins, .inl (cy.1, 40, .inl A_row_begins)), (aT_row_ends, .inl (cy.1, 40, .inl A_row_ends)), (aT_row_weights, .inl (cy.1, 40, .inl A_row_weights)), (aT_best, .inl (cy.1, 41, .inl A_best))] [(aT, .inr (2, [.ref aT_row, .ref aT_best])), (aT_row, .inr (3, [.int f_row_byEnd, .ref aT_row_numbers, .ref aT_row_begins, .ref aT_row_ends, .ref aT_row_weights, .int f_row_count])), (aT_row_begins, .inl (cy.1, 40, .inl A_row_begins)), (aT_row_ends, .inl (cy.1, 40, .inl A_row_ends)), (aT_row_weights, .inl (cy.1, 40, .inl A_row_weights)), (aT_best, .inl (cy.1, 41, .inl wA_best))] r := by
  refine kMetI (cc := cX2_greatestWeight) (maxL := 3) (by decide) rfl (Nat.le_of_ble_eq_true rfl) ?_
  intro p e s m args below meth c Q A ls hx hb hml hts hown hv hl kret
  replace hown : s.vm.findClass RX2 = some m.cls := hown
  replace hl : lv_has ls 3 [(0, .ref aT)] := hl
  have hk20 : (Cond.fieldLink RX2 20 "Roomcolour$OneRoomPlan" "best" "[I").before args s = true := hts _ (by decide +kernel)
  have hinX2 : ∀ w ∈ wsX20, w ∈ wsX2_greatestWeight := by decide +kernel
  have hk14 : (Cond.fieldLink RX2 14 "Roomcolour$OneRoomPlan" "row" "LRoomcolour$Row;").before args s = true := hts _ (by decide +kernel)
  have hn24 : (Cond.fieldLinkNest RX2 24 "Roomcolour$Row" "count" "I" RX4).before args s = true := va_Nw.use rfl (hv.2.2.2.2.2.1 _ (by decide +kernel))
  have hinX3 : ∀ w ∈ wsX30, w ∈ wsX2_greatestWeight := by decide +kernel
  have hn28 : (Cond.fieldLinkNest RX2 28 "Roomcolour$Row" "weights" "[I" RX4).before args s = true := va_Nw.use rfl (hv.2.2.2.2.2.1 _ (by decide +kernel))
  have hn31 : (Cond.fieldLinkNest RX2 31 "Roomcolour$Row" "begins" "[I" RX4).before args s = true := va_Nw.use rfl (hv.2.2.2.2.2.1 _ (by decide +kernel))
  have hm38a : (Cond.methodLink RX2 38 Lib.Math.max.name).before args s = true := hts _ (by decide +kernel)
  have hm38b : (Cond.static Lib.Math.max.name).before args s = true := hts _ (by decide +kernel)
  have hm38c : (Cond.initialized "java/lang/Math").before args s = true := hts _ (by decide +kernel)
  have hm38d : (Cond.code Lib.Math.max.name Lib.Math.max.code 2 (some .int)).before args s = true := hts _ (by decide +kernel)
  have L9 : ∀ (κ : Int32 → (Nat → Int32) → Option (Int32 × (Nat → Int32))) (n : Nat) (v1 : Int32) (A_best : Nat → Int32), f_X2_greatestWeight_L9 k f_row_count A_row_begins A_row_ends A_row_weights κ n v1 A_best = some (r, wA_best) → ∀ (H : Heap) (locs : List Loc) (ls : Array Slot), Hv s H locs G cy A [(aT, .inr (2, [.ref aT_row, .ref aT_best])), (aT_row, .inr (3, [.int f_row_byEnd, .ref aT_row_numbers, .ref aT_row_begins, .ref aT_row_ends, .ref aT_row_weights, .int f_row_count])), (aT_row_begins, .inl (cy.1, 40, .inl A_row_begins)), (aT_row_ends, .inl (cy.1, 40, .inl A_row_ends)), (aT_row_weights, .inl (cy.1, 40, .inl A_row_weights)), (aT_best, .inl (cy.1, 41, .inl A_best))] → lv_has ls 3 [(0, .ref aT), (1, .int v1)] → (∀ (v1 : Int32) (A_best : Nat → Int32), κ v1 A_best = some (r, wA_best) → ∀ (H : Heap) (locs : List Loc) (ls : Array Slot), Hv s H locs G cy A [(aT, .inr (2, [.ref aT_row, .ref aT_best])), (aT_row, .inr (3, [.int f_row_byEnd, .ref aT_row_numbers, .ref aT_row_begins, .ref aT_row_ends, .ref aT_row_weights, .int f_row_count])), (aT_row_begins, .inl (cy.1, 40, .inl A_row_begins)), (aT_row_ends, .inl (cy.1, 40, .inl A_row_ends)), (aT_row_weights, .inl (cy.1, 40, .inl A_row_weights)), (aT_best, .inl (cy.1, 41, .inl A_best))] → lv_has ls 3 [(0, .ref aT)] → W p l e rm_X2_greatestWeight s m args below meth c H locs 0 0 Q (F0 m 77 ls [])) → W p l e rm_X2_greatestWeight s m args below meth c H locs 0 0 Q (F0 m 9 ls []) := by
    intro κ n
    induction n with
    | zero =>
      intro v1 A_best hf
      rw [f_X2_greatestWeight_L9_z] at hf
      cases hf
    | succ n ih =>
      intro v1 A_best hf H locs ls hv hl hκ
      rw [f_X2_greatestWeight_L9_s] at hf
      refine lv_iload_n hx hb dX2_greatestWeight_9 rfl (lv_at hl 1 rfl) ?_
      refine lv_aload_n hx hb dX2_greatestWeight_10 rfl (lv_at hl 0 rfl) ?_
      refine kGet (v := .ref aT_row) (C := RX2) (T := TX2) (N := 2) hx hb hts hinX2 hown hv 0 rfl rfl 0 (by decide) hk14 (fun _ h9 => h9) rfl dX2_greatestWeight_11 ?_
      refine kGetN (v := .int f_row_count) (C := RX3) (T := TX3) (N := 6) hx hb hts hinX3 hown hv 1 rfl rfl 5 (by decide) hn24 (fun _ h9 => h9) rfl dX2_greatestWeight_14 ?_
      refine lv_icmp_gt (tgt := 77) hx hb dX2_greatestWeight_17 (by decide) (fun hc2 => ?_) (fun hc2 => ?_)
      · replace hf := ite_t hf hc2
        exact hκ v1 A_best hf _ _ _ hv (lv_sub hl [0] rfl)
      · replace hf := ite_f hf hc2
        refine lv_aload_n hx hb dX2_greatestWeight_20 rfl (lv_at hl 0 rfl) ?_
        refine kGet (v := .ref aT_row) (C := RX2) (T := TX2) (N := 2) hx hb hts hinX2 hown hv 0 rfl rfl 0 (by decide) hk14 (fun _ h9 => h9) rfl dX2_greatestWeight_21 ?_
        refine kGetN (v := .ref aT_row_weights) (C := RX3) (T := TX3) (N := 6) hx hb hts hinX3 hown hv 1 rfl rfl 4 (by decide) hn28 (fun _ h9 => h9) rfl dX2_greatestWeight_24 ?_
        refine lv_iload_n hx hb dX2_greatestWeight_27 rfl (lv_at hl 1 rfl) ?_
        refine lv_iconst (v := 1) hx hb dX2_greatestWeight_28 (by decide) ?_
        refine lv_isub hx hb dX2_greatestWeight_29 ?_
        obtain ⟨hi3, hf⟩ := xi_some hf
        refine kIald hx hb hv 4 rfl hi3 dX2_greatestWeight_30 ?_
        refine lv_aload_n hx hb dX2_greatestWeight_31 rfl (lv_at hl 0 rfl) ?_
        refine kGet (v := .ref aT_best) (C := RX2) (T := TX2) (N := 2) hx hb hts hinX2 hown hv 0 rfl rfl 1 (by decide) hk20 (fun _ h9 => h9) rfl dX2_greatestWeight_32 ?_
        refine lv_aload_n hx hb dX2_greatestWeight_35 rfl (lv_at hl 0 rfl) ?_
        refine lv_aload_n hx hb dX2_greatestWeight_36 rfl (lv_at hl 0 rfl) ?_
        refine kGet (v := .ref aT_row) (C := RX2) (T := TX2) (N := 2) hx hb hts hinX2 hown hv 0 rfl rfl 0 (by decide) hk14 (fun _ h9 => h9) rfl dX2_greatestWeight_37 ?_
        refine kGetN (v := .ref aT_row_begins) (C := RX3) (T := TX3) (N := 6) hx hb hts hinX3 hown hv 1 rfl rfl 2 (by decide) hn31 (fun _ h9 => h9) rfl dX2_greatestWeight_40 ?_
        refine lv_iload_n hx hb dX2_greatestWeight_43 rfl (lv_at hl 1 rfl) ?_
        refine lv_iconst (v := 1) hx hb dX2_greatestWeight_44 (by decide) ?_
        refine lv_isub hx hb dX2_greatestWeight_45 ?_
        obtain ⟨hi4, hf⟩ := xi_some hf
        refine kIald hx hb hv 2 rfl hi4 dX2_greatestWeight_46 ?_
        obtain ⟨r5, hcl6, hf⟩ := xb_some hf
        refine kV_i (r := r5) (wr := [(aT_row_begins, .inl (cy.1, 40, .inl A_row_begins)), (aT_row_weights, .inl (cy.1, 40, .inl A_row_weights)), (aT_best, .inl (cy.1, 41, .inl A_best))]) (w2 := [(aT, .inr (2, [.ref aT_row, .ref aT_best])), (aT_row, .inr (3, [.int f_row_byEnd, .ref aT_row_numbers, .ref aT_row_begins, .ref aT_row_ends, .ref aT_row_weights, .int f_row_count])), (aT_row_begins, .inl (cy.1, 40, .inl A_row_begins)), (aT_row_ends, .inl (cy.1, 40, .inl A_row_ends)), (aT_row_weights, .inl (cy.1, 40, .inl A_row_weights)), (aT_best, .inl (cy.1, 41, .inl A_best))]) ⟨hx, hb, hml, hown, hts⟩ (c_X2_endedBy l G cy k aT aT_row aT_best aT_row_numbers aT_row_begins aT_row_ends aT_row_weights f_row_byEnd f_row_count A_row_ends (A_row_begins (v1 - 1).toNatClampNeg) hcl6) (cwV 1 hts gX2_greatestWeight_X2_endedBy rfl rfl rfl (by decide +kernel) ⟨Nat.le_of_ble_eq_true rfl, Nat.le_of_ble_eq_true rfl⟩) hv (isC := [0, 1, 3]) ⟨rfl, rfl⟩ (hv.recv 2 0 rfl rfl) [2, 4, 5] [3, 4, 0, 5, 1, 2] rfl rfl (by decide) rfl rfl rfl hl.1 rfl (Nat.le_of_ble_eq_true rfl) dX2_greatestWeight_47 ⟨Nat.le_of_ble_eq_true rfl, Nat.le_of_ble_eq_true rfl⟩ (fun H locs hv => ?_)
        obtain ⟨hi7, hf⟩ := xi_some hf
        refine kIald hx hb hv 5 rfl hi7 dX2_greatestWeight_50 ?_
        refine lv_iadd hx hb dX2_greatestWeight_51 ?_
        refine lv_istore_n (lv' := [(2, .int ((A_row_weights (v1 - 1).toNatClampNeg) + (A_best r5.toNatClampNeg))), (0, .ref aT), (1, .int v1)]) hx hb dX2_greatestWeight_52 rfl hl (by decide) rfl (fun ls hl => ?_)
        refine lv_aload_n hx hb dX2_greatestWeight_53 rfl (lv_at hl 1 rfl) ?_
        refine kGet (v := .ref aT_best) (C := RX2) (T := TX2) (N := 2) hx hb hts hinX2 hown hv 0 rfl rfl 1 (by decide) hk20 (fun _ h9 => h9) rfl dX2_greatestWeight_54 ?_
        refine lv_iload_n hx hb dX2_greatestWeight_57 rfl (lv_at hl 2 rfl) ?_
        refine lv_aload_n hx hb dX2_greatestWeight_58 rfl (lv_at hl 1 rfl) ?_
        refine kGet (v := .ref aT_best) (C := RX2) (T := TX2) (N := 2) hx hb hts hinX2 hown hv 0 rfl rfl 1 (by decide) hk20 (fun _ h9 => h9) rfl dX2_greatestWeight_59 ?_
        refine lv_iload_n hx hb dX2_greatestWeight_62 rfl (lv_at hl 2 rfl) ?_
        refine lv_iconst (v := 1) hx hb dX2_greatestWeight_63 (by decide) ?_
        refine lv_isub hx hb dX2_greatestWeight_64 ?_
        obtain ⟨hi8, hf⟩ := xi_some hf
        refine kIald hx hb hv 5 rfl hi8 dX2_greatestWeight_65 ?_
        refine lv_iload_n hx hb dX2_greatestWeight_66 rfl (lv_at hl 0 rfl) ?_
        refine va_mmax hx hb (by rw [hml]; exact hl.1.symm) hown hm38a hm38b hm38c hm38d (Nat.le_of_ble_eq_true rfl) (Nat.le_of_ble_eq_true rfl) (Nat.le_of_ble_eq_true rfl) (Nat.le_of_ble_eq_true rfl) dX2_greatestWeight_67 ?_
        obtain ⟨hi9, hf⟩ := xi_some hf
        refine kIast hx hb hv 5 rfl hi9 dX2_greatestWeight_70 (fun H locs hv => ?_)
        replace hv : Hv s H locs G cy A [(aT, .inr (2, [.ref aT_row, .ref aT_best])), (aT_row, .inr (3, [.int f_row_byEnd, .ref aT_row_numbers, .ref aT_row_begins, .ref aT_row_ends, .ref aT_row_weights, .int f_row_count])), (aT_row_begins, .inl (cy.1, 40, .inl A_row_begins)), (aT_row_ends, .inl (cy.1, 40, .inl A_row_ends)), (aT_row_weights, .inl (cy.1, 40, .inl A_row_weights)), (aT_best, .inl (cy.1, 41, .inl (upd A_best v1.toNatClampNeg (if (A_best (v1 - 1).toNatClampNeg) < ((A_row_weights (v1 - 1).toNatClampNeg) + (A_best r5.toNatClampNeg)) then ((A_row_weights (v1 - 1).toNatClampNeg) + (A_best r5.toNatClampNeg)) else (A_best (v1 - 1).toNatClampNeg)))))] := hv
        refine lv_iinc (v := v1 + 1) (lv' := [(1, .int (v1 + 1)), (2, .int ((A_row_weights (v1 - 1).toNatClampNeg) + (A_best r5.toNatClampNeg))), (0, .ref aT)]) hx hb dX2_greatestWeight_71 hl (k := 2) rfl rfl (by decide) rfl (fun ls hl => ?_)
        refine lv_goto (tgt := 9) hx hb dX2_greatestWeight_74 (by decide) ?_
        exact ih (v1 + 1) (upd A_best v1.toNatClampNeg (if (A_best (v1 - 1).toNatClampNeg) < ((A_row_weights (v1 - 1).toNatClampNeg) + (A_best r5.toNatClampNeg)) then ((A_row_weights (v1 - 1).toNatClampNeg) + (A_best r5.toNatClampNeg)) else (A_best (v1 - 1).toNatClampNeg))) hf _ _ _ hv (lv_sub hl [2, 0] rfl) hκ
  unfold f_X2_greatestWeight at hf
  refine lv_aload_n hx hb dX2_greatestWeight_0 rfl (lv_at hl 0 rfl) ?_
  refine kGet (v := .ref aT_best) (C := RX2) (T := TX2) (N := 2) hx hb hts hinX2 hown hv 0 rfl rfl 1 (by decide) hk20 (fun _ h9 => h9) rfl dX2_greatestWeight_1 ?_
  refine lv_iconst (v := 0) hx hb dX2_greatestWeight_4 (by decide) ?_
  refine lv_iconst (v := 0) hx hb dX2_greatestWeight_5 (by decide) ?_
  obtain ⟨hi1, hf⟩ := xi_some hf
  refine kIast hx hb hv 5 rfl hi1 dX2_greatestWeight_6 (fun H locs hv => ?_)
  replace hv : Hv s H locs G cy A [(aT, .inr (2, [.ref aT_row, .ref aT_best])), (aT_row, .inr (3, [.int f_row_byEnd, .ref aT_row_numbers, .ref aT_row_begins, .ref aT_row_ends, .ref aT_row_weights, .int f_row_count])), (aT_row_begins, .inl (cy.1, 40, .inl A_row_begins)), (aT_row_ends, .inl (cy.1, 40, .inl A_row_ends)), (aT_row_weights, .inl (cy.1, 40, .inl A_row_weights)), (aT_best, .inl (cy.1, 41, .inl (upd A_best (0 : Int32).toNatClampNeg 0)))] := hv
  refine lv_iconst (v := 1) hx hb dX2_greatestWeight_7 (by decide) ?_
  refine lv_istore_n (lv' := [(1, .int 1), (0, .ref aT)]) hx hb dX2_greatestWeight_8 rfl hl (by decide) rfl (fun ls hl => ?_)
  refine L9 _ _ _ _ hf _ _ _ hv (lv_sub hl [1, 0] rfl) (fun v1_10 A_best_11 hf H locs ls hv hl => ?_)
  try dsimp only at hf
  refine lv_aload_n hx hb dX2_greatestWeight_77 rfl (lv_at hl 0 rfl) ?_
  refine kGet (v := .ref aT_best) (C := RX2) (T := TX2) (N := 2) hx hb hts hinX2 hown hv 0 rfl rfl 1 (by decide) hk20 (fun _ h9 => h9) rfl dX2_greatestWeight_78 ?_
  refine lv_aload_n hx hb dX2_greatestWeight_81 rfl (lv_at hl 0 rfl) ?_
  refine kGet (v := .ref aT_row) (C := RX2) (T := TX2) (N := 2) hx hb hts hinX2 hown hv 0 rfl rfl 0 (by decide) hk14 (fun _ h9 => h9) rfl dX2_greatestWeight_82 ?_
  refine kGetN (v := .int f_row_count) (C := RX3) (T := TX3) (N := 6) hx hb hts hinX3 hown hv 1 rfl rfl 5 (by decide) hn24 (fun _ h9 => h9) rfl dX2_greatestWeight_85 ?_
  obtain ⟨hi12, hf⟩ := xi_some hf
  refine kIald hx hb hv 5 rfl hi12 dX2_greatestWeight_88 ?_
  cases hf
  exact kret _ _ _ _ hv dX2_greatestWeight_89

def f_X4_only (k : Nat) (p0 : Int32) : Option (Int64) := some ((1 : Int64) <<< ((p0 : Int32).toInt64 &&& 63))
abbrev rm_X4_only : Room := { frames := 0, cells := 0, slots := 0, locals := 0 }
set_option maxHeartbeats 4000000 in
set_option maxRecDepth 100000 in
theorem c_X4_only (l : Launch) (G : va_G) (cy : ClassId × ClassId × ClassId) (k : Nat) (p0 : Int32) {r : Int64} (hf : f_X4_only k p0 = some r) : Cl l yX4_only wsX4_only rm_X4_only 0 0 G cy [.int p0] [] [] r := by
  refine kMetL (cc := cX4_only) (maxL := 1) (by decide) rfl (Nat.le_of_ble_eq_true rfl) ?_
  intro p e s m args below meth c Q A ls hx hb hml hts hown hv hl kret
  replace hown : s.vm.findClass RX4 = some m.cls := hown
  replace hl : lv_has ls 1 [(0, .int p0)] := hl
  unfold f_X4_only at hf
  refine lv_lconst (v := 1) hx hb dX4_only_0 (by decide) ?_
  refine lv_iload_n hx hb dX4_only_1 rfl (lv_at hl 0 rfl) ?_
  refine lv_lshl hx hb dX4_only_2 rfl ?_
  cases hf
  exact kret _ _ _ _ hv dX4_only_3

def f_X2_chosenSet_L24 (k : Nat) (f_row_count : Int32) (A_row_numbers : Nat → Int32) (A_row_begins : Nat → Int32) (A_row_ends : Nat → Int32) (A_best : Nat → Int32) (κ : Int64 → Int32 → Int32 → Option (Int64 × (Nat → Int32))) : Nat → Int64 → Int32 → Int32 → Option (Int64 × (Nat → Int32))
  | 0, _, _, _ => none
  | n + 1, v1, v3, v4 => if v4 ≤ 0 then κ v1 v3 v4 else if v3 < v4 then f_X2_chosenSet_L24 k f_row_count A_row_numbers A_row_begins A_row_ends A_best κ n v1 v3 (v4 + (-1)) else xi v4 41 (xi (v4 - 1) 41 (if (A_best v4.toNatClampNeg) = (A_best (v4 - 1).toNatClampNeg) then f_X2_chosenSet_L24 k f_row_count A_row_numbers A_row_begins A_row_ends A_best κ n v1 v3 (v4 + (-1)) else xi (v4 - 1) 40 (xb (f_X4_only k (A_row_numbers (v4 - 1).toNatClampNeg)) (fun r10 => xi (v4 - 1) 40 (xb (f_X2_endedBy k (A_row_begins (v4 - 1).toNatClampNeg) f_row_count A_row_ends) (fun r13 => f_X2_chosenSet_L24 k f_row_count A_row_numbers A_row_begins A_row_ends A_best κ n (v1 ||| r10) r13 (v4 + (-1))))))))
theorem f_X2_chosenSet_L24_z (k : Nat) (f_row_count : Int32) (A_row_numbers : Nat → Int32) (A_row_begins : Nat → Int32) (A_row_ends : Nat → Int32) (A_best : Nat → Int32) (κ : Int64 → Int32 → Int32 → Option (Int64 × (Nat → Int32))) (v1 : Int64) (v3 : Int32) (v4 : Int32) : f_X2_chosenSet_L24 k f_row_count A_row_numbers A_row_begins A_row_ends A_best κ 0 v1 v3 v4 = none := rfl
theorem f_X2_chosenSet_L24_s (k : Nat) (f_row_count : Int32) (A_row_numbers : Nat → Int32) (A_row_begins : Nat → Int32) (A_row_ends : Nat → Int32) (A_best : Nat → Int32) (κ : Int64 → Int32 → Int32 → Option (Int64 × (Nat → Int32))) (n : Nat) (v1 : Int64) (v3 : Int32) (v4 : Int32) : f_X2_chosenSet_L24 k f_row_count A_row_numbers A_row_begins A_row_ends A_best κ (n + 1) v1 v3 v4 = if v4 ≤ 0 then κ v1 v3 v4 else if v3 < v4 then f_X2_chosenSet_L24 k f_row_count A_row_numbers A_row_begins A_row_ends A_best κ n v1 v3 (v4 + (-1)) else xi v4 41 (xi (v4 - 1) 41 (if (A_best v4.toNatClampNeg) = (A_best (v4 - 1).toNatClampNeg) then f_X2_chosenSet_L24 k f_row_count A_row_numbers A_row_begins A_row_ends A_best κ n v1 v3 (v4 + (-1)) else xi (v4 - 1) 40 (xb (f_X4_only k (A_row_numbers (v4 - 1).toNatClampNeg)) (fun r10 => xi (v4 - 1) 40 (xb (f_X2_endedBy k (A_row_begins (v4 - 1).toNatClampNeg) f_row_count A_row_ends) (fun r13 => f_X2_chosenSet_L24 k f_row_count A_row_numbers A_row_begins A_row_ends A_best κ n (v1 ||| r10) r13 (v4 + (-1)))))))) := rfl
def f_X2_chosenSet (k : Nat) (f_row_count : Int32) (A_row_numbers : Nat → Int32) (A_row_begins : Nat → Int32) (A_row_ends : Nat → Int32) (A_row_weights : Nat → Int32) (A_best : Nat → Int32) : Option (Int64 × (Nat → Int32)) := xb (f_X2_greatestWeight k f_row_count A_row_begins A_row_ends A_row_weights A_best) (fun (r1, A_best_2) => f_X2_chosenSet_L24 k f_row_count A_row_numbers A_row_begins A_row_ends A_best_2 (fun (v1_15 : Int64) (v3_16 : Int32) (v4_17 : Int32) => some (v1_15, A_best_2)) k 0 f_row_count f_row_count)
abbrev rm_X2_chosenSet : Room := { frames := 2, cells := 0, slots := 0, locals := 44 }
set_option maxHeartbeats 4000000 in
set_option maxRecDepth 100000 in
theorem c_X2_chosenSet (l : Launch) (G : va_G) (cy : ClassId × ClassId × ClassId) (k : Nat) (aT aT_row aT_best aT_row_numbers aT_row_begins aT_row_ends aT_row_weights : Nat) (f_row_byEnd : Int32) (f_row_count : Int32) (A_row_numbers : Nat → Int32) (A_row_begins : Nat → Int32) (A_row_ends : Nat → Int32) (A_row_weights : Nat → Int32) (A_best : Nat → Int32) {r : Int64} {wA_best : Nat → Int32} (hf : f_X2_chosenSet k f_row_count A_row_numbers A_row_begins A_row_ends A_row_weights A_best = some (r, wA_best)) : Cl l yX2_chosenSet wsX2_chosenSet rm_X2_chosenSet 0 0 G cy [.ref aT] [(aT, .inr (2, [.ref aT_row, .ref aT_best])), (aT_row, .inr (3, [.int f_row_byEnd, .ref aT_row_numbers, .ref aT_row_begins, .ref aT_row_ends, .ref aT_row_weights, .int f_row_count])), (aT_row_numbers, .inl (cy.1, 40, .inl A_row_numbers)), (aT_row_begins, .inl (cy.1, 40, .inl A_row_begins)), (aT_row_ends, .inl (cy.1, 40, .inl A_row_ends)), (aT_row_weights, .inl (cy.1, 40, .inl A_row_weights)), (aT_best, .inl (cy.1, 41, .inl A_best))] [(aT, .inr (2, [.ref aT_row, .ref aT_best])), (aT_row, .inr (3, [.int f_row_byEnd, .ref aT_row_numbers, .ref aT_row_begins, .ref aT_row_ends, .ref aT_row_weights, .int f_row_count])), (aT_row_numbers, .inl (cy.1, 40, .inl A_row_numbers)), (aT_row_begins, .inl (cy.1, 40, .inl A_row_begins)), (aT_row_ends, .inl (cy.1, 40, .inl A_row_ends)), (aT_row_weights, .inl (cy.1, 40, .inl A_row_weights)), (aT_best, .inl (cy.1, 41, .inl wA_best))] r := by
  refine kMetL (cc := cX2_chosenSet) (maxL := 5) (by decide) rfl (Nat.le_of_ble_eq_true rfl) ?_
  intro p e s m args below meth c Q A ls hx hb hml hts hown hv hl kret
  replace hown : s.vm.findClass RX2 = some m.cls := hown
  replace hl : lv_has ls 5 [(0, .ref aT)] := hl
  have hk14 : (Cond.fieldLink RX2 14 "Roomcolour$OneRoomPlan" "row" "LRoomcolour$Row;").before args s = true := hts _ (by decide +kernel)
  have hinX2 : ∀ w ∈ wsX20, w ∈ wsX2_chosenSet := by decide +kernel
  have hn24 : (Cond.fieldLinkNest RX2 24 "Roomcolour$Row" "count" "I" RX4).before args s = true := va_Nw.use rfl (hv.2.2.2.2.2.1 _ (by decide +kernel))
  have hinX3 : ∀ w ∈ wsX30, w ∈ wsX2_chosenSet := by decide +kernel
  have hk20 : (Cond.fieldLink RX2 20 "Roomcolour$OneRoomPlan" "best" "[I").before args s = true := hts _ (by decide +kernel)
  have hn48 : (Cond.fieldLinkNest RX2 48 "Roomcolour$Row" "numbers" "[I" RX4).before args s = true := va_Nw.use rfl (hv.2.2.2.2.2.1 _ (by decide +kernel))
  have hI51 : (Cond.initialized yX4_only.cls).before args s = true := hts _ (by decide +kernel)
  have hS51 : (Cond.static yX4_only).before args s = true := hts _ (by decide +kernel)
  have hn31 : (Cond.fieldLinkNest RX2 31 "Roomcolour$Row" "begins" "[I" RX4).before args s = true := va_Nw.use rfl (hv.2.2.2.2.2.1 _ (by decide +kernel))
  have L24 : ∀ (A_best : Nat → Int32) (κ : Int64 → Int32 → Int32 → Option (Int64 × (Nat → Int32))) (n : Nat) (v1 : Int64) (v3 : Int32) (v4 : Int32), f_X2_chosenSet_L24 k f_row_count A_row_numbers A_row_begins A_row_ends A_best κ n v1 v3 v4 = some (r, wA_best) → ∀ (H : Heap) (locs : List Loc) (ls : Array Slot), Hv s H locs G cy A [(aT, .inr (2, [.ref aT_row, .ref aT_best])), (aT_row, .inr (3, [.int f_row_byEnd, .ref aT_row_numbers, .ref aT_row_begins, .ref aT_row_ends, .ref aT_row_weights, .int f_row_count])), (aT_row_numbers, .inl (cy.1, 40, .inl A_row_numbers)), (aT_row_begins, .inl (cy.1, 40, .inl A_row_begins)), (aT_row_ends, .inl (cy.1, 40, .inl A_row_ends)), (aT_row_weights, .inl (cy.1, 40, .inl A_row_weights)), (aT_best, .inl (cy.1, 41, .inl A_best))] → lv_has ls 5 [(0, .ref aT), (1, .long v1), (3, .int v3), (4, .int v4)] → (∀ (v1 : Int64) (v3 : Int32) (v4 : Int32), κ v1 v3 v4 = some (r, wA_best) → ∀ (H : Heap) (locs : List Loc) (ls : Array Slot), Hv s H locs G cy A [(aT, .inr (2, [.ref aT_row, .ref aT_best])), (aT_row, .inr (3, [.int f_row_byEnd, .ref aT_row_numbers, .ref aT_row_begins, .ref aT_row_ends, .ref aT_row_weights, .int f_row_count])), (aT_row_numbers, .inl (cy.1, 40, .inl A_row_numbers)), (aT_row_begins, .inl (cy.1, 40, .inl A_row_begins)), (aT_row_ends, .inl (cy.1, 40, .inl A_row_ends)), (aT_row_weights, .inl (cy.1, 40, .inl A_row_weights)), (aT_best, .inl (cy.1, 41, .inl A_best))] → lv_has ls 5 [(1, .long v1)] → W p l e rm_X2_chosenSet s m args below meth c H locs 0 0 Q (F0 m 95 ls [])) → W p l e rm_X2_chosenSet s m args below meth c H locs 0 0 Q (F0 m 24 ls []) := by
    intro A_best κ n
    induction n with
    | zero =>
      intro v1 v3 v4 hf
      rw [f_X2_chosenSet_L24_z] at hf
      cases hf
    | succ n ih =>
      intro v1 v3 v4 hf H locs ls hv hl hκ
      rw [f_X2_chosenSet_L24_s] at hf
      refine lv_iload hx hb dX2_chosenSet_24 (lv_at hl 3 rfl) ?_
      refine lv_if_le (tgt := 95) hx hb dX2_chosenSet_26 (by decide) (fun hc4 => ?_) (fun hc4 => ?_)
      · replace hf := ite_t hf hc4
        exact hκ v1 v3 v4 hf _ _ _ hv (lv_sub hl [1] rfl)
      · replace hf := ite_f hf hc4
        refine lv_iload hx hb dX2_chosenSet_29 (lv_at hl 3 rfl) ?_
        refine lv_iload_n hx hb dX2_chosenSet_31 rfl (lv_at hl 2 rfl) ?_
        refine lv_icmp_gt (tgt := 89) hx hb dX2_chosenSet_32 (by decide) (fun hc5 => ?_) (fun hc5 => ?_)
        · replace hf := ite_t hf hc5
          refine lv_iinc (v := v4 + (-1)) (lv' := [(4, .int (v4 + (-1))), (0, .ref aT), (1, .long v1), (3, .int v3)]) hx hb dX2_chosenSet_89 hl (k := 3) rfl rfl (by decide) rfl (fun ls hl => ?_)
          refine lv_goto (tgt := 24) hx hb dX2_chosenSet_92 (by decide) ?_
          exact ih v1 v3 (v4 + (-1)) hf _ _ _ hv (lv_sub hl [1, 2, 3, 0] rfl) hκ
        · replace hf := ite_f hf hc5
          refine lv_aload_n hx hb dX2_chosenSet_35 rfl (lv_at hl 0 rfl) ?_
          refine kGet (v := .ref aT_best) (C := RX2) (T := TX2) (N := 2) hx hb hts hinX2 hown hv 0 rfl rfl 1 (by decide) hk20 (fun _ h9 => h9) rfl dX2_chosenSet_36 ?_
          refine lv_iload hx hb dX2_chosenSet_39 (lv_at hl 3 rfl) ?_
          obtain ⟨hi6, hf⟩ := xi_some hf
          refine kIald hx hb hv 6 rfl hi6 dX2_chosenSet_41 ?_
          refine lv_aload_n hx hb dX2_chosenSet_42 rfl (lv_at hl 0 rfl) ?_
          refine kGet (v := .ref aT_best) (C := RX2) (T := TX2) (N := 2) hx hb hts hinX2 hown hv 0 rfl rfl 1 (by decide) hk20 (fun _ h9 => h9) rfl dX2_chosenSet_43 ?_
          refine lv_iload hx hb dX2_chosenSet_46 (lv_at hl 3 rfl) ?_
          refine lv_iconst (v := 1) hx hb dX2_chosenSet_48 (by decide) ?_
          refine lv_isub hx hb dX2_chosenSet_49 ?_
          obtain ⟨hi7, hf⟩ := xi_some hf
          refine kIald hx hb hv 6 rfl hi7 dX2_chosenSet_50 ?_
          refine lv_icmp_eq (tgt := 89) hx hb dX2_chosenSet_51 (by decide) (fun hc8 => ?_) (fun hc8 => ?_)
          · replace hf := ite_t hf hc8
            refine lv_iinc (v := v4 + (-1)) (lv' := [(4, .int (v4 + (-1))), (0, .ref aT), (1, .long v1), (3, .int v3)]) hx hb dX2_chosenSet_89 hl (k := 3) rfl rfl (by decide) rfl (fun ls hl => ?_)
            refine lv_goto (tgt := 24) hx hb dX2_chosenSet_92 (by decide) ?_
            exact ih v1 v3 (v4 + (-1)) hf _ _ _ hv (lv_sub hl [1, 2, 3, 0] rfl) hκ
          · replace hf := ite_f hf hc8
            refine lv_lload_n hx hb dX2_chosenSet_54 rfl (lv_at hl 1 rfl) ?_
            refine lv_aload_n hx hb dX2_chosenSet_55 rfl (lv_at hl 0 rfl) ?_
            refine kGet (v := .ref aT_row) (C := RX2) (T := TX2) (N := 2) hx hb hts hinX2 hown hv 0 rfl rfl 0 (by decide) hk14 (fun _ h9 => h9) rfl dX2_chosenSet_56 ?_
            refine kGetN (v := .ref aT_row_numbers) (C := RX3) (T := TX3) (N := 6) hx hb hts hinX3 hown hv 1 rfl rfl 1 (by decide) hn48 (fun _ h9 => h9) rfl dX2_chosenSet_59 ?_
            refine lv_iload hx hb dX2_chosenSet_62 (lv_at hl 3 rfl) ?_
            refine lv_iconst (v := 1) hx hb dX2_chosenSet_64 (by decide) ?_
            refine lv_isub hx hb dX2_chosenSet_65 ?_
            obtain ⟨hi9, hf⟩ := xi_some hf
            refine kIald hx hb hv 2 rfl hi9 dX2_chosenSet_66 ?_
            obtain ⟨r10, hcl11, hf⟩ := xb_some hf
            refine kSN_l (r := r10) ⟨hx, hb, hml, hown, hts⟩ (c_X4_only l G cy k (A_row_numbers (v4 - 1).toNatClampNeg) hcl11) ⟨va_cnB 1 hts gX2_chosenSet_X4_only_n51 rfl rfl rfl (hv.2.2.2.2.2.1 (.methodLinkNest RX2 51 yX4_only RX4) (by decide +kernel)) hI51 (by decide +kernel) ⟨Nat.le_of_ble_eq_true rfl, Nat.le_of_ble_eq_true rfl⟩, hS51, trivial⟩ hv rfl hl.1 rfl (Nat.le_of_ble_eq_true rfl) dX2_chosenSet_67 ⟨Nat.le_of_ble_eq_true rfl, Nat.le_of_ble_eq_true rfl⟩ (fun H locs hv => ?_)
            refine lv_lor hx hb dX2_chosenSet_70 ?_
            refine lv_lstore_n (lv' := [(1, .long (v1 ||| r10)), (0, .ref aT), (3, .int v3), (4, .int v4)]) hx hb dX2_chosenSet_71 rfl hl (by decide) rfl (fun ls hl => ?_)
            refine lv_aload_n hx hb dX2_chosenSet_72 rfl (lv_at hl 1 rfl) ?_
            refine lv_aload_n hx hb dX2_chosenSet_73 rfl (lv_at hl 1 rfl) ?_
            refine kGet (v := .ref aT_row) (C := RX2) (T := TX2) (N := 2) hx hb hts hinX2 hown hv 0 rfl rfl 0 (by decide) hk14 (fun _ h9 => h9) rfl dX2_chosenSet_74 ?_
            refine kGetN (v := .ref aT_row_begins) (C := RX3) (T := TX3) (N := 6) hx hb hts hinX3 hown hv 1 rfl rfl 2 (by decide) hn31 (fun _ h9 => h9) rfl dX2_chosenSet_77 ?_
            refine lv_iload hx hb dX2_chosenSet_80 (lv_at hl 3 rfl) ?_
            refine lv_iconst (v := 1) hx hb dX2_chosenSet_82 (by decide) ?_
            refine lv_isub hx hb dX2_chosenSet_83 ?_
            obtain ⟨hi12, hf⟩ := xi_some hf
            refine kIald hx hb hv 3 rfl hi12 dX2_chosenSet_84 ?_
            obtain ⟨r13, hcl14, hf⟩ := xb_some hf
            refine kV_i (r := r13) (wr := [(aT_row_numbers, .inl (cy.1, 40, .inl A_row_numbers)), (aT_row_begins, .inl (cy.1, 40, .inl A_row_begins)), (aT_row_weights, .inl (cy.1, 40, .inl A_row_weights)), (aT_best, .inl (cy.1, 41, .inl A_best))]) (w2 := [(aT, .inr (2, [.ref aT_row, .ref aT_best])), (aT_row, .inr (3, [.int f_row_byEnd, .ref aT_row_numbers, .ref aT_row_begins, .ref aT_row_ends, .ref aT_row_weights, .int f_row_count])), (aT_row_numbers, .inl (cy.1, 40, .inl A_row_numbers)), (aT_row_begins, .inl (cy.1, 40, .inl A_row_begins)), (aT_row_ends, .inl (cy.1, 40, .inl A_row_ends)), (aT_row_weights, .inl (cy.1, 40, .inl A_row_weights)), (aT_best, .inl (cy.1, 41, .inl A_best))]) ⟨hx, hb, hml, hown, hts⟩ (c_X2_endedBy l G cy k aT aT_row aT_best aT_row_numbers aT_row_begins aT_row_ends aT_row_weights f_row_byEnd f_row_count A_row_ends (A_row_begins (v4 - 1).toNatClampNeg) hcl14) (cwV 1 hts gX2_chosenSet_X2_endedBy rfl rfl rfl (by decide +kernel) ⟨Nat.le_of_ble_eq_true rfl, Nat.le_of_ble_eq_true rfl⟩) hv (isC := [0, 1, 4]) ⟨rfl, rfl⟩ (hv.recv 2 0 rfl rfl) [2, 3, 5, 6] [4, 5, 0, 1, 6, 2, 3] rfl rfl (by decide) rfl rfl rfl hl.1 rfl (Nat.le_of_ble_eq_true rfl) dX2_chosenSet_85 ⟨Nat.le_of_ble_eq_true rfl, Nat.le_of_ble_eq_true rfl⟩ (fun H locs hv => ?_)
            refine lv_istore_n (lv' := [(3, .int r13), (1, .long (v1 ||| r10)), (0, .ref aT), (4, .int v4)]) hx hb dX2_chosenSet_88 rfl hl (by decide) rfl (fun ls hl => ?_)
            refine lv_iinc (v := v4 + (-1)) (lv' := [(4, .int (v4 + (-1))), (3, .int r13), (1, .long (v1 ||| r10)), (0, .ref aT)]) hx hb dX2_chosenSet_89 hl (k := 3) rfl rfl (by decide) rfl (fun ls hl => ?_)
            refine lv_goto (tgt := 24) hx hb dX2_chosenSet_92 (by decide) ?_
            exact ih (v1 ||| r10) r13 (v4 + (-1)) hf _ _ _ hv (lv_sub hl [3, 2, 1, 0] rfl) hκ
  unfold f_X2_chosenSet at hf
  refine lv_aload_n hx hb dX2_chosenSet_0 rfl (lv_at hl 0 rfl) ?_
  obtain ⟨⟨r1, A_best_2⟩, hcl3, hf⟩ := xb_some hf
  dsimp only at hf
  refine kV_i (r := r1) (wr := [(aT_row_numbers, .inl (cy.1, 40, .inl A_row_numbers))]) (w2 := [(aT, .inr (2, [.ref aT_row, .ref aT_best])), (aT_row, .inr (3, [.int f_row_byEnd, .ref aT_row_numbers, .ref aT_row_begins, .ref aT_row_ends, .ref aT_row_weights, .int f_row_count])), (aT_row_numbers, .inl (cy.1, 40, .inl A_row_numbers)), (aT_row_begins, .inl (cy.1, 40, .inl A_row_begins)), (aT_row_ends, .inl (cy.1, 40, .inl A_row_ends)), (aT_row_weights, .inl (cy.1, 40, .inl A_row_weights)), (aT_best, .inl (cy.1, 41, .inl A_best_2))]) ⟨hx, hb, hml, hown, hts⟩ (c_X2_greatestWeight l G cy k aT aT_row aT_best aT_row_numbers aT_row_begins aT_row_ends aT_row_weights f_row_byEnd f_row_count A_row_begins A_row_ends A_row_weights A_best hcl3) (cwV 0 hts gX2_chosenSet_X2_greatestWeight rfl rfl rfl (by decide +kernel) ⟨Nat.le_of_ble_eq_true rfl, Nat.le_of_ble_eq_true rfl⟩) hv (isC := [0, 1, 3, 4, 5, 6]) ⟨rfl, rfl⟩ (hv.recv 2 0 rfl rfl) [2] [1, 2, 0, 3, 4, 5, 6] rfl rfl (by decide) rfl rfl rfl hl.1 rfl (Nat.le_of_ble_eq_true rfl) dX2_chosenSet_1 ⟨Nat.le_of_ble_eq_true rfl, Nat.le_of_ble_eq_true rfl⟩ (fun H locs hv => ?_)
  refine lv_pop hx hb dX2_chosenSet_4 rfl ?_
  refine lv_lconst (v := 0) hx hb dX2_chosenSet_5 (by decide) ?_
  refine lv_lstore_n (lv' := [(1, .long 0), (0, .ref aT)]) hx hb dX2_chosenSet_6 rfl hl (by decide) rfl (fun ls hl => ?_)
  refine lv_aload_n hx hb dX2_chosenSet_7 rfl (lv_at hl 1 rfl) ?_
  refine kGet (v := .ref aT_row) (C := RX2) (T := TX2) (N := 2) hx hb hts hinX2 hown hv 0 rfl rfl 0 (by decide) hk14 (fun _ h9 => h9) rfl dX2_chosenSet_8 ?_
  refine kGetN (v := .int f_row_count) (C := RX3) (T := TX3) (N := 6) hx hb hts hinX3 hown hv 1 rfl rfl 5 (by decide) hn24 (fun _ h9 => h9) rfl dX2_chosenSet_11 ?_
  refine lv_istore_n (lv' := [(3, .int f_row_count), (1, .long 0), (0, .ref aT)]) hx hb dX2_chosenSet_14 rfl hl (by decide) rfl (fun ls hl => ?_)
  refine lv_aload_n hx hb dX2_chosenSet_15 rfl (lv_at hl 2 rfl) ?_
  refine kGet (v := .ref aT_row) (C := RX2) (T := TX2) (N := 2) hx hb hts hinX2 hown hv 0 rfl rfl 0 (by decide) hk14 (fun _ h9 => h9) rfl dX2_chosenSet_16 ?_
  refine kGetN (v := .int f_row_count) (C := RX3) (T := TX3) (N := 6) hx hb hts hinX3 hown hv 1 rfl rfl 5 (by decide) hn24 (fun _ h9 => h9) rfl dX2_chosenSet_19 ?_
  refine lv_istore (lv' := [(4, .int f_row_count), (3, .int f_row_count), (1, .long 0), (0, .ref aT)]) hx hb dX2_chosenSet_22 hl (by decide) rfl (fun ls hl => ?_)
  refine L24 _ _ _ _ _ _ hf _ _ _ hv (lv_sub hl [3, 2, 1, 0] rfl) (fun v1_15 v3_16 v4_17 hf H locs ls hv hl => ?_)
  try dsimp only at hf
  refine lv_lload_n hx hb dX2_chosenSet_95 rfl (lv_at hl 0 rfl) ?_
  cases hf
  exact kret _ _ _ _ hv dX2_chosenSet_96

def f_X2_greatestNumber_L6 (k : Nat) (f_row_count : Int32) (A_row_begins : Nat → Int32) (A_row_ends : Nat → Int32) (κ : Int32 → Int32 → Int32 → Option (Int32)) : Nat → Int32 → Int32 → Int32 → Option (Int32)
  | 0, _, _, _ => none
  | n + 1, v1, v2, v3 => if f_row_count ≤ v3 then κ v1 v2 v3 else xi v3 40 (if (A_row_begins v3.toNatClampNeg) < v2 then f_X2_greatestNumber_L6 k f_row_count A_row_begins A_row_ends κ n v1 v2 (v3 + 1) else xi v3 40 (f_X2_greatestNumber_L6 k f_row_count A_row_begins A_row_ends κ n (v1 + 1) (A_row_ends v3.toNatClampNeg) (v3 + 1)))
theorem f_X2_greatestNumber_L6_z (k : Nat) (f_row_count : Int32) (A_row_begins : Nat → Int32) (A_row_ends : Nat → Int32) (κ : Int32 → Int32 → Int32 → Option (Int32)) (v1 : Int32) (v2 : Int32) (v3 : Int32) : f_X2_greatestNumber_L6 k f_row_count A_row_begins A_row_ends κ 0 v1 v2 v3 = none := rfl
theorem f_X2_greatestNumber_L6_s (k : Nat) (f_row_count : Int32) (A_row_begins : Nat → Int32) (A_row_ends : Nat → Int32) (κ : Int32 → Int32 → Int32 → Option (Int32)) (n : Nat) (v1 : Int32) (v2 : Int32) (v3 : Int32) : f_X2_greatestNumber_L6 k f_row_count A_row_begins A_row_ends κ (n + 1) v1 v2 v3 = if f_row_count ≤ v3 then κ v1 v2 v3 else xi v3 40 (if (A_row_begins v3.toNatClampNeg) < v2 then f_X2_greatestNumber_L6 k f_row_count A_row_begins A_row_ends κ n v1 v2 (v3 + 1) else xi v3 40 (f_X2_greatestNumber_L6 k f_row_count A_row_begins A_row_ends κ n (v1 + 1) (A_row_ends v3.toNatClampNeg) (v3 + 1))) := rfl
def f_X2_greatestNumber (k : Nat) (f_row_count : Int32) (A_row_begins : Nat → Int32) (A_row_ends : Nat → Int32) : Option (Int32) := f_X2_greatestNumber_L6 k f_row_count A_row_begins A_row_ends (fun (v1_5 : Int32) (v2_6 : Int32) (v3_7 : Int32) => some v1_5) k 0 0 0
abbrev rm_X2_greatestNumber : Room := { frames := 0, cells := 0, slots := 0, locals := 0 }
set_option maxHeartbeats 4000000 in
set_option maxRecDepth 100000 in
theorem c_X2_greatestNumber (l : Launch) (G : va_G) (cy : ClassId × ClassId × ClassId) (k : Nat) (aT aT_row aT_best aT_row_numbers aT_row_begins aT_row_ends aT_row_weights : Nat) (f_row_byEnd : Int32) (f_row_count : Int32) (A_row_begins : Nat → Int32) (A_row_ends : Nat → Int32) {r : Int32} (hf : f_X2_greatestNumber k f_row_count A_row_begins A_row_ends = some r) : Ci l yX2_greatestNumber wsX2_greatestNumber rm_X2_greatestNumber 0 0 G cy [.ref aT] [(aT, .inr (2, [.ref aT_row, .ref aT_best])), (aT_row, .inr (3, [.int f_row_byEnd, .ref aT_row_numbers, .ref aT_row_begins, .ref aT_row_ends, .ref aT_row_weights, .int f_row_count])), (aT_row_begins, .inl (cy.1, 40, .inl A_row_begins)), (aT_row_ends, .inl (cy.1, 40, .inl A_row_ends))] [(aT, .inr (2, [.ref aT_row, .ref aT_best])), (aT_row, .inr (3, [.int f_row_byEnd, .ref aT_row_numbers, .ref aT_row_begins, .ref aT_row_ends, .ref aT_row_weights, .int f_row_count])), (aT_row_begins, .inl (cy.1, 40, .inl A_row_begins)), (aT_row_ends, .inl (cy.1, 40, .inl A_row_ends))] r := by
  refine kMetI (cc := cX2_greatestNumber) (maxL := 4) (by decide) rfl (Nat.le_of_ble_eq_true rfl) ?_
  intro p e s m args below meth c Q A ls hx hb hml hts hown hv hl kret
  replace hown : s.vm.findClass RX2 = some m.cls := hown
  replace hl : lv_has ls 4 [(0, .ref aT)] := hl
  have hk14 : (Cond.fieldLink RX2 14 "Roomcolour$OneRoomPlan" "row" "LRoomcolour$Row;").before args s = true := hts _ (by decide +kernel)
  have hinX2 : ∀ w ∈ wsX20, w ∈ wsX2_greatestNumber := by decide +kernel
  have hn24 : (Cond.fieldLinkNest RX2 24 "Roomcolour$Row" "count" "I" RX4).before args s = true := va_Nw.use rfl (hv.2.2.2.2.2.1 _ (by decide +kernel))
  have hinX3 : ∀ w ∈ wsX30, w ∈ wsX2_greatestNumber := by decide +kernel
  have hn31 : (Cond.fieldLinkNest RX2 31 "Roomcolour$Row" "begins" "[I" RX4).before args s = true := va_Nw.use rfl (hv.2.2.2.2.2.1 _ (by decide +kernel))
  have hn55 : (Cond.fieldLinkNest RX2 55 "Roomcolour$Row" "ends" "[I" RX4).before args s = true := va_Nw.use rfl (hv.2.2.2.2.2.1 _ (by decide +kernel))
  have L6 : ∀ (κ : Int32 → Int32 → Int32 → Option (Int32)) (n : Nat) (v1 : Int32) (v2 : Int32) (v3 : Int32), f_X2_greatestNumber_L6 k f_row_count A_row_begins A_row_ends κ n v1 v2 v3 = some r → ∀ (H : Heap) (locs : List Loc) (ls : Array Slot), Hv s H locs G cy A [(aT, .inr (2, [.ref aT_row, .ref aT_best])), (aT_row, .inr (3, [.int f_row_byEnd, .ref aT_row_numbers, .ref aT_row_begins, .ref aT_row_ends, .ref aT_row_weights, .int f_row_count])), (aT_row_begins, .inl (cy.1, 40, .inl A_row_begins)), (aT_row_ends, .inl (cy.1, 40, .inl A_row_ends))] → lv_has ls 4 [(0, .ref aT), (1, .int v1), (2, .int v2), (3, .int v3)] → (∀ (v1 : Int32) (v2 : Int32) (v3 : Int32), κ v1 v2 v3 = some r → ∀ (H : Heap) (locs : List Loc) (ls : Array Slot), Hv s H locs G cy A [(aT, .inr (2, [.ref aT_row, .ref aT_best])), (aT_row, .inr (3, [.int f_row_byEnd, .ref aT_row_numbers, .ref aT_row_begins, .ref aT_row_ends, .ref aT_row_weights, .int f_row_count])), (aT_row_begins, .inl (cy.1, 40, .inl A_row_begins)), (aT_row_ends, .inl (cy.1, 40, .inl A_row_ends))] → lv_has ls 4 [(1, .int v1)] → W p l e rm_X2_greatestNumber s m args below meth c H locs 0 0 Q (F0 m 49 ls [])) → W p l e rm_X2_greatestNumber s m args below meth c H locs 0 0 Q (F0 m 6 ls []) := by
    intro κ n
    induction n with
    | zero =>
      intro v1 v2 v3 hf
      rw [f_X2_greatestNumber_L6_z] at hf
      cases hf
    | succ n ih =>
      intro v1 v2 v3 hf H locs ls hv hl hκ
      rw [f_X2_greatestNumber_L6_s] at hf
      refine lv_iload_n hx hb dX2_greatestNumber_6 rfl (lv_at hl 3 rfl) ?_
      refine lv_aload_n hx hb dX2_greatestNumber_7 rfl (lv_at hl 0 rfl) ?_
      refine kGet (v := .ref aT_row) (C := RX2) (T := TX2) (N := 2) hx hb hts hinX2 hown hv 0 rfl rfl 0 (by decide) hk14 (fun _ h9 => h9) rfl dX2_greatestNumber_8 ?_
      refine kGetN (v := .int f_row_count) (C := RX3) (T := TX3) (N := 6) hx hb hts hinX3 hown hv 1 rfl rfl 5 (by decide) hn24 (fun _ h9 => h9) rfl dX2_greatestNumber_11 ?_
      refine lv_icmp_ge (tgt := 49) hx hb dX2_greatestNumber_14 (by decide) (fun hc1 => ?_) (fun hc1 => ?_)
      · replace hf := ite_t hf hc1
        exact hκ v1 v2 v3 hf _ _ _ hv (lv_sub hl [1] rfl)
      · replace hf := ite_f hf hc1
        refine lv_aload_n hx hb dX2_greatestNumber_17 rfl (lv_at hl 0 rfl) ?_
        refine kGet (v := .ref aT_row) (C := RX2) (T := TX2) (N := 2) hx hb hts hinX2 hown hv 0 rfl rfl 0 (by decide) hk14 (fun _ h9 => h9) rfl dX2_greatestNumber_18 ?_
        refine kGetN (v := .ref aT_row_begins) (C := RX3) (T := TX3) (N := 6) hx hb hts hinX3 hown hv 1 rfl rfl 2 (by decide) hn31 (fun _ h9 => h9) rfl dX2_greatestNumber_21 ?_
        refine lv_iload_n hx hb dX2_greatestNumber_24 rfl (lv_at hl 3 rfl) ?_
        obtain ⟨hi2, hf⟩ := xi_some hf
        refine kIald hx hb hv 2 rfl hi2 dX2_greatestNumber_25 ?_
        refine lv_iload_n hx hb dX2_greatestNumber_26 rfl (lv_at hl 2 rfl) ?_
        refine lv_icmp_lt (tgt := 43) hx hb dX2_greatestNumber_27 (by decide) (fun hc3 => ?_) (fun hc3 => ?_)
        · replace hf := ite_t hf hc3
          refine lv_iinc (v := v3 + 1) (lv' := [(3, .int (v3 + 1)), (0, .ref aT), (1, .int v1), (2, .int v2)]) hx hb dX2_greatestNumber_43 hl (k := 3) rfl rfl (by decide) rfl (fun ls hl => ?_)
          refine lv_goto (tgt := 6) hx hb dX2_greatestNumber_46 (by decide) ?_
          exact ih v1 v2 (v3 + 1) hf _ _ _ hv (lv_sub hl [1, 2, 3, 0] rfl) hκ
        · replace hf := ite_f hf hc3
          refine lv_iinc (v := v1 + 1) (lv' := [(1, .int (v1 + 1)), (0, .ref aT), (2, .int v2), (3, .int v3)]) hx hb dX2_greatestNumber_30 hl (k := 1) rfl rfl (by decide) rfl (fun ls hl => ?_)
          refine lv_aload_n hx hb dX2_greatestNumber_33 rfl (lv_at hl 1 rfl) ?_
          refine kGet (v := .ref aT_row) (C := RX2) (T := TX2) (N := 2) hx hb hts hinX2 hown hv 0 rfl rfl 0 (by decide) hk14 (fun _ h9 => h9) rfl dX2_greatestNumber_34 ?_
          refine kGetN (v := .ref aT_row_ends) (C := RX3) (T := TX3) (N := 6) hx hb hts hinX3 hown hv 1 rfl rfl 3 (by decide) hn55 (fun _ h9 => h9) rfl dX2_greatestNumber_37 ?_
          refine lv_iload_n hx hb dX2_greatestNumber_40 rfl (lv_at hl 3 rfl) ?_
          obtain ⟨hi4, hf⟩ := xi_some hf
          refine kIald hx hb hv 3 rfl hi4 dX2_greatestNumber_41 ?_
          refine lv_istore_n (lv' := [(2, .int (A_row_ends v3.toNatClampNeg)), (1, .int (v1 + 1)), (0, .ref aT), (3, .int v3)]) hx hb dX2_greatestNumber_42 rfl hl (by decide) rfl (fun ls hl => ?_)
          refine lv_iinc (v := v3 + 1) (lv' := [(3, .int (v3 + 1)), (2, .int (A_row_ends v3.toNatClampNeg)), (1, .int (v1 + 1)), (0, .ref aT)]) hx hb dX2_greatestNumber_43 hl (k := 3) rfl rfl (by decide) rfl (fun ls hl => ?_)
          refine lv_goto (tgt := 6) hx hb dX2_greatestNumber_46 (by decide) ?_
          exact ih (v1 + 1) (A_row_ends v3.toNatClampNeg) (v3 + 1) hf _ _ _ hv (lv_sub hl [3, 2, 1, 0] rfl) hκ
  unfold f_X2_greatestNumber at hf
  refine lv_iconst (v := 0) hx hb dX2_greatestNumber_0 (by decide) ?_
  refine lv_istore_n (lv' := [(1, .int 0), (0, .ref aT)]) hx hb dX2_greatestNumber_1 rfl hl (by decide) rfl (fun ls hl => ?_)
  refine lv_iconst (v := 0) hx hb dX2_greatestNumber_2 (by decide) ?_
  refine lv_istore_n (lv' := [(2, .int 0), (1, .int 0), (0, .ref aT)]) hx hb dX2_greatestNumber_3 rfl hl (by decide) rfl (fun ls hl => ?_)
  refine lv_iconst (v := 0) hx hb dX2_greatestNumber_4 (by decide) ?_
  refine lv_istore_n (lv' := [(3, .int 0), (2, .int 0), (1, .int 0), (0, .ref aT)]) hx hb dX2_greatestNumber_5 rfl hl (by decide) rfl (fun ls hl => ?_)
  refine L6 _ _ _ _ _ hf _ _ _ hv (lv_sub hl [3, 2, 1, 0] rfl) (fun v1_5 v2_6 v3_7 hf H locs ls hv hl => ?_)
  try dsimp only at hf
  refine lv_iload_n hx hb dX2_greatestNumber_49 rfl (lv_at hl 0 rfl) ?_
  cases hf
  exact kret _ _ _ _ hv dX2_greatestNumber_50

def f_X3_clear (k : Nat) (f_count : Int32) : Option (Int32) := some 0
abbrev rm_X3_clear : Room := { frames := 0, cells := 0, slots := 0, locals := 0 }
set_option maxHeartbeats 4000000 in
set_option maxRecDepth 100000 in
theorem c_X3_clear (l : Launch) (G : va_G) (cy : ClassId × ClassId × ClassId) (k : Nat) (aT aT_numbers aT_begins aT_ends aT_weights : Nat) (f_byEnd : Int32) (f_count : Int32) {wf_count : Int32} (hf : f_X3_clear k f_count = some wf_count) : Cv l yX3_clear wsX3_clear rm_X3_clear 0 0 G cy [.ref aT] [(aT, .inr (3, [.int f_byEnd, .ref aT_numbers, .ref aT_begins, .ref aT_ends, .ref aT_weights, .int f_count]))] [(aT, .inr (3, [.int f_byEnd, .ref aT_numbers, .ref aT_begins, .ref aT_ends, .ref aT_weights, .int wf_count]))] := by
  refine kMetV (cc := cX3_clear) (maxL := 1) (by decide) rfl (Nat.le_of_ble_eq_true rfl) ?_
  intro p e s m args below meth c Q A ls hx hb hml hts hown hv hl kret
  replace hown : s.vm.findClass RX3 = some m.cls := hown
  replace hl : lv_has ls 1 [(0, .ref aT)] := hl
  have hk28 : (Cond.fieldLink RX3 28 "Roomcolour$Row" "count" "I").before args s = true := hts _ (by decide +kernel)
  have hinX3 : ∀ w ∈ wsX30, w ∈ wsX3_clear := by decide +kernel
  unfold f_X3_clear at hf
  refine lv_aload_n hx hb dX3_clear_0 rfl (lv_at hl 0 rfl) ?_
  refine lv_iconst (v := 0) hx hb dX3_clear_1 (by decide) ?_
  refine kPut (v := .int 0) (ty := .int) (C := RX3) (T := TX3) (N := 6) hx hb hts hinX3 tyX3 tyX3_ok nmX3 hown hv 0 rfl rfl 5 (by decide) hk28 (fun _ h9 => h9) rfl (by decide +kernel) rfl rfl (Nat.le_of_ble_eq_true rfl) dX3_clear_2 (fun H locs hv => ?_)
  replace hv : Hv s H locs G cy A [(aT, .inr (3, [.int f_byEnd, .ref aT_numbers, .ref aT_begins, .ref aT_ends, .ref aT_weights, .int 0]))] := hv
  cases hf
  exact kret _ _ _ _ hv dX3_clear_5

def f_X3_comesBehind (k : Nat) (p1 : Int32) (p2 : Int32) (p3 : Int32) (f_byEnd : Int32) (A_begins : Nat → Int32) (A_ends : Nat → Int32) : Option (Int32) := if f_byEnd = 0 then xi p1 40 (if (A_begins p1.toNatClampNeg) ≤ p2 then some 0 else some 1) else xi p1 40 (if (A_ends p1.toNatClampNeg) ≤ p3 then some 0 else some 1)
abbrev rm_X3_comesBehind : Room := { frames := 0, cells := 0, slots := 0, locals := 0 }
set_option maxHeartbeats 4000000 in
set_option maxRecDepth 100000 in
theorem c_X3_comesBehind (l : Launch) (G : va_G) (cy : ClassId × ClassId × ClassId) (k : Nat) (aT aT_numbers aT_begins aT_ends aT_weights : Nat) (f_byEnd : Int32) (f_count : Int32) (A_begins : Nat → Int32) (A_ends : Nat → Int32) (p1 : Int32) (p2 : Int32) (p3 : Int32) {r : Int32} (hf : f_X3_comesBehind k p1 p2 p3 f_byEnd A_begins A_ends = some r) : Ci l yX3_comesBehind wsX3_comesBehind rm_X3_comesBehind 0 0 G cy [.ref aT, .int p1, .int p2, .int p3] [(aT, .inr (3, [.int f_byEnd, .ref aT_numbers, .ref aT_begins, .ref aT_ends, .ref aT_weights, .int f_count])), (aT_begins, .inl (cy.1, 40, .inl A_begins)), (aT_ends, .inl (cy.1, 40, .inl A_ends))] [(aT, .inr (3, [.int f_byEnd, .ref aT_numbers, .ref aT_begins, .ref aT_ends, .ref aT_weights, .int f_count])), (aT_begins, .inl (cy.1, 40, .inl A_begins)), (aT_ends, .inl (cy.1, 40, .inl A_ends))] r := by
  refine kMetZ (cc := cX3_comesBehind) (maxL := 4) (by decide) rfl (Nat.le_of_ble_eq_true rfl) ?_
  intro p e s m args below meth c Q A ls hx hb hml hts hown hv hl kret
  replace hown : s.vm.findClass RX3 = some m.cls := hown
  replace hl : lv_has ls 4 [(0, .ref aT), (1, .int p1), (2, .int p2), (3, .int p3)] := hl
  have hk9 : (Cond.fieldLink RX3 9 "Roomcolour$Row" "byEnd" "Z").before args s = true := hts _ (by decide +kernel)
  have hinX3 : ∀ w ∈ wsX30, w ∈ wsX3_comesBehind := by decide +kernel
  have hk19 : (Cond.fieldLink RX3 19 "Roomcolour$Row" "begins" "[I").before args s = true := hts _ (by decide +kernel)
  have hk22 : (Cond.fieldLink RX3 22 "Roomcolour$Row" "ends" "[I").before args s = true := hts _ (by decide +kernel)
  unfold f_X3_comesBehind at hf
  refine lv_aload_n hx hb dX3_comesBehind_0 rfl (lv_at hl 0 rfl) ?_
  refine kGet (v := .int f_byEnd) (C := RX3) (T := TX3) (N := 6) hx hb hts hinX3 hown hv 0 rfl rfl 0 (by decide) hk9 (fun _ h9 => h9) rfl dX3_comesBehind_1 ?_
  refine lv_if_eq (tgt := 25) hx hb dX3_comesBehind_4 (by decide) (fun hc1 => ?_) (fun hc1 => ?_)
  · replace hf := ite_t hf hc1
    refine lv_aload_n hx hb dX3_comesBehind_25 rfl (lv_at hl 0 rfl) ?_
    refine kGet (v := .ref aT_begins) (C := RX3) (T := TX3) (N := 6) hx hb hts hinX3 hown hv 0 rfl rfl 2 (by decide) hk19 (fun _ h9 => h9) rfl dX3_comesBehind_26 ?_
    refine lv_iload_n hx hb dX3_comesBehind_29 rfl (lv_at hl 1 rfl) ?_
    obtain ⟨hi2, hf⟩ := xi_some hf
    refine kIald hx hb hv 1 rfl hi2 dX3_comesBehind_30 ?_
    refine lv_iload_n hx hb dX3_comesBehind_31 rfl (lv_at hl 2 rfl) ?_
    refine lv_icmp_le (tgt := 39) hx hb dX3_comesBehind_32 (by decide) (fun hc3 => ?_) (fun hc3 => ?_)
    · replace hf := ite_t hf hc3
      refine lv_iconst (v := 0) hx hb dX3_comesBehind_39 (by decide) ?_
      cases hf
      exact kret _ _ _ _ hv dX3_comesBehind_40 rfl
    · replace hf := ite_f hf hc3
      refine lv_iconst (v := 1) hx hb dX3_comesBehind_35 (by decide) ?_
      refine lv_goto (tgt := 40) hx hb dX3_comesBehind_36 (by decide) ?_
      cases hf
      exact kret _ _ _ _ hv dX3_comesBehind_40 rfl
  · replace hf := ite_f hf hc1
    refine lv_aload_n hx hb dX3_comesBehind_7 rfl (lv_at hl 0 rfl) ?_
    refine kGet (v := .ref aT_ends) (C := RX3) (T := TX3) (N := 6) hx hb hts hinX3 hown hv 0 rfl rfl 3 (by decide) hk22 (fun _ h9 => h9) rfl dX3_comesBehind_8 ?_
    refine lv_iload_n hx hb dX3_comesBehind_11 rfl (lv_at hl 1 rfl) ?_
    obtain ⟨hi4, hf⟩ := xi_some hf
    refine kIald hx hb hv 2 rfl hi4 dX3_comesBehind_12 ?_
    refine lv_iload_n hx hb dX3_comesBehind_13 rfl (lv_at hl 3 rfl) ?_
    refine lv_icmp_le (tgt := 21) hx hb dX3_comesBehind_14 (by decide) (fun hc5 => ?_) (fun hc5 => ?_)
    · replace hf := ite_t hf hc5
      refine lv_iconst (v := 0) hx hb dX3_comesBehind_21 (by decide) ?_
      refine lv_goto (tgt := 40) hx hb dX3_comesBehind_22 (by decide) ?_
      cases hf
      exact kret _ _ _ _ hv dX3_comesBehind_40 rfl
    · replace hf := ite_f hf hc5
      refine lv_iconst (v := 1) hx hb dX3_comesBehind_17 (by decide) ?_
      refine lv_goto (tgt := 40) hx hb dX3_comesBehind_18 (by decide) ?_
      cases hf
      exact kret _ _ _ _ hv dX3_comesBehind_40 rfl

def f_X3_shiftUp (k : Nat) (p1 : Int32) (A_numbers : Nat → Int32) (A_begins : Nat → Int32) (A_ends : Nat → Int32) (A_weights : Nat → Int32) : Option ((Nat → Int32) × (Nat → Int32) × (Nat → Int32) × (Nat → Int32)) := xi p1 40 (xi (p1 + 1) 40 (xi p1 40 (xi (p1 + 1) 40 (xi p1 40 (xi (p1 + 1) 40 (xi p1 40 (xi (p1 + 1) 40 (some (upd A_numbers (p1 + 1).toNatClampNeg (A_numbers p1.toNatClampNeg), upd A_begins (p1 + 1).toNatClampNeg (A_begins p1.toNatClampNeg), upd A_ends (p1 + 1).toNatClampNeg (A_ends p1.toNatClampNeg), upd A_weights (p1 + 1).toNatClampNeg (A_weights p1.toNatClampNeg))))))))))
abbrev rm_X3_shiftUp : Room := { frames := 0, cells := 0, slots := 0, locals := 0 }
set_option maxHeartbeats 4000000 in
set_option maxRecDepth 100000 in
theorem c_X3_shiftUp (l : Launch) (G : va_G) (cy : ClassId × ClassId × ClassId) (k : Nat) (aT aT_numbers aT_begins aT_ends aT_weights : Nat) (f_byEnd : Int32) (f_count : Int32) (A_numbers : Nat → Int32) (A_begins : Nat → Int32) (A_ends : Nat → Int32) (A_weights : Nat → Int32) (p1 : Int32) {wA_numbers : Nat → Int32} {wA_begins : Nat → Int32} {wA_ends : Nat → Int32} {wA_weights : Nat → Int32} (hf : f_X3_shiftUp k p1 A_numbers A_begins A_ends A_weights = some (wA_numbers, wA_begins, wA_ends, wA_weights)) : Cv l yX3_shiftUp wsX3_shiftUp rm_X3_shiftUp 0 0 G cy [.ref aT, .int p1] [(aT, .inr (3, [.int f_byEnd, .ref aT_numbers, .ref aT_begins, .ref aT_ends, .ref aT_weights, .int f_count])), (aT_numbers, .inl (cy.1, 40, .inl A_numbers)), (aT_begins, .inl (cy.1, 40, .inl A_begins)), (aT_ends, .inl (cy.1, 40, .inl A_ends)), (aT_weights, .inl (cy.1, 40, .inl A_weights))] [(aT, .inr (3, [.int f_byEnd, .ref aT_numbers, .ref aT_begins, .ref aT_ends, .ref aT_weights, .int f_count])), (aT_numbers, .inl (cy.1, 40, .inl wA_numbers)), (aT_begins, .inl (cy.1, 40, .inl wA_begins)), (aT_ends, .inl (cy.1, 40, .inl wA_ends)), (aT_weights, .inl (cy.1, 40, .inl wA_weights))] := by
  refine kMetV (cc := cX3_shiftUp) (maxL := 2) (by decide) rfl (Nat.le_of_ble_eq_true rfl) ?_
  intro p e s m args below meth c Q A ls hx hb hml hts hown hv hl kret
  replace hown : s.vm.findClass RX3 = some m.cls := hown
  replace hl : lv_has ls 2 [(0, .ref aT), (1, .int p1)] := hl
  have hk15 : (Cond.fieldLink RX3 15 "Roomcolour$Row" "numbers" "[I").before args s = true := hts _ (by decide +kernel)
  have hinX3 : ∀ w ∈ wsX30, w ∈ wsX3_shiftUp := by decide +kernel
  have hk19 : (Cond.fieldLink RX3 19 "Roomcolour$Row" "begins" "[I").before args s = true := hts _ (by decide +kernel)
  have hk22 : (Cond.fieldLink RX3 22 "Roomcolour$Row" "ends" "[I").before args s = true := hts _ (by decide +kernel)
  have hk25 : (Cond.fieldLink RX3 25 "Roomcolour$Row" "weights" "[I").before args s = true := hts _ (by decide +kernel)
  unfold f_X3_shiftUp at hf
  refine lv_aload_n hx hb dX3_shiftUp_0 rfl (lv_at hl 0 rfl) ?_
  refine kGet (v := .ref aT_numbers) (C := RX3) (T := TX3) (N := 6) hx hb hts hinX3 hown hv 0 rfl rfl 1 (by decide) hk15 (fun _ h9 => h9) rfl dX3_shiftUp_1 ?_
  refine lv_iload_n hx hb dX3_shiftUp_4 rfl (lv_at hl 1 rfl) ?_
  refine lv_iconst (v := 1) hx hb dX3_shiftUp_5 (by decide) ?_
  refine lv_iadd hx hb dX3_shiftUp_6 ?_
  refine lv_aload_n hx hb dX3_shiftUp_7 rfl (lv_at hl 0 rfl) ?_
  refine kGet (v := .ref aT_numbers) (C := RX3) (T := TX3) (N := 6) hx hb hts hinX3 hown hv 0 rfl rfl 1 (by decide) hk15 (fun _ h9 => h9) rfl dX3_shiftUp_8 ?_
  refine lv_iload_n hx hb dX3_shiftUp_11 rfl (lv_at hl 1 rfl) ?_
  obtain ⟨hi1, hf⟩ := xi_some hf
  refine kIald hx hb hv 1 rfl hi1 dX3_shiftUp_12 ?_
  obtain ⟨hi2, hf⟩ := xi_some hf
  refine kIast hx hb hv 1 rfl hi2 dX3_shiftUp_13 (fun H locs hv => ?_)
  replace hv : Hv s H locs G cy A [(aT, .inr (3, [.int f_byEnd, .ref aT_numbers, .ref aT_begins, .ref aT_ends, .ref aT_weights, .int f_count])), (aT_numbers, .inl (cy.1, 40, .inl (upd A_numbers (p1 + 1).toNatClampNeg (A_numbers p1.toNatClampNeg)))), (aT_begins, .inl (cy.1, 40, .inl A_begins)), (aT_ends, .inl (cy.1, 40, .inl A_ends)), (aT_weights, .inl (cy.1, 40, .inl A_weights))] := hv
  refine lv_aload_n hx hb dX3_shiftUp_14 rfl (lv_at hl 0 rfl) ?_
  refine kGet (v := .ref aT_begins) (C := RX3) (T := TX3) (N := 6) hx hb hts hinX3 hown hv 0 rfl rfl 2 (by decide) hk19 (fun _ h9 => h9) rfl dX3_shiftUp_15 ?_
  refine lv_iload_n hx hb dX3_shiftUp_18 rfl (lv_at hl 1 rfl) ?_
  refine lv_iconst (v := 1) hx hb dX3_shiftUp_19 (by decide) ?_
  refine lv_iadd hx hb dX3_shiftUp_20 ?_
  refine lv_aload_n hx hb dX3_shiftUp_21 rfl (lv_at hl 0 rfl) ?_
  refine kGet (v := .ref aT_begins) (C := RX3) (T := TX3) (N := 6) hx hb hts hinX3 hown hv 0 rfl rfl 2 (by decide) hk19 (fun _ h9 => h9) rfl dX3_shiftUp_22 ?_
  refine lv_iload_n hx hb dX3_shiftUp_25 rfl (lv_at hl 1 rfl) ?_
  obtain ⟨hi3, hf⟩ := xi_some hf
  refine kIald hx hb hv 2 rfl hi3 dX3_shiftUp_26 ?_
  obtain ⟨hi4, hf⟩ := xi_some hf
  refine kIast hx hb hv 2 rfl hi4 dX3_shiftUp_27 (fun H locs hv => ?_)
  replace hv : Hv s H locs G cy A [(aT, .inr (3, [.int f_byEnd, .ref aT_numbers, .ref aT_begins, .ref aT_ends, .ref aT_weights, .int f_count])), (aT_numbers, .inl (cy.1, 40, .inl (upd A_numbers (p1 + 1).toNatClampNeg (A_numbers p1.toNatClampNeg)))), (aT_begins, .inl (cy.1, 40, .inl (upd A_begins (p1 + 1).toNatClampNeg (A_begins p1.toNatClampNeg)))), (aT_ends, .inl (cy.1, 40, .inl A_ends)), (aT_weights, .inl (cy.1, 40, .inl A_weights))] := hv
  refine lv_aload_n hx hb dX3_shiftUp_28 rfl (lv_at hl 0 rfl) ?_
  refine kGet (v := .ref aT_ends) (C := RX3) (T := TX3) (N := 6) hx hb hts hinX3 hown hv 0 rfl rfl 3 (by decide) hk22 (fun _ h9 => h9) rfl dX3_shiftUp_29 ?_
  refine lv_iload_n hx hb dX3_shiftUp_32 rfl (lv_at hl 1 rfl) ?_
  refine lv_iconst (v := 1) hx hb dX3_shiftUp_33 (by decide) ?_
  refine lv_iadd hx hb dX3_shiftUp_34 ?_
  refine lv_aload_n hx hb dX3_shiftUp_35 rfl (lv_at hl 0 rfl) ?_
  refine kGet (v := .ref aT_ends) (C := RX3) (T := TX3) (N := 6) hx hb hts hinX3 hown hv 0 rfl rfl 3 (by decide) hk22 (fun _ h9 => h9) rfl dX3_shiftUp_36 ?_
  refine lv_iload_n hx hb dX3_shiftUp_39 rfl (lv_at hl 1 rfl) ?_
  obtain ⟨hi5, hf⟩ := xi_some hf
  refine kIald hx hb hv 3 rfl hi5 dX3_shiftUp_40 ?_
  obtain ⟨hi6, hf⟩ := xi_some hf
  refine kIast hx hb hv 3 rfl hi6 dX3_shiftUp_41 (fun H locs hv => ?_)
  replace hv : Hv s H locs G cy A [(aT, .inr (3, [.int f_byEnd, .ref aT_numbers, .ref aT_begins, .ref aT_ends, .ref aT_weights, .int f_count])), (aT_numbers, .inl (cy.1, 40, .inl (upd A_numbers (p1 + 1).toNatClampNeg (A_numbers p1.toNatClampNeg)))), (aT_begins, .inl (cy.1, 40, .inl (upd A_begins (p1 + 1).toNatClampNeg (A_begins p1.toNatClampNeg)))), (aT_ends, .inl (cy.1, 40, .inl (upd A_ends (p1 + 1).toNatClampNeg (A_ends p1.toNatClampNeg)))), (aT_weights, .inl (cy.1, 40, .inl A_weights))] := hv
  refine lv_aload_n hx hb dX3_shiftUp_42 rfl (lv_at hl 0 rfl) ?_
  refine kGet (v := .ref aT_weights) (C := RX3) (T := TX3) (N := 6) hx hb hts hinX3 hown hv 0 rfl rfl 4 (by decide) hk25 (fun _ h9 => h9) rfl dX3_shiftUp_43 ?_
  refine lv_iload_n hx hb dX3_shiftUp_46 rfl (lv_at hl 1 rfl) ?_
  refine lv_iconst (v := 1) hx hb dX3_shiftUp_47 (by decide) ?_
  refine lv_iadd hx hb dX3_shiftUp_48 ?_
  refine lv_aload_n hx hb dX3_shiftUp_49 rfl (lv_at hl 0 rfl) ?_
  refine kGet (v := .ref aT_weights) (C := RX3) (T := TX3) (N := 6) hx hb hts hinX3 hown hv 0 rfl rfl 4 (by decide) hk25 (fun _ h9 => h9) rfl dX3_shiftUp_50 ?_
  refine lv_iload_n hx hb dX3_shiftUp_53 rfl (lv_at hl 1 rfl) ?_
  obtain ⟨hi7, hf⟩ := xi_some hf
  refine kIald hx hb hv 4 rfl hi7 dX3_shiftUp_54 ?_
  obtain ⟨hi8, hf⟩ := xi_some hf
  refine kIast hx hb hv 4 rfl hi8 dX3_shiftUp_55 (fun H locs hv => ?_)
  replace hv : Hv s H locs G cy A [(aT, .inr (3, [.int f_byEnd, .ref aT_numbers, .ref aT_begins, .ref aT_ends, .ref aT_weights, .int f_count])), (aT_numbers, .inl (cy.1, 40, .inl (upd A_numbers (p1 + 1).toNatClampNeg (A_numbers p1.toNatClampNeg)))), (aT_begins, .inl (cy.1, 40, .inl (upd A_begins (p1 + 1).toNatClampNeg (A_begins p1.toNatClampNeg)))), (aT_ends, .inl (cy.1, 40, .inl (upd A_ends (p1 + 1).toNatClampNeg (A_ends p1.toNatClampNeg)))), (aT_weights, .inl (cy.1, 40, .inl (upd A_weights (p1 + 1).toNatClampNeg (A_weights p1.toNatClampNeg))))] := hv
  cases hf
  exact kret _ _ _ _ hv dX3_shiftUp_56

def f_X3_put_L16 (k : Nat) (v1 : Int32) (v2 : Int32) (v3 : Int32) (v4 : Int32) (f_byEnd : Int32) (κ : Int32 → (Nat → Int32) → (Nat → Int32) → (Nat → Int32) → (Nat → Int32) → Option (Int32 × (Nat → Int32) × (Nat → Int32) × (Nat → Int32) × (Nat → Int32))) : Nat → Int32 → (Nat → Int32) → (Nat → Int32) → (Nat → Int32) → (Nat → Int32) → Option (Int32 × (Nat → Int32) × (Nat → Int32) × (Nat → Int32) × (Nat → Int32))
  | 0, _, _, _, _, _ => none
  | n + 1, v5, A_numbers, A_begins, A_ends, A_weights => if v5 ≤ 0 then κ v5 A_numbers A_begins A_ends A_weights else xb (f_X3_comesBehind k (v5 - 1) v2 v3 f_byEnd A_begins A_ends) (fun r3 => if r3 = 0 then κ v5 A_numbers A_begins A_ends A_weights else xb (f_X3_shiftUp k (v5 - 1) A_numbers A_begins A_ends A_weights) (fun (A_numbers_6, A_begins_7, A_ends_8, A_weights_9) => f_X3_put_L16 k v1 v2 v3 v4 f_byEnd κ n (v5 + (-1)) A_numbers_6 A_begins_7 A_ends_8 A_weights_9))
theorem f_X3_put_L16_z (k : Nat) (v1 : Int32) (v2 : Int32) (v3 : Int32) (v4 : Int32) (f_byEnd : Int32) (κ : Int32 → (Nat → Int32) → (Nat → Int32) → (Nat → Int32) → (Nat → Int32) → Option (Int32 × (Nat → Int32) × (Nat → Int32) × (Nat → Int32) × (Nat → Int32))) (v5 : Int32) (A_numbers : Nat → Int32) (A_begins : Nat → Int32) (A_ends : Nat → Int32) (A_weights : Nat → Int32) : f_X3_put_L16 k v1 v2 v3 v4 f_byEnd κ 0 v5 A_numbers A_begins A_ends A_weights = none := rfl
theorem f_X3_put_L16_s (k : Nat) (v1 : Int32) (v2 : Int32) (v3 : Int32) (v4 : Int32) (f_byEnd : Int32) (κ : Int32 → (Nat → Int32) → (Nat → Int32) → (Nat → Int32) → (Nat → Int32) → Option (Int32 × (Nat → Int32) × (Nat → Int32) × (Nat → Int32) × (Nat → Int32))) (n : Nat) (v5 : Int32) (A_numbers : Nat → Int32) (A_begins : Nat → Int32) (A_ends : Nat → Int32) (A_weights : Nat → Int32) : f_X3_put_L16 k v1 v2 v3 v4 f_byEnd κ (n + 1) v5 A_numbers A_begins A_ends A_weights = if v5 ≤ 0 then κ v5 A_numbers A_begins A_ends A_weights else xb (f_X3_comesBehind k (v5 - 1) v2 v3 f_byEnd A_begins A_ends) (fun r3 => if r3 = 0 then κ v5 A_numbers A_begins A_ends A_weights else xb (f_X3_shiftUp k (v5 - 1) A_numbers A_begins A_ends A_weights) (fun (A_numbers_6, A_begins_7, A_ends_8, A_weights_9) => f_X3_put_L16 k v1 v2 v3 v4 f_byEnd κ n (v5 + (-1)) A_numbers_6 A_begins_7 A_ends_8 A_weights_9)) := rfl
def f_X3_put (k : Nat) (p1 : Int32) (p2 : Int32) (p3 : Int32) (p4 : Int32) (f_byEnd : Int32) (f_count : Int32) (A_numbers : Nat → Int32) (A_begins : Nat → Int32) (A_ends : Nat → Int32) (A_weights : Nat → Int32) : Option (Int32 × (Nat → Int32) × (Nat → Int32) × (Nat → Int32) × (Nat → Int32)) := if f_count < 40 then f_X3_put_L16 k p1 p2 p3 p4 f_byEnd (fun (v5_11 : Int32) (A_numbers_12 : Nat → Int32) (A_begins_13 : Nat → Int32) (A_ends_14 : Nat → Int32) (A_weights_15 : Nat → Int32) => xi v5_11 40 (xi v5_11 40 (xi v5_11 40 (xi v5_11 40 (some (f_count + 1, upd A_numbers_12 v5_11.toNatClampNeg p1, upd A_begins_13 v5_11.toNatClampNeg p2, upd A_ends_14 v5_11.toNatClampNeg p3, upd A_weights_15 v5_11.toNatClampNeg p4)))))) k f_count A_numbers A_begins A_ends A_weights else some (f_count, A_numbers, A_begins, A_ends, A_weights)
abbrev rm_X3_put : Room := { frames := 1, cells := 0, slots := 0, locals := 23 }
set_option maxHeartbeats 4000000 in
set_option maxRecDepth 100000 in
theorem c_X3_put (l : Launch) (G : va_G) (cy : ClassId × ClassId × ClassId) (k : Nat) (aT aT_numbers aT_begins aT_ends aT_weights : Nat) (f_byEnd : Int32) (f_count : Int32) (A_numbers : Nat → Int32) (A_begins : Nat → Int32) (A_ends : Nat → Int32) (A_weights : Nat → Int32) (p1 : Int32) (p2 : Int32) (p3 : Int32) (p4 : Int32) {wf_count : Int32} {wA_numbers : Nat → Int32} {wA_begins : Nat → Int32} {wA_ends : Nat → Int32} {wA_weights : Nat → Int32} (hf : f_X3_put k p1 p2 p3 p4 f_byEnd f_count A_numbers A_begins A_ends A_weights = some (wf_count, wA_numbers, wA_begins, wA_ends, wA_weights)) : Cv l yX3_put wsX3_put rm_X3_put 0 0 G cy [.ref aT, .int p1, .int p2, .int p3, .int p4] [(aT, .inr (3, [.int f_byEnd, .ref aT_numbers, .ref aT_begins, .ref aT_ends, .ref aT_weights, .int f_count])), (aT_numbers, .inl (cy.1, 40, .inl A_numbers)), (aT_begins, .inl (cy.1, 40, .inl A_begins)), (aT_ends, .inl (cy.1, 40, .inl A_ends)), (aT_weights, .inl (cy.1, 40, .inl A_weights))] [(aT, .inr (3, [.int f_byEnd, .ref aT_numbers, .ref aT_begins, .ref aT_ends, .ref aT_weights, .int wf_count])), (aT_numbers, .inl (cy.1, 40, .inl wA_numbers)), (aT_begins, .inl (cy.1, 40, .inl wA_begins)), (aT_ends, .inl (cy.1, 40, .inl wA_ends)), (aT_weights, .inl (cy.1, 40, .inl wA_weights))] := by
  refine kMetV (cc := cX3_put) (maxL := 6) (by decide) rfl (Nat.le_of_ble_eq_true rfl) ?_
  intro p e s m args below meth c Q A ls hx hb hml hts hown hv hl kret
  replace hown : s.vm.findClass RX3 = some m.cls := hown
  replace hl : lv_has ls 6 [(0, .ref aT), (1, .int p1), (2, .int p2), (3, .int p3), (4, .int p4)] := hl
  have hk28 : (Cond.fieldLink RX3 28 "Roomcolour$Row" "count" "I").before args s = true := hts _ (by decide +kernel)
  have hinX3 : ∀ w ∈ wsX30, w ∈ wsX3_put := by decide +kernel
  have hk15 : (Cond.fieldLink RX3 15 "Roomcolour$Row" "numbers" "[I").before args s = true := hts _ (by decide +kernel)
  have hk19 : (Cond.fieldLink RX3 19 "Roomcolour$Row" "begins" "[I").before args s = true := hts _ (by decide +kernel)
  have hk22 : (Cond.fieldLink RX3 22 "Roomcolour$Row" "ends" "[I").before args s = true := hts _ (by decide +kernel)
  have hk25 : (Cond.fieldLink RX3 25 "Roomcolour$Row" "weights" "[I").before args s = true := hts _ (by decide +kernel)
  have L16 : ∀ (v1 : Int32) (v2 : Int32) (v3 : Int32) (v4 : Int32) (f_count : Int32) (κ : Int32 → (Nat → Int32) → (Nat → Int32) → (Nat → Int32) → (Nat → Int32) → Option (Int32 × (Nat → Int32) × (Nat → Int32) × (Nat → Int32) × (Nat → Int32))) (n : Nat) (v5 : Int32) (A_numbers : Nat → Int32) (A_begins : Nat → Int32) (A_ends : Nat → Int32) (A_weights : Nat → Int32), f_X3_put_L16 k v1 v2 v3 v4 f_byEnd κ n v5 A_numbers A_begins A_ends A_weights = some (wf_count, wA_numbers, wA_begins, wA_ends, wA_weights) → ∀ (H : Heap) (locs : List Loc) (ls : Array Slot), Hv s H locs G cy A [(aT, .inr (3, [.int f_byEnd, .ref aT_numbers, .ref aT_begins, .ref aT_ends, .ref aT_weights, .int f_count])), (aT_numbers, .inl (cy.1, 40, .inl A_numbers)), (aT_begins, .inl (cy.1, 40, .inl A_begins)), (aT_ends, .inl (cy.1, 40, .inl A_ends)), (aT_weights, .inl (cy.1, 40, .inl A_weights))] → lv_has ls 6 [(0, .ref aT), (1, .int v1), (2, .int v2), (3, .int v3), (4, .int v4), (5, .int v5)] → (∀ (v5 : Int32) (A_numbers : Nat → Int32) (A_begins : Nat → Int32) (A_ends : Nat → Int32) (A_weights : Nat → Int32), κ v5 A_numbers A_begins A_ends A_weights = some (wf_count, wA_numbers, wA_begins, wA_ends, wA_weights) → ∀ (H : Heap) (locs : List Loc) (ls : Array Slot), Hv s H locs G cy A [(aT, .inr (3, [.int f_byEnd, .ref aT_numbers, .ref aT_begins, .ref aT_ends, .ref aT_weights, .int f_count])), (aT_numbers, .inl (cy.1, 40, .inl A_numbers)), (aT_begins, .inl (cy.1, 40, .inl A_begins)), (aT_ends, .inl (cy.1, 40, .inl A_ends)), (aT_weights, .inl (cy.1, 40, .inl A_weights))] → lv_has ls 6 [(0, .ref aT), (1, .int v1), (2, .int v2), (3, .int v3), (4, .int v4), (5, .int v5)] → W p l e rm_X3_put s m args below meth c H locs 0 0 Q (F0 m 48 ls [])) → W p l e rm_X3_put s m args below meth c H locs 0 0 Q (F0 m 16 ls []) := by
    intro v1 v2 v3 v4 f_count κ n
    induction n with
    | zero =>
      intro v5 A_numbers A_begins A_ends A_weights hf
      rw [f_X3_put_L16_z] at hf
      cases hf
    | succ n ih =>
      intro v5 A_numbers A_begins A_ends A_weights hf H locs ls hv hl hκ
      rw [f_X3_put_L16_s] at hf
      refine lv_iload hx hb dX3_put_16 (lv_at hl 5 rfl) ?_
      refine lv_if_le (tgt := 48) hx hb dX3_put_18 (by decide) (fun hc2 => ?_) (fun hc2 => ?_)
      · replace hf := ite_t hf hc2
        exact hκ v5 A_numbers A_begins A_ends A_weights hf _ _ _ hv (lv_sub hl [0, 1, 2, 3, 4, 5] rfl)
      · replace hf := ite_f hf hc2
        refine lv_aload_n hx hb dX3_put_21 rfl (lv_at hl 0 rfl) ?_
        refine lv_iload hx hb dX3_put_22 (lv_at hl 5 rfl) ?_
        refine lv_iconst (v := 1) hx hb dX3_put_24 (by decide) ?_
        refine lv_isub hx hb dX3_put_25 ?_
        refine lv_iload_n hx hb dX3_put_26 rfl (lv_at hl 2 rfl) ?_
        refine lv_iload_n hx hb dX3_put_27 rfl (lv_at hl 3 rfl) ?_
        obtain ⟨r3, hcl4, hf⟩ := xb_some hf
        refine kV_i (r := r3) (wr := [(aT_numbers, .inl (cy.1, 40, .inl A_numbers)), (aT_weights, .inl (cy.1, 40, .inl A_weights))]) (w2 := [(aT, .inr (3, [.int f_byEnd, .ref aT_numbers, .ref aT_begins, .ref aT_ends, .ref aT_weights, .int f_count])), (aT_numbers, .inl (cy.1, 40, .inl A_numbers)), (aT_begins, .inl (cy.1, 40, .inl A_begins)), (aT_ends, .inl (cy.1, 40, .inl A_ends)), (aT_weights, .inl (cy.1, 40, .inl A_weights))]) ⟨hx, hb, hml, hown, hts⟩ (c_X3_comesBehind l G cy k aT aT_numbers aT_begins aT_ends aT_weights f_byEnd f_count A_begins A_ends (v5 - 1) v2 v3 hcl4) (cwV 3 hts gX3_put_X3_comesBehind rfl rfl rfl (by decide +kernel) ⟨Nat.le_of_ble_eq_true rfl, Nat.le_of_ble_eq_true rfl⟩) hv (isC := [0, 2, 3]) ⟨rfl, rfl⟩ (hv.recv 3 0 rfl rfl) [1, 4] [2, 0, 3, 4, 1] rfl rfl (by decide) rfl rfl rfl hl.1 rfl (Nat.le_of_ble_eq_true rfl) dX3_put_28 ⟨Nat.le_of_ble_eq_true rfl, Nat.le_of_ble_eq_true rfl⟩ (fun H locs hv => ?_)
        refine lv_if_eq (tgt := 48) hx hb dX3_put_31 (by decide) (fun hc5 => ?_) (fun hc5 => ?_)
        · replace hf := ite_t hf hc5
          exact hκ v5 A_numbers A_begins A_ends A_weights hf _ _ _ hv (lv_sub hl [0, 1, 2, 3, 4, 5] rfl)
        · replace hf := ite_f hf hc5
          refine lv_aload_n hx hb dX3_put_34 rfl (lv_at hl 0 rfl) ?_
          refine lv_iload hx hb dX3_put_35 (lv_at hl 5 rfl) ?_
          refine lv_iconst (v := 1) hx hb dX3_put_37 (by decide) ?_
          refine lv_isub hx hb dX3_put_38 ?_
          obtain ⟨⟨A_numbers_6, A_begins_7, A_ends_8, A_weights_9⟩, hcl10, hf⟩ := xb_some hf
          dsimp only at hf
          refine kV_v (wr := []) (w2 := [(aT, .inr (3, [.int f_byEnd, .ref aT_numbers, .ref aT_begins, .ref aT_ends, .ref aT_weights, .int f_count])), (aT_numbers, .inl (cy.1, 40, .inl A_numbers_6)), (aT_begins, .inl (cy.1, 40, .inl A_begins_7)), (aT_ends, .inl (cy.1, 40, .inl A_ends_8)), (aT_weights, .inl (cy.1, 40, .inl A_weights_9))]) ⟨hx, hb, hml, hown, hts⟩ (c_X3_shiftUp l G cy k aT aT_numbers aT_begins aT_ends aT_weights f_byEnd f_count A_numbers A_begins A_ends A_weights (v5 - 1) hcl10) (cwV 1 hts gX3_put_X3_shiftUp rfl rfl rfl (by decide +kernel) ⟨Nat.le_of_ble_eq_true rfl, Nat.le_of_ble_eq_true rfl⟩) hv (isC := [0, 1, 2, 3, 4]) ⟨rfl, rfl⟩ (hv.recv 3 0 rfl rfl) [] [0, 1, 2, 3, 4] rfl rfl (by decide) rfl rfl rfl hl.1 rfl (Nat.le_of_ble_eq_true rfl) dX3_put_39 ⟨Nat.le_of_ble_eq_true rfl, Nat.le_of_ble_eq_true rfl⟩ (fun H locs hv => ?_)
          refine lv_iinc (v := v5 + (-1)) (lv' := [(5, .int (v5 + (-1))), (0, .ref aT), (1, .int v1), (2, .int v2), (3, .int v3), (4, .int v4)]) hx hb dX3_put_42 hl (k := 5) rfl rfl (by decide) rfl (fun ls hl => ?_)
          refine lv_goto (tgt := 16) hx hb dX3_put_45 (by decide) ?_
          exact ih (v5 + (-1)) A_numbers_6 A_begins_7 A_ends_8 A_weights_9 hf _ _ _ hv (lv_sub hl [1, 2, 3, 4, 5, 0] rfl) hκ
  unfold f_X3_put at hf
  refine lv_aload_n hx hb dX3_put_0 rfl (lv_at hl 0 rfl) ?_
  refine kGet (v := .int f_count) (C := RX3) (T := TX3) (N := 6) hx hb hts hinX3 hown hv 0 rfl rfl 5 (by decide) hk28 (fun _ h9 => h9) rfl dX3_put_1 ?_
  refine lv_bipush (v := 40) hx hb dX3_put_4 (by decide) ?_
  refine lv_icmp_lt (tgt := 10) hx hb dX3_put_6 (by decide) (fun hc1 => ?_) (fun hc1 => ?_)
  · replace hf := ite_t hf hc1
    refine lv_aload_n hx hb dX3_put_10 rfl (lv_at hl 0 rfl) ?_
    refine kGet (v := .int f_count) (C := RX3) (T := TX3) (N := 6) hx hb hts hinX3 hown hv 0 rfl rfl 5 (by decide) hk28 (fun _ h9 => h9) rfl dX3_put_11 ?_
    refine lv_istore (lv' := [(5, .int f_count), (0, .ref aT), (1, .int p1), (2, .int p2), (3, .int p3), (4, .int p4)]) hx hb dX3_put_14 hl (by decide) rfl (fun ls hl => ?_)
    refine L16 _ _ _ _ _ _ _ _ _ _ _ _ hf _ _ _ hv (lv_sub hl [1, 2, 3, 4, 5, 0] rfl) (fun v5_11 A_numbers_12 A_begins_13 A_ends_14 A_weights_15 hf H locs ls hv hl => ?_)
    try dsimp only at hf
    refine lv_aload_n hx hb dX3_put_48 rfl (lv_at hl 0 rfl) ?_
    refine kGet (v := .ref aT_numbers) (C := RX3) (T := TX3) (N := 6) hx hb hts hinX3 hown hv 0 rfl rfl 1 (by decide) hk15 (fun _ h9 => h9) rfl dX3_put_49 ?_
    refine lv_iload hx hb dX3_put_52 (lv_at hl 5 rfl) ?_
    refine lv_iload_n hx hb dX3_put_54 rfl (lv_at hl 1 rfl) ?_
    obtain ⟨hi16, hf⟩ := xi_some hf
    refine kIast hx hb hv 1 rfl hi16 dX3_put_55 (fun H locs hv => ?_)
    replace hv : Hv s H locs G cy A [(aT, .inr (3, [.int f_byEnd, .ref aT_numbers, .ref aT_begins, .ref aT_ends, .ref aT_weights, .int f_count])), (aT_numbers, .inl (cy.1, 40, .inl (upd A_numbers_12 v5_11.toNatClampNeg p1))), (aT_begins, .inl (cy.1, 40, .inl A_begins_13)), (aT_ends, .inl (cy.1, 40, .inl A_ends_14)), (aT_weights, .inl (cy.1, 40, .inl A_weights_15))] := hv
    refine lv_aload_n hx hb dX3_put_56 rfl (lv_at hl 0 rfl) ?_
    refine kGet (v := .ref aT_begins) (C := RX3) (T := TX3) (N := 6) hx hb hts hinX3 hown hv 0 rfl rfl 2 (by decide) hk19 (fun _ h9 => h9) rfl dX3_put_57 ?_
    refine lv_iload hx hb dX3_put_60 (lv_at hl 5 rfl) ?_
    refine lv_iload_n hx hb dX3_put_62 rfl (lv_at hl 2 rfl) ?_
    obtain ⟨hi17, hf⟩ := xi_some hf
    refine kIast hx hb hv 2 rfl hi17 dX3_put_63 (fun H locs hv => ?_)
    replace hv : Hv s H locs G cy A [(aT, .inr (3, [.int f_byEnd, .ref aT_numbers, .ref aT_begins, .ref aT_ends, .ref aT_weights, .int f_count])), (aT_numbers, .inl (cy.1, 40, .inl (upd A_numbers_12 v5_11.toNatClampNeg p1))), (aT_begins, .inl (cy.1, 40, .inl (upd A_begins_13 v5_11.toNatClampNeg p2))), (aT_ends, .inl (cy.1, 40, .inl A_ends_14)), (aT_weights, .inl (cy.1, 40, .inl A_weights_15))] := hv
    refine lv_aload_n hx hb dX3_put_64 rfl (lv_at hl 0 rfl) ?_
    refine kGet (v := .ref aT_ends) (C := RX3) (T := TX3) (N := 6) hx hb hts hinX3 hown hv 0 rfl rfl 3 (by decide) hk22 (fun _ h9 => h9) rfl dX3_put_65 ?_
    refine lv_iload hx hb dX3_put_68 (lv_at hl 5 rfl) ?_
    refine lv_iload_n hx hb dX3_put_70 rfl (lv_at hl 3 rfl) ?_
    obtain ⟨hi18, hf⟩ := xi_some hf
    refine kIast hx hb hv 3 rfl hi18 dX3_put_71 (fun H locs hv => ?_)
    replace hv : Hv s H locs G cy A [(aT, .inr (3, [.int f_byEnd, .ref aT_numbers, .ref aT_begins, .ref aT_ends, .ref aT_weights, .int f_count])), (aT_numbers, .inl (cy.1, 40, .inl (upd A_numbers_12 v5_11.toNatClampNeg p1))), (aT_begins, .inl (cy.1, 40, .inl (upd A_begins_13 v5_11.toNatClampNeg p2))), (aT_ends, .inl (cy.1, 40, .inl (upd A_ends_14 v5_11.toNatClampNeg p3))), (aT_weights, .inl (cy.1, 40, .inl A_weights_15))] := hv
    refine lv_aload_n hx hb dX3_put_72 rfl (lv_at hl 0 rfl) ?_
    refine kGet (v := .ref aT_weights) (C := RX3) (T := TX3) (N := 6) hx hb hts hinX3 hown hv 0 rfl rfl 4 (by decide) hk25 (fun _ h9 => h9) rfl dX3_put_73 ?_
    refine lv_iload hx hb dX3_put_76 (lv_at hl 5 rfl) ?_
    refine lv_iload hx hb dX3_put_78 (lv_at hl 4 rfl) ?_
    obtain ⟨hi19, hf⟩ := xi_some hf
    refine kIast hx hb hv 4 rfl hi19 dX3_put_80 (fun H locs hv => ?_)
    replace hv : Hv s H locs G cy A [(aT, .inr (3, [.int f_byEnd, .ref aT_numbers, .ref aT_begins, .ref aT_ends, .ref aT_weights, .int f_count])), (aT_numbers, .inl (cy.1, 40, .inl (upd A_numbers_12 v5_11.toNatClampNeg p1))), (aT_begins, .inl (cy.1, 40, .inl (upd A_begins_13 v5_11.toNatClampNeg p2))), (aT_ends, .inl (cy.1, 40, .inl (upd A_ends_14 v5_11.toNatClampNeg p3))), (aT_weights, .inl (cy.1, 40, .inl (upd A_weights_15 v5_11.toNatClampNeg p4)))] := hv
    refine lv_aload_n hx hb dX3_put_81 rfl (lv_at hl 0 rfl) ?_
    refine lv_dup hx hb dX3_put_82 rfl ?_
    refine kGet (v := .int f_count) (C := RX3) (T := TX3) (N := 6) hx hb hts hinX3 hown hv 0 rfl rfl 5 (by decide) hk28 (fun _ h9 => h9) rfl dX3_put_83 ?_
    refine lv_iconst (v := 1) hx hb dX3_put_86 (by decide) ?_
    refine lv_iadd hx hb dX3_put_87 ?_
    refine kPut (v := .int (f_count + 1)) (ty := .int) (C := RX3) (T := TX3) (N := 6) hx hb hts hinX3 tyX3 tyX3_ok nmX3 hown hv 0 rfl rfl 5 (by decide) hk28 (fun _ h9 => h9) rfl (by decide +kernel) rfl rfl (Nat.le_of_ble_eq_true rfl) dX3_put_88 (fun H locs hv => ?_)
    replace hv : Hv s H locs G cy A [(aT, .inr (3, [.int f_byEnd, .ref aT_numbers, .ref aT_begins, .ref aT_ends, .ref aT_weights, .int (f_count + 1)])), (aT_numbers, .inl (cy.1, 40, .inl (upd A_numbers_12 v5_11.toNatClampNeg p1))), (aT_begins, .inl (cy.1, 40, .inl (upd A_begins_13 v5_11.toNatClampNeg p2))), (aT_ends, .inl (cy.1, 40, .inl (upd A_ends_14 v5_11.toNatClampNeg p3))), (aT_weights, .inl (cy.1, 40, .inl (upd A_weights_15 v5_11.toNatClampNeg p4)))] := hv
    cases hf
    exact kret _ _ _ _ hv dX3_put_91
  · replace hf := ite_f hf hc1
    cases hf
    exact kret _ _ _ _ hv dX3_put_9
