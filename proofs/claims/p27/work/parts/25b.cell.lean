/-! The law's reading of its script. -/
abbrev rm_L_cell : Room := { frames := 0, cells := 0, slots := 0, locals := 0 }
def f_L_cell (k : Nat) (L : Nat) (xs : Nat → Int32) (i : Int32) : Option Int32 := if nI L ≤ i then some (7919 * (i + 109) * (i + 1867)) else xi i L (some (xs i.toNatClampNeg))
theorem c_L_cell (l : Launch) (b L : Nat) (xs : Nat → Int32) (k : Nat) (i r : Int32) (hf : f_L_cell k L xs i = some r) : Cx l yL_cell wsL_cell rm_L_cell b L xs i r := by
  intro sz
  refine Met.ofW (cc := cL_cell) (maxL := 2) (ret := some .int) (by decide) rfl ?_
  intro p e s m args below meth c s₁ B hml hv
  obtain ⟨rfl, hsz, hb0, hX⟩ := hv
  subst hsz
  have hx := B.exec
  have hb := B.bytes
  have hl := lv_entry ([.ref b, .int i]) (n := 2) (Nat.le_of_ble_eq_true rfl)
  rw [lg_entry_eq]
  generalize (lg_sl ([.ref b, .int i]) ++ List.replicate (2 - (lg_sl ([.ref b, .int i])).length) Slot.unset).toArray = ls at hl ⊢
  have hl : lv_has ls 2 [(0, .ref b), (1, .int i)] := hl
  have hbA : ¬ va_A [] s.heap.size b := by
    intro z
    rcases z with ⟨k9, e9, h9⟩ | h9
    · simp at h9
    · exact absurd hb0 (Nat.not_lt.mpr h9)
  have hS : va_S (va_A [] s.heap.size) s.heap s.heap [] := va_S.rf
  have kret : ∀ (v : Int32) (pc : Nat), v = r → decode cL_cell pc = .ok (.ireturn, 1) → W p l e rm_L_cell s m #[Value.ref b, Value.int i] below meth c s.heap [] 0 0 (MQ below (va_Qi (fun (x : Int32) (_ : Unit) => x = r) (fun _ _ => True) (va_A [] s.heap.size)) #[Value.ref b, Value.int i] s 0 0 (va_A [] s.heap.size)) (F0 m pc ls [.int v]) := by
    intro v pc hv hdg
    subst hv
    exact W.iret (v := v) B.exec B.bytes B.returns (fun t ht hW => ⟨⟨v, (), rfl, rfl, trivial⟩, hS.F ht⟩) hS.2.2 hdg
  unfold f_L_cell at hf
  refine lv_iload_n hx hb dL_cell_0 rfl (lv_at hl 1 rfl) ?_
  refine lv_aload_n hx hb dL_cell_1 rfl (lv_at hl 0 rfl) ?_
  refine va_slen hx hb hX hb0 hbA hS dL_cell_2 ?_
  refine lv_icmp_ge (tgt := 12) hx hb dL_cell_3 (by decide) (fun hc => ?_) (fun hc => ?_)
  · replace hf := ite_t hf hc
    refine lv_sipush (v := 7919) hx hb dL_cell_12 (by decide) ?_
    refine lv_iload_n hx hb dL_cell_15 rfl (lv_at hl 1 rfl) ?_
    refine lv_bipush (v := 109) hx hb dL_cell_16 (by decide) ?_
    refine lv_iadd hx hb dL_cell_18 ?_
    refine lv_imul hx hb dL_cell_19 ?_
    refine lv_iload_n hx hb dL_cell_20 rfl (lv_at hl 1 rfl) ?_
    refine lv_sipush (v := 1867) hx hb dL_cell_21 (by decide) ?_
    refine lv_iadd hx hb dL_cell_24 ?_
    refine lv_imul hx hb dL_cell_25 ?_
    exact kret _ _ (Option.some.inj hf) dL_cell_26
  · replace hf := ite_f hf hc
    refine lv_aload_n hx hb dL_cell_6 rfl (lv_at hl 0 rfl) ?_
    refine lv_iload_n hx hb dL_cell_7 rfl (lv_at hl 1 rfl) ?_
    obtain ⟨hi, hf⟩ := xi_some hf
    refine va_sld hx hb hX hb0 hbA hS hi dL_cell_8 ?_
    refine lv_goto (tgt := 26) hx hb dL_cell_9 (by decide) ?_
    exact kret _ _ (Option.some.inj hf) dL_cell_26
