/-! remove, move, the reads, the desk. -/
theorem GD.set {n i b0 e0 : Nat} {b e w : Nat → Nat} (h : GD n b e w) (h1 : b0 < e0) (h2 : e0 ≤ 1000) : GD n (fs b i b0) (fs e i e0) w := by
  refine ⟨h.1, fun j hj => ?_⟩
  unfold fs
  by_cases he : j = i
  · rw [if_pos he, if_pos he]; exact ⟨h1, h2, (h.2 j hj).2.2⟩
  · rw [if_neg he, if_neg he]; exact h.2 j hj
theorem ST.cnt {x : Int64} {n : Nat} {P : Nat → Bool} (h : ST x n P) (hn : n ≤ 64) : fb_ct (bs x) 64 = fb_ct P n := by
  obtain ⟨m, hm⟩ : ∃ m, 64 = n + m := ⟨64 - n, by omega⟩
  have h0 : fb_ct (fun i => bs x (n + i)) m = 0 := fb_ct_zero.mpr (fun i hi => by rw [h (n + i) (by omega)]; simp; omega)
  rw [hm, fb_ct_split, h0, fb_ct_cong (q := P) (fun i hi => by rw [h i (by omega)]; simp [hi]), Nat.add_zero]
section SM
variable {k : Nat} {p p2 p3 added fac drop th many mfac mdrop : Int32} {ps os as : Int64} {B E W mB mE mW T TO TC : Nat → Int32} {out : Nat → Int64}
theorem BZ.mono {m n : Nat} {A : Nat → Int32} {P : Nat → Bool} (h : BZ m A P) (hn : n ≤ m) : BZ n A P := fun i hi => h i (by omega)
end SM
