/-! offer. -/
theorem wsum_cong {P Q : Nat → Bool} {w : Nat → Nat} {n : Nat} (h : ∀ i, i < n → P i = Q i) : wsum P w n = wsum Q w n := fb_sm_cong fun i hi => by rw [h i hi]
