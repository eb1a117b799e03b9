/-! heaviestRound: the model's side. -/
section HM
variable {k n p : Nat} {P : Nat → Bool} {b e w : Nat → Nat} {B E W T : Nat → Int32}
theorem circ_common {i j : Nat} (hg : GD n b e w) (hi : i < n) (hj : j < n) (hp : 1 ≤ p) : (∃ t, t < p ∧ dst p (b j % p) t < e j - b j ∧ dst p (b i % p) t < e i - b i) ↔ CM p b e j i = true := by
  have hgi := hg.2 i hi
  have hgj := hg.2 j hj
  have hri := Nat.mod_lt (b i) hp
  have hrj := Nat.mod_lt (b j) hp
  have a1 := dst_spec hri hrj
  have a2 := dst_spec hrj hri
  rw [CM_iff]
  constructor
  · rintro ⟨t, ht, h1, h2⟩
    have a3 := dst_spec hrj ht
    have a4 := dst_spec hri ht
    omega
  · rintro (h | h)
    · refine ⟨b i % p, hri, h, ?_⟩
      have := dst_spec hri hri
      omega
    · refine ⟨b j % p, hrj, ?_, h⟩
      have := dst_spec hrj hrj
      omega
/-- the anchor: none, or a number -/
def ANC (n p : Nat) (b e : Nat → Nat) (v1 : Int32) (X : Nat → Bool) : Prop := (v1 = -1 ∧ X = fun _ => true) ∨ ∃ i, i < n ∧ v1 = nI i ∧ X = fun j => !CM p b e j i
def t0 (p : Nat) (b e : Nat → Nat) (j : Nat) : Bool := decide (dst p (b j % p) 0 < e j - b j)
end HM
