def q_bd (x B : Int) : Prop := -B ≤ x ∧ x ≤ B
theorem q_bd_add {x y A B : Int} (h : q_bd x A) (g : q_bd y B) : q_bd (x + y) (A + B) := ⟨by have := h.1; have := g.1; omega, by have := h.2; have := g.2; omega⟩
theorem q_bd_le {x A B : Int} (h : q_bd x A) (g : A ≤ B) : q_bd x B := ⟨by have := h.1; omega, by have := h.2; omega⟩
theorem q_bd_mul {x y A B : Int} (h : q_bd x A) (g : q_bd y B) : q_bd (x * y) (A * B) := by
  obtain ⟨h1, h2⟩ := h
  obtain ⟨g1, g2⟩ := g
  have a1 := Int.mul_nonneg (a := A - x) (b := B - y) (by omega) (by omega)
  have a2 := Int.mul_nonneg (a := A + x) (b := B + y) (by omega) (by omega)
  have a3 := Int.mul_nonneg (a := A - x) (b := B + y) (by omega) (by omega)
  have a4 := Int.mul_nonneg (a := A + x) (b := B - y) (by omega) (by omega)
  have e1 : (A - x) * (B - y) = A * B - A * y - x * B + x * y := by grind
  have e2 : (A + x) * (B + y) = A * B + A * y + x * B + x * y := by grind
  have e3 : (A - x) * (B + y) = A * B + A * y - x * B - x * y := by grind
  have e4 : (A + x) * (B - y) = A * B - A * y + x * B - x * y := by grind
  constructor <;> omega
section BD
variable {n ρ : Int} {d b : Int → Int}
end BD
