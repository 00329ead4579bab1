/-- but for the turns, what a draw leaves -/
def FrT (τ t : Mem) : Prop := (∀ c : Nat, c ≠ 0 → c ≠ 3 → c ≠ 12 → c ≠ 13 → c ≠ 14 → t c = τ c) ∧ ∀ j : Int, j ≠ 15 → t 0 j = τ 0 j
theorem FrT.refl (τ : Mem) : FrT τ τ := ⟨fun _ _ _ _ _ _ => rfl, fun _ _ => rfl⟩
theorem FrT.trans {a b c : Mem} (h : FrT a b) (g : FrT b c) : FrT a c := ⟨fun d h1 h2 h3 h4 h5 => (g.1 d h1 h2 h3 h4 h5).trans (h.1 d h1 h2 h3 h4 h5), fun j hj => (g.2 j hj).trans (h.2 j hj)⟩
theorem FrT.j {τ t : Mem} (h : FrT τ t) : jB t = jB τ := by
  unfold jB
  rw [h.2 0 (by omega), h.2 1 (by omega), h.1 1 (by omega) (by omega) (by omega) (by omega) (by omega), h.1 2 (by omega) (by omega) (by omega) (by omega) (by omega), h.1 4 (by omega) (by omega) (by omega) (by omega) (by omega), h.1 5 (by omega) (by omega) (by omega) (by omega) (by omega)]
