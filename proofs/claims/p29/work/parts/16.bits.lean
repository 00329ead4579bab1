def q_bit (x k : Int) : Bool := x.toNat.testBit k.toNat
theorem s_and : ∀ a : Nat, a < 64 → ∀ b : Nat, b < 64 → andI (a : Int) (b : Int) = ((a &&& b : Nat) : Int) := by decide +kernel
theorem s_andn : ∀ a : Nat, a < 64 → ∀ b : Nat, b < 64 → andI (a : Int) (xorI (b : Int) (-1)) = ((a &&& (63 ^^^ b) : Nat) : Int) := by decide +kernel
theorem s_or : ∀ a : Nat, a < 1024 → ∀ k : Nat, k < 10 → orI (a : Int) (shlI 1 (k : Int)) = ((a ||| 2 ^ k : Nat) : Int) := by decide +kernel
theorem s_shl : ∀ k : Nat, k < 10 → shlI 1 (k : Int) = ((2 ^ k : Nat) : Int) := by decide +kernel
theorem s_at : ∀ a : Nat, a < 1024 → ∀ k : Nat, k < 10 → andI (shrI (a : Int) (k : Int)) 1 = if a.testBit k then 1 else 0 := by decide +kernel
theorem s_lt : ∀ a : Nat, a < 64 → ∀ b : Nat, b < 64 → (a &&& b) < 64 ∧ (a ||| b) < 64 ∧ (a &&& (63 ^^^ b)) < 64 := by decide +kernel
theorem s_at_in {x k : Int} (hx : 0 ≤ x ∧ x < 1024) (hk : 0 ≤ k ∧ k < 10) : andI (shrI x k) 1 = if q_bit x k = true then 1 else 0 := by
  obtain ⟨a, rfl⟩ : ∃ a : Nat, x = a := ⟨x.toNat, by omega⟩
  obtain ⟨b, rfl⟩ : ∃ a : Nat, k = a := ⟨k.toNat, by omega⟩
  rw [s_at a (by omega) b (by omega)]
  rfl
theorem s_andI {x y : Int} (hx : 0 ≤ x ∧ x < 64) (hy : 0 ≤ y ∧ y < 64) : (0 ≤ andI x y ∧ andI x y < 64) ∧ ∀ k, q_bit (andI x y) k = (q_bit x k && q_bit y k) := by
  obtain ⟨a, rfl⟩ : ∃ a : Nat, x = a := ⟨x.toNat, by omega⟩
  obtain ⟨b, rfl⟩ : ∃ a : Nat, y = a := ⟨y.toNat, by omega⟩
  rw [s_and a (by omega) b (by omega)]
  have := s_lt a (by omega) b (by omega)
  refine ⟨⟨by omega, by omega⟩, fun k => ?_⟩
  unfold q_bit
  simp only [Int.toNat_natCast]
  exact Nat.testBit_and _ _ _
theorem s_andnI {x y : Int} (hx : 0 ≤ x ∧ x < 64) (hy : 0 ≤ y ∧ y < 64) : (0 ≤ andI x (xorI y (-1)) ∧ andI x (xorI y (-1)) < 64) ∧ ∀ k, q_bit (andI x (xorI y (-1))) k = (q_bit x k && !q_bit y k) := by
  obtain ⟨a, rfl⟩ : ∃ a : Nat, x = a := ⟨x.toNat, by omega⟩
  obtain ⟨b, rfl⟩ : ∃ a : Nat, y = a := ⟨y.toNat, by omega⟩
  rw [s_andn a (by omega) b (by omega)]
  have := s_lt a (by omega) b (by omega)
  refine ⟨⟨by omega, by omega⟩, fun k => ?_⟩
  unfold q_bit
  simp only [Int.toNat_natCast]
  rw [Nat.testBit_and, Nat.testBit_xor]
  by_cases hk : k.toNat < 6
  · have h63 : ∀ j : Nat, j < 6 → (63 : Nat).testBit j = true := by decide
    rw [h63 _ hk]
    simp
  · have ha : a.testBit k.toNat = false := by
      apply Nat.testBit_lt_two_pow
      have := Nat.pow_le_pow_right (n := 2) (by omega) (show 6 ≤ k.toNat by omega)
      omega
    rw [ha]
    simp
theorem s_orI {x k : Int} (hx : 0 ≤ x ∧ x < 1024) (hk : 0 ≤ k ∧ k < 10) : (0 ≤ orI x (shlI 1 k) ∧ orI x (shlI 1 k) < 1024 ∧ (x < 64 → k < 6 → orI x (shlI 1 k) < 64)) ∧ ∀ j, 0 ≤ j → q_bit (orI x (shlI 1 k)) j = (q_bit x j || decide (j = k)) := by
  obtain ⟨a, rfl⟩ : ∃ a : Nat, x = a := ⟨x.toNat, by omega⟩
  obtain ⟨b, rfl⟩ : ∃ a : Nat, k = a := ⟨k.toNat, by omega⟩
  rw [s_or a (by omega) b (by omega)]
  have hlt : a ||| 2 ^ b < 1024 := by
    have h2 : 2 ^ b < 2 ^ 10 := Nat.pow_lt_pow_right (by omega) (by omega)
    exact Nat.or_lt_two_pow (n := 10) (by omega) h2
  refine ⟨⟨by omega, by omega, fun h1 h2 => ?_⟩, fun j hj => ?_⟩
  · have h3 : 2 ^ b < 2 ^ 6 := Nat.pow_lt_pow_right (by omega) (by omega)
    have := Nat.or_lt_two_pow (n := 6) (x := a) (y := 2 ^ b) (by omega) h3
    omega
  · unfold q_bit
    simp only [Int.toNat_natCast]
    rw [Nat.testBit_or, Nat.testBit_two_pow]
    congr 1
    apply decide_eq_decide.mpr
    omega
theorem s_ext {x y : Int} (hx : 0 ≤ x ∧ x < 64) (hy : 0 ≤ y ∧ y < 64) (h : ∀ k, q_in 6 k → q_bit x k = q_bit y k) : x = y := by
  obtain ⟨a, rfl⟩ : ∃ a : Nat, x = a := ⟨x.toNat, by omega⟩
  obtain ⟨b, rfl⟩ : ∃ a : Nat, y = a := ⟨y.toNat, by omega⟩
  congr 1
  apply Nat.eq_of_testBit_eq
  intro i
  by_cases hi : i < 6
  · have := h (i : Int) ⟨by omega, by omega⟩
    unfold q_bit at this
    simpa only [Int.toNat_natCast] using this
  · have h6 := Nat.pow_le_pow_right (n := 2) (by omega) (show 6 ≤ i by omega)
    rw [Nat.testBit_lt_two_pow (by omega), Nat.testBit_lt_two_pow (by omega)]
theorem s_out {x k : Int} {n : Nat} (hx : 0 ≤ x ∧ x < 2 ^ n) (hk : (n : Int) ≤ k) : q_bit x k = false := by
  unfold q_bit
  apply Nat.testBit_lt_two_pow
  have := Nat.pow_le_pow_right (n := 2) (by omega) (show n ≤ k.toNat by omega)
  have h2 : ((2 ^ n : Nat) : Int) = 2 ^ n := by simp
  omega
theorem s_zero (k : Int) : q_bit 0 k = false := by
  unfold q_bit
  simp
theorem s_all {n : Int} (hn : 3 ≤ n ∧ n ≤ 6) : (0 ≤ shlI 1 n - 1 ∧ shlI 1 n - 1 < 64) ∧ ∀ k, 0 ≤ k → (q_bit (shlI 1 n - 1) k = decide (k < n)) := by
  rcases (show n = 3 ∨ n = 4 ∨ n = 5 ∨ n = 6 by omega) with rfl | rfl | rfl | rfl
  all_goals
    refine ⟨by decide +kernel, fun k hk => ?_⟩
    by_cases h6 : k < 6
    · rcases (show k = 0 ∨ k = 1 ∨ k = 2 ∨ k = 3 ∨ k = 4 ∨ k = 5 by omega) with rfl | rfl | rfl | rfl | rfl | rfl <;> decide +kernel
    · rw [s_out (n := 6) (by decide +kernel) (by omega)]
      symm
      apply decide_eq_false
      omega
theorem s_I32 (x : Int32) : InI x.toInt := ⟨by have := Int32.le_toInt x; omega, by have := Int32.toInt_lt x; omega⟩
theorem s_andIn (x y : Int) : InI (andI x y) := s_I32 _
