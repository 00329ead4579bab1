/-! ===== fault, feed ===== -/
theorem M_fault {σ τ : Mem} (R : Rel σ τ) : Ans (x7_fault σ) (x8_fault τ) := ⟨R.2.2.2.2.1.2.2.2.2, R⟩
theorem s_and255 (x : Int) : 0 ≤ andL x 255 ∧ andL x 255 ≤ 255 := by
  unfold andL
  have h : (Int64.ofInt x &&& Int64.ofInt 255).toBitVec.toNat ≤ 255 := by
    have : (Int64.ofInt x &&& Int64.ofInt 255).toBitVec = (Int64.ofInt x).toBitVec &&& (Int64.ofInt 255).toBitVec := rfl
    rw [this, BitVec.toNat_and]
    exact Nat.and_le_right
  have e : (Int64.ofInt x &&& Int64.ofInt 255).toInt = ((Int64.ofInt x &&& Int64.ofInt 255).toBitVec.toNat : Int) := by
    show (Int64.ofInt x &&& Int64.ofInt 255).toBitVec.toInt = _
    exact BitVec.toInt_eq_toNat_of_lt (by omega)
  rw [e]
  omega
def q_byte (x k : Int) : Int := andL (shrL x (8 * k)) 255
