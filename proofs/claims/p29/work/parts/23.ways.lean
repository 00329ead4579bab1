theorem q_Lin_ex {n ρ : Int} {st pd tu lo br : Int → Int} (ok : q_ok n ρ st pd tu lo br) {p q : Int → Bool} {h t : Int} (hs : ∃ k, q_in n k ∧ (p k = true ∨ q k = true)) : ∃ (u : Int → Int) (D : Int), q_Lin n ρ st pd tu lo p q h t u D := by
  obtain ⟨N, rfl⟩ : ∃ N : Nat, n = (N : Int) := ⟨n.toNat, by have := ok.1; omega⟩
  have hN : 3 ≤ N ∧ N ≤ 6 := by have := ok.1; omega
  obtain ⟨k0, hk0, h0⟩ := hs
  have hpos : 0 < q_det N ρ (fun k => 2 * ρ + q_e st pd p q k) := q_det_pos hN ok.2.1 (fun k hk => by
    have := ok.2.2.1 k hk
    unfold q_e
    split <;> split <;> omega) ⟨k0, hk0, q_e_pos ok hk0 h0⟩
  exact ⟨_, _, q_Lin_of ok (fun k _ => rfl) (fun k _ => rfl) ⟨k0, hk0, h0⟩ (fun k _ => rfl) rfl hpos⟩
theorem q_IsL_ex {n ρ : Int} {st pd tu lo br : Int → Int} (ok : q_ok n ρ st pd tu lo br) : ∃ (u : Int → Int) (D : Int), q_IsL n ρ st pd tu lo br u D := by
  have hWd : ∀ k, q_in n k → ((fun k => decide (br k = 0 ∧ k ≠ -1)) k = true ↔ br k = 0 ∧ k ≠ -1) := fun k _ => decide_eq_true_iff
  have hW : (∃ k, q_in n k ∧ (fun k => decide (br k = 0 ∧ k ≠ -1)) k = true) ∨ (q_in n (-1) ∧ q_sum lo n.toNat < 0) := by
    obtain ⟨k, hk, hb⟩ := ok.2.2.2
    exact Or.inl ⟨k, hk, decide_eq_true ⟨hb, by have := hk.1; omega⟩⟩
  have loop : ∀ (m : Nat) (p q : Int → Bool) (fresh : Bool), q_inv n ρ st pd tu lo (-1) 0 (fun k => decide (br k = 0 ∧ k ≠ -1)) p q fresh → q_mu n p q fresh < m → ∃ (u : Int → Int) (D : Int), q_IsL n ρ st pd tu lo br u D := by
    intro m
    induction m with
    | zero =>
      intro p q fresh iv hmu
      exfalso
      have b1 := q_cnt_bd p n.toNat
      have b2 := q_cnt_bd q n.toNat
      have m1 := Int.mul_nonneg b1.1 (show 0 ≤ n + 2 by have := ok.1; omega)
      unfold q_mu at hmu
      have := ok.1
      split at hmu <;> omega
    | succ m ih =>
      intro p q fresh iv hmu
      obtain ⟨u, D, hl⟩ := q_Lin_ex (h := -1) (t := 0) ok iv.2.1
      by_cases hne : ∃ k, q_in n k ∧ (fun k => decide (0 < u k)) k ≠ q k
      · obtain ⟨s1, s2⟩ := q_step1 ok iv hW hl (q' := fun k => decide (0 < u k)) (fun k _ => decide_eq_true_iff) hne
        exact ih _ _ _ s1 (by omega)
      · have hq : ∀ k, q_in n k → (q k = true ↔ 0 < u k) := fun k hk => by
          have : (fun k => decide (0 < u k)) k = q k := Classical.byContradiction fun z => hne ⟨k, hk, z⟩
          rw [← this]
          exact decide_eq_true_iff
        by_cases hsl : ∃ k, q_in n k ∧ p k = true ∧ D * tu k < u k
        · obtain ⟨s1, s2⟩ := q_step2 ok iv hl hq (p' := fun k => p k && decide (u k ≤ D * tu k)) (fun k _ => by simp) hsl
          exact ih _ _ _ s1 (by omega)
        · have := q_done ok iv hWd hl hq (fun k hk hp => Classical.byContradiction fun z => hsl ⟨k, hk, hp, by omega⟩)
          rw [Int.zero_mul] at this
          exact ⟨u, D, this⟩
  refine loop (q_mu n (fun k => decide (br k = 0 ∧ k ≠ -1)) (fun _ => true) true).toNat.succ (fun k => decide (br k = 0 ∧ k ≠ -1)) (fun _ => true) true ⟨fun k _ h => h, ?_, Or.inl (fun k _ h => h), Or.inl rfl⟩ (by omega)
  exact ⟨0, ⟨by omega, by have := ok.1; omega⟩, Or.inr rfl⟩
