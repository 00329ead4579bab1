theorem L_markBroken {σ : Mem} {p1 p2 : Int} (hB : 0 ≤ σ 1 2 ∧ σ 1 2 < 64) (hp : q_in 6 p1) (h2 : p2 = 0 ∨ p2 = 1) {Q : Int → Mem → Prop} (h : ∀ v : Int, (0 ≤ v ∧ v < 64) → (∀ k, 0 ≤ k → q_bit v k = if k = p1 then decide (p2 = 1) else q_bit (σ 1 2) k) → Q 0 (m_upd σ 1 2 v)) : x2_markBroken p1 p2 σ Q := by
  have a1 := hp.1
  have a2 := hp.2
  refine ⟨by omega, fun q s e => ?_, fun q s e => ?_⟩
  · have hs := s_shlI (k := p1) (by omega)
    have hx := s_andnI hB hs.1
    rw [e]
    refine h _ hx.1 (fun k hk => ?_)
    rw [hx.2, hs.2 k hk, q]
    by_cases w : k = p1
    · rw [if_pos w, w]
      simp
    · rw [if_neg w]
      simp [w]
  · have hx := s_orI (x := σ 1 2) (k := p1) (by omega) (by omega)
    rw [e]
    refine h _ ⟨hx.1.1, hx.1.2.2 (by omega) (by omega)⟩ (fun k hk => ?_)
    rw [hx.2 k hk]
    by_cases w : k = p1
    · rw [if_pos w, w]
      simp
      omega
    · rw [if_neg w]
      simp [w]
/-- with one whole bolt alone, a whole bolt is that one -/
theorem q_wh_one {br : Int → Int} {N : Nat} (hb : ∀ k, q_in N k → br k = 0 ∨ br k = 1) {p : Int} (hp : q_in N p) (h0 : br p = 0) : 1 ≤ q_wh br N ∧ (q_wh br N = 1 → ∀ k, q_in N k → k ≠ p → br k ≠ 0) := by
  have one : ∀ M : Nat, (M : Int) ≤ N → 0 ≤ q_wh br M ∧ (p < M → 1 ≤ q_wh br M) ∧ (∀ k, q_in M k → br k = 0 → 1 ≤ q_wh br M) ∧ (p < M → ∀ k, q_in M k → k ≠ p → br k = 0 → 2 ≤ q_wh br M) := by
    intro M
    induction M with
    | zero => exact fun _ => ⟨Int.le_refl 0, fun q => by have := hp.1; omega, fun k hk => by have := hk.1; have := hk.2; omega, fun _ k hk => by have := hk.1; have := hk.2; omega⟩
    | succ M ih =>
      intro hM
      obtain ⟨a, b, c, d⟩ := ih (by omega)
      have e : q_wh br (M + 1) = q_wh br M + (if br (M : Int) = 0 then 1 else 0) := rfl
      rw [e]
      refine ⟨by split <;> omega, fun q => ?_, fun k hk hk0 => ?_, fun q k hk hne hk0 => ?_⟩
      · by_cases w : p = M
        · rw [← w, if_pos h0]
          omega
        · have := b (by omega)
          split <;> omega
      · by_cases w : k = M
        · rw [← w, if_pos hk0]
          omega
        · have := c k ⟨hk.1, by have := hk.2; omega⟩ hk0
          split <;> omega
      · by_cases w : k = M
        · rw [← w, if_pos hk0]
          have := b (by have := hk.2; omega)
          omega
        · by_cases w2 : p = M
          · rw [← w2, if_pos h0]
            have := c k ⟨hk.1, by have := hk.2; omega⟩ hk0
            omega
          · have := d (by omega) k ⟨hk.1, by have := hk.2; omega⟩ hne hk0
            split <;> omega
  obtain ⟨-, b, -, d⟩ := one N (Int.le_refl _)
  refine ⟨b hp.2, fun q k hk hne hk0 => ?_⟩
  have := d hp.2 k hk hne hk0
  omega
theorem q_wh_two {br : Int → Int} {N : Nat} {p : Int} (hp : q_in N p) (h0 : br p = 0) (h : q_wh br N ≠ 1) : ∃ k, q_in N k ∧ k ≠ p ∧ br k = 0 := by
  by_cases w : ∃ k, q_in N k ∧ k ≠ p ∧ br k = 0
  · exact w
  · exfalso
    have z : ∀ M : Nat, (M : Int) ≤ N → q_wh br M = if p < M then 1 else 0 := by
      intro M
      induction M with
      | zero =>
        intro _
        rw [if_neg (by have := hp.1; omega)]
        rfl
      | succ M ih =>
        intro hM
        have e : q_wh br (M + 1) = q_wh br M + (if br (M : Int) = 0 then 1 else 0) := rfl
        rw [e, ih (by omega)]
        by_cases w2 : p = M
        · rw [← w2, if_pos h0, if_neg (by omega), if_pos (by omega)]
          rfl
        · rw [if_neg (show ¬ br (M : Int) = 0 from fun q => w ⟨M, ⟨by omega, by omega⟩, fun q2 => w2 q2.symm, q⟩)]
          split <;> split <;> omega
    have := z N (Int.le_refl _)
    rw [if_pos hp.2] at this
    exact h this
