/-! ===== there are lifts; the ways of the reference ===== -/
theorem q_Lin_ex {n ρ : Int} {st pd tu lo br : Int → Int} (ok : q_ok n ρ st pd tu lo br) {p q : Int → Bool} {h t : Int} (hs : ∃ k, q_in n k ∧ (p k = true ∨ q k = true)) : ∃ (u : Int → Int) (D : Int), q_Lin n ρ st pd tu lo p q h t u D := by
  obtain ⟨N, rfl⟩ : ∃ N : Nat, n = (N : Int) := ⟨n.toNat, by have := ok.1; omega⟩
  have hN : 3 ≤ N ∧ N ≤ 6 := by have := ok.1; omega
  obtain ⟨k0, hk0, h0⟩ := hs
  have hpos : 0 < q_det N ρ (fun k => 2 * ρ + q_e st pd p q k) := q_det_pos hN ok.2.1 (fun k hk => by
    have := ok.2.2.1 k hk
    unfold q_e
    split <;> split <;> omega) ⟨k0, hk0, q_e_pos ok hk0 h0⟩
  exact ⟨_, _, q_Lin_of ok (fun k _ => rfl) (fun k _ => rfl) ⟨k0, hk0, h0⟩ (fun k _ => rfl) rfl hpos⟩
theorem q_IsL_ex {n ρ : Int} {st pd tu lo br : Int → Int} (ok : q_ok n ρ st pd tu lo br) : ∃ (u : Int → Int) (D : Int), q_IsL n ρ st pd tu lo br u D := by
  have hWd : ∀ k, q_in n k → ((fun k => decide (br k = 0 ∧ k ≠ -1)) k = true ↔ br k = 0 ∧ k ≠ -1) := fun k _ => decide_eq_true_iff
  have hW : (∃ k, q_in n k ∧ (fun k => decide (br k = 0 ∧ k ≠ -1)) k = true) ∨ (q_in n (-1) ∧ q_sum lo n.toNat < 0) := by
    obtain ⟨k, hk, hb⟩ := ok.2.2.2
    exact Or.inl ⟨k, hk, decide_eq_true ⟨hb, by have := hk.1; omega⟩⟩
  have loop : ∀ (m : Nat) (p q : Int → Bool) (fresh : Bool), q_inv n ρ st pd tu lo (-1) 0 (fun k => decide (br k = 0 ∧ k ≠ -1)) p q fresh → q_mu n p q fresh < m → ∃ (u : Int → Int) (D : Int), q_IsL n ρ st pd tu lo br u D := by
    intro m
    induction m with
    | zero =>
      intro p q fresh iv hmu
      exfalso
      have b1 := q_cnt_bd p n.toNat
      have b2 := q_cnt_bd q n.toNat
      have m1 := Int.mul_nonneg b1.1 (show 0 ≤ n + 2 by have := ok.1; omega)
      unfold q_mu at hmu
      have := ok.1
      split at hmu <;> omega
    | succ m ih =>
      intro p q fresh iv hmu
      obtain ⟨u, D, hl⟩ := q_Lin_ex (h := -1) (t := 0) ok iv.2.1
      by_cases hne : ∃ k, q_in n k ∧ (fun k => decide (0 < u k)) k ≠ q k
      · obtain ⟨s1, s2⟩ := q_step1 ok iv hW hl (q' := fun k => decide (0 < u k)) (fun k _ => decide_eq_true_iff) hne
        exact ih _ _ _ s1 (by omega)
      · have hq : ∀ k, q_in n k → (q k = true ↔ 0 < u k) := fun k hk => by
          have : (fun k => decide (0 < u k)) k = q k := Classical.byContradiction fun z => hne ⟨k, hk, z⟩
          rw [← this]
          exact decide_eq_true_iff
        by_cases hsl : ∃ k, q_in n k ∧ p k = true ∧ D * tu k < u k
        · obtain ⟨s1, s2⟩ := q_step2 ok iv hl hq (p' := fun k => p k && decide (u k ≤ D * tu k)) (fun k _ => by simp) hsl
          exact ih _ _ _ s1 (by omega)
        · have := q_done ok iv hWd hl hq (fun k hk hp => Classical.byContradiction fun z => hsl ⟨k, hk, hp, by omega⟩)
          rw [Int.zero_mul] at this
          exact ⟨u, D, this⟩
  refine loop (q_mu n (fun k => decide (br k = 0 ∧ k ≠ -1)) (fun _ => true) true).toNat.succ (fun k => decide (br k = 0 ∧ k ≠ -1)) (fun _ => true) true ⟨fun k _ h => h, ?_, Or.inl (fun k _ h => h), Or.inl rfl⟩ (by omega)
  exact ⟨0, ⟨by omega, by have := ok.1; omega⟩, Or.inr rfl⟩
theorem q_Lin_uniq {n ρ : Int} {st pd tu lo br : Int → Int} (ok : q_ok n ρ st pd tu lo br) {p q : Int → Bool} {h t : Int} (hs : ∃ k, q_in n k ∧ (p k = true ∨ q k = true)) {u v : Int → Int} {D E : Int} (h1 : q_Lin n ρ st pd tu lo p q h t u D) (h2 : q_Lin n ρ st pd tu lo p q h t v E) : ∀ k, q_in n k → E * u k = D * v k := by
  obtain ⟨k0, hk0, h0⟩ := hs
  have g : ∃ k, q_in n k ∧ 0 < q_e st pd p q k := ⟨k0, hk0, q_e_pos ok hk0 h0⟩
  intro k hk
  have a := q_lin_le (n := n) (ρ := ρ) (by have := ok.1; omega) (by have := ok.2.1; omega) (e := q_e st pd p q) (c := q_c st tu lo p h t) (fun k hi => q_e_nn ok hi) g h1.1 h2.1 (fun k hi => Int.le_of_eq (h1.2 k hi)) (fun k hi => Int.le_of_eq (h2.2 k hi).symm) k hk
  have b := q_lin_le (n := n) (ρ := ρ) (by have := ok.1; omega) (by have := ok.2.1; omega) (e := q_e st pd p q) (c := q_c st tu lo p h t) (fun k hi => q_e_nn ok hi) g h2.1 h1.1 (fun k hi => Int.le_of_eq (h2.2 k hi)) (fun k hi => Int.le_of_eq (h1.2 k hi).symm) k hk
  omega
/-- a way fits a lift -/
def q_fit (w b z top : Int) : Prop := if b = 0 then (w = 0 ∧ z ≤ 0) ∨ (w = 1 ∧ 0 ≤ z ∧ z ≤ top) ∨ (w = 2 ∧ top ≤ z) else (0 < z → w = 2) ∧ (z < 0 → w = 0)
def q_wp (w br : Int → Int) (k : Int) : Bool := decide (w k < 2 ∧ br k = 0)
def q_wq (w : Int → Int) (k : Int) : Bool := decide (0 < w k)
theorem q_ways_ne {n ρ : Int} {st pd tu lo br : Int → Int} (ok : q_ok n ρ st pd tu lo br) {w : Int → Int} : ∃ k, q_in n k ∧ (q_wp w br k = true ∨ q_wq w k = true) := by
  obtain ⟨k, hk, hb⟩ := ok.2.2.2
  refine ⟨k, hk, ?_⟩
  unfold q_wp q_wq
  by_cases h : w k < 2
  · exact Or.inl (decide_eq_true ⟨h, hb⟩)
  · exact Or.inr (decide_eq_true (by omega))
theorem q_fit_L {n ρ : Int} {st pd tu lo br : Int → Int} (ok : q_ok n ρ st pd tu lo br) {w : Int → Int} (hw : ∀ k, q_in n k → 0 ≤ w k ∧ w k ≤ 2) {u : Int → Int} {D : Int} (hl : q_Lin n ρ st pd tu lo (q_wp w br) (q_wq w) (-1) 0 u D) (hf : ∀ k, q_in n k → q_fit (w k) (br k) (u k) (tu k * D)) : q_IsL n ρ st pd tu lo br u D := by
  refine ⟨hl.1, fun k hk => ?_⟩
  rw [if_neg (show ¬ k = -1 by have := hk.1; omega)]
  have h1 := hl.2 k hk
  have h2 := hf k hk
  have h3 := hw k hk
  have h4 := ok.2.2.1 k hk
  have top : 0 ≤ tu k * D := Int.mul_nonneg h4.2.2.1.1 (Int.le_of_lt hl.1)
  rw [q_e_mul] at h1
  have hpr : (if q_wq w k = true then pd k else 0) * u k = q_press (pd k) (u k) := by
    unfold q_press q_wq
    unfold q_fit at h2
    by_cases hz : 0 < u k
    · rw [if_pos hz]
      have : 0 < w k := by split at h2 <;> omega
      rw [if_pos (decide_eq_true this)]
    · rw [if_neg hz]
      by_cases hw0 : 0 < w k
      · have : u k = 0 := by split at h2 <;> omega
        rw [this, Int.mul_zero]
      · rw [if_neg (by simp; omega), Int.zero_mul]
  rw [hpr] at h1
  unfold q_c at h1
  rw [if_neg (show ¬ k = -1 by have := hk.1; omega)] at h1
  unfold q_pl q_pull
  unfold q_wp at h1
  unfold q_fit at h2
  by_cases hb : br k = 0
  · rw [if_pos hb] at h2 ⊢
    by_cases hw2 : w k < 2
    · rw [if_pos (decide_eq_true ⟨hw2, hb⟩), if_pos (decide_eq_true ⟨hw2, hb⟩)] at h1
      have e : (st k * tu k - lo k + 0) * D = st k * (tu k * D) - lo k * D := by grind
      rw [e] at h1
      by_cases hz : 0 < tu k * D - u k
      · rw [if_pos hz, Int.mul_sub]
        omega
      · rw [if_neg hz]
        have : u k = tu k * D := by omega
        rw [this] at h1 ⊢
        omega
    · rw [if_neg (by simp; omega), if_neg (by simp; omega)] at h1
      rw [if_neg (by omega)]
      have e : (0 - lo k + 0) * D = - (lo k * D) := by grind
      omega
  · rw [if_neg hb]
    rw [if_neg (by simp; omega), if_neg (by simp; omega)] at h1
    have e : (0 - lo k + 0) * D = - (lo k * D) := by grind
    omega
/-- the ways that lifts themselves tell -/
def q_way (tu br u : Int → Int) (D k : Int) : Int := if br k = 0 then (if u k < 0 then 0 else if u k ≤ tu k * D then 1 else 2) else (if 0 < u k then 2 else 0)
theorem q_way_Lin {n ρ : Int} {st pd tu lo br : Int → Int} (ok : q_ok n ρ st pd tu lo br) {u : Int → Int} {D : Int} (hl : q_IsL n ρ st pd tu lo br u D) : q_Lin n ρ st pd tu lo (q_wp (q_way tu br u D) br) (q_wq (q_way tu br u D)) (-1) 0 u D := by
  refine ⟨hl.1, fun k hk => ?_⟩
  have h1 := hl.2 k hk
  rw [if_neg (show ¬ k = -1 by have := hk.1; omega)] at h1
  have h4 := ok.2.2.1 k hk
  have top : 0 ≤ tu k * D := Int.mul_nonneg h4.2.2.1.1 (Int.le_of_lt hl.1)
  rw [q_e_mul]
  unfold q_c
  rw [if_neg (show ¬ k = -1 by have := hk.1; omega)]
  unfold q_pl q_pull q_press at h1
  unfold q_wp q_wq q_way
  by_cases hb : br k = 0
  · rw [if_pos hb] at h1
    simp only [hb, if_true, and_true, decide_eq_true_eq]
    by_cases hz : u k < 0
    · rw [if_pos hz]
      rw [if_neg (show ¬ 0 < u k by omega), if_pos (show 0 < tu k * D - u k by omega), Int.mul_sub] at h1
      rw [if_pos (by omega), if_neg (by omega), if_pos (by omega), Int.zero_mul]
      have e : (st k * tu k - lo k + 0) * D = st k * (tu k * D) - lo k * D := by grind
      omega
    · rw [if_neg hz]
      by_cases hz2 : u k ≤ tu k * D
      · rw [if_pos hz2, if_pos (by omega), if_pos (by omega), if_pos (by omega)]
        have e : (st k * tu k - lo k + 0) * D = st k * (tu k * D) - lo k * D := by grind
        have p1 : (if 0 < u k then pd k * u k else 0) = pd k * u k := by
          split
          · rfl
          · have : u k = 0 := by omega
            rw [this, Int.mul_zero]
        have p2 : (if 0 < tu k * D - u k then st k * (tu k * D - u k) else 0) = st k * (tu k * D) - st k * u k := by
          rw [← Int.mul_sub]
          split
          · rfl
          · have : tu k * D - u k = 0 := by omega
            rw [this, Int.mul_zero]
        rw [p1, p2] at h1
        omega
      · rw [if_neg hz2, if_neg (by omega), if_pos (by omega), if_neg (by omega)]
        rw [if_neg (show ¬ 0 < tu k * D - u k by omega), if_pos (show 0 < u k by omega)] at h1
        have e : (0 - lo k + 0) * D = - (lo k * D) := by grind
        omega
  · rw [if_neg hb] at h1
    simp only [hb, if_false, and_false, decide_false, Bool.false_eq_true, decide_eq_true_eq]
    have e : (0 - lo k + 0) * D = - (lo k * D) := by grind
    by_cases hz : 0 < u k
    · rw [if_pos hz] at h1 ⊢
      rw [if_pos (by omega)]
      omega
    · rw [if_neg hz] at h1 ⊢
      rw [if_neg (by omega), Int.zero_mul]
      omega
theorem q_way_fit {tu br u v : Int → Int} {D E k : Int} (hD : 0 < D) (hE : 0 < E) (ht : 0 ≤ tu k) (h : E * u k = D * v k) : q_fit (q_way tu br u D k) (br k) (v k) (tu k * E) := by
  have top : 0 ≤ tu k * E := Int.mul_nonneg ht (Int.le_of_lt hE)
  have neg : u k < 0 → v k < 0 := fun q => by
    have := Int.mul_pos hE (show 0 < - u k by omega)
    rw [Int.mul_neg, h] at this
    refine Classical.byContradiction fun z => ?_
    have := Int.mul_nonneg (Int.le_of_lt hD) (show 0 ≤ v k by omega)
    omega
  have pos : 0 < u k → 0 < v k := fun q => by
    have := Int.mul_pos hE q
    rw [h] at this
    exact Int.pos_of_mul_pos_right this hD
  have npos : 0 < v k → 0 < u k := fun q => by
    have := Int.mul_pos hD q
    rw [← h] at this
    exact Int.pos_of_mul_pos_right this hE
  have nneg : v k < 0 → u k < 0 := fun q => by
    have := Int.mul_pos hD (show 0 < - v k by omega)
    rw [Int.mul_neg, ← h] at this
    refine Classical.byContradiction fun z => ?_
    have := Int.mul_nonneg (Int.le_of_lt hE) (show 0 ≤ u k by omega)
    omega
  have le1 : u k ≤ tu k * D → v k ≤ tu k * E := fun q => by
    have := Int.mul_le_mul_of_nonneg_left q (Int.le_of_lt hE)
    rw [h] at this
    have e : E * (tu k * D) = D * (tu k * E) := by grind
    rw [e] at this
    exact Int.le_of_mul_le_mul_left this hD
  have lt1 : tu k * D < u k → tu k * E < v k := fun q => by
    have := Int.mul_lt_mul_of_pos_left q hE
    rw [h] at this
    have e : E * (tu k * D) = D * (tu k * E) := by grind
    rw [e] at this
    exact Int.lt_of_mul_lt_mul_left this (Int.le_of_lt hD)
  unfold q_fit q_way
  by_cases hb : br k = 0
  · rw [if_pos hb, if_pos hb]
    by_cases hz : u k < 0
    · rw [if_pos hz]
      have := neg hz
      omega
    · rw [if_neg hz]
      have hv : 0 ≤ v k := Classical.byContradiction fun q => hz (nneg (by omega))
      by_cases hz2 : u k ≤ tu k * D
      · rw [if_pos hz2]
        have := le1 hz2
        omega
      · rw [if_neg hz2]
        have := lt1 (by omega)
        omega
  · rw [if_neg hb, if_neg hb]
    by_cases hz : 0 < u k
    · rw [if_pos hz]
      have := pos hz
      omega
    · rw [if_neg hz]
      refine ⟨fun q => absurd (npos q) hz, fun q => rfl⟩
