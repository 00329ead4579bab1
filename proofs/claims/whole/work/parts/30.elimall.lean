/-! ===== the elimination of the reference, all sizes in one ===== -/
def q_A (n ρ : Int) (d b : Int → Int) (r c : Int) : Int := if c = n then b r else if r = c then d r else if c = q_nx n r ∨ c = q_pv n r then -ρ else 0
/-- a row of tables, one a step, that the elimination goes through -/
def TOk (N : Nat) (ρ : Int) (d b : Int → Int) (T : Nat → Int → Int → Int) (L : Nat → Int) : Prop :=
  (∀ r c : Int, q_in N r → 0 ≤ c ∧ c ≤ N → T 0 r c = q_A N ρ d b r c) ∧
  (∀ (p : Nat) (r c : Int), p < N → q_in N r → r ≠ p → 0 ≤ c ∧ c ≤ N → T p r c * T p p p - T p r p * T p p c = T (p + 1) r c * L p ∧ q_bd (T (p + 1) r c * L p) 9223372036854775807) ∧
  (∀ (p : Nat) (c : Int), p < N → 0 ≤ c ∧ c ≤ N → T (p + 1) p c = T p p c) ∧
  (L 0 = 1 ∧ ∀ p : Nat, p < N → L (p + 1) = T p p p) ∧
  (∀ p : Nat, p ≤ N → 0 < L p ∧ L p ≤ 2176782336) ∧
  (L N = q_det N ρ d ∧ ∀ r, q_in N r → T N r N = q_S N ρ d b r (N - 1))

theorem q_T3_A (ρ : Int) (d b : Int → Int) (r c : Int) (hr : q_in (3 : Nat) r) (hc : 0 ≤ c ∧ c ≤ (3 : Nat)) : q_T3 ρ d b 0 r c = q_A (3 : Nat) ρ d b r c := by
  obtain ⟨h1, h2⟩ := hr
  rcases (show r = 0 ∨ r = 1 ∨ r = 2 by omega) with rfl | rfl | rfl <;> rcases (show c = 0 ∨ c = 1 ∨ c = 2 ∨ c = 3 by omega) with rfl | rfl | rfl | rfl <;> simp [q_T3, q_A, q_nx, q_pv, q_ph]
theorem q_T3_fin (ρ : Int) (d b : Int → Int) (r : Int) (hr : q_in (3 : Nat) r) : q_T3 ρ d b 3 r (3 : Nat) = q_S 3 ρ d b r (3 - 1) := by
  obtain ⟨h1, h2⟩ := hr
  rcases (show r = 0 ∨ r = 1 ∨ r = 2 by omega) with rfl | rfl | rfl <;> simp [q_T3, q_S, q_ph, q_w] <;> grind
theorem q_T3_det (ρ : Int) (d : Int → Int) : q_L3 ρ d 3 = q_det 3 ρ d := by
  simp [q_L3, q_det] <;> grind
theorem q_T3_ok {ρ : Int} {d b : Int → Int} (hρ : 1 ≤ ρ ∧ ρ ≤ 9) (hd : ∀ k, q_in (3 : Nat) k → 2 * ρ ≤ d k ∧ d k ≤ 2 * ρ + 18) (hb : ∀ k, q_in (3 : Nat) k → q_bd (b k) 1809) (hdet : 0 < q_det 3 ρ d) : TOk 3 ρ d b (q_T3 ρ d b) (q_L3 ρ d) := by
  refine ⟨q_T3_A ρ d b, fun p r c hp hr hne hc => ?_, fun p c hp hc => ?_, ⟨rfl, fun p hp => ?_⟩, fun p hp => ?_, q_T3_det ρ d, q_T3_fin ρ d b⟩
  · rcases (show p = 0 ∨ p = 1 ∨ p = 2 by omega) with rfl | rfl | rfl
    · exact ⟨q_T3_r0 ρ d b r c hr hne hc, q_T3_b0 hρ hd hb r c hr hne hc⟩
    · exact ⟨q_T3_r1 ρ d b r c hr hne hc, q_T3_b1 hρ hd hb r c hr hne hc⟩
    · exact ⟨q_T3_r2 ρ d b r c hr hne hc, q_T3_b2 hρ hd hb r c hr hne hc⟩
  · rcases (show p = 0 ∨ p = 1 ∨ p = 2 by omega) with rfl | rfl | rfl
    · exact q_T3_p0 ρ d b c hc
    · exact q_T3_p1 ρ d b c hc
    · exact q_T3_p2 ρ d b c hc
  · rcases (show p = 0 ∨ p = 1 ∨ p = 2 by omega) with rfl | rfl | rfl
    · exact q_T3_l0 ρ d b
    · exact q_T3_l1 ρ d b
    · exact q_T3_l2 ρ d b
  · have hd36 : ∀ k, q_in (3 : Nat) k → 2 * ρ ≤ d k ∧ d k ≤ 36 := fun k hk => by
      have := hd k hk
      omega
    have ph := q_ph_pos (n := ((3 : Nat) : Int)) hρ.1 hd36 (a := 0) ⟨by omega, by omega⟩
    rcases (show p = 0 ∨ p = 1 ∨ p = 2 ∨ p = 3 by omega) with rfl | rfl | rfl | rfl
    · exact (show (0 : Int) < 1 ∧ (1 : Int) ≤ 2176782336 from ⟨by decide, by decide⟩)
    · have := ph 1 (by omega); exact ⟨this.1, Int.le_trans this.2.1 (by decide)⟩
    · have := ph 2 (by omega); exact ⟨this.1, Int.le_trans this.2.1 (by decide)⟩
    · rw [q_T3_det]; exact ⟨hdet, q_det_le (by omega) hρ hd36⟩
theorem q_T4_A (ρ : Int) (d b : Int → Int) (r c : Int) (hr : q_in (4 : Nat) r) (hc : 0 ≤ c ∧ c ≤ (4 : Nat)) : q_T4 ρ d b 0 r c = q_A (4 : Nat) ρ d b r c := by
  obtain ⟨h1, h2⟩ := hr
  rcases (show r = 0 ∨ r = 1 ∨ r = 2 ∨ r = 3 by omega) with rfl | rfl | rfl | rfl <;> rcases (show c = 0 ∨ c = 1 ∨ c = 2 ∨ c = 3 ∨ c = 4 by omega) with rfl | rfl | rfl | rfl | rfl <;> simp [q_T4, q_A, q_nx, q_pv, q_ph]
theorem q_T4_fin (ρ : Int) (d b : Int → Int) (r : Int) (hr : q_in (4 : Nat) r) : q_T4 ρ d b 4 r (4 : Nat) = q_S 4 ρ d b r (4 - 1) := by
  obtain ⟨h1, h2⟩ := hr
  rcases (show r = 0 ∨ r = 1 ∨ r = 2 ∨ r = 3 by omega) with rfl | rfl | rfl | rfl <;> simp [q_T4, q_S, q_ph, q_w] <;> grind
theorem q_T4_det (ρ : Int) (d : Int → Int) : q_L4 ρ d 4 = q_det 4 ρ d := by
  simp [q_L4, q_det] <;> grind
theorem q_T4_ok {ρ : Int} {d b : Int → Int} (hρ : 1 ≤ ρ ∧ ρ ≤ 9) (hd : ∀ k, q_in (4 : Nat) k → 2 * ρ ≤ d k ∧ d k ≤ 2 * ρ + 18) (hb : ∀ k, q_in (4 : Nat) k → q_bd (b k) 1809) (hdet : 0 < q_det 4 ρ d) : TOk 4 ρ d b (q_T4 ρ d b) (q_L4 ρ d) := by
  refine ⟨q_T4_A ρ d b, fun p r c hp hr hne hc => ?_, fun p c hp hc => ?_, ⟨rfl, fun p hp => ?_⟩, fun p hp => ?_, q_T4_det ρ d, q_T4_fin ρ d b⟩
  · rcases (show p = 0 ∨ p = 1 ∨ p = 2 ∨ p = 3 by omega) with rfl | rfl | rfl | rfl
    · exact ⟨q_T4_r0 ρ d b r c hr hne hc, q_T4_b0 hρ hd hb r c hr hne hc⟩
    · exact ⟨q_T4_r1 ρ d b r c hr hne hc, q_T4_b1 hρ hd hb r c hr hne hc⟩
    · exact ⟨q_T4_r2 ρ d b r c hr hne hc, q_T4_b2 hρ hd hb r c hr hne hc⟩
    · exact ⟨q_T4_r3 ρ d b r c hr hne hc, q_T4_b3 hρ hd hb r c hr hne hc⟩
  · rcases (show p = 0 ∨ p = 1 ∨ p = 2 ∨ p = 3 by omega) with rfl | rfl | rfl | rfl
    · exact q_T4_p0 ρ d b c hc
    · exact q_T4_p1 ρ d b c hc
    · exact q_T4_p2 ρ d b c hc
    · exact q_T4_p3 ρ d b c hc
  · rcases (show p = 0 ∨ p = 1 ∨ p = 2 ∨ p = 3 by omega) with rfl | rfl | rfl | rfl
    · exact q_T4_l0 ρ d b
    · exact q_T4_l1 ρ d b
    · exact q_T4_l2 ρ d b
    · exact q_T4_l3 ρ d b
  · have hd36 : ∀ k, q_in (4 : Nat) k → 2 * ρ ≤ d k ∧ d k ≤ 36 := fun k hk => by
      have := hd k hk
      omega
    have ph := q_ph_pos (n := ((4 : Nat) : Int)) hρ.1 hd36 (a := 0) ⟨by omega, by omega⟩
    rcases (show p = 0 ∨ p = 1 ∨ p = 2 ∨ p = 3 ∨ p = 4 by omega) with rfl | rfl | rfl | rfl | rfl
    · exact (show (0 : Int) < 1 ∧ (1 : Int) ≤ 2176782336 from ⟨by decide, by decide⟩)
    · have := ph 1 (by omega); exact ⟨this.1, Int.le_trans this.2.1 (by decide)⟩
    · have := ph 2 (by omega); exact ⟨this.1, Int.le_trans this.2.1 (by decide)⟩
    · have := ph 3 (by omega); exact ⟨this.1, Int.le_trans this.2.1 (by decide)⟩
    · rw [q_T4_det]; exact ⟨hdet, q_det_le (by omega) hρ hd36⟩
theorem q_T5_A (ρ : Int) (d b : Int → Int) (r c : Int) (hr : q_in (5 : Nat) r) (hc : 0 ≤ c ∧ c ≤ (5 : Nat)) : q_T5 ρ d b 0 r c = q_A (5 : Nat) ρ d b r c := by
  obtain ⟨h1, h2⟩ := hr
  rcases (show r = 0 ∨ r = 1 ∨ r = 2 ∨ r = 3 ∨ r = 4 by omega) with rfl | rfl | rfl | rfl | rfl <;> rcases (show c = 0 ∨ c = 1 ∨ c = 2 ∨ c = 3 ∨ c = 4 ∨ c = 5 by omega) with rfl | rfl | rfl | rfl | rfl | rfl <;> simp [q_T5, q_A, q_nx, q_pv, q_ph]
theorem q_T5_fin (ρ : Int) (d b : Int → Int) (r : Int) (hr : q_in (5 : Nat) r) : q_T5 ρ d b 5 r (5 : Nat) = q_S 5 ρ d b r (5 - 1) := by
  obtain ⟨h1, h2⟩ := hr
  rcases (show r = 0 ∨ r = 1 ∨ r = 2 ∨ r = 3 ∨ r = 4 by omega) with rfl | rfl | rfl | rfl | rfl <;> simp [q_T5, q_S, q_ph, q_w] <;> grind
theorem q_T5_det (ρ : Int) (d : Int → Int) : q_L5 ρ d 5 = q_det 5 ρ d := by
  simp [q_L5, q_det] <;> grind
theorem q_T5_ok {ρ : Int} {d b : Int → Int} (hρ : 1 ≤ ρ ∧ ρ ≤ 9) (hd : ∀ k, q_in (5 : Nat) k → 2 * ρ ≤ d k ∧ d k ≤ 2 * ρ + 18) (hb : ∀ k, q_in (5 : Nat) k → q_bd (b k) 1809) (hdet : 0 < q_det 5 ρ d) : TOk 5 ρ d b (q_T5 ρ d b) (q_L5 ρ d) := by
  refine ⟨q_T5_A ρ d b, fun p r c hp hr hne hc => ?_, fun p c hp hc => ?_, ⟨rfl, fun p hp => ?_⟩, fun p hp => ?_, q_T5_det ρ d, q_T5_fin ρ d b⟩
  · rcases (show p = 0 ∨ p = 1 ∨ p = 2 ∨ p = 3 ∨ p = 4 by omega) with rfl | rfl | rfl | rfl | rfl
    · exact ⟨q_T5_r0 ρ d b r c hr hne hc, q_T5_b0 hρ hd hb r c hr hne hc⟩
    · exact ⟨q_T5_r1 ρ d b r c hr hne hc, q_T5_b1 hρ hd hb r c hr hne hc⟩
    · exact ⟨q_T5_r2 ρ d b r c hr hne hc, q_T5_b2 hρ hd hb r c hr hne hc⟩
    · exact ⟨q_T5_r3 ρ d b r c hr hne hc, q_T5_b3 hρ hd hb r c hr hne hc⟩
    · exact ⟨q_T5_r4 ρ d b r c hr hne hc, q_T5_b4 hρ hd hb r c hr hne hc⟩
  · rcases (show p = 0 ∨ p = 1 ∨ p = 2 ∨ p = 3 ∨ p = 4 by omega) with rfl | rfl | rfl | rfl | rfl
    · exact q_T5_p0 ρ d b c hc
    · exact q_T5_p1 ρ d b c hc
    · exact q_T5_p2 ρ d b c hc
    · exact q_T5_p3 ρ d b c hc
    · exact q_T5_p4 ρ d b c hc
  · rcases (show p = 0 ∨ p = 1 ∨ p = 2 ∨ p = 3 ∨ p = 4 by omega) with rfl | rfl | rfl | rfl | rfl
    · exact q_T5_l0 ρ d b
    · exact q_T5_l1 ρ d b
    · exact q_T5_l2 ρ d b
    · exact q_T5_l3 ρ d b
    · exact q_T5_l4 ρ d b
  · have hd36 : ∀ k, q_in (5 : Nat) k → 2 * ρ ≤ d k ∧ d k ≤ 36 := fun k hk => by
      have := hd k hk
      omega
    have ph := q_ph_pos (n := ((5 : Nat) : Int)) hρ.1 hd36 (a := 0) ⟨by omega, by omega⟩
    rcases (show p = 0 ∨ p = 1 ∨ p = 2 ∨ p = 3 ∨ p = 4 ∨ p = 5 by omega) with rfl | rfl | rfl | rfl | rfl | rfl
    · exact (show (0 : Int) < 1 ∧ (1 : Int) ≤ 2176782336 from ⟨by decide, by decide⟩)
    · have := ph 1 (by omega); exact ⟨this.1, Int.le_trans this.2.1 (by decide)⟩
    · have := ph 2 (by omega); exact ⟨this.1, Int.le_trans this.2.1 (by decide)⟩
    · have := ph 3 (by omega); exact ⟨this.1, Int.le_trans this.2.1 (by decide)⟩
    · have := ph 4 (by omega); exact ⟨this.1, Int.le_trans this.2.1 (by decide)⟩
    · rw [q_T5_det]; exact ⟨hdet, q_det_le (by omega) hρ hd36⟩
theorem q_T6_A (ρ : Int) (d b : Int → Int) (r c : Int) (hr : q_in (6 : Nat) r) (hc : 0 ≤ c ∧ c ≤ (6 : Nat)) : q_T6 ρ d b 0 r c = q_A (6 : Nat) ρ d b r c := by
  obtain ⟨h1, h2⟩ := hr
  rcases (show r = 0 ∨ r = 1 ∨ r = 2 ∨ r = 3 ∨ r = 4 ∨ r = 5 by omega) with rfl | rfl | rfl | rfl | rfl | rfl <;> rcases (show c = 0 ∨ c = 1 ∨ c = 2 ∨ c = 3 ∨ c = 4 ∨ c = 5 ∨ c = 6 by omega) with rfl | rfl | rfl | rfl | rfl | rfl | rfl <;> simp [q_T6, q_A, q_nx, q_pv, q_ph]
theorem q_T6_fin (ρ : Int) (d b : Int → Int) (r : Int) (hr : q_in (6 : Nat) r) : q_T6 ρ d b 6 r (6 : Nat) = q_S 6 ρ d b r (6 - 1) := by
  obtain ⟨h1, h2⟩ := hr
  rcases (show r = 0 ∨ r = 1 ∨ r = 2 ∨ r = 3 ∨ r = 4 ∨ r = 5 by omega) with rfl | rfl | rfl | rfl | rfl | rfl <;> simp [q_T6, q_S, q_ph, q_w] <;> grind
theorem q_T6_det (ρ : Int) (d : Int → Int) : q_L6 ρ d 6 = q_det 6 ρ d := by
  simp [q_L6, q_det] <;> grind
theorem q_T6_ok {ρ : Int} {d b : Int → Int} (hρ : 1 ≤ ρ ∧ ρ ≤ 9) (hd : ∀ k, q_in (6 : Nat) k → 2 * ρ ≤ d k ∧ d k ≤ 2 * ρ + 18) (hb : ∀ k, q_in (6 : Nat) k → q_bd (b k) 1809) (hdet : 0 < q_det 6 ρ d) : TOk 6 ρ d b (q_T6 ρ d b) (q_L6 ρ d) := by
  refine ⟨q_T6_A ρ d b, fun p r c hp hr hne hc => ?_, fun p c hp hc => ?_, ⟨rfl, fun p hp => ?_⟩, fun p hp => ?_, q_T6_det ρ d, q_T6_fin ρ d b⟩
  · rcases (show p = 0 ∨ p = 1 ∨ p = 2 ∨ p = 3 ∨ p = 4 ∨ p = 5 by omega) with rfl | rfl | rfl | rfl | rfl | rfl
    · exact ⟨q_T6_r0 ρ d b r c hr hne hc, q_T6_b0 hρ hd hb r c hr hne hc⟩
    · exact ⟨q_T6_r1 ρ d b r c hr hne hc, q_T6_b1 hρ hd hb r c hr hne hc⟩
    · exact ⟨q_T6_r2 ρ d b r c hr hne hc, q_T6_b2 hρ hd hb r c hr hne hc⟩
    · exact ⟨q_T6_r3 ρ d b r c hr hne hc, q_T6_b3 hρ hd hb r c hr hne hc⟩
    · exact ⟨q_T6_r4 ρ d b r c hr hne hc, q_T6_b4 hρ hd hb r c hr hne hc⟩
    · exact ⟨q_T6_r5 ρ d b r c hr hne hc, q_T6_b5 hρ hd hb r c hr hne hc⟩
  · rcases (show p = 0 ∨ p = 1 ∨ p = 2 ∨ p = 3 ∨ p = 4 ∨ p = 5 by omega) with rfl | rfl | rfl | rfl | rfl | rfl
    · exact q_T6_p0 ρ d b c hc
    · exact q_T6_p1 ρ d b c hc
    · exact q_T6_p2 ρ d b c hc
    · exact q_T6_p3 ρ d b c hc
    · exact q_T6_p4 ρ d b c hc
    · exact q_T6_p5 ρ d b c hc
  · rcases (show p = 0 ∨ p = 1 ∨ p = 2 ∨ p = 3 ∨ p = 4 ∨ p = 5 by omega) with rfl | rfl | rfl | rfl | rfl | rfl
    · exact q_T6_l0 ρ d b
    · exact q_T6_l1 ρ d b
    · exact q_T6_l2 ρ d b
    · exact q_T6_l3 ρ d b
    · exact q_T6_l4 ρ d b
    · exact q_T6_l5 ρ d b
  · have hd36 : ∀ k, q_in (6 : Nat) k → 2 * ρ ≤ d k ∧ d k ≤ 36 := fun k hk => by
      have := hd k hk
      omega
    have ph := q_ph_pos (n := ((6 : Nat) : Int)) hρ.1 hd36 (a := 0) ⟨by omega, by omega⟩
    rcases (show p = 0 ∨ p = 1 ∨ p = 2 ∨ p = 3 ∨ p = 4 ∨ p = 5 ∨ p = 6 by omega) with rfl | rfl | rfl | rfl | rfl | rfl | rfl
    · exact (show (0 : Int) < 1 ∧ (1 : Int) ≤ 2176782336 from ⟨by decide, by decide⟩)
    · have := ph 1 (by omega); exact ⟨this.1, Int.le_trans this.2.1 (by decide)⟩
    · have := ph 2 (by omega); exact ⟨this.1, Int.le_trans this.2.1 (by decide)⟩
    · have := ph 3 (by omega); exact ⟨this.1, Int.le_trans this.2.1 (by decide)⟩
    · have := ph 4 (by omega); exact ⟨this.1, Int.le_trans this.2.1 (by decide)⟩
    · have := ph 5 (by omega); exact ⟨this.1, Int.le_trans this.2.1 (by decide)⟩
    · rw [q_T6_det]; exact ⟨hdet, q_det_le (by omega) hρ hd36⟩
theorem q_TOk {N : Nat} (hN : 3 ≤ N ∧ N ≤ 6) {ρ : Int} {d b : Int → Int} (hρ : 1 ≤ ρ ∧ ρ ≤ 9) (hd : ∀ k, q_in N k → 2 * ρ ≤ d k ∧ d k ≤ 2 * ρ + 18) (hb : ∀ k, q_in N k → q_bd (b k) 1809) (hdet : 0 < q_det N ρ d) : ∃ (T : Nat → Int → Int → Int) (L : Nat → Int), TOk N ρ d b T L := by
  rcases (show N = 3 ∨ N = 4 ∨ N = 5 ∨ N = 6 by omega) with rfl | rfl | rfl | rfl
  · exact ⟨_, _, q_T3_ok hρ hd hb hdet⟩
  · exact ⟨_, _, q_T4_ok hρ hd hb hdet⟩
  · exact ⟨_, _, q_T5_ok hρ hd hb hdet⟩
  · exact ⟨_, _, q_T6_ok hρ hd hb hdet⟩
