/-! ===== does it fit, who is suspect ===== -/
def q_fits (j : JT) (tu : Int → Int) (on lo hi : Int → Int) : Prop := ∃ u D, q_isL j tu u D ∧ ∀ k, q_in j.1 k → on k ≠ 0 → lo k * D ≤ (if j.2.2.2.2.2 k = 0 then q_pull (j.2.2.1 k) (tu k * D - u k) else 0) ∧ (if j.2.2.2.2.2 k = 0 then q_pull (j.2.2.1 k) (tu k * D - u k) else 0) ≤ hi k * D
theorem q_fits_iff {j : JT} {tu on lo hi : Int → Int} (ok : q_okJ j tu) {u : Int → Int} {D : Int} (hu : q_isL j tu u D) : q_fits j tu on lo hi ↔ ∀ k, q_in j.1 k → on k ≠ 0 → lo k * D ≤ (if j.2.2.2.2.2 k = 0 then q_pull (j.2.2.1 k) (tu k * D - u k) else 0) ∧ (if j.2.2.2.2.2 k = 0 then q_pull (j.2.2.1 k) (tu k * D - u k) else 0) ≤ hi k * D := by
  refine ⟨fun ⟨v, E, hv, hq⟩ k hk hb => ?_, fun q => ⟨u, D, hu, q⟩⟩
  have e := q_uniq ok hu hv k hk
  have hD := hu.1
  have hE := hv.1
  have hq := hq k hk hb
  have key : E * (if j.2.2.2.2.2 k = 0 then q_pull (j.2.2.1 k) (tu k * D - u k) else 0) = D * (if j.2.2.2.2.2 k = 0 then q_pull (j.2.2.1 k) (tu k * E - v k) else 0) := by
    by_cases w : j.2.2.2.2.2 k = 0
    · rw [if_pos w, if_pos w, ← q_pull_mul hE, ← q_pull_mul hD]
      congr 1
      rw [Int.mul_sub, Int.mul_sub, e]
      grind
    · rw [if_neg w, if_neg w, Int.mul_zero, Int.mul_zero]
  rw [Int.mul_comm (lo k) D, Int.mul_comm (hi k) D]
  rw [Int.mul_comm (lo k) E, Int.mul_comm (hi k) E] at hq
  exact ⟨(q_likele hD hE key).mpr hq.1, (q_likege hD hE key).mpr hq.2⟩
theorem L_pullLies {o : Nat} {s : Mem} (h : RdyA o s) {k a b : Int} (hk : q_in (s 1 0) k) (ha : 0 ≤ a ∧ a ≤ 2000) (hb : 0 ≤ b ∧ b ≤ 2000) {Q : Int → Mem → Prop} (h1 : a * s o 1 ≤ pA o s k ∧ pA o s k ≤ b * s o 1 → Q 1 s) (h0 : ¬ (a * s o 1 ≤ pA o s k ∧ pA o s k ≤ b * s o 1) → Q 0 s) : x3_pullLies o k a b s Q := by
  have bp := h.p hk
  have hD := h.2.2.2.1
  have m1 := Int.mul_nonneg (Int.le_of_lt hD.1) ha.1
  have m2 : s o 1 * a ≤ 2176782336 * 2000 := Int.mul_le_mul hD.2 ha.2 ha.1 (by omega)
  have m3 := Int.mul_nonneg (Int.le_of_lt hD.1) hb.1
  have m4 : s o 1 * b ≤ 2176782336 * 2000 := Int.mul_le_mul hD.2 hb.2 hb.1 (by omega)
  rw [Int.mul_comm a, Int.mul_comm b] at h1 h0
  exact L_pullUpper h hk ⟨by omega, ⟨by constructor <;> omega, by constructor <;> omega⟩, fun q => ⟨by omega, h0 (by omega)⟩, fun q => ⟨by omega, ⟨by constructor <;> omega, by constructor <;> omega⟩, fun q2 => ⟨by omega, h0 (by omega)⟩, fun q2 => ⟨by omega, h1 ⟨q, q2⟩⟩⟩⟩
theorem B_isWithin {t : Mem} (h : RdyB t) {k a b : Int} (hk : q_in (t 0 0) k) (ha : 0 ≤ a ∧ a ≤ 2000) (hb : 0 ≤ b ∧ b ≤ 2000) {Q : Int → Mem → Prop} (h1 : a * t 0 15 ≤ pB t k ∧ pB t k ≤ b * t 0 15 → Q 1 t) (h0 : ¬ (a * t 0 15 ≤ pB t k ∧ pB t k ≤ b * t 0 15) → Q 0 t) : x8_isWithin k a b t Q := by
  have bp := h.p hk
  have hD := h.2.2.1
  have m1 := Int.mul_nonneg ha.1 (Int.le_of_lt hD.1)
  have m2 : a * t 0 15 ≤ 2000 * 2176782336 := Int.mul_le_mul ha.2 hD.2 (Int.le_of_lt hD.1) (by omega)
  have m3 := Int.mul_nonneg hb.1 (Int.le_of_lt hD.1)
  have m4 : b * t 0 15 ≤ 2000 * 2176782336 := Int.mul_le_mul hb.2 hD.2 (Int.le_of_lt hD.1) (by omega)
  exact B_pull h hk ⟨by omega, by omega, B_in (by constructor <;> omega) (by constructor <;> omega) (by constructor <;> omega) (fun q => ⟨by omega, h1 q⟩) (fun q => ⟨by omega, h0 q⟩)⟩
theorem Settled.pull2 {o : Nat} (ho : LfA o) {σ s : Mem} {a : Nat} (h : Settled o σ a (-1) 0 s) {k : Int} (hk : q_in (σ 1 0) k) : pA o s k = (if (jA σ a).2.2.2.2.2 k = 0 then q_pull ((jA σ a).2.2.1 k) (tA σ k * s o 1 - s (o + 1) k) else 0) := by
  have eb : (jA σ a).2.2.2.2.2 k = c_br σ k := q_nrm_in hk
  rw [eb]
  by_cases w : c_br σ k = 0
  · rw [if_pos w]
    exact h.pull ho hk w
  · rw [if_neg w]
    unfold pA q_pl
    rw [c_br_congr (h.1 1 (by rcases ho with rfl | rfl <;> omega)), if_neg w]
theorem LiftsB.pull2 {τ t : Mem} (h : LiftsB τ t) {k : Int} (hk : q_in (τ 0 0) k) : pB t k = (if (jB τ).2.2.2.2.2 k = 0 then q_pull ((jB τ).2.2.1 k) (tB τ k * t 0 15 - t 12 k) else 0) := by
  have eb : (jB τ).2.2.2.2.2 k = τ 5 k := q_nrm_in hk
  rw [eb]
  by_cases w : τ 5 k = 0
  · rw [if_pos w]
    exact h.pull hk w
  · rw [if_neg w]
    unfold pB q_pl
    rw [h.1.1 5 (by omega) (by omega) (by omega) (by omega), if_neg w]
