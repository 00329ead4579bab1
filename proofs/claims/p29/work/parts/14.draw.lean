theorem q_S_pos {N : Nat} (hN : 3 ≤ N ∧ N ≤ 6) {ρ : Int} {d b : Int → Int} (hρ : 1 ≤ ρ ∧ ρ ≤ 9) (hd : ∀ k, q_in N k → 2 * ρ ≤ d k ∧ d k ≤ 36) (hb : ∀ k, q_in N k → 0 ≤ b k) : ∀ g : Nat, g < N → 0 ≤ q_S N ρ d b 0 g ∧ ((∃ j : Nat, j ≤ g ∧ 0 < b (j : Int)) → 0 < q_S N ρ d b 0 g) := by
  intro g
  induction g with
  | zero =>
    intro _
    have h1 := (q_ph_pos (n := (N : Int)) hρ.1 hd (a := q_w N (0 + 1)) (q_w_in ⟨by omega, by omega⟩) (N - 1) (by omega)).1
    have h0 := hb 0 ⟨by omega, by omega⟩
    refine ⟨Int.mul_nonneg h0 (Int.le_of_lt h1), fun ⟨j, hj, hp⟩ => ?_⟩
    have : j = 0 := by omega
    subst this
    exact Int.mul_pos hp h1
  | succ g ih =>
    intro hg
    obtain ⟨i1, i2⟩ := ih (by omega)
    have hw : q_w (N : Int) (0 + (g : Int) + 1) = ((g + 1 : Nat) : Int) := by
      unfold q_w
      rw [if_pos (by omega)]
      omega
    have h1 := (q_ph_pos (n := (N : Int)) hρ.1 hd (a := q_w N (q_w N (0 + g + 1) + 1)) (q_w_in ⟨by omega, by omega⟩) (N - 2 - g) (by omega)).1
    have h2 := (q_ph_pos (n := (N : Int)) hρ.1 hd (a := q_w N (0 + 1)) (q_w_in ⟨by omega, by omega⟩) g (by omega)).1
    have h3 : (0 : Int) < ρ ^ (g + 1) := Int.pow_pos (by omega)
    have h4 : (0 : Int) < ρ ^ (N - 1 - g) := Int.pow_pos (by omega)
    have h5 := Int.mul_pos h3 h1
    have h6 := Int.mul_pos h4 h2
    have hbn := hb (q_w N (0 + g + 1)) (q_w_in ⟨by omega, by omega⟩)
    show 0 ≤ q_S N ρ d b 0 g + _ * (_ + _) ∧ (_ → 0 < q_S N ρ d b 0 g + _ * (_ + _))
    have h7 := Int.mul_nonneg hbn (show 0 ≤ ρ ^ (g + 1) * q_ph N ρ d (q_w N (q_w N (0 + g + 1) + 1)) (N - 2 - g) + ρ ^ (N - 1 - g) * q_ph N ρ d (q_w N (0 + 1)) g by omega)
    refine ⟨by omega, fun ⟨j, hj, hp⟩ => ?_⟩
    by_cases hjg : j ≤ g
    · have := i2 ⟨j, hjg, hp⟩
      omega
    · have : j = g + 1 := by omega
      subst this
      rw [hw] at h7 ⊢
      have := Int.mul_pos hp (show 0 < ρ ^ (g + 1) * q_ph N ρ d (q_w N (((g + 1 : Nat) : Int) + 1)) (N - 2 - g) + ρ ^ (N - 1 - g) * q_ph N ρ d (q_w N (0 + 1)) g by rw [hw] at h5; omega)
      omega
theorem q_det_pos {N : Nat} (hN : 3 ≤ N ∧ N ≤ 6) {ρ : Int} {e : Int → Int} (hρ : 1 ≤ ρ ∧ ρ ≤ 9) (he : ∀ k, q_in N k → 0 ≤ e k ∧ e k ≤ 18) (hs : ∃ k, q_in N k ∧ 0 < e k) : 0 < q_det N ρ (fun k => 2 * ρ + e k) := by
  rw [q_det_S hN]
  obtain ⟨k, hk, hp⟩ := hs
  refine (q_S_pos hN hρ (fun k hk => ?_) (fun k hk => (he k hk).1) (N - 1) (by omega)).2 ⟨k.toNat, by have := hk.1; have := hk.2; omega, ?_⟩
  · have := he k hk
    constructor <;> omega
  · rw [show ((k.toNat : Nat) : Int) = k by have := hk.1; omega]
    exact hp
theorem q_det_le {N : Nat} (hN : 3 ≤ N ∧ N ≤ 6) {ρ : Int} {d : Int → Int} (hρ : 1 ≤ ρ ∧ ρ ≤ 9) (hd : ∀ k, q_in N k → 2 * ρ ≤ d k ∧ d k ≤ 36) : q_det N ρ d ≤ 2176782336 := by
  have h0 := hd 0 ⟨by omega, by omega⟩
  have h1 := q_ph_pos (n := (N : Int)) hρ.1 hd (a := 1) ⟨by omega, by omega⟩ (N - 1) (by omega)
  have h2 := (q_ph_pos (n := (N : Int)) hρ.1 hd (a := 1) ⟨by omega, by omega⟩ (N - 2) (by omega)).1
  have h3 := (q_ph_pos (n := (N : Int)) hρ.1 hd (a := 2) ⟨by omega, by omega⟩ (N - 2) (by omega)).1
  have h4 : (0 : Int) < ρ ^ N := Int.pow_pos (by omega)
  have h5 := Int.mul_nonneg (Int.mul_nonneg (show 0 ≤ ρ by omega) (show 0 ≤ ρ by omega)) (show 0 ≤ q_ph N ρ d 1 (N - 2) + q_ph N ρ d 2 (N - 2) by omega)
  have h6 : d 0 * q_ph N ρ d 1 (N - 1) ≤ 36 * 60466176 := by
    refine Int.mul_le_mul h0.2 (Int.le_trans h1.2.1 ?_) (Int.le_of_lt h1.1) (by omega)
    rcases (show N = 3 ∨ N = 4 ∨ N = 5 ∨ N = 6 by omega) with rfl | rfl | rfl | rfl <;> decide
  unfold q_det
  omega
theorem q_pow_le {ρ : Int} (hρ : 1 ≤ ρ ∧ ρ ≤ 9) : ∀ k : Nat, 0 < ρ ^ k ∧ ρ ^ k ≤ 36 ^ k
  | 0 => ⟨by rw [Int.pow_zero]; omega, by rw [Int.pow_zero, Int.pow_zero]; omega⟩
  | k + 1 => by
    obtain ⟨h1, h2⟩ := q_pow_le hρ k
    rw [Int.pow_succ, Int.pow_succ]
    exact ⟨Int.mul_pos h1 (by omega), Int.mul_le_mul h2 (by omega) (by omega) (by have := Int.pow_pos (n := 36) (m := k) (by omega); omega)⟩
theorem q_S_bd {N : Nat} (hN : 3 ≤ N ∧ N ≤ 6) {ρ : Int} {d b : Int → Int} (hρ : 1 ≤ ρ ∧ ρ ≤ 9) (hd : ∀ k, q_in N k → 2 * ρ ≤ d k ∧ d k ≤ 36) {B : Int} (hb : ∀ k, q_in N k → q_bd (b k) B) (k : Int) (hk : q_in N k) : ∀ g : Nat, g < N → q_bd (q_S N ρ d b k g) ((2 * g + 1) * (B * 36 ^ (N - 1))) := by
  have ph : ∀ a, q_in N a → ∀ L : Nat, L < N → q_bd (q_ph N ρ d a L) (36 ^ L) := fun a ha L hL => by
    have := q_ph_pos (n := (N : Int)) hρ.1 hd ha L (by omega)
    exact ⟨by omega, this.2.1⟩
  have pw : ∀ k : Nat, q_bd (ρ ^ k) (36 ^ k) := fun k => by
    have := q_pow_le hρ k
    exact ⟨by omega, this.2⟩
  intro g
  induction g with
  | zero =>
    intro _
    have h := q_bd_mul (hb k hk) (ph (q_w N (k + 1)) (q_w_in ⟨by have := hk.1; omega, by have := hk.2; omega⟩) (N - 1) (by omega))
    have e : (2 * ((0 : Nat) : Int) + 1) * (B * 36 ^ (N - 1)) = B * 36 ^ (N - 1) := by grind
    rw [e]
    exact h
  | succ g ih =>
    intro hg
    have i := ih (by omega)
    have hw := q_w_in (n := (N : Int)) (x := k + g + 1) ⟨by have := hk.1; omega, by have := hk.2; omega⟩
    have t1 := q_bd_mul (pw (g + 1)) (ph (q_w N (q_w N (k + g + 1) + 1)) (q_w_in ⟨by have := hw.1; omega, by have := hw.2; omega⟩) (N - 2 - g) (by omega))
    have t2 := q_bd_mul (pw (N - 1 - g)) (ph (q_w N (k + 1)) (q_w_in ⟨by have := hk.1; omega, by have := hk.2; omega⟩) g (by omega))
    rw [← Int.pow_add, show g + 1 + (N - 2 - g) = N - 1 by omega] at t1
    rw [← Int.pow_add, show N - 1 - g + g = N - 1 by omega] at t2
    have t := q_bd_add i (q_bd_mul (hb _ hw) (q_bd_add t1 t2))
    have e : (2 * ((g : Nat) : Int) + 1) * (B * 36 ^ (N - 1)) + B * (36 ^ (N - 1) + 36 ^ (N - 1)) = (2 * ((g + 1 : Nat) : Int) + 1) * (B * 36 ^ (N - 1)) := by grind
    rw [e] at t
    exact t
theorem q_S_le {N : Nat} (hN : 3 ≤ N ∧ N ≤ 6) {ρ : Int} {d b : Int → Int} (hρ : 1 ≤ ρ ∧ ρ ≤ 9) (hd : ∀ k, q_in N k → 2 * ρ ≤ d k ∧ d k ≤ 36) (hb : ∀ k, q_in N k → q_bd (b k) 3000) (k : Int) (hk : q_in N k) : q_bd (q_S N ρ d b k (N - 1)) 1995383808000 := by
  refine q_bd_le (q_S_bd hN hρ hd hb k hk (N - 1) (by omega)) ?_
  rcases (show N = 3 ∨ N = 4 ∨ N = 5 ∨ N = 6 by omega) with rfl | rfl | rfl | rfl <;> decide
/-- Cramer's numbers are the lifts of a pattern -/
theorem q_Lin_of {N : Nat} {ρ : Int} {st pd tu lo br : Int → Int} (ok : q_ok N ρ st pd tu lo br) {p q : Int → Bool} {h t : Int} {d b : Int → Int} (hd : ∀ k, q_in N k → d k = 2 * ρ + q_e st pd p q k) (hb : ∀ k, q_in N k → b k = q_c st tu lo p h t k) (hs : ∃ k, q_in N k ∧ (p k = true ∨ q k = true)) {u : Int → Int} {D : Int} (hu : ∀ k, q_in N k → u k = q_S N ρ d b k (N - 1)) (hD : D = q_det N ρ d) (hdp : 0 < D) : q_Lin N ρ st pd tu lo p q h t u D := by
  refine ⟨hdp, fun k hk => ?_⟩
  have h1 := q_cramer (N := N) (by have := ok.1; omega) ρ d b k hk
  rw [← hu k hk, ← hu _ (q_pv_in hk), ← hu _ (q_nx_in hk), ← hD, hd k hk, hb k hk] at h1
  unfold q_lap
  rw [Int.mul_comm _ D, ← h1]
  grind
theorem q_posz {n ρ : Int} {st pd tu lo br : Int → Int} (ok : q_ok n ρ st pd tu lo br) {h F : Int} {z : Int → Int} {E : Int} (hh : q_in n h) (held : q_IsG n ρ st pd tu lo br h F z E) (hno : ∀ k, q_in n k → k ≠ h → br k ≠ 0) (hlt : q_sum lo n.toNat * E < F) : ∃ k, q_in n k ∧ 0 < z k := by
  refine Classical.byContradiction fun hne => ?_
  have hN : ((n.toNat : Nat) : Int) = n := by have := ok.1; omega
  have hz : ∀ k, q_in n k → z k ≤ 0 := fun k hk => Classical.byContradiction fun q => hne ⟨k, hk, by omega⟩
  have hs := q_sum_lap ρ z n.toNat (by have := ok.1; omega)
  have e1 : q_sum (fun k => if k = h then F else 0) n.toNat = q_sum (fun k => q_lap n ρ z k + E * lo k) n.toNat := by
    refine q_sum_congr _ (fun k hk => ?_)
    rw [hN] at hk
    have h1 := held.2 k hk
    have hp : q_press (pd k) (z k) = 0 := if_neg (by have := hz k hk; omega)
    rw [hp] at h1
    by_cases e : k = h
    · rw [if_pos e] at h1 ⊢
      rw [Int.mul_comm E]
      omega
    · rw [if_neg e] at h1 ⊢
      unfold q_pl at h1
      rw [if_neg (hno k hk e)] at h1
      rw [Int.mul_comm E]
      omega
  rw [q_sum_add, q_sum_mul] at e1
  rw [hN] at hs
  rw [hs] at e1
  have gen : ∀ N : Nat, q_sum (fun k => if k = h then F else 0) N = if 0 ≤ h ∧ h < N then F else 0 := by
    intro N
    induction N with
    | zero => rw [q_sum, if_neg (by omega)]
    | succ N ih =>
      rw [q_sum, ih]
      by_cases e : (N : Int) = h
      · rw [if_pos e, if_neg (by omega), if_pos (by omega)]
        omega
      · rw [if_neg e]
        by_cases e2 : 0 ≤ h ∧ h < N
        · rw [if_pos e2, if_pos (by omega)]
          omega
        · rw [if_neg e2, if_neg (by omega)]
          omega
  rw [gen, hN, if_pos hh] at e1
  rw [Int.mul_comm E] at e1
  omega
/-- lifts with turns τ at h are lifts with h pulling as it then does -/
theorem q_L_to_G {n ρ : Int} {st pd tu lo br : Int → Int} {h τ : Int} (hh : q_in n h) (hb : br h = 0) {u : Int → Int} {D : Int} (hl : q_IsL n ρ st pd (fun k => if k = h then τ else tu k) lo br u D) : q_IsG n ρ st pd tu lo br h (q_pull (st h) (τ * D - u h)) u D := by
  refine ⟨hl.1, fun k hk => ?_⟩
  have h1 := hl.2 k hk
  rw [if_neg (by have := hk.1; omega)] at h1
  rw [← h1]
  unfold q_pl
  by_cases e : k = h
  · subst e
    rw [if_pos rfl, if_pos hb]
    simp only [if_true]
  · rw [if_neg e]
    simp only [if_neg e]
theorem q_draw {n ρ : Int} {st pd tu lo br : Int → Int} (ok : q_ok n ρ st pd tu lo br) {h t τ : Int} (hh : q_in n h) (hb : br h = 0) (ht : 1 ≤ t) {u z : Int → Int} {D E : Int} (hl : q_IsL n ρ st pd (fun k => if k = h then τ else tu k) lo br u D) (held : q_IsG n ρ st pd tu lo br h (t * E) z E)
    (hs : (∃ k, q_in n k ∧ k ≠ h ∧ br k = 0) ∨ q_sum lo n.toNat < t) : t * D ≤ q_pull (st h) (τ * D - u h) ↔ st h * z h + t * E ≤ τ * (st h * E) := by
  have hG := q_L_to_G hh hb hl
  have hD := hl.1
  have hE := held.1
  have hst : 0 < st h := by have := (ok.2.2.1 h hh).1.1; omega
  have hs2 : (∃ k, q_in n k ∧ k ≠ h ∧ br k = 0) ∨ ∃ k, q_in n k ∧ 0 < z k := by
    by_cases hx : ∃ k, q_in n k ∧ k ≠ h ∧ br k = 0
    · exact Or.inl hx
    · rcases hs with hs | hs
      · exact Or.inl hs
      · exact Or.inr (q_posz ok hh held (fun k hk hne hb0 => hx ⟨k, hk, hne, hb0⟩) (Int.mul_lt_mul_of_pos_right hs hE))
  generalize hp : q_pull (st h) (τ * D - u h) = p at hG ⊢
  have h0D : 0 < t * D := Int.mul_pos (by omega) hD
  have h0E : 0 < t * E := Int.mul_pos (by omega) hE
  constructor
  · intro hge
    have h1 := q_G_le ok held hG (fun _ => by
      have := Int.mul_le_mul_of_nonneg_left hge (Int.le_of_lt hE)
      have e : D * (t * E) = E * (t * D) := by grind
      omega) (hs2.imp id (fun ⟨k, hk, hz⟩ => ⟨k, hk, Or.inl hz⟩)) h hh
    have h2 : p = st h * (τ * D - u h) := by
      rw [← hp]
      unfold q_pull
      rw [if_pos]
      refine Classical.byContradiction fun q => ?_
      have : q_pull (st h) (τ * D - u h) = 0 := if_neg q
      omega
    rw [h2] at hge
    have h3 := Int.mul_le_mul_of_nonneg_left hge (Int.le_of_lt hE)
    have h4 := Int.mul_le_mul_of_nonneg_left h1 (Int.le_of_lt hst)
    have e1 : E * (st h * (τ * D - u h)) = D * (τ * (st h * E)) - st h * (E * u h) := by grind
    have e2 : E * (t * D) = D * (t * E) := by grind
    have e3 : st h * (D * z h) = D * (st h * z h) := by grind
    refine Int.le_of_mul_le_mul_left (a := D) ?_ hD
    rw [Int.mul_add]
    omega
  · intro hge
    refine Classical.byContradiction fun hlt => ?_
    have h1 := q_G_le ok hG held (fun _ => by
      have := Int.mul_le_mul_of_nonneg_left (show p ≤ t * D by omega) (Int.le_of_lt hE)
      have e : D * (t * E) = E * (t * D) := by grind
      omega) (hs2.imp id (fun ⟨k, hk, hz⟩ => ⟨k, hk, Or.inr hz⟩)) h hh
    have h4 := Int.mul_le_mul_of_nonneg_left h1 (Int.le_of_lt hst)
    have e3 : st h * (D * z h) = D * (st h * z h) := by grind
    have h5 := Int.mul_le_mul_of_nonneg_left hge (Int.le_of_lt hD)
    rw [Int.mul_add] at h5
    have e1 : E * (st h * (τ * D - u h)) = D * (τ * (st h * E)) - st h * (E * u h) := by grind
    have e2 : E * (t * D) = D * (t * E) := by grind
    by_cases hpos : 0 < τ * D - u h
    · have h2 : p = st h * (τ * D - u h) := by rw [← hp]; exact if_pos hpos
      have h3 := Int.mul_lt_mul_of_pos_left (show p < t * D by omega) hE
      rw [h2] at h3
      omega
    · have h6 := Int.mul_nonneg (Int.mul_nonneg (Int.le_of_lt hE) (Int.le_of_lt hst)) (show 0 ≤ -(τ * D - u h) by omega)
      have e4 : E * st h * (-(τ * D - u h)) = - (E * (st h * (τ * D - u h))) := by grind
      have h7 := Int.mul_pos hD h0E
      omega
/-- a bolt that is alone pulls the loads at least -/
theorem q_alone {n ρ : Int} {st pd tu lo br : Int → Int} (ok : q_ok n ρ st pd tu lo br) {h : Int} (hh : q_in n h) (hb : br h = 0) (hno : ∀ k, q_in n k → k ≠ h → br k ≠ 0) {u : Int → Int} {D : Int} (hl : q_IsL n ρ st pd tu lo br u D) : q_sum lo n.toNat * D ≤ q_pull (st h) (tu h * D - u h) := by
  have hN : ((n.toNat : Nat) : Int) = n := by have := ok.1; omega
  have hs := q_sum_lap ρ u n.toNat (by have := ok.1; omega)
  have h1 : q_sum (fun k => q_lap n ρ u k + D * lo k) n.toNat ≤ q_sum (fun k => if k = h then q_pull (st h) (tu h * D - u h) else 0) n.toNat := by
    refine q_sum_le _ (fun k hk => ?_)
    rw [hN] at hk
    have h1 := hl.2 k hk
    rw [if_neg (by have := hk.1; omega)] at h1
    have hp : 0 ≤ q_press (pd k) (u k) := q_press_nn (by have := (ok.2.2.1 k hk).2.1.1; omega)
    unfold q_pl at h1
    rw [Int.mul_comm D]
    by_cases e : k = h
    · subst e
      rw [if_pos hb] at h1
      rw [if_pos rfl]
      omega
    · rw [if_neg (hno k hk e)] at h1
      rw [if_neg e]
      omega
  rw [q_sum_add, q_sum_mul] at h1
  rw [hN] at hs
  rw [hs] at h1
  have gen : ∀ (F : Int) (N : Nat), q_sum (fun k => if k = h then F else 0) N = if 0 ≤ h ∧ h < N then F else 0 := by
    intro F N
    induction N with
    | zero => rw [q_sum, if_neg (by omega)]
    | succ N ih =>
      rw [q_sum, ih]
      by_cases e : (N : Int) = h
      · rw [if_pos e, if_neg (by omega), if_pos (by omega)]
        omega
      · rw [if_neg e]
        by_cases e2 : 0 ≤ h ∧ h < N
        · rw [if_pos e2, if_pos (by omega)]
          omega
        · rw [if_neg e2, if_neg (by omega)]
          omega
  rw [gen, hN, if_pos hh] at h1
  rw [Int.mul_comm D] at h1
  omega
