def q_nx (n k : Int) : Int := if k + 1 < n then k + 1 else 0
def q_pv (n k : Int) : Int := if k = 0 then n - 1 else k - 1
abbrev q_in (n k : Int) : Prop := 0 ≤ k ∧ k < n
def q_lap (n ρ : Int) (u : Int → Int) (k : Int) : Int := ρ * (2 * u k - u (q_pv n k) - u (q_nx n k))
theorem q_nx_in {n k : Int} (hk : q_in n k) : q_in n (q_nx n k) := by
  unfold q_nx
  split <;> constructor <;> omega
theorem q_pv_in {n k : Int} (hk : q_in n k) : q_in n (q_pv n k) := by
  unfold q_pv
  split <;> constructor <;> omega
theorem q_max (f : Int → Int) : ∀ N : Nat, 0 < N → ∃ m : Int, q_in N m ∧ ∀ k : Int, q_in N k → f k ≤ f m := by
  intro N
  induction N with
  | zero => intro h; omega
  | succ N ih =>
    intro _
    by_cases h0 : N = 0
    · subst h0
      refine ⟨0, ⟨by omega, by omega⟩, fun k hk => ?_⟩
      have : k = 0 := by omega
      rw [this]
      exact Int.le_refl _
    · obtain ⟨m, hm, hf⟩ := ih (by omega)
      by_cases h : f (N : Int) ≤ f m
      · refine ⟨m, ⟨hm.1, by omega⟩, fun k hk => ?_⟩
        by_cases hk2 : k = (N : Int)
        · rw [hk2]; exact h
        · exact hf k ⟨hk.1, by omega⟩
      · refine ⟨(N : Int), ⟨by omega, by omega⟩, fun k hk => ?_⟩
        by_cases hk2 : k = (N : Int)
        · rw [hk2]; exact Int.le_refl _
        · have := hf k ⟨hk.1, by omega⟩
          omega
theorem q_round {n m c : Int} {f : Int → Int} (hm : q_in n m) (hc : f m = c) (h : ∀ k, q_in n k → f k = c → f (q_nx n k) = c) : ∀ k, q_in n k → f k = c := by
  have up : ∀ (a : Int), q_in n a → f a = c → ∀ j : Nat, a + j < n → f (a + j) = c := by
    intro a ha hfa j
    induction j with
    | zero => intro _; simpa using hfa
    | succ j ih =>
      intro hj
      have h1 := ih (by omega)
      have h2 := h (a + j) ⟨by have := ha.1; omega, by omega⟩ h1
      unfold q_nx at h2
      rw [if_pos (by omega)] at h2
      rw [show a + ((j + 1 : Nat) : Int) = a + j + 1 by omega]
      exact h2
  have hlast : f (n - 1) = c := by
    have h1 := up m hm hc (n - 1 - m).toNat (by have := hm.2; omega)
    rwa [show m + ((n - 1 - m).toNat : Int) = n - 1 by have := hm.2; omega] at h1
  have h0 : f 0 = c := by
    have h2 := h (n - 1) ⟨by have := hm.1; have := hm.2; omega, by omega⟩ hlast
    unfold q_nx at h2
    rwa [if_neg (by omega)] at h2
  intro k hk
  have h1 := up 0 ⟨by omega, by have := hk.1; have := hk.2; omega⟩ h0 k.toNat (by have := hk.1; have := hk.2; omega)
  rwa [show (0 : Int) + (k.toNat : Int) = k by have := hk.1; omega] at h1
theorem q_zero {ρ z : Int} (hρ : 0 < ρ) (hz : 0 ≤ z) (h : ρ * z ≤ 0) : z = 0 := by
  rcases Int.lt_or_le 0 z with q | q
  · have := Int.mul_pos hρ q
    omega
  · omega
/-- the comparison: more force on no place, then no lift is less -/
theorem q_cp {n ρ : Int} (hn : 1 ≤ n) (hρ : 0 < ρ) {u v a b : Int → Int} (h : ∀ k, q_in n k → a k + q_lap n ρ u k ≤ b k + q_lap n ρ v k)
    (hm : ∀ k, q_in n k → v k < u k → b k ≤ a k) (hs : (∀ k, q_in n k → v k < u k) → ∃ k, q_in n k ∧ b k < a k) : ∀ k, q_in n k → u k ≤ v k := by
  obtain ⟨m, hmi, hmx⟩ := q_max (fun k => u k - v k) n.toNat (by omega)
  rw [show ((n.toNat : Nat) : Int) = n by omega] at hmi hmx
  by_cases hpos : u m - v m ≤ 0
  · intro k hk
    have := hmx k hk
    try dsimp only at this
    omega
  · exfalso
    have key : ∀ k, q_in n k → u k - v k = u m - v m → b k = a k ∧ u (q_nx n k) - v (q_nx n k) = u m - v m := by
      intro k hk he
      have h1 := h k hk
      have h2 := hm k hk (by omega)
      have h3 := hmx _ (q_nx_in hk)
      have h4 := hmx _ (q_pv_in hk)
      try dsimp only at h3 h4
      have e : q_lap n ρ u k - q_lap n ρ v k = ρ * ((u k - v k - (u (q_pv n k) - v (q_pv n k))) + (u k - v k - (u (q_nx n k) - v (q_nx n k)))) := by
        unfold q_lap
        rw [← Int.mul_sub]
        congr 1
        omega
      have h5 := q_zero hρ (z := (u k - v k - (u (q_pv n k) - v (q_pv n k))) + (u k - v k - (u (q_nx n k) - v (q_nx n k)))) (by omega) (by omega)
      rw [h5, Int.mul_zero] at e
      constructor <;> omega
    have hall := q_round (f := fun k => u k - v k) hmi rfl (fun k hk he => (key k hk he).2)
    obtain ⟨k, hk, hlt⟩ := hs (fun k hk => by have := hall k hk; omega)
    have := (key k hk (hall k hk)).1
    omega
theorem q_lap_mul (n ρ c : Int) (u : Int → Int) (k : Int) : q_lap n ρ (fun j => c * u j) k = c * q_lap n ρ u k := by
  unfold q_lap
  rw [show 2 * (c * u k) - c * u (q_pv n k) - c * u (q_nx n k) = c * (2 * u k - u (q_pv n k) - u (q_nx n k)) by
    rw [Int.mul_sub, Int.mul_sub, Int.mul_left_comm]]
  rw [Int.mul_left_comm]
def q_press (pd u : Int) : Int := if 0 < u then pd * u else 0
def q_pull (st w : Int) : Int := if 0 < w then st * w else 0
theorem q_press_mul {pd u c : Int} (hc : 0 < c) : q_press pd (c * u) = c * q_press pd u := by
  unfold q_press
  by_cases h : 0 < u
  · rw [if_pos h, if_pos (Int.mul_pos hc h), Int.mul_left_comm]
  · rw [if_neg h, if_neg, Int.mul_zero]
    intro q
    exact h (Int.pos_of_mul_pos_right q hc)
theorem q_pull_mul {st w c : Int} (hc : 0 < c) : q_pull st (c * w) = c * q_pull st w := q_press_mul hc
theorem q_press_nn {pd u : Int} (hp : 0 < pd) : 0 ≤ q_press pd u := by
  unfold q_press
  split
  · exact Int.le_of_lt (Int.mul_pos hp (by assumption))
  · exact Int.le_refl _
theorem q_press_mono {pd u v : Int} (hp : 0 < pd) (h : u ≤ v) : q_press pd u ≤ q_press pd v := by
  unfold q_press
  by_cases hu : 0 < u
  · rw [if_pos hu, if_pos (by omega)]
    exact Int.mul_le_mul_of_nonneg_left h (by omega)
  · rw [if_neg hu]
    exact q_press_nn hp
theorem q_press_lt {pd u v : Int} (hp : 0 < pd) (h : u < v) (hv : 0 < v) : q_press pd u < q_press pd v := by
  unfold q_press
  rw [if_pos hv]
  by_cases hu : 0 < u
  · rw [if_pos hu]
    exact Int.mul_lt_mul_of_pos_left h hp
  · rw [if_neg hu]
    exact Int.mul_pos hp hv
def q_ok (n ρ : Int) (st pd tu lo br : Int → Int) : Prop := (3 ≤ n ∧ n ≤ 6) ∧ (1 ≤ ρ ∧ ρ ≤ 9) ∧ (∀ k, q_in n k → (1 ≤ st k ∧ st k ≤ 9) ∧ (1 ≤ pd k ∧ pd k ≤ 9) ∧ (0 ≤ tu k ∧ tu k ≤ 201) ∧ (0 ≤ lo k ∧ lo k ≤ 200) ∧ (br k = 0 ∨ br k = 1)) ∧ ∃ k, q_in n k ∧ br k = 0
def q_pl (st tu br : Int → Int) (u : Int → Int) (D : Int) (k : Int) : Int := if br k = 0 then q_pull (st k) (tu k * D - u k) else 0
/-- lifts u over D, where bolt h (if it is one) pulls just F -/
def q_IsG (n ρ : Int) (st pd tu lo br : Int → Int) (h F : Int) (u : Int → Int) (D : Int) : Prop := 0 < D ∧ ∀ k, q_in n k → (if k = h then F else q_pl st tu br u D k) = q_press (pd k) (u k) + q_lap n ρ u k + lo k * D
abbrev q_IsL (n ρ : Int) (st pd tu lo br : Int → Int) (u : Int → Int) (D : Int) : Prop := q_IsG n ρ st pd tu lo br (-1) 0 u D
theorem q_pl_mul {st tu br u : Int → Int} {D E k : Int} (hE : 0 < E) : E * q_pl st tu br u D k = if br k = 0 then q_pull (st k) (tu k * (D * E) - E * u k) else 0 := by
  unfold q_pl
  by_cases hb : br k = 0
  · rw [if_pos hb, if_pos hb, ← q_pull_mul hE]
    congr 1
    grind
  · rw [if_neg hb, if_neg hb, Int.mul_zero]
/-- less force at h, no more lift -/
theorem q_G_le {n ρ : Int} {st pd tu lo br : Int → Int} (ok : q_ok n ρ st pd tu lo br) {h F1 F2 D E : Int} {u v : Int → Int} (h1 : q_IsG n ρ st pd tu lo br h F1 u D) (h2 : q_IsG n ρ st pd tu lo br h F2 v E)
    (hF : q_in n h → E * F1 ≤ D * F2) (hs : (∃ k, q_in n k ∧ k ≠ h ∧ br k = 0) ∨ (∃ k, q_in n k ∧ (0 < u k ∨ 0 < v k))) : ∀ k, q_in n k → E * u k ≤ D * v k := by
  obtain ⟨⟨hn, -⟩, ⟨hρ, -⟩, hk, -⟩ := ok
  obtain ⟨hD, h1⟩ := h1
  obtain ⟨hE, h2⟩ := h2
  refine q_cp (n := n) (ρ := ρ) (by omega) (by omega) (u := fun k => E * u k) (v := fun k => D * v k)
    (a := fun k => q_press (pd k) (E * u k) - E * (if k = h then F1 else q_pl st tu br u D k)) (b := fun k => q_press (pd k) (D * v k) - D * (if k = h then F2 else q_pl st tu br v E k)) ?_ ?_ ?_
  · intro k hi
    rw [q_lap_mul, q_lap_mul, q_press_mul hE, q_press_mul hD, h1 k hi, h2 k hi]
    apply Int.le_of_eq
    grind
  · intro k hi hlt
    try dsimp only at hlt ⊢
    have hp := q_press_mono (pd := pd k) (by have := (hk k hi).2.1.1; omega) (Int.le_of_lt hlt)
    by_cases e : k = h
    · rw [if_pos e, if_pos e]
      have := hF (e ▸ hi)
      omega
    · rw [if_neg e, if_neg e, q_pl_mul hE, q_pl_mul hD]
      by_cases hb : br k = 0
      · rw [if_pos hb, if_pos hb]
        have := q_press_mono (pd := st k) (u := tu k * (D * E) - E * u k) (v := tu k * (E * D) - D * v k) (by have := (hk k hi).1.1; omega) (by rw [Int.mul_comm D E]; omega)
        unfold q_pull
        unfold q_press at this
        omega
      · rw [if_neg hb, if_neg hb]
        omega
  · intro hall
    try dsimp only at hall ⊢
    have pos : ∀ k, q_in n k → (0 < u k ∨ 0 < v k) → 0 < E * u k := by
      intro k hi h0
      rcases h0 with h0 | h0
      · exact Int.mul_pos hE h0
      · have := hall k hi
        have := Int.mul_pos hD h0
        omega
    have pull : ∀ k, q_in n k → D * (if k = h then F2 else q_pl st tu br v E k) - E * (if k = h then F1 else q_pl st tu br u D k) ≥ 0 := by
      intro k hi
      by_cases e : k = h
      · rw [if_pos e, if_pos e]
        have := hF (e ▸ hi)
        omega
      · rw [if_neg e, if_neg e, q_pl_mul hE, q_pl_mul hD]
        by_cases hb : br k = 0
        · rw [if_pos hb, if_pos hb]
          have := q_press_mono (pd := st k) (u := tu k * (D * E) - E * u k) (v := tu k * (E * D) - D * v k) (by have := (hk k hi).1.1; omega) (by rw [Int.mul_comm D E]; have := hall k hi; omega)
          unfold q_pull
          unfold q_press at this
          omega
        · rw [if_neg hb, if_neg hb]
          omega
    rcases hs with ⟨k, hi, hne, hb⟩ | ⟨k, hi, h0⟩
    · refine ⟨k, hi, ?_⟩
      rw [if_neg hne, if_neg hne, q_pl_mul hE, q_pl_mul hD, if_pos hb, if_pos hb]
      have h9 := hall k hi
      by_cases hw : 0 < tu k * (E * D) - D * v k
      · have hp := q_press_mono (pd := pd k) (by have := (hk k hi).2.1.1; omega) (Int.le_of_lt h9)
        have := q_press_lt (pd := st k) (u := tu k * (D * E) - E * u k) (v := tu k * (E * D) - D * v k) (by have := (hk k hi).1.1; omega) (by rw [Int.mul_comm D E]; omega) hw
        unfold q_pull
        unfold q_press at this hp ⊢
        omega
      · have ht : 0 ≤ tu k * (E * D) := Int.mul_nonneg (hk k hi).2.2.1.1 (Int.le_of_lt (Int.mul_pos hE hD))
        have hp := q_press_lt (pd := pd k) (by have := (hk k hi).2.1.1; omega) h9 (by omega)
        have e1 : q_pull (st k) (tu k * (E * D) - D * v k) = 0 := if_neg hw
        have e2 : q_pull (st k) (tu k * (D * E) - E * u k) = 0 := if_neg (by rw [Int.mul_comm D E]; omega)
        rw [e1, e2]
        omega
    · refine ⟨k, hi, ?_⟩
      have := pull k hi
      have := q_press_lt (pd := pd k) (by have := (hk k hi).2.1.1; omega) (hall k hi) (pos k hi h0)
      omega
/-- there is just one row of lifts -/
theorem q_uniq {n ρ : Int} {st pd tu lo br : Int → Int} (ok : q_ok n ρ st pd tu lo br) {D E : Int} {u v : Int → Int} (h1 : q_IsL n ρ st pd tu lo br u D) (h2 : q_IsL n ρ st pd tu lo br v E) : ∀ k, q_in n k → E * u k = D * v k := by
  obtain ⟨k0, hk0, hb0⟩ := ok.2.2.2
  have hs : ∃ k, q_in n k ∧ k ≠ -1 ∧ br k = 0 := ⟨k0, hk0, by have := hk0.1; omega, hb0⟩
  intro k hi
  have a := q_G_le ok h1 h2 (fun q => by have := q.1; omega) (Or.inl hs) k hi
  have b := q_G_le ok h2 h1 (fun q => by have := q.1; omega) (Or.inl hs) k hi
  omega
def q_sum (f : Int → Int) : Nat → Int
  | 0 => 0
  | N + 1 => q_sum f N + f (N : Int)
theorem q_sum_congr {f g : Int → Int} : ∀ N : Nat, (∀ k, q_in N k → f k = g k) → q_sum f N = q_sum g N
  | 0, _ => rfl
  | N + 1, h => by
    rw [q_sum, q_sum, q_sum_congr N (fun k hk => h k ⟨hk.1, by have := hk.2; omega⟩), h (N : Int) ⟨by omega, by omega⟩]
theorem q_sum_add (f g : Int → Int) : ∀ N : Nat, q_sum (fun k => f k + g k) N = q_sum f N + q_sum g N
  | 0 => rfl
  | N + 1 => by
    rw [q_sum, q_sum, q_sum, q_sum_add f g N]
    omega
theorem q_sum_mul (c : Int) (f : Int → Int) : ∀ N : Nat, q_sum (fun k => c * f k) N = c * q_sum f N
  | 0 => by rw [q_sum, q_sum, Int.mul_zero]
  | N + 1 => by
    rw [q_sum, q_sum, q_sum_mul c f N, Int.mul_add]
theorem q_sum_le {f g : Int → Int} : ∀ N : Nat, (∀ k, q_in N k → f k ≤ g k) → q_sum f N ≤ q_sum g N
  | 0, _ => Int.le_refl _
  | N + 1, h => by
    have h1 := q_sum_le N (fun k hk => h k ⟨hk.1, by have := hk.2; omega⟩)
    have h2 := h (N : Int) ⟨by omega, by omega⟩
    rw [q_sum, q_sum]
    omega
theorem q_sum_shift (f : Int → Int) : ∀ N : Nat, q_sum (fun k => f (k + 1)) N + f 0 = q_sum f (N + 1)
  | 0 => by
    rw [q_sum, q_sum, q_sum]
    rfl
  | N + 1 => by
    rw [q_sum, q_sum, ← q_sum_shift f N]
    have e : (((N + 1 : Nat) : Int)) = (N : Int) + 1 := by omega
    rw [e]
    omega
theorem q_sum_nx (u : Int → Int) (N : Nat) (hN : 0 < N) : q_sum (fun k => u (q_nx N k)) N = q_sum u N := by
  obtain ⟨M, rfl⟩ : ∃ M, N = M + 1 := ⟨N - 1, by omega⟩
  rw [q_sum, ← q_sum_shift u M]
  congr 1
  · refine q_sum_congr M (fun k hk => ?_)
    unfold q_nx
    rw [if_pos (by have := hk.2; omega)]
  · unfold q_nx
    rw [if_neg (by omega)]
theorem q_sum_pv (u : Int → Int) (N : Nat) (hN : 0 < N) : q_sum (fun k => u (q_pv N k)) N = q_sum u N := by
  obtain ⟨M, rfl⟩ : ∃ M, N = M + 1 := ⟨N - 1, by omega⟩
  rw [← q_sum_shift (fun k => u (q_pv ((M + 1 : Nat) : Int) k)) M, q_sum]
  congr 1
  · refine q_sum_congr M (fun k hk => ?_)
    try dsimp only
    unfold q_pv
    rw [if_neg (by have := hk.1; omega)]
    congr 1
    omega
  · try dsimp only
    unfold q_pv
    rw [if_pos rfl]
    congr 1
    omega
theorem q_sum_lap (ρ : Int) (u : Int → Int) (N : Nat) (hN : 0 < N) : q_sum (q_lap N ρ u) N = 0 := by
  have e : q_sum (q_lap N ρ u) N = q_sum (fun k => ρ * ((u k + u k) + (-1) * (u (q_pv N k) + u (q_nx N k)))) N := by
    refine q_sum_congr N (fun k hk => ?_)
    unfold q_lap
    congr 1
    omega
  rw [e, q_sum_mul, q_sum_add, q_sum_add, q_sum_mul, q_sum_add, q_sum_nx u N hN, q_sum_pv u N hN]
  rw [show q_sum u N + q_sum u N + -1 * (q_sum u N + q_sum u N) = 0 by omega, Int.mul_zero]
theorem q_lin_le {n ρ : Int} (hn : 1 ≤ n) (hρ : 0 < ρ) {e c u v : Int → Int} {D E : Int} (he : ∀ k, q_in n k → 0 ≤ e k) (hs : ∃ k, q_in n k ∧ 0 < e k) (hD : 0 < D) (hE : 0 < E)
    (sub : ∀ k, q_in n k → e k * u k + q_lap n ρ u k ≤ c k * D) (sup : ∀ k, q_in n k → c k * E ≤ e k * v k + q_lap n ρ v k) : ∀ k, q_in n k → E * u k ≤ D * v k := by
  refine q_cp (n := n) (ρ := ρ) hn hρ (u := fun k => E * u k) (v := fun k => D * v k) (a := fun k => e k * (E * u k)) (b := fun k => e k * (D * v k)) ?_ ?_ ?_
  · intro k hi
    rw [q_lap_mul, q_lap_mul]
    have h1 := Int.mul_le_mul_of_nonneg_left (sub k hi) (Int.le_of_lt hE)
    have h2 := Int.mul_le_mul_of_nonneg_left (sup k hi) (Int.le_of_lt hD)
    have e1 : e k * (E * u k) + E * q_lap n ρ u k = E * (e k * u k + q_lap n ρ u k) := by grind
    have e2 : e k * (D * v k) + D * q_lap n ρ v k = D * (e k * v k + q_lap n ρ v k) := by grind
    have e3 : E * (c k * D) = D * (c k * E) := by grind
    omega
  · intro k hi hlt
    exact Int.mul_le_mul_of_nonneg_left (Int.le_of_lt hlt) (he k hi)
  · intro hall
    obtain ⟨k, hi, hp⟩ := hs
    exact ⟨k, hi, Int.mul_lt_mul_of_pos_left (hall k hi) hp⟩
def q_e (st pd : Int → Int) (p q : Int → Bool) (k : Int) : Int := (if p k = true then st k else 0) + (if q k = true then pd k else 0)
def q_c (st tu lo : Int → Int) (p : Int → Bool) (h t : Int) (k : Int) : Int := (if p k = true then st k * tu k else 0) - lo k + (if k = h then t else 0)
def q_Lin (n ρ : Int) (st pd tu lo : Int → Int) (p q : Int → Bool) (h t : Int) (u : Int → Int) (D : Int) : Prop := 0 < D ∧ ∀ k, q_in n k → q_e st pd p q k * u k + q_lap n ρ u k = q_c st tu lo p h t k * D
/-- what the pattern's forces come to, the pads as they are -/
def q_G (n ρ : Int) (st pd tu lo : Int → Int) (p : Int → Bool) (h t : Int) (u : Int → Int) (D : Int) (k : Int) : Int := q_press (pd k) (u k) + (if p k = true then st k * u k else 0) + q_lap n ρ u k - q_c st tu lo p h t k * D
def q_cnt (p : Int → Bool) (N : Nat) : Int := q_sum (fun k => if p k = true then 1 else 0) N
theorem q_cnt_le {p q : Int → Bool} (N : Nat) (h : ∀ k, q_in N k → p k = true → q k = true) : q_cnt p N ≤ q_cnt q N := by
  refine q_sum_le N (fun k hk => ?_)
  by_cases hp : p k = true
  · rw [if_pos hp, if_pos (h k hk hp)]
    exact Int.le_refl _
  · rw [if_neg hp]
    split <;> omega
theorem q_cnt_lt {p q : Int → Bool} (N : Nat) (h : ∀ k, q_in N k → p k = true → q k = true) {j : Int} (hj : q_in N j) (hq : q j = true) (hp : p j = false) : q_cnt p N < q_cnt q N := by
  induction N with
  | zero => have := hj.1; have := hj.2; omega
  | succ N ih =>
    show q_sum (fun k => if p k = true then 1 else 0) N + (if p (N : Int) = true then 1 else 0) < q_sum (fun k => if q k = true then 1 else 0) N + (if q (N : Int) = true then 1 else 0)
    by_cases e : j = (N : Int)
    · have h1 := q_cnt_le N (p := p) (q := q) (fun k hk => h k ⟨hk.1, by have := hk.2; omega⟩)
      unfold q_cnt at h1
      rw [← e, hq, hp]
      simp only [if_true]
      rw [if_neg (by decide)]
      omega
    · have h1 := ih (fun k hk => h k ⟨hk.1, by have := hk.2; omega⟩) ⟨hj.1, by have := hj.2; omega⟩
      unfold q_cnt at h1
      have h2 : (if p (N : Int) = true then (1 : Int) else 0) ≤ (if q (N : Int) = true then (1 : Int) else 0) := by
        by_cases hp : p (N : Int) = true
        · rw [if_pos hp, if_pos (h _ ⟨by omega, by omega⟩ hp)]
          exact Int.le_refl _
        · rw [if_neg hp]
          split <;> omega
      omega
theorem q_cnt_bd (p : Int → Bool) : ∀ N : Nat, 0 ≤ q_cnt p N ∧ q_cnt p N ≤ N
  | 0 => ⟨by show (0 : Int) ≤ 0; omega, by show (0 : Int) ≤ 0; omega⟩
  | N + 1 => by
    have h := q_cnt_bd p N
    show 0 ≤ q_cnt p N + (if p (N : Int) = true then 1 else 0) ∧ q_cnt p N + (if p (N : Int) = true then 1 else 0) ≤ ((N + 1 : Nat) : Int)
    split <;> omega
/-- the state of the search: p pull, q are pressed; W may pull; at h just t; fresh: q isn't yet read off lifts of this p -/
def q_inv (n ρ : Int) (st pd tu lo : Int → Int) (h t : Int) (W p q : Int → Bool) (fresh : Bool) : Prop :=
  (∀ k, q_in n k → p k = true → W k = true) ∧ (∃ k, q_in n k ∧ (p k = true ∨ q k = true)) ∧
  ((∀ k, q_in n k → W k = true → p k = true) ∨ ∃ (b : Int → Int) (B : Int), 0 < B ∧ (∀ k, q_in n k → q_G n ρ st pd tu lo p h t b B k ≤ 0) ∧ ∀ k, q_in n k → W k = true → p k = false → tu k * B < b k) ∧
  (fresh = true ∨ ∃ (w : Int → Int) (E : Int), 0 < E ∧ (∀ k, q_in n k → 0 ≤ q_G n ρ st pd tu lo p h t w E k) ∧ ∀ k, q_in n k → (q k = true ↔ 0 < w k))
def q_mu (n : Int) (p q : Int → Bool) (fresh : Bool) : Int := q_cnt p n.toNat * (n + 2) + (if fresh = true then n + 1 else q_cnt q n.toNat)
section SEARCH
variable {n ρ : Int} {st pd tu lo br : Int → Int} {h t : Int} {W p q : Int → Bool} {fresh : Bool} {u : Int → Int} {D : Int}
theorem q_e_nn (ok : q_ok n ρ st pd tu lo br) {k : Int} (hi : q_in n k) : 0 ≤ q_e st pd p q k := by
  have := ok.2.2.1 k hi
  unfold q_e
  split <;> split <;> omega
theorem q_e_pos (ok : q_ok n ρ st pd tu lo br) {k : Int} (hi : q_in n k) (h : p k = true ∨ q k = true) : 0 < q_e st pd p q k := by
  have := ok.2.2.1 k hi
  unfold q_e
  rcases h with h | h
  · rw [if_pos h]
    split <;> omega
  · rw [if_pos h]
    split <;> omega
theorem q_press_ge (ok : q_ok n ρ st pd tu lo br) {k : Int} (hi : q_in n k) (x : Int) : (if q k = true then pd k else 0) * x ≤ q_press (pd k) x := by
  have h1 := ok.2.2.1 k hi
  unfold q_press
  by_cases hx : 0 < x
  · rw [if_pos hx]
    split
    · exact Int.le_refl _
    · rw [Int.zero_mul]
      exact Int.le_of_lt (Int.mul_pos (by omega) hx)
  · rw [if_neg hx]
    split
    · have := Int.mul_nonneg (a := pd k) (b := -x) (by omega) (by omega)
      rw [Int.mul_neg] at this
      omega
    · rw [Int.zero_mul]
      exact Int.le_refl _
theorem q_press_eq {k : Int} {x : Int} (h : q k = true ↔ 0 < x) : (if q k = true then pd k else 0) * x = q_press (pd k) x := by
  unfold q_press
  by_cases hx : 0 < x
  · rw [if_pos hx, if_pos (h.2 hx)]
  · rw [if_neg hx, if_neg (fun z => hx (h.1 z)), Int.zero_mul]
theorem q_e_mul {k x : Int} : q_e st pd p q k * x = (if p k = true then st k * x else 0) + (if q k = true then pd k else 0) * x := by
  unfold q_e
  rw [Int.add_mul]
  congr 1
  split
  · rfl
  · rw [Int.zero_mul]
/-- lifts of a pattern are above what is slack for good -/
theorem q_base_le (ok : q_ok n ρ st pd tu lo br) (hl : q_Lin n ρ st pd tu lo p q h t u D) (hne : ∃ k, q_in n k ∧ (p k = true ∨ q k = true)) {b : Int → Int} {B : Int} (hB : 0 < B) (hb : ∀ k, q_in n k → q_G n ρ st pd tu lo p h t b B k ≤ 0) : ∀ k, q_in n k → D * b k ≤ B * u k := by
  obtain ⟨k0, hk0, h0⟩ := hne
  refine q_lin_le (n := n) (ρ := ρ) (by have := ok.1; omega) (by have := ok.2.1; omega) (e := q_e st pd p q) (c := q_c st tu lo p h t) (fun k hi => q_e_nn ok hi) ⟨k0, hk0, q_e_pos ok hk0 h0⟩ hB hl.1 ?_ (fun k hi => Int.le_of_eq (hl.2 k hi).symm)
  intro k hi
  have h1 := hb k hi
  have h2 := q_press_ge (q := q) ok hi (b k)
  rw [q_e_mul]
  unfold q_G at h1
  omega
theorem q_G_Lin (ok : q_ok n ρ st pd tu lo br) (hl : q_Lin n ρ st pd tu lo p q h t u D) {k : Int} (hi : q_in n k) : 0 ≤ q_G n ρ st pd tu lo p h t u D k := by
  have h1 := hl.2 k hi
  have h2 := q_press_ge (q := q) ok hi (u k)
  rw [q_e_mul] at h1
  unfold q_G
  omega
theorem q_G_Lin0 (hl : q_Lin n ρ st pd tu lo p q h t u D) {k : Int} (hi : q_in n k) (hq : q k = true ↔ 0 < u k) : q_G n ρ st pd tu lo p h t u D k = 0 := by
  have h1 := hl.2 k hi
  have h2 := q_press_eq (pd := pd) hq
  rw [q_e_mul] at h1
  unfold q_G
  omega
/-- some pad is pressed -/
theorem q_some (ok : q_ok n ρ st pd tu lo br) (iv : q_inv n ρ st pd tu lo h t W p q fresh) (hW : (∃ k, q_in n k ∧ W k = true) ∨ (q_in n h ∧ q_sum lo n.toNat < t)) (hl : q_Lin n ρ st pd tu lo p q h t u D) : ∃ k, q_in n k ∧ (p k = true ∨ 0 < u k) := by
  obtain ⟨i1, i2, i3, -⟩ := iv
  by_cases hp : ∃ k, q_in n k ∧ p k = true
  · obtain ⟨k, hi, hk⟩ := hp
    exact ⟨k, hi, Or.inl hk⟩
  · rcases hW with ⟨k, hi, hk⟩ | ⟨hh, hsum⟩
    · rcases i3 with i3 | ⟨b, B, hB, hb, hw⟩
      · exact absurd ⟨k, hi, i3 k hi hk⟩ hp
      · have h1 := q_base_le ok hl i2 hB hb k hi
        have h2 := hw k hi hk (by
          cases hpk : p k with
          | false => rfl
          | true => exact absurd ⟨k, hi, hpk⟩ hp)
        refine ⟨k, hi, Or.inr ?_⟩
        have h3 : 0 ≤ tu k * B := Int.mul_nonneg (ok.2.2.1 k hi).2.2.1.1 (Int.le_of_lt hB)
        have h4 : 0 < D * b k := Int.mul_pos hl.1 (by omega)
        exact Int.pos_of_mul_pos_right (a := B) (by omega) hB
    · -- the sum of all forces
      refine Classical.byContradiction fun hno => ?_
      have hz : ∀ k, q_in n k → p k = false ∧ u k ≤ 0 := fun k hi => by
        refine ⟨?_, ?_⟩
        · cases hpk : p k with
          | false => rfl
          | true => exact absurd ⟨k, hi, hpk⟩ hp
        · refine Classical.byContradiction fun z => hno ⟨k, hi, Or.inr (by omega)⟩
      have hN : ((n.toNat : Nat) : Int) = n := by have := ok.1; omega
      have hs := q_sum_lap ρ u n.toNat (by have := ok.1; omega)
      rw [hN] at hs
      have h1 : q_sum (fun k => D * ((if k = h then t else 0) + (-1) * lo k)) n.toNat ≤ q_sum (q_lap n ρ u) n.toNat := by
        refine q_sum_le _ (fun k hk => ?_)
        rw [hN] at hk
        have h2 := hl.2 k hk
        obtain ⟨z1, z2⟩ := hz k hk
        rw [q_e_mul] at h2
        unfold q_c at h2
        simp only [z1, Bool.false_eq_true, if_false] at h2
        have h3 : (if q k = true then pd k else 0) * u k ≤ 0 := by
          have := (ok.2.2.1 k hk).2.1.1
          split
          · have := Int.mul_nonneg (a := pd k) (b := - u k) (by omega) (by omega)
            rw [Int.mul_neg] at this
            omega
          · rw [Int.zero_mul]
            exact Int.le_refl _
        have h4 : D * ((if k = h then t else 0) + (-1) * lo k) = (0 - lo k + (if k = h then t else 0)) * D := by grind
        omega
      rw [q_sum_mul, q_sum_add, q_sum_mul, hs] at h1
      have h5 : q_sum (fun k => if k = h then t else 0) n.toNat = t := by
        have gen : ∀ N : Nat, q_sum (fun k => if k = h then t else 0) N = if 0 ≤ h ∧ h < N then t else 0 := by
          intro N
          induction N with
          | zero =>
            rw [q_sum, if_neg (by omega)]
          | succ N ih =>
            rw [q_sum, ih]
            by_cases e : (N : Int) = h
            · rw [if_pos e, if_neg (by omega), if_pos (by omega)]
              omega
            · rw [if_neg e]
              by_cases e2 : 0 ≤ h ∧ h < N
              · rw [if_pos e2, if_pos (by omega)]
                omega
              · rw [if_neg e2, if_neg (by omega)]
                omega
        rw [gen, hN, if_pos hh]
      rw [h5] at h1
      have := Int.mul_pos hl.1 (show 0 < t + -1 * q_sum lo n.toNat by omega)
      omega
/-- a step of the search: the pads anew -/
theorem q_step1 (ok : q_ok n ρ st pd tu lo br) (iv : q_inv n ρ st pd tu lo h t W p q fresh) (hW : (∃ k, q_in n k ∧ W k = true) ∨ (q_in n h ∧ q_sum lo n.toNat < t)) (hl : q_Lin n ρ st pd tu lo p q h t u D) {q' : Int → Bool} (hq' : ∀ k, q_in n k → (q' k = true ↔ 0 < u k)) (hne : ∃ k, q_in n k ∧ q' k ≠ q k) :
    q_inv n ρ st pd tu lo h t W p q' false ∧ q_mu n p q' false < q_mu n p q fresh := by
  have hN : ((n.toNat : Nat) : Int) = n := by have := ok.1; omega
  have hsome := q_some ok iv hW hl
  obtain ⟨i1, i2, i3, i4⟩ := iv
  refine ⟨⟨i1, ?_, i3, Or.inr ⟨u, D, hl.1, fun k hi => q_G_Lin ok hl hi, hq'⟩⟩, ?_⟩
  · obtain ⟨k, hi, hk⟩ := hsome
    exact ⟨k, hi, hk.imp id (fun z => (hq' k hi).2 z)⟩
  · unfold q_mu
    rw [if_neg (by decide)]
    have hb := q_cnt_bd q' n.toNat
    rw [hN] at hb
    rcases i4 with i4 | ⟨w, E, hE, hw, hqw⟩
    · rw [if_pos i4]
      omega
    · have hle : ∀ k, q_in n k → E * u k ≤ D * w k := by
        obtain ⟨k0, hk0, h0⟩ := i2
        refine q_lin_le (n := n) (ρ := ρ) (by have := ok.1; omega) (by have := ok.2.1; omega) (e := q_e st pd p q) (c := q_c st tu lo p h t) (fun k hi => q_e_nn ok hi) ⟨k0, hk0, q_e_pos ok hk0 h0⟩ hl.1 hE (fun k hi => Int.le_of_eq (hl.2 k hi)) ?_
        intro k hi
        have h1 := hw k hi
        have h2 := q_press_eq (pd := pd) (hqw k hi)
        rw [q_e_mul]
        unfold q_G at h1
        omega
      have hsub : ∀ k, q_in n k → q' k = true → q k = true := by
        intro k hi hk
        have h1 := (hq' k hi).1 hk
        refine (hqw k hi).2 ?_
        have h2 := Int.mul_pos hE h1
        exact Int.pos_of_mul_pos_right (a := D) (by have := hle k hi; omega) hl.1
      have hlt : q_cnt q' n.toNat < q_cnt q n.toNat := by
        obtain ⟨k, hi, hk⟩ := hne
        refine q_cnt_lt n.toNat (fun j hj => hsub j (by rw [hN] at hj; exact hj)) (j := k) (by rw [hN]; exact hi) ?_ ?_
        · cases hqk : q k with
          | true => rfl
          | false =>
            cases hq'k : q' k with
            | true => exact absurd (hsub k hi hq'k) (by rw [hqk]; decide)
            | false => exact absurd (hq'k.trans hqk.symm) hk
        · cases hq'k : q' k with
          | false => rfl
          | true => exact absurd (hq'k.trans (hsub k hi hq'k).symm) hk
      have hb2 := q_cnt_bd q n.toNat
      rw [hN] at hb2
      split <;> omega
/-- a step of the search: bolts that are above their turns let go -/
theorem q_step2 (ok : q_ok n ρ st pd tu lo br) (iv : q_inv n ρ st pd tu lo h t W p q fresh) (hl : q_Lin n ρ st pd tu lo p q h t u D) (hq : ∀ k, q_in n k → (q k = true ↔ 0 < u k)) {p' : Int → Bool} (hp' : ∀ k, q_in n k → (p' k = true ↔ p k = true ∧ u k ≤ D * tu k)) (hne : ∃ k, q_in n k ∧ p k = true ∧ D * tu k < u k) :
    q_inv n ρ st pd tu lo h t W p' q true ∧ q_mu n p' q true < q_mu n p q fresh := by
  have hN : ((n.toNat : Nat) : Int) = n := by have := ok.1; omega
  obtain ⟨i1, i2, i3, i4⟩ := iv
  refine ⟨⟨fun k hi hk => i1 k hi ((hp' k hi).1 hk).1, ?_, Or.inr ⟨u, D, hl.1, ?_, ?_⟩, Or.inl rfl⟩, ?_⟩
  · obtain ⟨k, hi, hk, hlt⟩ := hne
    refine ⟨k, hi, Or.inr ((hq k hi).2 ?_)⟩
    have := Int.mul_nonneg (Int.le_of_lt hl.1) (ok.2.2.1 k hi).2.2.1.1
    omega
  · intro k hi
    have h1 := q_G_Lin0 hl hi (hq k hi)
    unfold q_G q_c at h1 ⊢
    by_cases hpk : p' k = true
    · rw [if_pos hpk, if_pos hpk]
      rw [if_pos ((hp' k hi).1 hpk).1, if_pos ((hp' k hi).1 hpk).1] at h1
      omega
    · rw [if_neg hpk, if_neg hpk]
      by_cases hpk2 : p k = true
      · rw [if_pos hpk2, if_pos hpk2] at h1
        have h2 : D * tu k < u k := by
          refine Classical.byContradiction fun z => hpk ((hp' k hi).2 ⟨hpk2, by omega⟩)
        have h3 := Int.mul_le_mul_of_nonneg_left (Int.le_of_lt h2) (show 0 ≤ st k by have := (ok.2.2.1 k hi).1.1; omega)
        have e1 : (st k * tu k - lo k + (if k = h then t else 0)) * D = st k * (D * tu k) + (0 - lo k + (if k = h then t else 0)) * D := by grind
        omega
      · rw [if_neg hpk2, if_neg hpk2] at h1
        omega
  · intro k hi hWk hpk
    by_cases hpk2 : p k = true
    · have h2 : D * tu k < u k := by
        refine Classical.byContradiction fun z => ?_
        have := (hp' k hi).2 ⟨hpk2, by omega⟩
        rw [hpk] at this
        cases this
      rw [Int.mul_comm]
      exact h2
    · rcases i3 with i3 | ⟨b, B, hB, hb, hw⟩
      · exact absurd (i3 k hi hWk) hpk2
      · have h1 := q_base_le ok hl i2 hB hb k hi
        have h2 := hw k hi hWk (by
          cases hpp : p k with
          | false => rfl
          | true => exact absurd hpp hpk2)
        have h3 := Int.mul_lt_mul_of_pos_left h2 hl.1
        have e1 : D * (tu k * B) = B * (tu k * D) := by grind
        exact Int.lt_of_mul_lt_mul_left (a := B) (by omega) (Int.le_of_lt hB)
  · unfold q_mu
    rw [if_pos rfl]
    have hlt : q_cnt p' n.toNat < q_cnt p n.toNat := by
      obtain ⟨k, hi, hk, hlt⟩ := hne
      refine q_cnt_lt n.toNat (fun j hj hp => ((hp' j (by rw [hN] at hj; exact hj)).1 hp).1) (j := k) (by rw [hN]; exact hi) hk ?_
      cases hpk : p' k with
      | false => rfl
      | true => have := ((hp' k hi).1 hpk).2; omega
    have hb := q_cnt_bd p' n.toNat
    have hb2 := q_cnt_bd q n.toNat
    have hb3 := q_cnt_bd p n.toNat
    have h1 := Int.mul_le_mul_of_nonneg_right (a := q_cnt p' n.toNat + 1) (b := q_cnt p n.toNat) (c := n + 2) (by omega) (by have := ok.1; omega)
    rw [Int.add_mul, Int.one_mul] at h1
    split <;> omega
/-- the search's end -/
theorem q_done (ok : q_ok n ρ st pd tu lo br) (iv : q_inv n ρ st pd tu lo h t W p q fresh) (hWd : ∀ k, q_in n k → (W k = true ↔ br k = 0 ∧ k ≠ h)) (hl : q_Lin n ρ st pd tu lo p q h t u D) (hq : ∀ k, q_in n k → (q k = true ↔ 0 < u k)) (hp : ∀ k, q_in n k → p k = true → u k ≤ D * tu k) :
    q_IsG n ρ st pd tu lo br h (t * D) u D := by
  obtain ⟨i1, i2, i3, i4⟩ := iv
  refine ⟨hl.1, fun k hi => ?_⟩
  have h1 := q_G_Lin0 hl hi (hq k hi)
  unfold q_G q_c at h1
  by_cases hpk : p k = true
  · rw [if_pos hpk, if_pos hpk] at h1
    have hW := (hWd k hi).1 (i1 k hi hpk)
    rw [if_neg hW.2] at h1 ⊢
    unfold q_pl q_pull
    rw [if_pos hW.1]
    have hle := hp k hi hpk
    have e1 : (st k * tu k - lo k + 0) * D = st k * (tu k * D) - lo k * D := by grind
    rw [e1] at h1
    have e2 : st k * (tu k * D - u k) = st k * (tu k * D) - st k * u k := by rw [Int.mul_sub]
    by_cases hz : 0 < tu k * D - u k
    · rw [if_pos hz]
      omega
    · rw [if_neg hz]
      have e3 : tu k * D - u k = 0 := by rw [Int.mul_comm (tu k) D]; rw [Int.mul_comm (tu k) D] at hz; omega
      rw [e3, Int.mul_zero] at e2
      omega
  · rw [if_neg hpk, if_neg hpk] at h1
    by_cases hh : k = h
    · rw [if_pos hh] at h1 ⊢
      have e1 : (0 - lo k + t) * D = t * D - lo k * D := by grind
      omega
    · rw [if_neg hh] at h1 ⊢
      have e1 : (0 - lo k + 0) * D = - (lo k * D) := by grind
      have e2 : q_pl st tu br u D k = 0 := by
        unfold q_pl q_pull
        by_cases hb : br k = 0
        · rw [if_pos hb]
          rcases i3 with i3 | ⟨b, B, hB, hb2, hw⟩
          · exact absurd (i3 k hi ((hWd k hi).2 ⟨hb, hh⟩)) hpk
          · have h2 := q_base_le ok hl i2 hB hb2 k hi
            have h3 := hw k hi ((hWd k hi).2 ⟨hb, hh⟩) (by
              cases hpp : p k with
              | false => rfl
              | true => exact absurd hpp hpk)
            have h4 := Int.mul_lt_mul_of_pos_left h3 hl.1
            have e3 : D * (tu k * B) = B * (tu k * D) := by grind
            have h5 := Int.lt_of_mul_lt_mul_left (a := B) (b := tu k * D) (c := u k) (by omega) (Int.le_of_lt hB)
            rw [if_neg (by omega)]
        · rw [if_neg hb]
      omega
end SEARCH
def q_w (n x : Int) : Int := if x < n then x else x - n
/-- the determinant of L bolts side by side, from a on -/
def q_ph (n ρ : Int) (d : Int → Int) (a : Int) : Nat → Int
  | 0 => 1
  | 1 => d a
  | L + 2 => d (q_w n (a + L + 1)) * q_ph n ρ d a (L + 1) - ρ * ρ * q_ph n ρ d a L
/-- the upper number of bolt k, summed up to gap g -/
def q_S (N : Nat) (ρ : Int) (d b : Int → Int) (k : Int) : Nat → Int
  | 0 => b k * q_ph N ρ d (q_w N (k + 1)) (N - 1)
  | g + 1 => q_S N ρ d b k g + b (q_w N (k + g + 1)) * (ρ ^ (g + 1) * q_ph N ρ d (q_w N (q_w N (k + g + 1) + 1)) (N - 2 - g) + ρ ^ (N - 1 - g) * q_ph N ρ d (q_w N (k + 1)) g)
def q_det (N : Nat) (ρ : Int) (d : Int → Int) : Int := d 0 * q_ph N ρ d 1 (N - 1) - 2 * ρ ^ N - ρ * ρ * (q_ph N ρ d 1 (N - 2) + q_ph N ρ d 2 (N - 2))
theorem q_cramer {N : Nat} (hN : 3 ≤ N ∧ N ≤ 6) (ρ : Int) (d b : Int → Int) (k : Int) (hk : q_in N k) : d k * q_S N ρ d b k (N - 1) - ρ * (q_S N ρ d b (q_pv N k) (N - 1) + q_S N ρ d b (q_nx N k) (N - 1)) = q_det N ρ d * b k := by
  obtain ⟨h1, h2⟩ := hk
  rcases (show N = 3 ∨ N = 4 ∨ N = 5 ∨ N = 6 by omega) with rfl | rfl | rfl | rfl
  · rcases (show k = 0 ∨ k = 1 ∨ k = 2 by omega) with rfl | rfl | rfl <;> simp [q_S, q_ph, q_w, q_pv, q_nx, q_det] <;> grind
  · rcases (show k = 0 ∨ k = 1 ∨ k = 2 ∨ k = 3 by omega) with rfl | rfl | rfl | rfl <;> simp [q_S, q_ph, q_w, q_pv, q_nx, q_det] <;> grind
  · rcases (show k = 0 ∨ k = 1 ∨ k = 2 ∨ k = 3 ∨ k = 4 by omega) with rfl | rfl | rfl | rfl | rfl <;> simp [q_S, q_ph, q_w, q_pv, q_nx, q_det] <;> grind
  · rcases (show k = 0 ∨ k = 1 ∨ k = 2 ∨ k = 3 ∨ k = 4 ∨ k = 5 by omega) with rfl | rfl | rfl | rfl | rfl | rfl <;> simp [q_S, q_ph, q_w, q_pv, q_nx, q_det] <;> grind
theorem q_det_S {N : Nat} (hN : 3 ≤ N ∧ N ≤ 6) (ρ : Int) (e : Int → Int) : q_det N ρ (fun k => 2 * ρ + e k) = q_S N ρ (fun k => 2 * ρ + e k) e 0 (N - 1) := by
  rcases (show N = 3 ∨ N = 4 ∨ N = 5 ∨ N = 6 by omega) with rfl | rfl | rfl | rfl <;> simp [q_S, q_ph, q_w, q_pv, q_nx, q_det] <;> grind
theorem q_w_in {n x : Int} (h : 0 ≤ x ∧ x < 2 * n) : q_in n (q_w n x) := by
  unfold q_w
  split <;> constructor <;> omega
theorem q_ph_pos {n ρ : Int} {d : Int → Int} (hρ : 1 ≤ ρ) (hd : ∀ k, q_in n k → 2 * ρ ≤ d k ∧ d k ≤ 36) {a : Int} (ha : q_in n a) : ∀ L : Nat, (L : Int) < n → 0 < q_ph n ρ d a L ∧ q_ph n ρ d a L ≤ 36 ^ L ∧ (0 < L → ρ * q_ph n ρ d a (L - 1) ≤ q_ph n ρ d a L)
  | 0, _ => ⟨by show (0 : Int) < 1; omega, by show (1 : Int) ≤ 36 ^ 0; omega, fun h => by omega⟩
  | 1, _ => by
    have := hd a ha
    refine ⟨by show 0 < d a; omega, by show d a ≤ 36 ^ 1; omega, fun _ => ?_⟩
    show ρ * 1 ≤ d a
    omega
  | L + 2, h => by
    obtain ⟨i1, i2, i3⟩ := q_ph_pos hρ hd ha (L + 1) (by omega)
    obtain ⟨j1, -, -⟩ := q_ph_pos hρ hd ha L (by omega)
    have i3 := i3 (by omega)
    rw [Nat.add_sub_cancel] at i3
    have hd2 := hd (q_w n (a + L + 1)) (q_w_in ⟨by have := ha.1; omega, by have := ha.2; omega⟩)
    have e : q_ph n ρ d a (L + 2) = d (q_w n (a + L + 1)) * q_ph n ρ d a (L + 1) - ρ * ρ * q_ph n ρ d a L := rfl
    have p1 : 0 < ρ * q_ph n ρ d a (L + 1) := Int.mul_pos (by omega) i1
    have p2 : ρ * (ρ * q_ph n ρ d a L) ≤ ρ * q_ph n ρ d a (L + 1) := Int.mul_le_mul_of_nonneg_left i3 (by omega)
    have p3 : (2 * ρ) * q_ph n ρ d a (L + 1) ≤ d (q_w n (a + L + 1)) * q_ph n ρ d a (L + 1) := Int.mul_le_mul_of_nonneg_right hd2.1 (Int.le_of_lt i1)
    have p4 : d (q_w n (a + L + 1)) * q_ph n ρ d a (L + 1) ≤ 36 * q_ph n ρ d a (L + 1) := Int.mul_le_mul_of_nonneg_right hd2.2 (Int.le_of_lt i1)
    have p5 : 0 ≤ ρ * ρ * q_ph n ρ d a L := Int.mul_nonneg (Int.mul_nonneg (by omega) (by omega)) (Int.le_of_lt j1)
    rw [← Int.mul_assoc] at p2
    rw [Int.mul_assoc] at p3
    refine ⟨?_, ?_, fun _ => ?_⟩
    · rw [e]; omega
    · rw [e, Int.pow_succ]; omega
    · rw [show L + 2 - 1 = L + 1 by omega, e]; omega
