/-! ===== how large the entries are (generated: wip/whole/genTb.py) ===== -/
def q_bd (x B : Int) : Prop := -B ≤ x ∧ x ≤ B
theorem q_bd_neg {x B : Int} (h : q_bd x B) : q_bd (-x) B := ⟨by have := h.2; omega, by have := h.1; omega⟩
theorem q_bd_add {x y A B : Int} (h : q_bd x A) (g : q_bd y B) : q_bd (x + y) (A + B) := ⟨by have := h.1; have := g.1; omega, by have := h.2; have := g.2; omega⟩
theorem q_bd_le {x A B : Int} (h : q_bd x A) (g : A ≤ B) : q_bd x B := ⟨by have := h.1; omega, by have := h.2; omega⟩
theorem q_bd_mul {x y A B : Int} (h : q_bd x A) (g : q_bd y B) : q_bd (x * y) (A * B) := by
  obtain ⟨h1, h2⟩ := h
  obtain ⟨g1, g2⟩ := g
  have a1 := Int.mul_nonneg (a := A - x) (b := B - y) (by omega) (by omega)
  have a2 := Int.mul_nonneg (a := A + x) (b := B + y) (by omega) (by omega)
  have a3 := Int.mul_nonneg (a := A - x) (b := B + y) (by omega) (by omega)
  have a4 := Int.mul_nonneg (a := A + x) (b := B - y) (by omega) (by omega)
  have e1 : (A - x) * (B - y) = A * B - A * y - x * B + x * y := by grind
  have e2 : (A + x) * (B + y) = A * B + A * y + x * B + x * y := by grind
  have e3 : (A - x) * (B + y) = A * B + A * y - x * B - x * y := by grind
  have e4 : (A + x) * (B - y) = A * B - A * y + x * B - x * y := by grind
  constructor <;> omega
theorem q_bd_lit (B : Int) (h : 0 ≤ B) : q_bd B B := ⟨by omega, by omega⟩
theorem q_bd_zero (B : Int) (h : 0 ≤ B) : q_bd 0 B := ⟨by omega, by omega⟩
theorem q_bd_pow {x A : Int} (h : q_bd x A) : ∀ k : Nat, q_bd (x ^ k) (A ^ k)
  | 0 => by rw [Int.pow_zero, Int.pow_zero]; exact ⟨by omega, by omega⟩
  | k + 1 => by rw [Int.pow_succ, Int.pow_succ]; exact q_bd_mul (q_bd_pow h k) h
/-- determinants of parts, and what they are above the rib's share, at most as with all at their most -/
theorem q_phF {n ρ : Int} {d : Int → Int} (hρ : 1 ≤ ρ ∧ ρ ≤ 9) (hd : ∀ k, q_in n k → 2 * ρ ≤ d k ∧ d k ≤ 2 * ρ + 18) {a : Int} (ha : q_in n a) {L : Nat} {A G : Int} (hL : ((L + 1 : Nat) : Int) < n) (h1 : q_bd (q_ph n ρ d a (L + 1)) A) (h0 : 0 ≤ q_ph n ρ d a (L + 1)) (hg : 0 ≤ q_ph n ρ d a (L + 1) - ρ * q_ph n ρ d a L) (hg2 : q_ph n ρ d a (L + 1) - ρ * q_ph n ρ d a L ≤ G) :
    q_bd (q_ph n ρ d a (L + 2)) (9 * A + (18 * A + 9 * G)) ∧ 0 ≤ q_ph n ρ d a (L + 2) ∧ 0 ≤ q_ph n ρ d a (L + 2) - ρ * q_ph n ρ d a (L + 1) ∧ q_ph n ρ d a (L + 2) - ρ * q_ph n ρ d a (L + 1) ≤ 18 * A + 9 * G := by
  have hd2 := hd (q_w n (a + L + 1)) (q_w_in ⟨by have := ha.1; omega, by have := ha.2; omega⟩)
  have e : q_ph n ρ d a (L + 2) = d (q_w n (a + L + 1)) * q_ph n ρ d a (L + 1) - ρ * ρ * q_ph n ρ d a L := rfl
  generalize hx : d (q_w n (a + L + 1)) = x at *
  generalize q_ph n ρ d a (L + 1) = y at *
  generalize q_ph n ρ d a L = z at *
  obtain ⟨ex, hex⟩ : ∃ e, e = x - 2 * ρ := ⟨_, rfl⟩
  have e2 : q_ph n ρ d a (L + 2) - ρ * y = ex * y + ρ * (y - ρ * z) := by rw [e, hex]; grind
  have p1 := Int.mul_nonneg (a := ex) (b := y) (by omega) h0
  have p2 := Int.mul_nonneg (a := ρ) (b := y - ρ * z) (by omega) hg
  have p3 : ex * y ≤ 18 * A := Int.mul_le_mul (by omega) h1.2 h0 (by omega)
  have p4 : ρ * (y - ρ * z) ≤ 9 * G := Int.mul_le_mul hρ.2 hg2 hg (by omega)
  have p5 : ρ * y ≤ 9 * A := Int.mul_le_mul hρ.2 h1.2 h0 (by omega)
  have p6 := Int.mul_nonneg (a := ρ) (b := y) (by omega) h0
  refine ⟨⟨by omega, by omega⟩, by omega, by omega, by omega⟩
section BD
variable {n ρ : Int} {d b : Int → Int}
theorem q_ph1 (hρ : 1 ≤ ρ ∧ ρ ≤ 9) (hd : ∀ k, q_in n k → 2 * ρ ≤ d k ∧ d k ≤ 2 * ρ + 18) {a : Int} (ha : q_in n a) : q_bd (q_ph n ρ d a 1) 36 ∧ 0 ≤ q_ph n ρ d a 1 ∧ 0 ≤ q_ph n ρ d a 1 - ρ * q_ph n ρ d a 0 ∧ q_ph n ρ d a 1 - ρ * q_ph n ρ d a 0 ≤ 27 := by
  have := hd a ha
  have e1 : q_ph n ρ d a 1 = d a := rfl
  have e0 : q_ph n ρ d a 0 = 1 := rfl
  rw [e1, e0, Int.mul_one]
  exact ⟨⟨by omega, by omega⟩, by omega, by omega, by omega⟩
theorem q_ph2 (hρ : 1 ≤ ρ ∧ ρ ≤ 9) (hd : ∀ k, q_in n k → 2 * ρ ≤ d k ∧ d k ≤ 2 * ρ + 18) {a : Int} (ha : q_in n a) (hn : 1 < n) : q_bd (q_ph n ρ d a 2) 1215 ∧ 0 ≤ q_ph n ρ d a 2 ∧ 0 ≤ q_ph n ρ d a 2 - ρ * q_ph n ρ d a 1 ∧ q_ph n ρ d a 2 - ρ * q_ph n ρ d a 1 ≤ 891 := by
  obtain ⟨h1, h2, h3, h4⟩ := q_ph1 hρ hd ha
  exact q_phF hρ hd ha (L := 0) (by omega) h1 h2 h3 h4
theorem q_ph3 (hρ : 1 ≤ ρ ∧ ρ ≤ 9) (hd : ∀ k, q_in n k → 2 * ρ ≤ d k ∧ d k ≤ 2 * ρ + 18) {a : Int} (ha : q_in n a) (hn : 2 < n) : q_bd (q_ph n ρ d a 3) 40824 ∧ 0 ≤ q_ph n ρ d a 3 ∧ 0 ≤ q_ph n ρ d a 3 - ρ * q_ph n ρ d a 2 ∧ q_ph n ρ d a 3 - ρ * q_ph n ρ d a 2 ≤ 29889 := by
  obtain ⟨h1, h2, h3, h4⟩ := q_ph2 hρ hd ha (by omega)
  exact q_phF hρ hd ha (L := 1) (by omega) h1 h2 h3 h4
theorem q_ph4 (hρ : 1 ≤ ρ ∧ ρ ≤ 9) (hd : ∀ k, q_in n k → 2 * ρ ≤ d k ∧ d k ≤ 2 * ρ + 18) {a : Int} (ha : q_in n a) (hn : 3 < n) : q_bd (q_ph n ρ d a 4) 1371249 ∧ 0 ≤ q_ph n ρ d a 4 ∧ 0 ≤ q_ph n ρ d a 4 - ρ * q_ph n ρ d a 3 ∧ q_ph n ρ d a 4 - ρ * q_ph n ρ d a 3 ≤ 1003833 := by
  obtain ⟨h1, h2, h3, h4⟩ := q_ph3 hρ hd ha (by omega)
  exact q_phF hρ hd ha (L := 2) (by omega) h1 h2 h3 h4
theorem q_ph5 (hρ : 1 ≤ ρ ∧ ρ ≤ 9) (hd : ∀ k, q_in n k → 2 * ρ ≤ d k ∧ d k ≤ 2 * ρ + 18) {a : Int} (ha : q_in n a) (hn : 4 < n) : q_bd (q_ph n ρ d a 5) 46058220 ∧ 0 ≤ q_ph n ρ d a 5 ∧ 0 ≤ q_ph n ρ d a 5 - ρ * q_ph n ρ d a 4 ∧ q_ph n ρ d a 5 - ρ * q_ph n ρ d a 4 ≤ 33716979 := by
  obtain ⟨h1, h2, h3, h4⟩ := q_ph4 hρ hd ha (by omega)
  exact q_phF hρ hd ha (L := 3) (by omega) h1 h2 h3 h4
end BD
theorem q_T3_b0 {ρ : Int} {d b : Int → Int} (hρ : 1 ≤ ρ ∧ ρ ≤ 9) (hd : ∀ k, q_in 3 k → 2 * ρ ≤ d k ∧ d k ≤ 2 * ρ + 18) (hb : ∀ k, q_in 3 k → q_bd (b k) 1809) (r c : Int) (hr : q_in 3 r) (hne : r ≠ 0) (hc : 0 ≤ c ∧ c ≤ 3) : q_bd (q_T3 ρ d b 1 r c * q_L3 ρ d 0) 9223372036854775807 := by
  have hR : q_bd ρ 9 := ⟨by omega, by omega⟩
  have hD : ∀ k, q_in 3 k → q_bd (d k) 36 := fun k hk => ⟨by have := hd k hk; omega, by have := hd k hk; omega⟩
  obtain ⟨h1, h2⟩ := hr
  rcases (show r = 1 ∨ r = 2 by omega) with rfl | rfl <;> rcases (show c = 0 ∨ c = 1 ∨ c = 2 ∨ c = 3 by omega) with rfl | rfl | rfl | rfl
  · simp only [q_T3, q_L3]; simp; exact q_bd_zero _ (by decide)
  · simp only [q_T3, q_L3]; simp only [reduceIte, Int.reduceEq]; exact q_bd_le (q_bd_mul (q_ph2 hρ hd (a := 0) ⟨by decide, by decide⟩ (by decide)).1 (q_bd_lit 1 (by decide))) (by decide)
  · simp only [q_T3, q_L3]; simp only [reduceIte, Int.reduceEq]; exact q_bd_le (q_bd_mul (q_bd_add (q_bd_neg (q_bd_mul (q_ph1 hρ hd (a := 0) ⟨by decide, by decide⟩).1 hR)) (q_bd_neg (q_bd_mul hR hR))) (q_bd_lit 1 (by decide))) (by decide)
  · simp only [q_T3, q_L3]; simp only [reduceIte, Int.reduceEq]; exact q_bd_le (q_bd_mul (q_bd_add (q_bd_mul (q_ph1 hρ hd (a := 0) ⟨by decide, by decide⟩).1 (hb 1 ⟨by decide, by decide⟩)) (q_bd_mul hR (hb 0 ⟨by decide, by decide⟩))) (q_bd_lit 1 (by decide))) (by decide)
  · simp only [q_T3, q_L3]; simp; exact q_bd_zero _ (by decide)
  · simp only [q_T3, q_L3]; simp only [reduceIte, Int.reduceEq]; exact q_bd_le (q_bd_mul (q_bd_add (q_bd_neg (q_bd_mul (q_ph1 hρ hd (a := 0) ⟨by decide, by decide⟩).1 hR)) (q_bd_neg (q_bd_mul hR hR))) (q_bd_lit 1 (by decide))) (by decide)
  · simp only [q_T3, q_L3]; simp only [reduceIte, Int.reduceEq]; exact q_bd_le (q_bd_mul (q_bd_add (q_bd_mul (q_ph1 hρ hd (a := 0) ⟨by decide, by decide⟩).1 (hD 2 ⟨by decide, by decide⟩)) (q_bd_neg (q_bd_mul hR hR))) (q_bd_lit 1 (by decide))) (by decide)
  · simp only [q_T3, q_L3]; simp only [reduceIte, Int.reduceEq]; exact q_bd_le (q_bd_mul (q_bd_add (q_bd_mul (q_ph1 hρ hd (a := 0) ⟨by decide, by decide⟩).1 (hb 2 ⟨by decide, by decide⟩)) (q_bd_mul hR (hb 0 ⟨by decide, by decide⟩))) (q_bd_lit 1 (by decide))) (by decide)
theorem q_T3_b1 {ρ : Int} {d b : Int → Int} (hρ : 1 ≤ ρ ∧ ρ ≤ 9) (hd : ∀ k, q_in 3 k → 2 * ρ ≤ d k ∧ d k ≤ 2 * ρ + 18) (hb : ∀ k, q_in 3 k → q_bd (b k) 1809) (r c : Int) (hr : q_in 3 r) (hne : r ≠ 1) (hc : 0 ≤ c ∧ c ≤ 3) : q_bd (q_T3 ρ d b 2 r c * q_L3 ρ d 1) 9223372036854775807 := by
  have hR : q_bd ρ 9 := ⟨by omega, by omega⟩
  have hD : ∀ k, q_in 3 k → q_bd (d k) 36 := fun k hk => ⟨by have := hd k hk; omega, by have := hd k hk; omega⟩
  obtain ⟨h1, h2⟩ := hr
  rcases (show r = 0 ∨ r = 2 by omega) with rfl | rfl <;> rcases (show c = 0 ∨ c = 1 ∨ c = 2 ∨ c = 3 by omega) with rfl | rfl | rfl | rfl
  · simp only [q_T3, q_L3]; simp only [reduceIte, Int.reduceEq]; exact q_bd_le (q_bd_mul (q_ph2 hρ hd (a := 0) ⟨by decide, by decide⟩ (by decide)).1 (q_ph1 hρ hd (a := 0) ⟨by decide, by decide⟩).1) (by decide)
  · simp only [q_T3, q_L3]; simp; exact q_bd_zero _ (by decide)
  · simp only [q_T3, q_L3]; simp only [reduceIte, Int.reduceEq]; exact q_bd_le (q_bd_mul (q_bd_add (q_bd_neg (q_bd_mul (q_ph1 hρ hd (a := 1) ⟨by decide, by decide⟩).1 hR)) (q_bd_neg (q_bd_mul hR hR))) (q_ph1 hρ hd (a := 0) ⟨by decide, by decide⟩).1) (by decide)
  · simp only [q_T3, q_L3]; simp only [reduceIte, Int.reduceEq]; exact q_bd_le (q_bd_mul (q_bd_add (q_bd_mul (q_ph1 hρ hd (a := 1) ⟨by decide, by decide⟩).1 (hb 0 ⟨by decide, by decide⟩)) (q_bd_mul hR (hb 1 ⟨by decide, by decide⟩))) (q_ph1 hρ hd (a := 0) ⟨by decide, by decide⟩).1) (by decide)
  · simp only [q_T3, q_L3]; simp; exact q_bd_zero _ (by decide)
  · simp only [q_T3, q_L3]; simp; exact q_bd_zero _ (by decide)
  · simp only [q_T3, q_L3]; simp only [reduceIte, Int.reduceEq]; exact q_bd_le (q_bd_mul (q_bd_add (q_bd_add (q_bd_add (q_bd_mul (hD 0 ⟨by decide, by decide⟩) (q_ph2 hρ hd (a := 1) ⟨by decide, by decide⟩ (by decide)).1) (q_bd_neg (q_bd_mul (q_bd_lit 2 (by decide)) (q_bd_pow hR 3)))) (q_bd_neg (q_bd_mul (q_bd_pow hR 2) (q_ph1 hρ hd (a := 1) ⟨by decide, by decide⟩).1))) (q_bd_neg (q_bd_mul (q_bd_pow hR 2) (q_ph1 hρ hd (a := 2) ⟨by decide, by decide⟩).1))) (q_ph1 hρ hd (a := 0) ⟨by decide, by decide⟩).1) (by decide)
  · simp only [q_T3, q_L3]; simp only [reduceIte, Int.reduceEq]; exact q_bd_le (q_bd_mul (q_bd_add (q_bd_add (q_bd_add (q_bd_add (q_bd_mul (q_ph2 hρ hd (a := 0) ⟨by decide, by decide⟩ (by decide)).1 (hb 2 ⟨by decide, by decide⟩)) (q_bd_mul (q_bd_mul hR (q_ph1 hρ hd (a := 1) ⟨by decide, by decide⟩).1) (hb 0 ⟨by decide, by decide⟩))) (q_bd_mul (q_bd_mul hR hR) (hb 1 ⟨by decide, by decide⟩))) (q_bd_mul (q_bd_mul hR hR) (hb 0 ⟨by decide, by decide⟩))) (q_bd_mul (q_bd_mul hR (q_ph1 hρ hd (a := 0) ⟨by decide, by decide⟩).1) (hb 1 ⟨by decide, by decide⟩))) (q_ph1 hρ hd (a := 0) ⟨by decide, by decide⟩).1) (by decide)
theorem q_T3_b2 {ρ : Int} {d b : Int → Int} (hρ : 1 ≤ ρ ∧ ρ ≤ 9) (hd : ∀ k, q_in 3 k → 2 * ρ ≤ d k ∧ d k ≤ 2 * ρ + 18) (hb : ∀ k, q_in 3 k → q_bd (b k) 1809) (r c : Int) (hr : q_in 3 r) (hne : r ≠ 2) (hc : 0 ≤ c ∧ c ≤ 3) : q_bd (q_T3 ρ d b 3 r c * q_L3 ρ d 2) 9223372036854775807 := by
  have hR : q_bd ρ 9 := ⟨by omega, by omega⟩
  have hD : ∀ k, q_in 3 k → q_bd (d k) 36 := fun k hk => ⟨by have := hd k hk; omega, by have := hd k hk; omega⟩
  obtain ⟨h1, h2⟩ := hr
  rcases (show r = 0 ∨ r = 1 by omega) with rfl | rfl <;> rcases (show c = 0 ∨ c = 1 ∨ c = 2 ∨ c = 3 by omega) with rfl | rfl | rfl | rfl
  · simp only [q_T3, q_L3]; simp only [reduceIte, Int.reduceEq]; exact q_bd_le (q_bd_mul (q_bd_add (q_bd_add (q_bd_add (q_bd_mul (hD 0 ⟨by decide, by decide⟩) (q_ph2 hρ hd (a := 1) ⟨by decide, by decide⟩ (by decide)).1) (q_bd_neg (q_bd_mul (q_bd_lit 2 (by decide)) (q_bd_pow hR 3)))) (q_bd_neg (q_bd_mul (q_bd_pow hR 2) (q_ph1 hρ hd (a := 1) ⟨by decide, by decide⟩).1))) (q_bd_neg (q_bd_mul (q_bd_pow hR 2) (q_ph1 hρ hd (a := 2) ⟨by decide, by decide⟩).1))) (q_ph2 hρ hd (a := 0) ⟨by decide, by decide⟩ (by decide)).1) (by decide)
  · simp only [q_T3, q_L3]; simp; exact q_bd_zero _ (by decide)
  · simp only [q_T3, q_L3]; simp; exact q_bd_zero _ (by decide)
  · simp only [q_T3, q_L3]; simp only [reduceIte, Int.reduceEq]; exact q_bd_le (q_bd_mul (q_bd_add (q_bd_add (q_bd_mul (hb 0 ⟨by decide, by decide⟩) (q_ph2 hρ hd (a := 1) ⟨by decide, by decide⟩ (by decide)).1) (q_bd_mul (hb 1 ⟨by decide, by decide⟩) (q_bd_add (q_bd_mul hR (q_ph1 hρ hd (a := 2) ⟨by decide, by decide⟩).1) (q_bd_pow hR 2)))) (q_bd_mul (hb 2 ⟨by decide, by decide⟩) (q_bd_add (q_bd_pow hR 2) (q_bd_mul hR (q_ph1 hρ hd (a := 1) ⟨by decide, by decide⟩).1)))) (q_ph2 hρ hd (a := 0) ⟨by decide, by decide⟩ (by decide)).1) (by decide)
  · simp only [q_T3, q_L3]; simp; exact q_bd_zero _ (by decide)
  · simp only [q_T3, q_L3]; simp only [reduceIte, Int.reduceEq]; exact q_bd_le (q_bd_mul (q_bd_add (q_bd_add (q_bd_add (q_bd_mul (hD 0 ⟨by decide, by decide⟩) (q_ph2 hρ hd (a := 1) ⟨by decide, by decide⟩ (by decide)).1) (q_bd_neg (q_bd_mul (q_bd_lit 2 (by decide)) (q_bd_pow hR 3)))) (q_bd_neg (q_bd_mul (q_bd_pow hR 2) (q_ph1 hρ hd (a := 1) ⟨by decide, by decide⟩).1))) (q_bd_neg (q_bd_mul (q_bd_pow hR 2) (q_ph1 hρ hd (a := 2) ⟨by decide, by decide⟩).1))) (q_ph2 hρ hd (a := 0) ⟨by decide, by decide⟩ (by decide)).1) (by decide)
  · simp only [q_T3, q_L3]; simp; exact q_bd_zero _ (by decide)
  · simp only [q_T3, q_L3]; simp only [reduceIte, Int.reduceEq]; exact q_bd_le (q_bd_mul (q_bd_add (q_bd_add (q_bd_mul (hb 1 ⟨by decide, by decide⟩) (q_ph2 hρ hd (a := 2) ⟨by decide, by decide⟩ (by decide)).1) (q_bd_mul (hb 2 ⟨by decide, by decide⟩) (q_bd_add (q_bd_mul hR (q_ph1 hρ hd (a := 0) ⟨by decide, by decide⟩).1) (q_bd_pow hR 2)))) (q_bd_mul (hb 0 ⟨by decide, by decide⟩) (q_bd_add (q_bd_pow hR 2) (q_bd_mul hR (q_ph1 hρ hd (a := 2) ⟨by decide, by decide⟩).1)))) (q_ph2 hρ hd (a := 0) ⟨by decide, by decide⟩ (by decide)).1) (by decide)
theorem q_T4_b0 {ρ : Int} {d b : Int → Int} (hρ : 1 ≤ ρ ∧ ρ ≤ 9) (hd : ∀ k, q_in 4 k → 2 * ρ ≤ d k ∧ d k ≤ 2 * ρ + 18) (hb : ∀ k, q_in 4 k → q_bd (b k) 1809) (r c : Int) (hr : q_in 4 r) (hne : r ≠ 0) (hc : 0 ≤ c ∧ c ≤ 4) : q_bd (q_T4 ρ d b 1 r c * q_L4 ρ d 0) 9223372036854775807 := by
  have hR : q_bd ρ 9 := ⟨by omega, by omega⟩
  have hD : ∀ k, q_in 4 k → q_bd (d k) 36 := fun k hk => ⟨by have := hd k hk; omega, by have := hd k hk; omega⟩
  obtain ⟨h1, h2⟩ := hr
  rcases (show r = 1 ∨ r = 2 ∨ r = 3 by omega) with rfl | rfl | rfl <;> rcases (show c = 0 ∨ c = 1 ∨ c = 2 ∨ c = 3 ∨ c = 4 by omega) with rfl | rfl | rfl | rfl | rfl
  · simp only [q_T4, q_L4]; simp; exact q_bd_zero _ (by decide)
  · simp only [q_T4, q_L4]; simp only [reduceIte, Int.reduceEq]; exact q_bd_le (q_bd_mul (q_ph2 hρ hd (a := 0) ⟨by decide, by decide⟩ (by decide)).1 (q_bd_lit 1 (by decide))) (by decide)
  · simp only [q_T4, q_L4]; simp only [reduceIte, Int.reduceEq]; exact q_bd_le (q_bd_mul (q_bd_neg (q_bd_mul (q_ph1 hρ hd (a := 0) ⟨by decide, by decide⟩).1 hR)) (q_bd_lit 1 (by decide))) (by decide)
  · simp only [q_T4, q_L4]; simp only [reduceIte, Int.reduceEq]; exact q_bd_le (q_bd_mul (q_bd_neg (q_bd_mul hR hR)) (q_bd_lit 1 (by decide))) (by decide)
  · simp only [q_T4, q_L4]; simp only [reduceIte, Int.reduceEq]; exact q_bd_le (q_bd_mul (q_bd_add (q_bd_mul (q_ph1 hρ hd (a := 0) ⟨by decide, by decide⟩).1 (hb 1 ⟨by decide, by decide⟩)) (q_bd_mul hR (hb 0 ⟨by decide, by decide⟩))) (q_bd_lit 1 (by decide))) (by decide)
  · simp only [q_T4, q_L4]; simp; exact q_bd_zero _ (by decide)
  · simp only [q_T4, q_L4]; simp only [reduceIte, Int.reduceEq]; exact q_bd_le (q_bd_mul (q_bd_neg (q_bd_mul (q_ph1 hρ hd (a := 0) ⟨by decide, by decide⟩).1 hR)) (q_bd_lit 1 (by decide))) (by decide)
  · simp only [q_T4, q_L4]; simp only [reduceIte, Int.reduceEq]; exact q_bd_le (q_bd_mul (q_bd_mul (q_ph1 hρ hd (a := 0) ⟨by decide, by decide⟩).1 (hD 2 ⟨by decide, by decide⟩)) (q_bd_lit 1 (by decide))) (by decide)
  · simp only [q_T4, q_L4]; simp only [reduceIte, Int.reduceEq]; exact q_bd_le (q_bd_mul (q_bd_neg (q_bd_mul (q_ph1 hρ hd (a := 0) ⟨by decide, by decide⟩).1 hR)) (q_bd_lit 1 (by decide))) (by decide)
  · simp only [q_T4, q_L4]; simp only [reduceIte, Int.reduceEq]; exact q_bd_le (q_bd_mul (q_bd_mul (q_ph1 hρ hd (a := 0) ⟨by decide, by decide⟩).1 (hb 2 ⟨by decide, by decide⟩)) (q_bd_lit 1 (by decide))) (by decide)
  · simp only [q_T4, q_L4]; simp; exact q_bd_zero _ (by decide)
  · simp only [q_T4, q_L4]; simp only [reduceIte, Int.reduceEq]; exact q_bd_le (q_bd_mul (q_bd_neg (q_bd_mul hR hR)) (q_bd_lit 1 (by decide))) (by decide)
  · simp only [q_T4, q_L4]; simp only [reduceIte, Int.reduceEq]; exact q_bd_le (q_bd_mul (q_bd_neg (q_bd_mul (q_ph1 hρ hd (a := 0) ⟨by decide, by decide⟩).1 hR)) (q_bd_lit 1 (by decide))) (by decide)
  · simp only [q_T4, q_L4]; simp only [reduceIte, Int.reduceEq]; exact q_bd_le (q_bd_mul (q_bd_add (q_bd_mul (q_ph1 hρ hd (a := 0) ⟨by decide, by decide⟩).1 (hD 3 ⟨by decide, by decide⟩)) (q_bd_neg (q_bd_mul hR hR))) (q_bd_lit 1 (by decide))) (by decide)
  · simp only [q_T4, q_L4]; simp only [reduceIte, Int.reduceEq]; exact q_bd_le (q_bd_mul (q_bd_add (q_bd_mul (q_ph1 hρ hd (a := 0) ⟨by decide, by decide⟩).1 (hb 3 ⟨by decide, by decide⟩)) (q_bd_mul hR (hb 0 ⟨by decide, by decide⟩))) (q_bd_lit 1 (by decide))) (by decide)
theorem q_T4_b1 {ρ : Int} {d b : Int → Int} (hρ : 1 ≤ ρ ∧ ρ ≤ 9) (hd : ∀ k, q_in 4 k → 2 * ρ ≤ d k ∧ d k ≤ 2 * ρ + 18) (hb : ∀ k, q_in 4 k → q_bd (b k) 1809) (r c : Int) (hr : q_in 4 r) (hne : r ≠ 1) (hc : 0 ≤ c ∧ c ≤ 4) : q_bd (q_T4 ρ d b 2 r c * q_L4 ρ d 1) 9223372036854775807 := by
  have hR : q_bd ρ 9 := ⟨by omega, by omega⟩
  have hD : ∀ k, q_in 4 k → q_bd (d k) 36 := fun k hk => ⟨by have := hd k hk; omega, by have := hd k hk; omega⟩
  obtain ⟨h1, h2⟩ := hr
  rcases (show r = 0 ∨ r = 2 ∨ r = 3 by omega) with rfl | rfl | rfl <;> rcases (show c = 0 ∨ c = 1 ∨ c = 2 ∨ c = 3 ∨ c = 4 by omega) with rfl | rfl | rfl | rfl | rfl
  · simp only [q_T4, q_L4]; simp only [reduceIte, Int.reduceEq]; exact q_bd_le (q_bd_mul (q_ph2 hρ hd (a := 0) ⟨by decide, by decide⟩ (by decide)).1 (q_ph1 hρ hd (a := 0) ⟨by decide, by decide⟩).1) (by decide)
  · simp only [q_T4, q_L4]; simp; exact q_bd_zero _ (by decide)
  · simp only [q_T4, q_L4]; simp only [reduceIte, Int.reduceEq]; exact q_bd_le (q_bd_mul (q_bd_neg (q_bd_mul hR hR)) (q_ph1 hρ hd (a := 0) ⟨by decide, by decide⟩).1) (by decide)
  · simp only [q_T4, q_L4]; simp only [reduceIte, Int.reduceEq]; exact q_bd_le (q_bd_mul (q_bd_neg (q_bd_mul (q_ph1 hρ hd (a := 1) ⟨by decide, by decide⟩).1 hR)) (q_ph1 hρ hd (a := 0) ⟨by decide, by decide⟩).1) (by decide)
  · simp only [q_T4, q_L4]; simp only [reduceIte, Int.reduceEq]; exact q_bd_le (q_bd_mul (q_bd_add (q_bd_mul (q_ph1 hρ hd (a := 1) ⟨by decide, by decide⟩).1 (hb 0 ⟨by decide, by decide⟩)) (q_bd_mul hR (hb 1 ⟨by decide, by decide⟩))) (q_ph1 hρ hd (a := 0) ⟨by decide, by decide⟩).1) (by decide)
  · simp only [q_T4, q_L4]; simp; exact q_bd_zero _ (by decide)
  · simp only [q_T4, q_L4]; simp; exact q_bd_zero _ (by decide)
  · simp only [q_T4, q_L4]; simp only [reduceIte, Int.reduceEq]; exact q_bd_le (q_bd_mul (q_ph3 hρ hd (a := 0) ⟨by decide, by decide⟩ (by decide)).1 (q_ph1 hρ hd (a := 0) ⟨by decide, by decide⟩).1) (by decide)
  · simp only [q_T4, q_L4]; simp only [reduceIte, Int.reduceEq]; exact q_bd_le (q_bd_mul (q_bd_add (q_bd_neg (q_bd_mul (q_ph2 hρ hd (a := 0) ⟨by decide, by decide⟩ (by decide)).1 hR)) (q_bd_neg (q_bd_mul (q_bd_mul hR hR) hR))) (q_ph1 hρ hd (a := 0) ⟨by decide, by decide⟩).1) (by decide)
  · simp only [q_T4, q_L4]; simp only [reduceIte, Int.reduceEq]; exact q_bd_le (q_bd_mul (q_bd_add (q_bd_add (q_bd_mul (q_ph2 hρ hd (a := 0) ⟨by decide, by decide⟩ (by decide)).1 (hb 2 ⟨by decide, by decide⟩)) (q_bd_mul (q_bd_mul hR hR) (hb 0 ⟨by decide, by decide⟩))) (q_bd_mul (q_bd_mul hR (q_ph1 hρ hd (a := 0) ⟨by decide, by decide⟩).1) (hb 1 ⟨by decide, by decide⟩))) (q_ph1 hρ hd (a := 0) ⟨by decide, by decide⟩).1) (by decide)
  · simp only [q_T4, q_L4]; simp; exact q_bd_zero _ (by decide)
  · simp only [q_T4, q_L4]; simp; exact q_bd_zero _ (by decide)
  · simp only [q_T4, q_L4]; simp only [reduceIte, Int.reduceEq]; exact q_bd_le (q_bd_mul (q_bd_add (q_bd_neg (q_bd_mul (q_ph2 hρ hd (a := 0) ⟨by decide, by decide⟩ (by decide)).1 hR)) (q_bd_neg (q_bd_mul (q_bd_mul hR hR) hR))) (q_ph1 hρ hd (a := 0) ⟨by decide, by decide⟩).1) (by decide)
  · simp only [q_T4, q_L4]; simp only [reduceIte, Int.reduceEq]; exact q_bd_le (q_bd_mul (q_bd_add (q_bd_mul (q_ph2 hρ hd (a := 0) ⟨by decide, by decide⟩ (by decide)).1 (hD 3 ⟨by decide, by decide⟩)) (q_bd_neg (q_bd_mul (q_bd_mul hR (q_ph1 hρ hd (a := 1) ⟨by decide, by decide⟩).1) hR))) (q_ph1 hρ hd (a := 0) ⟨by decide, by decide⟩).1) (by decide)
  · simp only [q_T4, q_L4]; simp only [reduceIte, Int.reduceEq]; exact q_bd_le (q_bd_mul (q_bd_add (q_bd_add (q_bd_mul (q_ph2 hρ hd (a := 0) ⟨by decide, by decide⟩ (by decide)).1 (hb 3 ⟨by decide, by decide⟩)) (q_bd_mul (q_bd_mul hR (q_ph1 hρ hd (a := 1) ⟨by decide, by decide⟩).1) (hb 0 ⟨by decide, by decide⟩))) (q_bd_mul (q_bd_mul hR hR) (hb 1 ⟨by decide, by decide⟩))) (q_ph1 hρ hd (a := 0) ⟨by decide, by decide⟩).1) (by decide)
theorem q_T4_b2 {ρ : Int} {d b : Int → Int} (hρ : 1 ≤ ρ ∧ ρ ≤ 9) (hd : ∀ k, q_in 4 k → 2 * ρ ≤ d k ∧ d k ≤ 2 * ρ + 18) (hb : ∀ k, q_in 4 k → q_bd (b k) 1809) (r c : Int) (hr : q_in 4 r) (hne : r ≠ 2) (hc : 0 ≤ c ∧ c ≤ 4) : q_bd (q_T4 ρ d b 3 r c * q_L4 ρ d 2) 9223372036854775807 := by
  have hR : q_bd ρ 9 := ⟨by omega, by omega⟩
  have hD : ∀ k, q_in 4 k → q_bd (d k) 36 := fun k hk => ⟨by have := hd k hk; omega, by have := hd k hk; omega⟩
  obtain ⟨h1, h2⟩ := hr
  rcases (show r = 0 ∨ r = 1 ∨ r = 3 by omega) with rfl | rfl | rfl <;> rcases (show c = 0 ∨ c = 1 ∨ c = 2 ∨ c = 3 ∨ c = 4 by omega) with rfl | rfl | rfl | rfl | rfl
  · simp only [q_T4, q_L4]; simp only [reduceIte, Int.reduceEq]; exact q_bd_le (q_bd_mul (q_ph3 hρ hd (a := 0) ⟨by decide, by decide⟩ (by decide)).1 (q_ph2 hρ hd (a := 0) ⟨by decide, by decide⟩ (by decide)).1) (by decide)
  · simp only [q_T4, q_L4]; simp; exact q_bd_zero _ (by decide)
  · simp only [q_T4, q_L4]; simp; exact q_bd_zero _ (by decide)
  · simp only [q_T4, q_L4]; simp only [reduceIte, Int.reduceEq]; exact q_bd_le (q_bd_mul (q_bd_add (q_bd_neg (q_bd_mul (q_ph2 hρ hd (a := 1) ⟨by decide, by decide⟩ (by decide)).1 hR)) (q_bd_neg (q_bd_mul (q_bd_pow hR 2) hR))) (q_ph2 hρ hd (a := 0) ⟨by decide, by decide⟩ (by decide)).1) (by decide)
  · simp only [q_T4, q_L4]; simp only [reduceIte, Int.reduceEq]; exact q_bd_le (q_bd_mul (q_bd_add (q_bd_add (q_bd_mul (q_ph2 hρ hd (a := 1) ⟨by decide, by decide⟩ (by decide)).1 (hb 0 ⟨by decide, by decide⟩)) (q_bd_mul (q_bd_mul hR (q_ph1 hρ hd (a := 2) ⟨by decide, by decide⟩).1) (hb 1 ⟨by decide, by decide⟩))) (q_bd_mul (q_bd_pow hR 2) (hb 2 ⟨by decide, by decide⟩))) (q_ph2 hρ hd (a := 0) ⟨by decide, by decide⟩ (by decide)).1) (by decide)
  · simp only [q_T4, q_L4]; simp; exact q_bd_zero _ (by decide)
  · simp only [q_T4, q_L4]; simp only [reduceIte, Int.reduceEq]; exact q_bd_le (q_bd_mul (q_ph3 hρ hd (a := 0) ⟨by decide, by decide⟩ (by decide)).1 (q_ph2 hρ hd (a := 0) ⟨by decide, by decide⟩ (by decide)).1) (by decide)
  · simp only [q_T4, q_L4]; simp; exact q_bd_zero _ (by decide)
  · simp only [q_T4, q_L4]; simp only [reduceIte, Int.reduceEq]; exact q_bd_le (q_bd_mul (q_bd_add (q_bd_neg (q_bd_mul (q_bd_mul hR (q_ph1 hρ hd (a := 2) ⟨by decide, by decide⟩).1) hR)) (q_bd_neg (q_bd_mul (q_bd_mul hR (q_ph1 hρ hd (a := 0) ⟨by decide, by decide⟩).1) hR))) (q_ph2 hρ hd (a := 0) ⟨by decide, by decide⟩ (by decide)).1) (by decide)
  · simp only [q_T4, q_L4]; simp only [reduceIte, Int.reduceEq]; exact q_bd_le (q_bd_mul (q_bd_add (q_bd_add (q_bd_mul (q_bd_mul hR (q_ph1 hρ hd (a := 2) ⟨by decide, by decide⟩).1) (hb 0 ⟨by decide, by decide⟩)) (q_bd_mul (q_bd_mul (q_ph1 hρ hd (a := 0) ⟨by decide, by decide⟩).1 (q_ph1 hρ hd (a := 2) ⟨by decide, by decide⟩).1) (hb 1 ⟨by decide, by decide⟩))) (q_bd_mul (q_bd_mul hR (q_ph1 hρ hd (a := 0) ⟨by decide, by decide⟩).1) (hb 2 ⟨by decide, by decide⟩))) (q_ph2 hρ hd (a := 0) ⟨by decide, by decide⟩ (by decide)).1) (by decide)
  · simp only [q_T4, q_L4]; simp; exact q_bd_zero _ (by decide)
  · simp only [q_T4, q_L4]; simp; exact q_bd_zero _ (by decide)
  · simp only [q_T4, q_L4]; simp; exact q_bd_zero _ (by decide)
  · simp only [q_T4, q_L4]; simp only [reduceIte, Int.reduceEq]; exact q_bd_le (q_bd_mul (q_bd_add (q_bd_add (q_bd_add (q_bd_mul (hD 0 ⟨by decide, by decide⟩) (q_ph3 hρ hd (a := 1) ⟨by decide, by decide⟩ (by decide)).1) (q_bd_neg (q_bd_mul (q_bd_lit 2 (by decide)) (q_bd_pow hR 4)))) (q_bd_neg (q_bd_mul (q_bd_pow hR 2) (q_ph2 hρ hd (a := 1) ⟨by decide, by decide⟩ (by decide)).1))) (q_bd_neg (q_bd_mul (q_bd_pow hR 2) (q_ph2 hρ hd (a := 2) ⟨by decide, by decide⟩ (by decide)).1))) (q_ph2 hρ hd (a := 0) ⟨by decide, by decide⟩ (by decide)).1) (by decide)
  · simp only [q_T4, q_L4]; simp only [reduceIte, Int.reduceEq]; exact q_bd_le (q_bd_mul (q_bd_add (q_bd_add (q_bd_add (q_bd_add (q_bd_add (q_bd_add (q_bd_mul (q_ph3 hρ hd (a := 0) ⟨by decide, by decide⟩ (by decide)).1 (hb 3 ⟨by decide, by decide⟩)) (q_bd_mul (q_bd_mul hR (q_ph2 hρ hd (a := 1) ⟨by decide, by decide⟩ (by decide)).1) (hb 0 ⟨by decide, by decide⟩))) (q_bd_mul (q_bd_mul hR (q_bd_mul hR (q_ph1 hρ hd (a := 2) ⟨by decide, by decide⟩).1)) (hb 1 ⟨by decide, by decide⟩))) (q_bd_mul (q_bd_mul hR (q_bd_pow hR 2)) (hb 2 ⟨by decide, by decide⟩))) (q_bd_mul (q_bd_mul hR (q_bd_pow hR 2)) (hb 0 ⟨by decide, by decide⟩))) (q_bd_mul (q_bd_mul hR (q_bd_mul hR (q_ph1 hρ hd (a := 0) ⟨by decide, by decide⟩).1)) (hb 1 ⟨by decide, by decide⟩))) (q_bd_mul (q_bd_mul hR (q_ph2 hρ hd (a := 0) ⟨by decide, by decide⟩ (by decide)).1) (hb 2 ⟨by decide, by decide⟩))) (q_ph2 hρ hd (a := 0) ⟨by decide, by decide⟩ (by decide)).1) (by decide)
theorem q_T4_b3 {ρ : Int} {d b : Int → Int} (hρ : 1 ≤ ρ ∧ ρ ≤ 9) (hd : ∀ k, q_in 4 k → 2 * ρ ≤ d k ∧ d k ≤ 2 * ρ + 18) (hb : ∀ k, q_in 4 k → q_bd (b k) 1809) (r c : Int) (hr : q_in 4 r) (hne : r ≠ 3) (hc : 0 ≤ c ∧ c ≤ 4) : q_bd (q_T4 ρ d b 4 r c * q_L4 ρ d 3) 9223372036854775807 := by
  have hR : q_bd ρ 9 := ⟨by omega, by omega⟩
  have hD : ∀ k, q_in 4 k → q_bd (d k) 36 := fun k hk => ⟨by have := hd k hk; omega, by have := hd k hk; omega⟩
  obtain ⟨h1, h2⟩ := hr
  rcases (show r = 0 ∨ r = 1 ∨ r = 2 by omega) with rfl | rfl | rfl <;> rcases (show c = 0 ∨ c = 1 ∨ c = 2 ∨ c = 3 ∨ c = 4 by omega) with rfl | rfl | rfl | rfl | rfl
  · simp only [q_T4, q_L4]; simp only [reduceIte, Int.reduceEq]; exact q_bd_le (q_bd_mul (q_bd_add (q_bd_add (q_bd_add (q_bd_mul (hD 0 ⟨by decide, by decide⟩) (q_ph3 hρ hd (a := 1) ⟨by decide, by decide⟩ (by decide)).1) (q_bd_neg (q_bd_mul (q_bd_lit 2 (by decide)) (q_bd_pow hR 4)))) (q_bd_neg (q_bd_mul (q_bd_pow hR 2) (q_ph2 hρ hd (a := 1) ⟨by decide, by decide⟩ (by decide)).1))) (q_bd_neg (q_bd_mul (q_bd_pow hR 2) (q_ph2 hρ hd (a := 2) ⟨by decide, by decide⟩ (by decide)).1))) (q_ph3 hρ hd (a := 0) ⟨by decide, by decide⟩ (by decide)).1) (by decide)
  · simp only [q_T4, q_L4]; simp; exact q_bd_zero _ (by decide)
  · simp only [q_T4, q_L4]; simp; exact q_bd_zero _ (by decide)
  · simp only [q_T4, q_L4]; simp; exact q_bd_zero _ (by decide)
  · simp only [q_T4, q_L4]; simp only [reduceIte, Int.reduceEq]; exact q_bd_le (q_bd_mul (q_bd_add (q_bd_add (q_bd_add (q_bd_mul (hb 0 ⟨by decide, by decide⟩) (q_ph3 hρ hd (a := 1) ⟨by decide, by decide⟩ (by decide)).1) (q_bd_mul (hb 1 ⟨by decide, by decide⟩) (q_bd_add (q_bd_mul hR (q_ph2 hρ hd (a := 2) ⟨by decide, by decide⟩ (by decide)).1) (q_bd_pow hR 3)))) (q_bd_mul (hb 2 ⟨by decide, by decide⟩) (q_bd_add (q_bd_mul (q_bd_pow hR 2) (q_ph1 hρ hd (a := 3) ⟨by decide, by decide⟩).1) (q_bd_mul (q_bd_pow hR 2) (q_ph1 hρ hd (a := 1) ⟨by decide, by decide⟩).1)))) (q_bd_mul (hb 3 ⟨by decide, by decide⟩) (q_bd_add (q_bd_pow hR 3) (q_bd_mul hR (q_ph2 hρ hd (a := 1) ⟨by decide, by decide⟩ (by decide)).1)))) (q_ph3 hρ hd (a := 0) ⟨by decide, by decide⟩ (by decide)).1) (by decide)
  · simp only [q_T4, q_L4]; simp; exact q_bd_zero _ (by decide)
  · simp only [q_T4, q_L4]; simp only [reduceIte, Int.reduceEq]; exact q_bd_le (q_bd_mul (q_bd_add (q_bd_add (q_bd_add (q_bd_mul (hD 0 ⟨by decide, by decide⟩) (q_ph3 hρ hd (a := 1) ⟨by decide, by decide⟩ (by decide)).1) (q_bd_neg (q_bd_mul (q_bd_lit 2 (by decide)) (q_bd_pow hR 4)))) (q_bd_neg (q_bd_mul (q_bd_pow hR 2) (q_ph2 hρ hd (a := 1) ⟨by decide, by decide⟩ (by decide)).1))) (q_bd_neg (q_bd_mul (q_bd_pow hR 2) (q_ph2 hρ hd (a := 2) ⟨by decide, by decide⟩ (by decide)).1))) (q_ph3 hρ hd (a := 0) ⟨by decide, by decide⟩ (by decide)).1) (by decide)
  · simp only [q_T4, q_L4]; simp; exact q_bd_zero _ (by decide)
  · simp only [q_T4, q_L4]; simp; exact q_bd_zero _ (by decide)
  · simp only [q_T4, q_L4]; simp only [reduceIte, Int.reduceEq]; exact q_bd_le (q_bd_mul (q_bd_add (q_bd_add (q_bd_add (q_bd_mul (hb 1 ⟨by decide, by decide⟩) (q_ph3 hρ hd (a := 2) ⟨by decide, by decide⟩ (by decide)).1) (q_bd_mul (hb 2 ⟨by decide, by decide⟩) (q_bd_add (q_bd_mul hR (q_ph2 hρ hd (a := 3) ⟨by decide, by decide⟩ (by decide)).1) (q_bd_pow hR 3)))) (q_bd_mul (hb 3 ⟨by decide, by decide⟩) (q_bd_add (q_bd_mul (q_bd_pow hR 2) (q_ph1 hρ hd (a := 0) ⟨by decide, by decide⟩).1) (q_bd_mul (q_bd_pow hR 2) (q_ph1 hρ hd (a := 2) ⟨by decide, by decide⟩).1)))) (q_bd_mul (hb 0 ⟨by decide, by decide⟩) (q_bd_add (q_bd_pow hR 3) (q_bd_mul hR (q_ph2 hρ hd (a := 2) ⟨by decide, by decide⟩ (by decide)).1)))) (q_ph3 hρ hd (a := 0) ⟨by decide, by decide⟩ (by decide)).1) (by decide)
  · simp only [q_T4, q_L4]; simp; exact q_bd_zero _ (by decide)
  · simp only [q_T4, q_L4]; simp; exact q_bd_zero _ (by decide)
  · simp only [q_T4, q_L4]; simp only [reduceIte, Int.reduceEq]; exact q_bd_le (q_bd_mul (q_bd_add (q_bd_add (q_bd_add (q_bd_mul (hD 0 ⟨by decide, by decide⟩) (q_ph3 hρ hd (a := 1) ⟨by decide, by decide⟩ (by decide)).1) (q_bd_neg (q_bd_mul (q_bd_lit 2 (by decide)) (q_bd_pow hR 4)))) (q_bd_neg (q_bd_mul (q_bd_pow hR 2) (q_ph2 hρ hd (a := 1) ⟨by decide, by decide⟩ (by decide)).1))) (q_bd_neg (q_bd_mul (q_bd_pow hR 2) (q_ph2 hρ hd (a := 2) ⟨by decide, by decide⟩ (by decide)).1))) (q_ph3 hρ hd (a := 0) ⟨by decide, by decide⟩ (by decide)).1) (by decide)
  · simp only [q_T4, q_L4]; simp; exact q_bd_zero _ (by decide)
  · simp only [q_T4, q_L4]; simp only [reduceIte, Int.reduceEq]; exact q_bd_le (q_bd_mul (q_bd_add (q_bd_add (q_bd_add (q_bd_mul (hb 2 ⟨by decide, by decide⟩) (q_ph3 hρ hd (a := 3) ⟨by decide, by decide⟩ (by decide)).1) (q_bd_mul (hb 3 ⟨by decide, by decide⟩) (q_bd_add (q_bd_mul hR (q_ph2 hρ hd (a := 0) ⟨by decide, by decide⟩ (by decide)).1) (q_bd_pow hR 3)))) (q_bd_mul (hb 0 ⟨by decide, by decide⟩) (q_bd_add (q_bd_mul (q_bd_pow hR 2) (q_ph1 hρ hd (a := 1) ⟨by decide, by decide⟩).1) (q_bd_mul (q_bd_pow hR 2) (q_ph1 hρ hd (a := 3) ⟨by decide, by decide⟩).1)))) (q_bd_mul (hb 1 ⟨by decide, by decide⟩) (q_bd_add (q_bd_pow hR 3) (q_bd_mul hR (q_ph2 hρ hd (a := 3) ⟨by decide, by decide⟩ (by decide)).1)))) (q_ph3 hρ hd (a := 0) ⟨by decide, by decide⟩ (by decide)).1) (by decide)
theorem q_T5_b0 {ρ : Int} {d b : Int → Int} (hρ : 1 ≤ ρ ∧ ρ ≤ 9) (hd : ∀ k, q_in 5 k → 2 * ρ ≤ d k ∧ d k ≤ 2 * ρ + 18) (hb : ∀ k, q_in 5 k → q_bd (b k) 1809) (r c : Int) (hr : q_in 5 r) (hne : r ≠ 0) (hc : 0 ≤ c ∧ c ≤ 5) : q_bd (q_T5 ρ d b 1 r c * q_L5 ρ d 0) 9223372036854775807 := by
  have hR : q_bd ρ 9 := ⟨by omega, by omega⟩
  have hD : ∀ k, q_in 5 k → q_bd (d k) 36 := fun k hk => ⟨by have := hd k hk; omega, by have := hd k hk; omega⟩
  obtain ⟨h1, h2⟩ := hr
  rcases (show r = 1 ∨ r = 2 ∨ r = 3 ∨ r = 4 by omega) with rfl | rfl | rfl | rfl <;> rcases (show c = 0 ∨ c = 1 ∨ c = 2 ∨ c = 3 ∨ c = 4 ∨ c = 5 by omega) with rfl | rfl | rfl | rfl | rfl | rfl
  · simp only [q_T5, q_L5]; simp; exact q_bd_zero _ (by decide)
  · simp only [q_T5, q_L5]; simp only [reduceIte, Int.reduceEq]; exact q_bd_le (q_bd_mul (q_ph2 hρ hd (a := 0) ⟨by decide, by decide⟩ (by decide)).1 (q_bd_lit 1 (by decide))) (by decide)
  · simp only [q_T5, q_L5]; simp only [reduceIte, Int.reduceEq]; exact q_bd_le (q_bd_mul (q_bd_neg (q_bd_mul (q_ph1 hρ hd (a := 0) ⟨by decide, by decide⟩).1 hR)) (q_bd_lit 1 (by decide))) (by decide)
  · simp only [q_T5, q_L5]; simp; exact q_bd_zero _ (by decide)
  · simp only [q_T5, q_L5]; simp only [reduceIte, Int.reduceEq]; exact q_bd_le (q_bd_mul (q_bd_neg (q_bd_mul hR hR)) (q_bd_lit 1 (by decide))) (by decide)
  · simp only [q_T5, q_L5]; simp only [reduceIte, Int.reduceEq]; exact q_bd_le (q_bd_mul (q_bd_add (q_bd_mul (q_ph1 hρ hd (a := 0) ⟨by decide, by decide⟩).1 (hb 1 ⟨by decide, by decide⟩)) (q_bd_mul hR (hb 0 ⟨by decide, by decide⟩))) (q_bd_lit 1 (by decide))) (by decide)
  · simp only [q_T5, q_L5]; simp; exact q_bd_zero _ (by decide)
  · simp only [q_T5, q_L5]; simp only [reduceIte, Int.reduceEq]; exact q_bd_le (q_bd_mul (q_bd_neg (q_bd_mul (q_ph1 hρ hd (a := 0) ⟨by decide, by decide⟩).1 hR)) (q_bd_lit 1 (by decide))) (by decide)
  · simp only [q_T5, q_L5]; simp only [reduceIte, Int.reduceEq]; exact q_bd_le (q_bd_mul (q_bd_mul (q_ph1 hρ hd (a := 0) ⟨by decide, by decide⟩).1 (hD 2 ⟨by decide, by decide⟩)) (q_bd_lit 1 (by decide))) (by decide)
  · simp only [q_T5, q_L5]; simp only [reduceIte, Int.reduceEq]; exact q_bd_le (q_bd_mul (q_bd_neg (q_bd_mul (q_ph1 hρ hd (a := 0) ⟨by decide, by decide⟩).1 hR)) (q_bd_lit 1 (by decide))) (by decide)
  · simp only [q_T5, q_L5]; simp; exact q_bd_zero _ (by decide)
  · simp only [q_T5, q_L5]; simp only [reduceIte, Int.reduceEq]; exact q_bd_le (q_bd_mul (q_bd_mul (q_ph1 hρ hd (a := 0) ⟨by decide, by decide⟩).1 (hb 2 ⟨by decide, by decide⟩)) (q_bd_lit 1 (by decide))) (by decide)
  · simp only [q_T5, q_L5]; simp; exact q_bd_zero _ (by decide)
  · simp only [q_T5, q_L5]; simp; exact q_bd_zero _ (by decide)
  · simp only [q_T5, q_L5]; simp only [reduceIte, Int.reduceEq]; exact q_bd_le (q_bd_mul (q_bd_neg (q_bd_mul (q_ph1 hρ hd (a := 0) ⟨by decide, by decide⟩).1 hR)) (q_bd_lit 1 (by decide))) (by decide)
  · simp only [q_T5, q_L5]; simp only [reduceIte, Int.reduceEq]; exact q_bd_le (q_bd_mul (q_bd_mul (q_ph1 hρ hd (a := 0) ⟨by decide, by decide⟩).1 (hD 3 ⟨by decide, by decide⟩)) (q_bd_lit 1 (by decide))) (by decide)
  · simp only [q_T5, q_L5]; simp only [reduceIte, Int.reduceEq]; exact q_bd_le (q_bd_mul (q_bd_neg (q_bd_mul (q_ph1 hρ hd (a := 0) ⟨by decide, by decide⟩).1 hR)) (q_bd_lit 1 (by decide))) (by decide)
  · simp only [q_T5, q_L5]; simp only [reduceIte, Int.reduceEq]; exact q_bd_le (q_bd_mul (q_bd_mul (q_ph1 hρ hd (a := 0) ⟨by decide, by decide⟩).1 (hb 3 ⟨by decide, by decide⟩)) (q_bd_lit 1 (by decide))) (by decide)
  · simp only [q_T5, q_L5]; simp; exact q_bd_zero _ (by decide)
  · simp only [q_T5, q_L5]; simp only [reduceIte, Int.reduceEq]; exact q_bd_le (q_bd_mul (q_bd_neg (q_bd_mul hR hR)) (q_bd_lit 1 (by decide))) (by decide)
  · simp only [q_T5, q_L5]; simp; exact q_bd_zero _ (by decide)
  · simp only [q_T5, q_L5]; simp only [reduceIte, Int.reduceEq]; exact q_bd_le (q_bd_mul (q_bd_neg (q_bd_mul (q_ph1 hρ hd (a := 0) ⟨by decide, by decide⟩).1 hR)) (q_bd_lit 1 (by decide))) (by decide)
  · simp only [q_T5, q_L5]; simp only [reduceIte, Int.reduceEq]; exact q_bd_le (q_bd_mul (q_bd_add (q_bd_mul (q_ph1 hρ hd (a := 0) ⟨by decide, by decide⟩).1 (hD 4 ⟨by decide, by decide⟩)) (q_bd_neg (q_bd_mul hR hR))) (q_bd_lit 1 (by decide))) (by decide)
  · simp only [q_T5, q_L5]; simp only [reduceIte, Int.reduceEq]; exact q_bd_le (q_bd_mul (q_bd_add (q_bd_mul (q_ph1 hρ hd (a := 0) ⟨by decide, by decide⟩).1 (hb 4 ⟨by decide, by decide⟩)) (q_bd_mul hR (hb 0 ⟨by decide, by decide⟩))) (q_bd_lit 1 (by decide))) (by decide)
theorem q_T5_b1 {ρ : Int} {d b : Int → Int} (hρ : 1 ≤ ρ ∧ ρ ≤ 9) (hd : ∀ k, q_in 5 k → 2 * ρ ≤ d k ∧ d k ≤ 2 * ρ + 18) (hb : ∀ k, q_in 5 k → q_bd (b k) 1809) (r c : Int) (hr : q_in 5 r) (hne : r ≠ 1) (hc : 0 ≤ c ∧ c ≤ 5) : q_bd (q_T5 ρ d b 2 r c * q_L5 ρ d 1) 9223372036854775807 := by
  have hR : q_bd ρ 9 := ⟨by omega, by omega⟩
  have hD : ∀ k, q_in 5 k → q_bd (d k) 36 := fun k hk => ⟨by have := hd k hk; omega, by have := hd k hk; omega⟩
  obtain ⟨h1, h2⟩ := hr
  rcases (show r = 0 ∨ r = 2 ∨ r = 3 ∨ r = 4 by omega) with rfl | rfl | rfl | rfl <;> rcases (show c = 0 ∨ c = 1 ∨ c = 2 ∨ c = 3 ∨ c = 4 ∨ c = 5 by omega) with rfl | rfl | rfl | rfl | rfl | rfl
  · simp only [q_T5, q_L5]; simp only [reduceIte, Int.reduceEq]; exact q_bd_le (q_bd_mul (q_ph2 hρ hd (a := 0) ⟨by decide, by decide⟩ (by decide)).1 (q_ph1 hρ hd (a := 0) ⟨by decide, by decide⟩).1) (by decide)
  · simp only [q_T5, q_L5]; simp; exact q_bd_zero _ (by decide)
  · simp only [q_T5, q_L5]; simp only [reduceIte, Int.reduceEq]; exact q_bd_le (q_bd_mul (q_bd_neg (q_bd_mul hR hR)) (q_ph1 hρ hd (a := 0) ⟨by decide, by decide⟩).1) (by decide)
  · simp only [q_T5, q_L5]; simp; exact q_bd_zero _ (by decide)
  · simp only [q_T5, q_L5]; simp only [reduceIte, Int.reduceEq]; exact q_bd_le (q_bd_mul (q_bd_neg (q_bd_mul (q_ph1 hρ hd (a := 1) ⟨by decide, by decide⟩).1 hR)) (q_ph1 hρ hd (a := 0) ⟨by decide, by decide⟩).1) (by decide)
  · simp only [q_T5, q_L5]; simp only [reduceIte, Int.reduceEq]; exact q_bd_le (q_bd_mul (q_bd_add (q_bd_mul (q_ph1 hρ hd (a := 1) ⟨by decide, by decide⟩).1 (hb 0 ⟨by decide, by decide⟩)) (q_bd_mul hR (hb 1 ⟨by decide, by decide⟩))) (q_ph1 hρ hd (a := 0) ⟨by decide, by decide⟩).1) (by decide)
  · simp only [q_T5, q_L5]; simp; exact q_bd_zero _ (by decide)
  · simp only [q_T5, q_L5]; simp; exact q_bd_zero _ (by decide)
  · simp only [q_T5, q_L5]; simp only [reduceIte, Int.reduceEq]; exact q_bd_le (q_bd_mul (q_ph3 hρ hd (a := 0) ⟨by decide, by decide⟩ (by decide)).1 (q_ph1 hρ hd (a := 0) ⟨by decide, by decide⟩).1) (by decide)
  · simp only [q_T5, q_L5]; simp only [reduceIte, Int.reduceEq]; exact q_bd_le (q_bd_mul (q_bd_neg (q_bd_mul (q_ph2 hρ hd (a := 0) ⟨by decide, by decide⟩ (by decide)).1 hR)) (q_ph1 hρ hd (a := 0) ⟨by decide, by decide⟩).1) (by decide)
  · simp only [q_T5, q_L5]; simp only [reduceIte, Int.reduceEq]; exact q_bd_le (q_bd_mul (q_bd_neg (q_bd_mul (q_bd_mul hR hR) hR)) (q_ph1 hρ hd (a := 0) ⟨by decide, by decide⟩).1) (by decide)
  · simp only [q_T5, q_L5]; simp only [reduceIte, Int.reduceEq]; exact q_bd_le (q_bd_mul (q_bd_add (q_bd_add (q_bd_mul (q_ph2 hρ hd (a := 0) ⟨by decide, by decide⟩ (by decide)).1 (hb 2 ⟨by decide, by decide⟩)) (q_bd_mul (q_bd_mul hR hR) (hb 0 ⟨by decide, by decide⟩))) (q_bd_mul (q_bd_mul hR (q_ph1 hρ hd (a := 0) ⟨by decide, by decide⟩).1) (hb 1 ⟨by decide, by decide⟩))) (q_ph1 hρ hd (a := 0) ⟨by decide, by decide⟩).1) (by decide)
  · simp only [q_T5, q_L5]; simp; exact q_bd_zero _ (by decide)
  · simp only [q_T5, q_L5]; simp; exact q_bd_zero _ (by decide)
  · simp only [q_T5, q_L5]; simp only [reduceIte, Int.reduceEq]; exact q_bd_le (q_bd_mul (q_bd_neg (q_bd_mul (q_ph2 hρ hd (a := 0) ⟨by decide, by decide⟩ (by decide)).1 hR)) (q_ph1 hρ hd (a := 0) ⟨by decide, by decide⟩).1) (by decide)
  · simp only [q_T5, q_L5]; simp only [reduceIte, Int.reduceEq]; exact q_bd_le (q_bd_mul (q_bd_mul (q_ph2 hρ hd (a := 0) ⟨by decide, by decide⟩ (by decide)).1 (hD 3 ⟨by decide, by decide⟩)) (q_ph1 hρ hd (a := 0) ⟨by decide, by decide⟩).1) (by decide)
  · simp only [q_T5, q_L5]; simp only [reduceIte, Int.reduceEq]; exact q_bd_le (q_bd_mul (q_bd_neg (q_bd_mul (q_ph2 hρ hd (a := 0) ⟨by decide, by decide⟩ (by decide)).1 hR)) (q_ph1 hρ hd (a := 0) ⟨by decide, by decide⟩).1) (by decide)
  · simp only [q_T5, q_L5]; simp only [reduceIte, Int.reduceEq]; exact q_bd_le (q_bd_mul (q_bd_mul (q_ph2 hρ hd (a := 0) ⟨by decide, by decide⟩ (by decide)).1 (hb 3 ⟨by decide, by decide⟩)) (q_ph1 hρ hd (a := 0) ⟨by decide, by decide⟩).1) (by decide)
  · simp only [q_T5, q_L5]; simp; exact q_bd_zero _ (by decide)
  · simp only [q_T5, q_L5]; simp; exact q_bd_zero _ (by decide)
  · simp only [q_T5, q_L5]; simp only [reduceIte, Int.reduceEq]; exact q_bd_le (q_bd_mul (q_bd_neg (q_bd_mul (q_bd_mul hR hR) hR)) (q_ph1 hρ hd (a := 0) ⟨by decide, by decide⟩).1) (by decide)
  · simp only [q_T5, q_L5]; simp only [reduceIte, Int.reduceEq]; exact q_bd_le (q_bd_mul (q_bd_neg (q_bd_mul (q_ph2 hρ hd (a := 0) ⟨by decide, by decide⟩ (by decide)).1 hR)) (q_ph1 hρ hd (a := 0) ⟨by decide, by decide⟩).1) (by decide)
  · simp only [q_T5, q_L5]; simp only [reduceIte, Int.reduceEq]; exact q_bd_le (q_bd_mul (q_bd_add (q_bd_mul (q_ph2 hρ hd (a := 0) ⟨by decide, by decide⟩ (by decide)).1 (hD 4 ⟨by decide, by decide⟩)) (q_bd_neg (q_bd_mul (q_bd_mul hR (q_ph1 hρ hd (a := 1) ⟨by decide, by decide⟩).1) hR))) (q_ph1 hρ hd (a := 0) ⟨by decide, by decide⟩).1) (by decide)
  · simp only [q_T5, q_L5]; simp only [reduceIte, Int.reduceEq]; exact q_bd_le (q_bd_mul (q_bd_add (q_bd_add (q_bd_mul (q_ph2 hρ hd (a := 0) ⟨by decide, by decide⟩ (by decide)).1 (hb 4 ⟨by decide, by decide⟩)) (q_bd_mul (q_bd_mul hR (q_ph1 hρ hd (a := 1) ⟨by decide, by decide⟩).1) (hb 0 ⟨by decide, by decide⟩))) (q_bd_mul (q_bd_mul hR hR) (hb 1 ⟨by decide, by decide⟩))) (q_ph1 hρ hd (a := 0) ⟨by decide, by decide⟩).1) (by decide)
theorem q_T5_b2 {ρ : Int} {d b : Int → Int} (hρ : 1 ≤ ρ ∧ ρ ≤ 9) (hd : ∀ k, q_in 5 k → 2 * ρ ≤ d k ∧ d k ≤ 2 * ρ + 18) (hb : ∀ k, q_in 5 k → q_bd (b k) 1809) (r c : Int) (hr : q_in 5 r) (hne : r ≠ 2) (hc : 0 ≤ c ∧ c ≤ 5) : q_bd (q_T5 ρ d b 3 r c * q_L5 ρ d 2) 9223372036854775807 := by
  have hR : q_bd ρ 9 := ⟨by omega, by omega⟩
  have hD : ∀ k, q_in 5 k → q_bd (d k) 36 := fun k hk => ⟨by have := hd k hk; omega, by have := hd k hk; omega⟩
  obtain ⟨h1, h2⟩ := hr
  rcases (show r = 0 ∨ r = 1 ∨ r = 3 ∨ r = 4 by omega) with rfl | rfl | rfl | rfl <;> rcases (show c = 0 ∨ c = 1 ∨ c = 2 ∨ c = 3 ∨ c = 4 ∨ c = 5 by omega) with rfl | rfl | rfl | rfl | rfl | rfl
  · simp only [q_T5, q_L5]; simp only [reduceIte, Int.reduceEq]; exact q_bd_le (q_bd_mul (q_ph3 hρ hd (a := 0) ⟨by decide, by decide⟩ (by decide)).1 (q_ph2 hρ hd (a := 0) ⟨by decide, by decide⟩ (by decide)).1) (by decide)
  · simp only [q_T5, q_L5]; simp; exact q_bd_zero _ (by decide)
  · simp only [q_T5, q_L5]; simp; exact q_bd_zero _ (by decide)
  · simp only [q_T5, q_L5]; simp only [reduceIte, Int.reduceEq]; exact q_bd_le (q_bd_mul (q_bd_neg (q_bd_mul (q_bd_pow hR 2) hR)) (q_ph2 hρ hd (a := 0) ⟨by decide, by decide⟩ (by decide)).1) (by decide)
  · simp only [q_T5, q_L5]; simp only [reduceIte, Int.reduceEq]; exact q_bd_le (q_bd_mul (q_bd_neg (q_bd_mul (q_ph2 hρ hd (a := 1) ⟨by decide, by decide⟩ (by decide)).1 hR)) (q_ph2 hρ hd (a := 0) ⟨by decide, by decide⟩ (by decide)).1) (by decide)
  · simp only [q_T5, q_L5]; simp only [reduceIte, Int.reduceEq]; exact q_bd_le (q_bd_mul (q_bd_add (q_bd_add (q_bd_mul (q_ph2 hρ hd (a := 1) ⟨by decide, by decide⟩ (by decide)).1 (hb 0 ⟨by decide, by decide⟩)) (q_bd_mul (q_bd_mul hR (q_ph1 hρ hd (a := 2) ⟨by decide, by decide⟩).1) (hb 1 ⟨by decide, by decide⟩))) (q_bd_mul (q_bd_pow hR 2) (hb 2 ⟨by decide, by decide⟩))) (q_ph2 hρ hd (a := 0) ⟨by decide, by decide⟩ (by decide)).1) (by decide)
  · simp only [q_T5, q_L5]; simp; exact q_bd_zero _ (by decide)
  · simp only [q_T5, q_L5]; simp only [reduceIte, Int.reduceEq]; exact q_bd_le (q_bd_mul (q_ph3 hρ hd (a := 0) ⟨by decide, by decide⟩ (by decide)).1 (q_ph2 hρ hd (a := 0) ⟨by decide, by decide⟩ (by decide)).1) (by decide)
  · simp only [q_T5, q_L5]; simp; exact q_bd_zero _ (by decide)
  · simp only [q_T5, q_L5]; simp only [reduceIte, Int.reduceEq]; exact q_bd_le (q_bd_mul (q_bd_neg (q_bd_mul (q_bd_mul hR (q_ph1 hρ hd (a := 0) ⟨by decide, by decide⟩).1) hR)) (q_ph2 hρ hd (a := 0) ⟨by decide, by decide⟩ (by decide)).1) (by decide)
  · simp only [q_T5, q_L5]; simp only [reduceIte, Int.reduceEq]; exact q_bd_le (q_bd_mul (q_bd_neg (q_bd_mul (q_bd_mul hR (q_ph1 hρ hd (a := 2) ⟨by decide, by decide⟩).1) hR)) (q_ph2 hρ hd (a := 0) ⟨by decide, by decide⟩ (by decide)).1) (by decide)
  · simp only [q_T5, q_L5]; simp only [reduceIte, Int.reduceEq]; exact q_bd_le (q_bd_mul (q_bd_add (q_bd_add (q_bd_mul (q_bd_mul hR (q_ph1 hρ hd (a := 2) ⟨by decide, by decide⟩).1) (hb 0 ⟨by decide, by decide⟩)) (q_bd_mul (q_bd_mul (q_ph1 hρ hd (a := 0) ⟨by decide, by decide⟩).1 (q_ph1 hρ hd (a := 2) ⟨by decide, by decide⟩).1) (hb 1 ⟨by decide, by decide⟩))) (q_bd_mul (q_bd_mul hR (q_ph1 hρ hd (a := 0) ⟨by decide, by decide⟩).1) (hb 2 ⟨by decide, by decide⟩))) (q_ph2 hρ hd (a := 0) ⟨by decide, by decide⟩ (by decide)).1) (by decide)
  · simp only [q_T5, q_L5]; simp; exact q_bd_zero _ (by decide)
  · simp only [q_T5, q_L5]; simp; exact q_bd_zero _ (by decide)
  · simp only [q_T5, q_L5]; simp; exact q_bd_zero _ (by decide)
  · simp only [q_T5, q_L5]; simp only [reduceIte, Int.reduceEq]; exact q_bd_le (q_bd_mul (q_ph4 hρ hd (a := 0) ⟨by decide, by decide⟩ (by decide)).1 (q_ph2 hρ hd (a := 0) ⟨by decide, by decide⟩ (by decide)).1) (by decide)
  · simp only [q_T5, q_L5]; simp only [reduceIte, Int.reduceEq]; exact q_bd_le (q_bd_mul (q_bd_add (q_bd_neg (q_bd_mul (q_ph3 hρ hd (a := 0) ⟨by decide, by decide⟩ (by decide)).1 hR)) (q_bd_neg (q_bd_mul (q_bd_mul hR (q_bd_pow hR 2)) hR))) (q_ph2 hρ hd (a := 0) ⟨by decide, by decide⟩ (by decide)).1) (by decide)
  · simp only [q_T5, q_L5]; simp only [reduceIte, Int.reduceEq]; exact q_bd_le (q_bd_mul (q_bd_add (q_bd_add (q_bd_add (q_bd_mul (q_ph3 hρ hd (a := 0) ⟨by decide, by decide⟩ (by decide)).1 (hb 3 ⟨by decide, by decide⟩)) (q_bd_mul (q_bd_mul hR (q_bd_pow hR 2)) (hb 0 ⟨by decide, by decide⟩))) (q_bd_mul (q_bd_mul hR (q_bd_mul hR (q_ph1 hρ hd (a := 0) ⟨by decide, by decide⟩).1)) (hb 1 ⟨by decide, by decide⟩))) (q_bd_mul (q_bd_mul hR (q_ph2 hρ hd (a := 0) ⟨by decide, by decide⟩ (by decide)).1) (hb 2 ⟨by decide, by decide⟩))) (q_ph2 hρ hd (a := 0) ⟨by decide, by decide⟩ (by decide)).1) (by decide)
  · simp only [q_T5, q_L5]; simp; exact q_bd_zero _ (by decide)
  · simp only [q_T5, q_L5]; simp; exact q_bd_zero _ (by decide)
  · simp only [q_T5, q_L5]; simp; exact q_bd_zero _ (by decide)
  · simp only [q_T5, q_L5]; simp only [reduceIte, Int.reduceEq]; exact q_bd_le (q_bd_mul (q_bd_add (q_bd_neg (q_bd_mul (q_ph3 hρ hd (a := 0) ⟨by decide, by decide⟩ (by decide)).1 hR)) (q_bd_neg (q_bd_mul (q_bd_mul hR (q_bd_pow hR 2)) hR))) (q_ph2 hρ hd (a := 0) ⟨by decide, by decide⟩ (by decide)).1) (by decide)
  · simp only [q_T5, q_L5]; simp only [reduceIte, Int.reduceEq]; exact q_bd_le (q_bd_mul (q_bd_add (q_bd_mul (q_ph3 hρ hd (a := 0) ⟨by decide, by decide⟩ (by decide)).1 (hD 4 ⟨by decide, by decide⟩)) (q_bd_neg (q_bd_mul (q_bd_mul hR (q_ph2 hρ hd (a := 1) ⟨by decide, by decide⟩ (by decide)).1) hR))) (q_ph2 hρ hd (a := 0) ⟨by decide, by decide⟩ (by decide)).1) (by decide)
  · simp only [q_T5, q_L5]; simp only [reduceIte, Int.reduceEq]; exact q_bd_le (q_bd_mul (q_bd_add (q_bd_add (q_bd_add (q_bd_mul (q_ph3 hρ hd (a := 0) ⟨by decide, by decide⟩ (by decide)).1 (hb 4 ⟨by decide, by decide⟩)) (q_bd_mul (q_bd_mul hR (q_ph2 hρ hd (a := 1) ⟨by decide, by decide⟩ (by decide)).1) (hb 0 ⟨by decide, by decide⟩))) (q_bd_mul (q_bd_mul hR (q_bd_mul hR (q_ph1 hρ hd (a := 2) ⟨by decide, by decide⟩).1)) (hb 1 ⟨by decide, by decide⟩))) (q_bd_mul (q_bd_mul hR (q_bd_pow hR 2)) (hb 2 ⟨by decide, by decide⟩))) (q_ph2 hρ hd (a := 0) ⟨by decide, by decide⟩ (by decide)).1) (by decide)
theorem q_T5_b3 {ρ : Int} {d b : Int → Int} (hρ : 1 ≤ ρ ∧ ρ ≤ 9) (hd : ∀ k, q_in 5 k → 2 * ρ ≤ d k ∧ d k ≤ 2 * ρ + 18) (hb : ∀ k, q_in 5 k → q_bd (b k) 1809) (r c : Int) (hr : q_in 5 r) (hne : r ≠ 3) (hc : 0 ≤ c ∧ c ≤ 5) : q_bd (q_T5 ρ d b 4 r c * q_L5 ρ d 3) 9223372036854775807 := by
  have hR : q_bd ρ 9 := ⟨by omega, by omega⟩
  have hD : ∀ k, q_in 5 k → q_bd (d k) 36 := fun k hk => ⟨by have := hd k hk; omega, by have := hd k hk; omega⟩
  obtain ⟨h1, h2⟩ := hr
  rcases (show r = 0 ∨ r = 1 ∨ r = 2 ∨ r = 4 by omega) with rfl | rfl | rfl | rfl <;> rcases (show c = 0 ∨ c = 1 ∨ c = 2 ∨ c = 3 ∨ c = 4 ∨ c = 5 by omega) with rfl | rfl | rfl | rfl | rfl | rfl
  · simp only [q_T5, q_L5]; simp only [reduceIte, Int.reduceEq]; exact q_bd_le (q_bd_mul (q_ph4 hρ hd (a := 0) ⟨by decide, by decide⟩ (by decide)).1 (q_ph3 hρ hd (a := 0) ⟨by decide, by decide⟩ (by decide)).1) (by decide)
  · simp only [q_T5, q_L5]; simp; exact q_bd_zero _ (by decide)
  · simp only [q_T5, q_L5]; simp; exact q_bd_zero _ (by decide)
  · simp only [q_T5, q_L5]; simp; exact q_bd_zero _ (by decide)
  · simp only [q_T5, q_L5]; simp only [reduceIte, Int.reduceEq]; exact q_bd_le (q_bd_mul (q_bd_add (q_bd_neg (q_bd_mul (q_ph3 hρ hd (a := 1) ⟨by decide, by decide⟩ (by decide)).1 hR)) (q_bd_neg (q_bd_mul (q_bd_pow hR 3) hR))) (q_ph3 hρ hd (a := 0) ⟨by decide, by decide⟩ (by decide)).1) (by decide)
  · simp only [q_T5, q_L5]; simp only [reduceIte, Int.reduceEq]; exact q_bd_le (q_bd_mul (q_bd_add (q_bd_add (q_bd_add (q_bd_mul (q_ph3 hρ hd (a := 1) ⟨by decide, by decide⟩ (by decide)).1 (hb 0 ⟨by decide, by decide⟩)) (q_bd_mul (q_bd_mul hR (q_ph2 hρ hd (a := 2) ⟨by decide, by decide⟩ (by decide)).1) (hb 1 ⟨by decide, by decide⟩))) (q_bd_mul (q_bd_mul (q_bd_pow hR 2) (q_ph1 hρ hd (a := 3) ⟨by decide, by decide⟩).1) (hb 2 ⟨by decide, by decide⟩))) (q_bd_mul (q_bd_pow hR 3) (hb 3 ⟨by decide, by decide⟩))) (q_ph3 hρ hd (a := 0) ⟨by decide, by decide⟩ (by decide)).1) (by decide)
  · simp only [q_T5, q_L5]; simp; exact q_bd_zero _ (by decide)
  · simp only [q_T5, q_L5]; simp only [reduceIte, Int.reduceEq]; exact q_bd_le (q_bd_mul (q_ph4 hρ hd (a := 0) ⟨by decide, by decide⟩ (by decide)).1 (q_ph3 hρ hd (a := 0) ⟨by decide, by decide⟩ (by decide)).1) (by decide)
  · simp only [q_T5, q_L5]; simp; exact q_bd_zero _ (by decide)
  · simp only [q_T5, q_L5]; simp; exact q_bd_zero _ (by decide)
  · simp only [q_T5, q_L5]; simp only [reduceIte, Int.reduceEq]; exact q_bd_le (q_bd_mul (q_bd_add (q_bd_neg (q_bd_mul (q_bd_mul hR (q_ph2 hρ hd (a := 2) ⟨by decide, by decide⟩ (by decide)).1) hR)) (q_bd_neg (q_bd_mul (q_bd_mul (q_bd_pow hR 2) (q_ph1 hρ hd (a := 0) ⟨by decide, by decide⟩).1) hR))) (q_ph3 hρ hd (a := 0) ⟨by decide, by decide⟩ (by decide)).1) (by decide)
  · simp only [q_T5, q_L5]; simp only [reduceIte, Int.reduceEq]; exact q_bd_le (q_bd_mul (q_bd_add (q_bd_add (q_bd_add (q_bd_mul (q_bd_mul hR (q_ph2 hρ hd (a := 2) ⟨by decide, by decide⟩ (by decide)).1) (hb 0 ⟨by decide, by decide⟩)) (q_bd_mul (q_bd_mul (q_ph1 hρ hd (a := 0) ⟨by decide, by decide⟩).1 (q_ph2 hρ hd (a := 2) ⟨by decide, by decide⟩ (by decide)).1) (hb 1 ⟨by decide, by decide⟩))) (q_bd_mul (q_bd_mul (q_bd_mul hR (q_ph1 hρ hd (a := 0) ⟨by decide, by decide⟩).1) (q_ph1 hρ hd (a := 3) ⟨by decide, by decide⟩).1) (hb 2 ⟨by decide, by decide⟩))) (q_bd_mul (q_bd_mul (q_bd_pow hR 2) (q_ph1 hρ hd (a := 0) ⟨by decide, by decide⟩).1) (hb 3 ⟨by decide, by decide⟩))) (q_ph3 hρ hd (a := 0) ⟨by decide, by decide⟩ (by decide)).1) (by decide)
  · simp only [q_T5, q_L5]; simp; exact q_bd_zero _ (by decide)
  · simp only [q_T5, q_L5]; simp; exact q_bd_zero _ (by decide)
  · simp only [q_T5, q_L5]; simp only [reduceIte, Int.reduceEq]; exact q_bd_le (q_bd_mul (q_ph4 hρ hd (a := 0) ⟨by decide, by decide⟩ (by decide)).1 (q_ph3 hρ hd (a := 0) ⟨by decide, by decide⟩ (by decide)).1) (by decide)
  · simp only [q_T5, q_L5]; simp; exact q_bd_zero _ (by decide)
  · simp only [q_T5, q_L5]; simp only [reduceIte, Int.reduceEq]; exact q_bd_le (q_bd_mul (q_bd_add (q_bd_neg (q_bd_mul (q_bd_mul (q_bd_pow hR 2) (q_ph1 hρ hd (a := 3) ⟨by decide, by decide⟩).1) hR)) (q_bd_neg (q_bd_mul (q_bd_mul hR (q_ph2 hρ hd (a := 0) ⟨by decide, by decide⟩ (by decide)).1) hR))) (q_ph3 hρ hd (a := 0) ⟨by decide, by decide⟩ (by decide)).1) (by decide)
  · simp only [q_T5, q_L5]; simp only [reduceIte, Int.reduceEq]; exact q_bd_le (q_bd_mul (q_bd_add (q_bd_add (q_bd_add (q_bd_mul (q_bd_mul (q_bd_pow hR 2) (q_ph1 hρ hd (a := 3) ⟨by decide, by decide⟩).1) (hb 0 ⟨by decide, by decide⟩)) (q_bd_mul (q_bd_mul (q_bd_mul hR (q_ph1 hρ hd (a := 0) ⟨by decide, by decide⟩).1) (q_ph1 hρ hd (a := 3) ⟨by decide, by decide⟩).1) (hb 1 ⟨by decide, by decide⟩))) (q_bd_mul (q_bd_mul (q_ph2 hρ hd (a := 0) ⟨by decide, by decide⟩ (by decide)).1 (q_ph1 hρ hd (a := 3) ⟨by decide, by decide⟩).1) (hb 2 ⟨by decide, by decide⟩))) (q_bd_mul (q_bd_mul hR (q_ph2 hρ hd (a := 0) ⟨by decide, by decide⟩ (by decide)).1) (hb 3 ⟨by decide, by decide⟩))) (q_ph3 hρ hd (a := 0) ⟨by decide, by decide⟩ (by decide)).1) (by decide)
  · simp only [q_T5, q_L5]; simp; exact q_bd_zero _ (by decide)
  · simp only [q_T5, q_L5]; simp; exact q_bd_zero _ (by decide)
  · simp only [q_T5, q_L5]; simp; exact q_bd_zero _ (by decide)
  · simp only [q_T5, q_L5]; simp; exact q_bd_zero _ (by decide)
  · simp only [q_T5, q_L5]; simp only [reduceIte, Int.reduceEq]; exact q_bd_le (q_bd_mul (q_bd_add (q_bd_add (q_bd_add (q_bd_mul (hD 0 ⟨by decide, by decide⟩) (q_ph4 hρ hd (a := 1) ⟨by decide, by decide⟩ (by decide)).1) (q_bd_neg (q_bd_mul (q_bd_lit 2 (by decide)) (q_bd_pow hR 5)))) (q_bd_neg (q_bd_mul (q_bd_pow hR 2) (q_ph3 hρ hd (a := 1) ⟨by decide, by decide⟩ (by decide)).1))) (q_bd_neg (q_bd_mul (q_bd_pow hR 2) (q_ph3 hρ hd (a := 2) ⟨by decide, by decide⟩ (by decide)).1))) (q_ph3 hρ hd (a := 0) ⟨by decide, by decide⟩ (by decide)).1) (by decide)
  · simp only [q_T5, q_L5]; simp only [reduceIte, Int.reduceEq]; exact q_bd_le (q_bd_mul (q_bd_add (q_bd_add (q_bd_add (q_bd_add (q_bd_add (q_bd_add (q_bd_add (q_bd_add (q_bd_mul (q_ph4 hρ hd (a := 0) ⟨by decide, by decide⟩ (by decide)).1 (hb 4 ⟨by decide, by decide⟩)) (q_bd_mul (q_bd_mul hR (q_ph3 hρ hd (a := 1) ⟨by decide, by decide⟩ (by decide)).1) (hb 0 ⟨by decide, by decide⟩))) (q_bd_mul (q_bd_mul hR (q_bd_mul hR (q_ph2 hρ hd (a := 2) ⟨by decide, by decide⟩ (by decide)).1)) (hb 1 ⟨by decide, by decide⟩))) (q_bd_mul (q_bd_mul hR (q_bd_mul (q_bd_pow hR 2) (q_ph1 hρ hd (a := 3) ⟨by decide, by decide⟩).1)) (hb 2 ⟨by decide, by decide⟩))) (q_bd_mul (q_bd_mul hR (q_bd_pow hR 3)) (hb 3 ⟨by decide, by decide⟩))) (q_bd_mul (q_bd_mul hR (q_bd_pow hR 3)) (hb 0 ⟨by decide, by decide⟩))) (q_bd_mul (q_bd_mul hR (q_bd_mul (q_bd_pow hR 2) (q_ph1 hρ hd (a := 0) ⟨by decide, by decide⟩).1)) (hb 1 ⟨by decide, by decide⟩))) (q_bd_mul (q_bd_mul hR (q_bd_mul hR (q_ph2 hρ hd (a := 0) ⟨by decide, by decide⟩ (by decide)).1)) (hb 2 ⟨by decide, by decide⟩))) (q_bd_mul (q_bd_mul hR (q_ph3 hρ hd (a := 0) ⟨by decide, by decide⟩ (by decide)).1) (hb 3 ⟨by decide, by decide⟩))) (q_ph3 hρ hd (a := 0) ⟨by decide, by decide⟩ (by decide)).1) (by decide)
theorem q_T5_b4 {ρ : Int} {d b : Int → Int} (hρ : 1 ≤ ρ ∧ ρ ≤ 9) (hd : ∀ k, q_in 5 k → 2 * ρ ≤ d k ∧ d k ≤ 2 * ρ + 18) (hb : ∀ k, q_in 5 k → q_bd (b k) 1809) (r c : Int) (hr : q_in 5 r) (hne : r ≠ 4) (hc : 0 ≤ c ∧ c ≤ 5) : q_bd (q_T5 ρ d b 5 r c * q_L5 ρ d 4) 9223372036854775807 := by
  have hR : q_bd ρ 9 := ⟨by omega, by omega⟩
  have hD : ∀ k, q_in 5 k → q_bd (d k) 36 := fun k hk => ⟨by have := hd k hk; omega, by have := hd k hk; omega⟩
  obtain ⟨h1, h2⟩ := hr
  rcases (show r = 0 ∨ r = 1 ∨ r = 2 ∨ r = 3 by omega) with rfl | rfl | rfl | rfl <;> rcases (show c = 0 ∨ c = 1 ∨ c = 2 ∨ c = 3 ∨ c = 4 ∨ c = 5 by omega) with rfl | rfl | rfl | rfl | rfl | rfl
  · simp only [q_T5, q_L5]; simp only [reduceIte, Int.reduceEq]; exact q_bd_le (q_bd_mul (q_bd_add (q_bd_add (q_bd_add (q_bd_mul (hD 0 ⟨by decide, by decide⟩) (q_ph4 hρ hd (a := 1) ⟨by decide, by decide⟩ (by decide)).1) (q_bd_neg (q_bd_mul (q_bd_lit 2 (by decide)) (q_bd_pow hR 5)))) (q_bd_neg (q_bd_mul (q_bd_pow hR 2) (q_ph3 hρ hd (a := 1) ⟨by decide, by decide⟩ (by decide)).1))) (q_bd_neg (q_bd_mul (q_bd_pow hR 2) (q_ph3 hρ hd (a := 2) ⟨by decide, by decide⟩ (by decide)).1))) (q_ph4 hρ hd (a := 0) ⟨by decide, by decide⟩ (by decide)).1) (by decide)
  · simp only [q_T5, q_L5]; simp; exact q_bd_zero _ (by decide)
  · simp only [q_T5, q_L5]; simp; exact q_bd_zero _ (by decide)
  · simp only [q_T5, q_L5]; simp; exact q_bd_zero _ (by decide)
  · simp only [q_T5, q_L5]; simp; exact q_bd_zero _ (by decide)
  · simp only [q_T5, q_L5]; simp only [reduceIte, Int.reduceEq]; exact q_bd_le (q_bd_mul (q_bd_add (q_bd_add (q_bd_add (q_bd_add (q_bd_mul (hb 0 ⟨by decide, by decide⟩) (q_ph4 hρ hd (a := 1) ⟨by decide, by decide⟩ (by decide)).1) (q_bd_mul (hb 1 ⟨by decide, by decide⟩) (q_bd_add (q_bd_mul hR (q_ph3 hρ hd (a := 2) ⟨by decide, by decide⟩ (by decide)).1) (q_bd_pow hR 4)))) (q_bd_mul (hb 2 ⟨by decide, by decide⟩) (q_bd_add (q_bd_mul (q_bd_pow hR 2) (q_ph2 hρ hd (a := 3) ⟨by decide, by decide⟩ (by decide)).1) (q_bd_mul (q_bd_pow hR 3) (q_ph1 hρ hd (a := 1) ⟨by decide, by decide⟩).1)))) (q_bd_mul (hb 3 ⟨by decide, by decide⟩) (q_bd_add (q_bd_mul (q_bd_pow hR 3) (q_ph1 hρ hd (a := 4) ⟨by decide, by decide⟩).1) (q_bd_mul (q_bd_pow hR 2) (q_ph2 hρ hd (a := 1) ⟨by decide, by decide⟩ (by decide)).1)))) (q_bd_mul (hb 4 ⟨by decide, by decide⟩) (q_bd_add (q_bd_pow hR 4) (q_bd_mul hR (q_ph3 hρ hd (a := 1) ⟨by decide, by decide⟩ (by decide)).1)))) (q_ph4 hρ hd (a := 0) ⟨by decide, by decide⟩ (by decide)).1) (by decide)
  · simp only [q_T5, q_L5]; simp; exact q_bd_zero _ (by decide)
  · simp only [q_T5, q_L5]; simp only [reduceIte, Int.reduceEq]; exact q_bd_le (q_bd_mul (q_bd_add (q_bd_add (q_bd_add (q_bd_mul (hD 0 ⟨by decide, by decide⟩) (q_ph4 hρ hd (a := 1) ⟨by decide, by decide⟩ (by decide)).1) (q_bd_neg (q_bd_mul (q_bd_lit 2 (by decide)) (q_bd_pow hR 5)))) (q_bd_neg (q_bd_mul (q_bd_pow hR 2) (q_ph3 hρ hd (a := 1) ⟨by decide, by decide⟩ (by decide)).1))) (q_bd_neg (q_bd_mul (q_bd_pow hR 2) (q_ph3 hρ hd (a := 2) ⟨by decide, by decide⟩ (by decide)).1))) (q_ph4 hρ hd (a := 0) ⟨by decide, by decide⟩ (by decide)).1) (by decide)
  · simp only [q_T5, q_L5]; simp; exact q_bd_zero _ (by decide)
  · simp only [q_T5, q_L5]; simp; exact q_bd_zero _ (by decide)
  · simp only [q_T5, q_L5]; simp; exact q_bd_zero _ (by decide)
  · simp only [q_T5, q_L5]; simp only [reduceIte, Int.reduceEq]; exact q_bd_le (q_bd_mul (q_bd_add (q_bd_add (q_bd_add (q_bd_add (q_bd_mul (hb 1 ⟨by decide, by decide⟩) (q_ph4 hρ hd (a := 2) ⟨by decide, by decide⟩ (by decide)).1) (q_bd_mul (hb 2 ⟨by decide, by decide⟩) (q_bd_add (q_bd_mul hR (q_ph3 hρ hd (a := 3) ⟨by decide, by decide⟩ (by decide)).1) (q_bd_pow hR 4)))) (q_bd_mul (hb 3 ⟨by decide, by decide⟩) (q_bd_add (q_bd_mul (q_bd_pow hR 2) (q_ph2 hρ hd (a := 4) ⟨by decide, by decide⟩ (by decide)).1) (q_bd_mul (q_bd_pow hR 3) (q_ph1 hρ hd (a := 2) ⟨by decide, by decide⟩).1)))) (q_bd_mul (hb 4 ⟨by decide, by decide⟩) (q_bd_add (q_bd_mul (q_bd_pow hR 3) (q_ph1 hρ hd (a := 0) ⟨by decide, by decide⟩).1) (q_bd_mul (q_bd_pow hR 2) (q_ph2 hρ hd (a := 2) ⟨by decide, by decide⟩ (by decide)).1)))) (q_bd_mul (hb 0 ⟨by decide, by decide⟩) (q_bd_add (q_bd_pow hR 4) (q_bd_mul hR (q_ph3 hρ hd (a := 2) ⟨by decide, by decide⟩ (by decide)).1)))) (q_ph4 hρ hd (a := 0) ⟨by decide, by decide⟩ (by decide)).1) (by decide)
  · simp only [q_T5, q_L5]; simp; exact q_bd_zero _ (by decide)
  · simp only [q_T5, q_L5]; simp; exact q_bd_zero _ (by decide)
  · simp only [q_T5, q_L5]; simp only [reduceIte, Int.reduceEq]; exact q_bd_le (q_bd_mul (q_bd_add (q_bd_add (q_bd_add (q_bd_mul (hD 0 ⟨by decide, by decide⟩) (q_ph4 hρ hd (a := 1) ⟨by decide, by decide⟩ (by decide)).1) (q_bd_neg (q_bd_mul (q_bd_lit 2 (by decide)) (q_bd_pow hR 5)))) (q_bd_neg (q_bd_mul (q_bd_pow hR 2) (q_ph3 hρ hd (a := 1) ⟨by decide, by decide⟩ (by decide)).1))) (q_bd_neg (q_bd_mul (q_bd_pow hR 2) (q_ph3 hρ hd (a := 2) ⟨by decide, by decide⟩ (by decide)).1))) (q_ph4 hρ hd (a := 0) ⟨by decide, by decide⟩ (by decide)).1) (by decide)
  · simp only [q_T5, q_L5]; simp; exact q_bd_zero _ (by decide)
  · simp only [q_T5, q_L5]; simp; exact q_bd_zero _ (by decide)
  · simp only [q_T5, q_L5]; simp only [reduceIte, Int.reduceEq]; exact q_bd_le (q_bd_mul (q_bd_add (q_bd_add (q_bd_add (q_bd_add (q_bd_mul (hb 2 ⟨by decide, by decide⟩) (q_ph4 hρ hd (a := 3) ⟨by decide, by decide⟩ (by decide)).1) (q_bd_mul (hb 3 ⟨by decide, by decide⟩) (q_bd_add (q_bd_mul hR (q_ph3 hρ hd (a := 4) ⟨by decide, by decide⟩ (by decide)).1) (q_bd_pow hR 4)))) (q_bd_mul (hb 4 ⟨by decide, by decide⟩) (q_bd_add (q_bd_mul (q_bd_pow hR 2) (q_ph2 hρ hd (a := 0) ⟨by decide, by decide⟩ (by decide)).1) (q_bd_mul (q_bd_pow hR 3) (q_ph1 hρ hd (a := 3) ⟨by decide, by decide⟩).1)))) (q_bd_mul (hb 0 ⟨by decide, by decide⟩) (q_bd_add (q_bd_mul (q_bd_pow hR 3) (q_ph1 hρ hd (a := 1) ⟨by decide, by decide⟩).1) (q_bd_mul (q_bd_pow hR 2) (q_ph2 hρ hd (a := 3) ⟨by decide, by decide⟩ (by decide)).1)))) (q_bd_mul (hb 1 ⟨by decide, by decide⟩) (q_bd_add (q_bd_pow hR 4) (q_bd_mul hR (q_ph3 hρ hd (a := 3) ⟨by decide, by decide⟩ (by decide)).1)))) (q_ph4 hρ hd (a := 0) ⟨by decide, by decide⟩ (by decide)).1) (by decide)
  · simp only [q_T5, q_L5]; simp; exact q_bd_zero _ (by decide)
  · simp only [q_T5, q_L5]; simp; exact q_bd_zero _ (by decide)
  · simp only [q_T5, q_L5]; simp; exact q_bd_zero _ (by decide)
  · simp only [q_T5, q_L5]; simp only [reduceIte, Int.reduceEq]; exact q_bd_le (q_bd_mul (q_bd_add (q_bd_add (q_bd_add (q_bd_mul (hD 0 ⟨by decide, by decide⟩) (q_ph4 hρ hd (a := 1) ⟨by decide, by decide⟩ (by decide)).1) (q_bd_neg (q_bd_mul (q_bd_lit 2 (by decide)) (q_bd_pow hR 5)))) (q_bd_neg (q_bd_mul (q_bd_pow hR 2) (q_ph3 hρ hd (a := 1) ⟨by decide, by decide⟩ (by decide)).1))) (q_bd_neg (q_bd_mul (q_bd_pow hR 2) (q_ph3 hρ hd (a := 2) ⟨by decide, by decide⟩ (by decide)).1))) (q_ph4 hρ hd (a := 0) ⟨by decide, by decide⟩ (by decide)).1) (by decide)
  · simp only [q_T5, q_L5]; simp; exact q_bd_zero _ (by decide)
  · simp only [q_T5, q_L5]; simp only [reduceIte, Int.reduceEq]; exact q_bd_le (q_bd_mul (q_bd_add (q_bd_add (q_bd_add (q_bd_add (q_bd_mul (hb 3 ⟨by decide, by decide⟩) (q_ph4 hρ hd (a := 4) ⟨by decide, by decide⟩ (by decide)).1) (q_bd_mul (hb 4 ⟨by decide, by decide⟩) (q_bd_add (q_bd_mul hR (q_ph3 hρ hd (a := 0) ⟨by decide, by decide⟩ (by decide)).1) (q_bd_pow hR 4)))) (q_bd_mul (hb 0 ⟨by decide, by decide⟩) (q_bd_add (q_bd_mul (q_bd_pow hR 2) (q_ph2 hρ hd (a := 1) ⟨by decide, by decide⟩ (by decide)).1) (q_bd_mul (q_bd_pow hR 3) (q_ph1 hρ hd (a := 4) ⟨by decide, by decide⟩).1)))) (q_bd_mul (hb 1 ⟨by decide, by decide⟩) (q_bd_add (q_bd_mul (q_bd_pow hR 3) (q_ph1 hρ hd (a := 2) ⟨by decide, by decide⟩).1) (q_bd_mul (q_bd_pow hR 2) (q_ph2 hρ hd (a := 4) ⟨by decide, by decide⟩ (by decide)).1)))) (q_bd_mul (hb 2 ⟨by decide, by decide⟩) (q_bd_add (q_bd_pow hR 4) (q_bd_mul hR (q_ph3 hρ hd (a := 4) ⟨by decide, by decide⟩ (by decide)).1)))) (q_ph4 hρ hd (a := 0) ⟨by decide, by decide⟩ (by decide)).1) (by decide)
theorem q_T6_b0 {ρ : Int} {d b : Int → Int} (hρ : 1 ≤ ρ ∧ ρ ≤ 9) (hd : ∀ k, q_in 6 k → 2 * ρ ≤ d k ∧ d k ≤ 2 * ρ + 18) (hb : ∀ k, q_in 6 k → q_bd (b k) 1809) (r c : Int) (hr : q_in 6 r) (hne : r ≠ 0) (hc : 0 ≤ c ∧ c ≤ 6) : q_bd (q_T6 ρ d b 1 r c * q_L6 ρ d 0) 9223372036854775807 := by
  have hR : q_bd ρ 9 := ⟨by omega, by omega⟩
  have hD : ∀ k, q_in 6 k → q_bd (d k) 36 := fun k hk => ⟨by have := hd k hk; omega, by have := hd k hk; omega⟩
  obtain ⟨h1, h2⟩ := hr
  rcases (show r = 1 ∨ r = 2 ∨ r = 3 ∨ r = 4 ∨ r = 5 by omega) with rfl | rfl | rfl | rfl | rfl <;> rcases (show c = 0 ∨ c = 1 ∨ c = 2 ∨ c = 3 ∨ c = 4 ∨ c = 5 ∨ c = 6 by omega) with rfl | rfl | rfl | rfl | rfl | rfl | rfl
  · simp only [q_T6, q_L6]; simp; exact q_bd_zero _ (by decide)
  · simp only [q_T6, q_L6]; simp only [reduceIte, Int.reduceEq]; exact q_bd_le (q_bd_mul (q_ph2 hρ hd (a := 0) ⟨by decide, by decide⟩ (by decide)).1 (q_bd_lit 1 (by decide))) (by decide)
  · simp only [q_T6, q_L6]; simp only [reduceIte, Int.reduceEq]; exact q_bd_le (q_bd_mul (q_bd_neg (q_bd_mul (q_ph1 hρ hd (a := 0) ⟨by decide, by decide⟩).1 hR)) (q_bd_lit 1 (by decide))) (by decide)
  · simp only [q_T6, q_L6]; simp; exact q_bd_zero _ (by decide)
  · simp only [q_T6, q_L6]; simp; exact q_bd_zero _ (by decide)
  · simp only [q_T6, q_L6]; simp only [reduceIte, Int.reduceEq]; exact q_bd_le (q_bd_mul (q_bd_neg (q_bd_mul hR hR)) (q_bd_lit 1 (by decide))) (by decide)
  · simp only [q_T6, q_L6]; simp only [reduceIte, Int.reduceEq]; exact q_bd_le (q_bd_mul (q_bd_add (q_bd_mul (q_ph1 hρ hd (a := 0) ⟨by decide, by decide⟩).1 (hb 1 ⟨by decide, by decide⟩)) (q_bd_mul hR (hb 0 ⟨by decide, by decide⟩))) (q_bd_lit 1 (by decide))) (by decide)
  · simp only [q_T6, q_L6]; simp; exact q_bd_zero _ (by decide)
  · simp only [q_T6, q_L6]; simp only [reduceIte, Int.reduceEq]; exact q_bd_le (q_bd_mul (q_bd_neg (q_bd_mul (q_ph1 hρ hd (a := 0) ⟨by decide, by decide⟩).1 hR)) (q_bd_lit 1 (by decide))) (by decide)
  · simp only [q_T6, q_L6]; simp only [reduceIte, Int.reduceEq]; exact q_bd_le (q_bd_mul (q_bd_mul (q_ph1 hρ hd (a := 0) ⟨by decide, by decide⟩).1 (hD 2 ⟨by decide, by decide⟩)) (q_bd_lit 1 (by decide))) (by decide)
  · simp only [q_T6, q_L6]; simp only [reduceIte, Int.reduceEq]; exact q_bd_le (q_bd_mul (q_bd_neg (q_bd_mul (q_ph1 hρ hd (a := 0) ⟨by decide, by decide⟩).1 hR)) (q_bd_lit 1 (by decide))) (by decide)
  · simp only [q_T6, q_L6]; simp; exact q_bd_zero _ (by decide)
  · simp only [q_T6, q_L6]; simp; exact q_bd_zero _ (by decide)
  · simp only [q_T6, q_L6]; simp only [reduceIte, Int.reduceEq]; exact q_bd_le (q_bd_mul (q_bd_mul (q_ph1 hρ hd (a := 0) ⟨by decide, by decide⟩).1 (hb 2 ⟨by decide, by decide⟩)) (q_bd_lit 1 (by decide))) (by decide)
  · simp only [q_T6, q_L6]; simp; exact q_bd_zero _ (by decide)
  · simp only [q_T6, q_L6]; simp; exact q_bd_zero _ (by decide)
  · simp only [q_T6, q_L6]; simp only [reduceIte, Int.reduceEq]; exact q_bd_le (q_bd_mul (q_bd_neg (q_bd_mul (q_ph1 hρ hd (a := 0) ⟨by decide, by decide⟩).1 hR)) (q_bd_lit 1 (by decide))) (by decide)
  · simp only [q_T6, q_L6]; simp only [reduceIte, Int.reduceEq]; exact q_bd_le (q_bd_mul (q_bd_mul (q_ph1 hρ hd (a := 0) ⟨by decide, by decide⟩).1 (hD 3 ⟨by decide, by decide⟩)) (q_bd_lit 1 (by decide))) (by decide)
  · simp only [q_T6, q_L6]; simp only [reduceIte, Int.reduceEq]; exact q_bd_le (q_bd_mul (q_bd_neg (q_bd_mul (q_ph1 hρ hd (a := 0) ⟨by decide, by decide⟩).1 hR)) (q_bd_lit 1 (by decide))) (by decide)
  · simp only [q_T6, q_L6]; simp; exact q_bd_zero _ (by decide)
  · simp only [q_T6, q_L6]; simp only [reduceIte, Int.reduceEq]; exact q_bd_le (q_bd_mul (q_bd_mul (q_ph1 hρ hd (a := 0) ⟨by decide, by decide⟩).1 (hb 3 ⟨by decide, by decide⟩)) (q_bd_lit 1 (by decide))) (by decide)
  · simp only [q_T6, q_L6]; simp; exact q_bd_zero _ (by decide)
  · simp only [q_T6, q_L6]; simp; exact q_bd_zero _ (by decide)
  · simp only [q_T6, q_L6]; simp; exact q_bd_zero _ (by decide)
  · simp only [q_T6, q_L6]; simp only [reduceIte, Int.reduceEq]; exact q_bd_le (q_bd_mul (q_bd_neg (q_bd_mul (q_ph1 hρ hd (a := 0) ⟨by decide, by decide⟩).1 hR)) (q_bd_lit 1 (by decide))) (by decide)
  · simp only [q_T6, q_L6]; simp only [reduceIte, Int.reduceEq]; exact q_bd_le (q_bd_mul (q_bd_mul (q_ph1 hρ hd (a := 0) ⟨by decide, by decide⟩).1 (hD 4 ⟨by decide, by decide⟩)) (q_bd_lit 1 (by decide))) (by decide)
  · simp only [q_T6, q_L6]; simp only [reduceIte, Int.reduceEq]; exact q_bd_le (q_bd_mul (q_bd_neg (q_bd_mul (q_ph1 hρ hd (a := 0) ⟨by decide, by decide⟩).1 hR)) (q_bd_lit 1 (by decide))) (by decide)
  · simp only [q_T6, q_L6]; simp only [reduceIte, Int.reduceEq]; exact q_bd_le (q_bd_mul (q_bd_mul (q_ph1 hρ hd (a := 0) ⟨by decide, by decide⟩).1 (hb 4 ⟨by decide, by decide⟩)) (q_bd_lit 1 (by decide))) (by decide)
  · simp only [q_T6, q_L6]; simp; exact q_bd_zero _ (by decide)
  · simp only [q_T6, q_L6]; simp only [reduceIte, Int.reduceEq]; exact q_bd_le (q_bd_mul (q_bd_neg (q_bd_mul hR hR)) (q_bd_lit 1 (by decide))) (by decide)
  · simp only [q_T6, q_L6]; simp; exact q_bd_zero _ (by decide)
  · simp only [q_T6, q_L6]; simp; exact q_bd_zero _ (by decide)
  · simp only [q_T6, q_L6]; simp only [reduceIte, Int.reduceEq]; exact q_bd_le (q_bd_mul (q_bd_neg (q_bd_mul (q_ph1 hρ hd (a := 0) ⟨by decide, by decide⟩).1 hR)) (q_bd_lit 1 (by decide))) (by decide)
  · simp only [q_T6, q_L6]; simp only [reduceIte, Int.reduceEq]; exact q_bd_le (q_bd_mul (q_bd_add (q_bd_mul (q_ph1 hρ hd (a := 0) ⟨by decide, by decide⟩).1 (hD 5 ⟨by decide, by decide⟩)) (q_bd_neg (q_bd_mul hR hR))) (q_bd_lit 1 (by decide))) (by decide)
  · simp only [q_T6, q_L6]; simp only [reduceIte, Int.reduceEq]; exact q_bd_le (q_bd_mul (q_bd_add (q_bd_mul (q_ph1 hρ hd (a := 0) ⟨by decide, by decide⟩).1 (hb 5 ⟨by decide, by decide⟩)) (q_bd_mul hR (hb 0 ⟨by decide, by decide⟩))) (q_bd_lit 1 (by decide))) (by decide)
theorem q_T6_b1 {ρ : Int} {d b : Int → Int} (hρ : 1 ≤ ρ ∧ ρ ≤ 9) (hd : ∀ k, q_in 6 k → 2 * ρ ≤ d k ∧ d k ≤ 2 * ρ + 18) (hb : ∀ k, q_in 6 k → q_bd (b k) 1809) (r c : Int) (hr : q_in 6 r) (hne : r ≠ 1) (hc : 0 ≤ c ∧ c ≤ 6) : q_bd (q_T6 ρ d b 2 r c * q_L6 ρ d 1) 9223372036854775807 := by
  have hR : q_bd ρ 9 := ⟨by omega, by omega⟩
  have hD : ∀ k, q_in 6 k → q_bd (d k) 36 := fun k hk => ⟨by have := hd k hk; omega, by have := hd k hk; omega⟩
  obtain ⟨h1, h2⟩ := hr
  rcases (show r = 0 ∨ r = 2 ∨ r = 3 ∨ r = 4 ∨ r = 5 by omega) with rfl | rfl | rfl | rfl | rfl <;> rcases (show c = 0 ∨ c = 1 ∨ c = 2 ∨ c = 3 ∨ c = 4 ∨ c = 5 ∨ c = 6 by omega) with rfl | rfl | rfl | rfl | rfl | rfl | rfl
  · simp only [q_T6, q_L6]; simp only [reduceIte, Int.reduceEq]; exact q_bd_le (q_bd_mul (q_ph2 hρ hd (a := 0) ⟨by decide, by decide⟩ (by decide)).1 (q_ph1 hρ hd (a := 0) ⟨by decide, by decide⟩).1) (by decide)
  · simp only [q_T6, q_L6]; simp; exact q_bd_zero _ (by decide)
  · simp only [q_T6, q_L6]; simp only [reduceIte, Int.reduceEq]; exact q_bd_le (q_bd_mul (q_bd_neg (q_bd_mul hR hR)) (q_ph1 hρ hd (a := 0) ⟨by decide, by decide⟩).1) (by decide)
  · simp only [q_T6, q_L6]; simp; exact q_bd_zero _ (by decide)
  · simp only [q_T6, q_L6]; simp; exact q_bd_zero _ (by decide)
  · simp only [q_T6, q_L6]; simp only [reduceIte, Int.reduceEq]; exact q_bd_le (q_bd_mul (q_bd_neg (q_bd_mul (q_ph1 hρ hd (a := 1) ⟨by decide, by decide⟩).1 hR)) (q_ph1 hρ hd (a := 0) ⟨by decide, by decide⟩).1) (by decide)
  · simp only [q_T6, q_L6]; simp only [reduceIte, Int.reduceEq]; exact q_bd_le (q_bd_mul (q_bd_add (q_bd_mul (q_ph1 hρ hd (a := 1) ⟨by decide, by decide⟩).1 (hb 0 ⟨by decide, by decide⟩)) (q_bd_mul hR (hb 1 ⟨by decide, by decide⟩))) (q_ph1 hρ hd (a := 0) ⟨by decide, by decide⟩).1) (by decide)
  · simp only [q_T6, q_L6]; simp; exact q_bd_zero _ (by decide)
  · simp only [q_T6, q_L6]; simp; exact q_bd_zero _ (by decide)
  · simp only [q_T6, q_L6]; simp only [reduceIte, Int.reduceEq]; exact q_bd_le (q_bd_mul (q_ph3 hρ hd (a := 0) ⟨by decide, by decide⟩ (by decide)).1 (q_ph1 hρ hd (a := 0) ⟨by decide, by decide⟩).1) (by decide)
  · simp only [q_T6, q_L6]; simp only [reduceIte, Int.reduceEq]; exact q_bd_le (q_bd_mul (q_bd_neg (q_bd_mul (q_ph2 hρ hd (a := 0) ⟨by decide, by decide⟩ (by decide)).1 hR)) (q_ph1 hρ hd (a := 0) ⟨by decide, by decide⟩).1) (by decide)
  · simp only [q_T6, q_L6]; simp; exact q_bd_zero _ (by decide)
  · simp only [q_T6, q_L6]; simp only [reduceIte, Int.reduceEq]; exact q_bd_le (q_bd_mul (q_bd_neg (q_bd_mul (q_bd_mul hR hR) hR)) (q_ph1 hρ hd (a := 0) ⟨by decide, by decide⟩).1) (by decide)
  · simp only [q_T6, q_L6]; simp only [reduceIte, Int.reduceEq]; exact q_bd_le (q_bd_mul (q_bd_add (q_bd_add (q_bd_mul (q_ph2 hρ hd (a := 0) ⟨by decide, by decide⟩ (by decide)).1 (hb 2 ⟨by decide, by decide⟩)) (q_bd_mul (q_bd_mul hR hR) (hb 0 ⟨by decide, by decide⟩))) (q_bd_mul (q_bd_mul hR (q_ph1 hρ hd (a := 0) ⟨by decide, by decide⟩).1) (hb 1 ⟨by decide, by decide⟩))) (q_ph1 hρ hd (a := 0) ⟨by decide, by decide⟩).1) (by decide)
  · simp only [q_T6, q_L6]; simp; exact q_bd_zero _ (by decide)
  · simp only [q_T6, q_L6]; simp; exact q_bd_zero _ (by decide)
  · simp only [q_T6, q_L6]; simp only [reduceIte, Int.reduceEq]; exact q_bd_le (q_bd_mul (q_bd_neg (q_bd_mul (q_ph2 hρ hd (a := 0) ⟨by decide, by decide⟩ (by decide)).1 hR)) (q_ph1 hρ hd (a := 0) ⟨by decide, by decide⟩).1) (by decide)
  · simp only [q_T6, q_L6]; simp only [reduceIte, Int.reduceEq]; exact q_bd_le (q_bd_mul (q_bd_mul (q_ph2 hρ hd (a := 0) ⟨by decide, by decide⟩ (by decide)).1 (hD 3 ⟨by decide, by decide⟩)) (q_ph1 hρ hd (a := 0) ⟨by decide, by decide⟩).1) (by decide)
  · simp only [q_T6, q_L6]; simp only [reduceIte, Int.reduceEq]; exact q_bd_le (q_bd_mul (q_bd_neg (q_bd_mul (q_ph2 hρ hd (a := 0) ⟨by decide, by decide⟩ (by decide)).1 hR)) (q_ph1 hρ hd (a := 0) ⟨by decide, by decide⟩).1) (by decide)
  · simp only [q_T6, q_L6]; simp; exact q_bd_zero _ (by decide)
  · simp only [q_T6, q_L6]; simp only [reduceIte, Int.reduceEq]; exact q_bd_le (q_bd_mul (q_bd_mul (q_ph2 hρ hd (a := 0) ⟨by decide, by decide⟩ (by decide)).1 (hb 3 ⟨by decide, by decide⟩)) (q_ph1 hρ hd (a := 0) ⟨by decide, by decide⟩).1) (by decide)
  · simp only [q_T6, q_L6]; simp; exact q_bd_zero _ (by decide)
  · simp only [q_T6, q_L6]; simp; exact q_bd_zero _ (by decide)
  · simp only [q_T6, q_L6]; simp; exact q_bd_zero _ (by decide)
  · simp only [q_T6, q_L6]; simp only [reduceIte, Int.reduceEq]; exact q_bd_le (q_bd_mul (q_bd_neg (q_bd_mul (q_ph2 hρ hd (a := 0) ⟨by decide, by decide⟩ (by decide)).1 hR)) (q_ph1 hρ hd (a := 0) ⟨by decide, by decide⟩).1) (by decide)
  · simp only [q_T6, q_L6]; simp only [reduceIte, Int.reduceEq]; exact q_bd_le (q_bd_mul (q_bd_mul (q_ph2 hρ hd (a := 0) ⟨by decide, by decide⟩ (by decide)).1 (hD 4 ⟨by decide, by decide⟩)) (q_ph1 hρ hd (a := 0) ⟨by decide, by decide⟩).1) (by decide)
  · simp only [q_T6, q_L6]; simp only [reduceIte, Int.reduceEq]; exact q_bd_le (q_bd_mul (q_bd_neg (q_bd_mul (q_ph2 hρ hd (a := 0) ⟨by decide, by decide⟩ (by decide)).1 hR)) (q_ph1 hρ hd (a := 0) ⟨by decide, by decide⟩).1) (by decide)
  · simp only [q_T6, q_L6]; simp only [reduceIte, Int.reduceEq]; exact q_bd_le (q_bd_mul (q_bd_mul (q_ph2 hρ hd (a := 0) ⟨by decide, by decide⟩ (by decide)).1 (hb 4 ⟨by decide, by decide⟩)) (q_ph1 hρ hd (a := 0) ⟨by decide, by decide⟩).1) (by decide)
  · simp only [q_T6, q_L6]; simp; exact q_bd_zero _ (by decide)
  · simp only [q_T6, q_L6]; simp; exact q_bd_zero _ (by decide)
  · simp only [q_T6, q_L6]; simp only [reduceIte, Int.reduceEq]; exact q_bd_le (q_bd_mul (q_bd_neg (q_bd_mul (q_bd_mul hR hR) hR)) (q_ph1 hρ hd (a := 0) ⟨by decide, by decide⟩).1) (by decide)
  · simp only [q_T6, q_L6]; simp; exact q_bd_zero _ (by decide)
  · simp only [q_T6, q_L6]; simp only [reduceIte, Int.reduceEq]; exact q_bd_le (q_bd_mul (q_bd_neg (q_bd_mul (q_ph2 hρ hd (a := 0) ⟨by decide, by decide⟩ (by decide)).1 hR)) (q_ph1 hρ hd (a := 0) ⟨by decide, by decide⟩).1) (by decide)
  · simp only [q_T6, q_L6]; simp only [reduceIte, Int.reduceEq]; exact q_bd_le (q_bd_mul (q_bd_add (q_bd_mul (q_ph2 hρ hd (a := 0) ⟨by decide, by decide⟩ (by decide)).1 (hD 5 ⟨by decide, by decide⟩)) (q_bd_neg (q_bd_mul (q_bd_mul hR (q_ph1 hρ hd (a := 1) ⟨by decide, by decide⟩).1) hR))) (q_ph1 hρ hd (a := 0) ⟨by decide, by decide⟩).1) (by decide)
  · simp only [q_T6, q_L6]; simp only [reduceIte, Int.reduceEq]; exact q_bd_le (q_bd_mul (q_bd_add (q_bd_add (q_bd_mul (q_ph2 hρ hd (a := 0) ⟨by decide, by decide⟩ (by decide)).1 (hb 5 ⟨by decide, by decide⟩)) (q_bd_mul (q_bd_mul hR (q_ph1 hρ hd (a := 1) ⟨by decide, by decide⟩).1) (hb 0 ⟨by decide, by decide⟩))) (q_bd_mul (q_bd_mul hR hR) (hb 1 ⟨by decide, by decide⟩))) (q_ph1 hρ hd (a := 0) ⟨by decide, by decide⟩).1) (by decide)
theorem q_T6_b2 {ρ : Int} {d b : Int → Int} (hρ : 1 ≤ ρ ∧ ρ ≤ 9) (hd : ∀ k, q_in 6 k → 2 * ρ ≤ d k ∧ d k ≤ 2 * ρ + 18) (hb : ∀ k, q_in 6 k → q_bd (b k) 1809) (r c : Int) (hr : q_in 6 r) (hne : r ≠ 2) (hc : 0 ≤ c ∧ c ≤ 6) : q_bd (q_T6 ρ d b 3 r c * q_L6 ρ d 2) 9223372036854775807 := by
  have hR : q_bd ρ 9 := ⟨by omega, by omega⟩
  have hD : ∀ k, q_in 6 k → q_bd (d k) 36 := fun k hk => ⟨by have := hd k hk; omega, by have := hd k hk; omega⟩
  obtain ⟨h1, h2⟩ := hr
  rcases (show r = 0 ∨ r = 1 ∨ r = 3 ∨ r = 4 ∨ r = 5 by omega) with rfl | rfl | rfl | rfl | rfl <;> rcases (show c = 0 ∨ c = 1 ∨ c = 2 ∨ c = 3 ∨ c = 4 ∨ c = 5 ∨ c = 6 by omega) with rfl | rfl | rfl | rfl | rfl | rfl | rfl
  · simp only [q_T6, q_L6]; simp only [reduceIte, Int.reduceEq]; exact q_bd_le (q_bd_mul (q_ph3 hρ hd (a := 0) ⟨by decide, by decide⟩ (by decide)).1 (q_ph2 hρ hd (a := 0) ⟨by decide, by decide⟩ (by decide)).1) (by decide)
  · simp only [q_T6, q_L6]; simp; exact q_bd_zero _ (by decide)
  · simp only [q_T6, q_L6]; simp; exact q_bd_zero _ (by decide)
  · simp only [q_T6, q_L6]; simp only [reduceIte, Int.reduceEq]; exact q_bd_le (q_bd_mul (q_bd_neg (q_bd_mul (q_bd_pow hR 2) hR)) (q_ph2 hρ hd (a := 0) ⟨by decide, by decide⟩ (by decide)).1) (by decide)
  · simp only [q_T6, q_L6]; simp; exact q_bd_zero _ (by decide)
  · simp only [q_T6, q_L6]; simp only [reduceIte, Int.reduceEq]; exact q_bd_le (q_bd_mul (q_bd_neg (q_bd_mul (q_ph2 hρ hd (a := 1) ⟨by decide, by decide⟩ (by decide)).1 hR)) (q_ph2 hρ hd (a := 0) ⟨by decide, by decide⟩ (by decide)).1) (by decide)
  · simp only [q_T6, q_L6]; simp only [reduceIte, Int.reduceEq]; exact q_bd_le (q_bd_mul (q_bd_add (q_bd_add (q_bd_mul (q_ph2 hρ hd (a := 1) ⟨by decide, by decide⟩ (by decide)).1 (hb 0 ⟨by decide, by decide⟩)) (q_bd_mul (q_bd_mul hR (q_ph1 hρ hd (a := 2) ⟨by decide, by decide⟩).1) (hb 1 ⟨by decide, by decide⟩))) (q_bd_mul (q_bd_pow hR 2) (hb 2 ⟨by decide, by decide⟩))) (q_ph2 hρ hd (a := 0) ⟨by decide, by decide⟩ (by decide)).1) (by decide)
  · simp only [q_T6, q_L6]; simp; exact q_bd_zero _ (by decide)
  · simp only [q_T6, q_L6]; simp only [reduceIte, Int.reduceEq]; exact q_bd_le (q_bd_mul (q_ph3 hρ hd (a := 0) ⟨by decide, by decide⟩ (by decide)).1 (q_ph2 hρ hd (a := 0) ⟨by decide, by decide⟩ (by decide)).1) (by decide)
  · simp only [q_T6, q_L6]; simp; exact q_bd_zero _ (by decide)
  · simp only [q_T6, q_L6]; simp only [reduceIte, Int.reduceEq]; exact q_bd_le (q_bd_mul (q_bd_neg (q_bd_mul (q_bd_mul hR (q_ph1 hρ hd (a := 0) ⟨by decide, by decide⟩).1) hR)) (q_ph2 hρ hd (a := 0) ⟨by decide, by decide⟩ (by decide)).1) (by decide)
  · simp only [q_T6, q_L6]; simp; exact q_bd_zero _ (by decide)
  · simp only [q_T6, q_L6]; simp only [reduceIte, Int.reduceEq]; exact q_bd_le (q_bd_mul (q_bd_neg (q_bd_mul (q_bd_mul hR (q_ph1 hρ hd (a := 2) ⟨by decide, by decide⟩).1) hR)) (q_ph2 hρ hd (a := 0) ⟨by decide, by decide⟩ (by decide)).1) (by decide)
  · simp only [q_T6, q_L6]; simp only [reduceIte, Int.reduceEq]; exact q_bd_le (q_bd_mul (q_bd_add (q_bd_add (q_bd_mul (q_bd_mul hR (q_ph1 hρ hd (a := 2) ⟨by decide, by decide⟩).1) (hb 0 ⟨by decide, by decide⟩)) (q_bd_mul (q_bd_mul (q_ph1 hρ hd (a := 0) ⟨by decide, by decide⟩).1 (q_ph1 hρ hd (a := 2) ⟨by decide, by decide⟩).1) (hb 1 ⟨by decide, by decide⟩))) (q_bd_mul (q_bd_mul hR (q_ph1 hρ hd (a := 0) ⟨by decide, by decide⟩).1) (hb 2 ⟨by decide, by decide⟩))) (q_ph2 hρ hd (a := 0) ⟨by decide, by decide⟩ (by decide)).1) (by decide)
  · simp only [q_T6, q_L6]; simp; exact q_bd_zero _ (by decide)
  · simp only [q_T6, q_L6]; simp; exact q_bd_zero _ (by decide)
  · simp only [q_T6, q_L6]; simp; exact q_bd_zero _ (by decide)
  · simp only [q_T6, q_L6]; simp only [reduceIte, Int.reduceEq]; exact q_bd_le (q_bd_mul (q_ph4 hρ hd (a := 0) ⟨by decide, by decide⟩ (by decide)).1 (q_ph2 hρ hd (a := 0) ⟨by decide, by decide⟩ (by decide)).1) (by decide)
  · simp only [q_T6, q_L6]; simp only [reduceIte, Int.reduceEq]; exact q_bd_le (q_bd_mul (q_bd_neg (q_bd_mul (q_ph3 hρ hd (a := 0) ⟨by decide, by decide⟩ (by decide)).1 hR)) (q_ph2 hρ hd (a := 0) ⟨by decide, by decide⟩ (by decide)).1) (by decide)
  · simp only [q_T6, q_L6]; simp only [reduceIte, Int.reduceEq]; exact q_bd_le (q_bd_mul (q_bd_neg (q_bd_mul (q_bd_mul hR (q_bd_pow hR 2)) hR)) (q_ph2 hρ hd (a := 0) ⟨by decide, by decide⟩ (by decide)).1) (by decide)
  · simp only [q_T6, q_L6]; simp only [reduceIte, Int.reduceEq]; exact q_bd_le (q_bd_mul (q_bd_add (q_bd_add (q_bd_add (q_bd_mul (q_ph3 hρ hd (a := 0) ⟨by decide, by decide⟩ (by decide)).1 (hb 3 ⟨by decide, by decide⟩)) (q_bd_mul (q_bd_mul hR (q_bd_pow hR 2)) (hb 0 ⟨by decide, by decide⟩))) (q_bd_mul (q_bd_mul hR (q_bd_mul hR (q_ph1 hρ hd (a := 0) ⟨by decide, by decide⟩).1)) (hb 1 ⟨by decide, by decide⟩))) (q_bd_mul (q_bd_mul hR (q_ph2 hρ hd (a := 0) ⟨by decide, by decide⟩ (by decide)).1) (hb 2 ⟨by decide, by decide⟩))) (q_ph2 hρ hd (a := 0) ⟨by decide, by decide⟩ (by decide)).1) (by decide)
  · simp only [q_T6, q_L6]; simp; exact q_bd_zero _ (by decide)
  · simp only [q_T6, q_L6]; simp; exact q_bd_zero _ (by decide)
  · simp only [q_T6, q_L6]; simp; exact q_bd_zero _ (by decide)
  · simp only [q_T6, q_L6]; simp only [reduceIte, Int.reduceEq]; exact q_bd_le (q_bd_mul (q_bd_neg (q_bd_mul (q_ph3 hρ hd (a := 0) ⟨by decide, by decide⟩ (by decide)).1 hR)) (q_ph2 hρ hd (a := 0) ⟨by decide, by decide⟩ (by decide)).1) (by decide)
  · simp only [q_T6, q_L6]; simp only [reduceIte, Int.reduceEq]; exact q_bd_le (q_bd_mul (q_bd_mul (q_ph3 hρ hd (a := 0) ⟨by decide, by decide⟩ (by decide)).1 (hD 4 ⟨by decide, by decide⟩)) (q_ph2 hρ hd (a := 0) ⟨by decide, by decide⟩ (by decide)).1) (by decide)
  · simp only [q_T6, q_L6]; simp only [reduceIte, Int.reduceEq]; exact q_bd_le (q_bd_mul (q_bd_neg (q_bd_mul (q_ph3 hρ hd (a := 0) ⟨by decide, by decide⟩ (by decide)).1 hR)) (q_ph2 hρ hd (a := 0) ⟨by decide, by decide⟩ (by decide)).1) (by decide)
  · simp only [q_T6, q_L6]; simp only [reduceIte, Int.reduceEq]; exact q_bd_le (q_bd_mul (q_bd_mul (q_ph3 hρ hd (a := 0) ⟨by decide, by decide⟩ (by decide)).1 (hb 4 ⟨by decide, by decide⟩)) (q_ph2 hρ hd (a := 0) ⟨by decide, by decide⟩ (by decide)).1) (by decide)
  · simp only [q_T6, q_L6]; simp; exact q_bd_zero _ (by decide)
  · simp only [q_T6, q_L6]; simp; exact q_bd_zero _ (by decide)
  · simp only [q_T6, q_L6]; simp; exact q_bd_zero _ (by decide)
  · simp only [q_T6, q_L6]; simp only [reduceIte, Int.reduceEq]; exact q_bd_le (q_bd_mul (q_bd_neg (q_bd_mul (q_bd_mul hR (q_bd_pow hR 2)) hR)) (q_ph2 hρ hd (a := 0) ⟨by decide, by decide⟩ (by decide)).1) (by decide)
  · simp only [q_T6, q_L6]; simp only [reduceIte, Int.reduceEq]; exact q_bd_le (q_bd_mul (q_bd_neg (q_bd_mul (q_ph3 hρ hd (a := 0) ⟨by decide, by decide⟩ (by decide)).1 hR)) (q_ph2 hρ hd (a := 0) ⟨by decide, by decide⟩ (by decide)).1) (by decide)
  · simp only [q_T6, q_L6]; simp only [reduceIte, Int.reduceEq]; exact q_bd_le (q_bd_mul (q_bd_add (q_bd_mul (q_ph3 hρ hd (a := 0) ⟨by decide, by decide⟩ (by decide)).1 (hD 5 ⟨by decide, by decide⟩)) (q_bd_neg (q_bd_mul (q_bd_mul hR (q_ph2 hρ hd (a := 1) ⟨by decide, by decide⟩ (by decide)).1) hR))) (q_ph2 hρ hd (a := 0) ⟨by decide, by decide⟩ (by decide)).1) (by decide)
  · simp only [q_T6, q_L6]; simp only [reduceIte, Int.reduceEq]; exact q_bd_le (q_bd_mul (q_bd_add (q_bd_add (q_bd_add (q_bd_mul (q_ph3 hρ hd (a := 0) ⟨by decide, by decide⟩ (by decide)).1 (hb 5 ⟨by decide, by decide⟩)) (q_bd_mul (q_bd_mul hR (q_ph2 hρ hd (a := 1) ⟨by decide, by decide⟩ (by decide)).1) (hb 0 ⟨by decide, by decide⟩))) (q_bd_mul (q_bd_mul hR (q_bd_mul hR (q_ph1 hρ hd (a := 2) ⟨by decide, by decide⟩).1)) (hb 1 ⟨by decide, by decide⟩))) (q_bd_mul (q_bd_mul hR (q_bd_pow hR 2)) (hb 2 ⟨by decide, by decide⟩))) (q_ph2 hρ hd (a := 0) ⟨by decide, by decide⟩ (by decide)).1) (by decide)
theorem q_T6_b3 {ρ : Int} {d b : Int → Int} (hρ : 1 ≤ ρ ∧ ρ ≤ 9) (hd : ∀ k, q_in 6 k → 2 * ρ ≤ d k ∧ d k ≤ 2 * ρ + 18) (hb : ∀ k, q_in 6 k → q_bd (b k) 1809) (r c : Int) (hr : q_in 6 r) (hne : r ≠ 3) (hc : 0 ≤ c ∧ c ≤ 6) : q_bd (q_T6 ρ d b 4 r c * q_L6 ρ d 3) 9223372036854775807 := by
  have hR : q_bd ρ 9 := ⟨by omega, by omega⟩
  have hD : ∀ k, q_in 6 k → q_bd (d k) 36 := fun k hk => ⟨by have := hd k hk; omega, by have := hd k hk; omega⟩
  obtain ⟨h1, h2⟩ := hr
  rcases (show r = 0 ∨ r = 1 ∨ r = 2 ∨ r = 4 ∨ r = 5 by omega) with rfl | rfl | rfl | rfl | rfl <;> rcases (show c = 0 ∨ c = 1 ∨ c = 2 ∨ c = 3 ∨ c = 4 ∨ c = 5 ∨ c = 6 by omega) with rfl | rfl | rfl | rfl | rfl | rfl | rfl
  · simp only [q_T6, q_L6]; simp only [reduceIte, Int.reduceEq]; exact q_bd_le (q_bd_mul (q_ph4 hρ hd (a := 0) ⟨by decide, by decide⟩ (by decide)).1 (q_ph3 hρ hd (a := 0) ⟨by decide, by decide⟩ (by decide)).1) (by decide)
  · simp only [q_T6, q_L6]; simp; exact q_bd_zero _ (by decide)
  · simp only [q_T6, q_L6]; simp; exact q_bd_zero _ (by decide)
  · simp only [q_T6, q_L6]; simp; exact q_bd_zero _ (by decide)
  · simp only [q_T6, q_L6]; simp only [reduceIte, Int.reduceEq]; exact q_bd_le (q_bd_mul (q_bd_neg (q_bd_mul (q_bd_pow hR 3) hR)) (q_ph3 hρ hd (a := 0) ⟨by decide, by decide⟩ (by decide)).1) (by decide)
  · simp only [q_T6, q_L6]; simp only [reduceIte, Int.reduceEq]; exact q_bd_le (q_bd_mul (q_bd_neg (q_bd_mul (q_ph3 hρ hd (a := 1) ⟨by decide, by decide⟩ (by decide)).1 hR)) (q_ph3 hρ hd (a := 0) ⟨by decide, by decide⟩ (by decide)).1) (by decide)
  · simp only [q_T6, q_L6]; simp only [reduceIte, Int.reduceEq]; exact q_bd_le (q_bd_mul (q_bd_add (q_bd_add (q_bd_add (q_bd_mul (q_ph3 hρ hd (a := 1) ⟨by decide, by decide⟩ (by decide)).1 (hb 0 ⟨by decide, by decide⟩)) (q_bd_mul (q_bd_mul hR (q_ph2 hρ hd (a := 2) ⟨by decide, by decide⟩ (by decide)).1) (hb 1 ⟨by decide, by decide⟩))) (q_bd_mul (q_bd_mul (q_bd_pow hR 2) (q_ph1 hρ hd (a := 3) ⟨by decide, by decide⟩).1) (hb 2 ⟨by decide, by decide⟩))) (q_bd_mul (q_bd_pow hR 3) (hb 3 ⟨by decide, by decide⟩))) (q_ph3 hρ hd (a := 0) ⟨by decide, by decide⟩ (by decide)).1) (by decide)
  · simp only [q_T6, q_L6]; simp; exact q_bd_zero _ (by decide)
  · simp only [q_T6, q_L6]; simp only [reduceIte, Int.reduceEq]; exact q_bd_le (q_bd_mul (q_ph4 hρ hd (a := 0) ⟨by decide, by decide⟩ (by decide)).1 (q_ph3 hρ hd (a := 0) ⟨by decide, by decide⟩ (by decide)).1) (by decide)
  · simp only [q_T6, q_L6]; simp; exact q_bd_zero _ (by decide)
  · simp only [q_T6, q_L6]; simp; exact q_bd_zero _ (by decide)
  · simp only [q_T6, q_L6]; simp only [reduceIte, Int.reduceEq]; exact q_bd_le (q_bd_mul (q_bd_neg (q_bd_mul (q_bd_mul (q_bd_pow hR 2) (q_ph1 hρ hd (a := 0) ⟨by decide, by decide⟩).1) hR)) (q_ph3 hρ hd (a := 0) ⟨by decide, by decide⟩ (by decide)).1) (by decide)
  · simp only [q_T6, q_L6]; simp only [reduceIte, Int.reduceEq]; exact q_bd_le (q_bd_mul (q_bd_neg (q_bd_mul (q_bd_mul hR (q_ph2 hρ hd (a := 2) ⟨by decide, by decide⟩ (by decide)).1) hR)) (q_ph3 hρ hd (a := 0) ⟨by decide, by decide⟩ (by decide)).1) (by decide)
  · simp only [q_T6, q_L6]; simp only [reduceIte, Int.reduceEq]; exact q_bd_le (q_bd_mul (q_bd_add (q_bd_add (q_bd_add (q_bd_mul (q_bd_mul hR (q_ph2 hρ hd (a := 2) ⟨by decide, by decide⟩ (by decide)).1) (hb 0 ⟨by decide, by decide⟩)) (q_bd_mul (q_bd_mul (q_ph1 hρ hd (a := 0) ⟨by decide, by decide⟩).1 (q_ph2 hρ hd (a := 2) ⟨by decide, by decide⟩ (by decide)).1) (hb 1 ⟨by decide, by decide⟩))) (q_bd_mul (q_bd_mul (q_bd_mul hR (q_ph1 hρ hd (a := 0) ⟨by decide, by decide⟩).1) (q_ph1 hρ hd (a := 3) ⟨by decide, by decide⟩).1) (hb 2 ⟨by decide, by decide⟩))) (q_bd_mul (q_bd_mul (q_bd_pow hR 2) (q_ph1 hρ hd (a := 0) ⟨by decide, by decide⟩).1) (hb 3 ⟨by decide, by decide⟩))) (q_ph3 hρ hd (a := 0) ⟨by decide, by decide⟩ (by decide)).1) (by decide)
  · simp only [q_T6, q_L6]; simp; exact q_bd_zero _ (by decide)
  · simp only [q_T6, q_L6]; simp; exact q_bd_zero _ (by decide)
  · simp only [q_T6, q_L6]; simp only [reduceIte, Int.reduceEq]; exact q_bd_le (q_bd_mul (q_ph4 hρ hd (a := 0) ⟨by decide, by decide⟩ (by decide)).1 (q_ph3 hρ hd (a := 0) ⟨by decide, by decide⟩ (by decide)).1) (by decide)
  · simp only [q_T6, q_L6]; simp; exact q_bd_zero _ (by decide)
  · simp only [q_T6, q_L6]; simp only [reduceIte, Int.reduceEq]; exact q_bd_le (q_bd_mul (q_bd_neg (q_bd_mul (q_bd_mul hR (q_ph2 hρ hd (a := 0) ⟨by decide, by decide⟩ (by decide)).1) hR)) (q_ph3 hρ hd (a := 0) ⟨by decide, by decide⟩ (by decide)).1) (by decide)
  · simp only [q_T6, q_L6]; simp only [reduceIte, Int.reduceEq]; exact q_bd_le (q_bd_mul (q_bd_neg (q_bd_mul (q_bd_mul (q_bd_pow hR 2) (q_ph1 hρ hd (a := 3) ⟨by decide, by decide⟩).1) hR)) (q_ph3 hρ hd (a := 0) ⟨by decide, by decide⟩ (by decide)).1) (by decide)
  · simp only [q_T6, q_L6]; simp only [reduceIte, Int.reduceEq]; exact q_bd_le (q_bd_mul (q_bd_add (q_bd_add (q_bd_add (q_bd_mul (q_bd_mul (q_bd_pow hR 2) (q_ph1 hρ hd (a := 3) ⟨by decide, by decide⟩).1) (hb 0 ⟨by decide, by decide⟩)) (q_bd_mul (q_bd_mul (q_bd_mul hR (q_ph1 hρ hd (a := 0) ⟨by decide, by decide⟩).1) (q_ph1 hρ hd (a := 3) ⟨by decide, by decide⟩).1) (hb 1 ⟨by decide, by decide⟩))) (q_bd_mul (q_bd_mul (q_ph2 hρ hd (a := 0) ⟨by decide, by decide⟩ (by decide)).1 (q_ph1 hρ hd (a := 3) ⟨by decide, by decide⟩).1) (hb 2 ⟨by decide, by decide⟩))) (q_bd_mul (q_bd_mul hR (q_ph2 hρ hd (a := 0) ⟨by decide, by decide⟩ (by decide)).1) (hb 3 ⟨by decide, by decide⟩))) (q_ph3 hρ hd (a := 0) ⟨by decide, by decide⟩ (by decide)).1) (by decide)
  · simp only [q_T6, q_L6]; simp; exact q_bd_zero _ (by decide)
  · simp only [q_T6, q_L6]; simp; exact q_bd_zero _ (by decide)
  · simp only [q_T6, q_L6]; simp; exact q_bd_zero _ (by decide)
  · simp only [q_T6, q_L6]; simp; exact q_bd_zero _ (by decide)
  · simp only [q_T6, q_L6]; simp only [reduceIte, Int.reduceEq]; exact q_bd_le (q_bd_mul (q_ph5 hρ hd (a := 0) ⟨by decide, by decide⟩ (by decide)).1 (q_ph3 hρ hd (a := 0) ⟨by decide, by decide⟩ (by decide)).1) (by decide)
  · simp only [q_T6, q_L6]; simp only [reduceIte, Int.reduceEq]; exact q_bd_le (q_bd_mul (q_bd_add (q_bd_neg (q_bd_mul (q_ph4 hρ hd (a := 0) ⟨by decide, by decide⟩ (by decide)).1 hR)) (q_bd_neg (q_bd_mul (q_bd_mul hR (q_bd_pow hR 3)) hR))) (q_ph3 hρ hd (a := 0) ⟨by decide, by decide⟩ (by decide)).1) (by decide)
  · simp only [q_T6, q_L6]; simp only [reduceIte, Int.reduceEq]; exact q_bd_le (q_bd_mul (q_bd_add (q_bd_add (q_bd_add (q_bd_add (q_bd_mul (q_ph4 hρ hd (a := 0) ⟨by decide, by decide⟩ (by decide)).1 (hb 4 ⟨by decide, by decide⟩)) (q_bd_mul (q_bd_mul hR (q_bd_pow hR 3)) (hb 0 ⟨by decide, by decide⟩))) (q_bd_mul (q_bd_mul hR (q_bd_mul (q_bd_pow hR 2) (q_ph1 hρ hd (a := 0) ⟨by decide, by decide⟩).1)) (hb 1 ⟨by decide, by decide⟩))) (q_bd_mul (q_bd_mul hR (q_bd_mul hR (q_ph2 hρ hd (a := 0) ⟨by decide, by decide⟩ (by decide)).1)) (hb 2 ⟨by decide, by decide⟩))) (q_bd_mul (q_bd_mul hR (q_ph3 hρ hd (a := 0) ⟨by decide, by decide⟩ (by decide)).1) (hb 3 ⟨by decide, by decide⟩))) (q_ph3 hρ hd (a := 0) ⟨by decide, by decide⟩ (by decide)).1) (by decide)
  · simp only [q_T6, q_L6]; simp; exact q_bd_zero _ (by decide)
  · simp only [q_T6, q_L6]; simp; exact q_bd_zero _ (by decide)
  · simp only [q_T6, q_L6]; simp; exact q_bd_zero _ (by decide)
  · simp only [q_T6, q_L6]; simp; exact q_bd_zero _ (by decide)
  · simp only [q_T6, q_L6]; simp only [reduceIte, Int.reduceEq]; exact q_bd_le (q_bd_mul (q_bd_add (q_bd_neg (q_bd_mul (q_ph4 hρ hd (a := 0) ⟨by decide, by decide⟩ (by decide)).1 hR)) (q_bd_neg (q_bd_mul (q_bd_mul hR (q_bd_pow hR 3)) hR))) (q_ph3 hρ hd (a := 0) ⟨by decide, by decide⟩ (by decide)).1) (by decide)
  · simp only [q_T6, q_L6]; simp only [reduceIte, Int.reduceEq]; exact q_bd_le (q_bd_mul (q_bd_add (q_bd_mul (q_ph4 hρ hd (a := 0) ⟨by decide, by decide⟩ (by decide)).1 (hD 5 ⟨by decide, by decide⟩)) (q_bd_neg (q_bd_mul (q_bd_mul hR (q_ph3 hρ hd (a := 1) ⟨by decide, by decide⟩ (by decide)).1) hR))) (q_ph3 hρ hd (a := 0) ⟨by decide, by decide⟩ (by decide)).1) (by decide)
  · simp only [q_T6, q_L6]; simp only [reduceIte, Int.reduceEq]; exact q_bd_le (q_bd_mul (q_bd_add (q_bd_add (q_bd_add (q_bd_add (q_bd_mul (q_ph4 hρ hd (a := 0) ⟨by decide, by decide⟩ (by decide)).1 (hb 5 ⟨by decide, by decide⟩)) (q_bd_mul (q_bd_mul hR (q_ph3 hρ hd (a := 1) ⟨by decide, by decide⟩ (by decide)).1) (hb 0 ⟨by decide, by decide⟩))) (q_bd_mul (q_bd_mul hR (q_bd_mul hR (q_ph2 hρ hd (a := 2) ⟨by decide, by decide⟩ (by decide)).1)) (hb 1 ⟨by decide, by decide⟩))) (q_bd_mul (q_bd_mul hR (q_bd_mul (q_bd_pow hR 2) (q_ph1 hρ hd (a := 3) ⟨by decide, by decide⟩).1)) (hb 2 ⟨by decide, by decide⟩))) (q_bd_mul (q_bd_mul hR (q_bd_pow hR 3)) (hb 3 ⟨by decide, by decide⟩))) (q_ph3 hρ hd (a := 0) ⟨by decide, by decide⟩ (by decide)).1) (by decide)
theorem q_T6_b4 {ρ : Int} {d b : Int → Int} (hρ : 1 ≤ ρ ∧ ρ ≤ 9) (hd : ∀ k, q_in 6 k → 2 * ρ ≤ d k ∧ d k ≤ 2 * ρ + 18) (hb : ∀ k, q_in 6 k → q_bd (b k) 1809) (r c : Int) (hr : q_in 6 r) (hne : r ≠ 4) (hc : 0 ≤ c ∧ c ≤ 6) : q_bd (q_T6 ρ d b 5 r c * q_L6 ρ d 4) 9223372036854775807 := by
  have hR : q_bd ρ 9 := ⟨by omega, by omega⟩
  have hD : ∀ k, q_in 6 k → q_bd (d k) 36 := fun k hk => ⟨by have := hd k hk; omega, by have := hd k hk; omega⟩
  obtain ⟨h1, h2⟩ := hr
  rcases (show r = 0 ∨ r = 1 ∨ r = 2 ∨ r = 3 ∨ r = 5 by omega) with rfl | rfl | rfl | rfl | rfl <;> rcases (show c = 0 ∨ c = 1 ∨ c = 2 ∨ c = 3 ∨ c = 4 ∨ c = 5 ∨ c = 6 by omega) with rfl | rfl | rfl | rfl | rfl | rfl | rfl
  · simp only [q_T6, q_L6]; simp only [reduceIte, Int.reduceEq]; exact q_bd_le (q_bd_mul (q_ph5 hρ hd (a := 0) ⟨by decide, by decide⟩ (by decide)).1 (q_ph4 hρ hd (a := 0) ⟨by decide, by decide⟩ (by decide)).1) (by decide)
  · simp only [q_T6, q_L6]; simp; exact q_bd_zero _ (by decide)
  · simp only [q_T6, q_L6]; simp; exact q_bd_zero _ (by decide)
  · simp only [q_T6, q_L6]; simp; exact q_bd_zero _ (by decide)
  · simp only [q_T6, q_L6]; simp; exact q_bd_zero _ (by decide)
  · simp only [q_T6, q_L6]; simp only [reduceIte, Int.reduceEq]; exact q_bd_le (q_bd_mul (q_bd_add (q_bd_neg (q_bd_mul (q_ph4 hρ hd (a := 1) ⟨by decide, by decide⟩ (by decide)).1 hR)) (q_bd_neg (q_bd_mul (q_bd_pow hR 4) hR))) (q_ph4 hρ hd (a := 0) ⟨by decide, by decide⟩ (by decide)).1) (by decide)
  · simp only [q_T6, q_L6]; simp only [reduceIte, Int.reduceEq]; exact q_bd_le (q_bd_mul (q_bd_add (q_bd_add (q_bd_add (q_bd_add (q_bd_mul (q_ph4 hρ hd (a := 1) ⟨by decide, by decide⟩ (by decide)).1 (hb 0 ⟨by decide, by decide⟩)) (q_bd_mul (q_bd_mul hR (q_ph3 hρ hd (a := 2) ⟨by decide, by decide⟩ (by decide)).1) (hb 1 ⟨by decide, by decide⟩))) (q_bd_mul (q_bd_mul (q_bd_pow hR 2) (q_ph2 hρ hd (a := 3) ⟨by decide, by decide⟩ (by decide)).1) (hb 2 ⟨by decide, by decide⟩))) (q_bd_mul (q_bd_mul (q_bd_pow hR 3) (q_ph1 hρ hd (a := 4) ⟨by decide, by decide⟩).1) (hb 3 ⟨by decide, by decide⟩))) (q_bd_mul (q_bd_pow hR 4) (hb 4 ⟨by decide, by decide⟩))) (q_ph4 hρ hd (a := 0) ⟨by decide, by decide⟩ (by decide)).1) (by decide)
  · simp only [q_T6, q_L6]; simp; exact q_bd_zero _ (by decide)
  · simp only [q_T6, q_L6]; simp only [reduceIte, Int.reduceEq]; exact q_bd_le (q_bd_mul (q_ph5 hρ hd (a := 0) ⟨by decide, by decide⟩ (by decide)).1 (q_ph4 hρ hd (a := 0) ⟨by decide, by decide⟩ (by decide)).1) (by decide)
  · simp only [q_T6, q_L6]; simp; exact q_bd_zero _ (by decide)
  · simp only [q_T6, q_L6]; simp; exact q_bd_zero _ (by decide)
  · simp only [q_T6, q_L6]; simp; exact q_bd_zero _ (by decide)
  · simp only [q_T6, q_L6]; simp only [reduceIte, Int.reduceEq]; exact q_bd_le (q_bd_mul (q_bd_add (q_bd_neg (q_bd_mul (q_bd_mul hR (q_ph3 hρ hd (a := 2) ⟨by decide, by decide⟩ (by decide)).1) hR)) (q_bd_neg (q_bd_mul (q_bd_mul (q_bd_pow hR 3) (q_ph1 hρ hd (a := 0) ⟨by decide, by decide⟩).1) hR))) (q_ph4 hρ hd (a := 0) ⟨by decide, by decide⟩ (by decide)).1) (by decide)
  · simp only [q_T6, q_L6]; simp only [reduceIte, Int.reduceEq]; exact q_bd_le (q_bd_mul (q_bd_add (q_bd_add (q_bd_add (q_bd_add (q_bd_mul (q_bd_mul hR (q_ph3 hρ hd (a := 2) ⟨by decide, by decide⟩ (by decide)).1) (hb 0 ⟨by decide, by decide⟩)) (q_bd_mul (q_bd_mul (q_ph1 hρ hd (a := 0) ⟨by decide, by decide⟩).1 (q_ph3 hρ hd (a := 2) ⟨by decide, by decide⟩ (by decide)).1) (hb 1 ⟨by decide, by decide⟩))) (q_bd_mul (q_bd_mul (q_bd_mul hR (q_ph1 hρ hd (a := 0) ⟨by decide, by decide⟩).1) (q_ph2 hρ hd (a := 3) ⟨by decide, by decide⟩ (by decide)).1) (hb 2 ⟨by decide, by decide⟩))) (q_bd_mul (q_bd_mul (q_bd_mul (q_bd_pow hR 2) (q_ph1 hρ hd (a := 0) ⟨by decide, by decide⟩).1) (q_ph1 hρ hd (a := 4) ⟨by decide, by decide⟩).1) (hb 3 ⟨by decide, by decide⟩))) (q_bd_mul (q_bd_mul (q_bd_pow hR 3) (q_ph1 hρ hd (a := 0) ⟨by decide, by decide⟩).1) (hb 4 ⟨by decide, by decide⟩))) (q_ph4 hρ hd (a := 0) ⟨by decide, by decide⟩ (by decide)).1) (by decide)
  · simp only [q_T6, q_L6]; simp; exact q_bd_zero _ (by decide)
  · simp only [q_T6, q_L6]; simp; exact q_bd_zero _ (by decide)
  · simp only [q_T6, q_L6]; simp only [reduceIte, Int.reduceEq]; exact q_bd_le (q_bd_mul (q_ph5 hρ hd (a := 0) ⟨by decide, by decide⟩ (by decide)).1 (q_ph4 hρ hd (a := 0) ⟨by decide, by decide⟩ (by decide)).1) (by decide)
  · simp only [q_T6, q_L6]; simp; exact q_bd_zero _ (by decide)
  · simp only [q_T6, q_L6]; simp; exact q_bd_zero _ (by decide)
  · simp only [q_T6, q_L6]; simp only [reduceIte, Int.reduceEq]; exact q_bd_le (q_bd_mul (q_bd_add (q_bd_neg (q_bd_mul (q_bd_mul (q_bd_pow hR 2) (q_ph2 hρ hd (a := 3) ⟨by decide, by decide⟩ (by decide)).1) hR)) (q_bd_neg (q_bd_mul (q_bd_mul (q_bd_pow hR 2) (q_ph2 hρ hd (a := 0) ⟨by decide, by decide⟩ (by decide)).1) hR))) (q_ph4 hρ hd (a := 0) ⟨by decide, by decide⟩ (by decide)).1) (by decide)
  · simp only [q_T6, q_L6]; simp only [reduceIte, Int.reduceEq]; exact q_bd_le (q_bd_mul (q_bd_add (q_bd_add (q_bd_add (q_bd_add (q_bd_mul (q_bd_mul (q_bd_pow hR 2) (q_ph2 hρ hd (a := 3) ⟨by decide, by decide⟩ (by decide)).1) (hb 0 ⟨by decide, by decide⟩)) (q_bd_mul (q_bd_mul (q_bd_mul hR (q_ph1 hρ hd (a := 0) ⟨by decide, by decide⟩).1) (q_ph2 hρ hd (a := 3) ⟨by decide, by decide⟩ (by decide)).1) (hb 1 ⟨by decide, by decide⟩))) (q_bd_mul (q_bd_mul (q_ph2 hρ hd (a := 0) ⟨by decide, by decide⟩ (by decide)).1 (q_ph2 hρ hd (a := 3) ⟨by decide, by decide⟩ (by decide)).1) (hb 2 ⟨by decide, by decide⟩))) (q_bd_mul (q_bd_mul (q_bd_mul hR (q_ph2 hρ hd (a := 0) ⟨by decide, by decide⟩ (by decide)).1) (q_ph1 hρ hd (a := 4) ⟨by decide, by decide⟩).1) (hb 3 ⟨by decide, by decide⟩))) (q_bd_mul (q_bd_mul (q_bd_pow hR 2) (q_ph2 hρ hd (a := 0) ⟨by decide, by decide⟩ (by decide)).1) (hb 4 ⟨by decide, by decide⟩))) (q_ph4 hρ hd (a := 0) ⟨by decide, by decide⟩ (by decide)).1) (by decide)
  · simp only [q_T6, q_L6]; simp; exact q_bd_zero _ (by decide)
  · simp only [q_T6, q_L6]; simp; exact q_bd_zero _ (by decide)
  · simp only [q_T6, q_L6]; simp; exact q_bd_zero _ (by decide)
  · simp only [q_T6, q_L6]; simp only [reduceIte, Int.reduceEq]; exact q_bd_le (q_bd_mul (q_ph5 hρ hd (a := 0) ⟨by decide, by decide⟩ (by decide)).1 (q_ph4 hρ hd (a := 0) ⟨by decide, by decide⟩ (by decide)).1) (by decide)
  · simp only [q_T6, q_L6]; simp; exact q_bd_zero _ (by decide)
  · simp only [q_T6, q_L6]; simp only [reduceIte, Int.reduceEq]; exact q_bd_le (q_bd_mul (q_bd_add (q_bd_neg (q_bd_mul (q_bd_mul (q_bd_pow hR 3) (q_ph1 hρ hd (a := 4) ⟨by decide, by decide⟩).1) hR)) (q_bd_neg (q_bd_mul (q_bd_mul hR (q_ph3 hρ hd (a := 0) ⟨by decide, by decide⟩ (by decide)).1) hR))) (q_ph4 hρ hd (a := 0) ⟨by decide, by decide⟩ (by decide)).1) (by decide)
  · simp only [q_T6, q_L6]; simp only [reduceIte, Int.reduceEq]; exact q_bd_le (q_bd_mul (q_bd_add (q_bd_add (q_bd_add (q_bd_add (q_bd_mul (q_bd_mul (q_bd_pow hR 3) (q_ph1 hρ hd (a := 4) ⟨by decide, by decide⟩).1) (hb 0 ⟨by decide, by decide⟩)) (q_bd_mul (q_bd_mul (q_bd_mul (q_bd_pow hR 2) (q_ph1 hρ hd (a := 0) ⟨by decide, by decide⟩).1) (q_ph1 hρ hd (a := 4) ⟨by decide, by decide⟩).1) (hb 1 ⟨by decide, by decide⟩))) (q_bd_mul (q_bd_mul (q_bd_mul hR (q_ph2 hρ hd (a := 0) ⟨by decide, by decide⟩ (by decide)).1) (q_ph1 hρ hd (a := 4) ⟨by decide, by decide⟩).1) (hb 2 ⟨by decide, by decide⟩))) (q_bd_mul (q_bd_mul (q_ph3 hρ hd (a := 0) ⟨by decide, by decide⟩ (by decide)).1 (q_ph1 hρ hd (a := 4) ⟨by decide, by decide⟩).1) (hb 3 ⟨by decide, by decide⟩))) (q_bd_mul (q_bd_mul hR (q_ph3 hρ hd (a := 0) ⟨by decide, by decide⟩ (by decide)).1) (hb 4 ⟨by decide, by decide⟩))) (q_ph4 hρ hd (a := 0) ⟨by decide, by decide⟩ (by decide)).1) (by decide)
  · simp only [q_T6, q_L6]; simp; exact q_bd_zero _ (by decide)
  · simp only [q_T6, q_L6]; simp; exact q_bd_zero _ (by decide)
  · simp only [q_T6, q_L6]; simp; exact q_bd_zero _ (by decide)
  · simp only [q_T6, q_L6]; simp; exact q_bd_zero _ (by decide)
  · simp only [q_T6, q_L6]; simp; exact q_bd_zero _ (by decide)
  · simp only [q_T6, q_L6]; simp only [reduceIte, Int.reduceEq]; exact q_bd_le (q_bd_mul (q_bd_add (q_bd_add (q_bd_add (q_bd_mul (hD 0 ⟨by decide, by decide⟩) (q_ph5 hρ hd (a := 1) ⟨by decide, by decide⟩ (by decide)).1) (q_bd_neg (q_bd_mul (q_bd_lit 2 (by decide)) (q_bd_pow hR 6)))) (q_bd_neg (q_bd_mul (q_bd_pow hR 2) (q_ph4 hρ hd (a := 1) ⟨by decide, by decide⟩ (by decide)).1))) (q_bd_neg (q_bd_mul (q_bd_pow hR 2) (q_ph4 hρ hd (a := 2) ⟨by decide, by decide⟩ (by decide)).1))) (q_ph4 hρ hd (a := 0) ⟨by decide, by decide⟩ (by decide)).1) (by decide)
  · simp only [q_T6, q_L6]; simp only [reduceIte, Int.reduceEq]; exact q_bd_le (q_bd_mul (q_bd_add (q_bd_add (q_bd_add (q_bd_add (q_bd_add (q_bd_add (q_bd_add (q_bd_add (q_bd_add (q_bd_add (q_bd_mul (q_ph5 hρ hd (a := 0) ⟨by decide, by decide⟩ (by decide)).1 (hb 5 ⟨by decide, by decide⟩)) (q_bd_mul (q_bd_mul hR (q_ph4 hρ hd (a := 1) ⟨by decide, by decide⟩ (by decide)).1) (hb 0 ⟨by decide, by decide⟩))) (q_bd_mul (q_bd_mul hR (q_bd_mul hR (q_ph3 hρ hd (a := 2) ⟨by decide, by decide⟩ (by decide)).1)) (hb 1 ⟨by decide, by decide⟩))) (q_bd_mul (q_bd_mul hR (q_bd_mul (q_bd_pow hR 2) (q_ph2 hρ hd (a := 3) ⟨by decide, by decide⟩ (by decide)).1)) (hb 2 ⟨by decide, by decide⟩))) (q_bd_mul (q_bd_mul hR (q_bd_mul (q_bd_pow hR 3) (q_ph1 hρ hd (a := 4) ⟨by decide, by decide⟩).1)) (hb 3 ⟨by decide, by decide⟩))) (q_bd_mul (q_bd_mul hR (q_bd_pow hR 4)) (hb 4 ⟨by decide, by decide⟩))) (q_bd_mul (q_bd_mul hR (q_bd_pow hR 4)) (hb 0 ⟨by decide, by decide⟩))) (q_bd_mul (q_bd_mul hR (q_bd_mul (q_bd_pow hR 3) (q_ph1 hρ hd (a := 0) ⟨by decide, by decide⟩).1)) (hb 1 ⟨by decide, by decide⟩))) (q_bd_mul (q_bd_mul hR (q_bd_mul (q_bd_pow hR 2) (q_ph2 hρ hd (a := 0) ⟨by decide, by decide⟩ (by decide)).1)) (hb 2 ⟨by decide, by decide⟩))) (q_bd_mul (q_bd_mul hR (q_bd_mul hR (q_ph3 hρ hd (a := 0) ⟨by decide, by decide⟩ (by decide)).1)) (hb 3 ⟨by decide, by decide⟩))) (q_bd_mul (q_bd_mul hR (q_ph4 hρ hd (a := 0) ⟨by decide, by decide⟩ (by decide)).1) (hb 4 ⟨by decide, by decide⟩))) (q_ph4 hρ hd (a := 0) ⟨by decide, by decide⟩ (by decide)).1) (by decide)
theorem q_T6_b5 {ρ : Int} {d b : Int → Int} (hρ : 1 ≤ ρ ∧ ρ ≤ 9) (hd : ∀ k, q_in 6 k → 2 * ρ ≤ d k ∧ d k ≤ 2 * ρ + 18) (hb : ∀ k, q_in 6 k → q_bd (b k) 1809) (r c : Int) (hr : q_in 6 r) (hne : r ≠ 5) (hc : 0 ≤ c ∧ c ≤ 6) : q_bd (q_T6 ρ d b 6 r c * q_L6 ρ d 5) 9223372036854775807 := by
  have hR : q_bd ρ 9 := ⟨by omega, by omega⟩
  have hD : ∀ k, q_in 6 k → q_bd (d k) 36 := fun k hk => ⟨by have := hd k hk; omega, by have := hd k hk; omega⟩
  obtain ⟨h1, h2⟩ := hr
  rcases (show r = 0 ∨ r = 1 ∨ r = 2 ∨ r = 3 ∨ r = 4 by omega) with rfl | rfl | rfl | rfl | rfl <;> rcases (show c = 0 ∨ c = 1 ∨ c = 2 ∨ c = 3 ∨ c = 4 ∨ c = 5 ∨ c = 6 by omega) with rfl | rfl | rfl | rfl | rfl | rfl | rfl
  · simp only [q_T6, q_L6]; simp only [reduceIte, Int.reduceEq]; exact q_bd_le (q_bd_mul (q_bd_add (q_bd_add (q_bd_add (q_bd_mul (hD 0 ⟨by decide, by decide⟩) (q_ph5 hρ hd (a := 1) ⟨by decide, by decide⟩ (by decide)).1) (q_bd_neg (q_bd_mul (q_bd_lit 2 (by decide)) (q_bd_pow hR 6)))) (q_bd_neg (q_bd_mul (q_bd_pow hR 2) (q_ph4 hρ hd (a := 1) ⟨by decide, by decide⟩ (by decide)).1))) (q_bd_neg (q_bd_mul (q_bd_pow hR 2) (q_ph4 hρ hd (a := 2) ⟨by decide, by decide⟩ (by decide)).1))) (q_ph5 hρ hd (a := 0) ⟨by decide, by decide⟩ (by decide)).1) (by decide)
  · simp only [q_T6, q_L6]; simp; exact q_bd_zero _ (by decide)
  · simp only [q_T6, q_L6]; simp; exact q_bd_zero _ (by decide)
  · simp only [q_T6, q_L6]; simp; exact q_bd_zero _ (by decide)
  · simp only [q_T6, q_L6]; simp; exact q_bd_zero _ (by decide)
  · simp only [q_T6, q_L6]; simp; exact q_bd_zero _ (by decide)
  · simp only [q_T6, q_L6]; simp only [reduceIte, Int.reduceEq]; exact q_bd_le (q_bd_mul (q_bd_add (q_bd_add (q_bd_add (q_bd_add (q_bd_add (q_bd_mul (hb 0 ⟨by decide, by decide⟩) (q_ph5 hρ hd (a := 1) ⟨by decide, by decide⟩ (by decide)).1) (q_bd_mul (hb 1 ⟨by decide, by decide⟩) (q_bd_add (q_bd_mul hR (q_ph4 hρ hd (a := 2) ⟨by decide, by decide⟩ (by decide)).1) (q_bd_pow hR 5)))) (q_bd_mul (hb 2 ⟨by decide, by decide⟩) (q_bd_add (q_bd_mul (q_bd_pow hR 2) (q_ph3 hρ hd (a := 3) ⟨by decide, by decide⟩ (by decide)).1) (q_bd_mul (q_bd_pow hR 4) (q_ph1 hρ hd (a := 1) ⟨by decide, by decide⟩).1)))) (q_bd_mul (hb 3 ⟨by decide, by decide⟩) (q_bd_add (q_bd_mul (q_bd_pow hR 3) (q_ph2 hρ hd (a := 4) ⟨by decide, by decide⟩ (by decide)).1) (q_bd_mul (q_bd_pow hR 3) (q_ph2 hρ hd (a := 1) ⟨by decide, by decide⟩ (by decide)).1)))) (q_bd_mul (hb 4 ⟨by decide, by decide⟩) (q_bd_add (q_bd_mul (q_bd_pow hR 4) (q_ph1 hρ hd (a := 5) ⟨by decide, by decide⟩).1) (q_bd_mul (q_bd_pow hR 2) (q_ph3 hρ hd (a := 1) ⟨by decide, by decide⟩ (by decide)).1)))) (q_bd_mul (hb 5 ⟨by decide, by decide⟩) (q_bd_add (q_bd_pow hR 5) (q_bd_mul hR (q_ph4 hρ hd (a := 1) ⟨by decide, by decide⟩ (by decide)).1)))) (q_ph5 hρ hd (a := 0) ⟨by decide, by decide⟩ (by decide)).1) (by decide)
  · simp only [q_T6, q_L6]; simp; exact q_bd_zero _ (by decide)
  · simp only [q_T6, q_L6]; simp only [reduceIte, Int.reduceEq]; exact q_bd_le (q_bd_mul (q_bd_add (q_bd_add (q_bd_add (q_bd_mul (hD 0 ⟨by decide, by decide⟩) (q_ph5 hρ hd (a := 1) ⟨by decide, by decide⟩ (by decide)).1) (q_bd_neg (q_bd_mul (q_bd_lit 2 (by decide)) (q_bd_pow hR 6)))) (q_bd_neg (q_bd_mul (q_bd_pow hR 2) (q_ph4 hρ hd (a := 1) ⟨by decide, by decide⟩ (by decide)).1))) (q_bd_neg (q_bd_mul (q_bd_pow hR 2) (q_ph4 hρ hd (a := 2) ⟨by decide, by decide⟩ (by decide)).1))) (q_ph5 hρ hd (a := 0) ⟨by decide, by decide⟩ (by decide)).1) (by decide)
  · simp only [q_T6, q_L6]; simp; exact q_bd_zero _ (by decide)
  · simp only [q_T6, q_L6]; simp; exact q_bd_zero _ (by decide)
  · simp only [q_T6, q_L6]; simp; exact q_bd_zero _ (by decide)
  · simp only [q_T6, q_L6]; simp; exact q_bd_zero _ (by decide)
  · simp only [q_T6, q_L6]; simp only [reduceIte, Int.reduceEq]; exact q_bd_le (q_bd_mul (q_bd_add (q_bd_add (q_bd_add (q_bd_add (q_bd_add (q_bd_mul (hb 1 ⟨by decide, by decide⟩) (q_ph5 hρ hd (a := 2) ⟨by decide, by decide⟩ (by decide)).1) (q_bd_mul (hb 2 ⟨by decide, by decide⟩) (q_bd_add (q_bd_mul hR (q_ph4 hρ hd (a := 3) ⟨by decide, by decide⟩ (by decide)).1) (q_bd_pow hR 5)))) (q_bd_mul (hb 3 ⟨by decide, by decide⟩) (q_bd_add (q_bd_mul (q_bd_pow hR 2) (q_ph3 hρ hd (a := 4) ⟨by decide, by decide⟩ (by decide)).1) (q_bd_mul (q_bd_pow hR 4) (q_ph1 hρ hd (a := 2) ⟨by decide, by decide⟩).1)))) (q_bd_mul (hb 4 ⟨by decide, by decide⟩) (q_bd_add (q_bd_mul (q_bd_pow hR 3) (q_ph2 hρ hd (a := 5) ⟨by decide, by decide⟩ (by decide)).1) (q_bd_mul (q_bd_pow hR 3) (q_ph2 hρ hd (a := 2) ⟨by decide, by decide⟩ (by decide)).1)))) (q_bd_mul (hb 5 ⟨by decide, by decide⟩) (q_bd_add (q_bd_mul (q_bd_pow hR 4) (q_ph1 hρ hd (a := 0) ⟨by decide, by decide⟩).1) (q_bd_mul (q_bd_pow hR 2) (q_ph3 hρ hd (a := 2) ⟨by decide, by decide⟩ (by decide)).1)))) (q_bd_mul (hb 0 ⟨by decide, by decide⟩) (q_bd_add (q_bd_pow hR 5) (q_bd_mul hR (q_ph4 hρ hd (a := 2) ⟨by decide, by decide⟩ (by decide)).1)))) (q_ph5 hρ hd (a := 0) ⟨by decide, by decide⟩ (by decide)).1) (by decide)
  · simp only [q_T6, q_L6]; simp; exact q_bd_zero _ (by decide)
  · simp only [q_T6, q_L6]; simp; exact q_bd_zero _ (by decide)
  · simp only [q_T6, q_L6]; simp only [reduceIte, Int.reduceEq]; exact q_bd_le (q_bd_mul (q_bd_add (q_bd_add (q_bd_add (q_bd_mul (hD 0 ⟨by decide, by decide⟩) (q_ph5 hρ hd (a := 1) ⟨by decide, by decide⟩ (by decide)).1) (q_bd_neg (q_bd_mul (q_bd_lit 2 (by decide)) (q_bd_pow hR 6)))) (q_bd_neg (q_bd_mul (q_bd_pow hR 2) (q_ph4 hρ hd (a := 1) ⟨by decide, by decide⟩ (by decide)).1))) (q_bd_neg (q_bd_mul (q_bd_pow hR 2) (q_ph4 hρ hd (a := 2) ⟨by decide, by decide⟩ (by decide)).1))) (q_ph5 hρ hd (a := 0) ⟨by decide, by decide⟩ (by decide)).1) (by decide)
  · simp only [q_T6, q_L6]; simp; exact q_bd_zero _ (by decide)
  · simp only [q_T6, q_L6]; simp; exact q_bd_zero _ (by decide)
  · simp only [q_T6, q_L6]; simp; exact q_bd_zero _ (by decide)
  · simp only [q_T6, q_L6]; simp only [reduceIte, Int.reduceEq]; exact q_bd_le (q_bd_mul (q_bd_add (q_bd_add (q_bd_add (q_bd_add (q_bd_add (q_bd_mul (hb 2 ⟨by decide, by decide⟩) (q_ph5 hρ hd (a := 3) ⟨by decide, by decide⟩ (by decide)).1) (q_bd_mul (hb 3 ⟨by decide, by decide⟩) (q_bd_add (q_bd_mul hR (q_ph4 hρ hd (a := 4) ⟨by decide, by decide⟩ (by decide)).1) (q_bd_pow hR 5)))) (q_bd_mul (hb 4 ⟨by decide, by decide⟩) (q_bd_add (q_bd_mul (q_bd_pow hR 2) (q_ph3 hρ hd (a := 5) ⟨by decide, by decide⟩ (by decide)).1) (q_bd_mul (q_bd_pow hR 4) (q_ph1 hρ hd (a := 3) ⟨by decide, by decide⟩).1)))) (q_bd_mul (hb 5 ⟨by decide, by decide⟩) (q_bd_add (q_bd_mul (q_bd_pow hR 3) (q_ph2 hρ hd (a := 0) ⟨by decide, by decide⟩ (by decide)).1) (q_bd_mul (q_bd_pow hR 3) (q_ph2 hρ hd (a := 3) ⟨by decide, by decide⟩ (by decide)).1)))) (q_bd_mul (hb 0 ⟨by decide, by decide⟩) (q_bd_add (q_bd_mul (q_bd_pow hR 4) (q_ph1 hρ hd (a := 1) ⟨by decide, by decide⟩).1) (q_bd_mul (q_bd_pow hR 2) (q_ph3 hρ hd (a := 3) ⟨by decide, by decide⟩ (by decide)).1)))) (q_bd_mul (hb 1 ⟨by decide, by decide⟩) (q_bd_add (q_bd_pow hR 5) (q_bd_mul hR (q_ph4 hρ hd (a := 3) ⟨by decide, by decide⟩ (by decide)).1)))) (q_ph5 hρ hd (a := 0) ⟨by decide, by decide⟩ (by decide)).1) (by decide)
  · simp only [q_T6, q_L6]; simp; exact q_bd_zero _ (by decide)
  · simp only [q_T6, q_L6]; simp; exact q_bd_zero _ (by decide)
  · simp only [q_T6, q_L6]; simp; exact q_bd_zero _ (by decide)
  · simp only [q_T6, q_L6]; simp only [reduceIte, Int.reduceEq]; exact q_bd_le (q_bd_mul (q_bd_add (q_bd_add (q_bd_add (q_bd_mul (hD 0 ⟨by decide, by decide⟩) (q_ph5 hρ hd (a := 1) ⟨by decide, by decide⟩ (by decide)).1) (q_bd_neg (q_bd_mul (q_bd_lit 2 (by decide)) (q_bd_pow hR 6)))) (q_bd_neg (q_bd_mul (q_bd_pow hR 2) (q_ph4 hρ hd (a := 1) ⟨by decide, by decide⟩ (by decide)).1))) (q_bd_neg (q_bd_mul (q_bd_pow hR 2) (q_ph4 hρ hd (a := 2) ⟨by decide, by decide⟩ (by decide)).1))) (q_ph5 hρ hd (a := 0) ⟨by decide, by decide⟩ (by decide)).1) (by decide)
  · simp only [q_T6, q_L6]; simp; exact q_bd_zero _ (by decide)
  · simp only [q_T6, q_L6]; simp; exact q_bd_zero _ (by decide)
  · simp only [q_T6, q_L6]; simp only [reduceIte, Int.reduceEq]; exact q_bd_le (q_bd_mul (q_bd_add (q_bd_add (q_bd_add (q_bd_add (q_bd_add (q_bd_mul (hb 3 ⟨by decide, by decide⟩) (q_ph5 hρ hd (a := 4) ⟨by decide, by decide⟩ (by decide)).1) (q_bd_mul (hb 4 ⟨by decide, by decide⟩) (q_bd_add (q_bd_mul hR (q_ph4 hρ hd (a := 5) ⟨by decide, by decide⟩ (by decide)).1) (q_bd_pow hR 5)))) (q_bd_mul (hb 5 ⟨by decide, by decide⟩) (q_bd_add (q_bd_mul (q_bd_pow hR 2) (q_ph3 hρ hd (a := 0) ⟨by decide, by decide⟩ (by decide)).1) (q_bd_mul (q_bd_pow hR 4) (q_ph1 hρ hd (a := 4) ⟨by decide, by decide⟩).1)))) (q_bd_mul (hb 0 ⟨by decide, by decide⟩) (q_bd_add (q_bd_mul (q_bd_pow hR 3) (q_ph2 hρ hd (a := 1) ⟨by decide, by decide⟩ (by decide)).1) (q_bd_mul (q_bd_pow hR 3) (q_ph2 hρ hd (a := 4) ⟨by decide, by decide⟩ (by decide)).1)))) (q_bd_mul (hb 1 ⟨by decide, by decide⟩) (q_bd_add (q_bd_mul (q_bd_pow hR 4) (q_ph1 hρ hd (a := 2) ⟨by decide, by decide⟩).1) (q_bd_mul (q_bd_pow hR 2) (q_ph3 hρ hd (a := 4) ⟨by decide, by decide⟩ (by decide)).1)))) (q_bd_mul (hb 2 ⟨by decide, by decide⟩) (q_bd_add (q_bd_pow hR 5) (q_bd_mul hR (q_ph4 hρ hd (a := 4) ⟨by decide, by decide⟩ (by decide)).1)))) (q_ph5 hρ hd (a := 0) ⟨by decide, by decide⟩ (by decide)).1) (by decide)
  · simp only [q_T6, q_L6]; simp; exact q_bd_zero _ (by decide)
  · simp only [q_T6, q_L6]; simp; exact q_bd_zero _ (by decide)
  · simp only [q_T6, q_L6]; simp; exact q_bd_zero _ (by decide)
  · simp only [q_T6, q_L6]; simp; exact q_bd_zero _ (by decide)
  · simp only [q_T6, q_L6]; simp only [reduceIte, Int.reduceEq]; exact q_bd_le (q_bd_mul (q_bd_add (q_bd_add (q_bd_add (q_bd_mul (hD 0 ⟨by decide, by decide⟩) (q_ph5 hρ hd (a := 1) ⟨by decide, by decide⟩ (by decide)).1) (q_bd_neg (q_bd_mul (q_bd_lit 2 (by decide)) (q_bd_pow hR 6)))) (q_bd_neg (q_bd_mul (q_bd_pow hR 2) (q_ph4 hρ hd (a := 1) ⟨by decide, by decide⟩ (by decide)).1))) (q_bd_neg (q_bd_mul (q_bd_pow hR 2) (q_ph4 hρ hd (a := 2) ⟨by decide, by decide⟩ (by decide)).1))) (q_ph5 hρ hd (a := 0) ⟨by decide, by decide⟩ (by decide)).1) (by decide)
  · simp only [q_T6, q_L6]; simp; exact q_bd_zero _ (by decide)
  · simp only [q_T6, q_L6]; simp only [reduceIte, Int.reduceEq]; exact q_bd_le (q_bd_mul (q_bd_add (q_bd_add (q_bd_add (q_bd_add (q_bd_add (q_bd_mul (hb 4 ⟨by decide, by decide⟩) (q_ph5 hρ hd (a := 5) ⟨by decide, by decide⟩ (by decide)).1) (q_bd_mul (hb 5 ⟨by decide, by decide⟩) (q_bd_add (q_bd_mul hR (q_ph4 hρ hd (a := 0) ⟨by decide, by decide⟩ (by decide)).1) (q_bd_pow hR 5)))) (q_bd_mul (hb 0 ⟨by decide, by decide⟩) (q_bd_add (q_bd_mul (q_bd_pow hR 2) (q_ph3 hρ hd (a := 1) ⟨by decide, by decide⟩ (by decide)).1) (q_bd_mul (q_bd_pow hR 4) (q_ph1 hρ hd (a := 5) ⟨by decide, by decide⟩).1)))) (q_bd_mul (hb 1 ⟨by decide, by decide⟩) (q_bd_add (q_bd_mul (q_bd_pow hR 3) (q_ph2 hρ hd (a := 2) ⟨by decide, by decide⟩ (by decide)).1) (q_bd_mul (q_bd_pow hR 3) (q_ph2 hρ hd (a := 5) ⟨by decide, by decide⟩ (by decide)).1)))) (q_bd_mul (hb 2 ⟨by decide, by decide⟩) (q_bd_add (q_bd_mul (q_bd_pow hR 4) (q_ph1 hρ hd (a := 3) ⟨by decide, by decide⟩).1) (q_bd_mul (q_bd_pow hR 2) (q_ph3 hρ hd (a := 5) ⟨by decide, by decide⟩ (by decide)).1)))) (q_bd_mul (hb 3 ⟨by decide, by decide⟩) (q_bd_add (q_bd_pow hR 5) (q_bd_mul hR (q_ph4 hρ hd (a := 5) ⟨by decide, by decide⟩ (by decide)).1)))) (q_ph5 hρ hd (a := 0) ⟨by decide, by decide⟩ (by decide)).1) (by decide)
