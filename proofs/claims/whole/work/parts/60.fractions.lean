/-! ===== fractions compared ===== -/
theorem q_divmod {a b : Int} (ha : 0 ≤ a) (hb : 0 < b) : a.tdiv b = a / b ∧ a.tmod b = a % b ∧ 0 ≤ a / b ∧ 0 ≤ a % b ∧ a % b < b ∧ a = b * (a / b) + a % b := ⟨Int.tdiv_eq_ediv_of_nonneg ha, Int.tmod_eq_emod_of_nonneg ha, Int.ediv_nonneg ha (Int.le_of_lt hb), Int.emod_nonneg _ (by omega), Int.emod_lt_of_pos _ hb, (Int.mul_ediv_add_emod a b).symm⟩
theorem q_quo_lt {a b c d : Int} (ha : 0 ≤ a) (hb : 0 < b) (hc : 0 ≤ c) (hd : 0 < d) (h : a / b < c / d) : a * d < c * b := by
  obtain ⟨-, -, a0, a1, a2, a3⟩ := q_divmod ha hb
  obtain ⟨-, -, c0, c1, c2, c3⟩ := q_divmod hc hd
  have h1 : a * d < (b * (a / b) + b) * d := Int.mul_lt_mul_of_pos_right (by omega) hd
  have h2 : (d * (c / d)) * b ≤ c * b := Int.mul_le_mul_of_nonneg_right (by omega) (Int.le_of_lt hb)
  have h3 : (a / b + 1) * (b * d) ≤ (c / d) * (b * d) := Int.mul_le_mul_of_nonneg_right (by omega) (Int.le_of_lt (Int.mul_pos hb hd))
  have e1 : (b * (a / b) + b) * d = (a / b + 1) * (b * d) := by grind
  have e2 : (d * (c / d)) * b = (c / d) * (b * d) := by grind
  omega
theorem q_quo_eq {a b c d : Int} (ha : 0 ≤ a) (hb : 0 < b) (hc : 0 ≤ c) (hd : 0 < d) (h : a / b = c / d) : a * d - c * b = (a % b) * d - (c % d) * b := by
  obtain ⟨-, -, a0, a1, a2, a3⟩ := q_divmod ha hb
  obtain ⟨-, -, c0, c1, c2, c3⟩ := q_divmod hc hd
  have e1 : a * d = (b * (a / b) + a % b) * d := by rw [← a3]
  have e2 : c * b = (d * (c / d) + c % d) * b := by rw [← c3]
  rw [e1, e2, h]
  grind
theorem L_compare {a b c d : Int} {s : Mem} (ha : 0 ≤ a ∧ InL a) (hb : 0 < b ∧ b ≤ 2176782336) (hc : 0 ≤ c ∧ InL c) (hd : 0 < d ∧ d ≤ 2176782336) {Q : Int → Mem → Prop} (hQ : ∀ r : Int, InI r → (r < 0 ↔ a * d < c * b) → Q r s) : x7_compareFractions a b c d s Q := by
  obtain ⟨ea, ma, a0, a1, a2, a3⟩ := q_divmod ha.1 hb.1
  obtain ⟨ec, mc, c0, c1, c2, c3⟩ := q_divmod hc.1 hd.1
  have la : a / b ≤ a := Int.ediv_le_self _ ha.1
  have lc : c / d ≤ c := Int.ediv_le_self _ hc.1
  have haL := ha.2.2
  have hcL := hc.2.2
  have qa : InL (a / b) := by constructor <;> omega
  have qc : InL (c / d) := by constructor <;> omega
  have m1 : 0 ≤ (a % b) * d := Int.mul_nonneg a1 (Int.le_of_lt hd.1)
  have m2 : (a % b) * d ≤ 2176782336 * 2176782336 := Int.mul_le_mul (by omega) hd.2 (Int.le_of_lt hd.1) (by omega)
  have m3 : 0 ≤ (c % d) * b := Int.mul_nonneg c1 (Int.le_of_lt hb.1)
  have m4 : (c % d) * b ≤ 2176782336 * 2176782336 := Int.mul_le_mul (by omega) hb.2 (Int.le_of_lt hb.1) (by omega)
  unfold x7_compareFractions
  rw [ea, ec, ma, mc]
  have LB : InL b := by constructor <;> omega
  have LD : InL d := by constructor <;> omega
  refine ⟨⟨LB, by omega⟩, fun q => absurd q (by omega), fun _ => ⟨⟨LD, by omega⟩, fun _ => ⟨⟨ha.2, LB, by omega⟩, ⟨hc.2, LD, by omega⟩, ⟨qa, qc⟩, fun q => ⟨⟨ha.2, LB, by omega⟩, ⟨hc.2, LD, by omega⟩, ?_⟩, fun q => ?_⟩, fun q => absurd q (by omega)⟩⟩
  · have e := q_quo_eq ha.1 hb.1 hc.1 hd.1 q
    have i1 : InL ((a % b) * d) := by constructor <;> omega
    have i2 : InL ((c % d) * b) := by constructor <;> omega
    refine ⟨⟨i1, i2⟩, fun w => ⟨⟨i1, i2⟩, fun w2 => hQ 1 (by omega) (by omega), fun w2 => hQ 0 (by omega) (by omega)⟩, fun w => hQ (-1) (by omega) (by omega)⟩
  · refine ⟨⟨qa, qc⟩, fun w => ⟨⟨qa, qc⟩, fun w2 => hQ 1 (by omega) ?_, fun w2 => absurd w2 q⟩, fun w => hQ (-1) (by omega) ?_⟩
    · have := q_quo_lt hc.1 hd.1 ha.1 hb.1 (show c / d < a / b by omega)
      omega
    · have := q_quo_lt ha.1 hb.1 hc.1 hd.1 w
      omega
theorem B_held {a b c d : Int} {s : Mem} (ha : 0 ≤ a ∧ InL a) (hb : 0 < b ∧ InL b) (hc : 0 ≤ c ∧ InL c) (hd : 0 < d ∧ InL d) {Q : Int → Mem → Prop} (hQ : ∀ r : Int, InI r → (r < 0 ↔ a * d < c * b) → Q r s) : x8_held a b c d s Q := by
  apply x8_held_i
  have key : ∀ (m : Nat) (x y z w g : Int), (0 ≤ x ∧ InL x) → (0 < y ∧ InL y) → (0 ≤ z ∧ InL z) → (0 < w ∧ InL w) → y.toNat ≤ m → (g = 1 ∨ g = -1) → (∀ r : Int, InI r → ((g = 1 → (r < 0 ↔ x * w < z * y)) ∧ (g = -1 → (r < 0 ↔ z * y < x * w))) → Q r s) → x8_held_L17 Q x y z w g s := by
    intro m
    induction m with
    | zero => intro x y z w g hx hy hz hw hm; omega
    | succ m ih =>
      intro x y z w g hx hy hz hw hm hg hQ
      obtain ⟨ex, mx, x0, x1, x2, x3⟩ := q_divmod hx.1 hy.1
      obtain ⟨ez, mz, z0, z1, z2, z3⟩ := q_divmod hz.1 hw.1
      have lx : x / y ≤ x := Int.ediv_le_self _ hx.1
      have lz : z / w ≤ z := Int.ediv_le_self _ hz.1
      have hxL := hx.2.2
      have hzL := hz.2.2
      have hyL := hy.2.2
      have hwL := hw.2.2
      have qx : InL (x / y) := by constructor <;> omega
      have qz : InL (z / w) := by constructor <;> omega
      have rx : InL (x % y) := by constructor <;> omega
      have rz : InL (z % w) := by constructor <;> omega
      apply x8_held_s17
      unfold x8_held_b17
      rw [ex, ez, mx, mz]
      have fin : x / y = z / w → x % y = 0 ∨ z % w = 0 → x8_held_L85 Q (x % y) (z % w) g s := fun q h0 => by
        have e := q_quo_eq hx.1 hy.1 hz.1 hw.1 q
        have p1 : 0 < x % y → 0 < (x % y) * w := fun h => Int.mul_pos h hw.1
        have p2 : 0 < z % w → 0 < (z % w) * y := fun h => Int.mul_pos h hy.1
        have n1 : x % y = 0 → (x % y) * w = 0 := fun h => by rw [h, Int.zero_mul]
        have n2 : z % w = 0 → (z % w) * y = 0 := fun h => by rw [h, Int.zero_mul]
        apply x8_held_s85
        refine ⟨⟨rx, rz⟩, fun v => ⟨⟨rx, by omega⟩, fun v2 => hQ g (by omega) ?_, fun v2 => hQ (0 - g) (by omega) ?_⟩, fun v => hQ 0 (by omega) ?_⟩
        · have a1 := p1 (by omega)
          have a2 := n2 (by omega)
          rcases hg with h | h <;> subst h <;> omega
        · have a1 := n1 (by omega)
          have a2 := p2 (by omega)
          rcases hg with h | h <;> subst h <;> omega
        · have a1 := n1 (by omega)
          have a2 := n2 (by omega)
          omega
      refine ⟨⟨hx.2, hy.2, by omega⟩, ⟨hz.2, hw.2, by omega⟩, ⟨qx, qz⟩, fun q => ⟨⟨hx.2, hy.2, by omega⟩, ⟨hz.2, hw.2, by omega⟩, ⟨rx, by omega⟩, fun v => fin q (Or.inl v), fun v => ⟨⟨rz, by omega⟩, fun v2 => ?_, fun v2 => fin q (Or.inr v2)⟩⟩, fun q => ⟨⟨qx, qz⟩, fun v => hQ g (by omega) ?_, fun v => hQ (0 - g) (by omega) ?_⟩⟩
      · have e := q_quo_eq hx.1 hy.1 hz.1 hw.1 q
        refine ih y (x % y) w (z % w) (0 - g) ⟨by omega, hy.2⟩ ⟨by omega, rx⟩ ⟨by omega, hw.2⟩ ⟨by omega, rz⟩ (by omega) (by omega) (fun r hr hh => hQ r hr ⟨fun h1 => ?_, fun h1 => ?_⟩)
        · have := hh.2 (by omega)
          rw [this, Int.mul_comm w (x % y), Int.mul_comm y (z % w)]
          omega
        · have := hh.1 (by omega)
          rw [this, Int.mul_comm w (x % y), Int.mul_comm y (z % w)]
          omega
      · have := q_quo_lt hz.1 hw.1 hx.1 hy.1 (show z / w < x / y by omega)
        rcases hg with h | h <;> subst h <;> omega
      · have := q_quo_lt hx.1 hy.1 hz.1 hw.1 v
        rcases hg with h | h <;> subst h <;> omega
  exact key _ a b c d 1 ha hb hc hd (Nat.le_refl _) (Or.inl rfl) (fun r hr hh => hQ r hr (hh.1 rfl))
/-- the first where f is least -/
def q_amin (f : Int → Int) : Nat → Int
  | 0 => 0
  | N + 1 => if f N < f (q_amin f N) then (N : Int) else q_amin f N
theorem q_amin_in (f : Int → Int) : ∀ N : Nat, 0 < N → q_in N (q_amin f N)
  | 0, h => absurd h (by omega)
  | 1, _ => by
    unfold q_amin
    split
    · exact ⟨by omega, by omega⟩
    · show q_in (1 : Nat) (q_amin f 0)
      exact ⟨Int.le_refl 0, by show (0 : Int) < ((1 : Nat) : Int); omega⟩
  | N + 2, _ => by
    have ih := q_amin_in f (N + 1) (by omega)
    have i1 := ih.1
    have i2 := ih.2
    show q_in ((N + 2 : Nat) : Int) (if f ((N + 1 : Nat) : Int) < f (q_amin f (N + 1)) then ((N + 1 : Nat) : Int) else q_amin f (N + 1))
    split
    · exact ⟨by omega, by omega⟩
    · exact ⟨i1, by omega⟩
theorem q_amin_congr {f g : Int → Int} : ∀ N : Nat, (∀ j k, q_in N j → q_in N k → (f j < f k ↔ g j < g k)) → q_amin f N = q_amin g N
  | 0, _ => rfl
  | 1, h => by
    show (if f ((0 : Nat) : Int) < f 0 then ((0 : Nat) : Int) else 0) = if g ((0 : Nat) : Int) < g 0 then ((0 : Nat) : Int) else 0
    split <;> split <;> rfl
  | N + 2, h => by
    have ih := q_amin_congr (f := f) (g := g) (N + 1) (fun j k hj hk => h j k ⟨hj.1, by have := hj.2; omega⟩ ⟨hk.1, by have := hk.2; omega⟩)
    have hi := q_amin_in f (N + 1) (by omega)
    show (if f ((N + 1 : Nat) : Int) < f (q_amin f (N + 1)) then ((N + 1 : Nat) : Int) else q_amin f (N + 1)) = if g ((N + 1 : Nat) : Int) < g (q_amin g (N + 1)) then ((N + 1 : Nat) : Int) else q_amin g (N + 1)
    have := h ((N + 1 : Nat) : Int) (q_amin f (N + 1)) ⟨by omega, by omega⟩ ⟨hi.1, by have := hi.2; omega⟩
    rw [← ih]
    by_cases w : f ((N + 1 : Nat) : Int) < f (q_amin f (N + 1))
    · rw [if_pos w, if_pos (this.mp w)]
    · rw [if_neg w, if_neg (fun z => w (this.mpr z))]
