theorem q_IsG_congr {n ρ : Int} {st pd tu lo br st' pd' tu' lo' br' : Int → Int} {h F : Int} {u : Int → Int} {D : Int} (hs : ∀ k, q_in n k → st k = st' k ∧ pd k = pd' k ∧ tu k = tu' k ∧ lo k = lo' k ∧ br k = br' k) (hG : q_IsG n ρ st pd tu lo br h F u D) : q_IsG n ρ st' pd' tu' lo' br' h F u D := by
  refine ⟨hG.1, fun k hk => ?_⟩
  have h1 := hG.2 k hk
  obtain ⟨e1, e2, e3, e4, e5⟩ := hs k hk
  unfold q_pl at h1 ⊢
  rw [← e1, ← e2, ← e3, ← e4, ← e5]
  exact h1
theorem q_ok_congr {n ρ : Int} {st pd tu lo br st' pd' tu' lo' br' : Int → Int} (hs : ∀ k, q_in n k → st k = st' k ∧ pd k = pd' k ∧ tu k = tu' k ∧ lo k = lo' k ∧ br k = br' k) (ok : q_ok n ρ st pd tu lo br) : q_ok n ρ st' pd' tu' lo' br' := by
  refine ⟨ok.1, ok.2.1, fun k hk => ?_, ?_⟩
  · obtain ⟨e1, e2, e3, e4, e5⟩ := hs k hk
    rw [← e1, ← e2, ← e3, ← e4, ← e5]
    exact ok.2.2.1 k hk
  · obtain ⟨k, hk, hb⟩ := ok.2.2.2
    exact ⟨k, hk, by rw [← (hs k hk).2.2.2.2]; exact hb⟩
/-- the class's lifts o are ready to be asked -/
def RdyA (o : Nat) (s : Mem) : Prop := (3 ≤ s 1 0 ∧ s 1 0 ≤ 6) ∧ (0 ≤ s 1 2 ∧ s 1 2 < 64) ∧ (∀ k, q_in (s 1 0) k → (1 ≤ s 2 k ∧ s 2 k ≤ 9) ∧ (1 ≤ s 3 k ∧ s 3 k ≤ 9) ∧ (0 ≤ s 4 k ∧ s 4 k ≤ 201)) ∧ (0 < s o 1 ∧ s o 1 ≤ 2176782336) ∧ ∀ k, q_in (s 1 0) k → q_bd (s (o + 1) k) 1995383808000
def pA (o : Nat) (s : Mem) (k : Int) : Int := q_pl (s 2) (s 4) (c_br s) (s (o + 1)) (s o 1) k
def rA (o : Nat) (s : Mem) (k : Int) : Int := q_press (s 3 k) (s (o + 1) k)
def RdyB (t : Mem) : Prop := (3 ≤ t 0 0 ∧ t 0 0 ≤ 6) ∧ (∀ k, q_in (t 0 0) k → (1 ≤ t 1 k ∧ t 1 k ≤ 9) ∧ (1 ≤ t 2 k ∧ t 2 k ≤ 9) ∧ (0 ≤ t 3 k ∧ t 3 k ≤ 201) ∧ (t 5 k = 0 ∨ t 5 k = 1)) ∧ (0 < t 0 15 ∧ t 0 15 ≤ 2176782336) ∧ ∀ k, q_in (t 0 0) k → q_bd (t 12 k) 1995383808000
def pB (t : Mem) (k : Int) : Int := q_pl (t 1) (t 3) (t 5) (t 12) (t 0 15) k
def rB (t : Mem) (k : Int) : Int := q_press (t 2 k) (t 12 k)
theorem Settled.rdy {o : Nat} (ho : LfA o) {σ : Mem} {a : Nat} (hJ : JA σ a) {h t : Int} {s : Mem} (hS : Settled o σ a h t s) : RdyA o s := by
  obtain ⟨f, -, hD, hu⟩ := hS
  have e1 := f 1 (by rcases ho with rfl | rfl <;> omega)
  have e2 := f 2 (by rcases ho with rfl | rfl <;> omega)
  have e3 := f 3 (by rcases ho with rfl | rfl <;> omega)
  have e4 := f 4 (by rcases ho with rfl | rfl <;> omega)
  unfold RdyA
  rw [e1, e2, e3, e4]
  exact ⟨hJ.n, hJ.2.1, fun k hk => ⟨(hJ.k hk).1, (hJ.k hk).2.1, (hJ.k hk).2.2.1⟩, hD, hu⟩
theorem q_pl_bd {st tu br u : Int → Int} {D k : Int} (hst : 1 ≤ st k ∧ st k ≤ 9) (ht : 0 ≤ tu k ∧ tu k ≤ 201) (hD : 0 < D ∧ D ≤ 2176782336) (hu : q_bd (u k) 1995383808000) : 0 ≤ q_pl st tu br u D k ∧ q_pl st tu br u D k ≤ 30000000000000 := by
  have m1 := Int.mul_nonneg ht.1 (Int.le_of_lt hD.1)
  have m2 : tu k * D ≤ 201 * 2176782336 := Int.mul_le_mul ht.2 hD.2 (Int.le_of_lt hD.1) (by omega)
  have u1 := hu.1
  unfold q_pl q_pull
  split
  · split
    · have := Int.mul_nonneg (show 0 ≤ st k by omega) (show 0 ≤ tu k * D - u k by omega)
      have m3 : st k * (tu k * D - u k) ≤ 9 * (201 * 2176782336 + 1995383808000) := Int.mul_le_mul hst.2 (by omega) (by omega) (by omega)
      omega
    · omega
  · omega
theorem q_press_bd {pd u : Int} (hp : 1 ≤ pd ∧ pd ≤ 9) (hu : q_bd u 1995383808000) : 0 ≤ q_press pd u ∧ q_press pd u ≤ 30000000000000 := by
  have u1 := hu.2
  unfold q_press
  split
  · have := Int.mul_nonneg (show 0 ≤ pd by omega) (show 0 ≤ u by omega)
    have m3 : pd * u ≤ 9 * 1995383808000 := Int.mul_le_mul hp.2 (by omega) (by omega) (by omega)
    omega
  · omega
theorem RdyA.p {o : Nat} {s : Mem} (h : RdyA o s) {k : Int} (hk : q_in (s 1 0) k) : 0 ≤ pA o s k ∧ pA o s k ≤ 30000000000000 := q_pl_bd (h.2.2.1 k hk).1 (h.2.2.1 k hk).2.2 h.2.2.2.1 (h.2.2.2.2 k hk)
theorem RdyA.r {o : Nat} {s : Mem} (h : RdyA o s) {k : Int} (hk : q_in (s 1 0) k) : 0 ≤ rA o s k ∧ rA o s k ≤ 30000000000000 := q_press_bd (h.2.2.1 k hk).2.1 (h.2.2.2.2 k hk)
theorem RdyB.p {t : Mem} (h : RdyB t) {k : Int} (hk : q_in (t 0 0) k) : 0 ≤ pB t k ∧ pB t k ≤ 30000000000000 := q_pl_bd (h.2.1 k hk).1 (h.2.1 k hk).2.2.1 h.2.2.1 (h.2.2.2 k hk)
theorem RdyB.r {t : Mem} (h : RdyB t) {k : Int} (hk : q_in (t 0 0) k) : 0 ≤ rB t k ∧ rB t k ≤ 30000000000000 := q_press_bd (h.2.1 k hk).2.1 (h.2.2.2 k hk)
theorem L_pullUpper {o : Nat} {s : Mem} (h : RdyA o s) {k : Int} (hk : q_in (s 1 0) k) {Q : Int → Mem → Prop} (hQ : Q (pA o s k) s) : x3_pullUpper o k s Q := by
  have h1 := hk.1
  have h2 := hk.2
  have hn := h.1
  have hv := h.2.2.1 k hk
  have hD := h.2.2.2.1
  have hu := h.2.2.2.2 k hk
  have u1 := hu.1
  have u2 := hu.2
  have m1 := Int.mul_nonneg (Int.le_of_lt hD.1) hv.2.2.1
  have m2 : s o 1 * s 4 k ≤ 2176782336 * 201 := Int.mul_le_mul hD.2 hv.2.2.2 hv.2.2.1 (by omega)
  refine L_isBroken h.2.1 (by omega) ⟨by unfold c_br; split <;> omega, fun c => ⟨by omega, by omega, by omega, by omega, by omega, ⟨by omega, by constructor <;> omega⟩, ?_⟩, fun c => ?_⟩
  · have e : s 2 k * (if s o 1 * s 4 k - s (o + 1) k < 0 then 0 else s o 1 * s 4 k - s (o + 1) k) = pA o s k := by
      unfold pA q_pl q_pull
      rw [if_pos c, Int.mul_comm (s 4 k)]
      by_cases hz : 0 < s o 1 * s 4 k - s (o + 1) k
      · rw [if_pos hz, if_neg (by omega)]
      · rw [if_neg hz]
        split
        · rw [Int.mul_zero]
        · rw [show s o 1 * s 4 k - s (o + 1) k = 0 by omega, Int.mul_zero]
    rw [e]
    exact hQ
  · have e : pA o s k = 0 := by
      unfold pA q_pl
      rw [if_neg c]
    rw [← e]
    exact hQ
/-- the same joint, and lifts of both that are ready: like fractions -/
def Tie (o : Nat) (s t : Mem) : Prop := s 1 0 = t 0 0 ∧ (∀ k, q_in (s 1 0) k → s 2 k = t 1 k ∧ s 3 k = t 2 k ∧ s 4 k = t 3 k ∧ c_br s k = t 5 k) ∧ RdyA o s ∧ RdyB t ∧ ∀ k, q_in (s 1 0) k → t 0 15 * s (o + 1) k = s o 1 * t 12 k
theorem Tie.p {o : Nat} {s t : Mem} (h : Tie o s t) {k : Int} (hk : q_in (s 1 0) k) : t 0 15 * pA o s k = s o 1 * pB t k := by
  obtain ⟨h0, h1, hA, hB, hu⟩ := h
  obtain ⟨e2, e3, e4, e5⟩ := h1 k hk
  unfold pA pB
  rw [q_pl_mul hB.2.2.1.1, q_pl_mul hA.2.2.2.1.1, e2, e4, e5, hu k hk, Int.mul_comm (s o 1) (t 0 15)]
theorem Tie.r {o : Nat} {s t : Mem} (h : Tie o s t) {k : Int} (hk : q_in (s 1 0) k) : t 0 15 * rA o s k = s o 1 * rB t k := by
  obtain ⟨h0, h1, hA, hB, hu⟩ := h
  obtain ⟨e2, e3, e4, e5⟩ := h1 k hk
  unfold rA rB
  rw [← q_press_mul hB.2.2.1.1, ← q_press_mul hA.2.2.2.1.1, e3, hu k hk]
theorem q_likele {D E a b c : Int} (hD : 0 < D) (hE : 0 < E) (h : E * a = D * b) : D * c ≤ a ↔ E * c ≤ b := by
  constructor
  · intro q
    have := Int.mul_le_mul_of_nonneg_left q (Int.le_of_lt hE)
    rw [h] at this
    have e : E * (D * c) = D * (E * c) := by grind
    rw [e] at this
    exact Int.le_of_mul_le_mul_left this hD
  · intro q
    have := Int.mul_le_mul_of_nonneg_left q (Int.le_of_lt hD)
    rw [← h] at this
    have e : D * (E * c) = E * (D * c) := by grind
    rw [e] at this
    exact Int.le_of_mul_le_mul_left this hE
