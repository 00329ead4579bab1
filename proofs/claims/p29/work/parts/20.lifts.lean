theorem s_bit0 {x k : Int} (hx : 0 ≤ x ∧ x < 1024) (hk : 0 ≤ k ∧ k < 10) : andI (shrI x k) 1 = 0 ↔ q_bit x k = false := by
  rw [s_at_in hx hk]
  cases q_bit x k <;> simp
theorem s_bit1 {x k : Int} (hx : 0 ≤ x ∧ x < 1024) (hk : 0 ≤ k ∧ k < 10) : ¬ andI (shrI x k) 1 = 0 ↔ q_bit x k = true := by
  rw [s_at_in hx hk]
  cases q_bit x k <;> simp
/-- 1 for a broken bolt -/
def c_br (σ : Mem) (k : Int) : Int := if q_bit (σ 1 2) k = true then 1 else 0
/-- the joint with the loads of cell a -/
def JA (σ : Mem) (a : Nat) : Prop := q_ok (σ 1 0) (σ 1 1) (σ 2) (σ 3) (σ 4) (σ a) (c_br σ) ∧ (0 ≤ σ 1 2 ∧ σ 1 2 < 64) ∧ ∀ k, σ 1 0 ≤ k → q_bit (σ 1 2) k = false
/-- cells but o .. o + 5 are as they were -/
def FrO (o : Nat) (σ σ' : Mem) : Prop := ∀ c : Nat, (c < o ∨ o + 6 ≤ c) → σ' c = σ c
theorem JA.n {σ : Mem} {a : Nat} (h : JA σ a) : 3 ≤ σ 1 0 ∧ σ 1 0 ≤ 6 := h.1.1
theorem JA.r {σ : Mem} {a : Nat} (h : JA σ a) : 1 ≤ σ 1 1 ∧ σ 1 1 ≤ 9 := h.1.2.1
theorem JA.k {σ : Mem} {a : Nat} (h : JA σ a) {k : Int} (hk : 0 ≤ k ∧ k < σ 1 0) : (1 ≤ σ 2 k ∧ σ 2 k ≤ 9) ∧ (1 ≤ σ 3 k ∧ σ 3 k ≤ 9) ∧ (0 ≤ σ 4 k ∧ σ 4 k ≤ 201) ∧ (0 ≤ σ a k ∧ σ a k ≤ 200) := by
  have := h.1.2.2.1 k hk
  exact ⟨this.1, this.2.1, this.2.2.1, this.2.2.2.1⟩
theorem c_br_congr {σ σ' : Mem} (h : σ' 1 = σ 1) : c_br σ' = c_br σ := by
  unfold c_br
  rw [h]
theorem JA.congr {σ σ' : Mem} {a : Nat} (h : JA σ a) (h1 : σ' 1 = σ 1) (h2 : σ' 2 = σ 2) (h3 : σ' 3 = σ 3) (h4 : σ' 4 = σ 4) (ha : σ' a = σ a) : JA σ' a := by
  unfold JA
  rw [c_br_congr h1, h1, h2, h3, h4, ha]
  exact h
theorem L_allSet {σ : Mem} {Q : Int → Mem → Prop} (h : Q (shlI 1 (σ 1 0) - 1) σ) : x2_allSet σ Q := h
theorem L_isBroken {σ : Mem} {k : Int} {Q : Int → Mem → Prop} (hB : 0 ≤ σ 1 2 ∧ σ 1 2 < 64) (hk : 0 ≤ k ∧ k < 10) (h : Q (c_br σ k) σ) : x2_isBroken k σ Q := by
  refine ⟨s_andIn _ _, fun c => ⟨by omega, ?_⟩, fun c => ⟨by omega, ?_⟩⟩
  · rw [s_bit0 ⟨hB.1, by omega⟩ hk] at c
    unfold c_br at h
    rw [c] at h
    exact h
  · rw [s_bit1 ⟨hB.1, by omega⟩ hk] at c
    unfold c_br at h
    rw [c] at h
    exact h
theorem L_sumOf {σ : Mem} {a : Nat} {Q : Int → Mem → Prop} (ha : shA[a]? = some (.inr (0, 6))) (hn : 3 ≤ σ 1 0 ∧ σ 1 0 ≤ 6) (h : Q (q_sum (σ a) (σ 1 0).toNat) σ) : x2_sumOf a σ Q := by
  apply x2_sumOf_i
  have key : ∀ (m : Nat) (k : Int), 0 ≤ k → k ≤ σ 1 0 → (σ 1 0 - k).toNat = m → x2_sumOf_L4 Q a (q_sum (σ a) k.toNat) k σ := by
    intro m
    induction m with
    | zero =>
      intro k h0 h1 hm
      apply x2_sumOf_s4
      refine ⟨by omega, fun c => ?_, fun c => absurd c (by omega)⟩
      rw [show k = σ 1 0 by omega]
      exact h
    | succ m ih =>
      intro k h0 h1 hm
      apply x2_sumOf_s4
      refine ⟨by omega, fun c => absurd c (by omega), fun c => ⟨ha, by omega, ?_⟩⟩
      have := ih (k + 1) (by omega) (by omega) (by omega)
      rw [show (k + 1).toNat = k.toNat + 1 by omega, q_sum, show ((k.toNat : Nat) : Int) = k by omega] at this
      exact this
  exact key _ 0 (by omega) (by omega) rfl
theorem L_fillSystem {o : Nat} (ho : LfA o) {a : Nat} (ha : shA[a]? = some (.inr (0, 6))) (hao : a < o ∨ o + 6 ≤ a) {σ : Mem} (hJ : JA σ a) {P q : Int} (hP : 0 ≤ P ∧ P < 64) (hq : 0 ≤ q ∧ q < 64) {Q : Int → Mem → Prop}
    (h : ∀ σ' : Mem, (∀ c : Nat, c ≠ o + 2 → c ≠ o + 3 → σ' c = σ c) → (∀ k, q_in (σ 1 0) k → σ' (o + 2) k = 2 * σ 1 1 + q_e (σ 2) (σ 3) (q_bit P) (q_bit q) k ∧ σ' (o + 3) k = q_c (σ 2) (σ 4) (σ a) (q_bit P) (-1) 0 k) → Q 0 σ') : x3_fillSystem o a P q σ Q := by
  apply x3_fillSystem_i
  have hn := hJ.n
  have hr := hJ.r
  have key : ∀ (m : Nat) (k : Int) (s : Mem), 0 ≤ k → k ≤ σ 1 0 → (σ 1 0 - k).toNat = m → (∀ c : Nat, c ≠ o + 2 → c ≠ o + 3 → s c = σ c) → (∀ j, 0 ≤ j → j < k → s (o + 2) j = 2 * σ 1 1 + q_e (σ 2) (σ 3) (q_bit P) (q_bit q) j ∧ s (o + 3) j = q_c (σ 2) (σ 4) (σ a) (q_bit P) (-1) 0 j) → x3_fillSystem_L3 o Q a P q k s := by
    intro m
    induction m with
    | zero =>
      intro k s h0 h1 hm hf hv
      have e1 := hf 1 (by omega) (by omega)
      apply x3_fillSystem_s3
      refine ⟨by rw [e1]; omega, fun c => h s hf (fun j hj => hv j hj.1 (by have := hj.2; omega)), fun c => absurd c (by rw [e1]; omega)⟩
    | succ m ih =>
      intro k s h0 h1 hm hf hv
      have e1 := hf 1 (by omega) (by omega)
      have e2 := hf 2 (by omega) (by omega)
      have e3 := hf 3 (by omega) (by omega)
      have e4 := hf 4 (by omega) (by omega)
      have ea := hf a (by omega) (by omega)
      have hk := hJ.k (k := k) (by omega)
      have last : ∀ x6 x8 : Int, x6 = 2 * σ 1 1 + q_e (σ 2) (σ 3) (q_bit P) (q_bit q) k → x8 = q_c (σ 2) (σ 4) (σ a) (q_bit P) (-1) 0 k → x3_fillSystem_L98 o Q a P q k x6 x8 s := by
        intro x6 x8 h6 h8
        apply x3_fillSystem_s98
        refine ⟨by omega, fun s6 e6 => ⟨by omega, fun s7 e7 => ?_⟩⟩
        refine ih (k + 1) s7 (by omega) (by omega) (by omega) (fun c hc1 hc2 => ?_) (fun j hj0 hj1 => ?_)
        · rw [e7, m_upd_ne _ _ _ _ _ hc2, e6, m_upd_ne _ _ _ _ _ hc1]
          exact hf c hc1 hc2
        · rw [e7, m_upd_at, m_upd_at, e6, m_upd_at, m_upd_at]
          by_cases hjk : j = k
          · subst hjk
            simp [h6, h8]
          · have := hv j hj0 (by omega)
            simp [hjk, this]
      have mid : ∀ x6 x8 : Int, x6 = 2 * σ 1 1 + (if q_bit P k = true then σ 2 k else 0) → x8 = q_c (σ 2) (σ 4) (σ a) (q_bit P) (-1) 0 k → x3_fillSystem_L75 o Q a P q k x6 x8 s := by
        intro x6 x8 h6 h8
        apply x3_fillSystem_s75
        refine ⟨s_andIn _ _, fun c => ?_, fun c => ⟨by omega, by rw [e3]; omega, ?_⟩⟩
        · rw [s_bit0 (by omega) (by omega)] at c
          refine last _ _ ?_ h8
          unfold q_e
          rw [h6, c]
          simp
        · rw [s_bit1 (by omega) (by omega)] at c
          refine last _ _ ?_ h8
          unfold q_e
          rw [h6, c, e3]
          simp
          omega
      apply x3_fillSystem_s3
      refine ⟨by rw [e1]; omega, fun c => absurd c (by rw [e1]; omega), fun c => ⟨by rw [e1]; omega, ha, by omega, by rw [ea]; omega, s_andIn _ _, fun c => ?_, fun c => ⟨by omega, by rw [e2]; omega, fun v1 hv1 => ⟨by omega, by rw [e2]; omega, by omega, by rw [e4]; omega, fun v2 hv2 => ?_⟩⟩⟩⟩
      · rw [s_bit0 (by omega) (by omega)] at c
        refine mid _ _ ?_ ?_
        · rw [c, e1]
          simp
        · unfold q_c
          rw [c, ea, if_neg (show ¬ k = -1 by omega)]
          simp
      · rw [s_bit1 (by omega) (by omega)] at c
        refine mid _ _ ?_ ?_
        · rw [hv1, c, e1, e2]
          simp
        · unfold q_c
          rw [hv2, c, ea, e2, e4, if_neg (show ¬ k = -1 by omega)]
          simp
          omega
  exact key _ 0 σ (by omega) (by omega) rfl (fun c _ _ => rfl) (fun j h0 h1 => absurd h1 (by omega))
