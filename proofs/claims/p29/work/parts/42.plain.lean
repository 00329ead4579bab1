theorem RelC.cong {σ τ σ' τ' : Mem} (h : RelC σ τ) (e : σ' 23 0 = σ 23 0) (a : ∀ c : Nat, 25 ≤ c → c ≤ 30 → σ' c = σ c) (b8 : τ' 0 8 = τ 0 8) (b7 : τ' 7 = τ 7) : RelC σ' τ' := by
  unfold RelC
  rw [e, b8, b7]
  refine ⟨h.1, h.2.1, fun i k h1 h2 h3 h4 => ?_⟩
  rw [a (25 + i.toNat) (by omega) (by have := h.2.1; omega)]
  exact h.2.2 i k h1 h2 h3 h4
theorem RelW.cong {σ τ σ' τ' : Mem} (h : RelW σ τ) (a : σ' 32 = σ 32) (b : τ' 8 = τ 8) : RelW σ' τ' := by
  unfold RelW
  rw [a, b]
  exact h
theorem RelR.cong {σ τ σ' τ' : Mem} (h : RelR σ τ) (a1 : σ' 1 0 = σ 1 0) (a4 : σ' 34 = σ 34) (a5 : σ' 35 = σ 35) (a6 : σ' 36 = σ 36) (b9 : τ' 9 = τ 9) (b10 : τ' 10 = τ 10) (b11 : τ' 11 = τ 11) : RelR σ' τ' := by
  unfold RelR
  rw [a1, a4, a5, a6, b9, b10, b11]
  exact h
theorem RelT.cong {σ τ σ' τ' : Mem} (h : RelT σ τ) (a0 : σ' 0 = σ 0) (a37 : σ' 37 = σ 37) (a41 : σ' 41 = σ 41) (b19 : τ' 19 = τ 19) (b30 : τ' 0 30 = τ 0 30) (b36 : τ' 0 36 = τ 0 36) (b33 : τ' 0 33 = τ 0 33) : RelT σ' τ' := by
  unfold RelT
  rw [a0, a37, a41, b19, b30, b36, b33]
  exact h
theorem RelN.cong {σ σ' : Mem} (h : RelN σ) (a : σ' 22 = σ 22) : RelN σ' := by
  unfold RelN
  rw [a]
  exact h
theorem RelJ.cong {σ τ σ' τ' : Mem} (h : RelJ σ τ) (a : ∀ c : Nat, 1 ≤ c → c ≤ 6 → σ' c = σ c) (b : ∀ c : Nat, 1 ≤ c → c ≤ 6 → τ' c = τ c) (b0 : τ' 0 0 = τ 0 0) (b1 : τ' 0 1 = τ 0 1) : RelJ σ' τ' := by
  have a1 := a 1 (by omega) (by omega)
  unfold RelJ JA
  rw [c_br_congr a1, a1, a 2 (by omega) (by omega), a 3 (by omega) (by omega), a 4 (by omega) (by omega), a 5 (by omega) (by omega), a 6 (by omega) (by omega), b0, b1, b 1 (by omega) (by omega), b 2 (by omega) (by omega), b 3 (by omega) (by omega), b 4 (by omega) (by omega), b 5 (by omega) (by omega), b 6 (by omega) (by omega)]
  exact h
/-- a joint anew -/
theorem L_begin {p1 p2 : Int} {σ : Mem} {Q : Int → Mem → Prop} (h : ∀ σ' : Mem, (σ' 1 0 = p1 ∧ σ' 1 1 = p2 ∧ σ' 1 2 = 0) → (∀ k, q_in 6 k → σ' 2 k = 5 ∧ σ' 3 k = 3 ∧ σ' 4 k = 0 ∧ σ' 5 k = 0 ∧ σ' 6 k = k) → (∀ c : Nat, c = 0 ∨ 6 < c → σ' c = σ c) → Q 0 σ') : x2_begin p1 p2 σ Q := by
  apply x2_begin_i
  intro s1 e1 s2 e2 s3 e3
  have key : ∀ (m : Nat) (k : Int) (s : Mem), 0 ≤ k → k ≤ 6 → (6 - k).toNat = m → (s 1 0 = p1 ∧ s 1 1 = p2 ∧ s 1 2 = 0) → (∀ j, 0 ≤ j → j < k → s 2 j = 5 ∧ s 3 j = 3 ∧ s 4 j = 0 ∧ s 5 j = 0 ∧ s 6 j = j) → (∀ c : Nat, c = 0 ∨ 6 < c → s c = σ c) → x2_begin_L17 Q k s := by
    intro m
    induction m with
    | zero =>
      intro k s h0 h1 hm ha hb hc
      apply x2_begin_s17
      exact ⟨by omega, fun _ => h s ha (fun j hj => hb j hj.1 (by have := hj.2; omega)) hc, fun c => absurd c (by omega)⟩
    | succ m ih =>
      intro k s h0 h1 hm ha hb hc
      apply x2_begin_s17
      refine ⟨by omega, fun c => absurd c (by omega), fun c => ⟨by omega, fun s4 e4 => ⟨by omega, fun s5 e5 => ⟨by omega, fun s6 e6 => ⟨by omega, fun s7 e7 => ⟨by omega, fun s8 e8 => ?_⟩⟩⟩⟩⟩⟩
      subst e4; subst e5; subst e6; subst e7; subst e8
      refine ih (k + 1) _ (by omega) (by omega) (by omega) ?_ (fun j hj0 hj1 => ?_) (fun c hcc => ?_)
      · simpa [m_upd_at] using ha
      · by_cases e : j = k
        · simp [m_upd_at, e]
        · simpa [m_upd_at, e] using hb j hj0 (by omega)
      · rw [m_upd_ne _ _ _ _ _ (by omega), m_upd_ne _ _ _ _ _ (by omega), m_upd_ne _ _ _ _ _ (by omega), m_upd_ne _ _ _ _ _ (by omega), m_upd_ne _ _ _ _ _ (by omega)]
        exact hc c hcc
  refine key 6 0 s3 (by omega) (by omega) (by omega) ?_ (fun j h0 h1 => absurd h1 (by omega)) (fun c hcc => ?_)
  · subst e1; subst e2; subst e3
    simp [m_upd_at]
  · rw [e3, m_upd_ne _ _ _ _ _ (by omega), e2, m_upd_ne _ _ _ _ _ (by omega), e1, m_upd_ne _ _ _ _ _ (by omega)]
/-- a figure of one bolt anew, in both -/
theorem RelJ.set {σ τ : Mem} (h : RelJ σ τ) {c : Nat} (hc : 2 ≤ c ∧ c ≤ 5) {p v : Int} (hp : q_in (σ 1 0) p) (h1 : c < 4 → 1 ≤ v ∧ v ≤ 9) (h2 : 4 ≤ c → 0 ≤ v ∧ v ≤ 200) : RelJ (m_upd σ c p v) (m_upd τ (c - 1) p v) := by
  obtain ⟨e0, e1, hs, ⟨⟨n1, n2, hk, k0, hk0, hb0⟩, hJ2⟩, ht, hr⟩ := h
  have f1 : m_upd σ c p v 1 = σ 1 := m_upd_ne _ _ _ _ _ (by omega)
  have f6 : m_upd σ c p v 6 = σ 6 := m_upd_ne _ _ _ _ _ (by omega)
  have g0 : m_upd τ (c - 1) p v 0 = τ 0 := m_upd_ne _ _ _ _ _ (by omega)
  have g5 : m_upd τ (c - 1) p v 5 = τ 5 := m_upd_ne _ _ _ _ _ (by omega)
  have g6 : m_upd τ (c - 1) p v 6 = τ 6 := m_upd_ne _ _ _ _ _ (by omega)
  unfold RelJ JA q_ok
  rw [c_br_congr f1, f1, f6, g0, g5, g6]
  refine ⟨e0, e1, fun k hi => ?_, ⟨⟨n1, n2, fun k hi => ?_, k0, hk0, hb0⟩, hJ2⟩, fun k hi => ?_, hr⟩
  · have := hs k hi
    simp only [m_upd_at]
    refine ⟨?_, ?_, ?_, ?_, this.2.2.2.2⟩
    · split <;> split <;> omega
    · split <;> split <;> omega
    · split <;> split <;> omega
    · split <;> split <;> omega
  · have := hk k hi
    simp only [m_upd_at]
    refine ⟨?_, ?_, ?_, ?_, this.2.2.2.2⟩
    · split <;> omega
    · split <;> omega
    · split <;> omega
    · split <;> omega
  · have := ht k hi
    simp only [m_upd_at]
    split <;> omega
theorem Rel.set {σ τ : Mem} (h : Rel σ τ) {c : Nat} (hc : 2 ≤ c ∧ c ≤ 5) {p v : Int} (hp : q_in (σ 1 0) p) (h1 : c < 4 → 1 ≤ v ∧ v ≤ 9) (h2 : 4 ≤ c → 0 ≤ v ∧ v ≤ 200) : Rel (m_upd σ c p v) (m_upd τ (c - 1) p v) := by
  have f : ∀ d : Nat, d ≠ c → m_upd σ c p v d = σ d := fun d hd => m_upd_ne _ _ _ _ _ hd
  have g : ∀ d : Nat, d ≠ c - 1 → m_upd τ (c - 1) p v d = τ d := fun d hd => m_upd_ne _ _ _ _ _ hd
  have g0 := g 0 (by omega)
  refine ⟨h.1.set hc hp h1 h2, h.2.1.cong ?_ (fun d d1 d2 => f d (by omega)) ?_ (g 7 (by omega)), h.2.2.1.cong (f 32 (by omega)) (g 8 (by omega)), h.2.2.2.1.cong ?_ (f 34 (by omega)) (f 35 (by omega)) (f 36 (by omega)) (g 9 (by omega)) (g 10 (by omega)) (g 11 (by omega)), h.2.2.2.2.1.cong (f 0 (by omega)) (f 37 (by omega)) (f 41 (by omega)) (g 19 (by omega)) ?_ ?_ ?_, h.2.2.2.2.2.cong (f 22 (by omega))⟩
  · rw [f 23 (by omega)]
  · rw [g0]
  · rw [f 1 (by omega)]
  · rw [g0]
  · rw [g0]
  · rw [g0]
