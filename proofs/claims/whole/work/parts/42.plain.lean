/-! ===== the public methods one by one: those without a draw ===== -/
theorem RelC.cong {σ τ σ' τ' : Mem} (h : RelC σ τ) (e : σ' 23 0 = σ 23 0) (a : ∀ c : Nat, 25 ≤ c → c ≤ 30 → σ' c = σ c) (b8 : τ' 0 8 = τ 0 8) (b7 : τ' 7 = τ 7) : RelC σ' τ' := by
  unfold RelC
  rw [e, b8, b7]
  refine ⟨h.1, h.2.1, fun i k h1 h2 h3 h4 => ?_⟩
  rw [a (25 + i.toNat) (by omega) (by have := h.2.1; omega)]
  exact h.2.2 i k h1 h2 h3 h4
theorem RelW.cong {σ τ σ' τ' : Mem} (h : RelW σ τ) (a : σ' 32 = σ 32) (b : τ' 8 = τ 8) : RelW σ' τ' := by
  unfold RelW
  rw [a, b]
  exact h
theorem RelR.cong {σ τ σ' τ' : Mem} (h : RelR σ τ) (a1 : σ' 1 0 = σ 1 0) (a4 : σ' 34 = σ 34) (a5 : σ' 35 = σ 35) (a6 : σ' 36 = σ 36) (b9 : τ' 9 = τ 9) (b10 : τ' 10 = τ 10) (b11 : τ' 11 = τ 11) : RelR σ' τ' := by
  unfold RelR
  rw [a1, a4, a5, a6, b9, b10, b11]
  exact h
theorem RelT.cong {σ τ σ' τ' : Mem} (h : RelT σ τ) (a0 : σ' 0 = σ 0) (a37 : σ' 37 = σ 37) (a41 : σ' 41 = σ 41) (b19 : τ' 19 = τ 19) (b30 : τ' 0 30 = τ 0 30) (b36 : τ' 0 36 = τ 0 36) (b33 : τ' 0 33 = τ 0 33) : RelT σ' τ' := by
  unfold RelT
  rw [a0, a37, a41, b19, b30, b36, b33]
  exact h
theorem RelN.cong {σ σ' : Mem} (h : RelN σ) (a : σ' 22 = σ 22) : RelN σ' := by
  unfold RelN
  rw [a]
  exact h
theorem RelJ.cong {σ τ σ' τ' : Mem} (h : RelJ σ τ) (a : ∀ c : Nat, 1 ≤ c → c ≤ 6 → σ' c = σ c) (b : ∀ c : Nat, 1 ≤ c → c ≤ 6 → τ' c = τ c) (b0 : τ' 0 0 = τ 0 0) (b1 : τ' 0 1 = τ 0 1) : RelJ σ' τ' := by
  have a1 := a 1 (by omega) (by omega)
  unfold RelJ JA
  rw [c_br_congr a1, a1, a 2 (by omega) (by omega), a 3 (by omega) (by omega), a 4 (by omega) (by omega), a 5 (by omega) (by omega), a 6 (by omega) (by omega), b0, b1, b 1 (by omega) (by omega), b 2 (by omega) (by omega), b 3 (by omega) (by omega), b 4 (by omega) (by omega), b 5 (by omega) (by omega), b 6 (by omega) (by omega)]
  exact h
def Ans (A : (Int → Mem → Prop) → Prop) (B : (Int → Mem → Prop) → Prop) : Prop := A (fun r σ' => B (fun r' τ' => r = r' ∧ Rel σ' τ'))
/-- a joint anew -/
theorem L_begin {p1 p2 : Int} {σ : Mem} {Q : Int → Mem → Prop} (h : ∀ σ' : Mem, (σ' 1 0 = p1 ∧ σ' 1 1 = p2 ∧ σ' 1 2 = 0) → (∀ k, q_in 6 k → σ' 2 k = 5 ∧ σ' 3 k = 3 ∧ σ' 4 k = 0 ∧ σ' 5 k = 0 ∧ σ' 6 k = k) → (∀ c : Nat, c = 0 ∨ 6 < c → σ' c = σ c) → Q 0 σ') : x2_begin p1 p2 σ Q := by
  apply x2_begin_i
  intro s1 e1 s2 e2 s3 e3
  have key : ∀ (m : Nat) (k : Int) (s : Mem), 0 ≤ k → k ≤ 6 → (6 - k).toNat = m → (s 1 0 = p1 ∧ s 1 1 = p2 ∧ s 1 2 = 0) → (∀ j, 0 ≤ j → j < k → s 2 j = 5 ∧ s 3 j = 3 ∧ s 4 j = 0 ∧ s 5 j = 0 ∧ s 6 j = j) → (∀ c : Nat, c = 0 ∨ 6 < c → s c = σ c) → x2_begin_L17 Q k s := by
    intro m
    induction m with
    | zero =>
      intro k s h0 h1 hm ha hb hc
      apply x2_begin_s17
      exact ⟨by omega, fun _ => h s ha (fun j hj => hb j hj.1 (by have := hj.2; omega)) hc, fun c => absurd c (by omega)⟩
    | succ m ih =>
      intro k s h0 h1 hm ha hb hc
      apply x2_begin_s17
      refine ⟨by omega, fun c => absurd c (by omega), fun c => ⟨by omega, fun s4 e4 => ⟨by omega, fun s5 e5 => ⟨by omega, fun s6 e6 => ⟨by omega, fun s7 e7 => ⟨by omega, fun s8 e8 => ?_⟩⟩⟩⟩⟩⟩
      subst e4; subst e5; subst e6; subst e7; subst e8
      refine ih (k + 1) _ (by omega) (by omega) (by omega) ?_ (fun j hj0 hj1 => ?_) (fun c hcc => ?_)
      · simpa [m_upd_at] using ha
      · by_cases e : j = k
        · simp [m_upd_at, e]
        · simpa [m_upd_at, e] using hb j hj0 (by omega)
      · rw [m_upd_ne _ _ _ _ _ (by omega), m_upd_ne _ _ _ _ _ (by omega), m_upd_ne _ _ _ _ _ (by omega), m_upd_ne _ _ _ _ _ (by omega), m_upd_ne _ _ _ _ _ (by omega)]
        exact hc c hcc
  refine key 6 0 s3 (by omega) (by omega) (by omega) ?_ (fun j h0 h1 => absurd h1 (by omega)) (fun c hcc => ?_)
  · subst e1; subst e2; subst e3
    simp [m_upd_at]
  · rw [e3, m_upd_ne _ _ _ _ _ (by omega), e2, m_upd_ne _ _ _ _ _ (by omega), e1, m_upd_ne _ _ _ _ _ (by omega)]
theorem B_lay {p1 p2 : Int} {τ : Mem} (hn : 3 ≤ p1 ∧ p1 ≤ 6) {Q : Int → Mem → Prop} (h : ∀ t : Mem, (t 0 0 = p1 ∧ t 0 1 = p2 ∧ t 0 8 = 0) → (∀ j : Int, j ≠ 0 → j ≠ 1 → j ≠ 8 → t 0 j = τ 0 j) → (∀ k, q_in p1 k → t 1 k = 5 ∧ t 2 k = 3 ∧ t 3 k = 0 ∧ t 4 k = 0 ∧ t 5 k = 0 ∧ t 6 k = k ∧ t 9 k = 0) → (t 8 0 = 1 ∧ t 8 1 = 2 ∧ t 8 2 = 1) → (∀ c : Nat, c = 7 ∨ 9 < c → t c = τ c) → Q 0 t) : x8_lay p1 p2 τ Q := by
  apply x8_lay_i
  intro s1 e1 s2 e2
  have key : ∀ (m : Nat) (k : Int) (s : Mem), 0 ≤ k → k ≤ p1 → (p1 - k).toNat = m → (s 0 0 = p1 ∧ s 0 1 = p2) → (∀ j : Int, j ≠ 0 → j ≠ 1 → s 0 j = τ 0 j) → (∀ j, 0 ≤ j → j < k → s 1 j = 5 ∧ s 2 j = 3 ∧ s 3 j = 0 ∧ s 4 j = 0 ∧ s 5 j = 0 ∧ s 6 j = j ∧ s 9 j = 0) → (∀ c : Nat, c = 7 ∨ 9 < c → s c = τ c) → x8_lay_L12 Q k s := by
    intro m
    induction m with
    | zero =>
      intro k s h0 h1 hm ha hb hc hd
      apply x8_lay_s12
      refine ⟨by omega, fun _ s3 e3 => ⟨by omega, fun s4 e4 => ⟨by omega, fun s5 e5 => ⟨by omega, fun s6 e6 => ?_⟩⟩⟩, fun c => absurd c (by omega)⟩
      subst e3; subst e4; subst e5; subst e6
      refine h _ ?_ (fun j j0 j1 j8 => ?_) (fun j hj => ?_) ?_ (fun c hcc => ?_)
      · simpa [m_upd_at] using ha
      · simpa [m_upd_at, j8] using hb j j0 j1
      · simpa [m_upd_at] using hc j hj.1 (by have := hj.2; omega)
      · simp [m_upd_at]
      · rw [m_upd_ne _ _ _ _ _ (by omega), m_upd_ne _ _ _ _ _ (by omega), m_upd_ne _ _ _ _ _ (by omega), m_upd_ne _ _ _ _ _ (by omega)]
        exact hd c hcc
    | succ m ih =>
      intro k s h0 h1 hm ha hb hc hd
      apply x8_lay_s12
      refine ⟨by omega, fun c => absurd c (by omega), fun c => ⟨by omega, fun s4 e4 => ⟨by omega, fun s5 e5 => ⟨by omega, fun s6 e6 => ⟨by omega, fun s7 e7 => ⟨by omega, fun s8 e8 => ⟨by omega, fun s9 e9 => ⟨by omega, fun s10 e10 => ?_⟩⟩⟩⟩⟩⟩⟩⟩
      subst e4; subst e5; subst e6; subst e7; subst e8; subst e9; subst e10
      refine ih (k + 1) _ (by omega) (by omega) (by omega) ?_ (fun j j0 j1 => ?_) (fun j hj0 hj1 => ?_) (fun c hcc => ?_)
      · simpa [m_upd_at] using ha
      · simpa [m_upd_at] using hb j j0 j1
      · by_cases e : j = k
        · simp [m_upd_at, e]
        · simpa [m_upd_at, e] using hc j hj0 (by omega)
      · rw [m_upd_ne _ _ _ _ _ (by omega), m_upd_ne _ _ _ _ _ (by omega), m_upd_ne _ _ _ _ _ (by omega), m_upd_ne _ _ _ _ _ (by omega), m_upd_ne _ _ _ _ _ (by omega), m_upd_ne _ _ _ _ _ (by omega), m_upd_ne _ _ _ _ _ (by omega)]
        exact hd c hcc
  refine key p1.toNat 0 s2 (by omega) (by omega) (by omega) ?_ (fun j j0 j1 => ?_) (fun j h0 h1 => absurd h1 (by omega)) (fun c hcc => ?_)
  · subst e1; subst e2
    simp [m_upd_at]
  · subst e1; subst e2
    simp [m_upd_at, j0, j1]
  · rw [e2, m_upd_ne _ _ _ _ _ (by omega), e1, m_upd_ne _ _ _ _ _ (by omega)]
theorem M_joint {σ τ : Mem} (R : Rel σ τ) {p1 p2 : Int} (i1 : InI p1) (i2 : InI p2) : Ans (x7_joint p1 p2 σ) (x8_joint p1 p2 τ) := by
  unfold Ans x7_joint
  refine L_within i1 (by omega) (by omega) (fun a => ⟨by omega, fun c => absurd c (by omega), fun _ => ?_⟩) (fun a => ⟨by omega, fun _ => ?_, fun c => absurd rfl c⟩)
  · refine L_within i2 (by omega) (by omega) (fun b => ⟨by omega, fun _ => ?_, fun c => absurd c (by omega)⟩) (fun b => ⟨by omega, fun c => absurd rfl c, fun _ => ?_⟩)
    · refine L_begin (fun s1 g1 g2 g3 s2 e2 => ⟨by omega, fun s3 e3 => ⟨by omega, fun s4 e4 => ⟨by omega, fun s5 e5 s6 e6 => ?_⟩⟩⟩)
      refine ⟨i1, B_in (by constructor <;> omega) (by omega) (by omega) (fun _ => ⟨by omega, fun c => absurd c (by omega), fun _ => ⟨i2, B_in (by constructor <;> omega) (by omega) (by omega) (fun _ => ⟨by omega, fun _ => ?_, fun c => absurd c (by omega)⟩) (fun q => absurd b q)⟩⟩) (fun q => absurd a q)⟩
      refine B_lay a (fun t t1 t2 t3 t4 t5 => ⟨t1.1.symm, ?_⟩)
      have f : ∀ c : Nat, c ≠ 23 → c ≠ 32 → c ≠ 34 → s6 c = s1 c := fun c c1 c2 c3 => by rw [e6, m_upd_ne _ _ _ _ _ c3, e5, m_upd_ne _ _ _ _ _ c2, e4, m_upd_ne _ _ _ _ _ c2, e3, m_upd_ne _ _ _ _ _ c2, e2, m_upd_ne _ _ _ _ _ c1]
      have e23 : s6 23 0 = 0 := by
        subst e2; subst e3; subst e4; subst e5; subst e6
        simp [m_upd_at]
      have e32 : s6 32 0 = 1 ∧ s6 32 1 = 2 ∧ s6 32 2 = 1 := by
        subst e2; subst e3; subst e4; subst e5; subst e6
        simp [m_upd_at]
      have e34 : s6 34 0 = 0 := by
        subst e6
        simp [m_upd_at]
      have f1 := f 1 (by omega) (by omega) (by omega)
      have hbr : ∀ k, c_br s6 k = 0 := fun k => by
        unfold c_br
        rw [f1, g1.2.2, s_zero]
        rfl
      refine ⟨?_, ?_, ?_, ?_, ?_, ?_⟩
      · unfold RelJ JA q_ok
        rw [f1, f 2 (by omega) (by omega) (by omega), f 3 (by omega) (by omega) (by omega), f 4 (by omega) (by omega) (by omega), f 5 (by omega) (by omega) (by omega), f 6 (by omega) (by omega) (by omega), g1.1, g1.2.1, g1.2.2, t1.1, t1.2.1]
        refine ⟨rfl, rfl, fun k hk => ?_, ⟨⟨a, b, fun k hk => ?_, 0, ⟨by omega, by omega⟩, hbr 0⟩, ⟨by omega, by omega⟩, fun k _ => s_zero k⟩, fun k hk => ?_, fun k hk => ?_, fun j k hj hk => ?_⟩
        · have x := g2 k ⟨hk.1, by have := hk.2; omega⟩
          have y := t3 k hk
          rw [hbr]
          exact ⟨by omega, by omega, by omega, by omega, by omega⟩
        · have x := g2 k ⟨hk.1, by have := hk.2; omega⟩
          have z := hbr k
          exact ⟨by omega, by omega, by omega, by omega, by omega⟩
        · have x := g2 k ⟨hk.1, by have := hk.2; omega⟩
          omega
        · have x := g2 k ⟨hk.1, by have := hk.2; omega⟩
          have y := t3 k hk
          rw [x.2.2.2.2]
          exact ⟨by omega, hk⟩
        · have x := g2 k ⟨hk.1, by have := hk.2; omega⟩
          have y := g2 j ⟨hj.1, by have := hj.2; omega⟩
          omega
      · unfold RelC
        rw [e23, t1.2.2]
        exact ⟨rfl, ⟨by omega, by omega⟩, fun i k h1 h2 => absurd h2 (by omega)⟩
      · unfold RelW
        omega
      · unfold RelR
        rw [e34, f1, g1.1]
        refine ⟨by omega, fun k _ => s_zero k, fun k hk => ?_⟩
        rw [s_zero, (t3 k hk).2.2.2.2.2.2]
        exact ⟨rfl, fun c => absurd c (by decide)⟩
      · exact R.2.2.2.2.1.cong ((f 0 (by omega) (by omega) (by omega)).trans (g3 0 (by omega))) ((f 37 (by omega) (by omega) (by omega)).trans (g3 37 (by omega))) ((f 41 (by omega) (by omega) (by omega)).trans (g3 41 (by omega))) (t5 19 (by omega)) (t2 30 (by omega) (by omega) (by omega)) (t2 36 (by omega) (by omega) (by omega)) (t2 33 (by omega) (by omega) (by omega))
      · exact R.2.2.2.2.2.cong ((f 22 (by omega) (by omega) (by omega)).trans (g3 22 (by omega)))
    · exact ⟨i1, B_in (by constructor <;> omega) (by omega) (by omega) (fun _ => ⟨by omega, fun c => absurd c (by omega), fun _ => ⟨i2, B_in (by constructor <;> omega) (by omega) (by omega) (fun q => absurd q b) (fun _ => ⟨by omega, fun c => absurd rfl c, fun _ => ⟨rfl, R⟩⟩)⟩⟩) (fun q => absurd a q)⟩
  · exact ⟨i1, B_in (by constructor <;> omega) (by omega) (by omega) (fun q => absurd q a) (fun _ => ⟨by omega, fun _ => ⟨rfl, R⟩, fun c => absurd rfl c⟩)⟩
/-- a figure of one bolt anew, in both -/
theorem RelJ.set {σ τ : Mem} (h : RelJ σ τ) {c : Nat} (hc : 2 ≤ c ∧ c ≤ 5) {p v : Int} (hp : q_in (σ 1 0) p) (h1 : c < 4 → 1 ≤ v ∧ v ≤ 9) (h2 : 4 ≤ c → 0 ≤ v ∧ v ≤ 200) : RelJ (m_upd σ c p v) (m_upd τ (c - 1) p v) := by
  obtain ⟨e0, e1, hs, ⟨⟨n1, n2, hk, k0, hk0, hb0⟩, hJ2⟩, ht, hr⟩ := h
  have f1 : m_upd σ c p v 1 = σ 1 := m_upd_ne _ _ _ _ _ (by omega)
  have f6 : m_upd σ c p v 6 = σ 6 := m_upd_ne _ _ _ _ _ (by omega)
  have g0 : m_upd τ (c - 1) p v 0 = τ 0 := m_upd_ne _ _ _ _ _ (by omega)
  have g5 : m_upd τ (c - 1) p v 5 = τ 5 := m_upd_ne _ _ _ _ _ (by omega)
  have g6 : m_upd τ (c - 1) p v 6 = τ 6 := m_upd_ne _ _ _ _ _ (by omega)
  unfold RelJ JA q_ok
  rw [c_br_congr f1, f1, f6, g0, g5, g6]
  refine ⟨e0, e1, fun k hi => ?_, ⟨⟨n1, n2, fun k hi => ?_, k0, hk0, hb0⟩, hJ2⟩, fun k hi => ?_, hr⟩
  · have := hs k hi
    simp only [m_upd_at]
    refine ⟨?_, ?_, ?_, ?_, this.2.2.2.2⟩
    · split <;> split <;> omega
    · split <;> split <;> omega
    · split <;> split <;> omega
    · split <;> split <;> omega
  · have := hk k hi
    simp only [m_upd_at]
    refine ⟨?_, ?_, ?_, ?_, this.2.2.2.2⟩
    · split <;> omega
    · split <;> omega
    · split <;> omega
    · split <;> omega
  · have := ht k hi
    simp only [m_upd_at]
    split <;> omega
theorem Rel.set {σ τ : Mem} (h : Rel σ τ) {c : Nat} (hc : 2 ≤ c ∧ c ≤ 5) {p v : Int} (hp : q_in (σ 1 0) p) (h1 : c < 4 → 1 ≤ v ∧ v ≤ 9) (h2 : 4 ≤ c → 0 ≤ v ∧ v ≤ 200) : Rel (m_upd σ c p v) (m_upd τ (c - 1) p v) := by
  have f : ∀ d : Nat, d ≠ c → m_upd σ c p v d = σ d := fun d hd => m_upd_ne _ _ _ _ _ hd
  have g : ∀ d : Nat, d ≠ c - 1 → m_upd τ (c - 1) p v d = τ d := fun d hd => m_upd_ne _ _ _ _ _ hd
  have g0 := g 0 (by omega)
  refine ⟨h.1.set hc hp h1 h2, h.2.1.cong ?_ (fun d d1 d2 => f d (by omega)) ?_ (g 7 (by omega)), h.2.2.1.cong (f 32 (by omega)) (g 8 (by omega)), h.2.2.2.1.cong ?_ (f 34 (by omega)) (f 35 (by omega)) (f 36 (by omega)) (g 9 (by omega)) (g 10 (by omega)) (g 11 (by omega)), h.2.2.2.2.1.cong (f 0 (by omega)) (f 37 (by omega)) (f 41 (by omega)) (g 19 (by omega)) ?_ ?_ ?_, h.2.2.2.2.2.cong (f 22 (by omega))⟩
  · rw [f 23 (by omega)]
  · rw [g0]
  · rw [f 1 (by omega)]
  · rw [g0]
  · rw [g0]
  · rw [g0]
theorem M_set {σ τ : Mem} (R : Rel σ τ) {p1 p2 p3 : Int} (i1 : InI p1) (i2 : InI p2) (i3 : InI p3) : Ans (x7_set p1 p2 p3 σ) (x8_set p1 p2 p3 τ) := by
  unfold Ans x7_set
  have hn := R.n
  have e0 : σ 1 0 = τ 0 0 := R.1.1
  have ref1 : ∀ {r : Int}, ¬ q_in (σ 1 0) p1 → r = -100001 → x8_set p1 p2 p3 τ (fun r' τ' => r = r' ∧ Rel σ τ') := fun a er => by
    apply x8_set_i
    exact B_noBolt i1 (by omega) (fun q => absurd q (by rw [← e0]; exact a)) (fun _ => ⟨by omega, fun c => absurd c (by omega), fun _ => ⟨er, R⟩⟩)
  refine L_has i1 hn (fun a => ⟨by omega, fun _ => ?_, fun c => absurd c (by omega)⟩) (fun a => ⟨by omega, fun c => absurd rfl c, fun _ => ref1 a rfl⟩)
  have a' : q_in (τ 0 0) p1 := by rw [← e0]; exact a
  have a1 := a.1
  have a2 := a.2
  refine L_within i2 (by omega) (by omega) (fun b => ⟨by omega, fun c => absurd c (by omega), fun _ => ?_⟩) (fun b => ⟨by omega, fun _ => ?_, fun c => absurd rfl c⟩)
  · obtain ⟨c, lo, hi, hlo, hcp, hc⟩ : ∃ (c : Nat) (lo hi : Int), (∀ Q : Int → Mem → Prop, Q lo σ → x7_leastOf p2 σ Q) ∧ ((c : Int) = p2 + 2 ∧ (∀ Q : Int → Mem → Prop, Q hi σ → x7_mostOf p2 σ Q) ∧ (∀ Q : Int → Mem → Prop, Q (c : Int) σ → x2_valuesOf p2 σ Q)) ∧ (lo = (if p2 < 2 then 1 else 0) ∧ hi = if p2 < 2 then 9 else 200) := by
      refine ⟨(p2 + 2).toNat, if p2 < 2 then 1 else 0, if p2 < 2 then 9 else 200, fun Q h => ?_, ⟨by omega, fun Q h => ?_, fun Q h => ?_⟩, rfl, rfl⟩
      · rcases (show p2 = 0 ∨ p2 = 1 ∨ p2 = 2 ∨ p2 = 3 by omega) with q | q | q | q <;> subst q
        · exact ⟨by omega, fun _ => h, fun c => absurd rfl c⟩
        · exact ⟨by omega, fun c => absurd c (by omega), fun _ => ⟨by omega, fun c => absurd rfl c, fun _ => h⟩⟩
        · exact ⟨by omega, fun c => absurd c (by omega), fun _ => ⟨by omega, fun _ => h, fun c => absurd c (by omega)⟩⟩
        · exact ⟨by omega, fun c => absurd c (by omega), fun _ => ⟨by omega, fun _ => h, fun c => absurd c (by omega)⟩⟩
      · rcases (show p2 = 0 ∨ p2 = 1 ∨ p2 = 2 ∨ p2 = 3 by omega) with q | q | q | q <;> subst q
        · exact ⟨by omega, fun _ => ⟨by omega, fun _ => h, fun c => absurd c (by omega)⟩, fun c => absurd c (by omega)⟩
        · exact ⟨by omega, fun _ => ⟨by omega, fun _ => h, fun c => absurd c (by omega)⟩, fun c => absurd c (by omega)⟩
        · exact ⟨by omega, fun c => absurd rfl c, fun _ => h⟩
        · exact ⟨by omega, fun _ => ⟨by omega, fun c => absurd rfl c, fun _ => h⟩, fun c => absurd c (by omega)⟩
      · rcases (show p2 = 0 ∨ p2 = 1 ∨ p2 = 2 ∨ p2 = 3 by omega) with q | q | q | q <;> subst q
        · exact ⟨by omega, fun _ => h, fun c => absurd c (by omega), fun c => absurd c (by omega), fun c => absurd c (by omega)⟩
        · exact ⟨by omega, fun c => absurd c (by omega), fun _ => h, fun c => absurd c (by omega), fun c => absurd c (by omega)⟩
        · exact ⟨by omega, fun c => absurd c (by omega), fun c => absurd c (by omega), fun _ => h, fun c => absurd c (by omega)⟩
        · exact ⟨by omega, fun c => absurd c (by omega), fun c => absurd c (by omega), fun c => absurd c (by omega), fun _ => h⟩
    obtain ⟨hcp, hmost, hval⟩ := hcp
    refine hlo _ (hmost _ ?_)
    have hlh : (0 ≤ lo ∧ lo ≤ 1) ∧ 9 ≤ hi ∧ hi ≤ 200 := by
      rw [hc.1, hc.2]
      split <;> omega
    -- the reference's two bounds
    have ref : ∀ {P : Int → Mem → Prop}, x8_set_b49 (x8_set_L49 P) (x8_set_L105 P) P p1 p2 p3 hi lo p3 τ → x8_set p1 p2 p3 τ P := fun h49 => by
      apply x8_set_i
      refine B_noBolt i1 (by omega) (fun _ => ⟨by omega, fun _ => ⟨i2, B_in (by constructor <;> omega) (by omega) (by omega) (fun _ => ⟨by omega, fun c => absurd c (by omega), fun _ => ⟨i3, ⟨by omega, by omega⟩, fun q => ⟨⟨by omega, by omega⟩, fun _ => ?_, fun q2 => absurd q2 (by omega)⟩, fun q => ⟨⟨by omega, by omega⟩, fun q2 => absurd q2 (by omega), fun _ => ?_⟩⟩⟩) (fun q => absurd b q)⟩, fun c => absurd rfl c⟩) (fun q => absurd a' q)
      · rw [if_neg (by omega)] at hc
        rw [if_neg (by omega)] at hc
        rw [hc.1, hc.2] at h49
        exact x8_set_s49 h49
      · rw [if_pos q] at hc
        rw [if_pos q] at hc
        rw [hc.1, hc.2] at h49
        exact x8_set_s49 h49
    refine L_within i3 (by omega) (by omega) (fun d => ⟨by omega, fun _ => ?_, fun c => absurd c (by omega)⟩) (fun d => ⟨by omega, fun c => absurd rfl c, fun _ => ?_⟩)
    · refine hval _ ?_
      have hsh : shA[c]? = some (.inr (0, 6)) := by
        rcases (show c = 2 ∨ c = 3 ∨ c = 4 ∨ c = 5 by omega) with q | q | q | q <;> rw [q] <;> rfl
      rw [show Int.toNat (c : Int) = c by omega]
      refine ⟨hsh, by omega, hsh, by omega, fun s13 e13 => ref ?_⟩
      subst e13
      have RS := R.set (c := c) (by omega) a (v := p3) (fun q => by rw [if_pos (by omega)] at hc; omega) (fun q => by rw [if_neg (by omega), if_neg (by omega)] at hc; omega)
      have hs := R.1.2.2.1 p1 a
      refine B_in (by constructor <;> omega) (by constructor <;> omega) (by constructor <;> omega) (fun _ => ⟨by omega, fun _ => ⟨by omega, fun q0 => ⟨⟨by omega, by omega⟩, fun q1 => ⟨⟨by omega, by omega⟩, fun q2 => ⟨by omega, ?_⟩, fun q2 => ⟨by omega, ?_⟩⟩, fun q1 => ⟨by omega, ?_⟩⟩, fun q0 => ⟨by omega, ?_⟩⟩, fun c => absurd c (by omega)⟩) (fun q => absurd d q)
      · apply x8_set_s105
        obtain rfl : c = 5 := by omega
        exact ⟨by omega, fun _ => ⟨by omega, fun _ => ⟨by omega, fun _ => ⟨by omega, fun s e => ⟨hs.2.2.2.1, by rw [e]; exact RS⟩⟩, fun q => absurd q q2⟩, fun q => absurd q q1⟩, fun q => absurd q q0⟩
      · apply x8_set_s105
        obtain rfl : c = 4 := by omega
        exact ⟨by omega, fun _ => ⟨by omega, fun _ => ⟨by omega, fun q => absurd q2 q, fun _ => ⟨by omega, fun s e => ⟨hs.2.2.1, by rw [e]; exact RS⟩⟩⟩, fun q => absurd q q1⟩, fun q => absurd q q0⟩
      · apply x8_set_s105
        obtain rfl : c = 3 := by omega
        exact ⟨by omega, fun _ => ⟨by omega, fun q => absurd q1 q, fun _ => ⟨by omega, fun s e => ⟨hs.2.1, by rw [e]; exact RS⟩⟩⟩, fun q => absurd q q0⟩
      · apply x8_set_s105
        obtain rfl : c = 2 := by omega
        exact ⟨by omega, fun q => absurd q0 q, fun _ => ⟨by omega, fun s e => ⟨hs.1, by rw [e]; exact RS⟩⟩⟩
    · exact ref (B_in (by constructor <;> omega) (by constructor <;> omega) (by constructor <;> omega) (fun q => absurd q d) (fun _ => ⟨by omega, fun c => absurd rfl c, fun _ => ⟨rfl, R⟩⟩))
  · apply x8_set_i
    exact B_noBolt i1 (by omega) (fun _ => ⟨by omega, fun _ => ⟨i2, B_in (by constructor <;> omega) (by omega) (by omega) (fun q => absurd q b) (fun _ => ⟨by omega, fun _ => ⟨rfl, R⟩, fun c => absurd rfl c⟩)⟩, fun c => absurd rfl c⟩) (fun q => absurd a' q)
