/-! ===== weights and cases ===== -/
theorem B_in0 {a b c : Int} {s : Mem} {Q : Int → Mem → Prop} (ha : InI a) (hb : InI b) (hc : InI c) (ht : b ≤ a ∧ a ≤ c → Q 1 s) (hf : ¬ (b ≤ a ∧ a ≤ c) → Q 0 s) : x8_in a b c s Q := B_in (by constructor <;> omega) (by constructor <;> omega) (by constructor <;> omega) ht hf
theorem B_weights {τ : Mem} {p1 p2 p3 : Int} (i1 : InI p1) (i2 : InI p2) (i3 : InI p3) {Q : Int → Mem → Prop} (hno : ¬ ((0 ≤ p1 ∧ p1 ≤ 9) ∧ (0 ≤ p2 ∧ p2 ≤ 9) ∧ (0 ≤ p3 ∧ p3 ≤ 9) ∧ 0 < p1 + p2 + p3) → Q (-100002) τ) (hyes : (0 ≤ p1 ∧ p1 ≤ 9) ∧ (0 ≤ p2 ∧ p2 ≤ 9) ∧ (0 ≤ p3 ∧ p3 ≤ 9) ∧ 0 < p1 + p2 + p3 → Q 1 (m_upd (m_upd (m_upd τ 8 0 p1) 8 1 p2) 8 2 p3)) : x8_weights p1 p2 p3 τ Q := by
  unfold x8_weights
  refine ⟨i1, B_in0 i1 (by omega) (by omega) (fun a => ⟨by omega, fun c => absurd c (by omega), fun _ => ⟨i2, B_in0 i2 (by omega) (by omega) (fun b => ⟨by omega, fun c => absurd c (by omega), fun _ => ⟨i3, B_in0 i3 (by omega) (by omega) (fun d => ⟨by omega, fun c => absurd c (by omega), fun _ => ⟨⟨by omega, by omega⟩, fun _ => ⟨by omega, fun s7 e7 => ⟨by omega, fun s8 e8 => ⟨by omega, fun s9 e9 => ?_⟩⟩⟩, fun _ => hno (by omega)⟩⟩) (fun _ => ⟨by omega, fun _ => hno (by omega), fun c => absurd rfl c⟩)⟩⟩) (fun _ => ⟨by omega, fun _ => hno (by omega), fun c => absurd rfl c⟩)⟩⟩) (fun _ => ⟨by omega, fun _ => hno (by omega), fun c => absurd rfl c⟩)⟩
  rw [e9, e8, e7]
  exact hyes (by omega)
theorem M_weights {σ τ : Mem} (R : Rel σ τ) {p1 p2 p3 : Int} (i1 : InI p1) (i2 : InI p2) (i3 : InI p3) : Ans (x7_weights p1 p2 p3 σ) (x8_weights p1 p2 p3 τ) := by
  unfold Ans x7_weights
  have no : ¬ ((0 ≤ p1 ∧ p1 ≤ 9) ∧ (0 ≤ p2 ∧ p2 ≤ 9) ∧ (0 ≤ p3 ∧ p3 ≤ 9) ∧ 0 < p1 + p2 + p3) → x8_weights p1 p2 p3 τ (fun r' τ' => -100002 = r' ∧ Rel σ τ') := fun q => B_weights i1 i2 i3 (fun _ => ⟨rfl, R⟩) (fun y => absurd y q)
  refine L_within i1 (by omega) (by omega) (fun a => ⟨by omega, fun c => absurd c (by omega), fun _ => L_within i2 (by omega) (by omega) (fun b => ⟨by omega, fun c => absurd c (by omega), fun _ => L_within i3 (by omega) (by omega) (fun d => ⟨by omega, fun c => absurd c (by omega), fun _ => ⟨⟨by omega, by omega⟩, fun _ => ⟨by omega, fun s7 e7 => ⟨by omega, fun s8 e8 => ⟨by omega, fun s9 e9 => ?_⟩⟩⟩, fun _ => no (by omega)⟩⟩) (fun _ => ⟨by omega, fun _ => no (by omega), fun c => absurd rfl c⟩)⟩) (fun _ => ⟨by omega, fun _ => no (by omega), fun c => absurd rfl c⟩)⟩) (fun _ => ⟨by omega, fun _ => no (by omega), fun c => absurd rfl c⟩)
  refine B_weights i1 i2 i3 (fun q => absurd (by omega) q) (fun y => ⟨rfl, ?_⟩)
  have f : ∀ c : Nat, c ≠ 32 → s9 c = σ c := fun c hc => by rw [e9, m_upd_ne _ _ _ _ _ hc, e8, m_upd_ne _ _ _ _ _ hc, e7, m_upd_ne _ _ _ _ _ hc]
  have g : ∀ c : Nat, c ≠ 8 → m_upd (m_upd (m_upd τ 8 0 p1) 8 1 p2) 8 2 p3 c = τ c := fun c hc => by rw [m_upd_ne _ _ _ _ _ hc, m_upd_ne _ _ _ _ _ hc, m_upd_ne _ _ _ _ _ hc]
  have g0 := g 0 (by omega)
  refine ⟨R.1.cong (fun c h1 h2 => f c (by omega)) (fun c h1 h2 => g c (by omega)) (by rw [g0]) (by rw [g0]), R.2.1.cong (by rw [f 23 (by omega)]) (fun d d1 d2 => f d (by omega)) (by rw [g0]) (g 7 (by omega)), ?_, R.2.2.2.1.cong (by rw [f 1 (by omega)]) (f 34 (by omega)) (f 35 (by omega)) (f 36 (by omega)) (g 9 (by omega)) (g 10 (by omega)) (g 11 (by omega)), R.2.2.2.2.1.cong (f 0 (by omega)) (f 37 (by omega)) (f 41 (by omega)) (g 19 (by omega)) (by rw [g0]) (by rw [g0]) (by rw [g0]), R.2.2.2.2.2.cong (f 22 (by omega))⟩
  unfold RelW
  subst e9; subst e8; subst e7
  simp [m_upd_at]
  omega
theorem s_shA25 {i : Int} (h : 0 ≤ i ∧ i < 6) : shA[25 + i.toNat]? = some (.inr (0, 6)) := by
  rcases (show i = 0 ∨ i = 1 ∨ i = 2 ∨ i = 3 ∨ i = 4 ∨ i = 5 by omega) with q | q | q | q | q | q <;> subst q <;> rfl
theorem L_open {σ : Mem} (h6 : 0 ≤ σ 23 0 ∧ σ 23 0 < 6) {Q : Int → Mem → Prop} (h : ∀ s : Mem, (∀ c : Nat, c ≠ 25 + (σ 23 0).toNat → s c = σ c) → (∀ k, q_in 6 k → s (25 + (σ 23 0).toNat) k = 0) → Q (σ 23 0) (m_upd s 23 0 (σ 23 0 + 1))) : x0_open σ Q := by
  apply x0_open_i
  have key : ∀ (m : Nat) (k : Int) (s : Mem), 0 ≤ k → k ≤ 6 → (6 - k).toNat = m → (∀ c : Nat, c ≠ 25 + (σ 23 0).toNat → s c = σ c) → (∀ j, 0 ≤ j → j < k → s (25 + (σ 23 0).toNat) j = 0) → x0_open_L2 Q k s := by
    intro m
    induction m with
    | zero =>
      intro k s h0 h1 hm ha hb
      apply x0_open_s2
      have e : s 23 0 = σ 23 0 := by rw [ha 23 (by omega)]
      refine ⟨by omega, fun _ s1 e1 => ?_, fun c => absurd c (by omega)⟩
      have := h s ha (fun j hj => hb j hj.1 (by have := hj.2; omega))
      rw [e1, m_upd_at, if_pos ⟨rfl, rfl⟩, e, show σ 23 0 + 1 - 1 = σ 23 0 by omega]
      exact this
    | succ m ih =>
      intro k s h0 h1 hm ha hb
      apply x0_open_s2
      have e : s 23 0 = σ 23 0 := by rw [ha 23 (by omega)]
      refine ⟨by omega, fun c => absurd c (by omega), fun c => ⟨by omega, by rw [e]; exact s_shA25 h6, by omega, fun s2 e2 => ?_⟩⟩
      rw [e] at e2
      refine ih (k + 1) s2 (by omega) (by omega) (by omega) (fun c hc => by rw [e2, m_upd_ne _ _ _ _ _ hc]; exact ha c hc) (fun j j0 j1 => ?_)
      rw [e2, m_upd_at]
      by_cases w : j = k
      · rw [if_pos ⟨rfl, w⟩]
      · rw [if_neg (fun q => w q.2)]
        exact hb j j0 (by omega)
  exact key 6 0 σ (by omega) (by omega) (by omega) (fun _ _ => rfl) (fun j h0 h1 => absurd h1 (by omega))
theorem B_newCase {τ : Mem} (h6 : 0 ≤ τ 0 8 ∧ τ 0 8 ≤ 6) {Q : Int → Mem → Prop} (hno : τ 0 8 = 6 → Q (-100004) τ) (h : τ 0 8 < 6 → ∀ s : Mem, (∀ c : Nat, c ≠ 7 → s c = τ c) → (∀ j, s 7 j = if 6 * τ 0 8 ≤ j ∧ j < 6 * τ 0 8 + 6 then 0 else τ 7 j) → Q (τ 0 8) (m_upd s 0 8 (τ 0 8 + 1))) : x8_newCase τ Q := by
  apply x8_newCase_i
  refine ⟨by omega, fun c => ?_, hno⟩
  have key : ∀ (m : Nat) (k : Int) (s : Mem), 0 ≤ k → k ≤ 6 → (6 - k).toNat = m → (∀ c : Nat, c ≠ 7 → s c = τ c) → (∀ j, s 7 j = if 6 * τ 0 8 ≤ j ∧ j < 6 * τ 0 8 + k then 0 else τ 7 j) → x8_newCase_L14 Q k s := by
    intro m
    induction m with
    | zero =>
      intro k s h0 h1 hm ha hb
      apply x8_newCase_s14
      have e : s 0 8 = τ 0 8 := by rw [ha 0 (by omega)]
      refine ⟨by omega, fun _ s1 e1 => ?_, fun c => absurd c (by omega)⟩
      have := h (by omega) s ha (fun j => by rw [hb j, show k = 6 by omega])
      rw [e1, m_upd_at, if_pos ⟨rfl, rfl⟩, e, show τ 0 8 + 1 - 1 = τ 0 8 by omega]
      exact this
    | succ m ih =>
      intro k s h0 h1 hm ha hb
      apply x8_newCase_s14
      have e : s 0 8 = τ 0 8 := by rw [ha 0 (by omega)]
      refine ⟨by omega, fun c => absurd c (by omega), fun c => ⟨by omega, fun s2 e2 => ?_⟩⟩
      rw [e] at e2
      refine ih (k + 1) s2 (by omega) (by omega) (by omega) (fun c hc => by rw [e2, m_upd_ne _ _ _ _ _ hc]; exact ha c hc) (fun j => ?_)
      rw [e2, m_upd_at]
      by_cases w : j = 6 * τ 0 8 + k
      · rw [if_pos ⟨rfl, w⟩, if_pos (by omega)]
      · rw [if_neg (fun q => w q.2), hb j]
        by_cases w2 : 6 * τ 0 8 ≤ j ∧ j < 6 * τ 0 8 + k
        · rw [if_pos w2, if_pos (by omega)]
        · rw [if_neg w2, if_neg (by omega)]
  exact key 6 0 τ (by omega) (by omega) (by omega) (fun _ _ => rfl) (fun j => by rw [if_neg (by omega)])
theorem M_newCase {σ τ : Mem} (R : Rel σ τ) : Ans (x7_newCase σ) (x8_newCase τ) := by
  unfold Ans x7_newCase
  obtain ⟨c0, c1, c2⟩ := R.2.1
  refine ⟨by omega, fun q => L_open ⟨c1.1, by omega⟩ (fun s f z => ?_), fun q => B_newCase (by omega) (fun _ => ⟨rfl, R⟩) (fun w => absurd w (by omega))⟩
  refine B_newCase (by omega) (fun w => absurd w (by omega)) (fun _ t g y => ⟨c0, ?_⟩)
  have F : ∀ d : Nat, d ≠ 23 → d ≠ 25 + (σ 23 0).toNat → m_upd s 23 0 (σ 23 0 + 1) d = σ d := fun d d1 d2 => by rw [m_upd_ne _ _ _ _ _ d1, f d d2]
  have G : ∀ d : Nat, d ≠ 0 → d ≠ 7 → m_upd t 0 8 (τ 0 8 + 1) d = τ d := fun d d1 d2 => by rw [m_upd_ne _ _ _ _ _ d1, g d d2]
  have G0 : ∀ j, j ≠ 8 → m_upd t 0 8 (τ 0 8 + 1) 0 j = τ 0 j := fun j hj => by rw [m_upd_at, if_neg (fun q => hj q.2), g 0 (by omega)]
  refine ⟨R.1.cong (fun c h1 h2 => F c (by omega) (by omega)) (fun c h1 h2 => G c (by omega) (by omega)) (G0 0 (by omega)) (G0 1 (by omega)), ?_, R.2.2.1.cong (F 32 (by omega) (by omega)) (G 8 (by omega) (by omega)), R.2.2.2.1.cong (by rw [F 1 (by omega) (by omega)]) (F 34 (by omega) (by omega)) (F 35 (by omega) (by omega)) (F 36 (by omega) (by omega)) (G 9 (by omega) (by omega)) (G 10 (by omega) (by omega)) (G 11 (by omega) (by omega)), R.2.2.2.2.1.cong (F 0 (by omega) (by omega)) (F 37 (by omega) (by omega)) (F 41 (by omega) (by omega)) (G 19 (by omega) (by omega)) (G0 30 (by omega)) (G0 36 (by omega)) (G0 33 (by omega)), R.2.2.2.2.2.cong (F 22 (by omega) (by omega))⟩
  unfold RelC
  rw [m_upd_at, if_pos ⟨rfl, rfl⟩, m_upd_at, if_pos ⟨rfl, rfl⟩]
  refine ⟨by omega, by omega, fun i k h1 h2 h3 h4 => ?_⟩
  rw [m_upd_ne _ _ _ _ _ (by omega), m_upd_ne _ _ _ _ _ (by omega), y]
  by_cases w : i = σ 23 0
  · rw [w, z k ⟨h3, h4⟩, if_pos (by omega)]
    omega
  · rw [if_neg (by omega), f _ (by omega)]
    exact c2 i k h1 (by omega) h3 h4
theorem L_caseHas {σ : Mem} {p1 : Int} (i1 : InI p1) (h6 : 0 ≤ σ 23 0 ∧ σ 23 0 ≤ 6) {Q : Int → Mem → Prop} (ht : 0 ≤ p1 ∧ p1 < σ 23 0 → Q 1 σ) (hf : ¬ (0 ≤ p1 ∧ p1 < σ 23 0) → Q 0 σ) : x0_has p1 σ Q := ⟨i1, fun q => ⟨by omega, hf (by omega)⟩, fun q => ⟨⟨i1, by omega⟩, fun q2 => ⟨by omega, hf (by omega)⟩, fun q2 => ⟨by omega, ht ⟨q, q2⟩⟩⟩⟩
theorem B_load {τ : Mem} (h6 : 0 ≤ τ 0 8 ∧ τ 0 8 ≤ 6) (hn : 3 ≤ τ 0 0 ∧ τ 0 0 ≤ 6) {p1 p2 p3 : Int} (i1 : InI p1) (i2 : InI p2) (i3 : InI p3) {Q : Int → Mem → Prop} (h1 : ¬ (0 ≤ p1 ∧ p1 < τ 0 8) ∨ ¬ q_in (τ 0 0) p2 → Q (-100001) τ) (h2 : (0 ≤ p1 ∧ p1 < τ 0 8) ∧ q_in (τ 0 0) p2 ∧ ¬ (0 ≤ p3 ∧ p3 ≤ 200) → Q (-100002) τ) (h3 : (0 ≤ p1 ∧ p1 < τ 0 8) ∧ q_in (τ 0 0) p2 ∧ (0 ≤ p3 ∧ p3 ≤ 200) → Q (τ 7 (6 * p1 + p2)) (m_upd τ 7 (6 * p1 + p2) p3)) : x8_load p1 p2 p3 τ Q := by
  unfold x8_load
  refine ⟨i1, by constructor <;> omega, B_in0 i1 (by omega) (by constructor <;> omega) (fun a => ⟨by omega, fun c => absurd c (by omega), fun _ => B_noBolt i2 hn (fun b => ⟨by omega, fun _ => ⟨i3, B_in0 i3 (by omega) (by omega) (fun d => ⟨by omega, fun _ => ?_, fun c => absurd c (by omega)⟩) (fun d => ⟨by omega, fun c => absurd rfl c, fun _ => h2 ⟨by omega, b, d⟩⟩)⟩, fun c => absurd rfl c⟩) (fun b => ⟨by omega, fun c => absurd c (by omega), fun _ => h1 (Or.inr b)⟩)⟩) (fun a => ⟨by omega, fun _ => h1 (Or.inl (by omega)), fun c => absurd rfl c⟩)⟩
  have b1 := b.1
  have b2 := b.2
  refine ⟨by omega, fun v7 e7 => ⟨by omega, fun s8 e8 => ?_⟩⟩
  rw [e7, e8]
  exact h3 ⟨by omega, b, d⟩
theorem M_load {σ τ : Mem} (R : Rel σ τ) {p1 p2 p3 : Int} (i1 : InI p1) (i2 : InI p2) (i3 : InI p3) : Ans (x7_load p1 p2 p3 σ) (x8_load p1 p2 p3 τ) := by
  unfold Ans x7_load
  obtain ⟨c0, c1, c2⟩ := R.2.1
  have hn := R.n
  have e0 : σ 1 0 = τ 0 0 := R.1.1
  refine L_caseHas i1 c1 (fun a => ⟨by omega, fun c => absurd c (by omega), fun _ => L_has i2 hn (fun b => ⟨by omega, fun _ => L_within i3 (by omega) (by omega) (fun d => ⟨by omega, fun _ => ?_, fun c => absurd c (by omega)⟩) (fun d => ⟨by omega, fun c => absurd rfl c, fun _ => B_load (by omega) (by omega) i1 i2 i3 ?_ (fun _ => ⟨rfl, R⟩) (fun q => absurd q.2.2 d)⟩), fun c => absurd c (by omega)⟩) (fun b => ⟨by omega, fun c => absurd rfl c, fun _ => B_load (by omega) (by omega) i1 i2 i3 (fun _ => ⟨rfl, R⟩) (fun q => absurd q.2.1 (by rw [← e0]; exact b)) (fun q => absurd q.2.1 (by rw [← e0]; exact b))⟩)⟩) (fun a => ⟨by omega, fun _ => B_load (by omega) (by omega) i1 i2 i3 (fun _ => ⟨rfl, R⟩) (fun q => absurd q.1 (by rw [← c0]; exact a)) (fun q => absurd q.1 (by rw [← c0]; exact a)), fun c => absurd rfl c⟩)
  · have b1 := b.1
    have b2 := b.2
    refine ⟨by omega, s_shA25 (by omega), by omega, s_shA25 (by omega), by omega, fun s7 e7 => B_load (by omega) (by omega) i1 i2 i3 (fun q => ?_) (fun q => absurd d q.2.2) (fun _ => ⟨(c2 p1 p2 a.1 a.2 b1 (by omega)).1, ?_⟩)⟩
    · rcases q with q | q
      · exact absurd a (by rw [c0]; exact q)
      · exact absurd b (by rw [e0]; exact q)
    have f : ∀ c : Nat, c ≠ 25 + p1.toNat → s7 c = σ c := fun c hc => by rw [e7, m_upd_ne _ _ _ _ _ hc]
    have g : ∀ c : Nat, c ≠ 7 → m_upd τ 7 (6 * p1 + p2) p3 c = τ c := fun c hc => m_upd_ne _ _ _ _ _ hc
    have g0 := g 0 (by omega)
    refine ⟨R.1.cong (fun c h1 h2 => f c (by omega)) (fun c h1 h2 => g c (by omega)) (by rw [g0]) (by rw [g0]), ?_, R.2.2.1.cong (f 32 (by omega)) (g 8 (by omega)), R.2.2.2.1.cong (by rw [f 1 (by omega)]) (f 34 (by omega)) (f 35 (by omega)) (f 36 (by omega)) (g 9 (by omega)) (g 10 (by omega)) (g 11 (by omega)), R.2.2.2.2.1.cong (f 0 (by omega)) (f 37 (by omega)) (f 41 (by omega)) (g 19 (by omega)) (by rw [g0]) (by rw [g0]) (by rw [g0]), R.2.2.2.2.2.cong (f 22 (by omega))⟩
    unfold RelC
    rw [f 23 (by omega), g0]
    refine ⟨c0, c1, fun i k h1 h2 h3 h4 => ?_⟩
    rw [e7, m_upd_at, m_upd_at]
    have := c2 i k h1 h2 h3 h4
    by_cases w : i = p1 ∧ k = p2
    · rw [if_pos (by rw [w.1, w.2]; exact ⟨rfl, rfl⟩), if_pos (by rw [w.1, w.2]; exact ⟨rfl, rfl⟩)]
      omega
    · rw [if_neg (by omega), if_neg (by omega)]
      exact this
  · intro q
    rcases q with q | q
    · exact absurd a (by rw [c0]; exact q)
    · exact absurd b (by rw [e0]; exact q)
