/-! ===== broken, weights, cases ===== -/
theorem L_markBroken {σ : Mem} {p1 p2 : Int} (hB : 0 ≤ σ 1 2 ∧ σ 1 2 < 64) (hp : q_in 6 p1) (h2 : p2 = 0 ∨ p2 = 1) {Q : Int → Mem → Prop} (h : ∀ v : Int, (0 ≤ v ∧ v < 64) → (∀ k, 0 ≤ k → q_bit v k = if k = p1 then decide (p2 = 1) else q_bit (σ 1 2) k) → Q 0 (m_upd σ 1 2 v)) : x2_markBroken p1 p2 σ Q := by
  have a1 := hp.1
  have a2 := hp.2
  refine ⟨by omega, fun q s e => ?_, fun q s e => ?_⟩
  · have hs := s_shlI (k := p1) (by omega)
    have hx := s_andnI hB hs.1
    rw [e]
    refine h _ hx.1 (fun k hk => ?_)
    rw [hx.2, hs.2 k hk, q]
    by_cases w : k = p1
    · rw [if_pos w, w]
      simp
    · rw [if_neg w]
      simp [w]
  · have hx := s_orI (x := σ 1 2) (k := p1) (by omega) (by omega)
    rw [e]
    refine h _ ⟨hx.1.1, hx.1.2.2 (by omega) (by omega)⟩ (fun k hk => ?_)
    rw [hx.2 k hk]
    by_cases w : k = p1
    · rw [if_pos w, w]
      simp
      omega
    · rw [if_neg w]
      simp [w]
theorem q_cnt_all {p : Int → Bool} {N : Nat} (h : ∀ k, q_in N k → p k = true) : q_cnt p N = N := by
  induction N with
  | zero => rfl
  | succ N ih =>
    show q_cnt p N + (if p (N : Int) = true then 1 else 0) = ((N + 1 : Nat) : Int)
    rw [ih (fun k hk => h k ⟨hk.1, by have := hk.2; omega⟩), h (N : Int) ⟨by omega, by omega⟩]
    simp
/-- with one whole bolt alone, a whole bolt is that one -/
theorem q_wh_one {br : Int → Int} {N : Nat} (hb : ∀ k, q_in N k → br k = 0 ∨ br k = 1) {p : Int} (hp : q_in N p) (h0 : br p = 0) : 1 ≤ q_wh br N ∧ (q_wh br N = 1 → ∀ k, q_in N k → k ≠ p → br k ≠ 0) := by
  have one : ∀ M : Nat, (M : Int) ≤ N → 0 ≤ q_wh br M ∧ (p < M → 1 ≤ q_wh br M) ∧ (∀ k, q_in M k → br k = 0 → 1 ≤ q_wh br M) ∧ (p < M → ∀ k, q_in M k → k ≠ p → br k = 0 → 2 ≤ q_wh br M) := by
    intro M
    induction M with
    | zero => exact fun _ => ⟨Int.le_refl 0, fun q => by have := hp.1; omega, fun k hk => by have := hk.1; have := hk.2; omega, fun _ k hk => by have := hk.1; have := hk.2; omega⟩
    | succ M ih =>
      intro hM
      obtain ⟨a, b, c, d⟩ := ih (by omega)
      have e : q_wh br (M + 1) = q_wh br M + (if br (M : Int) = 0 then 1 else 0) := rfl
      rw [e]
      refine ⟨by split <;> omega, fun q => ?_, fun k hk hk0 => ?_, fun q k hk hne hk0 => ?_⟩
      · by_cases w : p = M
        · rw [← w, if_pos h0]
          omega
        · have := b (by omega)
          split <;> omega
      · by_cases w : k = M
        · rw [← w, if_pos hk0]
          omega
        · have := c k ⟨hk.1, by have := hk.2; omega⟩ hk0
          split <;> omega
      · by_cases w : k = M
        · rw [← w, if_pos hk0]
          have := b (by have := hk.2; omega)
          omega
        · by_cases w2 : p = M
          · rw [← w2, if_pos h0]
            have := c k ⟨hk.1, by have := hk.2; omega⟩ hk0
            omega
          · have := d (by omega) k ⟨hk.1, by have := hk.2; omega⟩ hne hk0
            split <;> omega
  obtain ⟨-, b, -, d⟩ := one N (Int.le_refl _)
  refine ⟨b hp.2, fun q k hk hne hk0 => ?_⟩
  have := d hp.2 k hk hne hk0
  omega
theorem q_wh_two {br : Int → Int} {N : Nat} {p : Int} (hp : q_in N p) (h0 : br p = 0) (h : q_wh br N ≠ 1) : ∃ k, q_in N k ∧ k ≠ p ∧ br k = 0 := by
  by_cases w : ∃ k, q_in N k ∧ k ≠ p ∧ br k = 0
  · exact w
  · exfalso
    have z : ∀ M : Nat, (M : Int) ≤ N → q_wh br M = if p < M then 1 else 0 := by
      intro M
      induction M with
      | zero =>
        intro _
        rw [if_neg (by have := hp.1; omega)]
        rfl
      | succ M ih =>
        intro hM
        have e : q_wh br (M + 1) = q_wh br M + (if br (M : Int) = 0 then 1 else 0) := rfl
        rw [e, ih (by omega)]
        by_cases w2 : p = M
        · rw [← w2, if_pos h0, if_neg (by omega), if_pos (by omega)]
          rfl
        · rw [if_neg (show ¬ br (M : Int) = 0 from fun q => w ⟨M, ⟨by omega, by omega⟩, fun q2 => w2 q2.symm, q⟩)]
          split <;> split <;> omega
    have := z N (Int.le_refl _)
    rw [if_pos hp.2] at this
    exact h this
theorem Rel.bd {σ τ : Mem} (R : Rel σ τ) : (0 ≤ σ 1 2 ∧ σ 1 2 < 64) ∧ ∀ k, σ 1 0 ≤ k → q_bit (σ 1 2) k = false := R.1.2.2.2.1.2
theorem Rel.brk {σ τ : Mem} (R : Rel σ τ) {k : Int} (hk : q_in (σ 1 0) k) : c_br σ k = τ 5 k := (R.1.2.2.1 k hk).2.2.2.2
theorem Rel.wh {σ τ : Mem} (R : Rel σ τ) : q_wh (c_br σ) (σ 1 0).toNat = q_wh (τ 5) (τ 0 0).toNat := by
  rw [← R.1.1]
  exact q_wh_congr (fun k hk => R.brk ⟨hk.1, by have := hk.2; have := R.n; omega⟩)
theorem Rel.JB {σ τ : Mem} (R : Rel σ τ) : JB τ := R.1.B
theorem Rel.brok {σ τ : Mem} (R : Rel σ τ) {p v : Int} (hp : q_in (σ 1 0) p) {x : Int} (hx : x = 0 ∨ x = 1) (hv : 0 ≤ v ∧ v < 64) (hb : ∀ k, 0 ≤ k → q_bit v k = if k = p then decide (x = 1) else q_bit (σ 1 2) k) (hw : ∃ k, q_in (σ 1 0) k ∧ q_bit v k = false) : Rel (m_upd σ 1 2 v) (m_upd τ 5 p x) := by
  have f : ∀ d : Nat, d ≠ 1 → m_upd σ 1 2 v d = σ d := fun d hd => m_upd_ne _ _ _ _ _ hd
  have g : ∀ d : Nat, d ≠ 5 → m_upd τ 5 p x d = τ d := fun d hd => m_upd_ne _ _ _ _ _ hd
  have f10 : m_upd σ 1 2 v 1 0 = σ 1 0 := by
    rw [m_upd_at]
    simp
  have f11 : m_upd σ 1 2 v 1 1 = σ 1 1 := by
    rw [m_upd_at]
    simp
  have f12 : m_upd σ 1 2 v 1 2 = v := by
    rw [m_upd_at]
    simp
  have g0 := g 0 (by omega)
  have hn := R.n
  refine ⟨?_, R.2.1.cong (by rw [f 23 (by omega)]) (fun d d1 d2 => f d (by omega)) (by rw [g0]) (g 7 (by omega)), R.2.2.1.cong (f 32 (by omega)) (g 8 (by omega)), R.2.2.2.1.cong f10 (f 34 (by omega)) (f 35 (by omega)) (f 36 (by omega)) (g 9 (by omega)) (g 10 (by omega)) (g 11 (by omega)), R.2.2.2.2.1.cong (f 0 (by omega)) (f 37 (by omega)) (f 41 (by omega)) (g 19 (by omega)) (by rw [g0]) (by rw [g0]) (by rw [g0]), R.2.2.2.2.2.cong (f 22 (by omega))⟩
  obtain ⟨e0, e1, hs, ⟨⟨n1, n2, hk, -⟩, hB, hout⟩, ht, hr⟩ := R.1
  have cb : ∀ k, c_br (m_upd σ 1 2 v) k = if q_bit v k = true then 1 else 0 := fun k => by
    unfold c_br
    rw [f12]
  unfold RelJ JA q_ok
  rw [f10, f11, f12, f 2 (by omega), f 3 (by omega), f 4 (by omega), f 5 (by omega), f 6 (by omega), g0, g 1 (by omega), g 2 (by omega), g 3 (by omega), g 4 (by omega), g 6 (by omega)]
  refine ⟨e0, e1, fun k hi => ?_, ⟨⟨n1, n2, fun k hi => ?_, ?_⟩, hv, fun k hi => ?_⟩, ht, hr⟩
  · have y := hs k hi
    refine ⟨y.1, y.2.1, y.2.2.1, y.2.2.2.1, ?_⟩
    rw [cb, hb k hi.1, m_upd_at]
    by_cases w : k = p
    · rw [if_pos w, if_pos (show (5 : Nat) = 5 ∧ k = p from ⟨rfl, w⟩)]
      rcases hx with rfl | rfl <;> rfl
    · rw [if_neg w, if_neg (show ¬ ((5 : Nat) = 5 ∧ k = p) from fun q => w q.2), ← y.2.2.2.2]
      rfl
  · have y := hk k hi
    refine ⟨y.1, y.2.1, y.2.2.1, y.2.2.2.1, ?_⟩
    rw [cb]
    split <;> omega
  · obtain ⟨k, hk1, hk2⟩ := hw
    refine ⟨k, hk1, ?_⟩
    rw [cb, hk2]
    rfl
  · have := hp.2
    rw [hb k (by omega), if_neg (by omega)]
    exact hout k hi
theorem M_broken {σ τ : Mem} (R : Rel σ τ) {p1 p2 : Int} (i1 : InI p1) (i2 : p2 = 0 ∨ p2 = 1) : Ans (x7_broken p1 p2 σ) (x8_broken p1 p2 τ) := by
  unfold Ans
  apply x7_broken_i
  have hn := R.n
  have e0 : σ 1 0 = τ 0 0 := R.1.1
  have hJB := R.JB
  refine L_has i1 hn (fun a => ⟨by omega, fun _ => ?_, fun c => absurd c (by omega)⟩) (fun a => ⟨by omega, fun c => absurd rfl c, fun _ => ?_⟩)
  · have a' : q_in (τ 0 0) p1 := by rw [← e0]; exact a
    have a1 := a.1
    have a2 := a.2
    have hbk := R.brk a
    have ref : ∀ {P : Int → Mem → Prop}, (p2 = 0 ∨ ¬ τ 5 p1 = 0 ∨ ¬ q_wh (c_br σ) (σ 1 0).toNat = 1 → x8_broken_b35 (x8_broken_L35 P) P p1 p2 τ) → (¬ p2 = 0 ∧ τ 5 p1 = 0 ∧ q_wh (c_br σ) (σ 1 0).toNat = 1 → P (-100003) τ) → x8_broken p1 p2 τ P := fun k1 k2 => by
      apply x8_broken_i
      refine B_noBolt i1 (by omega) (fun _ => ⟨by omega, fun _ => ⟨by omega, fun q => x8_broken_s35 (k1 (Or.inl q)), fun q => ⟨by omega, ?_, fun q2 => x8_broken_s35 (k1 (Or.inr (Or.inl q2))), fun q2 => B_whole (by omega) (fun k hk => (hJB.k hk).2.2.2.2) ?_⟩⟩, fun c => absurd rfl c⟩) (fun q => absurd a' q)
      · rw [← hbk]
        unfold c_br
        split <;> omega
      · have hw := R.wh
        have hbd : InI (q_wh (τ 5) (τ 0 0).toNat) := by
          rw [← hw, q_wh_cnt]
          have := q_cnt_bd (q_bit (σ 1 2)) (σ 1 0).toNat
          constructor <;> omega
        refine ⟨⟨hbd, by omega⟩, fun q3 => x8_broken_s35 (k1 (Or.inr (Or.inr (by rw [hw]; exact q3)))), fun q3 => k2 ⟨q, q2, by rw [hw]; exact q3⟩⟩
    have hb : c_br σ p1 = 0 ∨ c_br σ p1 = 1 := by
      unfold c_br
      split <;> omega
    have g6 : 0 ≤ p1 ∧ p1 < 6 := by omega
    have g01 : 0 ≤ p2 ∧ p2 ≤ 1 := by omega
    have done : (∃ k, q_in (σ 1 0) k ∧ k ≠ p1 ∧ c_br σ k = 0) ∨ p2 = 0 → ¬ (¬ p2 = 0 ∧ τ 5 p1 = 0 ∧ q_wh (c_br σ) (σ 1 0).toNat = 1) → x7_broken_b45 (x7_broken_L45 (fun r σ' => x8_broken p1 p2 τ fun r' τ' => r = r' ∧ Rel σ' τ')) (fun r σ' => x8_broken p1 p2 τ fun r' τ' => r = r' ∧ Rel σ' τ') p1 p2 (c_br σ p1) σ := fun hw hno => by
      have hbi : InI (c_br σ p1) := by rcases hb with q | q <;> rw [q] <;> omega
      refine L_markBroken R.bd.1 ⟨a1, by omega⟩ i2 (fun v v1 v2 => L_asNumber hbi (ref (fun _ => ⟨g6, B_bit (by rw [← hbk]; exact hbi) ⟨⟨g6, g01⟩, fun s e => ⟨by rw [hbk], ?_⟩⟩⟩) (fun q => absurd q hno)))
      rw [e]
      refine R.brok a i2 v1 v2 ?_
      by_cases w : p2 = 0
      · exact ⟨p1, a, by rw [v2 p1 a1, if_pos rfl, w]; rfl⟩
      · rcases hw with ⟨k, k1, k2, k3⟩ | q
        · refine ⟨k, k1, ?_⟩
          rw [v2 k k1.1, if_neg k2]
          unfold c_br at k3
          revert k3
          cases q_bit (σ 1 2) k <;> simp
        · exact absurd q w
    refine L_isBroken R.bd.1 (by omega) ⟨by omega, fun q => x7_broken_s45 (done (Or.inr q) (fun z => z.1 q)), fun q => ⟨by rcases hb with q | q <;> rw [q] <;> omega, fun q2 => x7_broken_s45 (done ?_ (fun z => q2 (by rw [hbk]; exact z.2.1))), fun q2 => L_wholeCount (by omega) R.bd.1 R.bd.2 ⟨⟨?_, by omega⟩, fun q3 => x7_broken_s45 (done (Or.inl ?_) (fun z => q3 z.2.2)), fun q3 => ref (fun z => ?_) (fun _ => ⟨rfl, R⟩)⟩⟩⟩
    · obtain ⟨k, k1, k2⟩ := R.1.2.2.2.1.1.2.2.2
      exact Or.inl ⟨k, k1, fun e => q2 (by rw [← e]; exact k2), k2⟩
    · rw [q_wh_cnt]
      have := q_cnt_bd (q_bit (σ 1 2)) (σ 1 0).toNat
      constructor <;> omega
    · obtain ⟨k, k1, k2, k3⟩ := q_wh_two (N := (σ 1 0).toNat) ⟨a1, by omega⟩ q2 q3
      exact ⟨k, ⟨k1.1, by have := k1.2; omega⟩, k2, k3⟩
    · rw [hbk] at q2
      rcases z with z | z | z
      · exact absurd z q
      · exact absurd q2 z
      · exact absurd q3 z
  · apply x8_broken_i
    exact B_noBolt i1 (by omega) (fun q => absurd q (by rw [← e0]; exact a)) (fun _ => ⟨by omega, fun c => absurd c (by omega), fun _ => ⟨rfl, R⟩⟩)
