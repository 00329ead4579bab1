theorem q_w_next {n x : Int} (h : 0 ≤ x ∧ x < 2 * n - 1) : (if q_w n x + 1 < n then q_w n x + 1 else 0) = q_w n (x + 1) := by
  unfold q_w
  split <;> split <;> omega
/-- arcs and powers of the rib as they should be -/
def ArcsOk (N : Nat) (ρ : Int) (d A R : Int → Int) : Prop := (∀ (st : Int) (L : Nat), q_in N st → L < N → A (6 * st + L) = q_ph N ρ d st L) ∧ ∀ p : Nat, p ≤ N → R p = ρ ^ p
theorem L_fillArcs {o : Nat} (ho : LfA o) {N : Nat} (hN : 3 ≤ N ∧ N ≤ 6) {ρ : Int} (hρ : 1 ≤ ρ ∧ ρ ≤ 9) {σ : Mem} {Q : Int → Mem → Prop}
    (h : ∀ σ' : Mem, (∀ c : Nat, c ≠ o + 4 → c ≠ o + 5 → σ' c = σ c) → ArcsOk N ρ (σ (o + 2)) (σ' (o + 5)) (σ' (o + 4)) → Q 0 σ') : x3_fillArcs o N ρ σ Q := by
  apply x3_fillArcs_i
  -- the powers
  have pow : ∀ (m : Nat) (p : Nat) (s : Mem), 1 ≤ p → p ≤ N + 1 → N + 1 - p = m → (∀ c : Nat, c ≠ o + 4 → c ≠ o + 5 → s c = σ c) → (∀ (st : Int) (L : Nat), q_in N st → L < N → s (o + 5) (6 * st + L) = q_ph N ρ (σ (o + 2)) st L) → (∀ j : Nat, j < p → s (o + 4) j = ρ ^ j) → x3_fillArcs_L144 o Q N ρ p s := by
    intro m
    induction m with
    | zero =>
      intro p s h0 h1 hm hf ha hp
      apply x3_fillArcs_s144
      refine ⟨by omega, fun c => h s hf ⟨ha, fun j hj => hp j (by omega)⟩, fun c => absurd c (by omega)⟩
    | succ m ih =>
      intro p s h0 h1 hm hf ha hp
      apply x3_fillArcs_s144
      refine ⟨by omega, fun c => absurd c (by omega), fun c => ⟨by omega, by omega, by omega, fun s8 e8 => ?_⟩⟩
      have := ih (p + 1) s8 (by omega) (by omega) (by omega) (fun c hc1 hc2 => by rw [e8, m_upd_ne _ _ _ _ _ hc1]; exact hf c hc1 hc2)
        (fun st L hst hL => by rw [e8, m_upd_ne _ _ _ _ _ (by omega)]; exact ha st L hst hL) (fun j hj => by
          rw [e8, m_upd_at]
          by_cases hjp : j = p
          · subst hjp
            rw [if_pos ⟨rfl, rfl⟩]
            have e : ((j : Int) - 1) = ((j - 1 : Nat) : Int) := by omega
            rw [e, hp (j - 1) (by omega), ← Int.pow_succ, show (j - 1).succ = j by omega]
          · rw [if_neg (by omega)]
            exact hp j (by omega))
      rw [show ((p + 1 : Nat) : Int) = (p : Int) + 1 by omega] at this
      exact this
  -- the arcs
  have outer : ∀ (m : Nat) (st : Int) (s : Mem), 0 ≤ st → st ≤ N → ((N : Int) - st).toNat = m → (∀ c : Nat, c ≠ o + 4 → c ≠ o + 5 → s c = σ c) → (∀ (a : Int) (L : Nat), 0 ≤ a → a < st → L < N → s (o + 5) (6 * a + L) = q_ph N ρ (σ (o + 2)) a L) → x3_fillArcs_L9 o Q N ρ (ρ * ρ) st s := by
    intro m
    induction m with
    | zero =>
      intro st s h0 h1 hm hf ha
      apply x3_fillArcs_s9
      refine ⟨by omega, fun c => ⟨by omega, fun s1 e1 => ?_⟩, fun c => absurd c (by omega)⟩
      refine pow N 1 s1 (by omega) (by omega) (by omega) (fun c hc1 hc2 => by rw [e1, m_upd_ne _ _ _ _ _ hc1]; exact hf c hc1 hc2) (fun a L hst hL => by rw [e1, m_upd_ne _ _ _ _ _ (by omega)]; exact ha a L hst.1 (by have := hst.2; omega) hL) (fun j hj => ?_)
      rw [e1, m_upd_at, if_pos ⟨rfl, by omega⟩, show j = 0 by omega, Int.pow_zero]
    | succ m ih =>
      intro st s h0 h1 hm hf ha
      have e2 := hf (o + 2) (by omega) (by omega)
      -- one start
      have inner : ∀ (m2 : Nat) (L : Nat) (s : Mem), 2 ≤ L → L ≤ N → N - L = m2 → (∀ c : Nat, c ≠ o + 4 → c ≠ o + 5 → s c = σ c) → (∀ (a : Int) (L' : Nat), 0 ≤ a → a < st → L' < N → s (o + 5) (6 * a + L') = q_ph N ρ (σ (o + 2)) a L') → (∀ L' : Nat, L' < L → s (o + 5) (6 * st + L') = q_ph N ρ (σ (o + 2)) st L') → x3_fillArcs_L53 o Q N ρ (ρ * ρ) st (6 * st) (q_w N (st + L - 2)) L s := by
        intro m2
        induction m2 with
        | zero =>
          intro L s hL0 hL1 hm2 hf ha hl
          apply x3_fillArcs_s53
          refine ⟨by omega, fun c => ?_, fun c => absurd c (by omega)⟩
          refine ih (st + 1) s (by omega) (by omega) (by omega) hf (fun a L' h0 h1 h2 => ?_)
          by_cases hast : a = st
          · subst hast
            exact hl L' (by omega)
          · exact ha a L' h0 (by omega) h2
        | succ m2 ih2 =>
          intro L s hL0 hL1 hm2 hf ha hl
          have hwi := q_w_in (n := (N : Int)) (x := st + L - 2) ⟨by omega, by omega⟩
          have nxt := q_w_next (n := (N : Int)) (x := st + L - 2) ⟨by omega, by omega⟩
          have e2 := hf (o + 2) (by omega) (by omega)
          have fin : ∀ t0 : Int, t0 = q_w N (st + L - 1) → x3_fillArcs_L75 o Q N ρ (ρ * ρ) st (6 * st) L t0 s := by
            intro t0 ht0
            have hti := q_w_in (n := (N : Int)) (x := st + L - 1) ⟨by omega, by omega⟩
            rw [← ht0] at hti
            have h1 := hti.1
            have h2 := hti.2
            apply x3_fillArcs_s75
            refine ⟨by omega, by omega, by omega, by omega, fun s7 e7 => ?_⟩
            have := ih2 (L + 1) s7 (by omega) (by omega) (by omega) (fun c hc1 hc2 => by rw [e7, m_upd_ne _ _ _ _ _ hc2]; exact hf c hc1 hc2)
              (fun a L' h0 h1 h2 => by
                rw [e7, m_upd_at, if_neg (by omega)]
                exact ha a L' h0 h1 h2) (fun L' hL' => by
                rw [e7, m_upd_at]
                by_cases hLL : L' = L
                · subst hLL
                  rw [if_pos ⟨rfl, rfl⟩, e2]
                  obtain ⟨K, rfl⟩ : ∃ K, L' = K + 2 := ⟨L' - 2, by omega⟩
                  have a1 := hl (K + 1) (by omega)
                  have a2 := hl K (by omega)
                  rw [show 6 * st + ((K + 2 : Nat) : Int) - 1 = 6 * st + ((K + 1 : Nat) : Int) by omega, show 6 * st + ((K + 2 : Nat) : Int) - 2 = 6 * st + ((K : Nat) : Int) by omega, a1, a2, q_ph, ht0, show st + ((K + 2 : Nat) : Int) - 1 = st + (K : Int) + 1 by omega]
                · rw [if_neg (by omega)]
                  exact hl L' (by omega))
            rw [show st + ((L + 1 : Nat) : Int) - 2 = st + L - 1 by omega, show ((L + 1 : Nat) : Int) = (L : Int) + 1 by omega, ← ht0] at this
            exact this
          apply x3_fillArcs_s53
          have h1 := hwi.1
          have h2 := hwi.2
          refine ⟨by omega, fun c => absurd c (by omega), fun c => ⟨by omega, fun c2 => fin 0 ?_, fun c2 => fin _ ?_⟩⟩
          · rw [if_neg (by omega)] at nxt
            rw [nxt]
            congr 1
            omega
          · rw [if_pos c2] at nxt
            rw [nxt]
            congr 1
            omega
      apply x3_fillArcs_s9
      refine ⟨by omega, fun c => absurd c (by omega), fun c => ⟨by omega, fun s2 e_2 => ⟨by omega, by omega, fun s3 e3 => ?_⟩⟩⟩
      have hw0 : q_w (N : Int) (st + ((2 : Nat) : Int) - 2) = st := by
        unfold q_w
        rw [if_pos (by omega)]
        omega
      have := inner (N - 2) 2 s3 (by omega) (by omega) rfl (fun c hc1 hc2 => by rw [e3, m_upd_ne _ _ _ _ _ hc2, e_2, m_upd_ne _ _ _ _ _ hc2]; exact hf c hc1 hc2)
        (fun a L' h0 h1 h2 => by
          rw [e3, m_upd_at, if_neg (by omega), e_2, m_upd_at, if_neg (by omega)]
          exact ha a L' h0 h1 h2) (fun L' hL' => by
          rw [e3, m_upd_at]
          by_cases h1 : L' = 1
          · subst h1
            rw [if_pos ⟨rfl, rfl⟩, e_2, m_upd_ne _ _ _ _ _ (by omega), e2]
            rfl
          · have h0 : L' = 0 := by omega
            subst h0
            rw [if_neg (by omega), e_2, m_upd_at, if_pos ⟨rfl, by omega⟩]
            rfl)
      rw [hw0] at this
      exact this
  exact ⟨by omega, by omega, outer N 0 σ (by omega) (by omega) (by omega) (fun c _ _ => rfl) (fun a L h0 h1 => absurd h1 (by omega))⟩
theorem L_solve {o : Nat} (ho : LfA o) {N : Nat} (hN : 3 ≤ N ∧ N ≤ 6) {ρ : Int} (hρ : 1 ≤ ρ ∧ ρ ≤ 9) {σ : Mem} (hA : ArcsOk N ρ (σ (o + 2)) (σ (o + 5)) (σ (o + 4))) {Q : Int → Mem → Prop}
    (h : ∀ σ' : Mem, (∀ c : Nat, c ≠ o → c ≠ o + 1 → σ' c = σ c) → σ' o 1 = q_det N ρ (σ (o + 2)) → (∀ k, q_in N k → σ' (o + 1) k = q_S N ρ (σ (o + 2)) (σ (o + 3)) k (N - 1)) → Q 0 σ') : x3_solve o N ρ σ Q := by
  apply x3_solve_i
  obtain ⟨hA, hR⟩ := hA
  have outer : ∀ (m : Nat) (k : Int) (s : Mem), 0 ≤ k → k ≤ N → ((N : Int) - k).toNat = m → (∀ c : Nat, c ≠ o → c ≠ o + 1 → s c = σ c) → s o 1 = q_det N ρ (σ (o + 2)) → (∀ j, 0 ≤ j → j < k → s (o + 1) j = q_S N ρ (σ (o + 2)) (σ (o + 3)) j (N - 1)) → x3_solve_L67 o Q N k s := by
    intro m
    induction m with
    | zero =>
      intro k s h0 h1 hm hf hd hu
      apply x3_solve_s67
      exact ⟨by omega, fun c => h s hf hd (fun j hj => hu j hj.1 (by have := hj.2; omega)), fun c => absurd c (by omega)⟩
    | succ m ih =>
      intro k s h0 h1 hm hf hd hu
      have e2 := hf (o + 2) (by omega) (by omega)
      have e3 := hf (o + 3) (by omega) (by omega)
      have e4 := hf (o + 4) (by omega) (by omega)
      have e5 := hf (o + 5) (by omega) (by omega)
      have nxt := q_w_next (n := (N : Int)) (x := k) ⟨by omega, by omega⟩
      have hwk : q_w (N : Int) k = k := by
        unfold q_w
        rw [if_pos (by omega)]
      rw [hwk] at nxt
      have hni := q_w_in (n := (N : Int)) (x := k + 1) ⟨by omega, by omega⟩
      have hn1 := hni.1
      have hn2 := hni.2
      have inner : ∀ (m2 : Nat) (g : Nat), 1 ≤ g → g ≤ N → N - g = m2 → x3_solve_L122 o Q N k (6 * q_w N (k + 1)) (q_S N ρ (σ (o + 2)) (σ (o + 3)) k (g - 1)) (q_w N (k + g - 1)) g s := by
        intro m2
        induction m2 with
        | zero =>
          intro g hg0 hg1 hm2
          apply x3_solve_s122
          refine ⟨by omega, fun c => ⟨by omega, fun s5 e_5 => ?_⟩, fun c => absurd c (by omega)⟩
          refine ih (k + 1) s5 (by omega) (by omega) (by omega) (fun c hc1 hc2 => by rw [e_5, m_upd_ne _ _ _ _ _ hc2]; exact hf c hc1 hc2) (by rw [e_5, m_upd_ne _ _ _ _ _ (by omega)]; exact hd) (fun j hj0 hj1 => ?_)
          rw [e_5, m_upd_at]
          by_cases hjk : j = k
          · rw [if_pos ⟨rfl, hjk⟩, hjk, show g = N by omega]
          · rw [if_neg (by omega)]
            exact hu j hj0 (by omega)
        | succ m2 ih2 =>
          intro g hg0 hg1 hm2
          have hoi := q_w_in (n := (N : Int)) (x := k + g - 1) ⟨by omega, by omega⟩
          have ho1 := hoi.1
          have ho2 := hoi.2
          have nx2 := q_w_next (n := (N : Int)) (x := k + g - 1) ⟨by omega, by omega⟩
          have hti := q_w_in (n := (N : Int)) (x := k + g) ⟨by omega, by omega⟩
          have ht1 := hti.1
          have ht2 := hti.2
          have nx3 := q_w_next (n := (N : Int)) (x := q_w N (k + g)) ⟨by omega, by omega⟩
          have hww : q_w (N : Int) (q_w N (k + g)) = q_w N (k + g) := by
            rw [q_w, if_pos ht2]
          rw [hww] at nx3
          have hbi := q_w_in (n := (N : Int)) (x := q_w N (k + g) + 1) ⟨by omega, by omega⟩
          have hb1 := hbi.1
          have hb2 := hbi.2
          have fin : ∀ t0 : Int, t0 = q_w N (q_w N (k + g) + 1) → x3_solve_L164 o Q N k (6 * q_w N (k + 1)) (q_S N ρ (σ (o + 2)) (σ (o + 3)) k (g - 1)) (q_w N (k + g)) g t0 6 s := by
            intro t0 ht0
            rw [← ht0] at hb1 hb2
            apply x3_solve_s164
            refine ⟨by omega, by omega, fun v9 h9 => ⟨by omega, by omega, fun v10 h10 => ⟨by omega, fun v11 h11 => ?_⟩⟩⟩
            have := ih2 (g + 1) (by omega) (by omega) (by omega)
            rw [show k + ((g + 1 : Nat) : Int) - 1 = k + g by omega, show ((g + 1 : Nat) : Int) = (g : Int) + 1 by omega] at this
            have hv : v11 = q_S N ρ (σ (o + 2)) (σ (o + 3)) k (g + 1 - 1) := by
              obtain ⟨g', rfl⟩ : ∃ g', g = g' + 1 := ⟨g - 1, by omega⟩
              have b1 := hA t0 (N - 2 - g') ⟨hb1, hb2⟩ (by omega)
              have b2 := hA (q_w N (k + 1)) g' hni (by omega)
              have r1 := hR (g' + 1) (by omega)
              have r2 := hR (N - 1 - g') (by omega)
              rw [h11, h9, h10, e3, e4, e5]
              rw [show 6 * t0 + (N : Int) - 1 - ((g' + 1 : Nat) : Int) = 6 * t0 + ((N - 2 - g' : Nat) : Int) by omega, b1, show 6 * q_w (N : Int) (k + 1) + ((g' + 1 : Nat) : Int) - 1 = 6 * q_w (N : Int) (k + 1) + (g' : Int) by omega, b2, r1, show (N : Int) - ((g' + 1 : Nat) : Int) = ((N - 1 - g' : Nat) : Int) by omega, r2, Nat.add_sub_cancel, Nat.add_sub_cancel, q_S, ht0, show k + (g' : Int) + 1 = k + ((g' + 1 : Nat) : Int) by omega]
            rw [hv]
            exact this
          have mid : ∀ t0 : Int, t0 = q_w N (k + g) → x3_solve_L144 o Q N k (6 * q_w N (k + 1)) (q_S N ρ (σ (o + 2)) (σ (o + 3)) k (g - 1)) g t0 s := by
            intro t0 ht0
            subst ht0
            apply x3_solve_s144
            refine ⟨by omega, fun c => fin 0 ?_, fun c => fin _ ?_⟩
            · rw [if_neg (by omega)] at nx3
              exact nx3
            · rw [if_pos c] at nx3
              exact nx3
          apply x3_solve_s122
          refine ⟨by omega, fun c => absurd c (by omega), fun c => ⟨by omega, fun c2 => mid 0 ?_, fun c2 => mid _ ?_⟩⟩
          · rw [if_neg (by omega)] at nx2
            rw [nx2]
            congr 1
            omega
          · rw [if_pos c2] at nx2
            rw [nx2]
            congr 1
            omega
      have fin : ∀ t0 : Int, t0 = q_w N (k + 1) → x3_solve_L91 o Q N k t0 6 s := by
        intro t0 ht0
        subst ht0
        apply x3_solve_s91
        refine ⟨by omega, by omega, fun v4 h4 => ?_⟩
        have := inner (N - 1) 1 (by omega) (by omega) rfl
        rw [show k + ((1 : Nat) : Int) - 1 = k by omega, hwk, show (1 : Nat) - 1 = 0 from rfl, q_S] at this
        have hv : v4 = σ (o + 3) k * q_ph N ρ (σ (o + 2)) (q_w N (k + 1)) (N - 1) := by
          rw [h4, e3, e5, show 6 * q_w (N : Int) (k + 1) + (N : Int) - 1 = 6 * q_w (N : Int) (k + 1) + ((N - 1 : Nat) : Int) by omega, hA _ (N - 1) hni (by omega)]
        rw [hv]
        exact this
      apply x3_solve_s67
      refine ⟨by omega, fun c => absurd c (by omega), fun c => ⟨by omega, fun c2 => fin 0 ?_, fun c2 => fin _ ?_⟩⟩
      · rw [if_neg (by omega)] at nxt
        exact nxt
      · rw [if_pos c2] at nxt
        exact nxt
  refine ⟨by omega, by omega, by omega, by omega, by omega, by omega, by omega, fun s1 e1 => ?_⟩
  refine outer N 0 s1 (by omega) (by omega) (by omega) (fun c hc1 hc2 => by rw [e1, m_upd_ne _ _ _ _ _ hc1]) ?_ (fun j h0 h1 => absurd h1 (by omega))
  have b1 := hA 1 (N - 1) ⟨by omega, by omega⟩ (by omega)
  have b2 := hA 1 (N - 2) ⟨by omega, by omega⟩ (by omega)
  have b3 := hA 2 (N - 2) ⟨by omega, by omega⟩ (by omega)
  have r1 := hR N (by omega)
  rw [e1, m_upd_at, if_pos ⟨rfl, rfl⟩, r1]
  rw [show 6 + (N : Int) - 1 = 6 * 1 + ((N - 1 : Nat) : Int) by omega, b1, show 6 + (N : Int) - 2 = 6 * 1 + ((N - 2 : Nat) : Int) by omega, b2, show 12 + (N : Int) - 2 = 6 * 2 + ((N - 2 : Nat) : Int) by omega, b3]
  rfl
