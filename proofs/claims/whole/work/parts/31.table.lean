/-! ===== the reference: its lifts ===== -/
def JB (τ : Mem) : Prop := q_ok (τ 0 0) (τ 0 1) (τ 1) (τ 2) (τ 3) (τ 4) (τ 5)
theorem JB.n {τ : Mem} (h : JB τ) : 3 ≤ τ 0 0 ∧ τ 0 0 ≤ 6 := h.1
theorem JB.r {τ : Mem} (h : JB τ) : 1 ≤ τ 0 1 ∧ τ 0 1 ≤ 9 := h.2.1
theorem JB.k {τ : Mem} (h : JB τ) {k : Int} (hk : 0 ≤ k ∧ k < τ 0 0) : (1 ≤ τ 1 k ∧ τ 1 k ≤ 9) ∧ (1 ≤ τ 2 k ∧ τ 2 k ≤ 9) ∧ (0 ≤ τ 3 k ∧ τ 3 k ≤ 201) ∧ (0 ≤ τ 4 k ∧ τ 4 k ≤ 200) ∧ (τ 5 k = 0 ∨ τ 5 k = 1) := h.2.2.1 k hk
def m_d (τ : Mem) (k : Int) : Int := 2 * τ 0 1 + q_e (τ 1) (τ 2) (q_wp (τ 14) (τ 5)) (q_wq (τ 14)) k
def m_b (τ : Mem) (k : Int) : Int := q_c (τ 1) (τ 3) (τ 4) (q_wp (τ 14) (τ 5)) (-1) 0 k
theorem B_layTable {τ : Mem} (hJ : JB τ) (hw : ∀ k, q_in (τ 0 0) k → 0 ≤ τ 14 k ∧ τ 14 k ≤ 2) {Q : Int → Mem → Prop}
    (h : ∀ τ' : Mem, (∀ c : Nat, c ≠ 13 → τ' c = τ c) → (∀ r c : Int, q_in (τ 0 0) r → 0 ≤ c ∧ c ≤ τ 0 0 → τ' 13 (7 * r + c) = q_A (τ 0 0) (τ 0 1) (m_d τ) (m_b τ) r c) → Q 0 τ') : x8_layTable τ Q := by
  apply x8_layTable_i
  have hn := hJ.n
  have hr := hJ.r
  have outer : ∀ (m : Nat) (k : Int) (s : Mem), 0 ≤ k → k ≤ τ 0 0 → (τ 0 0 - k).toNat = m → (∀ c : Nat, c ≠ 13 → s c = τ c) → (∀ r c : Int, 0 ≤ r → r < k → 0 ≤ c ∧ c ≤ τ 0 0 → s 13 (7 * r + c) = q_A (τ 0 0) (τ 0 1) (m_d τ) (m_b τ) r c) → x8_layTable_L2 Q k s := by
    intro m
    induction m with
    | zero =>
      intro k s h0 h1 hm hf hv
      have e0 := hf 0 (by omega)
      apply x8_layTable_s2
      exact ⟨by rw [e0]; omega, fun c => h s hf (fun r c hr hc => hv r c hr.1 (by have := hr.2; omega) hc), fun c => absurd c (by rw [e0]; omega)⟩
    | succ m ih =>
      intro k s h0 h1 hm hf hv
      have hk := hJ.k (k := k) (by omega)
      have hwk := hw k ⟨h0, by omega⟩
      have nx := q_nx_in (n := τ 0 0) (k := k) ⟨h0, by omega⟩
      have pv := q_pv_in (n := τ 0 0) (k := k) ⟨h0, by omega⟩
      have nx1 := nx.1
      have nx2 := nx.2
      have pv1 := pv.1
      have pv2 := pv.2
      have ne1 : q_nx (τ 0 0) k ≠ k := by unfold q_nx; split <;> omega
      have ne2 : q_pv (τ 0 0) k ≠ k := by unfold q_pv; split <;> omega
      have ne3 : q_nx (τ 0 0) k ≠ q_pv (τ 0 0) k := by unfold q_nx q_pv; split <;> split <;> omega
      -- the row is zero: the rest of it
      have fin : ∀ s : Mem, (∀ c : Nat, c ≠ 13 → s c = τ c) → (∀ r c : Int, 0 ≤ r → r < k → 0 ≤ c ∧ c ≤ τ 0 0 → s 13 (7 * r + c) = q_A (τ 0 0) (τ 0 1) (m_d τ) (m_b τ) r c) → (∀ c, 0 ≤ c ∧ c ≤ τ 0 0 → s 13 (7 * k + c) = 0) →
          ∀ pu pr : Int, (pu = if q_wp (τ 14) (τ 5) k = true then 1 else 0) → (pr = if q_wq (τ 14) k = true then 1 else 0) → x8_layTable_L77 Q k pu pr s := by
        intro s hf hv hz pu pr hpu hpr
        have e0 := hf 0 (by omega)
        have e1 := hf 1 (by omega)
        have e2 := hf 2 (by omega)
        have f243 : ∀ (s13 : Mem) (t0 : Int), (∀ c : Nat, c ≠ 13 → s13 c = τ c) → (∀ r c : Int, 0 ≤ r → r < k → 0 ≤ c ∧ c ≤ τ 0 0 → s13 13 (7 * r + c) = q_A (τ 0 0) (τ 0 1) (m_d τ) (m_b τ) r c) → (∀ c, 0 ≤ c ∧ c < τ 0 0 → s13 13 (7 * k + c) = q_A (τ 0 0) (τ 0 1) (m_d τ) (m_b τ) k c) → t0 - τ 4 k = m_b τ k → x8_layTable_L243 Q k t0 (7 * k + τ 0 0) s13 := by
          intro s13 t0 hf hv hrow ht0
          have e4 := hf 4 (by omega)
          apply x8_layTable_s243
          refine ⟨by omega, by rw [e4]; omega, by omega, fun s15 e15 => ?_⟩
          refine ih (k + 1) s15 (by omega) (by omega) (by omega) (fun c hc => by rw [e15, m_upd_ne _ _ _ _ _ hc]; exact hf c hc) (fun r c hr0 hr1 hc => ?_)
          rw [e15, m_upd_at]
          by_cases hrk : r = k
          · subst hrk
            by_cases hcn : c = τ 0 0
            · rw [if_pos ⟨rfl, by omega⟩, e4, ht0, q_A, if_pos hcn]
            · rw [if_neg (by omega)]
              exact hrow c (by omega)
          · rw [if_neg (by omega)]
            exact hv r c hr0 (by omega) hc
        have f127 : ∀ t0 t1 : Int, InI t0 → t1 + t0 = m_d τ k → x8_layTable_L127 Q k pu t0 t1 (7 * k + k) s := by
          intro t0 t1 hI hsum
          apply x8_layTable_s127
          refine ⟨hI, by omega, fun s9 e9 => ?_⟩
          have g9 : ∀ c : Nat, c ≠ 13 → s9 c = τ c := fun c hc => by rw [e9, m_upd_ne _ _ _ _ _ hc]; exact hf c hc
          have f165 : x8_layTable_L165 Q k pu (q_nx (τ 0 0) k) (q_pv (τ 0 0) k) s9 := by
            apply x8_layTable_s165
            refine ⟨by omega, by rw [g9 0 (by omega)]; omega, by omega, fun s12 e12 => ?_⟩
            have g12 : ∀ c : Nat, c ≠ 13 → s12 c = τ c := fun c hc => by rw [e12, m_upd_ne _ _ _ _ _ hc]; exact g9 c hc
            refine ⟨by omega, by rw [g12 0 (by omega)]; omega, by omega, fun s13 e13 => ?_⟩
            have g13 : ∀ c : Nat, c ≠ 13 → s13 c = τ c := fun c hc => by rw [e13, m_upd_ne _ _ _ _ _ hc]; exact g12 c hc
            have rows13 : ∀ r c : Int, 0 ≤ r → r < k → 0 ≤ c ∧ c ≤ τ 0 0 → s13 13 (7 * r + c) = q_A (τ 0 0) (τ 0 1) (m_d τ) (m_b τ) r c := by
              intro r c hr0 hr1 hc
              rw [e13, m_upd_at, if_neg (by omega), e12, m_upd_at, if_neg (by omega), e9, m_upd_at, if_neg (by omega)]
              exact hv r c hr0 hr1 hc
            have row13 : ∀ c, 0 ≤ c ∧ c < τ 0 0 → s13 13 (7 * k + c) = q_A (τ 0 0) (τ 0 1) (m_d τ) (m_b τ) k c := by
              intro c hc
              unfold q_A
              rw [if_neg (by omega)]
              by_cases hck : c = k
              · rw [if_pos hck.symm, e13, m_upd_at, if_neg (by omega), e12, m_upd_at, if_neg (by omega), e9, m_upd_at, if_pos ⟨rfl, by omega⟩, hsum]
              · rw [if_neg (fun z => hck z.symm)]
                by_cases hcn : c = q_nx (τ 0 0) k
                · rw [if_pos (Or.inl hcn), e13, m_upd_at, if_neg (by omega), e12, m_upd_at, if_pos ⟨rfl, by omega⟩, e9, m_upd_at, if_neg (by omega), hz _ (by omega), m_upd_ne _ _ _ _ _ (by omega), e0]
                  omega
                · by_cases hcp : c = q_pv (τ 0 0) k
                  · rw [if_pos (Or.inr hcp), e13, m_upd_at, if_pos ⟨rfl, by omega⟩, g12 0 (by omega), e12, m_upd_at, if_neg (by omega), e9, m_upd_at, if_neg (by omega), hz _ (by omega)]
                    omega
                  · rw [if_neg (by omega), e13, m_upd_at, if_neg (by omega), e12, m_upd_at, if_neg (by omega), e9, m_upd_at, if_neg (by omega)]
                    exact hz c (by omega)
            have e1' := g13 1 (by omega)
            have e3' := g13 3 (by omega)
            refine ⟨by rw [hpu]; split <;> omega, fun c => ?_, fun c => ⟨by omega, by rw [e1']; omega, by omega, by rw [e3']; omega, ?_⟩⟩
            · rw [g13 0 (by omega)]
              refine f243 s13 0 g13 rows13 row13 ?_
              unfold m_b q_c
              rw [if_neg (show ¬ k = -1 by omega)]
              rw [c] at hpu
              by_cases hp : q_wp (τ 14) (τ 5) k = true
              · rw [if_pos hp] at hpu
                omega
              · rw [if_neg hp]
                omega
            · rw [g13 0 (by omega), e1', e3']
              refine f243 s13 _ g13 rows13 row13 ?_
              unfold m_b q_c
              rw [if_neg (show ¬ k = -1 by omega)]
              by_cases hp : q_wp (τ 14) (τ 5) k = true
              · rw [if_pos hp]
                omega
              · rw [if_neg hp] at hpu
                exact absurd hpu c
          have f147 : x8_layTable_L147 Q k pu (q_nx (τ 0 0) k) s9 := by
            apply x8_layTable_s147
            refine ⟨by omega, fun c => ?_, fun c => ?_⟩
            · have : k - 1 = q_pv (τ 0 0) k := by unfold q_pv; rw [if_neg c]
              rw [this]
              exact f165
            · have : s9 0 0 - 1 = q_pv (τ 0 0) k := by rw [g9 0 (by omega)]; unfold q_pv; rw [if_pos c]
              rw [this]
              exact f165
          have eg := g9 0 (by omega)
          refine ⟨by rw [eg]; omega, fun c => ?_, fun c => ?_⟩
          · rw [eg] at c
            have : k + 1 = q_nx (τ 0 0) k := by unfold q_nx; rw [if_pos (by omega)]
            rw [this]
            exact f147
          · rw [eg] at c
            have : (0 : Int) = q_nx (τ 0 0) k := by unfold q_nx; rw [if_neg (by omega)]
            rw [this]
            exact f147
        have f111 : ∀ t0 : Int, InI t0 → t0 = (if q_wp (τ 14) (τ 5) k = true then τ 1 k else 0) → x8_layTable_L111 Q k pu pr t0 (2 * τ 0 1) (7 * k + k) s := by
          intro t0 hI ht0
          apply x8_layTable_s111
          refine ⟨hI, by rw [hpr]; split <;> omega, fun c => f127 0 _ (by omega) ?_, fun c => ⟨by omega, f127 _ _ (by rw [e2]; omega) ?_⟩⟩
          · unfold m_d q_e
            rw [← ht0]
            rw [c] at hpr
            by_cases hp : q_wq (τ 14) k = true
            · rw [if_pos hp] at hpr
              omega
            · rw [if_neg hp]
              omega
          · unfold m_d q_e
            rw [← ht0]
            by_cases hp : q_wq (τ 14) k = true
            · rw [if_pos hp, e2]
              omega
            · rw [if_neg hp] at hpr
              exact absurd hpr c
        apply x8_layTable_s77
        refine ⟨by rw [e0]; omega, by rw [hpu]; split <;> omega, fun c => ?_, fun c => ⟨by omega, ?_⟩⟩
        · rw [e0]
          refine f111 0 (by omega) ?_
          rw [c] at hpu
          by_cases hp : q_wp (τ 14) (τ 5) k = true
          · rw [if_pos hp] at hpu
            omega
          · rw [if_neg hp]
        · rw [e0, e1]
          refine f111 _ (by omega) ?_
          by_cases hp : q_wp (τ 14) (τ 5) k = true
          · rw [if_pos hp]
          · rw [if_neg hp] at hpu
            exact absurd hpu c
      have zero : ∀ (m2 : Nat) (j : Int) (s : Mem), 0 ≤ j → j ≤ τ 0 0 + 1 → (τ 0 0 + 1 - j).toNat = m2 → (∀ c : Nat, c ≠ 13 → s c = τ c) → (∀ r c : Int, 0 ≤ r → r < k → 0 ≤ c ∧ c ≤ τ 0 0 → s 13 (7 * r + c) = q_A (τ 0 0) (τ 0 1) (m_d τ) (m_b τ) r c) → (∀ c, 0 ≤ c ∧ c < j → s 13 (7 * k + c) = 0) → x8_layTable_L12 Q k j s := by
        intro m2
        induction m2 with
        | zero =>
          intro j s hj0 hj1 hm2 hf hv hz
          have e0 := hf 0 (by omega)
          have e14 := hf 14 (by omega)
          have e5 := hf 5 (by omega)
          have f62 : ∀ pu : Int, (pu = if q_wp (τ 14) (τ 5) k = true then 1 else 0) → x8_layTable_L62 Q k pu s := by
            intro pu hpu
            apply x8_layTable_s62
            unfold x8_layTable_b62
            rw [show s 14 k = τ 14 k by rw [e14]]
            refine ⟨by omega, by omega, fun c => fin s hf hv (fun c hc => hz c (by omega)) pu 0 hpu ?_, fun c => fin s hf hv (fun c hc => hz c (by omega)) pu 1 hpu ?_⟩
            · unfold q_wq
              rw [if_neg (by simp; omega)]
            · unfold q_wq
              rw [if_pos (decide_eq_true c)]
          apply x8_layTable_s12
          refine ⟨by rw [e0]; omega, fun c => ⟨by omega, by rw [e14]; omega, fun c => ?_, fun c => ⟨by omega, by rw [e5]; have := hk.2.2.2.2; omega, fun c2 => ?_, fun c2 => ?_⟩⟩, fun c => absurd c (by rw [e0]; omega)⟩
          · rw [e14] at c
            refine f62 0 ?_
            unfold q_wp
            rw [if_neg (by simp; omega)]
          · rw [e5] at c2
            refine f62 0 ?_
            unfold q_wp
            rw [if_neg (by simp; omega)]
          · rw [e14] at c
            rw [e5] at c2
            refine f62 1 ?_
            unfold q_wp
            rw [if_pos (decide_eq_true ⟨c, c2⟩)]
        | succ m2 ih2 =>
          intro j s hj0 hj1 hm2 hf hv hz
          have e0 := hf 0 (by omega)
          apply x8_layTable_s12
          refine ⟨by rw [e0]; omega, fun c => absurd c (by rw [e0]; omega), fun c => ⟨by omega, fun s4 e4 => ?_⟩⟩
          refine ih2 (j + 1) s4 (by omega) (by omega) (by omega) (fun c hc => by rw [e4, m_upd_ne _ _ _ _ _ hc]; exact hf c hc) (fun r c hr0 hr1 hc => by rw [e4, m_upd_at, if_neg (by omega)]; exact hv r c hr0 hr1 hc) (fun c hc => ?_)
          rw [e4, m_upd_at]
          by_cases hcj : c = j
          · rw [if_pos ⟨rfl, by omega⟩]
          · rw [if_neg (by omega)]
            exact hz c (by omega)
      have e0 := hf 0 (by omega)
      apply x8_layTable_s2
      refine ⟨by rw [e0]; omega, fun c => absurd c (by rw [e0]; omega), fun c => zero _ 0 s (by omega) (by omega) rfl hf hv (fun c hc => absurd hc (by omega))⟩
  exact outer _ 0 τ (by omega) (by omega) rfl (fun c _ => rfl) (fun r c h0 h1 => absurd h1 (by omega))
theorem B_solve {N : Nat} (hN : 3 ≤ N ∧ N ≤ 6) {ρ : Int} {d b : Int → Int} {T : Nat → Int → Int → Int} {L : Nat → Int} (ok : TOk N ρ d b T L) {τ : Mem} (hn : τ 0 0 = N) (hA : ∀ r c : Int, q_in N r → 0 ≤ c ∧ c ≤ N → τ 13 (7 * r + c) = q_A N ρ d b r c) {Q : Int → Mem → Prop}
    (h : ∀ τ' : Mem, (∀ c : Nat, c ≠ 0 → c ≠ 12 → c ≠ 13 → τ' c = τ c) → (∀ j : Int, j ≠ 15 → τ' 0 j = τ 0 j) → τ' 0 15 = q_det N ρ d → (∀ k, q_in N k → τ' 12 k = q_S N ρ d b k (N - 1)) → Q 0 τ') : x8_solve τ Q := by
  obtain ⟨a0, arec, akeep, ⟨al0, al⟩, apos, adet, afin⟩ := ok
  apply x8_solve_i
  -- the end: lifts out of the table
  have out : ∀ (m : Nat) (k : Int) (s : Mem), 0 ≤ k → k ≤ N → ((N : Int) - k).toNat = m → (∀ c : Nat, c ≠ 0 → c ≠ 12 → c ≠ 13 → s c = τ c) → (∀ j : Int, j ≠ 15 → s 0 j = τ 0 j) → s 0 15 = q_det N ρ d → (∀ r, q_in N r → s 13 (7 * r + N) = T N r N) → (∀ j, 0 ≤ j → j < k → s 12 j = q_S N ρ d b j (N - 1)) → x8_solve_L144 Q k s := by
    intro m
    induction m with
    | zero =>
      intro k s h0 h1 hm hf hf0 hd ht hv
      have e0 := hf0 0 (by omega)
      apply x8_solve_s144
      exact ⟨by rw [e0]; omega, fun c => h s hf hf0 hd (fun j hj => hv j hj.1 (by have := hj.2; omega)), fun c => absurd c (by rw [e0]; omega)⟩
    | succ m ih =>
      intro k s h0 h1 hm hf hf0 hd ht hv
      have e0 := hf0 0 (by omega)
      apply x8_solve_s144
      unfold x8_solve_b144
      rw [e0, hn]
      refine ⟨by omega, fun c => absurd c (by omega), fun c => ⟨by omega, by omega, fun s9 e9 => ?_⟩⟩
      refine ih (k + 1) s9 (by omega) (by omega) (by omega) (fun c h1 h2 h3 => by rw [e9, m_upd_ne _ _ _ _ _ h2]; exact hf c h1 h2 h3) (fun j hj => by rw [e9, m_upd_ne _ _ _ _ _ (by omega)]; exact hf0 j hj) (by rw [e9, m_upd_ne _ _ _ _ _ (by omega)]; exact hd) (fun r hr => by rw [e9, m_upd_ne _ _ _ _ _ (by omega)]; exact ht r hr) (fun j hj0 hj1 => ?_)
      rw [e9, m_upd_at]
      by_cases hjk : j = k
      · rw [if_pos ⟨rfl, hjk⟩, ht k ⟨h0, by omega⟩, afin k ⟨h0, by omega⟩, hjk]
      · rw [if_neg (by omega)]
        exact hv j hj0 (by omega)
  have step : ∀ (m : Nat) (p : Nat) (s : Mem), p ≤ N → N - p = m → (∀ c : Nat, c ≠ 13 → s c = τ c) → (∀ r c : Int, q_in N r → 0 ≤ c ∧ c ≤ N → s 13 (7 * r + c) = T p r c) → x8_solve_L4 Q (L p) p s := by
    intro m
    induction m with
    | zero =>
      intro p s hp hm hf ht
      have e0 := hf 0 (by omega)
      have hpN : p = N := by omega
      subst hpN
      apply x8_solve_s4
      unfold x8_solve_b4
      rw [e0, hn]
      refine ⟨by omega, fun c s1 e1 => ?_, fun c => absurd c (by omega)⟩
      refine out p 0 s1 (by omega) (by omega) (by omega) (fun c h1 h2 h3 => by rw [e1, m_upd_ne _ _ _ _ _ h1]; exact hf c h3) (fun j hj => by rw [e1, m_upd_at, if_neg (by omega), e0]) (by rw [e1, m_upd_at, if_pos ⟨rfl, rfl⟩]; exact adet) (fun r hr => ?_) (fun j h0 h1 => absurd h1 (by omega))
      rw [e1, m_upd_ne _ _ _ _ _ (by omega)]
      exact ht r p hr ⟨by omega, by omega⟩
    | succ m ih =>
      intro p s hp hm hf ht
      have hLp := apos p (by omega)
      have rows : ∀ (m2 : Nat) (r : Int) (s : Mem), 0 ≤ r → r ≤ N → ((N : Int) - r).toNat = m2 → (∀ c : Nat, c ≠ 13 → s c = τ c) → (∀ r' c : Int, q_in N r' → 0 ≤ c ∧ c ≤ N → s 13 (7 * r' + c) = if r' < r then T (p + 1) r' c else T p r' c) → x8_solve_L28 Q (L p) p (T p p p) r s := by
        intro m2
        induction m2 with
        | zero =>
          intro r s h0 h1 hm2 hf ht
          have e0 := hf 0 (by omega)
          apply x8_solve_s28
          unfold x8_solve_b28
          rw [e0, hn]
          refine ⟨by omega, fun c => ?_, fun c => absurd c (by omega)⟩
          have := ih (p + 1) s (by omega) (by omega) hf (fun r' c hr hc => by rw [ht r' c hr hc, if_pos (by have := hr.2; omega)])
          rw [al p (by omega)] at this
          exact this
        | succ m2 ih2 =>
          intro r s h0 h1 hm2 hf ht
          have e0 := hf 0 (by omega)
          apply x8_solve_s28
          unfold x8_solve_b28
          rw [e0, hn]
          refine ⟨by omega, fun c => absurd c (by omega), fun c => ⟨by omega, fun crp => ?_, fun crp => ⟨by omega, fun v4 hv4 => ?_⟩⟩⟩
          · refine ih2 (r + 1) s (by omega) (by omega) (by omega) hf (fun r' c hr hc => ?_)
            rw [ht r' c hr hc]
            by_cases hrr : r' = p
            · rw [if_neg (by omega), if_pos (by omega), hrr, akeep p c (by omega) hc]
            · by_cases h2 : r' < r
              · rw [if_pos h2, if_pos (by omega)]
              · rw [if_neg h2, if_neg (by omega)]
          · rw [ht r p ⟨h0, by omega⟩ (by omega), if_neg (by omega)] at hv4
            have cols : ∀ (m3 : Nat) (c : Int) (s : Mem), 0 ≤ c → c ≤ (N : Int) + 1 → ((N : Int) + 1 - c).toNat = m3 → (∀ c : Nat, c ≠ 13 → s c = τ c) → (∀ r' c' : Int, q_in N r' → 0 ≤ c' ∧ c' ≤ N → s 13 (7 * r' + c') = if r' < r ∨ (r' = r ∧ c' < c) then T (p + 1) r' c' else T p r' c') → x8_solve_L60 Q (L p) p (T p p p) r v4 c s := by
              intro m3
              induction m3 with
              | zero =>
                intro c s h0 h1 hm3 hf ht
                have e0 := hf 0 (by omega)
                apply x8_solve_s60
                unfold x8_solve_b60
                rw [e0, hn]
                refine ⟨by omega, fun c2 => ?_, fun c2 => absurd c2 (by omega)⟩
                refine ih2 (r + 1) s (by omega) (by omega) (by omega) hf (fun r' c' hr hc => ?_)
                rw [ht r' c' hr hc]
                by_cases h2 : r' < r + 1
                · rw [if_pos h2, if_pos (by omega)]
                · rw [if_neg h2, if_neg (by omega)]
              | succ m3 ih3 =>
                intro c s h0c h1 hm3 hf ht
                have e0 := hf 0 (by omega)
                have hrc := arec p r c (by omega) ⟨h0, by omega⟩ crp (by omega)
                have t1 := ht r c ⟨h0, by omega⟩ (by omega)
                have t2 := ht p c ⟨by omega, by omega⟩ (by omega)
                have t2' : s 13 (7 * (p : Int) + c) = T p p c := by
                  rw [t2]
                  by_cases hpr : (p : Int) < r
                  · rw [if_pos (Or.inl hpr), akeep p c (by omega) (by omega)]
                  · rw [if_neg (by omega)]
                rw [if_neg (by omega)] at t1
                have hnum : s 13 (7 * r + c) * T p p p - v4 * s 13 (7 * (p : Int) + c) = T (p + 1) r c * L p := by
                  rw [t1, t2', hv4]
                  exact hrc.1
                apply x8_solve_s60
                unfold x8_solve_b60
                rw [e0, hn, hnum]
                refine ⟨by omega, fun c2 => absurd c2 (by omega), fun c2 => ⟨by omega, by omega, ⟨⟨by have := hrc.2.1; omega, by have := hrc.2.2; omega⟩, ⟨by omega, by omega⟩, by omega⟩, by omega, fun s7 e7 => ?_⟩⟩
                rw [Int.mul_tdiv_cancel _ (by omega)] at e7
                refine ih3 (c + 1) s7 (by omega) (by omega) (by omega) (fun c hc => by rw [e7, m_upd_ne _ _ _ _ _ hc]; exact hf c hc) (fun r' c' hr hc => ?_)
                rw [e7, m_upd_at]
                by_cases hh : r' = r ∧ c' = c
                · rw [if_pos ⟨rfl, by omega⟩, if_pos (by omega), hh.1, hh.2]
                · have hne : ¬ (7 * r' + c' = 7 * r + c) := by have := hr.1; have := hr.2; omega
                  rw [if_neg (fun z => hne z.2), ht r' c' hr hc]
                  by_cases h2 : r' < r ∨ (r' = r ∧ c' < c)
                  · rw [if_pos h2, if_pos (by omega)]
                  · rw [if_neg h2, if_neg (by omega)]
            refine cols _ 0 s (by omega) (by omega) rfl hf (fun r' c' hr hc => ?_)
            rw [ht r' c' hr hc]
            by_cases h2 : r' < r
            · rw [if_pos h2, if_pos (by omega)]
            · rw [if_neg h2, if_neg (by omega)]
      have e0 := hf 0 (by omega)
      apply x8_solve_s4
      unfold x8_solve_b4
      rw [e0, hn]
      refine ⟨by omega, fun c => absurd c (by omega), fun c => ⟨by omega, fun v2 hv2 => ?_⟩⟩
      rw [ht p p ⟨by omega, by omega⟩ (by omega)] at hv2
      rw [hv2]
      refine rows _ 0 s (by omega) (by omega) rfl hf (fun r' c hr hc => ?_)
      rw [ht r' c hr hc, if_neg (by have := hr.1; omega)]
  have := step N 0 τ (by omega) (by omega) (fun c _ => rfl) (fun r c hr hc => by rw [hA r c hr hc, a0 r c hr hc])
  rw [al0] at this
  exact this
