theorem q_onto : ∀ (N : Nat) (f : Int → Int), (∀ k, q_in N k → q_in N (f k)) → (∀ j k, q_in N j → q_in N k → f j = f k → j = k) → ∀ p, q_in N p → ∃ k, q_in N k ∧ f k = p := by
  intro N
  induction N with
  | zero => exact fun f _ _ p hp => absurd hp.2 (by have := hp.1; omega)
  | succ N ih =>
    intro f hf hi p hp
    have hN : q_in (N + 1 : Nat) (N : Int) := ⟨by omega, by omega⟩
    have up : ∀ {k : Int}, q_in N k → q_in (N + 1 : Nat) k := fun hk => ⟨hk.1, by have := hk.2; omega⟩
    by_cases w : p = f N
    · exact ⟨N, hN, w.symm⟩
    have g1 : ∀ k, q_in N k → q_in N (if f k = N then f N else f k) := fun k hk => by
      have a := hf k (up hk)
      have b := hf N hN
      have c : f k ≠ f N := fun e => by
        have := hi k N (up hk) hN e
        have := hk.2
        omega
      have a1 := a.1
      have a2 := a.2
      have b1 := b.1
      have b2 := b.2
      split
      · exact ⟨b1, by omega⟩
      · exact ⟨a1, by omega⟩
    have g2 : ∀ j k, q_in N j → q_in N k → (if f j = N then f N else f j) = (if f k = N then f N else f k) → j = k := fun j k hj hk e => by
      have nj : f j ≠ f N := fun e => by
        have := hi j N (up hj) hN e
        have := hj.2
        omega
      have nk : f k ≠ f N := fun e => by
        have := hi k N (up hk) hN e
        have := hk.2
        omega
      refine hi j k (up hj) (up hk) ?_
      split at e <;> split at e <;> omega
    have hfN := hf N hN
    by_cases w2 : p = N
    · obtain ⟨k, hk, e⟩ := ih _ g1 g2 (f N) ⟨hfN.1, by have := hfN.2; omega⟩
      refine ⟨k, up hk, ?_⟩
      have c : f k ≠ f N := fun e => by
        have := hi k N (up hk) hN e
        have := hk.2
        omega
      split at e
      · omega
      · exact absurd e c
    · obtain ⟨k, hk, e⟩ := ih _ g1 g2 p ⟨hp.1, by have := hp.2; omega⟩
      refine ⟨k, up hk, ?_⟩
      split at e
      · omega
      · exact e
theorem L_placeInRow {σ τ : Mem} (h : RelJ σ τ) {p j : Int} (hp : q_in (σ 1 0) p) (hj : q_in (σ 1 0) j) (e : σ 6 j = p) (hi : ∀ i, q_in (σ 1 0) i → i ≠ j → σ 6 i ≠ p ∧ τ 6 i ≠ p) {Q : Int → Mem → Prop} (hQ : Q j σ) : x2_placeInRow p σ Q := by
  apply x2_placeInRow_i
  have hn := h.2.2.2.1.n
  have hp1 := hp.1
  have hp2 := hp.2
  have hj1 := hj.1
  have hj2 := hj.2
  have key : ∀ (m : Nat) (k : Int), 0 ≤ k → k ≤ j → (j - k).toNat = m → x2_placeInRow_L2 Q p k σ := by
    intro m
    induction m with
    | zero =>
      intro k h0 h1 hm
      apply x2_placeInRow_s2
      obtain rfl : k = j := by omega
      refine ⟨by omega, fun _ => hQ, fun c => ⟨by omega, ⟨by rw [e]; omega, by omega⟩, fun _ => hQ, fun c2 => absurd e c2⟩⟩
    | succ m ih =>
      intro k h0 h1 hm
      apply x2_placeInRow_s2
      have hk : q_in (σ 1 0) k := ⟨h0, by omega⟩
      have hr := (h.2.2.2.2.2.1 k hk).2
      have hr1 := hr.1
      have hr2 := hr.2
      exact ⟨by omega, fun c => absurd c (by omega), fun c => ⟨by omega, by omega, fun c2 => absurd c2 (hi k hk (by omega)).1, fun _ => ih (k + 1) (by omega) (by omega) (by omega)⟩⟩
  exact key _ 0 (by omega) (by omega) rfl
