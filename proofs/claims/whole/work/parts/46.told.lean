/-! ===== told, force, reading, forget ===== -/
theorem q_onto : ∀ (N : Nat) (f : Int → Int), (∀ k, q_in N k → q_in N (f k)) → (∀ j k, q_in N j → q_in N k → f j = f k → j = k) → ∀ p, q_in N p → ∃ k, q_in N k ∧ f k = p := by
  intro N
  induction N with
  | zero => exact fun f _ _ p hp => absurd hp.2 (by have := hp.1; omega)
  | succ N ih =>
    intro f hf hi p hp
    have hN : q_in (N + 1 : Nat) (N : Int) := ⟨by omega, by omega⟩
    have up : ∀ {k : Int}, q_in N k → q_in (N + 1 : Nat) k := fun hk => ⟨hk.1, by have := hk.2; omega⟩
    by_cases w : p = f N
    · exact ⟨N, hN, w.symm⟩
    have g1 : ∀ k, q_in N k → q_in N (if f k = N then f N else f k) := fun k hk => by
      have a := hf k (up hk)
      have b := hf N hN
      have c : f k ≠ f N := fun e => by
        have := hi k N (up hk) hN e
        have := hk.2
        omega
      have a1 := a.1
      have a2 := a.2
      have b1 := b.1
      have b2 := b.2
      split
      · exact ⟨b1, by omega⟩
      · exact ⟨a1, by omega⟩
    have g2 : ∀ j k, q_in N j → q_in N k → (if f j = N then f N else f j) = (if f k = N then f N else f k) → j = k := fun j k hj hk e => by
      have nj : f j ≠ f N := fun e => by
        have := hi j N (up hj) hN e
        have := hj.2
        omega
      have nk : f k ≠ f N := fun e => by
        have := hi k N (up hk) hN e
        have := hk.2
        omega
      refine hi j k (up hj) (up hk) ?_
      split at e <;> split at e <;> omega
    have hfN := hf N hN
    by_cases w2 : p = N
    · obtain ⟨k, hk, e⟩ := ih _ g1 g2 (f N) ⟨hfN.1, by have := hfN.2; omega⟩
      refine ⟨k, up hk, ?_⟩
      have c : f k ≠ f N := fun e => by
        have := hi k N (up hk) hN e
        have := hk.2
        omega
      split at e
      · omega
      · exact absurd e c
    · obtain ⟨k, hk, e⟩ := ih _ g1 g2 p ⟨hp.1, by have := hp.2; omega⟩
      refine ⟨k, up hk, ?_⟩
      split at e
      · omega
      · exact e
theorem RelJ.place {σ τ : Mem} (h : RelJ σ τ) {p : Int} (hp : q_in (σ 1 0) p) : ∃ j, q_in (σ 1 0) j ∧ σ 6 j = p ∧ τ 6 j = p ∧ ∀ i, q_in (σ 1 0) i → i ≠ j → σ 6 i ≠ p ∧ τ 6 i ≠ p := by
  obtain ⟨-, -, -, hJ, -, hr, hi⟩ := h
  have hn := hJ.n
  have ez : ((σ 1 0).toNat : Int) = σ 1 0 := by omega
  obtain ⟨j, hj, e⟩ := q_onto (σ 1 0).toNat (σ 6) (by rw [ez]; exact fun k hk => (hr k hk).2) (by rw [ez]; exact hi) p (by rw [ez]; exact hp)
  rw [ez] at hj
  refine ⟨j, hj, e, by rw [← (hr j hj).1]; exact e, fun i hii hne => ?_⟩
  have a : σ 6 i ≠ p := fun q => hne (hi i j hii hj (q.trans e.symm))
  exact ⟨a, by rw [← (hr i hii).1]; exact a⟩
theorem L_placeInRow {σ τ : Mem} (h : RelJ σ τ) {p j : Int} (hp : q_in (σ 1 0) p) (hj : q_in (σ 1 0) j) (e : σ 6 j = p) (hi : ∀ i, q_in (σ 1 0) i → i ≠ j → σ 6 i ≠ p ∧ τ 6 i ≠ p) {Q : Int → Mem → Prop} (hQ : Q j σ) : x2_placeInRow p σ Q := by
  apply x2_placeInRow_i
  have hn := h.2.2.2.1.n
  have hp1 := hp.1
  have hp2 := hp.2
  have hj1 := hj.1
  have hj2 := hj.2
  have key : ∀ (m : Nat) (k : Int), 0 ≤ k → k ≤ j → (j - k).toNat = m → x2_placeInRow_L2 Q p k σ := by
    intro m
    induction m with
    | zero =>
      intro k h0 h1 hm
      apply x2_placeInRow_s2
      obtain rfl : k = j := by omega
      refine ⟨by omega, fun _ => hQ, fun c => ⟨by omega, ⟨by rw [e]; omega, by omega⟩, fun _ => hQ, fun c2 => absurd e c2⟩⟩
    | succ m ih =>
      intro k h0 h1 hm
      apply x2_placeInRow_s2
      have hk : q_in (σ 1 0) k := ⟨h0, by omega⟩
      have hr := (h.2.2.2.2.2.1 k hk).2
      have hr1 := hr.1
      have hr2 := hr.2
      exact ⟨by omega, fun c => absurd c (by omega), fun c => ⟨by omega, by omega, fun c2 => absurd c2 (hi k hk (by omega)).1, fun _ => ih (k + 1) (by omega) (by omega) (by omega)⟩⟩
  exact key _ 0 (by omega) (by omega) rfl
theorem M_told {σ τ : Mem} (R : Rel σ τ) {p1 p2 : Int} (i1 : InI p1) (i2 : InI p2) : Ans (x7_told p1 p2 σ) (x8_told p1 p2 τ) := by
  unfold Ans x7_told
  have hn := R.n
  have e0 : σ 1 0 = τ 0 0 := R.1.1
  refine L_has i1 hn (fun a => ⟨by omega, fun _ => ?_, fun c => absurd c (by omega)⟩) (fun a => ⟨by omega, fun c => absurd rfl c, fun _ => ?_⟩)
  rotate_left
  · apply x8_told_i
    exact B_noBolt i1 (by omega) (fun q => absurd q (by rw [← e0]; exact a)) (fun _ => ⟨by omega, fun c => absurd c (by omega), fun _ => ⟨rfl, R⟩⟩)
  have a' : q_in (τ 0 0) p1 := by rw [← e0]; exact a
  have a1 := a.1
  have a2 := a.2
  obtain ⟨j, hj, je, je2, jo⟩ := R.1.place a
  have hj1 := hj.1
  have hj2 := hj.2
  have ref : ∀ {P : Int → Mem → Prop}, (∀ t : Mem, LiftsB τ t → x8_told_b17 (x8_told_L17 P) P p1 p2 j t) → x8_told p1 p2 τ P := fun {P} hk => by
    apply x8_told_i
    refine B_noBolt i1 (by omega) (fun _ => ⟨by omega, fun _ => B_findLifts R.JB (fun t ht => ?_), fun c => absurd rfl c⟩) (fun q => absurd a' q)
    have e6 : t 6 = τ 6 := ht.1.1 6 (by omega) (by omega) (by omega) (by omega)
    have key : ∀ (m : Nat) (k : Int), 0 ≤ k → k ≤ j → (j - k).toNat = m → x8_told_L17 P p1 p2 k t := by
      intro m
      induction m with
      | zero =>
        intro k h0 h1 hm
        obtain rfl : k = j := by omega
        exact x8_told_s17 (hk t ht)
      | succ m ih =>
        intro k h0 h1 hm
        apply x8_told_s17
        have hkk : q_in (σ 1 0) k := ⟨h0, by omega⟩
        have hr := R.1.2.2.2.2.2.1 k hkk
        have hr1 := hr.2.1
        have hr2 := hr.2.2
        rw [hr.1] at hr1 hr2
        rw [← e6] at hr1 hr2
        refine ⟨by omega, by omega, fun c => absurd c (by rw [e6]; exact (jo k hkk (by omega)).2), fun _ => ih (k + 1) (by omega) (by omega) (by omega)⟩
    exact key _ 0 (by omega) (by omega) rfl
  have e6 : ∀ {t : Mem}, LiftsB τ t → t 6 = τ 6 := fun ht => ht.1.1 6 (by omega) (by omega) (by omega) (by omega)
  have hs := R.1.2.2.1 p1 a
  have hb : c_br σ p1 = 0 ∨ c_br σ p1 = 1 := by
    unfold c_br
    split <;> omega
  -- the reference's row, told by the number asked for
  have ref2 : ∀ {P : Int → Mem → Prop}, (∀ t : Mem, LiftsB τ t → (p2 = 0 → P (τ 1 p1) t) ∧ (p2 = 1 → P (τ 2 p1) t) ∧ (p2 = 2 → P (τ 3 p1) t) ∧ (p2 = 3 → P (τ 4 p1) t) ∧ (p2 = 4 → P (τ 5 p1) t) ∧ (p2 = 5 → P (q_nul (pB t) p1) t) ∧ (p2 = 6 → P (q_nul (rB t) p1) t) ∧ (p2 = 7 → P j t) ∧ (p2 < 0 ∨ 7 < p2 → P (-100002) t)) → x8_told p1 p2 τ P := fun {P} hk => ref (fun t ht => by
    obtain ⟨g0, g1, g2, g3, g4, g5, g6, g7, g8⟩ := hk t ht
    have hrd := ht.rdy R.JB
    have e00 : t 0 0 = τ 0 0 := ht.1.2 0 (by omega)
    have hk2 : q_in (t 0 0) p1 := by rw [e00]; exact a'
    have bp := hrd.p hk2
    have br := hrd.r hk2
    have t1 : t 1 = τ 1 := ht.1.1 1 (by omega) (by omega) (by omega) (by omega)
    have t2 : t 2 = τ 2 := ht.1.1 2 (by omega) (by omega) (by omega) (by omega)
    have t3 : t 3 = τ 3 := ht.1.1 3 (by omega) (by omega) (by omega) (by omega)
    have t4 : t 4 = τ 4 := ht.1.1 4 (by omega) (by omega) (by omega) (by omega)
    have t5 : t 5 = τ 5 := ht.1.1 5 (by omega) (by omega) (by omega) (by omega)
    refine ⟨by omega, by rw [e6 ht, je2]; omega, fun _ => ⟨i2, fun q => ⟨by omega, ?_⟩, fun q => ⟨by omega, ?_⟩, fun q => ⟨by omega, ?_⟩, fun q => ⟨by omega, ?_⟩, fun q => ⟨by omega, B_bit ?_ ?_⟩, fun q => B_pull hrd hk2 ⟨⟨by constructor <;> omega, by omega⟩, fun w => B_bit (by omega) ?_, fun w => B_bit (by omega) ?_⟩, fun q => B_press hrd hk2 ⟨⟨by constructor <;> omega, by omega⟩, fun w => B_bit (by omega) ?_, fun w => B_bit (by omega) ?_⟩, g7, g8⟩, fun c => absurd (by rw [e6 ht]; exact je2) c⟩
    · rw [t1]
      exact g0 q
    · rw [t2]
      exact g1 q
    · rw [t3]
      exact g2 q
    · rw [t4]
      exact g3 q
    · rw [t5, ← hs.2.2.2.2]
      rcases hb with w | w <;> rw [w] <;> omega
    · rw [t5]
      have := g4 q
      rw [← hs.2.2.2.2] at this ⊢
      rcases hb with w | w
      · rw [w] at this ⊢
        exact this
      · rw [w] at this ⊢
        exact this
    · have := g5 q
      unfold q_nul at this
      rw [if_neg w] at this
      exact this
    · have := g5 q
      unfold q_nul at this
      rw [if_pos w] at this
      exact this
    · have := g6 q
      unfold q_nul at this
      rw [if_neg w] at this
      exact this
    · have := g6 q
      unfold q_nul at this
      rw [if_pos w] at this
      exact this)
  have ref3 : ∀ {r : Int}, (p2 = 0 → r = τ 1 p1) → (p2 = 1 → r = τ 2 p1) → (p2 = 2 → r = τ 3 p1) → (p2 = 3 → r = τ 4 p1) → (p2 = 4 → r = τ 5 p1) → ¬ (p2 = 5 ∨ p2 = 6) → (p2 = 7 → r = j) → (p2 < 0 ∨ 7 < p2 → r = -100002) → x8_told p1 p2 τ (fun r' τ' => r = r' ∧ Rel σ τ') := fun k0 k1 k2 k3 k4 k5 k7 k8 => ref2 (fun t ht => by
    have Rt := R.lookB ht
    exact ⟨fun q => ⟨k0 q, Rt⟩, fun q => ⟨k1 q, Rt⟩, fun q => ⟨k2 q, Rt⟩, fun q => ⟨k3 q, Rt⟩, fun q => ⟨k4 q, Rt⟩, fun q => absurd (Or.inl q) k5, fun q => absurd (Or.inr q) k5, fun q => ⟨k7 q, Rt⟩, fun q => ⟨k8 q, Rt⟩⟩)
  refine ⟨i2, fun q => ?_, fun q => L_isBroken R.bd.1 (by omega) (L_asNumber (by rcases hb with w | w <;> rw [w] <;> omega) ?_), fun q => ?_, fun q => ?_, fun q => L_placeInRow R.1 a hj je jo ?_, fun q => ?_⟩
  · rcases q with q | q | q | q <;> subst q
    · exact ⟨by omega, fun _ => ⟨rfl, by omega, ref3 (fun _ => hs.1) (fun _ => by omega) (fun _ => by omega) (fun _ => by omega) (fun _ => by omega) (by omega) (fun _ => by omega) (fun _ => by omega)⟩, fun c => absurd c (by omega), fun c => absurd c (by omega), fun c => absurd c (by omega)⟩
    · exact ⟨by omega, fun c => absurd c (by omega), fun _ => ⟨rfl, by omega, ref3 (fun _ => by omega) (fun _ => hs.2.1) (fun _ => by omega) (fun _ => by omega) (fun _ => by omega) (by omega) (fun _ => by omega) (fun _ => by omega)⟩, fun c => absurd c (by omega), fun c => absurd c (by omega)⟩
    · exact ⟨by omega, fun c => absurd c (by omega), fun c => absurd c (by omega), fun _ => ⟨rfl, by omega, ref3 (fun _ => by omega) (fun _ => by omega) (fun _ => hs.2.2.1) (fun _ => by omega) (fun _ => by omega) (by omega) (fun _ => by omega) (fun _ => by omega)⟩, fun c => absurd c (by omega)⟩
    · exact ⟨by omega, fun c => absurd c (by omega), fun c => absurd c (by omega), fun c => absurd c (by omega), fun _ => ⟨rfl, by omega, ref3 (fun _ => by omega) (fun _ => by omega) (fun _ => by omega) (fun _ => hs.2.2.2.1) (fun _ => by omega) (by omega) (fun _ => by omega) (fun _ => by omega)⟩⟩
  · refine ref3 (fun _ => by omega) (fun _ => by omega) (fun _ => by omega) (fun _ => by omega) (fun _ => ?_) (by omega) (fun _ => by omega) (fun _ => by omega)
    rw [← hs.2.2.2.2]
    rcases hb with w | w <;> rw [w] <;> rfl
  · refine L_settle7 R (fun s hA => ?_)
    have f := hA.1
    have s10 : s 1 0 = σ 1 0 := by rw [f 1 (by omega)]
    have ka : q_in (s 1 0) p1 := by rw [s10]; exact a
    have hrd := hA.rdy (Or.inl rfl) R.1.2.2.2.1
    have bp := hrd.p ka
    have go : ∀ r : Int, r = q_nul (pA 7 s) p1 → x8_told p1 p2 τ (fun r' τ' => r = r' ∧ Rel s τ') := fun r hr => ref2 (fun t ht => by
      have T := R.tie hA ht
      have z := q_like0 T.2.2.1.2.2.2.1.1 T.2.2.2.1.2.2.1.1 (T.p ka)
      refine ⟨fun _ => by omega, fun _ => by omega, fun _ => by omega, fun _ => by omega, fun _ => by omega, fun _ => ⟨?_, R.looked hA ht⟩, fun _ => by omega, fun _ => by omega, fun _ => by omega⟩
      rw [hr]
      unfold q_nul
      by_cases w : pA 7 s p1 = 0
      · rw [if_pos w, if_pos (z.mp w)]
      · rw [if_neg w, if_neg (fun y => w (z.mpr y))])
    exact L_pullUpper hrd ka ⟨⟨by constructor <;> omega, by omega⟩, fun w => L_asNumber (by omega) (go _ (by unfold q_nul; rw [if_neg w]; rfl)), fun w => L_asNumber (by omega) (go _ (by unfold q_nul; rw [if_pos w]; rfl))⟩
  · refine L_settle7 R (fun s hA => ?_)
    have f := hA.1
    have s10 : s 1 0 = σ 1 0 := by rw [f 1 (by omega)]
    have ka : q_in (s 1 0) p1 := by rw [s10]; exact a
    have hrd := hA.rdy (Or.inl rfl) R.1.2.2.2.1
    have bp := hrd.r ka
    have go : ∀ r : Int, r = q_nul (rA 7 s) p1 → x8_told p1 p2 τ (fun r' τ' => r = r' ∧ Rel s τ') := fun r hr => ref2 (fun t ht => by
      have T := R.tie hA ht
      have z := q_like0 T.2.2.1.2.2.2.1.1 T.2.2.2.1.2.2.1.1 (T.r ka)
      refine ⟨fun _ => by omega, fun _ => by omega, fun _ => by omega, fun _ => by omega, fun _ => by omega, fun _ => by omega, fun _ => ⟨?_, R.looked hA ht⟩, fun _ => by omega, fun _ => by omega⟩
      rw [hr]
      unfold q_nul
      by_cases w : rA 7 s p1 = 0
      · rw [if_pos w, if_pos (z.mp w)]
      · rw [if_neg w, if_neg (fun y => w (z.mpr y))])
    exact L_pressUpper hrd ka ⟨⟨by constructor <;> omega, by omega⟩, fun w => L_asNumber (by omega) (go _ (by unfold q_nul; rw [if_neg w]; rfl)), fun w => L_asNumber (by omega) (go _ (by unfold q_nul; rw [if_pos w]; rfl))⟩
  · exact ref3 (fun _ => by omega) (fun _ => by omega) (fun _ => by omega) (fun _ => by omega) (fun _ => by omega) (by omega) (fun _ => rfl) (fun _ => by omega)
  · exact ref3 (fun _ => by omega) (fun _ => by omega) (fun _ => by omega) (fun _ => by omega) (fun _ => by omega) (by omega) (fun _ => by omega) (fun _ => rfl)
