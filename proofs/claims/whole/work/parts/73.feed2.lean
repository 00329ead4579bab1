theorem L_append {σ : Mem} {p1 p2 : Int} (h1 : 1 ≤ p1 ∧ p1 ≤ 8) (h0 : 0 ≤ σ 37 0 ∧ σ 37 0 + p1 ≤ 160) {Q : Int → Mem → Prop} (hQ : ∀ s : Mem, (∀ c : Nat, c ≠ 37 → c ≠ 41 → s c = σ c) → (∀ j : Int, j ≠ 0 → s 37 j = σ 37 j) → s 37 0 = σ 37 0 + p1 → (∀ j, s 41 j = if σ 37 0 ≤ j ∧ j < σ 37 0 + p1 then q_byte p2 (σ 37 0 + p1 - 1 - j) else σ 41 j) → Q 0 s) : x5_append p1 p2 σ Q := by
  apply x5_append_i
  intro v1 e1
  have key : ∀ (m : Nat) (k : Int) (s : Mem), -1 ≤ k → k < p1 → (k + 1).toNat = m → (∀ c : Nat, c ≠ 37 → c ≠ 41 → s c = σ c) → (∀ j : Int, j ≠ 0 → s 37 j = σ 37 j) → s 37 0 = σ 37 0 + (p1 - 1 - k) → (∀ j, s 41 j = if σ 37 0 ≤ j ∧ j < σ 37 0 + (p1 - 1 - k) then q_byte p2 (σ 37 0 + p1 - 1 - j) else σ 41 j) → x5_append_L8 Q p2 (8 * k) s := by
    intro m
    induction m with
    | zero =>
      intro k s k0 k1 hm f g e h
      apply x5_append_s8
      obtain rfl : k = -1 := by omega
      refine ⟨by omega, fun _ => hQ s f g (by omega) (fun j => ?_), fun c => absurd c (by omega)⟩
      rw [h j, show p1 - 1 - -1 = p1 by omega]
    | succ m ih =>
      intro k s k0 k1 hm f g e h
      apply x5_append_s8
      refine ⟨by omega, fun c => absurd c (by omega), fun _ => ⟨by omega, fun c => absurd c (by omega), fun _ => ⟨by omega, fun s2 e2 s3 e3 => ?_⟩⟩⟩
      rw [show 8 * k + -8 = 8 * (k - 1) by omega]
      have s20 : s2 37 0 = s 37 0 := by rw [e2, m_upd_ne _ _ _ _ _ (by omega)]
      refine ih (k - 1) s3 (by omega) (by omega) (by omega) (fun c c1 c2 => by rw [e3, m_upd_ne _ _ _ _ _ c1, e2, m_upd_ne _ _ _ _ _ c2]; exact f c c1 c2) (fun j hj => by rw [e3, m_upd_at, if_neg (fun q => hj q.2), e2, m_upd_ne _ _ _ _ _ (by omega)]; exact g j hj) (by rw [e3, m_upd_at, if_pos ⟨rfl, rfl⟩, s20]; omega) (fun j => ?_)
      rw [e3, m_upd_ne _ _ _ _ _ (by omega), e2, m_upd_at]
      by_cases w : j = s 37 0
      · rw [if_pos ⟨rfl, w⟩, if_pos (by omega)]
        unfold q_byte
        rw [show σ 37 0 + p1 - 1 - j = k by omega]
      · rw [if_neg (fun q => w q.2), h j]
        by_cases w2 : σ 37 0 ≤ j ∧ j < σ 37 0 + (p1 - 1 - k)
        · rw [if_pos w2, if_pos (by omega)]
        · rw [if_neg w2, if_neg (by omega)]
  rw [e1]
  exact key _ (p1 - 1) σ (by omega) (by omega) rfl (fun _ _ _ => rfl) (fun _ _ => rfl) (by omega) (fun j => by rw [if_neg (by omega)])
theorem B_feed {τ : Mem} (h0 : 0 ≤ τ 0 30 ∧ τ 0 30 ≤ 160) {p1 p2 : Int} (i1 : InI p1) {Q : Int → Mem → Prop} (k2 : ¬ (1 ≤ p1 ∧ p1 ≤ 8) → Q (-100002) τ) (k4 : (1 ≤ p1 ∧ p1 ≤ 8) → 160 < τ 0 30 + p1 → Q (-100004) τ) (hQ : (1 ≤ p1 ∧ p1 ≤ 8) → τ 0 30 + p1 ≤ 160 → ∀ s : Mem, (∀ c : Nat, c ≠ 0 → c ≠ 19 → s c = τ c) → (∀ j : Int, j ≠ 30 → s 0 j = τ 0 j) → s 0 30 = τ 0 30 + p1 → (∀ j, s 19 j = if τ 0 30 ≤ j ∧ j < τ 0 30 + p1 then q_byte p2 (τ 0 30 + p1 - 1 - j) else τ 19 j) → Q (τ 0 30 + p1) s) : x8_feed p1 p2 τ Q := by
  apply x8_feed_i
  refine ⟨i1, B_in0 i1 (by omega) (by omega) (fun h1 => ⟨by omega, fun _ => ⟨by omega, fun q => ?_, fun q => k4 h1 q⟩, fun c => absurd c (by omega)⟩) (fun h1 => ⟨by omega, fun c => absurd rfl c, fun _ => k2 h1⟩)⟩
  have hQ := hQ h1 q
  have key : ∀ (m : Nat) (k : Int) (s : Mem), -1 ≤ k → k < p1 → (k + 1).toNat = m → (∀ c : Nat, c ≠ 0 → c ≠ 19 → s c = τ c) → (∀ j : Int, j ≠ 30 → s 0 j = τ 0 j) → s 0 30 = τ 0 30 + (p1 - 1 - k) → (∀ j, s 19 j = if τ 0 30 ≤ j ∧ j < τ 0 30 + (p1 - 1 - k) then q_byte p2 (τ 0 30 + p1 - 1 - j) else τ 19 j) → x8_feed_L35 Q p2 k s := by
    intro m
    induction m with
    | zero =>
      intro k s k0 k1 hm f g e h
      apply x8_feed_s35
      obtain rfl : k = -1 := by omega
      refine ⟨by omega, fun _ => ?_, fun c => absurd c (by omega)⟩
      rw [e, show p1 - 1 - -1 = p1 by omega]
      refine hQ s f g (by omega) (fun j => ?_)
      rw [h j, show p1 - 1 - -1 = p1 by omega]
    | succ m ih =>
      intro k s k0 k1 hm f g e h
      apply x8_feed_s35
      refine ⟨by omega, fun c => absurd c (by omega), fun _ => ⟨by omega, fun s2 e2 s3 e3 => ?_⟩⟩
      rw [show k + -1 = k - 1 by omega]
      have s20 : s2 0 30 = s 0 30 := by rw [e2, m_upd_ne _ _ _ _ _ (by omega)]
      refine ih (k - 1) s3 (by omega) (by omega) (by omega) (fun c c1 c2 => by rw [e3, m_upd_ne _ _ _ _ _ c1, e2, m_upd_ne _ _ _ _ _ c2]; exact f c c1 c2) (fun j hj => by rw [e3, m_upd_at, if_neg (fun q => hj q.2), e2, m_upd_ne _ _ _ _ _ (by omega)]; exact g j hj) (by rw [e3, m_upd_at, if_pos ⟨rfl, rfl⟩, s20]; omega) (fun j => ?_)
      rw [e3, m_upd_ne _ _ _ _ _ (by omega), e2, m_upd_at]
      by_cases w : j = s 0 30
      · rw [if_pos ⟨rfl, w⟩, if_pos (by omega)]
        unfold q_byte
        rw [show τ 0 30 + p1 - 1 - j = k by omega]
      · rw [if_neg (fun q => w q.2), h j]
        by_cases w2 : τ 0 30 ≤ j ∧ j < τ 0 30 + (p1 - 1 - k)
        · rw [if_pos w2, if_pos (by omega)]
        · rw [if_neg w2, if_neg (by omega)]
  exact key _ (p1 - 1) τ (by omega) (by omega) rfl (fun _ _ _ => rfl) (fun _ _ => rfl) (by omega) (fun j => by rw [if_neg (by omega)])
theorem M_feed {σ τ : Mem} (R : Rel σ τ) {p1 p2 : Int} (i1 : InI p1) : Ans (x7_feed p1 p2 σ) (x8_feed p1 p2 τ) := by
  unfold Ans x7_feed
  obtain ⟨t0, t1, t2, t3, t4⟩ := R.2.2.2.2.1
  refine L_within i1 (by omega) (by omega) (fun a => ⟨by omega, fun _ => ⟨by omega, fun q => L_append a ⟨t1.1, q⟩ (fun s f g e h => B_feed (by omega) i1 (fun c => absurd a c) (fun _ c => absurd c (by omega)) (fun _ _ t f' g' e' h' => ⟨by rw [e, t0], ?_⟩)), fun q => B_feed (by omega) i1 (fun c => absurd a c) (fun _ _ => ⟨rfl, R⟩) (fun _ c => absurd c (by omega))⟩, fun c => absurd c (by omega)⟩) (fun a => ⟨by omega, fun c => absurd rfl c, fun _ => B_feed (by omega) i1 (fun _ => ⟨rfl, R⟩) (fun c => absurd c a) (fun c => absurd c a)⟩)
  refine ⟨R.1.cong (fun c h1 h2 => f c (by omega) (by omega)) (fun c h1 h2 => f' c (by omega) (by omega)) (g' 0 (by omega)) (g' 1 (by omega)), R.2.1.cong (by rw [f 23 (by omega) (by omega)]) (fun d d1 d2 => f d (by omega) (by omega)) (g' 8 (by omega)) (f' 7 (by omega) (by omega)), R.2.2.1.cong (f 32 (by omega) (by omega)) (f' 8 (by omega) (by omega)), R.2.2.2.1.cong (by rw [f 1 (by omega) (by omega)]) (f 34 (by omega) (by omega)) (f 35 (by omega) (by omega)) (f 36 (by omega) (by omega)) (f' 9 (by omega) (by omega)) (f' 10 (by omega) (by omega)) (f' 11 (by omega) (by omega)), ?_, R.2.2.2.2.2.cong (f 22 (by omega) (by omega))⟩
  unfold RelT
  rw [e, e', g' 33 (by omega), g' 36 (by omega), f 0 (by omega) (by omega), g 2 (by omega)]
  refine ⟨by omega, by omega, fun j j0 j1 => ?_, t3, t4⟩
  rw [h j, h' j, ← t0]
  by_cases w : σ 37 0 ≤ j ∧ j < σ 37 0 + p1
  · rw [if_pos w, if_pos w]
    exact ⟨rfl, s_and255 _⟩
  · rw [if_neg w, if_neg w]
    exact t2 j j0 (by omega)
