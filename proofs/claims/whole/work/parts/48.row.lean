/-! ===== rows ===== -/
def q_quo (p : Int) : Nat → Int
  | 0 => p
  | k + 1 => q_quo p k / 10
def q_dg (p : Int) (k : Nat) : Int := q_quo p k % 10
def q_msk (p : Int) : Nat → Int
  | 0 => 0
  | k + 1 => orI (q_msk p k) (shlI 1 (q_dg p k))
theorem q_quo_nn {p : Int} (h : 0 ≤ p) : ∀ k : Nat, 0 ≤ q_quo p k ∧ q_quo p k ≤ p
  | 0 => ⟨h, Int.le_refl _⟩
  | k + 1 => by
    have := q_quo_nn h k
    show 0 ≤ q_quo p k / 10 ∧ q_quo p k / 10 ≤ p
    omega
theorem q_dg_bd (p : Int) (k : Nat) : 0 ≤ q_dg p k ∧ q_dg p k < 10 := by
  unfold q_dg
  omega
theorem q_msk_bd (p : Int) : ∀ k : Nat, (0 ≤ q_msk p k ∧ q_msk p k < 1024) ∧ ∀ j, 0 ≤ j → (q_bit (q_msk p k) j = true ↔ ∃ i : Nat, i < k ∧ q_dg p i = j)
  | 0 => ⟨⟨Int.le_refl 0, by show (0 : Int) < 1024; omega⟩, fun j _ => by
    show q_bit 0 j = true ↔ _
    rw [s_zero]
    exact ⟨fun c => absurd c (by decide), fun ⟨i, h, _⟩ => absurd h (by omega)⟩⟩
  | k + 1 => by
    obtain ⟨a, b⟩ := q_msk_bd p k
    have d := q_dg_bd p k
    have ho := s_orI a d
    refine ⟨⟨ho.1.1, ho.1.2.1⟩, fun j hj => ?_⟩
    show q_bit (orI (q_msk p k) (shlI 1 (q_dg p k))) j = true ↔ _
    rw [ho.2 j hj]
    constructor
    · intro h
      rcases (Bool.or_eq_true _ _).mp h with h | h
      · obtain ⟨i, hi, e⟩ := (b j hj).mp h
        exact ⟨i, by omega, e⟩
      · exact ⟨k, by omega, (of_decide_eq_true h).symm⟩
    · intro ⟨i, hi, e⟩
      by_cases w : i = k
      · rw [← e, w]
        simp
      · rw [(b j hj).mpr ⟨i, by omega, e⟩]
        rfl
def q_isRow (n p : Int) : Prop := 0 ≤ p ∧ q_quo p n.toNat = 0 ∧ q_msk p n.toNat = shlI 1 n - 1
theorem q_isRow_dg {n p : Int} (hn : 3 ≤ n ∧ n ≤ 6) (h : q_isRow n p) : (∀ i : Nat, (i : Int) < n → q_dg p i < n) ∧ ∀ j, q_in n j → ∃ i : Nat, (i : Int) < n ∧ q_dg p i = j := by
  obtain ⟨-, -, hm⟩ := h
  have hb := (q_msk_bd p n.toNat).2
  rw [hm] at hb
  have ha := (s_all hn).2
  constructor
  · intro i hi
    have d := q_dg_bd p i
    have := (hb _ d.1).mpr ⟨i, by omega, rfl⟩
    rw [ha _ d.1] at this
    exact of_decide_eq_true this
  · intro j hj
    have := (hb j hj.1).mp (by rw [ha j hj.1]; exact decide_eq_true hj.2)
    obtain ⟨i, hi, e⟩ := this
    exact ⟨i, by omega, e⟩
theorem q_into (N : Nat) (f : Int → Int) (h : ∀ k, q_in N k → q_in N (f k)) (ho : ∀ p, q_in N p → ∃ k, q_in N k ∧ f k = p) : ∀ j k, q_in N j → q_in N k → f j = f k → j = k := by
  have hc : ∀ p : Int, ∃ k : Int, q_in N p → q_in N k ∧ f k = p := fun p => by
    by_cases w : q_in N p
    · obtain ⟨k, hk⟩ := ho p w
      exact ⟨k, fun _ => hk⟩
    · exact ⟨0, fun q => absurd q w⟩
  let g : Int → Int := fun p => (hc p).choose
  have hg : ∀ p, q_in N p → q_in N (g p) ∧ f (g p) = p := fun p hp => (hc p).choose_spec hp
  have gi : ∀ j k, q_in N j → q_in N k → g j = g k → j = k := fun j k hj hk e => by
    rw [← (hg j hj).2, ← (hg k hk).2, e]
  have gon := q_onto N g (fun k hk => (hg k hk).1) gi
  intro j k hj hk e
  obtain ⟨a, ha, ea⟩ := gon j hj
  obtain ⟨b, hb, eb⟩ := gon k hk
  have h1 := (hg a ha).2
  have h2 := (hg b hb).2
  rw [ea] at h1
  rw [eb] at h2
  rw [← ea, ← eb, ← h1, ← h2, e]
theorem q_isRow_inj {n p : Int} (hn : 3 ≤ n ∧ n ≤ 6) (h : q_isRow n p) : (∀ k, q_in n k → q_in n (q_dg p (n - 1 - k).toNat)) ∧ ∀ j k, q_in n j → q_in n k → q_dg p (n - 1 - j).toNat = q_dg p (n - 1 - k).toNat → j = k := by
  obtain ⟨h1, h2⟩ := q_isRow_dg hn h
  have e : ((n.toNat : Nat) : Int) = n := by omega
  have a : ∀ k, q_in n k → q_in n (q_dg p (n - 1 - k).toNat) := fun k hk => by
    have k1 := hk.1
    have k2 := hk.2
    exact ⟨(q_dg_bd p _).1, h1 _ (by omega)⟩
  refine ⟨a, ?_⟩
  have := q_into n.toNat (fun k => q_dg p (n - 1 - k).toNat) (by rw [e]; exact a) (by
    rw [e]
    intro j hj
    obtain ⟨i, hi, ei⟩ := h2 j hj
    refine ⟨n - 1 - i, ⟨by omega, by omega⟩, ?_⟩
    show q_dg p (n - 1 - (n - 1 - (i : Int))).toNat = j
    rw [show (n - 1 - (n - 1 - (i : Int))).toNat = i by omega]
    exact ei)
  rw [e] at this
  exact this
theorem q_td {x : Int} (h : 0 ≤ x) : Int.tmod x 10 = x % 10 ∧ Int.tdiv x 10 = x / 10 := ⟨Int.tmod_eq_emod_of_nonneg h, Int.tdiv_eq_ediv_of_nonneg h⟩
theorem L_isRow {p : Int} {s : Mem} (ip : InI p) (hn : 3 ≤ s 1 0 ∧ s 1 0 ≤ 6) {Q : Int → Mem → Prop} (ht : q_isRow (s 1 0) p → Q 1 s) (hf : ¬ q_isRow (s 1 0) p → Q 0 s) : x2_isRow p s Q := by
  apply x2_isRow_i
  refine ⟨ip, fun hp => ?_, fun q => ⟨by omega, hf (fun z => by have := z.1; omega)⟩⟩
  have hall := s_all hn
  have key : ∀ (m : Nat) (k : Int), 0 ≤ k → k ≤ s 1 0 → (s 1 0 - k).toNat = m → x2_isRow_L13 Q (q_msk p k.toNat) (q_quo p k.toNat) k s := by
    intro m
    induction m with
    | zero =>
      intro k h0 h1 hm
      obtain rfl : k = s 1 0 := by omega
      apply x2_isRow_s13
      have b1 := (q_msk_bd p (s 1 0).toNat).1
      have b2 := q_quo_nn hp (s 1 0).toNat
      exact ⟨by omega, fun _ => ⟨by omega, fun q => ⟨by omega, hf (fun z => q z.2.1)⟩, fun q => L_allSet ⟨⟨by omega, by omega⟩, fun q2 => ⟨by omega, hf (fun z => q2 z.2.2)⟩, fun q2 => ⟨by omega, ht ⟨hp, q, q2⟩⟩⟩⟩, fun c => absurd c (by omega)⟩
    | succ m ih =>
      intro k h0 h1 hm
      have nxt := ih (k + 1) (by omega) (by omega) (by omega)
      rw [show (k + 1).toNat = k.toNat + 1 by omega] at nxt
      have b1 := (q_msk_bd p k.toNat).1
      have b2 := q_quo_nn hp k.toNat
      have d := q_dg_bd p k.toNat
      obtain ⟨e1, e2⟩ := q_td b2.1
      apply x2_isRow_s13
      unfold x2_isRow_b13
      rw [e1, e2]
      have ed : q_quo p k.toNat % 10 = q_dg p k.toNat := rfl
      rw [ed]
      refine ⟨by omega, fun c => absurd c (by omega), fun c => ⟨by omega, ⟨by omega, by omega⟩, fun _ v6 e6 => ⟨by omega, ?_⟩, fun q => ⟨by omega, hf (fun z => ?_)⟩⟩⟩
      · rw [e6]
        exact nxt
      · have := (q_isRow_dg hn z).1 k.toNat (by omega)
        omega
  exact key _ 0 (by omega) (by omega) rfl
theorem B_isRow {p : Int} {τ : Mem} (ip : InI p) (hn : 3 ≤ τ 0 0 ∧ τ 0 0 ≤ 6) {Q : Int → Mem → Prop} (ht : q_isRow (τ 0 0) p → ∀ t : Mem, (∀ c : Nat, c ≠ 15 → t c = τ c) → (∀ k, q_in (τ 0 0) k → t 15 k = q_dg p (τ 0 0 - 1 - k).toNat) → Q 1 t) (hf : ¬ q_isRow (τ 0 0) p → ∀ t : Mem, (∀ c : Nat, c ≠ 15 → t c = τ c) → Q 0 t) : x8_isRow p τ Q := by
  apply x8_isRow_i
  have key : ∀ (m : Nat) (k : Int) (x y : Int) (t : Mem), -1 ≤ k → k < τ 0 0 → (k + 1).toNat = m → InI x → InI y → (0 ≤ p → x = q_quo p (τ 0 0 - 1 - k).toNat ∧ y = q_msk p (τ 0 0 - 1 - k).toNat) → (∀ c : Nat, c ≠ 15 → t c = τ c) → (0 ≤ p → ∀ j, k < j → j < τ 0 0 → t 15 j = q_dg p (τ 0 0 - 1 - j).toNat) → x8_isRow_L12 Q p x y k t := by
    intro m
    induction m with
    | zero =>
      intro k x y t h0 h1 hm ix iy hxy hF hd
      obtain rfl : k = -1 := by omega
      rw [show τ 0 0 - 1 - -1 = τ 0 0 by omega] at hxy
      apply x8_isRow_s12
      have e0 : t 0 0 = τ 0 0 := by rw [hF 0 (by omega)]
      unfold x8_isRow_b12
      rw [e0]
      have hall := s_all hn
      refine ⟨by omega, fun _ => ⟨ip, fun q => ⟨by omega, hf (fun z => by have := z.1; omega) t hF⟩, fun q => ⟨ix, fun q2 => ⟨by omega, hf (fun z => q2 ?_) t hF⟩, fun q2 => ⟨⟨iy, by omega⟩, fun q3 => ⟨by omega, hf (fun z => q3 ?_) t hF⟩, fun q3 => ⟨by omega, ht ⟨q, ?_, ?_⟩ t hF (fun j hj => hd q j (by have := hj.1; omega) hj.2)⟩⟩⟩⟩, fun c => absurd c (by omega)⟩
      · rw [(hxy q).1]
        exact z.2.1
      · rw [(hxy q).2]
        exact z.2.2
      · rw [← (hxy q).1]
        exact q2
      · rw [← (hxy q).2]
        exact q3
    | succ m ih =>
      intro k x y t h0 h1 hm ix iy hxy hF hd
      apply x8_isRow_s12
      have it : InI (Int.tdiv x 10) := by
        rcases Int.le_total 0 x with q | q
        · rw [(q_td q).2]
          omega
        · have e : Int.tdiv x 10 = -(Int.tdiv (-x) 10) := by rw [Int.neg_tdiv, Int.neg_neg]
          rw [e, (q_td (show 0 ≤ -x by omega)).2]
          omega
      refine ⟨by omega, fun c => absurd c (by omega), fun c => ⟨⟨ix, by omega⟩, by omega, fun s4 e4 => ⟨⟨ix, by omega⟩, by omega, fun v5 e5 => ?_⟩⟩⟩
      have e15 : s4 15 k = Int.tmod x 10 := by
        rw [e4, m_upd_at, if_pos ⟨rfl, rfl⟩]
      refine ih (k + -1) _ _ s4 (by omega) (by omega) (by omega) it (by rw [e5]; exact s_orIn _ _) (fun q => ?_) (fun c hc => by rw [e4, m_upd_ne _ _ _ _ _ hc]; exact hF c hc) (fun q j j0 j1 => ?_)
      · obtain ⟨x1, x2⟩ := hxy q
        have hx0 : 0 ≤ x := by
          rw [x1]
          exact (q_quo_nn q _).1
        rw [e5, e15, (q_td hx0).1, (q_td hx0).2, show (τ 0 0 - 1 - (k + -1)).toNat = (τ 0 0 - 1 - k).toNat + 1 by omega, x1, x2]
        exact ⟨rfl, rfl⟩
      · by_cases w : j = k
        · obtain ⟨x1, x2⟩ := hxy q
          have hx0 : 0 ≤ x := by
            rw [x1]
            exact (q_quo_nn q _).1
          rw [w, e15, (q_td hx0).1, x1]
          rfl
        · rw [e4, m_upd_at, if_neg (fun z => w z.2)]
          exact hd q j (by omega) j1
  exact key _ (τ 0 0 - 1) p 0 τ (by omega) (by omega) rfl ip (by omega) (fun _ => by rw [show (τ 0 0 - 1 - (τ 0 0 - 1)).toNat = 0 by omega]; exact ⟨rfl, rfl⟩) (fun _ _ => rfl) (fun _ j h0 h1 => absurd h1 (by omega))
theorem L_takeRow {p : Int} {σ : Mem} (ip : InI p) (hn : 3 ≤ σ 1 0 ∧ σ 1 0 ≤ 6) {Q : Int → Mem → Prop} (ht : q_isRow (σ 1 0) p → ∀ s : Mem, (∀ c : Nat, c ≠ 6 → s c = σ c) → (∀ k, q_in (σ 1 0) k → s 6 k = q_dg p (σ 1 0 - 1 - k).toNat) → Q 1 s) (hf : ¬ q_isRow (σ 1 0) p → Q 0 σ) : x2_takeRow p σ Q := by
  apply x2_takeRow_i
  refine L_isRow ip hn (fun hr => ⟨by omega, fun _ => ?_, fun c => absurd c (by omega)⟩) (fun hr => ⟨by omega, fun c => absurd rfl c, fun _ => ⟨by omega, hf hr⟩⟩)
  have hp := hr.1
  have key : ∀ (m : Nat) (k : Int) (t : Mem), -1 ≤ k → k < σ 1 0 → (k + 1).toNat = m → (∀ c : Nat, c ≠ 6 → t c = σ c) → (∀ j, k < j → j < σ 1 0 → t 6 j = q_dg p (σ 1 0 - 1 - j).toNat) → x2_takeRow_L19 Q (q_quo p (σ 1 0 - 1 - k).toNat) k t := by
    intro m
    induction m with
    | zero =>
      intro k t h0 h1 hm hF hd
      apply x2_takeRow_s19
      exact ⟨by omega, fun _ => ⟨by omega, ht hr t hF (fun j hj => hd j (by have := hj.1; omega) hj.2)⟩, fun c => absurd c (by omega)⟩
    | succ m ih =>
      intro k t h0 h1 hm hF hd
      apply x2_takeRow_s19
      have b2 := q_quo_nn hp (σ 1 0 - 1 - k).toNat
      obtain ⟨t1, t2⟩ := q_td b2.1
      unfold x2_takeRow_b19
      rw [t1, t2]
      refine ⟨by omega, fun c => absurd c (by omega), fun c => ⟨by omega, by omega, fun s4 e4 => ⟨by omega, ?_⟩⟩⟩
      have nxt := ih (k + -1) s4 (by omega) (by omega) (by omega) (fun c hc => by rw [e4, m_upd_ne _ _ _ _ _ hc]; exact hF c hc) (fun j j0 j1 => by
        rw [e4, m_upd_at]
        by_cases w : j = k
        · rw [if_pos ⟨rfl, w⟩, w]
          rfl
        · rw [if_neg (fun z => w z.2)]
          exact hd j (by omega) j1)
      rw [show (σ 1 0 - 1 - (k + -1)).toNat = (σ 1 0 - 1 - k).toNat + 1 by omega] at nxt
      exact nxt
  have := key _ (σ 1 0 - 1) σ (by omega) (by omega) rfl (fun _ _ => rfl) (fun j h0 h1 => absurd h1 (by omega))
  rw [show (σ 1 0 - 1 - (σ 1 0 - 1)).toNat = 0 by omega] at this
  exact this
theorem Rel.row {σ τ s t : Mem} (R : Rel σ τ) {p : Int} (hr : q_isRow (σ 1 0) p) (f : ∀ c : Nat, c ≠ 6 → s c = σ c) (e : ∀ k, q_in (σ 1 0) k → s 6 k = q_dg p (σ 1 0 - 1 - k).toNat) (g : ∀ c : Nat, c ≠ 6 → c ≠ 15 → t c = τ c) (e' : ∀ k, q_in (σ 1 0) k → t 6 k = q_dg p (σ 1 0 - 1 - k).toNat) : Rel s t := by
  have g0 := g 0 (by omega) (by omega)
  refine ⟨?_, R.2.1.cong (by rw [f 23 (by omega)]) (fun d d1 d2 => f d (by omega)) (by rw [g0]) (g 7 (by omega) (by omega)), R.2.2.1.cong (f 32 (by omega)) (g 8 (by omega) (by omega)), R.2.2.2.1.cong (by rw [f 1 (by omega)]) (f 34 (by omega)) (f 35 (by omega)) (f 36 (by omega)) (g 9 (by omega) (by omega)) (g 10 (by omega) (by omega)) (g 11 (by omega) (by omega)), R.2.2.2.2.1.cong (f 0 (by omega)) (f 37 (by omega)) (f 41 (by omega)) (g 19 (by omega) (by omega)) (by rw [g0]) (by rw [g0]) (by rw [g0]), R.2.2.2.2.2.cong (f 22 (by omega))⟩
  have f1 := f 1 (by omega)
  obtain ⟨h0, h1, h2, h3, h4, h5, h6⟩ := R.1
  have hn := R.n
  have hi := q_isRow_inj hn hr
  unfold RelJ JA
  rw [c_br_congr f1, f1, f 2 (by omega), f 3 (by omega), f 4 (by omega), f 5 (by omega), g0, g 1 (by omega) (by omega), g 2 (by omega) (by omega), g 3 (by omega) (by omega), g 4 (by omega) (by omega), g 5 (by omega) (by omega)]
  refine ⟨h0, h1, h2, h3, h4, fun k hk => ?_, fun j k hj hk q => ?_⟩
  · rw [e k hk, e' k hk]
    exact ⟨rfl, hi.1 k hk⟩
  · rw [e k hk, e j hj] at q
    exact hi.2 j k hj hk q
theorem M_row {σ τ : Mem} (R : Rel σ τ) {p1 : Int} (i1 : InI p1) : Ans (x7_row p1 σ) (x8_row p1 τ) := by
  unfold Ans x7_row
  have hn := R.n
  have e0 : σ 1 0 = τ 0 0 := R.1.1
  refine L_takeRow i1 hn (fun hr s f e => ⟨by omega, fun c => absurd c (by omega), fun _ => ?_⟩) (fun hr => ⟨by omega, fun _ => ?_, fun c => absurd rfl c⟩)
  · apply x8_row_i
    refine B_isRow i1 (by omega) (fun _ t g e' => ⟨by omega, fun _ => ?_, fun c => absurd c (by omega)⟩) (fun q => absurd hr (by rw [e0]; exact q))
    have key : ∀ (m : Nat) (k : Int) (u : Mem), 0 ≤ k → k ≤ τ 0 0 → (τ 0 0 - k).toNat = m → (∀ c : Nat, c ≠ 6 → u c = t c) → (∀ j, 0 ≤ j → j < k → u 6 j = t 15 j) → x8_row_L13 (fun r' τ' => 1 = r' ∧ Rel s τ') k u := by
      intro m
      induction m with
      | zero =>
        intro k u h0 h1 hm hF hd
        apply x8_row_s13
        have u0 : u 0 0 = τ 0 0 := by rw [hF 0 (by omega), g 0 (by omega)]
        refine ⟨by omega, fun _ => ⟨rfl, R.row hr f e (fun c c6 c15 => by rw [hF c c6, g c c15]) (fun k hk => ?_)⟩, fun c => absurd c (by omega)⟩
        rw [hd k hk.1 (by have := hk.2; omega), e' k (by rw [← e0]; exact hk), e0]
      | succ m ih =>
        intro k u h0 h1 hm hF hd
        apply x8_row_s13
        have u0 : u 0 0 = τ 0 0 := by rw [hF 0 (by omega), g 0 (by omega)]
        refine ⟨by omega, fun c => absurd c (by omega), fun c => ⟨by omega, by omega, fun s4 e4 => ?_⟩⟩
        rw [hF 15 (by omega)] at e4
        refine ih (k + 1) s4 (by omega) (by omega) (by omega) (fun c hc => by rw [e4, m_upd_ne _ _ _ _ _ hc]; exact hF c hc) (fun j j0 j1 => ?_)
        rw [e4, m_upd_at]
        by_cases w : j = k
        · rw [if_pos ⟨rfl, w⟩, w]
        · rw [if_neg (fun z => w z.2)]
          exact hd j j0 (by omega)
    exact key _ 0 t (by omega) (by omega) rfl (fun _ _ => rfl) (fun j h0 h1 => absurd h1 (by omega))
  · apply x8_row_i
    refine B_isRow i1 (by omega) (fun q => absurd (by rw [e0]; exact q) hr) (fun _ t g => ⟨by omega, fun c => absurd rfl c, fun _ => ⟨rfl, ?_⟩⟩)
    refine R.same (SameA.refl σ) ⟨⟨fun c h1 h2 h3 => g c (by omega), ?_⟩, g 3 (by omega)⟩
    rw [g 0 (by omega)]
    exact ⟨rfl, rfl, rfl, rfl, rfl, rfl⟩
