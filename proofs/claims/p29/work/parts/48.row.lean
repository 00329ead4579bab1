def q_quo (p : Int) : Nat → Int
  | 0 => p
  | k + 1 => q_quo p k / 10
def q_dg (p : Int) (k : Nat) : Int := q_quo p k % 10
def q_msk (p : Int) : Nat → Int
  | 0 => 0
  | k + 1 => orI (q_msk p k) (shlI 1 (q_dg p k))
theorem q_quo_nn {p : Int} (h : 0 ≤ p) : ∀ k : Nat, 0 ≤ q_quo p k ∧ q_quo p k ≤ p
  | 0 => ⟨h, Int.le_refl _⟩
  | k + 1 => by
    have := q_quo_nn h k
    show 0 ≤ q_quo p k / 10 ∧ q_quo p k / 10 ≤ p
    omega
theorem q_dg_bd (p : Int) (k : Nat) : 0 ≤ q_dg p k ∧ q_dg p k < 10 := by
  unfold q_dg
  omega
theorem q_msk_bd (p : Int) : ∀ k : Nat, (0 ≤ q_msk p k ∧ q_msk p k < 1024) ∧ ∀ j, 0 ≤ j → (q_bit (q_msk p k) j = true ↔ ∃ i : Nat, i < k ∧ q_dg p i = j)
  | 0 => ⟨⟨Int.le_refl 0, by show (0 : Int) < 1024; omega⟩, fun j _ => by
    show q_bit 0 j = true ↔ _
    rw [s_zero]
    exact ⟨fun c => absurd c (by decide), fun ⟨i, h, _⟩ => absurd h (by omega)⟩⟩
  | k + 1 => by
    obtain ⟨a, b⟩ := q_msk_bd p k
    have d := q_dg_bd p k
    have ho := s_orI a d
    refine ⟨⟨ho.1.1, ho.1.2.1⟩, fun j hj => ?_⟩
    show q_bit (orI (q_msk p k) (shlI 1 (q_dg p k))) j = true ↔ _
    rw [ho.2 j hj]
    constructor
    · intro h
      rcases (Bool.or_eq_true _ _).mp h with h | h
      · obtain ⟨i, hi, e⟩ := (b j hj).mp h
        exact ⟨i, by omega, e⟩
      · exact ⟨k, by omega, (of_decide_eq_true h).symm⟩
    · intro ⟨i, hi, e⟩
      by_cases w : i = k
      · rw [← e, w]
        simp
      · rw [(b j hj).mpr ⟨i, by omega, e⟩]
        rfl
def q_isRow (n p : Int) : Prop := 0 ≤ p ∧ q_quo p n.toNat = 0 ∧ q_msk p n.toNat = shlI 1 n - 1
theorem q_isRow_dg {n p : Int} (hn : 3 ≤ n ∧ n ≤ 6) (h : q_isRow n p) : (∀ i : Nat, (i : Int) < n → q_dg p i < n) ∧ ∀ j, q_in n j → ∃ i : Nat, (i : Int) < n ∧ q_dg p i = j := by
  obtain ⟨-, -, hm⟩ := h
  have hb := (q_msk_bd p n.toNat).2
  rw [hm] at hb
  have ha := (s_all hn).2
  constructor
  · intro i hi
    have d := q_dg_bd p i
    have := (hb _ d.1).mpr ⟨i, by omega, rfl⟩
    rw [ha _ d.1] at this
    exact of_decide_eq_true this
  · intro j hj
    have := (hb j hj.1).mp (by rw [ha j hj.1]; exact decide_eq_true hj.2)
    obtain ⟨i, hi, e⟩ := this
    exact ⟨i, by omega, e⟩
theorem q_into (N : Nat) (f : Int → Int) (h : ∀ k, q_in N k → q_in N (f k)) (ho : ∀ p, q_in N p → ∃ k, q_in N k ∧ f k = p) : ∀ j k, q_in N j → q_in N k → f j = f k → j = k := by
  have hc : ∀ p : Int, ∃ k : Int, q_in N p → q_in N k ∧ f k = p := fun p => by
    by_cases w : q_in N p
    · obtain ⟨k, hk⟩ := ho p w
      exact ⟨k, fun _ => hk⟩
    · exact ⟨0, fun q => absurd q w⟩
  let g : Int → Int := fun p => (hc p).choose
  have hg : ∀ p, q_in N p → q_in N (g p) ∧ f (g p) = p := fun p hp => (hc p).choose_spec hp
  have gi : ∀ j k, q_in N j → q_in N k → g j = g k → j = k := fun j k hj hk e => by
    rw [← (hg j hj).2, ← (hg k hk).2, e]
  have gon := q_onto N g (fun k hk => (hg k hk).1) gi
  intro j k hj hk e
  obtain ⟨a, ha, ea⟩ := gon j hj
  obtain ⟨b, hb, eb⟩ := gon k hk
  have h1 := (hg a ha).2
  have h2 := (hg b hb).2
  rw [ea] at h1
  rw [eb] at h2
  rw [← ea, ← eb, ← h1, ← h2, e]
theorem q_isRow_inj {n p : Int} (hn : 3 ≤ n ∧ n ≤ 6) (h : q_isRow n p) : (∀ k, q_in n k → q_in n (q_dg p (n - 1 - k).toNat)) ∧ ∀ j k, q_in n j → q_in n k → q_dg p (n - 1 - j).toNat = q_dg p (n - 1 - k).toNat → j = k := by
  obtain ⟨h1, h2⟩ := q_isRow_dg hn h
  have e : ((n.toNat : Nat) : Int) = n := by omega
  have a : ∀ k, q_in n k → q_in n (q_dg p (n - 1 - k).toNat) := fun k hk => by
    have k1 := hk.1
    have k2 := hk.2
    exact ⟨(q_dg_bd p _).1, h1 _ (by omega)⟩
  refine ⟨a, ?_⟩
  have := q_into n.toNat (fun k => q_dg p (n - 1 - k).toNat) (by rw [e]; exact a) (by
    rw [e]
    intro j hj
    obtain ⟨i, hi, ei⟩ := h2 j hj
    refine ⟨n - 1 - i, ⟨by omega, by omega⟩, ?_⟩
    show q_dg p (n - 1 - (n - 1 - (i : Int))).toNat = j
    rw [show (n - 1 - (n - 1 - (i : Int))).toNat = i by omega]
    exact ei)
  rw [e] at this
  exact this
theorem q_td {x : Int} (h : 0 ≤ x) : Int.tmod x 10 = x % 10 ∧ Int.tdiv x 10 = x / 10 := ⟨Int.tmod_eq_emod_of_nonneg h, Int.tdiv_eq_ediv_of_nonneg h⟩
theorem L_isRow {p : Int} {s : Mem} (ip : InI p) (hn : 3 ≤ s 1 0 ∧ s 1 0 ≤ 6) {Q : Int → Mem → Prop} (ht : q_isRow (s 1 0) p → Q 1 s) (hf : ¬ q_isRow (s 1 0) p → Q 0 s) : x2_isRow p s Q := by
  apply x2_isRow_i
  refine ⟨ip, fun hp => ?_, fun q => ⟨by omega, hf (fun z => by have := z.1; omega)⟩⟩
  have hall := s_all hn
  have key : ∀ (m : Nat) (k : Int), 0 ≤ k → k ≤ s 1 0 → (s 1 0 - k).toNat = m → x2_isRow_L13 Q (q_msk p k.toNat) (q_quo p k.toNat) k s := by
    intro m
    induction m with
    | zero =>
      intro k h0 h1 hm
      obtain rfl : k = s 1 0 := by omega
      apply x2_isRow_s13
      have b1 := (q_msk_bd p (s 1 0).toNat).1
      have b2 := q_quo_nn hp (s 1 0).toNat
      exact ⟨by omega, fun _ => ⟨by omega, fun q => ⟨by omega, hf (fun z => q z.2.1)⟩, fun q => L_allSet ⟨⟨by omega, by omega⟩, fun q2 => ⟨by omega, hf (fun z => q2 z.2.2)⟩, fun q2 => ⟨by omega, ht ⟨hp, q, q2⟩⟩⟩⟩, fun c => absurd c (by omega)⟩
    | succ m ih =>
      intro k h0 h1 hm
      have nxt := ih (k + 1) (by omega) (by omega) (by omega)
      rw [show (k + 1).toNat = k.toNat + 1 by omega] at nxt
      have b1 := (q_msk_bd p k.toNat).1
      have b2 := q_quo_nn hp k.toNat
      have d := q_dg_bd p k.toNat
      obtain ⟨e1, e2⟩ := q_td b2.1
      apply x2_isRow_s13
      unfold x2_isRow_b13
      rw [e1, e2]
      have ed : q_quo p k.toNat % 10 = q_dg p k.toNat := rfl
      rw [ed]
      refine ⟨by omega, fun c => absurd c (by omega), fun c => ⟨by omega, ⟨by omega, by omega⟩, fun _ v6 e6 => ⟨by omega, ?_⟩, fun q => ⟨by omega, hf (fun z => ?_)⟩⟩⟩
      · rw [e6]
        exact nxt
      · have := (q_isRow_dg hn z).1 k.toNat (by omega)
        omega
  exact key _ 0 (by omega) (by omega) rfl
theorem L_takeRow {p : Int} {σ : Mem} (ip : InI p) (hn : 3 ≤ σ 1 0 ∧ σ 1 0 ≤ 6) {Q : Int → Mem → Prop} (ht : q_isRow (σ 1 0) p → ∀ s : Mem, (∀ c : Nat, c ≠ 6 → s c = σ c) → (∀ k, q_in (σ 1 0) k → s 6 k = q_dg p (σ 1 0 - 1 - k).toNat) → Q 1 s) (hf : ¬ q_isRow (σ 1 0) p → Q 0 σ) : x2_takeRow p σ Q := by
  apply x2_takeRow_i
  refine L_isRow ip hn (fun hr => ⟨by omega, fun _ => ?_, fun c => absurd c (by omega)⟩) (fun hr => ⟨by omega, fun c => absurd rfl c, fun _ => ⟨by omega, hf hr⟩⟩)
  have hp := hr.1
  have key : ∀ (m : Nat) (k : Int) (t : Mem), -1 ≤ k → k < σ 1 0 → (k + 1).toNat = m → (∀ c : Nat, c ≠ 6 → t c = σ c) → (∀ j, k < j → j < σ 1 0 → t 6 j = q_dg p (σ 1 0 - 1 - j).toNat) → x2_takeRow_L19 Q (q_quo p (σ 1 0 - 1 - k).toNat) k t := by
    intro m
    induction m with
    | zero =>
      intro k t h0 h1 hm hF hd
      apply x2_takeRow_s19
      exact ⟨by omega, fun _ => ⟨by omega, ht hr t hF (fun j hj => hd j (by have := hj.1; omega) hj.2)⟩, fun c => absurd c (by omega)⟩
    | succ m ih =>
      intro k t h0 h1 hm hF hd
      apply x2_takeRow_s19
      have b2 := q_quo_nn hp (σ 1 0 - 1 - k).toNat
      obtain ⟨t1, t2⟩ := q_td b2.1
      unfold x2_takeRow_b19
      rw [t1, t2]
      refine ⟨by omega, fun c => absurd c (by omega), fun c => ⟨by omega, by omega, fun s4 e4 => ⟨by omega, ?_⟩⟩⟩
      have nxt := ih (k + -1) s4 (by omega) (by omega) (by omega) (fun c hc => by rw [e4, m_upd_ne _ _ _ _ _ hc]; exact hF c hc) (fun j j0 j1 => by
        rw [e4, m_upd_at]
        by_cases w : j = k
        · rw [if_pos ⟨rfl, w⟩, w]
          rfl
        · rw [if_neg (fun z => w z.2)]
          exact hd j (by omega) j1)
      rw [show (σ 1 0 - 1 - (k + -1)).toNat = (σ 1 0 - 1 - k).toNat + 1 by omega] at nxt
      exact nxt
  have := key _ (σ 1 0 - 1) σ (by omega) (by omega) rfl (fun _ _ => rfl) (fun j h0 h1 => absurd h1 (by omega))
  rw [show (σ 1 0 - 1 - (σ 1 0 - 1)).toNat = 0 by omega] at this
  exact this
