/-- what the search for lifts may touch -/
def FrB (τ τ' : Mem) : Prop := (∀ c : Nat, c ≠ 0 → c ≠ 12 → c ≠ 13 → c ≠ 14 → τ' c = τ c) ∧ ∀ j : Int, j ≠ 15 → τ' 0 j = τ 0 j
theorem FrB.refl (τ : Mem) : FrB τ τ := ⟨fun _ _ _ _ _ => rfl, fun _ _ => rfl⟩
theorem FrB.trans {τ s t : Mem} (h : FrB τ s) (g : FrB s t) : FrB τ t := ⟨fun c a b d e => (g.1 c a b d e).trans (h.1 c a b d e), fun j hj => (g.2 j hj).trans (h.2 j hj)⟩
theorem JB.fr {τ τ' : Mem} (h : JB τ) (f : FrB τ τ') : JB τ' := by
  unfold JB
  rw [f.2 0 (by omega), f.2 1 (by omega), f.1 1 (by omega) (by omega) (by omega) (by omega), f.1 2 (by omega) (by omega) (by omega) (by omega), f.1 3 (by omega) (by omega) (by omega) (by omega), f.1 4 (by omega) (by omega) (by omega) (by omega), f.1 5 (by omega) (by omega) (by omega) (by omega)]
  exact h
/-- table laid and worked: the lifts of the ways -/
theorem B_work {τ : Mem} (hJ : JB τ) (hw : ∀ k, q_in (τ 0 0) k → 0 ≤ τ 14 k ∧ τ 14 k ≤ 2) {Q : Int → Mem → Prop}
    (h : ∀ τ' : Mem, FrB τ τ' → τ' 14 = τ 14 → q_Lin (τ 0 0) (τ 0 1) (τ 1) (τ 2) (τ 3) (τ 4) (q_wp (τ 14) (τ 5)) (q_wq (τ 14)) (-1) 0 (τ' 12) (τ' 0 15) → τ' 0 15 ≤ 2176782336 → (∀ k, q_in (τ 0 0) k → q_bd (τ' 12 k) 1995383808000) → Q 0 τ') : x8_layTable τ (fun _ s => x8_solve s Q) := by
  have hn := hJ.n
  have hr := hJ.r
  obtain ⟨N, hN⟩ : ∃ N : Nat, τ 0 0 = (N : Int) := ⟨(τ 0 0).toNat, by omega⟩
  have hNb : 3 ≤ N ∧ N ≤ 6 := by omega
  have he : ∀ k, q_in N k → 0 ≤ q_e (τ 1) (τ 2) (q_wp (τ 14) (τ 5)) (q_wq (τ 14)) k ∧ q_e (τ 1) (τ 2) (q_wp (τ 14) (τ 5)) (q_wq (τ 14)) k ≤ 18 := fun k hk => by
    have := hJ.k (k := k) (by rw [hN]; exact hk)
    unfold q_e
    split <;> split <;> omega
  have hd : ∀ k, q_in N k → 2 * τ 0 1 ≤ m_d τ k ∧ m_d τ k ≤ 2 * τ 0 1 + 18 := fun k hk => by
    have := he k hk
    unfold m_d
    omega
  have hd36 : ∀ k, q_in N k → 2 * τ 0 1 ≤ m_d τ k ∧ m_d τ k ≤ 36 := fun k hk => by
    have := hd k hk
    omega
  have hb : ∀ k, q_in N k → q_bd (m_b τ k) 1809 := fun k hk => by
    have hk' := hJ.k (k := k) (by rw [hN]; exact hk)
    have m1 := Int.mul_nonneg (show 0 ≤ τ 1 k by omega) hk'.2.2.1.1
    have m2 : τ 1 k * τ 3 k ≤ 9 * 201 := Int.mul_le_mul hk'.1.2 hk'.2.2.1.2 hk'.2.2.1.1 (by omega)
    unfold m_b q_c
    rw [if_neg (show ¬ k = -1 by have := hk.1; omega)]
    constructor <;> (split <;> omega)
  obtain ⟨k0, hk0, h0⟩ := q_ways_ne hJ (w := τ 14)
  have hdet : 0 < q_det N (τ 0 1) (m_d τ) := q_det_pos hNb hr he ⟨k0, by rw [← hN]; exact hk0, q_e_pos hJ hk0 h0⟩
  obtain ⟨T, L, hT⟩ := q_TOk hNb hr hd hb hdet
  refine B_layTable hJ hw (fun s hf hA => ?_)
  have s0 := hf 0 (by omega)
  have s14 := hf 14 (by omega)
  rw [hN] at hA
  refine B_solve hNb hT (by rw [s0]; exact hN) hA (fun τ' hf2 hf0 hbel hlift => ?_)
  have fr : FrB τ τ' := ⟨fun c h1 h2 h3 h4 => by rw [hf2 c h1 h2 h3, hf c h3], fun j hj => by rw [hf0 j hj, s0]⟩
  refine h τ' fr (by rw [hf2 14 (by omega) (by omega) (by omega), s14]) ?_ ?_ (fun k hk => ?_)
  · rw [hbel]
    have ok2 : q_ok N (τ 0 1) (τ 1) (τ 2) (τ 3) (τ 4) (τ 5) := by
      have := hJ
      unfold JB at this
      rw [hN] at this
      exact this
    rw [hN]
    exact q_Lin_of ok2 (fun k _ => rfl) (fun k _ => rfl) ⟨k0, by rw [← hN]; exact hk0, h0⟩ hlift rfl hdet
  · rw [hbel]
    exact q_det_le hNb hr hd36
  · rw [hN] at hk
    rw [hlift k hk]
    exact q_S_le hNb hr hd36 (fun k hk => q_bd_le (hb k hk) (by omega)) k hk
theorem B_wayBy {τ : Mem} {k : Int} (hk : 0 ≤ k ∧ k < 6) (hw : 0 ≤ τ 14 k ∧ τ 14 k ≤ 2) (ht : 0 ≤ τ 3 k ∧ τ 3 k ≤ 201) (hb : τ 5 k = 0 ∨ τ 5 k = 1) (hD : 0 < τ 0 15 ∧ τ 0 15 ≤ 2176782336) (hu : q_bd (τ 12 k) 1995383808000) {Q : Int → Mem → Prop}
    (h : ∀ r : Int, (0 ≤ r ∧ r ≤ 2) → (r = τ 14 k ↔ q_fit (τ 14 k) (τ 5 k) (τ 12 k) (τ 3 k * τ 0 15)) → Q r τ) : x8_wayBy k τ Q := by
  apply x8_wayBy_i
  have m1 := Int.mul_nonneg ht.1 (Int.le_of_lt hD.1)
  have m2 : τ 3 k * τ 0 15 ≤ 201 * 2176782336 := Int.mul_le_mul ht.2 hD.2 (Int.le_of_lt hD.1) (by omega)
  have u1 := hu.1
  have u2 := hu.2
  refine ⟨hk, hk, by omega, fun v1 e1 => ⟨hk, by omega, fun c => ?_, fun c => ?_⟩⟩
  · -- not broken
    rw [← e1] at h m1 m2
    have f119 : (¬ q_fit (τ 14 k) (τ 5 k) (τ 12 k) v1) → x8_wayBy_L119 Q (τ 12 k) v1 τ := by
      intro hnf
      unfold q_fit at hnf
      rw [if_pos c] at hnf
      apply x8_wayBy_s119
      refine ⟨⟨by constructor <;> omega, by omega⟩, fun c1 => ⟨⟨by constructor <;> omega, by constructor <;> omega⟩, fun c2 => h 1 (by omega) ?_, fun c2 => h 2 (by omega) ?_⟩, fun c1 => h 0 (by omega) ?_⟩
      all_goals
        unfold q_fit
        rw [if_pos c]
        omega
    have f95 : ¬ (τ 14 k = 0 ∧ τ 12 k ≤ 0) → ¬ (τ 14 k = 1 ∧ 0 ≤ τ 12 k ∧ τ 12 k ≤ v1) → x8_wayBy_L95 Q k (τ 12 k) v1 τ := by
      intro n1 n2
      apply x8_wayBy_s95
      refine ⟨hk, by omega, fun c1 => f119 ?_, fun c1 => ⟨⟨by constructor <;> omega, by constructor <;> omega⟩, fun c2 => f119 ?_, fun c2 => ⟨hk, h _ (by omega) ?_⟩⟩⟩
      all_goals
        unfold q_fit
        rw [if_pos c]
        omega
    have f72 : ¬ (τ 14 k = 0 ∧ τ 12 k ≤ 0) → x8_wayBy_L72 Q k (τ 12 k) v1 τ := by
      intro n1
      apply x8_wayBy_s72
      refine ⟨hk, by omega, fun c1 => f95 n1 (by omega), fun c1 => ⟨⟨by constructor <;> omega, by constructor <;> omega⟩, fun c2 => f95 n1 (by omega), fun c2 => ⟨⟨by constructor <;> omega, by constructor <;> omega⟩, fun c3 => ⟨hk, h _ (by omega) ?_⟩, fun c3 => f95 n1 (by omega)⟩⟩⟩
      unfold q_fit
      rw [if_pos c]
      omega
    refine ⟨hk, by omega, fun c1 => f72 (by omega), fun c1 => ⟨⟨by constructor <;> omega, by omega⟩, fun c2 => ⟨hk, h _ (by omega) ?_⟩, fun c2 => f72 (by omega)⟩⟩
    unfold q_fit
    rw [if_pos c]
    omega
  · -- broken
    refine ⟨⟨by constructor <;> omega, by omega⟩, fun c1 => ⟨⟨by constructor <;> omega, by omega⟩, fun c2 => ⟨hk, h _ (by omega) ?_⟩, fun c2 => h 0 (by omega) ?_⟩, fun c1 => h 2 (by omega) ?_⟩
    all_goals
      unfold q_fit
      rw [if_neg c]
      omega
theorem B_isSo {τ : Mem} (hJ : JB τ) (hw : ∀ k, q_in (τ 0 0) k → 0 ≤ τ 14 k ∧ τ 14 k ≤ 2) (hD : 0 < τ 0 15 ∧ τ 0 15 ≤ 2176782336) (hu : ∀ k, q_in (τ 0 0) k → q_bd (τ 12 k) 1995383808000) {Q : Int → Mem → Prop}
    (h : ∀ (r : Int) (τ' : Mem), (r = 0 ∨ r = 1) → (∀ c : Nat, c ≠ 14 → τ' c = τ c) → (∀ k, q_in (τ 0 0) k → 0 ≤ τ' 14 k ∧ τ' 14 k ≤ 2) → (r = 1 → ∀ k, q_in (τ 0 0) k → q_fit (τ 14 k) (τ 5 k) (τ 12 k) (τ 3 k * τ 0 15)) → Q r τ') : x8_isSo τ Q := by
  apply x8_isSo_i
  have hn := hJ.n
  have key : ∀ (m : Nat) (is k : Int) (s : Mem), (is = 0 ∨ is = 1) → 0 ≤ k → k ≤ τ 0 0 → (τ 0 0 - k).toNat = m → (∀ c : Nat, c ≠ 14 → s c = τ c) → (∀ j, q_in (τ 0 0) j → 0 ≤ s 14 j ∧ s 14 j ≤ 2) → (∀ j, k ≤ j → s 14 j = τ 14 j) → (is = 1 → ∀ j, 0 ≤ j → j < k → q_fit (τ 14 j) (τ 5 j) (τ 12 j) (τ 3 j * τ 0 15)) → x8_isSo_L4 Q is k s := by
    intro m
    induction m with
    | zero =>
      intro is k s hi h0 h1 hm hf hs he hfit
      have e0 := hf 0 (by omega)
      apply x8_isSo_s4
      refine ⟨by rw [e0]; omega, fun c => ⟨by omega, h is s hi hf hs (fun z j hj => hfit z j hj.1 (by have := hj.2; omega))⟩, fun c => absurd c (by rw [e0]; omega)⟩
    | succ m ih =>
      intro is k s hi h0 h1 hm hf hs he hfit
      have e0 := hf 0 (by omega)
      have hk := hJ.k (k := k) (by omega)
      have key36 : ∀ (r : Int), 0 ≤ r ∧ r ≤ 2 → x8_isSo_L36 Q k r s := by
        intro r hr
        apply x8_isSo_s36
        refine ⟨by omega, fun s7 e7 => ?_⟩
        refine ih 0 (k + 1) s7 (Or.inl rfl) (by omega) (by omega) (by omega) (fun c hc => by rw [e7, m_upd_ne _ _ _ _ _ hc]; exact hf c hc) (fun j hj => ?_) (fun j hj => ?_) (fun z => by omega)
        · rw [e7, m_upd_at]
          by_cases hjk : j = k
          · rw [if_pos ⟨rfl, hjk⟩]
            exact hr
          · rw [if_neg (by omega)]
            exact hs j hj
        · rw [e7, m_upd_at, if_neg (by omega)]
          exact he j (by omega)
      apply x8_isSo_s4
      refine ⟨by rw [e0]; omega, fun c => absurd c (by rw [e0]; omega), fun c => ?_⟩
      have w1 := he k (by omega)
      refine B_wayBy (τ := s) (k := k) (by omega) (hs k ⟨h0, by omega⟩) (by rw [hf 3 (by omega)]; exact hk.2.2.1) (by rw [hf 5 (by omega)]; exact hk.2.2.2.2) (by rw [e0]; exact hD) (by rw [hf 12 (by omega)]; exact hu k ⟨h0, by omega⟩) (fun r hr hfitk => ?_)
      rw [w1, e0, hf 3 (by omega), hf 5 (by omega), hf 12 (by omega)] at hfitk
      refine ⟨by omega, fun c1 => key36 r hr, fun c1 => ⟨by omega, ?_, fun c2 => key36 r hr, fun c2 => ⟨by omega, fun s3 e3 => ?_⟩⟩⟩
      · have := hs k ⟨h0, by omega⟩
        omega
      · rw [w1] at c2
        refine ih 1 (k + 1) s3 (Or.inr rfl) (by omega) (by omega) (by omega) (fun c hc => by rw [e3, m_upd_ne _ _ _ _ _ hc]; exact hf c hc) (fun j hj => ?_) (fun j hj => ?_) (fun z j hj0 hj1 => ?_)
        · rw [e3, m_upd_at]
          by_cases hjk : j = k
          · rw [if_pos ⟨rfl, hjk⟩]
            exact hr
          · rw [if_neg (by omega)]
            exact hs j hj
        · rw [e3, m_upd_at, if_neg (by omega)]
          exact he j (by omega)
        · by_cases hjk : j = k
          · rw [hjk]
            exact hfitk.1 c2
          · exact hfit (by omega) j hj0 (by omega)
  exact key _ 1 0 τ (Or.inr rfl) (by omega) (by omega) rfl (fun c _ => rfl) hw (fun j _ => rfl) (fun _ j h0 h1 => absurd h1 (by omega))
theorem B_fits {τ : Mem} (hJ : JB τ) (hw : ∀ k, q_in (τ 0 0) k → 0 ≤ τ 14 k ∧ τ 14 k ≤ 2) (hD : 0 < τ 0 15 ∧ τ 0 15 ≤ 2176782336) (hu : ∀ k, q_in (τ 0 0) k → q_bd (τ 12 k) 1995383808000) {Q : Int → Mem → Prop}
    (h : ∀ r : Int, (r = 0 ∨ r = 1) → (r = 1 ↔ ∀ k, q_in (τ 0 0) k → q_fit (τ 14 k) (τ 5 k) (τ 12 k) (τ 3 k * τ 0 15)) → Q r τ) : x8_fits τ Q := by
  apply x8_fits_i
  have hn := hJ.n
  have key : ∀ (m : Nat) (is k : Int), (is = 0 ∨ is = 1) → 0 ≤ k → k ≤ τ 0 0 → (τ 0 0 - k).toNat = m → (is = 1 ↔ ∀ j, 0 ≤ j → j < k → q_fit (τ 14 j) (τ 5 j) (τ 12 j) (τ 3 j * τ 0 15)) → x8_fits_L4 Q is k τ := by
    intro m
    induction m with
    | zero =>
      intro is k hi h0 h1 hm hfit
      apply x8_fits_s4
      refine ⟨by omega, fun c => ⟨by omega, h is hi ?_⟩, fun c => absurd c (by omega)⟩
      rw [hfit]
      constructor
      · intro z j hj
        exact z j hj.1 (by have := hj.2; omega)
      · intro z j h0 h1
        exact z j ⟨h0, by omega⟩
    | succ m ih =>
      intro is k hi h0 h1 hm hfit
      have hk := hJ.k (k := k) (by omega)
      apply x8_fits_s4
      refine ⟨by omega, fun c => absurd c (by omega), fun c => ⟨by omega, fun c1 => ?_, fun c1 => ?_⟩⟩
      · refine ih 0 (k + 1) (Or.inl rfl) (by omega) (by omega) (by omega) ⟨fun z => by omega, fun z => ?_⟩
        have := hfit.2 (fun j h0 h1 => z j h0 (by omega))
        omega
      · refine B_wayBy (τ := τ) (k := k) (by omega) (hw k ⟨h0, by omega⟩) hk.2.2.1 hk.2.2.2.2 hD (hu k ⟨h0, by omega⟩) (fun r hr hfitk => ?_)
        have hw' := hw k ⟨h0, by omega⟩
        refine ⟨by omega, by omega, fun c2 => ?_, fun c2 => ?_⟩
        · refine ih 0 (k + 1) (Or.inl rfl) (by omega) (by omega) (by omega) ⟨fun z => by omega, fun z => ?_⟩
          exact absurd (hfitk.2 (z k h0 (by omega))) c2
        · refine ih 1 (k + 1) (Or.inr rfl) (by omega) (by omega) (by omega) ⟨fun _ j hj0 hj1 => ?_, fun _ => rfl⟩
          by_cases hjk : j = k
          · rw [hjk]
            exact hfitk.1 c2
          · exact hfit.1 (by omega) j hj0 (by omega)
  exact key _ 1 0 (Or.inr rfl) (by omega) (by omega) rfl ⟨fun _ j h0 h1 => absurd h1 (by omega), fun _ => rfl⟩
/-- the lifts stand in cells 12 and 0 -/
def LiftsB (τ τ' : Mem) : Prop := FrB τ τ' ∧ q_IsL (τ 0 0) (τ 0 1) (τ 1) (τ 2) (τ 3) (τ 4) (τ 5) (τ' 12) (τ' 0 15) ∧ (0 < τ' 0 15 ∧ τ' 0 15 ≤ 2176782336) ∧ ∀ k, q_in (τ 0 0) k → q_bd (τ' 12 k) 1995383808000
/-- ways as a number to the base of 3 -/
def q_num (w : Int → Int) (n : Int) : Nat → Int
  | 0 => 0
  | m + 1 => w (n - (m + 1)) + 3 * q_num w n m
theorem B_findLifts {τ : Mem} (hJ : JB τ) {Q : Int → Mem → Prop} (h : ∀ τ' : Mem, LiftsB τ τ' → Q 0 τ') : x8_findLifts τ Q := by
  apply x8_findLifts_i
  have hn := hJ.n
  obtain ⟨u, D, hL⟩ := q_IsL_ex hJ
  have hws : ∀ k, 0 ≤ q_way (τ 3) (τ 5) u D k ∧ q_way (τ 3) (τ 5) u D k ≤ 2 := fun k => by
    unfold q_way
    split <;> split <;> (try split) <;> omega
  have numb : ∀ m : Nat, m ≤ 6 → 0 ≤ q_num (q_way (τ 3) (τ 5) u D) (τ 0 0) m ∧ q_num (q_way (τ 3) (τ 5) u D) (τ 0 0) m < 3 ^ m := by
    intro m
    induction m with
    | zero => intro _; exact ⟨by show (0 : Int) ≤ 0; omega, by show (0 : Int) < 3 ^ 0; omega⟩
    | succ m ih =>
      intro hm
      have := ih (by omega)
      have := hws (τ 0 0 - (m + 1))
      rw [q_num, Int.pow_succ]
      omega
  have num6 := numb (τ 0 0).toNat (by omega)
  -- laid, worked and looked at, with ways w
  have done : ∀ s s' : Mem, FrB τ s → (∀ k, q_in (τ 0 0) k → 0 ≤ s 14 k ∧ s 14 k ≤ 2) → FrB s s' → s' 14 = s 14 → q_Lin (s 0 0) (s 0 1) (s 1) (s 2) (s 3) (s 4) (q_wp (s 14) (s 5)) (q_wq (s 14)) (-1) 0 (s' 12) (s' 0 15) → s' 0 15 ≤ 2176782336 → (∀ k, q_in (s 0 0) k → q_bd (s' 12 k) 1995383808000) →
      (∀ k, q_in (τ 0 0) k → q_fit (s 14 k) (s 5 k) (s' 12 k) (s 3 k * s' 0 15)) → ∀ t : Mem, (∀ c : Nat, c ≠ 14 → t c = s' c) → Q 0 t := by
    intro s s' hf hw hf' h14 hlin hle hbd hfit t ht
    have hJs := hJ.fr hf
    have e0 := hf.2 0 (by omega)
    have g : ∀ c : Nat, c ≠ 0 → c ≠ 12 → c ≠ 13 → c ≠ 14 → s c = τ c := hf.1
    have hL2 := q_fit_L hJs (w := s 14) (fun k hk => hw k (by rw [e0] at hk; exact hk)) hlin (fun k hk => hfit k (by rw [e0] at hk; exact hk))
    rw [e0, hf.2 1 (by omega), g 1 (by omega) (by omega) (by omega) (by omega), g 2 (by omega) (by omega) (by omega) (by omega), g 3 (by omega) (by omega) (by omega) (by omega), g 4 (by omega) (by omega) (by omega) (by omega), g 5 (by omega) (by omega) (by omega) (by omega)] at hL2
    rw [e0] at hbd
    refine h t ⟨⟨fun c h1 h2 h3 h4 => ?_, fun j hj => ?_⟩, ?_, ?_, fun k hk => ?_⟩
    · rw [ht c h4, hf'.1 c h1 h2 h3 h4, hf.1 c h1 h2 h3 h4]
    · rw [ht 0 (by omega), hf'.2 j hj, hf.2 j hj]
    · rw [ht 12 (by omega), ht 0 (by omega)]
      exact hL2
    · rw [ht 0 (by omega)]
      exact ⟨hlin.1, hle⟩
    · rw [ht 12 (by omega)]
      exact hbd k hk
  -- all ways one by one
  have each : ∀ (m : Nat) (x : Int) (s : Mem), 0 ≤ x → x ≤ q_num (q_way (τ 3) (τ 5) u D) (τ 0 0) (τ 0 0).toNat → (q_num (q_way (τ 3) (τ 5) u D) (τ 0 0) (τ 0 0).toNat - x).toNat = m → FrB τ s → x8_findLifts_L90 Q (3 ^ (τ 0 0).toNat) x s := by
    intro m
    induction m with
    | zero =>
      intro x s h0 h1 hm hf
      have hx : x = q_num (q_way (τ 3) (τ 5) u D) (τ 0 0) (τ 0 0).toNat := by omega
      have p6 : (3 : Int) ^ (τ 0 0).toNat ≤ 729 := by
        rcases (show (τ 0 0).toNat = 3 ∨ (τ 0 0).toNat = 4 ∨ (τ 0 0).toNat = 5 ∨ (τ 0 0).toNat = 6 by omega) with e | e | e | e <;> rw [e] <;> decide
      apply x8_findLifts_s90
      refine ⟨by omega, fun c => absurd c (by omega), fun c => ?_⟩
      have digs : ∀ (m2 : Nat) (s : Mem), (m2 : Int) ≤ τ 0 0 → FrB τ s → (∀ j, 0 ≤ j → j < τ 0 0 - m2 → s 14 j = q_way (τ 3) (τ 5) u D j) → x8_findLifts_L100 Q (3 ^ (τ 0 0).toNat) x (q_num (q_way (τ 3) (τ 5) u D) (τ 0 0) m2) (τ 0 0 - m2) s := by
        intro m2
        induction m2 with
        | zero =>
          intro s hm2 hf hv
          have e0 := hf.2 0 (by omega)
          have hv' : ∀ j, q_in (τ 0 0) j → s 14 j = q_way (τ 3) (τ 5) u D j := fun j hj => hv j hj.1 (by have := hj.2; omega)
          apply x8_findLifts_s100
          refine ⟨by rw [e0]; omega, fun c => ?_, fun c => absurd c (by rw [e0]; omega)⟩
          have hw14 : ∀ k, q_in (τ 0 0) k → 0 ≤ s 14 k ∧ s 14 k ≤ 2 := fun k hk => by
            rw [hv' k hk]
            exact hws k
          refine B_work (hJ.fr hf) (fun k hk => hw14 k (by rw [e0] at hk; exact hk)) (fun s14 hf' h14 hlin hle hbd => ?_)
          have hJ14 := hJ.fr (hf.trans hf')
          have e0' := (hf.trans hf').2 0 (by omega)
          refine B_fits hJ14 (fun k hk => by rw [h14]; rw [e0'] at hk; exact hw14 k hk) ⟨hlin.1, hle⟩ (fun k hk => hbd k (by rw [e0]; rw [e0'] at hk; exact hk)) (fun r hr hfit => ?_)
          have g5 := hf'.1 5 (by omega) (by omega) (by omega) (by omega)
          have g3 := hf'.1 3 (by omega) (by omega) (by omega) (by omega)
          rw [h14, g5, g3, e0'] at hfit
          refine ⟨by omega, fun c1 => ?_, fun c1 => ?_⟩
          · exfalso
            have : r = 1 := hfit.2 (fun k hk => ?_)
            · omega
            · have gs3 := hf.1 3 (by omega) (by omega) (by omega) (by omega)
              have gs5 := hf.1 5 (by omega) (by omega) (by omega) (by omega)
              have hlw := q_way_Lin hJ hL
              have hcongr : q_Lin (τ 0 0) (τ 0 1) (τ 1) (τ 2) (τ 3) (τ 4) (q_wp (q_way (τ 3) (τ 5) u D) (τ 5)) (q_wq (q_way (τ 3) (τ 5) u D)) (-1) 0 (s14 12) (s14 0 15) := by
                refine ⟨hlin.1, fun j hj => ?_⟩
                have h1 := hlin.2 j (by rw [e0]; exact hj)
                rw [e0, hf.2 1 (by omega), hf.1 1 (by omega) (by omega) (by omega) (by omega), hf.1 2 (by omega) (by omega) (by omega) (by omega), gs3, hf.1 4 (by omega) (by omega) (by omega) (by omega), gs5] at h1
                unfold q_e q_c q_wp q_wq at h1 ⊢
                rw [hv' j hj] at h1
                exact h1
              have huv := q_Lin_uniq hJ (q_ways_ne hJ) hlw hcongr k hk
              have := q_way_fit (tu := τ 3) (br := τ 5) hL.1 hlin.1 (hJ.k hk).2.2.1.1 huv
              rw [hv' k hk, gs5, gs3]
              exact this
          · have h1 : r = 1 := by omega
            exact done s s14 hf hw14 hf' h14 hlin hle hbd (hfit.1 h1) s14 (fun c _ => rfl)
        | succ m2 ih2 =>
          intro s hm2 hf hv
          have e0 := hf.2 0 (by omega)
          have hwk := hws (τ 0 0 - ((m2 : Int) + 1))
          have nb := numb m2 (by omega)
          have nb1 := numb (m2 + 1) (by omega)
          have p7 : (3 : Int) ^ (m2 + 1) ≤ 729 := by
            rcases (show m2 = 0 ∨ m2 = 1 ∨ m2 = 2 ∨ m2 = 3 ∨ m2 = 4 ∨ m2 = 5 by omega) with e | e | e | e | e | e <;> rw [e] <;> decide
          rw [show τ 0 0 - ((m2 + 1 : Nat) : Int) = τ 0 0 - ((m2 : Int) + 1) by omega] at hv ⊢
          have hmod : Int.tmod (q_num (q_way (τ 3) (τ 5) u D) (τ 0 0) (m2 + 1)) 3 = q_way (τ 3) (τ 5) u D (τ 0 0 - ((m2 : Int) + 1)) := by
            rw [Int.tmod_eq_emod_of_nonneg nb1.1, q_num]
            omega
          have hdiv : Int.tdiv (q_num (q_way (τ 3) (τ 5) u D) (τ 0 0) (m2 + 1)) 3 = q_num (q_way (τ 3) (τ 5) u D) (τ 0 0) m2 := by
            rw [Int.tdiv_eq_ediv_of_nonneg nb1.1, q_num]
            omega
          apply x8_findLifts_s100
          refine ⟨by rw [e0]; omega, fun c => absurd c (by rw [e0]; omega), fun c => ⟨by omega, by omega, fun s18 e18 => ⟨by omega, ?_⟩⟩⟩
          rw [hmod] at e18
          rw [hdiv, show τ 0 0 - ((m2 : Int) + 1) + 1 = τ 0 0 - m2 by omega]
          refine ih2 s18 (by omega) (hf.trans ⟨fun c h1 h2 h3 h4 => by rw [e18, m_upd_ne _ _ _ _ _ h4], fun j hj => by rw [e18, m_upd_ne _ _ _ _ _ (by omega)]⟩) (fun j hj0 hj1 => ?_)
          rw [e18, m_upd_at]
          by_cases hjk : j = τ 0 0 - ((m2 : Int) + 1)
          · rw [if_pos ⟨rfl, hjk⟩, hjk]
          · rw [if_neg (by omega)]
            exact hv j hj0 (by omega)
      have := digs (τ 0 0).toNat s (by omega) hf (fun j h0 h1 => absurd h1 (by omega))
      rw [show τ 0 0 - (((τ 0 0).toNat : Nat) : Int) = 0 by omega, ← hx] at this
      exact this
    | succ m ih =>
      intro x s h0 h1 hm hf
      have p6 : (3 : Int) ^ (τ 0 0).toNat ≤ 729 := by
        rcases (show (τ 0 0).toNat = 3 ∨ (τ 0 0).toNat = 4 ∨ (τ 0 0).toNat = 5 ∨ (τ 0 0).toNat = 6 by omega) with e | e | e | e <;> rw [e] <;> decide
      apply x8_findLifts_s90
      refine ⟨by omega, fun c => absurd c (by omega), fun c => ?_⟩
      have digs : ∀ (m2 : Nat) (y : Int) (s : Mem), (m2 : Int) ≤ τ 0 0 → 0 ≤ y → y < 729 → FrB τ s → (∀ j, 0 ≤ j → j < τ 0 0 - m2 → 0 ≤ s 14 j ∧ s 14 j ≤ 2) → x8_findLifts_L100 Q (3 ^ (τ 0 0).toNat) x y (τ 0 0 - m2) s := by
        intro m2
        induction m2 with
        | zero =>
          intro y s hm2 hy0 hy1 hf hv
          have e0 := hf.2 0 (by omega)
          have hw14 : ∀ j, q_in (τ 0 0) j → 0 ≤ s 14 j ∧ s 14 j ≤ 2 := fun j hj => hv j hj.1 (by have := hj.2; omega)
          apply x8_findLifts_s100
          refine ⟨by rw [e0]; omega, fun c => ?_, fun c => absurd c (by rw [e0]; omega)⟩
          refine B_work (hJ.fr hf) (fun k hk => hw14 k (by rw [e0] at hk; exact hk)) (fun s14 hf' h14 hlin hle hbd => ?_)
          have hJ14 := hJ.fr (hf.trans hf')
          have e0' := (hf.trans hf').2 0 (by omega)
          refine B_fits hJ14 (fun k hk => by rw [h14]; rw [e0'] at hk; exact hw14 k hk) ⟨hlin.1, hle⟩ (fun k hk => hbd k (by rw [e0]; rw [e0'] at hk; exact hk)) (fun r hr hfit => ?_)
          have g5 := hf'.1 5 (by omega) (by omega) (by omega) (by omega)
          have g3 := hf'.1 3 (by omega) (by omega) (by omega) (by omega)
          rw [h14, g5, g3, e0'] at hfit
          refine ⟨by omega, fun c1 => ih (x + 1) s14 (by omega) (by omega) (by omega) (hf.trans hf'), fun c1 => ?_⟩
          have h1 : r = 1 := by omega
          exact done s s14 hf hw14 hf' h14 hlin hle hbd (hfit.1 h1) s14 (fun c _ => rfl)
        | succ m2 ih2 =>
          intro y s hm2 hy0 hy1 hf hv
          have e0 := hf.2 0 (by omega)
          rw [show τ 0 0 - ((m2 + 1 : Nat) : Int) = τ 0 0 - ((m2 : Int) + 1) by omega] at hv ⊢
          have hmod : 0 ≤ Int.tmod y 3 ∧ Int.tmod y 3 ≤ 2 := by
            rw [Int.tmod_eq_emod_of_nonneg hy0]
            omega
          have hdiv : 0 ≤ Int.tdiv y 3 ∧ Int.tdiv y 3 < 729 := by
            rw [Int.tdiv_eq_ediv_of_nonneg hy0]
            omega
          apply x8_findLifts_s100
          refine ⟨by rw [e0]; omega, fun c => absurd c (by rw [e0]; omega), fun c => ⟨by omega, by omega, fun s18 e18 => ⟨by omega, ?_⟩⟩⟩
          rw [show τ 0 0 - ((m2 : Int) + 1) + 1 = τ 0 0 - m2 by omega]
          refine ih2 _ s18 (by omega) hdiv.1 hdiv.2 (hf.trans ⟨fun c h1 h2 h3 h4 => by rw [e18, m_upd_ne _ _ _ _ _ h4], fun j hj => by rw [e18, m_upd_ne _ _ _ _ _ (by omega)]⟩) (fun j hj0 hj1 => ?_)
          rw [e18, m_upd_at]
          by_cases hjk : j = τ 0 0 - ((m2 : Int) + 1)
          · rw [if_pos ⟨rfl, hjk⟩]
            exact hmod
          · rw [if_neg (by omega)]
            exact hv j hj0 (by omega)
      have := digs (τ 0 0).toNat x s (by omega) h0 (by omega) hf (fun j h0 h1 => absurd h1 (by omega))
      rw [show τ 0 0 - (((τ 0 0).toNat : Nat) : Int) = 0 by omega] at this
      exact this
  -- how many ways there are
  have pow : ∀ (m : Nat) (k : Int) (s : Mem), 0 ≤ k → k ≤ τ 0 0 → (τ 0 0 - k).toNat = m → FrB τ s → x8_findLifts_L70 Q (3 ^ k.toNat) k s := by
    intro m
    induction m with
    | zero =>
      intro k s h0 h1 hm hf
      have e0 := hf.2 0 (by omega)
      apply x8_findLifts_s70
      refine ⟨by rw [e0]; omega, fun c => ?_, fun c => absurd c (by rw [e0]; omega)⟩
      rw [show k = τ 0 0 by omega]
      exact each _ 0 s (by omega) num6.1 rfl hf
    | succ m ih =>
      intro k s h0 h1 hm hf
      have e0 := hf.2 0 (by omega)
      apply x8_findLifts_s70
      refine ⟨by rw [e0]; omega, fun c => absurd c (by rw [e0]; omega), fun c => ?_⟩
      have := ih (k + 1) s (by omega) (by omega) (by omega) hf
      rw [show (k + 1).toNat = k.toNat + 1 by omega, Int.pow_succ] at this
      exact this
  -- the tries
  have tries : ∀ (m : Nat) (x : Int) (s : Mem), 0 ≤ x → x ≤ 40 → (40 - x).toNat = m → FrB τ s → (∀ k, q_in (τ 0 0) k → 0 ≤ s 14 k ∧ s 14 k ≤ 2) → x8_findLifts_L38 Q x s := by
    intro m
    induction m with
    | zero =>
      intro x s h0 h1 hm hf hw
      apply x8_findLifts_s38
      exact ⟨by omega, fun c => pow _ 0 s (by omega) (by omega) rfl hf, fun c => absurd c (by omega)⟩
    | succ m ih =>
      intro x s h0 h1 hm hf hw
      have e0 := hf.2 0 (by omega)
      apply x8_findLifts_s38
      refine ⟨by omega, fun c => absurd c (by omega), fun c => ?_⟩
      refine B_work (hJ.fr hf) (fun k hk => hw k (by rw [e0] at hk; exact hk)) (fun s6 hf' h14 hlin hle hbd => ?_)
      have hJ6 := hJ.fr (hf.trans hf')
      have e0' := (hf.trans hf').2 0 (by omega)
      refine B_isSo hJ6 (fun k hk => by rw [h14]; rw [e0'] at hk; exact hw k hk) ⟨hlin.1, hle⟩ (fun k hk => hbd k (by rw [e0]; rw [e0'] at hk; exact hk)) (fun r s7 hr hf7 hw7 hfit => ?_)
      have g5 := hf'.1 5 (by omega) (by omega) (by omega) (by omega)
      have g3 := hf'.1 3 (by omega) (by omega) (by omega) (by omega)
      rw [h14, g5, g3, e0'] at hfit
      rw [e0'] at hw7
      refine ⟨by omega, fun c1 => ih (x + 1) s7 (by omega) (by omega) (by omega) ((hf.trans hf').trans ⟨fun c h1 h2 h3 h4 => hf7 c h4, fun j hj => by rw [hf7 0 (by omega)]⟩) hw7, fun c1 => ?_⟩
      have h1 : r = 1 := by omega
      exact done s s6 hf hw hf' h14 hlin hle hbd (hfit h1) s7 hf7
  -- the first ways
  have first : ∀ (m : Nat) (k : Int) (s : Mem), 0 ≤ k → k ≤ τ 0 0 → (τ 0 0 - k).toNat = m → FrB τ s → (∀ j, 0 ≤ j → j < k → 0 ≤ s 14 j ∧ s 14 j ≤ 2) → x8_findLifts_L2 Q k s := by
    intro m
    induction m with
    | zero =>
      intro k s h0 h1 hm hf hw
      have e0 := hf.2 0 (by omega)
      apply x8_findLifts_s2
      exact ⟨by rw [e0]; omega, fun c => tries _ 0 s (by omega) (by omega) rfl hf (fun j hj => hw j hj.1 (by have := hj.2; omega)), fun c => absurd c (by rw [e0]; omega)⟩
    | succ m ih =>
      intro k s h0 h1 hm hf hw
      have e0 := hf.2 0 (by omega)
      have hk := hJ.k (k := k) (by omega)
      have go : ∀ (v : Int) (s1 : Mem), (0 ≤ v ∧ v ≤ 2) → s1 = m_upd s 14 k v → x8_findLifts_L2 Q (k + 1) s1 := by
        intro v s1 hv e1
        refine ih (k + 1) s1 (by omega) (by omega) (by omega) (hf.trans ⟨fun c h1 h2 h3 h4 => by rw [e1, m_upd_ne _ _ _ _ _ h4], fun j hj => by rw [e1, m_upd_ne _ _ _ _ _ (by omega)]⟩) (fun j hj0 hj1 => ?_)
        rw [e1, m_upd_at]
        by_cases hjk : j = k
        · rw [if_pos ⟨rfl, hjk⟩]
          exact hv
        · rw [if_neg (by omega)]
          exact hw j hj0 (by omega)
      apply x8_findLifts_s2
      refine ⟨by rw [e0]; omega, fun c => absurd c (by rw [e0]; omega), fun c => ⟨by omega, by rw [hf.1 5 (by omega) (by omega) (by omega) (by omega)]; omega, fun c1 => ⟨by omega, fun s1 e1 => go 1 s1 (by omega) e1⟩, fun c1 => ⟨by omega, fun s2 e2 => go 2 s2 (by omega) e2⟩⟩⟩
  exact first _ 0 τ (by omega) (by omega) rfl (FrB.refl τ) (fun j h0 h1 => absurd h1 (by omega))
