theorem s_shlI {k : Int} (hk : 0 ≤ k ∧ k < 6) : (0 ≤ shlI 1 k ∧ shlI 1 k < 64) ∧ ∀ j, 0 ≤ j → q_bit (shlI 1 k) j = decide (j = k) := by
  obtain ⟨b, rfl⟩ : ∃ a : Nat, k = a := ⟨k.toNat, by omega⟩
  rw [s_shl b (by omega)]
  have h3 : 2 ^ b < 2 ^ 6 := Nat.pow_lt_pow_right (by omega) (by omega)
  refine ⟨?_, fun j hj => ?_⟩
  · generalize 2 ^ b = c at h3 ⊢
    omega
  unfold q_bit
  simp only [Int.toNat_natCast]
  rw [Nat.testBit_two_pow]
  apply decide_eq_decide.mpr
  omega
theorem q_ph_congr {n ρ : Int} {d d' : Int → Int} (h : ∀ k, q_in n k → d k = d' k) {a : Int} (ha : q_in n a) : ∀ L : Nat, (L : Int) < n → q_ph n ρ d a L = q_ph n ρ d' a L
  | 0, _ => rfl
  | 1, _ => h a ha
  | L + 2, hL => by
    rw [q_ph, q_ph, q_ph_congr h ha (L + 1) (by omega), q_ph_congr h ha L (by omega), h _ (q_w_in ⟨by have := ha.1; omega, by have := ha.2; omega⟩)]
theorem q_det_congr {N : Nat} (hN : 3 ≤ N ∧ N ≤ 6) {ρ : Int} {d d' : Int → Int} (h : ∀ k, q_in N k → d k = d' k) : q_det N ρ d = q_det N ρ d' := by
  unfold q_det
  rw [h 0 ⟨by omega, by omega⟩, q_ph_congr (n := (N : Int)) h (a := 1) ⟨by omega, by omega⟩ (N - 1) (by omega), q_ph_congr (n := (N : Int)) h (a := 1) ⟨by omega, by omega⟩ (N - 2) (by omega), q_ph_congr (n := (N : Int)) h (a := 2) ⟨by omega, by omega⟩ (N - 2) (by omega)]
theorem L_liftedSet {o : Nat} {σ : Mem} (hn : 3 ≤ σ 1 0 ∧ σ 1 0 ≤ 6) (hu : ∀ k, q_in (σ 1 0) k → q_bd (σ (o + 1) k) 1995383808000) {Q : Int → Mem → Prop}
    (h : ∀ r : Int, (0 ≤ r ∧ r < 64) → (∀ k, 0 ≤ k → q_bit r k = decide (k < σ 1 0 ∧ 0 < σ (o + 1) k)) → Q r σ) : x3_liftedSet o σ Q := by
  apply x3_liftedSet_i
  have key : ∀ (m : Nat) (k r : Int), 0 ≤ k → k ≤ σ 1 0 → (σ 1 0 - k).toNat = m → (0 ≤ r ∧ r < 64) → (∀ j, 0 ≤ j → q_bit r j = decide (j < k ∧ 0 < σ (o + 1) j)) → x3_liftedSet_L4 o Q r k σ := by
    intro m
    induction m with
    | zero =>
      intro k r h0 h1 hm hr hb
      apply x3_liftedSet_s4
      refine ⟨by omega, fun c => h r hr (fun j hj => ?_), fun c => absurd c (by omega)⟩
      rw [hb j hj, show k = σ 1 0 by omega]
    | succ m ih =>
      intro k r h0 h1 hm hr hb
      have hbd := hu k ⟨h0, by omega⟩
      have h2 := hbd.1
      have h3 := hbd.2
      apply x3_liftedSet_s4
      refine ⟨by omega, fun c => absurd c (by omega), fun c => ⟨by omega, ⟨by constructor <;> omega, by constructor <;> omega⟩, fun c2 => ?_, fun c2 v1 e1 => ?_⟩⟩
      · refine ih (k + 1) r (by omega) (by omega) (by omega) hr (fun j hj => ?_)
        rw [hb j hj]
        apply decide_eq_decide.mpr
        by_cases e : j = k
        · subst e
          omega
        · omega
      · obtain ⟨p1, p2⟩ := s_orI (x := r) (k := k) (by omega) (by omega)
        subst e1
        refine ih (k + 1) _ (by omega) (by omega) (by omega) ⟨p1.1, p1.2.2 (by omega) (by omega)⟩ (fun j hj => ?_)
        rw [p2 j hj, hb j hj, ← Bool.decide_or]
        apply decide_eq_decide.mpr
        by_cases e : j = k
        · subst e
          omega
        · omega
  exact key _ 0 0 (by omega) (by omega) rfl (by omega) (fun j hj => by rw [s_zero]; symm; apply decide_eq_false; omega)
theorem L_aboveTurnsSet {o : Nat} {σ : Mem} (hn : 3 ≤ σ 1 0 ∧ σ 1 0 ≤ 6) (ht : ∀ k, q_in (σ 1 0) k → 0 ≤ σ 4 k ∧ σ 4 k ≤ 201) (hD : 0 < σ o 1 ∧ σ o 1 ≤ 2176782336) (hu : ∀ k, q_in (σ 1 0) k → q_bd (σ (o + 1) k) 1995383808000) {Q : Int → Mem → Prop}
    (h : ∀ r : Int, (0 ≤ r ∧ r < 64) → (∀ k, 0 ≤ k → q_bit r k = decide (k < σ 1 0 ∧ σ o 1 * σ 4 k < σ (o + 1) k)) → Q r σ) : x3_aboveTurnsSet o σ Q := by
  apply x3_aboveTurnsSet_i
  have key : ∀ (m : Nat) (k r : Int), 0 ≤ k → k ≤ σ 1 0 → (σ 1 0 - k).toNat = m → (0 ≤ r ∧ r < 64) → (∀ j, 0 ≤ j → q_bit r j = decide (j < k ∧ σ o 1 * σ 4 j < σ (o + 1) j)) → x3_aboveTurnsSet_L4 o Q r k σ := by
    intro m
    induction m with
    | zero =>
      intro k r h0 h1 hm hr hb
      apply x3_aboveTurnsSet_s4
      refine ⟨by omega, fun c => h r hr (fun j hj => ?_), fun c => absurd c (by omega)⟩
      rw [hb j hj, show k = σ 1 0 by omega]
    | succ m ih =>
      intro k r h0 h1 hm hr hb
      have hbd := hu k ⟨h0, by omega⟩
      have h2 := hbd.1
      have h3 := hbd.2
      have h4 := ht k ⟨h0, by omega⟩
      have h5 := Int.mul_nonneg (Int.le_of_lt hD.1) h4.1
      have h6 : σ o 1 * σ 4 k ≤ 2176782336 * 201 := Int.mul_le_mul hD.2 h4.2 h4.1 (by omega)
      apply x3_aboveTurnsSet_s4
      refine ⟨by omega, fun c => absurd c (by omega), fun c => ⟨by omega, by omega, by omega, ⟨by constructor <;> omega, by constructor <;> omega⟩, fun c2 => ?_, fun c2 v1 e1 => ?_⟩⟩
      · refine ih (k + 1) r (by omega) (by omega) (by omega) hr (fun j hj => ?_)
        rw [hb j hj]
        apply decide_eq_decide.mpr
        by_cases e : j = k
        · subst e
          omega
        · omega
      · obtain ⟨p1, p2⟩ := s_orI (x := r) (k := k) (by omega) (by omega)
        subst e1
        refine ih (k + 1) _ (by omega) (by omega) (by omega) ⟨p1.1, p1.2.2 (by omega) (by omega)⟩ (fun j hj => ?_)
        rw [p2 j hj, hb j hj, ← Bool.decide_or]
        apply decide_eq_decide.mpr
        by_cases e : j = k
        · subst e
          omega
        · omega
  exact key _ 0 0 (by omega) (by omega) rfl (by omega) (fun j hj => by rw [s_zero]; symm; apply decide_eq_false; omega)
/-- what settling leaves -/
def Settled (o : Nat) (σ : Mem) (a : Nat) (h t : Int) (σ' : Mem) : Prop := FrO o σ σ' ∧ q_IsG (σ 1 0) (σ 1 1) (σ 2) (σ 3) (σ 4) (σ a) (c_br σ) h (t * σ' o 1) (σ' (o + 1)) (σ' o 1) ∧ (0 < σ' o 1 ∧ σ' o 1 ≤ 2176782336) ∧ ∀ k, q_in (σ 1 0) k → q_bd (σ' (o + 1) k) 1995383808000
theorem L_settleHolding {o : Nat} (ho : LfA o) {a : Nat} (ha : shA[a]? = some (.inr (0, 6))) (hao : a < o ∨ o + 6 ≤ a) {σ : Mem} (hJ : JA σ a) {h t : Int} (hh : h = -1 ∨ q_in (σ 1 0) h) (ht : 0 ≤ t ∧ t ≤ 900)
    (hW : (∃ k, q_in (σ 1 0) k ∧ c_br σ k = 0 ∧ k ≠ h) ∨ (q_in (σ 1 0) h ∧ q_sum (σ a) (σ 1 0).toNat < t)) {Q : Int → Mem → Prop} (hQ : ∀ σ' : Mem, Settled o σ a h t σ' → Q 0 σ') : x3_settleHolding o a h t σ Q := by
  apply x3_settleHolding_i
  have hn := hJ.n
  have hr := hJ.r
  have hB := hJ.2.1
  obtain ⟨N, hN⟩ : ∃ N : Nat, σ 1 0 = (N : Int) := ⟨(σ 1 0).toNat, by omega⟩
  have hNb : 3 ≤ N ∧ N ≤ 6 := by omega
  have ok := hJ.1
  have hall := s_all hn
  -- the loop
  have loop : ∀ (m : Nat) (P q x7 : Int) (s : Mem) (fresh : Bool), 0 ≤ x7 → FrO o σ s → (0 ≤ P ∧ P < 64) → (0 ≤ q ∧ q < 64) → (∀ k, σ 1 0 ≤ k → q_bit q k = false) →
      q_inv (σ 1 0) (σ 1 1) (σ 2) (σ 3) (σ 4) (σ a) h t (fun k => decide (c_br σ k = 0 ∧ k ≠ h)) (q_bit P) (q_bit q) fresh → q_mu (σ 1 0) (q_bit P) (q_bit q) fresh ≤ m → x7 + m < 200 → x3_settleHolding_L37 o Q a h t P q x7 s := by
    intro m
    induction m with
    | zero =>
      intro P q x7 s fresh h7 hf hP hq hqn iv hmu hlt
      exfalso
      obtain ⟨i1, ⟨k, hk, hpq⟩, i3, i4⟩ := iv
      have hN2 : ((σ 1 0).toNat : Int) = σ 1 0 := by omega
      have b1 := q_cnt_bd (q_bit P) (σ 1 0).toNat
      have b2 := q_cnt_bd (q_bit q) (σ 1 0).toNat
      have m1 := Int.mul_nonneg b1.1 (show 0 ≤ σ 1 0 + 2 by omega)
      unfold q_mu at hmu
      have hz : q_cnt (fun _ => false) (σ 1 0).toNat = 0 := by
        have : ∀ N : Nat, q_cnt (fun _ => false) N = 0 := by
          intro N
          induction N with
          | zero => rfl
          | succ N ih =>
            show q_cnt (fun _ => false) N + _ = 0
            rw [ih]
            rfl
        exact this _
      by_cases hpk : q_bit P k = true
      · have := q_cnt_lt (p := fun _ => false) (q := q_bit P) (σ 1 0).toNat (fun j hj hx => by cases hx) (j := k) (by rw [hN2]; exact hk) hpk rfl
        rw [hz] at this
        have m2 := Int.mul_le_mul_of_nonneg_right (show (1 : Int) ≤ q_cnt (q_bit P) (σ 1 0).toNat by omega) (show 0 ≤ σ 1 0 + 2 by omega)
        split at hmu <;> omega
      · have hqk : q_bit q k = true := by
          rcases hpq with z | z
          · exact absurd z hpk
          · exact z
        have := q_cnt_lt (p := fun _ => false) (q := q_bit q) (σ 1 0).toNat (fun j hj hx => by cases hx) (j := k) (by rw [hN2]; exact hk) hqk rfl
        rw [hz] at this
        split at hmu <;> omega
    | succ m ih =>
      intro P q x7 s fresh h7 hf hP hq hqn iv hmu hlt
      have e1 := hf 1 (by rcases ho with rfl | rfl <;> omega)
      have e2 := hf 2 (by rcases ho with rfl | rfl <;> omega)
      have e3 := hf 3 (by rcases ho with rfl | rfl <;> omega)
      have e4 := hf 4 (by rcases ho with rfl | rfl <;> omega)
      have ea := hf a hao
      have hJs := hJ.congr e1 e2 e3 e4 ea
      -- from the system on
      have from72 : ∀ s11 : Mem, FrO o σ s11 → (∀ k, q_in (σ 1 0) k → s11 (o + 2) k = 2 * σ 1 1 + q_e (σ 2) (σ 3) (q_bit P) (q_bit q) k ∧ s11 (o + 3) k = q_c (σ 2) (σ 4) (σ a) (q_bit P) h t k) → x3_settleHolding_L72 o Q a h t P q x7 s11 := by
        intro s11 hf11 hsys
        apply x3_settleHolding_s72
        have f1 := hf11 1 (by rcases ho with rfl | rfl <;> omega)
        show x3_fillArcs o (s11 1 0) (s11 1 1) s11 _
        rw [f1, hN]
        refine L_fillArcs ho hNb hr (fun s14 hf14 hA => ?_)
        have g1 : s14 1 = σ 1 := by rw [hf14 1 (by rcases ho with rfl | rfl <;> omega) (by rcases ho with rfl | rfl <;> omega), f1]
        show x3_solve o (s14 1 0) (s14 1 1) s14 _
        rw [g1, hN]
        rw [← hf14 (o + 2) (by omega) (by omega)] at hA
        refine L_solve ho hNb hr hA (fun s15 hf15 hdet hS => ?_)
        have k1 : s15 1 = σ 1 := by rw [hf15 1 (by rcases ho with rfl | rfl <;> omega) (by rcases ho with rfl | rfl <;> omega), g1]
        have fr15 : FrO o σ s15 := fun c hc => by
          rw [hf15 c (by omega) (by omega), hf14 c (by omega) (by omega)]
          exact hf11 c hc
        have k4 := fr15 4 (by rcases ho with rfl | rfl <;> omega)
        have d14 : s14 (o + 2) = s11 (o + 2) := hf14 (o + 2) (by omega) (by omega)
        have b14 : s14 (o + 3) = s11 (o + 3) := hf14 (o + 3) (by omega) (by omega)
        rw [d14] at hdet hS
        rw [b14] at hS
        rw [← hN] at hS
        have hd : ∀ k, q_in N k → s11 (o + 2) k = 2 * σ 1 1 + q_e (σ 2) (σ 3) (q_bit P) (q_bit q) k := fun k hk => (hsys k (by rw [hN]; exact hk)).1
        have hb : ∀ k, q_in N k → s11 (o + 3) k = q_c (σ 2) (σ 4) (σ a) (q_bit P) h t k := fun k hk => (hsys k (by rw [hN]; exact hk)).2
        have he : ∀ k, q_in N k → 0 ≤ q_e (σ 2) (σ 3) (q_bit P) (q_bit q) k ∧ q_e (σ 2) (σ 3) (q_bit P) (q_bit q) k ≤ 18 := fun k hk => by
          have := hJ.k (k := k) (by rw [hN]; exact hk)
          unfold q_e
          split <;> split <;> omega
        obtain ⟨k0, hk0, h0⟩ := iv.2.1
        have hpos : 0 < q_det N (σ 1 1) (s11 (o + 2)) := by
          rw [q_det_congr hNb (d' := fun k => 2 * σ 1 1 + q_e (σ 2) (σ 3) (q_bit P) (q_bit q) k) hd]
          exact q_det_pos hNb hr he ⟨k0, by rw [← hN]; exact hk0, q_e_pos ok hk0 h0⟩
        have hd36 : ∀ k, q_in N k → 2 * σ 1 1 ≤ s11 (o + 2) k ∧ s11 (o + 2) k ≤ 36 := fun k hk => by
          have := he k hk
          rw [hd k hk]
          omega
        have hdle : q_det N (σ 1 1) (s11 (o + 2)) ≤ 2176782336 := q_det_le hNb hr hd36
        have hbb : ∀ k, q_in N k → q_bd (s11 (o + 3) k) 3000 := fun k hk => by
          have hk' := hJ.k (k := k) (by rw [hN]; exact hk)
          rw [hb k hk]
          have m1 := Int.mul_nonneg (show 0 ≤ σ 2 k by omega) hk'.2.2.1.1
          have m2 : σ 2 k * σ 4 k ≤ 9 * 201 := Int.mul_le_mul hk'.1.2 hk'.2.2.1.2 hk'.2.2.1.1 (by omega)
          unfold q_c
          constructor <;> (split <;> split <;> omega)
        have hub : ∀ k, q_in (σ 1 0) k → q_bd (s15 (o + 1) k) 1995383808000 := fun k hk => by
          rw [hS k hk]
          exact q_S_le hNb hr hd36 hbb k (by rw [← hN]; exact hk)
        have hlin : q_Lin (σ 1 0) (σ 1 1) (σ 2) (σ 3) (σ 4) (σ a) (q_bit P) (q_bit q) h t (s15 (o + 1)) (s15 o 1) := by
          rw [hdet]
          have ok2 := ok
          rw [hN] at ok2 ⊢
          exact q_Lin_of ok2 hd hb ⟨k0, by rw [← hN]; exact hk0, h0⟩ (fun k hk => hS k (by rw [hN]; exact hk)) rfl hpos
        have hD15 : 0 < s15 o 1 ∧ s15 o 1 ≤ 2176782336 := by rw [hdet]; exact ⟨hpos, hdle⟩
        have tu15 : ∀ k, q_in (s15 1 0) k → 0 ≤ s15 4 k ∧ s15 4 k ≤ 201 := fun k hk => by
          rw [k1] at hk
          rw [k4]
          exact (hJ.k hk).2.2.1
        refine L_liftedSet (by rw [k1]; exact hn) (by rw [k1]; exact hub) (fun r17 hr17 hb17 => ?_)
        refine L_aboveTurnsSet (by rw [k1]; exact hn) tu15 hD15 (by rw [k1]; exact hub) (fun r19 hr19 hb19 => ?_)
        rw [k1] at hb17 hb19
        rw [k4] at hb19
        have hq' : ∀ k, q_in (σ 1 0) k → (q_bit r17 k = true ↔ 0 < s15 (o + 1) k) := fun k hk => by
          have h1 := hk.1
          have h2 := hk.2
          rw [hb17 k h1, decide_eq_true_iff]
          omega
        have hWs : (∃ k, q_in (σ 1 0) k ∧ (fun k => decide (c_br σ k = 0 ∧ k ≠ h)) k = true) ∨ (q_in (σ 1 0) h ∧ q_sum (σ a) (σ 1 0).toNat < t) := by
          rcases hW with ⟨k, hk, hb, hne⟩ | z
          · exact Or.inl ⟨k, hk, decide_eq_true ⟨hb, hne⟩⟩
          · exact Or.inr z
        have h17n : ∀ k, σ 1 0 ≤ k → q_bit r17 k = false := fun k hk => by
          rw [hb17 k (by omega)]
          apply decide_eq_false
          omega
        obtain ⟨sa1, sa2⟩ := s_andI hP hr19
        refine ⟨by omega, fun c => ⟨s_andIn _ _, fun c2 => ?_, fun c2 v20 e20 => ?_⟩, fun c => ?_⟩
        · -- the end
          subst c
          refine hQ s15 ⟨fr15, q_done ok iv (fun k hk => decide_eq_true_iff) hlin hq' (fun k hk hpk => ?_), hD15, hub⟩
          refine Classical.byContradiction fun hgt => ?_
          have h1 := sa2 k
          rw [c2, s_zero, hpk, Bool.true_and, hb19 k hk.1] at h1
          have := of_decide_eq_false h1.symm
          have := hk.2
          omega
        · -- some let go
          subst c
          obtain ⟨sn1, sn2⟩ := s_andnI hP sa1
          rw [← e20] at sn1 sn2
          have hp' : ∀ k, q_in (σ 1 0) k → (q_bit v20 k = true ↔ q_bit P k = true ∧ s15 (o + 1) k ≤ s15 o 1 * σ 4 k) := fun k hk => by
            have h1 := hk.1
            have h2 := hk.2
            rw [sn2 k, sa2 k, hb19 k h1]
            cases q_bit P k
            · simp
            · simp only [Bool.true_and, Bool.not_eq_true', decide_eq_false_iff_not, true_and]
              omega
          have hne : ∃ k, q_in (σ 1 0) k ∧ q_bit P k = true ∧ s15 o 1 * σ 4 k < s15 (o + 1) k := by
            refine Classical.byContradiction fun hno => c2 ?_
            refine s_ext sa1 (by omega) (fun k hk => ?_)
            rw [s_zero, sa2 k, hb19 k hk.1]
            cases hpk : q_bit P k
            · rfl
            · rw [Bool.true_and]
              apply decide_eq_false
              intro ⟨z1, z2⟩
              exact hno ⟨k, ⟨hk.1, z1⟩, hpk, z2⟩
          obtain ⟨st1, st2⟩ := q_step2 ok iv hlin hq' hp' hne
          exact ih v20 r17 (x7 + 1) s15 true (by omega) fr15 sn1 hq hqn st1 (by omega) (by omega)
        · have hne : ∃ k, q_in (σ 1 0) k ∧ q_bit r17 k ≠ q_bit q k := by
            refine Classical.byContradiction fun hno => c ?_
            refine s_ext hr17 hq (fun k hk => ?_)
            by_cases hkn : k < σ 1 0
            · exact Classical.byContradiction fun z => hno ⟨k, ⟨hk.1, hkn⟩, z⟩
            · rw [h17n k (by omega), hqn k (by omega)]
          obtain ⟨st1, st2⟩ := q_step1 ok iv hWs hlin hq' hne
          exact ih P r17 (x7 + 1) s15 false (by omega) fr15 hP hr17 h17n st1 (by omega) (by omega)
      apply x3_settleHolding_s37
      refine ⟨by omega, fun c => absurd c (by omega), fun c => ?_⟩
      refine L_fillSystem ho ha hao hJs hP hq (fun s10 hf10 hv10 => ?_)
      rw [e1, e2, e3, e4, ea] at hv10
      have fr10 : FrO o σ s10 := fun c hc => by
        rw [hf10 c (by omega) (by omega)]
        exact hf c hc
      refine ⟨by rcases hh with z | z <;> (try have := z.1) <;> (try have := z.2) <;> omega, fun c3 => ?_, fun c3 => ?_⟩
      · refine from72 s10 fr10 (fun k hk => ⟨(hv10 k hk).1, ?_⟩)
        rw [(hv10 k hk).2]
        unfold q_c
        rw [c3, if_neg (show ¬ k = -1 by have := hk.1; omega), if_neg (show ¬ k = -1 by have := hk.1; omega)]
      · have hhi : q_in (σ 1 0) h := by
          rcases hh with z | z
          · exact absurd z c3
          · exact z
        have hh1 := hhi.1
        have hh2 := hhi.2
        refine ⟨by omega, by omega, by omega, fun s11 e11 => ?_⟩
        refine from72 s11 (fun c hc => ?_) (fun k hk => ?_)
        · rw [e11, m_upd_ne _ _ _ _ _ (by omega)]
          exact fr10 c hc
        · rw [e11, m_upd_at, m_upd_at, if_neg (by omega)]
          refine ⟨(hv10 k hk).1, ?_⟩
          by_cases hkh : k = h
          · subst hkh
            rw [if_pos ⟨rfl, rfl⟩, (hv10 k hk).2]
            unfold q_c
            rw [if_neg (show ¬ k = -1 by omega), if_pos rfl]
            omega
          · rw [if_neg (by omega), (hv10 k hk).2]
            unfold q_c
            rw [if_neg (show ¬ k = -1 by have := hk.1; omega), if_neg hkh]
  -- the start
  have start : ∀ (P : Int), (0 ≤ P ∧ P < 64) → (∀ k, 0 ≤ k → q_bit P k = decide (k < σ 1 0 ∧ c_br σ k = 0 ∧ k ≠ h)) → x3_settleHolding_L37 o Q a h t P (shlI 1 (σ 1 0) - 1) 0 σ := by
    intro P hP hPb
    refine loop 199 P (shlI 1 (σ 1 0) - 1) 0 σ true (by omega) (fun c _ => rfl) hP hall.1 (fun k hk => ?_) ⟨fun k hk hp => ?_, ⟨0, ⟨by omega, by omega⟩, Or.inr ?_⟩, Or.inl (fun k hk hw => ?_), Or.inl rfl⟩ ?_ (by omega)
    · rw [hall.2 k (by omega)]
      apply decide_eq_false
      omega
    · rw [hPb k hk.1] at hp
      exact decide_eq_true (of_decide_eq_true hp).2
    · rw [hall.2 0 (by omega)]
      apply decide_eq_true
      omega
    · rw [hPb k hk.1]
      exact decide_eq_true ⟨hk.2, of_decide_eq_true hw⟩
    · unfold q_mu
      rw [if_pos rfl]
      have b := q_cnt_bd (q_bit P) (σ 1 0).toNat
      have m2 : q_cnt (q_bit P) (σ 1 0).toNat * (σ 1 0 + 2) ≤ 6 * 8 := Int.mul_le_mul (by omega) (by omega) (by omega) (by omega)
      omega
  show x2_allSet σ _
  refine L_allSet (fun v3 e3 => ?_)
  obtain ⟨sn1, sn2⟩ := s_andnI hall.1 hB
  rw [← e3] at sn1 sn2
  have h3 : ∀ k, 0 ≤ k → q_bit v3 k = decide (k < σ 1 0 ∧ c_br σ k = 0) := fun k hk => by
    rw [sn2 k, hall.2 k hk]
    unfold c_br
    cases q_bit (σ 1 2) k <;> simp
  refine ⟨by rcases hh with z | z <;> (try have := z.1) <;> (try have := z.2) <;> omega, fun c => ?_, fun c v6 e6 => ?_⟩
  · refine L_allSet (start v3 sn1 (fun k hk => ?_))
    rw [h3 k hk]
    apply decide_eq_decide.mpr
    constructor
    · intro ⟨z1, z2⟩
      exact ⟨z1, z2, by omega⟩
    · intro ⟨z1, z2, z3⟩
      exact ⟨z1, z2⟩
  · have hhi : q_in (σ 1 0) h := by
      rcases hh with z | z
      · exact absurd z c
      · exact z
    have hh1 := hhi.1
    have hh2 := hhi.2
    obtain ⟨sh1, sh2⟩ := s_shlI (k := h) (by omega)
    obtain ⟨sm1, sm2⟩ := s_andnI sn1 sh1
    rw [← e6] at sm1 sm2
    refine L_allSet (start v6 sm1 (fun k hk => ?_))
    rw [sm2 k, h3 k hk, sh2 k hk, ← decide_not, ← Bool.decide_and]
    apply decide_eq_decide.mpr
    constructor
    · intro ⟨⟨z1, z2⟩, z3⟩
      exact ⟨z1, z2, z3⟩
    · intro ⟨z1, z2, z3⟩
      exact ⟨⟨z1, z2⟩, z3⟩
theorem L_settle {o : Nat} (ho : LfA o) {a : Nat} (ha : shA[a]? = some (.inr (0, 6))) (hao : a < o ∨ o + 6 ≤ a) {σ : Mem} (hJ : JA σ a) {Q : Int → Mem → Prop} (hQ : ∀ σ' : Mem, Settled o σ a (-1) 0 σ' → Q 0 σ') : x3_settle o a σ Q := by
  show x3_settleHolding o a (-1) 0 σ _
  refine L_settleHolding ho ha hao hJ (Or.inl rfl) (by omega) ?_ hQ
  obtain ⟨k, hk, hb⟩ := hJ.1.2.2.2
  exact Or.inl ⟨k, hk, hb, by have := hk.1; omega⟩
