theorem q_nrm_row {n : Int} {f : Int → Int} (h : ∀ k, q_in n k → q_in n (f k)) : ∀ k, q_in n k → q_in n (q_nrm n f k) := fun k hk => by
  rw [q_nrm_in hk]
  exact h k hk
theorem q_sum_tu {N : Nat} {tu : Int → Int} (hN : N ≤ 6) (h : ∀ k, q_in N k → 0 ≤ tu k ∧ tu k ≤ 200) : 0 ≤ q_sum tu N ∧ q_sum tu N ≤ 1200 := by
  have a := q_sum_le (f := fun _ => 0) (g := tu) N (fun k hk => (h k hk).1)
  have b := q_sum_le (f := tu) (g := fun _ => 200) N (fun k hk => (h k hk).2)
  rw [q_sum_const] at a b
  omega
theorem q_pass_bd {j : JT} {row tu : Int → Int} {t : Int} (hn : 3 ≤ j.1 ∧ j.1 ≤ 6) (hrow : ∀ k, q_in j.1 k → q_in j.1 (row k)) (ht : ∀ k, q_in j.1 k → 0 ≤ tu k ∧ tu k ≤ 200) : (q_pass j row t j.1.toNat 0 tu 0).1 = -1 ∨ (0 ≤ (q_pass j row t j.1.toNat 0 tu 0).1 ∧ (q_pass j row t j.1.toNat 0 tu 0).1 ≤ 1200 ∧ q_sum (q_pass j row t j.1.toNat 0 tu 0).2 j.1.toNat = q_sum tu j.1.toNat + (q_pass j row t j.1.toNat 0 tu 0).1) := by
  have en : ((j.1.toNat : Nat) : Int) = j.1 := by omega
  have a := q_pass_ok (t := t) (by omega) hrow j.1.toNat 0 tu 0 (by omega) (by omega) (by omega) ht
  rcases a.2 with q | q
  · exact Or.inl q
  · have s1 := q_sum_tu (N := j.1.toNat) (tu := tu) (by omega) (by rw [en]; exact ht)
    have s2 := q_sum_tu (N := j.1.toNat) (tu := (q_pass j row t j.1.toNat 0 tu 0).2) (by omega) (by rw [en]; exact a.1)
    exact Or.inr ⟨by omega, by omega, by omega⟩
/-- every whole bolt pulls t or more -/
def q_all (j : JT) (tu : Int → Int) (t : Int) : Prop := ∃ u D, q_isL j tu u D ∧ ∀ k, q_in j.1 k → j.2.2.2.2.2 k = 0 → t * D ≤ q_pull (j.2.2.1 k) (tu k * D - u k)
theorem q_all_iff {j : JT} {tu : Int → Int} (ok : q_okJ j tu) {t : Int} {u : Int → Int} {D : Int} (hu : q_isL j tu u D) : q_all j tu t ↔ ∀ k, q_in j.1 k → j.2.2.2.2.2 k = 0 → t * D ≤ q_pull (j.2.2.1 k) (tu k * D - u k) := by
  refine ⟨fun ⟨v, E, hv, hq⟩ k hk hb => ?_, fun q => ⟨u, D, hu, q⟩⟩
  have e := q_uniq ok hu hv k hk
  have hD := hu.1
  have hE := hv.1
  have hq := hq k hk hb
  have key : E * q_pull (j.2.2.1 k) (tu k * D - u k) = D * q_pull (j.2.2.1 k) (tu k * E - v k) := by
    rw [← q_pull_mul hE, ← q_pull_mul hD]
    congr 1
    rw [Int.mul_sub, Int.mul_sub, e]
    grind
  rw [Int.mul_comm t D]
  rw [Int.mul_comm t E] at hq
  exact (q_likele hD hE key).mpr hq
theorem Settled.isL {o : Nat} {σ s : Mem} {a : Nat} (h : Settled o σ a (-1) 0 s) : q_isL (jA σ a) (tA σ) (s (o + 1)) (s o 1) := by
  have := h.2.1
  rw [Int.zero_mul] at this
  exact q_IsG_congr (fun k hk => ⟨(q_nrm_in hk).symm, (q_nrm_in hk).symm, (q_nrm_in hk).symm, (q_nrm_in hk).symm, (q_nrm_in hk).symm⟩) this
theorem Settled.pull {o : Nat} (ho : LfA o) {σ s : Mem} {a : Nat} (h : Settled o σ a (-1) 0 s) {k : Int} (hk : q_in (σ 1 0) k) (hb : c_br σ k = 0) : pA o s k = q_pull ((jA σ a).2.2.1 k) (tA σ k * s o 1 - s (o + 1) k) := by
  have f := h.1
  have e1 := f 1 (by rcases ho with rfl | rfl <;> omega)
  have e2 := f 2 (by rcases ho with rfl | rfl <;> omega)
  have e4 := f 4 (by rcases ho with rfl | rfl <;> omega)
  unfold pA q_pl
  rw [c_br_congr e1, if_pos hb, e2, e4, show (jA σ a).2.2.1 k = σ 2 k from q_nrm_in hk, show tA σ k = σ 4 k from q_nrm_in hk]
theorem L_allHold {σ : Mem} (ok : OkA σ) {t : Int} (ht : 1 ≤ t ∧ t ≤ 900) {Q : Int → Mem → Prop} (h1 : q_all (jA σ 5) (tA σ) t → ∀ s : Mem, FrO 14 σ s → Q 1 s) (h0 : ¬ q_all (jA σ 5) (tA σ) t → ∀ s : Mem, FrO 14 σ s → Q 0 s) : x1_allHold t σ Q := by
  apply x1_allHold_i
  refine L_settle (Or.inr rfl) rfl (Or.inl (by omega)) ok.1 (fun s hS => ?_)
  have hn := ok.1.n
  have f := hS.1
  have e1 := f 1 (by omega)
  have hrd := hS.rdy (Or.inr rfl) ok.1
  have hD := hrd.2.2.2.1
  have iff := q_all_iff ok.okJ (t := t) hS.isL
  have m1 := Int.mul_nonneg (Int.le_of_lt hD.1) (show 0 ≤ t by omega)
  have m2 : s 14 1 * t ≤ 2176782336 * 900 := Int.mul_le_mul hD.2 ht.2 (by omega) (by omega)
  have ebr : ∀ k, q_in (σ 1 0) k → (jA σ 5).2.2.2.2.2 k = c_br σ k := fun k hk => q_nrm_in hk
  have key : ∀ (m : Nat) (k : Int), 0 ≤ k → k ≤ σ 1 0 → (σ 1 0 - k).toNat = m → (∀ i, 0 ≤ i → i < k → c_br σ i = 0 → t * s 14 1 ≤ q_pull ((jA σ 5).2.2.1 i) (tA σ i * s 14 1 - s 15 i)) → x1_allHold_L14 Q t k s := by
    intro m
    induction m with
    | zero =>
      intro k k0 k1 hm hall
      apply x1_allHold_s14
      refine ⟨by rw [e1]; omega, fun _ => ⟨by omega, h1 (iff.mpr (fun i hi hb => ?_)) s f⟩, fun c => absurd c (by rw [e1]; omega)⟩
      have hi2 : q_in (σ 1 0) i := hi
      have i2 := hi2.2
      exact hall i hi.1 (by omega) (by rw [← ebr i hi]; exact hb)
    | succ m ih =>
      intro k k0 k1 hm hall
      have hk : q_in (σ 1 0) k := ⟨k0, by omega⟩
      have hks : q_in (s 1 0) k := by rw [e1]; exact hk
      have bp := hrd.p hks
      apply x1_allHold_s14
      refine ⟨by rw [e1]; omega, fun c => absurd c (by rw [e1]; omega), fun _ => L_isBroken hrd.2.1 (by omega) ?_⟩
      rw [c_br_congr e1]
      refine ⟨by unfold c_br; split <;> omega, fun q => ih (k + 1) (by omega) (by omega) (by omega) (fun i i0 i1 hb => ?_), fun q => L_pullUpper hrd hks ⟨by omega, ⟨by constructor <;> omega, by constructor <;> omega⟩, fun w => ih (k + 1) (by omega) (by omega) (by omega) (fun i i0 i1 hb => ?_), fun w => ⟨by omega, h0 (fun z => ?_) s f⟩⟩⟩
      · by_cases v : i = k
        · exact absurd (by rw [← v]; exact hb) q
        · exact hall i i0 (by omega) hb
      · by_cases v : i = k
        · rw [v, ← hS.pull (Or.inr rfl) hk q, Int.mul_comm]
          exact w
        · exact hall i i0 (by omega) hb
      · have := iff.mp z k hk (by rw [ebr k hk]; exact q)
        rw [← hS.pull (Or.inr rfl) hk q, Int.mul_comm] at this
        omega
  exact key _ 0 (by omega) (by omega) rfl (fun i i0 i1 => absurd i1 (by omega))
