/-! ===== the leak of a joint, as a fraction chosen once for all ===== -/
def q_lf (pd u : Int → Int) (N : Nat) : Int := q_press (pd (q_amin (fun k => q_press (pd k) (u k)) N)) (u (q_amin (fun k => q_press (pd k) (u k)) N))
theorem q_lf_congr {pd u pd' u' : Int → Int} {N : Nat} (hN : 0 < N) (h : ∀ k, q_in N k → pd k = pd' k ∧ u k = u' k) : q_lf pd u N = q_lf pd' u' N := by
  have e : q_amin (fun k => q_press (pd k) (u k)) N = q_amin (fun k => q_press (pd' k) (u' k)) N := q_amin_congr N (fun j k hj hk => by
    show q_press (pd j) (u j) < q_press (pd k) (u k) ↔ q_press (pd' j) (u' j) < q_press (pd' k) (u' k)
    rw [(h j hj).1, (h j hj).2, (h k hk).1, (h k hk).2])
  unfold q_lf
  rw [e]
  have := h _ (q_amin_in (fun k => q_press (pd' k) (u' k)) N hN)
  rw [this.1, this.2]
theorem q_lf_like {pd u v : Int → Int} {D E : Int} {N : Nat} (hN : 0 < N) (hD : 0 < D) (hE : 0 < E) (h : ∀ k, q_in N k → E * u k = D * v k) : E * q_lf pd u N = D * q_lf pd v N := by
  have hp : ∀ k, q_in N k → E * q_press (pd k) (u k) = D * q_press (pd k) (v k) := fun k hk => by
    rw [← q_press_mul hE, ← q_press_mul hD, h k hk]
  have e : q_amin (fun k => q_press (pd k) (u k)) N = q_amin (fun k => q_press (pd k) (v k)) N := q_amin_congr N (fun j k hj hk => by
    show q_press (pd j) (u j) < q_press (pd k) (u k) ↔ q_press (pd j) (v j) < q_press (pd k) (v k)
    have a := hp j hj
    have b := hp k hk
    constructor
    · intro q
      have := Int.mul_lt_mul_of_pos_left q hE
      rw [a, b] at this
      exact Int.lt_of_mul_lt_mul_left this (Int.le_of_lt hD)
    · intro q
      have := Int.mul_lt_mul_of_pos_left q hD
      rw [← a, ← b] at this
      exact Int.lt_of_mul_lt_mul_left this (Int.le_of_lt hE))
  unfold q_lf
  rw [e]
  exact hp _ (q_amin_in _ N hN)
noncomputable def q_lkF (j : JT) (tu : Int → Int) : Int × Int := @dite (Int × Int) (∃ w : (Int → Int) × Int, q_isL j tu w.1 w.2) (Classical.propDecidable _) (fun h => (q_lf j.2.2.2.1 h.choose.1 j.1.toNat, h.choose.2)) (fun _ => (0, 1))
theorem q_lkF_of {j : JT} {tu : Int → Int} (ok : q_okJ j tu) {u : Int → Int} {D : Int} (hu : q_isL j tu u D) : 0 < (q_lkF j tu).2 ∧ D * (q_lkF j tu).1 = (q_lkF j tu).2 * q_lf j.2.2.2.1 u j.1.toNat := by
  have hex : ∃ w : (Int → Int) × Int, q_isL j tu w.1 w.2 := ⟨(u, D), hu⟩
  unfold q_lkF
  rw [dif_pos hex]
  have hc := hex.choose_spec
  have hn := ok.1
  refine ⟨hc.1, ?_⟩
  exact q_lf_like (by omega) hc.1 hu.1 (fun k hk => q_uniq ok hc hu k ⟨hk.1, by have := hk.2; omega⟩)
/-- the joint with loads ld -/
def q_jl (j : JT) (ld : Int → Int) : JT := (j.1, j.2.1, j.2.2.1, j.2.2.2.1, ld, j.2.2.2.2.2)
def q_low (F : Int → Int × Int) : Nat → Int
  | 0 => -1
  | N + 1 => if (F N).1 * (F (q_low F N)).2 < (F (q_low F N)).1 * (F N).2 then (N : Int) else q_low F N
theorem q_low_in (F : Int → Int × Int) : ∀ N : Nat, q_low F N = -1 ∨ q_in N (q_low F N)
  | 0 => Or.inl rfl
  | N + 1 => by
    have ih := q_low_in F N
    unfold q_low
    by_cases w : (F N).1 * (F (q_low F N)).2 < (F (q_low F N)).1 * (F N).2
    · rw [if_pos w]
      exact Or.inr ⟨Int.natCast_nonneg N, by omega⟩
    · rw [if_neg w]
      rcases ih with q | q
      · exact Or.inl q
      · exact Or.inr ⟨q.1, by have := q.2; omega⟩
noncomputable def q_Fw (j : JT) (tu : Int → Int) (τ7 : Int → Int) (p : Int) : Int × Int := q_lkF (q_jl j (if 0 ≤ p then q_nrm j.1 (fun k => τ7 (6 * p + k)) else j.2.2.2.2.1)) tu
theorem L_leakLike {σ τ : Mem} (R : Rel σ τ) {p : Int} (hp : p = -1 ∨ (0 ≤ p ∧ p < σ 23 0)) {s : Mem} (hA : Settled 7 σ (c_ld p) (-1) 0 s) : 0 < (q_Fw (jA σ 5) (tA σ) (τ 7) p).2 ∧ s 7 1 * (q_Fw (jA σ 5) (tA σ) (τ 7) p).1 = (q_Fw (jA σ 5) (tA σ) (τ 7) p).2 * rA 7 s (q_amin (rA 7 s) (s 1 0).toNat) := by
  obtain ⟨hJ, hl, hsh, hr⟩ := R.JAld hp
  have hn := R.n
  have f := hA.1
  have e1 := f 1 (by omega)
  have e3 := f 3 (by omega)
  have ej : q_jl (jA σ 5) (if 0 ≤ p then q_nrm (jA σ 5).1 (fun k => τ 7 (6 * p + k)) else (jA σ 5).2.2.2.2.1) = jA σ (c_ld p) := by
    have : (if 0 ≤ p then q_nrm (jA σ 5).1 (fun k => τ 7 (6 * p + k)) else (jA σ 5).2.2.2.2.1) = q_nrm (σ 1 0) (σ (c_ld p)) := by
      rcases hp with q | q
      · rw [if_neg (by omega)]
        unfold c_ld
        rw [if_pos q]
        rfl
      · rw [if_pos q.1]
        refine q_nrm_congr (fun k hk => ?_)
        have hk2 : q_in (σ 1 0) k := hk
        rw [(hl k hk2).1]
        unfold q_ld
        rw [if_pos q.1]
    rw [this]
    rfl
  unfold q_Fw
  rw [ej]
  have key := q_lkF_of hJ.okJ hA.isL
  have e : q_lf (jA σ (c_ld p)).2.2.2.1 (s 8) (jA σ (c_ld p)).1.toNat = rA 7 s (q_amin (rA 7 s) (s 1 0).toNat) := by
    show q_lf (q_nrm (σ 1 0) (σ 3)) (s 8) (σ 1 0).toNat = _
    rw [q_lf_congr (pd' := s 3) (u' := s 8) (by omega) (fun k hk => ⟨by rw [e3]; exact q_nrm_in ⟨hk.1, by have := hk.2; omega⟩, rfl⟩), e1]
    rfl
  rw [← e]
  exact key
theorem B_leakLike {τ : Mem} (ok : OkB τ) {p : Int} (hp : p = -1 ∨ 0 ≤ p) {v u : Mem} (hv : v 0 0 = τ 0 0 ∧ v 0 1 = τ 0 1 ∧ v 1 = τ 1 ∧ v 2 = τ 2 ∧ v 3 = τ 3 ∧ v 5 = τ 5 ∧ ∀ k, q_in (τ 0 0) k → v 4 k = q_ld τ p k) (jv : JB v) (hu : LiftsB v u) : 0 < (q_Fw (jB τ) (tB τ) (τ 7) p).2 ∧ u 0 15 * (q_Fw (jB τ) (tB τ) (τ 7) p).1 = (q_Fw (jB τ) (tB τ) (τ 7) p).2 * q_up u := by
  obtain ⟨v0, v1, w1, w2, w3, w5, w4⟩ := hv
  have hn := ok.1.n
  have ej : q_jl (jB τ) (if 0 ≤ p then q_nrm (jB τ).1 (fun k => τ 7 (6 * p + k)) else (jB τ).2.2.2.2.1) = jB v := by
    have : (if 0 ≤ p then q_nrm (jB τ).1 (fun k => τ 7 (6 * p + k)) else (jB τ).2.2.2.2.1) = q_nrm (v 0 0) (v 4) := by
      rw [v0]
      rcases hp with q | q
      · rw [if_neg (by omega)]
        refine q_nrm_congr (fun k hk => ?_)
        rw [w4 k hk]
        unfold q_ld
        rw [if_neg (by omega)]
      · rw [if_pos q]
        refine q_nrm_congr (fun k hk => ?_)
        have hk2 : q_in (τ 0 0) k := hk
        rw [w4 k hk2]
        unfold q_ld
        rw [if_pos q]
    rw [this]
    unfold q_jl jB
    rw [v0, v1, w1, w2, w5]
  have et : tB τ = tB v := by
    unfold tB
    rw [v0, w3]
  unfold q_Fw
  rw [ej, et]
  have key := q_lkF_of jv.okJ hu.isL
  have u0 := hu.1.2 0 (by omega)
  have e : q_lf (jB v).2.2.2.1 (u 12) (jB v).1.toNat = q_up u := by
    show q_lf (q_nrm (v 0 0) (v 2)) (u 12) (v 0 0).toNat = _
    rw [q_lf_congr (pd' := u 2) (u' := u 12) (by omega) (fun k hk => ⟨by rw [hu.1.1 2 (by omega) (by omega) (by omega) (by omega)]; exact q_nrm_in ⟨hk.1, by have := hk.2; omega⟩, rfl⟩), ← u0]
    rfl
  rw [← e]
  exact key
