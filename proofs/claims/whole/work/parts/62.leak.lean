/-! ===== leak, worst ===== -/
def c_ld (p : Int) : Nat := if p = -1 then 5 else 25 + p.toNat
theorem Rel.JAld {σ τ : Mem} (R : Rel σ τ) {p : Int} (hp : p = -1 ∨ (0 ≤ p ∧ p < σ 23 0)) : JA σ (c_ld p) ∧ (∀ k, q_in (σ 1 0) k → σ (c_ld p) k = q_ld τ p k ∧ 0 ≤ q_ld τ p k ∧ q_ld τ p k ≤ 200) ∧ shA[c_ld p]? = some (.inr (0, 6)) ∧ (c_ld p < 7 ∨ 13 ≤ c_ld p) := by
  obtain ⟨c0, c1, c2⟩ := R.2.1
  have hJ := R.1.2.2.2.1
  have hn := R.n
  have key : ∀ k, q_in (σ 1 0) k → σ (c_ld p) k = q_ld τ p k ∧ 0 ≤ q_ld τ p k ∧ q_ld τ p k ≤ 200 := fun k hk => by
    unfold c_ld q_ld
    rcases hp with q | q
    · rw [if_pos q, if_neg (by omega), (R.1.2.2.1 k hk).2.2.2.1]
      have := (hJ.k hk).2.2.2
      rw [(R.1.2.2.1 k hk).2.2.2.1] at this
      exact ⟨rfl, this⟩
    · rw [if_neg (by omega), if_pos q.1]
      have := c2 p k q.1 q.2 hk.1 (by have := hk.2; omega)
      rw [this.1] at this
      exact ⟨by have := c2 p k q.1 q.2 hk.1 (by have := hk.2; omega); exact this.1, this.2⟩
  refine ⟨?_, key, ?_, ?_⟩
  · obtain ⟨⟨n1, n2, n3, n4⟩, n5⟩ := hJ
    refine ⟨⟨n1, n2, fun k hk => ?_, n4⟩, n5⟩
    have a := n3 k hk
    have b := key k hk
    exact ⟨a.1, a.2.1, a.2.2.1, by omega, a.2.2.2.2⟩
  · unfold c_ld
    rcases hp with q | q
    · rw [if_pos q]
      rfl
    · rw [if_neg (by omega)]
      exact s_shA25 (by omega)
  · unfold c_ld
    split <;> omega
theorem L_loadsOf {σ : Mem} {p : Int} (hp : p = -1 ∨ (0 ≤ p ∧ p < σ 23 0)) (h6 : 0 ≤ σ 23 0 ∧ σ 23 0 ≤ 6) {Q : Int → Mem → Prop} (h : Q (c_ld p : Nat) σ) : x0_loadsOf p σ Q := by
  unfold c_ld at h
  refine L_caseHas (by omega) h6 (fun a => ⟨by omega, fun c => absurd c (by omega), fun _ => ⟨by omega, ?_⟩⟩) (fun a => ⟨by omega, fun _ => ?_, fun c => absurd rfl c⟩)
  · rw [if_neg (by omega)] at h
    exact h
  · rw [if_pos (by omega)] at h
    exact h
theorem tie_ld {σ τ : Mem} (R : Rel σ τ) {p : Int} (hp : p = -1 ∨ (0 ≤ p ∧ p < σ 23 0)) {s v u : Mem} (hA : Settled 7 σ (c_ld p) (-1) 0 s) (hv : v 0 0 = τ 0 0 ∧ v 0 1 = τ 0 1 ∧ v 1 = τ 1 ∧ v 2 = τ 2 ∧ v 3 = τ 3 ∧ v 5 = τ 5 ∧ ∀ k, q_in (τ 0 0) k → v 4 k = q_ld τ p k) (jv : JB v) (hu : LiftsB v u) : Tie 7 s u := by
  obtain ⟨v0, v1, w1, w2, w3, w5, w4⟩ := hv
  obtain ⟨e0, e1, es, -⟩ := R.1
  have hl := R.JAld hp
  refine Tie.of (Or.inl rfl) hl.1 (by rw [v0]; exact e0) (by rw [v1]; exact e1) (fun k hk => ?_) hA hu jv
  have a := es k hk
  rw [w1, w2, w3, w5, w4 k (by rw [← e0]; exact hk)]
  exact ⟨a.1, a.2.1, a.2.2.1, (hl.2.1 k hk).1, a.2.2.2.2⟩
theorem Tie.amin {s u : Mem} (T : Tie 7 s u) : q_amin (rA 7 s) (s 1 0).toNat = q_amin (rB u) (u 0 0).toNat := by
  rw [← T.1]
  have hn := T.2.2.1.1
  refine q_amin_congr _ (fun j k hj hk => ?_)
  have hj2 : q_in (s 1 0) j := ⟨hj.1, by have := hj.2; omega⟩
  have hk2 : q_in (s 1 0) k := ⟨hk.1, by have := hk.2; omega⟩
  have a := T.r hj2
  have b := T.r hk2
  have hD := T.2.2.1.2.2.2.1.1
  have hE := T.2.2.2.1.2.2.1.1
  constructor
  · intro q
    have := Int.mul_lt_mul_of_pos_left q hE
    rw [a, b] at this
    exact Int.lt_of_mul_lt_mul_left this (Int.le_of_lt hD)
  · intro q
    have := Int.mul_lt_mul_of_pos_left q hD
    rw [← a, ← b] at this
    exact Int.lt_of_mul_lt_mul_left this (Int.le_of_lt hE)
theorem Tie.at {s u : Mem} (T : Tie 7 s u) : q_in (s 1 0) (q_amin (rB u) (u 0 0).toNat) := by
  have hn := T.2.2.1.1
  have := q_amin_in (rB u) (u 0 0).toNat (by rw [← T.1]; omega)
  have a := this.1
  have b := this.2
  rw [← T.1] at a b ⊢
  exact ⟨a, by omega⟩
theorem M_leak {σ τ : Mem} (R : Rel σ τ) {p1 p2 : Int} (i1 : InI p1) (i2 : InI p2) : Ans (x7_leak p1 p2 σ) (x8_leak p1 p2 τ) := by
  unfold Ans
  apply x7_leak_i
  have hn := R.n
  have e0 : σ 1 0 = τ 0 0 := R.1.1
  obtain ⟨c0, c1, c2⟩ := R.2.1
  have ref : ∀ {P : Int → Mem → Prop}, (¬ (p1 = -1 ∨ (0 ≤ p1 ∧ p1 < σ 23 0)) → P (-100001) τ) → ((p1 = -1 ∨ (0 ≤ p1 ∧ p1 < σ 23 0)) → ¬ (0 ≤ p2 ∧ p2 ≤ 2) → P (-100002) τ) → ((p1 = -1 ∨ (0 ≤ p1 ∧ p1 < σ 23 0)) → (0 ≤ p2 ∧ p2 ≤ 2) → x8_findLeakOf p1 τ (fun _ s5 => InI p2 ∧ (¬ p2 = (0) → (InI p2 ∧ InI (1)) ∧ (¬ p2 = (1) → (InI (s5 0 (28))) ∧ P (s5 0 (28)) s5) ∧ (p2 = (1) → P (s5 0 (27)) s5)) ∧ (p2 = (0) → P (s5 0 (26)) s5))) → x8_leak p1 p2 τ P := fun {P} k1 k2 k3 => by
    unfold x8_leak
    exact ⟨i1, by constructor <;> omega, B_in0 i1 (by omega) (by constructor <;> omega) (fun a => ⟨by omega, fun _ => ⟨i2, B_in0 i2 (by omega) (by omega) (fun b => ⟨by omega, fun _ => k3 (by omega) b, fun c => absurd c (by omega)⟩) (fun b => ⟨by omega, fun c => absurd rfl c, fun _ => k2 (by omega) b⟩)⟩, fun c => absurd c (by omega)⟩) (fun a => ⟨by omega, fun c => absurd rfl c, fun _ => k1 (by omega)⟩)⟩
  have main : (p1 = -1 ∨ (0 ≤ p1 ∧ p1 < σ 23 0)) → x7_leak_L20 (fun r σ' => x8_leak p1 p2 τ fun r' τ' => r = r' ∧ Rel σ' τ') p1 p2 σ := fun hp => by
    apply x7_leak_s20
    refine L_within i2 (by omega) (by omega) (fun b => ⟨by omega, fun _ => L_loadsOf hp c1 ?_, fun c => absurd c (by omega)⟩) (fun b => ⟨by omega, fun c => absurd rfl c, fun _ => ref (fun q => absurd hp q) (fun _ _ => ⟨rfl, R⟩) (fun _ q => absurd q b)⟩)
    obtain ⟨hJ, hl, hsh, hr⟩ := R.JAld hp
    rw [show Int.toNat ((c_ld p1 : Nat) : Int) = c_ld p1 by omega]
    refine L_settle (Or.inl rfl) hsh (by omega) hJ (fun s hA => ?_)
    have hrd := hA.rdy (Or.inl rfl) hJ
    have Rs := R.same (SameA.of (Or.inl rfl) hA.1) (SameB.refl τ)
    have s10 : s 1 0 = σ 1 0 := by rw [hA.1 1 (by omega)]
    refine L_leakPlace hrd ⟨⟨i2, by omega⟩, fun q => ?_, fun q => ?_⟩
    · have ha := q_amin_in (rA 7 s) (s 1 0).toNat (by omega)
      have ha2 : q_in (s 1 0) (q_amin (rA 7 s) (s 1 0).toNat) := ⟨ha.1, by have := ha.2; omega⟩
      have bb := hrd.r ha2
      have bD := hrd.2.2.2.1
      refine L_pressUpper hrd ha2 (L_leastTerm ⟨by constructor <;> omega, by omega⟩ ⟨bD.1, by constructor <;> omega⟩ i2 (ref (fun z => absurd hp z) (fun _ z => absurd b z) (fun _ _ => B_findLeakOf R.JB (by omega) (fun k hk => (hl k (by rw [e0]; exact hk)).2) (fun v u hv jv hu t ft e28 e26 e27 => ?_))))
      have T := tie_ld R hp hA hv jv hu
      have z := q_leastI bD.1 T.2.2.2.1.2.2.1.1 (T.r T.at)
      have up : 0 ≤ q_up u := (T.2.2.2.1.r (show q_in (u 0 0) (q_amin (rB u) (u 0 0).toNat) from by have w := T.at; rw [T.1] at w; exact w)).1
      rw [T.amin]
      have z2 : (if q_up u < 0 then -q_up u else q_up u) = q_up u := if_neg (by omega)
      have z3 : rB u (q_amin (rB u) (u 0 0).toNat) = q_up u := rfl
      rw [z3, z2] at z
      have Rt := Rs.same (SameA.refl s) ft.same
      refine ⟨i2, fun w => ⟨⟨i2, by omega⟩, fun w2 => absurd w2 (by omega), fun w2 => ⟨?_, Rt⟩⟩, fun w => ⟨?_, Rt⟩⟩
      · rw [if_neg w, e27]
        exact z.2
      · rw [if_pos w, e26]
        exact z.1
    · have ha := q_amin_in (rA 7 s) (s 1 0).toNat (by omega)
      have ha1 := ha.1
      have ha2 := ha.2
      refine ⟨by constructor <;> omega, ref (fun z => absurd hp z) (fun _ z => absurd b z) (fun _ _ => B_findLeakOf R.JB (by omega) (fun k hk => (hl k (by rw [e0]; exact hk)).2) (fun v u hv jv hu t ft e28 e26 e27 => ?_))⟩
      have T := tie_ld R hp hA hv jv hu
      have Rt := Rs.same (SameA.refl s) ft.same
      refine ⟨i2, fun w => ⟨⟨i2, by omega⟩, fun w2 => ⟨?_, ?_, Rt⟩, fun w2 => absurd w2 (by omega)⟩, fun w => absurd w (by omega)⟩
      · rw [e28, ← T.amin]
        constructor <;> omega
      · rw [e28, ← T.amin]
  refine ⟨⟨i1, by omega⟩, fun q => main (Or.inl q), fun q => L_caseHas i1 c1 (fun a => ⟨by omega, fun _ => main (Or.inr a), fun c => absurd c (by omega)⟩) (fun a => ⟨by omega, fun c => absurd rfl c, fun _ => ref (fun _ => ⟨rfl, R⟩) (fun z => absurd z (by omega)) (fun z => absurd z (by omega))⟩)⟩
