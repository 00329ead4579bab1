/-! ===== the worst case ===== -/
theorem q_frac_like {D U F1 F2 a b : Int} (hD : 0 < D) (h : D * F1 = F2 * U) (g : D * a = b * U) : b * F1 = F2 * a := by
  have e : D * (b * F1) = D * (F2 * a) := by
    have e1 : D * (b * F1) = b * (D * F1) := by grind
    have e2 : D * (F2 * a) = F2 * (D * a) := by grind
    rw [e1, e2, h, g]
    grind
  exact Int.eq_of_mul_eq_mul_left (by omega) e
theorem B_frac {u t : Mem} (hr : RdyB u) (e26 : t 0 26 = Int.tdiv (q_up u) (q_gcd (q_up u) (u 0 15))) (e27 : t 0 27 = Int.tdiv (u 0 15) (q_gcd (q_up u) (u 0 15))) : (0 ≤ t 0 26 ∧ InL (t 0 26)) ∧ (0 < t 0 27 ∧ InL (t 0 27)) ∧ u 0 15 * t 0 26 = t 0 27 * q_up u := by
  have hn := hr.1
  have ha := q_amin_in (rB u) (u 0 0).toNat (by omega)
  have bb : 0 ≤ q_up u ∧ q_up u ≤ 30000000000000 := hr.r ⟨ha.1, by have := ha.2; omega⟩
  have hD := hr.2.2.1
  obtain ⟨g1, g2, g3⟩ := q_gcd_like bb.1 hD.1
  have gp := q_gcd_pos (a := q_up u) hD.1
  have l1 : Int.tdiv (q_up u) (q_gcd (q_up u) (u 0 15)) ≤ q_up u := by
    rw [Int.tdiv_eq_ediv_of_nonneg bb.1]
    exact Int.ediv_le_self _ bb.1
  have l2 : Int.tdiv (u 0 15) (q_gcd (q_up u) (u 0 15)) ≤ u 0 15 := by
    rw [Int.tdiv_eq_ediv_of_nonneg (by omega)]
    exact Int.ediv_le_self _ (by omega)
  rw [e26, e27]
  exact ⟨⟨g2, by constructor <;> omega⟩, ⟨g1, by constructor <;> omega⟩, g3⟩
theorem L_leaksMost {σ τ : Mem} (R : Rel σ τ) (hrd : RdyA 7 σ) {t0 : Int} (h0 : t0 = 0 ∨ t0 = 1) {U W : Int} (hU : σ 23 2 = U) (hW : σ 23 3 = W) (hb : t0 = 0 → (0 ≤ U ∧ InL U) ∧ 0 < W ∧ W ≤ 2176782336) {Q : Int → Mem → Prop} (hno : t0 = 0 → ¬ rA 7 σ (q_amin (rA 7 σ) (σ 1 0).toNat) * W < U * σ 7 1 → Q 0 σ) (hyes : t0 = 1 ∨ rA 7 σ (q_amin (rA 7 σ) (σ 1 0).toNat) * W < U * σ 7 1 → ∀ s : Mem, Rel s τ → s 23 2 = rA 7 σ (q_amin (rA 7 σ) (σ 1 0).toNat) → s 23 3 = σ 7 1 → Q 1 s) : x0_leaksMost t0 σ Q := by
  apply x0_leaksMost_i
  have hn := R.n
  have ha := q_amin_in (rA 7 σ) (σ 1 0).toNat (by omega)
  have ha2 : q_in (σ 1 0) (q_amin (rA 7 σ) (σ 1 0).toNat) := ⟨ha.1, by have := ha.2; omega⟩
  have bb := hrd.r ha2
  have bD := hrd.2.2.2.1
  have put : (t0 = 1 ∨ rA 7 σ (q_amin (rA 7 σ) (σ 1 0).toNat) * W < U * σ 7 1) → x0_leaksMost_L38 Q (rA 7 σ (q_amin (rA 7 σ) (σ 1 0).toNat)) σ := fun hy => by
    apply x0_leaksMost_s38
    intro s9 e9 s10 e10
    refine ⟨by omega, hyes hy s10 ?_ ?_ ?_⟩
    · have f : ∀ c : Nat, c ≠ 23 → s10 c = σ c := fun c hc => by rw [e10, m_upd_ne _ _ _ _ _ hc, e9, m_upd_ne _ _ _ _ _ hc]
      refine R.same ⟨⟨fun c _ _ h3 _ => f c h3, ?_⟩, f 4 (by omega)⟩ (SameB.refl τ)
      rw [e10, m_upd_at, if_neg (by omega), e9, m_upd_at, if_neg (by omega)]
    · rw [e10, m_upd_at, if_neg (by omega), e9, m_upd_at, if_pos ⟨rfl, rfl⟩]
    · rw [e10, m_upd_at, if_pos ⟨rfl, rfl⟩, e9, m_upd_ne _ _ _ _ _ (by omega)]
  refine L_leakPlace hrd (L_pressUpper hrd ha2 ⟨by omega, fun q => put (Or.inl (by omega)), fun q => ?_⟩)
  rw [hU, hW]
  have hb := hb q
  exact L_compare ⟨bb.1, by constructor <;> omega⟩ bD hb.1 hb.2 (fun r ir hr => ⟨ir, fun w => put (Or.inr (hr.mp w)), fun w => ⟨by omega, hno q (fun z => by have := hr.mpr z; omega)⟩⟩)
theorem M_worst {σ τ : Mem} (R : Rel σ τ) : Ans (x7_worst σ) (x8_worst τ) := by
  unfold Ans x7_worst
  apply x0_findWorst_i
  have hn := R.n
  have e0 : σ 1 0 = τ 0 0 := R.1.1
  have hc1 := R.2.1.2.1
  have hc0 := R.2.1.1
  -- the class
  have key : ∀ (m : Nat) (k x : Int) (s : Mem), -1 ≤ k → k ≤ τ 0 8 → (τ 0 8 - k).toNat = m → Rel s τ → (k = -1 → x = -1) → (0 ≤ k → x = q_low (q_Fw (jB τ) (tB τ) (τ 7)) k.toNat ∧ ((0 ≤ s 23 2 ∧ InL (s 23 2)) ∧ 0 < s 23 3 ∧ s 23 3 ≤ 2176782336) ∧ s 23 3 * (q_Fw (jB τ) (tB τ) (τ 7) x).1 = (q_Fw (jB τ) (tB τ) (τ 7) x).2 * s 23 2 ∧ 0 < (q_Fw (jB τ) (tB τ) (τ 7) x).2) → (∀ s' : Mem, Rel s' τ → x8_worst τ (fun r' τ' => q_low (q_Fw (jB τ) (tB τ) (τ 7)) (τ 0 8).toNat = r' ∧ Rel s' τ')) → x0_findWorst_L5 (fun r σ' => x8_worst τ fun r' τ' => r = r' ∧ Rel σ' τ') x k s := by
    intro m
    induction m with
    | zero =>
      intro k x s k0 k1 hm Rs hx hI hQ
      apply x0_findWorst_s5
      have c0 := Rs.2.1.1
      refine ⟨by omega, fun _ => ?_, fun c => absurd c (by omega)⟩
      rw [(hI (by omega)).1, show k = τ 0 8 by omega]
      exact hQ s Rs
    | succ m ih =>
      intro k x s k0 k1 hm Rs hx hI hQ
      apply x0_findWorst_s5
      have c0 := Rs.2.1.1
      have c1 := Rs.2.1.2.1
      have hp : k = -1 ∨ (0 ≤ k ∧ k < s 23 0) := by omega
      obtain ⟨hJ, hl, hsh, hr⟩ := Rs.JAld hp
      refine ⟨by omega, fun c => absurd c (by omega), fun _ => L_loadsOf hp c1 ?_⟩
      rw [show Int.toNat ((c_ld k : Nat) : Int) = c_ld k by omega]
      refine L_settle (Or.inl rfl) hsh (by omega) hJ (fun s1 hA => ?_)
      have hrd := hA.rdy (Or.inl rfl) hJ
      have R1 := Rs.same (SameA.of (Or.inl rfl) hA.1) (SameB.refl τ)
      have s23 := hA.1 23 (by omega)
      have lk := L_leakLike Rs hp hA
      rw [Rs.j, Rs.t] at lk
      have bD := hrd.2.2.2.1
      have ha := q_amin_in (rA 7 s1) (s1 1 0).toNat (by have := hrd.1; omega)
      have bb := hrd.r (k := q_amin (rA 7 s1) (s1 1 0).toNat) ⟨ha.1, by have := ha.2; have := hrd.1; omega⟩
      have next : ∀ t0 : Int, t0 = (if k = -1 then 1 else 0) → x0_findWorst_L40 (fun r σ' => x8_worst τ fun r' τ' => r = r' ∧ Rel σ' τ') x k t0 s1 := fun t0 ht0 => by
        apply x0_findWorst_s40
        have cmp : 0 ≤ k → (rA 7 s1 (q_amin (rA 7 s1) (s1 1 0).toNat) * s 23 3 < s 23 2 * s1 7 1 ↔ (q_Fw (jB τ) (tB τ) (τ 7) k).1 * (q_Fw (jB τ) (tB τ) (τ 7) x).2 < (q_Fw (jB τ) (tB τ) (τ 7) x).1 * (q_Fw (jB τ) (tB τ) (τ 7) k).2) := fun h => by
          have I := hI h
          exact q_less bD.1 I.2.1.2.1 lk.1 I.2.2.2 lk.2 I.2.2.1
        have en : 0 ≤ k → q_low (q_Fw (jB τ) (tB τ) (τ 7)) (k + 1).toNat = if (q_Fw (jB τ) (tB τ) (τ 7) k).1 * (q_Fw (jB τ) (tB τ) (τ 7) x).2 < (q_Fw (jB τ) (tB τ) (τ 7) x).1 * (q_Fw (jB τ) (tB τ) (τ 7) k).2 then k else x := fun h => by
          have I := hI h
          rw [show (k + 1).toNat = k.toNat + 1 by omega, q_low, show ((k.toNat : Nat) : Int) = k by omega, ← I.1]
        refine L_leaksMost R1 hrd (U := s 23 2) (W := s 23 3) (by rw [ht0]; split <;> omega) (by rw [s23]) (by rw [s23]) (fun z => (hI (by rw [ht0] at z; split at z <;> omega)).2.1) (fun z hn2 => ⟨by omega, fun _ => ?_, fun c => absurd rfl c⟩) (fun hy s2 R2 e2 e3 => ⟨by omega, fun c => absurd c (by omega), fun _ => ?_⟩)
        · have hk : 0 ≤ k := by
            rw [ht0] at z
            split at z <;> omega
          have I := hI hk
          refine ih (k + 1) x s1 (by omega) (by omega) (by omega) R1 (fun c => absurd c (by omega)) (fun _ => ?_) hQ
          rw [s23]
          refine ⟨?_, I.2⟩
          rw [en hk, if_neg (fun q => hn2 ((cmp hk).mpr q))]
        · refine ih (k + 1) k s2 (by omega) (by omega) (by omega) R2 (fun c => absurd c (by omega)) (fun _ => ?_) hQ
          rw [e2, e3]
          refine ⟨?_, ⟨⟨bb.1, by constructor <;> omega⟩, bD⟩, lk.2, lk.1⟩
          by_cases w : k = -1
          · rw [w]
            rfl
          · have hk : 0 ≤ k := by omega
            rw [en hk]
            rcases hy with q | q
            · rw [ht0, if_neg w] at q
              omega
            · rw [if_pos ((cmp hk).mp q)]
      refine ⟨by omega, fun q => next 0 (by rw [if_neg q]), fun q => next 1 (by rw [if_pos q])⟩
  -- the reference
  refine key _ (-1) (-1) σ (by omega) (by omega) rfl R (fun _ => rfl) (fun c => absurd c (by omega)) (fun s' Rs' => ?_)
  apply x8_worst_i
  have ldb : ∀ (p : Int), (p = -1 ∨ (0 ≤ p ∧ p < τ 0 8)) → ∀ k, q_in (τ 0 0) k → 0 ≤ q_ld τ p k ∧ q_ld τ p k ≤ 200 := fun p hp k hk => ((R.JAld (p := p) (by rw [hc0]; exact hp)).2.1 k (by rw [e0]; exact hk)).2
  have ref : ∀ (m : Nat) (k x a b : Int) (t : Mem), 0 ≤ k → k ≤ τ 0 8 → (τ 0 8 - k).toNat = m → FrL τ t → x = q_low (q_Fw (jB τ) (tB τ) (τ 7)) k.toNat → (0 ≤ a ∧ InL a) → (0 < b ∧ InL b) → b * (q_Fw (jB τ) (tB τ) (τ 7) x).1 = (q_Fw (jB τ) (tB τ) (τ 7) x).2 * a → 0 < (q_Fw (jB τ) (tB τ) (τ 7) x).2 → x8_worst_L21 (fun r' τ' => q_low (q_Fw (jB τ) (tB τ) (τ 7)) (τ 0 8).toNat = r' ∧ Rel s' τ') x a b k t := by
    intro m
    induction m with
    | zero =>
      intro k x a b t k0 k1 hm f hx ha hb hl h2
      apply x8_worst_s21
      have t8 := f.2 8 (by omega) (by omega) (by omega) (by omega)
      refine ⟨by rw [t8]; omega, fun _ => ⟨by rw [hx, show k = τ 0 8 by omega], Rs'.same (SameA.refl s') f.same⟩, fun c => absurd c (by rw [t8]; omega)⟩
    | succ m ih =>
      intro k x a b t k0 k1 hm f hx ha hb hl h2
      apply x8_worst_s21
      have t8 := f.2 8 (by omega) (by omega) (by omega) (by omega)
      have Rt : Rel σ t := R.same (SameA.refl σ) f.same
      have ej : jB t = jB τ := by rw [← Rt.j, R.j]
      have et : tB t = tB τ := by rw [← Rt.t, R.t]
      have e7 : t 7 = τ 7 := f.1 7 (by omega) (by omega) (by omega) (by omega) (by omega)
      have eq : ∀ j, q_ld t k j = q_ld τ k j := fun j => by
        unfold q_ld
        rw [if_pos k0, if_pos k0, e7]
      have t00 := f.2 0 (by omega) (by omega) (by omega) (by omega)
      refine ⟨by rw [t8]; omega, fun c => absurd c (by rw [t8]; omega), fun _ => B_findLeakOf Rt.JB (by omega) (fun j hj => by rw [eq]; exact ldb k (by omega) j (by rw [← t00]; exact hj)) (fun v u hv jv hu t2 f2 e28 e26 e27 => ?_)⟩
      have lk := B_leakLike Rt.okB (Or.inr k0) hv jv hu
      rw [ej, et, e7] at lk
      obtain ⟨g1, g2, g3⟩ := B_frac (hu.rdy jv) e26 e27
      have hD := (hu.rdy jv).2.2.1.1
      have lk2 := q_frac_like hD lk.2 g3
      have cmp := q_less g2.1 hb.1 lk.1 h2 lk2 hl
      have en : q_low (q_Fw (jB τ) (tB τ) (τ 7)) (k + 1).toNat = if (q_Fw (jB τ) (tB τ) (τ 7) k).1 * (q_Fw (jB τ) (tB τ) (τ 7) x).2 < (q_Fw (jB τ) (tB τ) (τ 7) x).1 * (q_Fw (jB τ) (tB τ) (τ 7) k).2 then k else x := by
        rw [show (k + 1).toNat = k.toNat + 1 by omega, q_low, show ((k.toNat : Nat) : Int) = k by omega, ← hx]
      refine B_held g1 g2 ha hb (fun r ir hr => ⟨ir, fun w => ?_, fun w => ?_⟩)
      · refine ih (k + 1) x a b t2 (by omega) (by omega) (by omega) (f.trans f2) ?_ ha hb hl h2
        rw [en, if_neg (fun q => by have := hr.mpr (cmp.mpr q); omega)]
      · refine ih (k + 1) k (t2 0 26) (t2 0 27) t2 (by omega) (by omega) (by omega) (f.trans f2) ?_ g1 g2 lk2 lk.1
        rw [en, if_pos (cmp.mp (hr.mp w))]
  refine B_findLeakOf R.JB (Or.inl rfl) (ldb (-1) (Or.inl rfl)) (fun v u hv jv hu t2 f2 e28 e26 e27 => ?_)
  have lk := B_leakLike R.okB (Or.inl rfl) hv jv hu
  obtain ⟨g1, g2, g3⟩ := B_frac (hu.rdy jv) e26 e27
  have hD := (hu.rdy jv).2.2.1.1
  exact ref _ 0 (-1) _ _ t2 (by omega) (by omega) rfl f2 rfl g1 g2 (q_frac_like hD lk.2 g3) lk.1
