def OkA (σ : Mem) : Prop := JA σ 5 ∧ ∀ k, q_in (σ 1 0) k → σ 4 k ≤ 200
def FrD (σ σ' : Mem) : Prop := ∀ c : Nat, c ≠ 4 → (c < 14 ∨ 20 ≤ c) → σ' c = σ c
theorem FrD.refl (σ : Mem) : FrD σ σ := fun _ _ _ => rfl
theorem FrD.trans {a b c : Mem} (h : FrD a b) (g : FrD b c) : FrD a c := fun d h1 h2 => (g d h1 h2).trans (h d h1 h2)
theorem FrD.of {σ s : Mem} (h : FrO 14 σ s) : FrD σ s := fun c h1 h2 => h c (by omega)
theorem FrD.j {σ s : Mem} (h : FrD σ s) : jA s 5 = jA σ 5 := by
  have e1 := h 1 (by omega) (by omega)
  unfold jA
  rw [c_br_congr e1, e1, h 2 (by omega) (by omega), h 3 (by omega) (by omega), h 5 (by omega) (by omega)]
theorem L_wholeFrom {a b : Int} {s : Mem} (ha : q_bd a 100000000000000) (hb : 0 < b ∧ b ≤ 100000000000000) {Q : Int → Mem → Prop} (h : ∀ c : Int, 0 ≤ c → c ≤ 200000000000000 → (∀ x, 0 ≤ x → (a ≤ x * b ↔ c ≤ x)) → Q c s) : x7_wholeFrom a b s Q := by
  have a1 := ha.1
  have a2 := ha.2
  refine ⟨⟨by constructor <;> omega, by omega⟩, fun q => h 0 (by omega) (by omega) (fun x hx => ?_), fun q => ⟨⟨by constructor <;> omega, by omega⟩, fun _ => ⟨⟨by constructor <;> omega, by constructor <;> omega, by omega⟩, ?_⟩, fun c => absurd c (by omega)⟩⟩
  · have := Int.mul_nonneg hx (Int.le_of_lt hb.1)
    constructor <;> omega
  · rw [Int.tdiv_eq_ediv_of_nonneg (by omega)]
    have d0 : 0 ≤ (a + b - 1) / b := Int.ediv_nonneg (by omega) (by omega)
    have d1 : (a + b - 1) / b * b ≤ a + b - 1 := Int.ediv_mul_le _ (by omega)
    have d2 : a + b - 1 < (a + b - 1) / b * b + b := by
      have := Int.lt_ediv_add_one_mul_self (a + b - 1) hb.1
      rw [Int.add_mul, Int.one_mul] at this
      exact this
    have d3 : (a + b - 1) / b ≤ a + b - 1 := Int.ediv_le_self _ (by omega)
    refine h _ d0 (by omega) (fun x hx => ?_)
    constructor
    · intro hq
      refine Int.not_lt.mp (fun hlt => ?_)
      have := Int.mul_le_mul_of_nonneg_right (show x + 1 ≤ (a + b - 1) / b by omega) (Int.le_of_lt hb.1)
      rw [Int.add_mul, Int.one_mul] at this
      omega
    · intro hq
      have := Int.mul_le_mul_of_nonneg_right hq (Int.le_of_lt hb.1)
      omega
theorem q_sum_const (c : Int) : ∀ N : Nat, q_sum (fun _ => c) N = c * N
  | 0 => by simp [q_sum]
  | N + 1 => by
    show q_sum (fun _ => c) N + c = c * ((N + 1 : Nat) : Int)
    rw [q_sum_const c N, Int.natCast_add, Int.mul_add]
    omega
theorem q_drw_bd {j : JT} {tu : Int → Int} {h t : Int} (h0 : tu h ≤ 201) : q_drw j tu h t = -1 ∨ (0 ≤ q_drw j tu h t ∧ tu h + q_drw j tu h t ≤ 200) := by
  have := q_srch_bd (p := q_hasJ j tu h t) (201 - tu h).toNat (tu h)
  unfold q_drw
  omega
theorem OkA.okJ {σ : Mem} (h : OkA σ) : q_okJ (jA σ 5) (tA σ) := h.1.okJ
theorem OkA.drawn {σ s : Mem} (h : OkA σ) (f : FrD σ s) (ht : tA s = tA σ ∨ ∃ x k, q_in (σ 1 0) k ∧ 0 ≤ x ∧ x ≤ 200 ∧ tA s = q_set (tA σ) k x) : OkA s := by
  have e1 := f 1 (by omega) (by omega)
  have tb : ∀ k, q_in (σ 1 0) k → 0 ≤ s 4 k ∧ s 4 k ≤ 200 := fun k hk => by
    have a : tA s k = s 4 k := by
      unfold tA
      rw [e1]
      exact q_nrm_in hk
    have b : tA σ k = σ 4 k := q_nrm_in hk
    have c := h.2 k hk
    have d := (h.1.k hk).2.2.1.1
    rw [← a]
    rcases ht with q | ⟨x, i, hi, x0, x1, q⟩
    · rw [q, b]
      omega
    · rw [q]
      unfold q_set
      split <;> omega
  refine ⟨?_, fun k hk => (tb k (by rw [e1] at hk; exact hk)).2⟩
  have e5 := f 5 (by omega) (by omega)
  obtain ⟨⟨n1, n2, n3, n4⟩, n5⟩ := h.1
  unfold JA q_ok
  rw [c_br_congr e1, e1, e5, f 2 (by omega) (by omega), f 3 (by omega) (by omega)]
  refine ⟨⟨n1, n2, fun k hk => ?_, n4⟩, n5⟩
  have a := n3 k hk
  have b := tb k hk
  exact ⟨a.1, a.2.1, by omega, a.2.2.2⟩
theorem L_drawBolt {σ : Mem} (ok : OkA σ) {h t : Int} (hh : q_in (σ 1 0) h) (hb : c_br σ h = 0) (ht : 1 ≤ t ∧ t ≤ 900) {Q : Int → Mem → Prop} (hQ : ∀ s : Mem, FrD σ s → OkA s → tA s = q_drT (jA σ 5) (tA σ) h t → Q (q_drw (jA σ 5) (tA σ) h t) s) : x1_drawBolt h t σ Q := by
  apply x1_drawBolt_i
  have hn := ok.1.n
  have h1 := hh.1
  have h2 := hh.2
  have okJ := ok.okJ
  have th : tA σ h = σ 4 h := q_nrm_in hh
  have t1 := ok.2 h hh
  have t0 := (ok.1.k hh).2.2.1.1
  have hbk : ∀ k, q_in (σ 1 0) k → c_br σ k = 0 ∨ c_br σ k = 1 := fun k hk => by
    unfold c_br
    split <;> omega
  have bJ : ∀ k, q_in (σ 1 0) k → (jA σ 5).2.2.2.2.2 k = c_br σ k := fun k hk => q_nrm_in hk
  have sJ : q_sum (jA σ 5).2.2.2.2.1 (σ 1 0).toNat = q_sum (σ 5) (σ 1 0).toNat := q_sum_congr _ (fun k hk => q_nrm_in ⟨hk.1, by have := hk.2; omega⟩)
  have whI : InI (q_wh (c_br σ) (σ 1 0).toNat) := by
    rw [q_wh_cnt]
    have := q_cnt_bd (q_bit (σ 1 2)) (σ 1 0).toNat
    constructor <;> omega
  have main : ((∃ k, q_in (σ 1 0) k ∧ c_br σ k = 0 ∧ k ≠ h) ∨ q_sum (σ 5) (σ 1 0).toNat < t) → x1_drawBolt_L22 Q h t σ := fun hw => by
    apply x1_drawBolt_s22
    refine L_settleHolding (Or.inr rfl) rfl (Or.inl (by omega)) ok.1 (Or.inr hh) (by omega) (by rcases hw with q | q; exact Or.inl q; exact Or.inr ⟨hh, q⟩) (fun s hS => ?_)
    obtain ⟨f, hL, hD, hu⟩ := hS
    have e1 := f 1 (by omega)
    have e2 := f 2 (by omega)
    have e4 := f 4 (by omega)
    have hst := (ok.1.k hh).1
    have huh : q_bd (s 15 h) 1995383808000 := hu h hh
    have u1 := huh.1
    have u2 := huh.2
    have hst9 : q_bd (s 2 h) 9 := by
      rw [e2]
      constructor <;> omega
    have m1 : q_bd (s 2 h * s 15 h) (9 * 1995383808000) := q_bd_mul hst9 huh
    have m11 := m1.1
    have m12 := m1.2
    have m2 := Int.mul_nonneg (show 0 ≤ t by omega) (Int.le_of_lt hD.1)
    have m3 : t * s 14 1 ≤ 900 * 2176782336 := Int.mul_le_mul ht.2 hD.2 (Int.le_of_lt hD.1) (by omega)
    have m4 : 0 < s 2 h * s 14 1 := by
      rw [e2]
      exact Int.mul_pos (by omega) hD.1
    have m5 : s 2 h * s 14 1 ≤ 9 * 2176782336 := by
      rw [e2]
      exact Int.mul_le_mul hst.2 hD.2 (Int.le_of_lt hD.1) (by omega)
    refine ⟨by omega, by rw [e2]; omega, by omega, by omega, fun v8 e8 => L_wholeFrom (by rw [e8]; constructor <;> omega) (by omega) (fun c c0 c1 hc => ?_)⟩
    rw [e8] at hc
    have held : q_IsG (jA σ 5).1 (jA σ 5).2.1 (jA σ 5).2.2.1 (jA σ 5).2.2.2.1 (tA σ) (jA σ 5).2.2.2.2.1 (jA σ 5).2.2.2.2.2 h (t * s 14 1) (s 15) (s 14 1) := q_IsG_congr (fun k hk => ⟨(q_nrm_in hk).symm, (q_nrm_in hk).symm, (q_nrm_in hk).symm, (q_nrm_in hk).symm, (q_nrm_in hk).symm⟩) hL
    have hasx : ∀ x, 0 ≤ x ∧ x ≤ 201 → (q_hasJ (jA σ 5) (tA σ) h t x ↔ c ≤ x) := fun x hx => by
      have a := q_hasJ_lin okJ hh (by rw [bJ h hh]; exact hb) ht.1 held (by
        rcases hw with ⟨k, k1, k2, k3⟩ | q
        · exact Or.inl ⟨k, k1, k3, by rw [bJ k k1]; exact k2⟩
        · exact Or.inr (by show q_sum (jA σ 5).2.2.2.2.1 (σ 1 0).toNat < t; rw [sJ]; exact q)) hx
      have es : (jA σ 5).2.2.1 h = s 2 h := by
        rw [e2]
        exact q_nrm_in hh
      rw [es] at a
      exact a.trans (hc x hx.1)
    rw [e4]
    refine ⟨by omega, by omega, ⟨by omega, by constructor <;> omega⟩, fun v11 e11 => ⟨by omega, by omega, ⟨by rw [e11]; split <;> constructor <;> omega, by omega⟩, fun q => ⟨by omega, by omega, fun s12 e12 => ?_⟩, fun q => ?_⟩⟩
    · have ed : q_drw (jA σ 5) (tA σ) h t = v11 := by
        unfold q_drw
        rw [th]
        refine q_srch_at _ _ _ (by rw [e11]; split <;> omega) (by omega) ?_ (fun i i0 i1 => ?_)
        · rw [hasx _ (by rw [e11] at q ⊢; split at q <;> omega)]
          rw [e11]
          split <;> omega
        · rw [hasx _ (by omega)]
          rw [e11] at i1
          split at i1 <;> omega
      have v0 : 0 ≤ v11 := by
        rw [e11]
        split <;> omega
      have eT : tA s12 = q_drT (jA σ 5) (tA σ) h t := by
        unfold q_drT
        rw [ed, if_neg (by omega), th]
        funext k
        unfold tA q_set q_nrm
        rw [e12, m_upd_ne _ _ _ _ _ (by omega), e1]
        simp only [m_upd_at]
        by_cases w : k = h
        · rw [if_pos w, if_pos (by omega), if_pos ⟨trivial, w⟩]
        · rw [if_neg w, e4]
          simp [w]
      have fr : FrD σ s12 := fun d d1 d2 => by rw [e12, m_upd_ne _ _ _ _ _ d1, f d (by omega)]
      rw [← ed]
      refine hQ s12 fr (ok.drawn fr (Or.inr ⟨σ 4 h + v11, h, hh, by omega, q, ?_⟩)) eT
      rw [eT]
      unfold q_drT
      rw [ed, if_neg (by omega), th]
    · have ed : q_drw (jA σ 5) (tA σ) h t = -1 := by
        unfold q_drw
        rw [th]
        refine q_srch_no _ _ (fun i i0 i1 => ?_)
        rw [hasx _ (by omega)]
        rw [e11] at q
        split at q <;> omega
      have eT : tA s = q_drT (jA σ 5) (tA σ) h t := by
        unfold q_drT
        rw [ed, if_pos (by omega)]
        unfold tA
        rw [e1, e4]
      rw [← ed]
      refine hQ s (FrD.of f) (ok.drawn (FrD.of f) (Or.inl ?_)) eT
      rw [eT]
      unfold q_drT
      rw [ed, if_pos (by omega)]
  have two := q_wh_two (br := c_br σ) (N := (σ 1 0).toNat) (p := h) ⟨h1, by omega⟩ hb
  have one := q_wh_one (br := c_br σ) (N := (σ 1 0).toNat) (fun k hk => hbk k ⟨hk.1, by have := hk.2; omega⟩) (p := h) ⟨h1, by omega⟩ hb
  refine L_wholeCount hn ok.1.2.1 ok.1.2.2 ⟨⟨whI, by omega⟩, fun q => main (Or.inl ?_), fun q => L_sumOf rfl hn ⟨⟨?_, by omega⟩, fun q2 => main (Or.inr q2), fun q2 => ?_⟩⟩
  · obtain ⟨k, k1, k2, k3⟩ := two q
    exact ⟨k, ⟨k1.1, by have := k1.2; omega⟩, k3, k2⟩
  · have a := q_sum_le (f := fun _ => 0) (g := σ 5) (σ 1 0).toNat (fun k hk => (ok.1.k ⟨hk.1, by have := hk.2; omega⟩).2.2.2.1)
    have b := q_sum_le (f := σ 5) (g := fun _ => 200) (σ 1 0).toNat (fun k hk => (ok.1.k ⟨hk.1, by have := hk.2; omega⟩).2.2.2.2)
    rw [q_sum_const] at a b
    constructor
    · omega
    · omega
  · have ed : q_drw (jA σ 5) (tA σ) h t = 0 := by
      unfold q_drw
      rw [th]
      refine q_srch_at _ _ _ (by omega) (by omega) ?_ (fun i i0 i1 => absurd i1 (by omega))
      refine q_hasJ_alone okJ hh (by rw [bJ h hh]; exact hb) (fun k k1 k2 => ?_) (by show t ≤ q_sum (jA σ 5).2.2.2.2.1 (σ 1 0).toNat; rw [sJ]; exact q2) (by omega)
      have k11 := k1.1
      have k12 : k < σ 1 0 := k1.2
      rw [bJ k k1]
      exact one.2 q k ⟨k11, by omega⟩ k2
    have eT : tA σ = q_drT (jA σ 5) (tA σ) h t := by
      unfold q_drT
      rw [ed, if_neg (by omega)]
      funext k
      unfold q_set
      by_cases w : k = h
      · rw [if_pos w, w]
        omega
      · rw [if_neg w]
    rw [← ed]
    exact hQ σ (FrD.refl σ) ok eT
