/-! ===== forces, readings, rows ===== -/
theorem M_force {σ τ : Mem} (R : Rel σ τ) {p1 p2 p3 : Int} (i1 : InI p1) (i2 : InI p2) (i3 : InI p3) : Ans (x7_force p1 p2 p3 σ) (x8_force p1 p2 p3 τ) := by
  unfold Ans
  apply x7_force_i
  have hn := R.n
  have e0 : σ 1 0 = τ 0 0 := R.1.1
  have ref : ∀ {P : Int → Mem → Prop}, (¬ q_in (σ 1 0) p1 → P (-100001) τ) → (q_in (σ 1 0) p1 → ¬ ((0 ≤ p2 ∧ p2 ≤ 2) ∧ (0 ≤ p3 ∧ p3 ≤ 1)) → P (-100002) τ) → (q_in (σ 1 0) p1 → (0 ≤ p2 ∧ p2 ≤ 2) ∧ (0 ≤ p3 ∧ p3 ≤ 1) → ∀ t : Mem, LiftsB τ t → ∀ v : Int, v = (if p2 = 0 then pB t p1 else if p2 = 1 then rB t p1 else t 12 p1) → P (Int.tdiv (if p3 = 0 then v else t 0 15) (q_gcd (if v < 0 then -v else v) (t 0 15))) t) → x8_force p1 p2 p3 τ P := fun {P} k1 k2 k3 => by
    apply x8_force_i
    refine B_noBolt i1 (by omega) (fun a => ⟨by omega, fun _ => ⟨i2, B_in0 i2 (by omega) (by omega) (fun b => ⟨by omega, fun c => absurd c (by omega), fun _ => ⟨i3, B_in0 i3 (by omega) (by omega) (fun d => ⟨by omega, fun _ => B_findLifts R.JB (fun t ht => ?_), fun c => absurd c (by omega)⟩) (fun d => ⟨by omega, fun c => absurd rfl c, fun _ => k2 (by rw [e0]; exact a) (fun q => d q.2)⟩)⟩⟩) (fun b => ⟨by omega, fun _ => k2 (by rw [e0]; exact a) (fun q => b q.1), fun c => absurd rfl c⟩)⟩, fun c => absurd rfl c⟩) (fun a => ⟨by omega, fun c => absurd c (by omega), fun _ => k1 (by rw [e0]; exact a)⟩)
    have k3 := k3 (by rw [e0]; exact a) ⟨b, d⟩ t ht
    have hrd := ht.rdy R.JB
    have e00 : t 0 0 = τ 0 0 := ht.1.2 0 (by omega)
    have hk2 : q_in (t 0 0) p1 := by rw [e00]; exact a
    have bp := hrd.p hk2
    have br := hrd.r hk2
    have bl := hrd.2.2.2 p1 hk2
    have bl1 := bl.1
    have bl2 := bl.2
    have bD := hrd.2.2.1
    have a1 := a.1
    have a2 := a.2
    have last : ∀ v : Int, v = (if p2 = 0 then pB t p1 else if p2 = 1 then rB t p1 else t 12 p1) → q_bd v 30000000000000 → x8_force_L73 P p3 v t := fun v hv hb => by
      apply x8_force_s73
      have b1 := hb.1
      have b2 := hb.2
      have k3 := k3 v hv
      have gp := q_gcd_pos (a := if v < 0 then -v else v) bD.1
      have gi : InL (q_gcd (if v < 0 then -v else v) (t 0 15)) := by
        have : q_gcd (if v < 0 then -v else v) (t 0 15) ≤ t 0 15 := by
          unfold q_gcd
          have := Nat.gcd_le_right (if v < 0 then -v else v).toNat (show 0 < (t 0 15).toNat by omega)
          omega
        constructor <;> omega
      refine B_gcd ⟨by constructor <;> omega, by omega⟩ ⟨bD.1, by constructor <;> omega⟩ ⟨by omega, fun q => ⟨⟨by constructor <;> omega, gi, by omega⟩, ?_⟩, fun q => ⟨⟨by constructor <;> omega, gi, by omega⟩, ?_⟩⟩
      · rw [if_neg q] at k3
        exact k3
      · rw [if_pos q] at k3
        exact k3
    refine ⟨i2, fun q => ⟨⟨i2, by omega⟩, fun q2 => ⟨by omega, last _ (by rw [if_neg q, if_neg q2]) ⟨by omega, by omega⟩⟩, fun q2 => B_press hrd hk2 (last _ (by rw [if_neg q, if_pos q2]) ⟨by omega, by omega⟩)⟩, fun q => B_pull hrd hk2 (last _ (by rw [if_pos q]) ⟨by omega, by omega⟩)⟩
  refine L_has i1 hn (fun a => ⟨by omega, fun _ => L_within i2 (by omega) (by omega) (fun b => ⟨by omega, fun c => absurd c (by omega), fun _ => L_within i3 (by omega) (by omega) (fun d => ⟨by omega, fun _ => L_settle7 R (fun s hA => ?_), fun c => absurd c (by omega)⟩) (fun d => ⟨by omega, fun c => absurd rfl c, fun _ => ref (fun q => absurd a q) (fun _ _ => ⟨rfl, R⟩) (fun _ q => absurd q.2 d)⟩)⟩) (fun b => ⟨by omega, fun _ => ref (fun q => absurd a q) (fun _ _ => ⟨rfl, R⟩) (fun _ q => absurd q.1 b), fun c => absurd rfl c⟩), fun c => absurd c (by omega)⟩) (fun a => ⟨by omega, fun c => absurd rfl c, fun _ => ref (fun _ => ⟨rfl, R⟩) (fun q => absurd q a) (fun q => absurd q a)⟩)
  have f := hA.1
  have a1 := a.1
  have a2 := a.2
  have s10 : s 1 0 = σ 1 0 := by rw [f 1 (by omega)]
  have ka : q_in (s 1 0) p1 := by rw [s10]; exact a
  have hrd := hA.rdy (Or.inl rfl) R.1.2.2.2.1
  have bp := hrd.p ka
  have br := hrd.r ka
  have bl : q_bd (s 8 p1) 1995383808000 := hrd.2.2.2.2 p1 ka
  have bl1 := bl.1
  have bl2 := bl.2
  have bD := hrd.2.2.2.1
  have last : ∀ u : Int, u = (if p2 = 0 then pA 7 s p1 else if p2 = 1 then rA 7 s p1 else s 8 p1) → q_bd u 30000000000000 → x7_force_L106 (fun r σ' => x8_force p1 p2 p3 τ fun r' τ' => r = r' ∧ Rel σ' τ') p3 u s := fun u hu hb => by
    apply x7_force_s106
    have b1 := hb.1
    have b2 := hb.2
    refine L_leastTerm ⟨by constructor <;> omega, by omega⟩ ⟨bD.1, by constructor <;> omega⟩ i3 (ref (fun q => absurd a q) (fun _ q => absurd ⟨b, d⟩ q) (fun _ _ t ht v hv => ⟨?_, R.looked hA ht⟩))
    have T := R.tie hA ht
    have key : t 0 15 * u = s 7 1 * v := by
      rw [hu, hv]
      by_cases q : p2 = 0
      · rw [if_pos q, if_pos q]
        exact T.p ka
      · rw [if_neg q, if_neg q]
        by_cases q2 : p2 = 1
        · rw [if_pos q2, if_pos q2]
          exact T.r ka
        · rw [if_neg q2, if_neg q2]
          exact T.2.2.2.2 p1 ka
    have z := q_leastI bD.1 T.2.2.2.1.2.2.1.1 key
    by_cases q : p3 = 0
    · rw [if_pos q, if_pos q]
      exact z.1
    · rw [if_neg q, if_neg q]
      exact z.2
  refine ⟨by omega, i2, fun q => ⟨⟨i2, by omega⟩, fun q2 => last _ (by rw [if_neg q, if_neg q2]) ⟨by omega, by omega⟩, fun q2 => L_pressUpper hrd ka (last _ (by rw [if_neg q, if_pos q2]) ⟨by omega, by omega⟩)⟩, fun q => L_pullUpper hrd ka (last _ (by rw [if_pos q]) ⟨by omega, by omega⟩)⟩
theorem M_reading {σ τ : Mem} (R : Rel σ τ) {p1 p2 p3 : Int} (i1 : InI p1) (i2 : InI p2) (i3 : InI p3) : Ans (x7_reading p1 p2 p3 σ) (x8_reading p1 p2 p3 τ) := by
  unfold Ans x7_reading
  have hn := R.n
  have e0 : σ 1 0 = τ 0 0 := R.1.1
  have ref : ∀ {P : Int → Mem → Prop}, (¬ q_in (σ 1 0) p1 → P (-100001) τ) → (q_in (σ 1 0) p1 → ¬ (0 ≤ p2 ∧ p2 ≤ p3 ∧ p3 ≤ 2000) → P (-100002) τ) → (q_in (σ 1 0) p1 → 0 ≤ p2 ∧ p2 ≤ p3 ∧ p3 ≤ 2000 → x8_count 6 (m_upd (m_upd (m_upd τ 9 p1 1) 10 p1 p2) 11 p1 p3) P) → x8_reading p1 p2 p3 τ P := fun {P} k1 k2 k3 => by
    unfold x8_reading
    refine B_noBolt i1 (by omega) (fun a => ⟨by omega, fun _ => ⟨i2, i3, B_in0 i2 (by omega) i3 (fun b => ⟨by omega, fun c => absurd c (by omega), fun _ => ⟨⟨i3, by omega⟩, fun q => ?_, fun q => k2 (by rw [e0]; exact a) (by omega)⟩⟩) (fun b => ⟨by omega, fun _ => k2 (by rw [e0]; exact a) (by omega), fun c => absurd rfl c⟩)⟩, fun c => absurd rfl c⟩) (fun a => ⟨by omega, fun c => absurd c (by omega), fun _ => k1 (by rw [e0]; exact a)⟩)
    have a1 := a.1
    have a2 := a.2
    refine ⟨by omega, fun s5 e5 => ⟨by omega, fun s6 e6 => ⟨by omega, fun s7 e7 => ?_⟩⟩⟩
    rw [e7, e6, e5]
    exact k3 (by rw [e0]; exact a) ⟨b.1, b.2, q⟩
  refine L_has i1 hn (fun a => ⟨by omega, fun _ => L_within i3 (by omega) (by omega) (fun b => ⟨by omega, fun c => absurd c (by omega), fun _ => L_within i2 (by omega) i3 (fun d => ⟨by omega, fun _ => ?_, fun c => absurd c (by omega)⟩) (fun d => ⟨by omega, fun c => absurd rfl c, fun _ => ref (fun q => absurd a q) (fun _ _ => ⟨rfl, R⟩) (fun _ q => absurd q (by omega))⟩)⟩) (fun b => ⟨by omega, fun _ => ref (fun q => absurd a q) (fun _ _ => ⟨rfl, R⟩) (fun _ q => absurd q (by omega)), fun c => absurd rfl c⟩), fun c => absurd c (by omega)⟩) (fun a => ⟨by omega, fun c => absurd rfl c, fun _ => ref (fun _ => ⟨rfl, R⟩) (fun q => absurd q a) (fun q => absurd q a)⟩)
  have a1 := a.1
  have a2 := a.2
  obtain ⟨r1, r2, r3⟩ := R.2.2.2.1
  have ho := s_orI (x := σ 34 0) (k := p1) (by omega) (by omega)
  refine fun s1 g1 => ⟨by omega, fun s2 g2 => ⟨by omega, fun s3 g3 => ?_⟩⟩
  have f : ∀ c : Nat, c ≠ 34 → c ≠ 35 → c ≠ 36 → s3 c = σ c := fun c h1 h2 h3 => by rw [g3, m_upd_ne _ _ _ _ _ h3, g2, m_upd_ne _ _ _ _ _ h2, g1, m_upd_ne _ _ _ _ _ h1]
  have e34 : s3 34 0 = orI (σ 34 0) (shlI 1 p1) := by
    rw [g3, m_upd_ne _ _ _ _ _ (by omega), g2, m_upd_ne _ _ _ _ _ (by omega), g1, m_upd_at, if_pos ⟨rfl, rfl⟩]
  have e35 : ∀ k, s3 35 k = if k = p1 then p2 else σ 35 k := fun k => by
    rw [g3, m_upd_ne _ _ _ _ _ (by omega), g2, m_upd_at, g1, m_upd_ne _ _ _ _ _ (by omega)]
    simp
  have e36 : ∀ k, s3 36 k = if k = p1 then p3 else σ 36 k := fun k => by
    rw [g3, m_upd_at, g2, m_upd_ne _ _ _ _ _ (by omega), g1, m_upd_ne _ _ _ _ _ (by omega)]
    simp
  refine L_bitCount (by rw [e34]; exact ⟨ho.1.1, ho.1.2.2 (by omega) (by omega)⟩) (ref (fun q => absurd a q) (fun _ q => absurd (by omega) q) (fun _ _ => ?_))
  have G : ∀ c : Nat, c ≠ 9 → c ≠ 10 → c ≠ 11 → m_upd (m_upd (m_upd τ 9 p1 1) 10 p1 p2) 11 p1 p3 c = τ c := fun c h1 h2 h3 => by rw [m_upd_ne _ _ _ _ _ h3, m_upd_ne _ _ _ _ _ h2, m_upd_ne _ _ _ _ _ h1]
  have G9 : ∀ k, m_upd (m_upd (m_upd τ 9 p1 1) 10 p1 p2) 11 p1 p3 9 k = if k = p1 then 1 else τ 9 k := fun k => by
    rw [m_upd_ne _ _ _ _ _ (by omega), m_upd_ne _ _ _ _ _ (by omega), m_upd_at]
    simp
  have G10 : ∀ k, m_upd (m_upd (m_upd τ 9 p1 1) 10 p1 p2) 11 p1 p3 10 k = if k = p1 then p2 else τ 10 k := fun k => by
    rw [m_upd_ne _ _ _ _ _ (by omega), m_upd_at, m_upd_ne _ _ _ _ _ (by omega)]
    simp
  have G11 : ∀ k, m_upd (m_upd (m_upd τ 9 p1 1) 10 p1 p2) 11 p1 p3 11 k = if k = p1 then p3 else τ 11 k := fun k => by
    rw [m_upd_at, m_upd_ne _ _ _ _ _ (by omega), m_upd_ne _ _ _ _ _ (by omega)]
    simp
  have G0 := G 0 (by omega) (by omega) (by omega)
  have R2 : Rel s3 (m_upd (m_upd (m_upd τ 9 p1 1) 10 p1 p2) 11 p1 p3) := by
    refine ⟨R.1.cong (fun c h1 h2 => f c (by omega) (by omega) (by omega)) (fun c h1 h2 => G c (by omega) (by omega) (by omega)) (by rw [G0]) (by rw [G0]), R.2.1.cong (by rw [f 23 (by omega) (by omega) (by omega)]) (fun d d1 d2 => f d (by omega) (by omega) (by omega)) (by rw [G0]) (G 7 (by omega) (by omega) (by omega)), R.2.2.1.cong (f 32 (by omega) (by omega) (by omega)) (G 8 (by omega) (by omega) (by omega)), ?_, R.2.2.2.2.1.cong (f 0 (by omega) (by omega) (by omega)) (f 37 (by omega) (by omega) (by omega)) (f 41 (by omega) (by omega) (by omega)) (G 19 (by omega) (by omega) (by omega)) (by rw [G0]) (by rw [G0]) (by rw [G0]), R.2.2.2.2.2.cong (f 22 (by omega) (by omega) (by omega))⟩
    unfold RelR
    rw [e34, f 1 (by omega) (by omega) (by omega)]
    refine ⟨⟨ho.1.1, ho.1.2.2 (by omega) (by omega)⟩, fun k hk => ?_, fun k hk => ?_⟩
    · rw [ho.2 k (by omega), r2 k hk]
      simp
      omega
    · rw [ho.2 k hk.1, G9, G10, G11, e35, e36]
      by_cases w : k = p1
      · rw [if_pos w, if_pos w, if_pos w, if_pos w, if_pos w]
        simp [w]
        omega
      · rw [if_neg w, if_neg w, if_neg w, if_neg w, if_neg w]
        simp only [w, decide_false, Bool.or_false]
        exact r3 k hk
  refine B_count R2.JB R2.rd (by omega) (fun t ht => ⟨fun c => absurd c (by omega), fun c => absurd c (by omega), fun c => absurd c (by omega), fun c => absurd c (by omega), fun c => absurd c (by omega), fun c => absurd c (by omega), fun _ => ⟨?_, R2.lookB ht⟩, fun c => absurd c (by omega), fun c => absurd c (by omega), fun c => absurd c (by omega)⟩)
  rw [← R2.1.1]
  exact R2.2.2.2.1.count R2.n
theorem M_forget {σ τ : Mem} (R : Rel σ τ) : Ans (x7_forget σ) (x8_forget τ) := by
  unfold Ans x7_forget
  have hn := R.n
  have e0 : σ 1 0 = τ 0 0 := R.1.1
  refine L_bitCount R.2.2.2.1.1 (fun s3 e3 => ?_)
  apply x8_forget_i
  refine B_count R.JB R.rd (by omega) (fun t ht => ⟨fun c => absurd c (by omega), fun c => absurd c (by omega), fun c => absurd c (by omega), fun c => absurd c (by omega), fun c => absurd c (by omega), fun c => absurd c (by omega), fun _ => ?_, fun c => absurd c (by omega), fun c => absurd c (by omega), fun c => absurd c (by omega)⟩)
  have Rt := R.lookB ht
  have t00 : t 0 0 = τ 0 0 := ht.1.2 0 (by omega)
  have key : ∀ (m : Nat) (k : Int) (u : Mem), 0 ≤ k → k ≤ τ 0 0 → (τ 0 0 - k).toNat = m → (∀ c : Nat, c ≠ 9 → u c = t c) → (∀ j, 0 ≤ j → j < k → u 9 j = 0) → x8_forget_L9 (fun r' τ' => q_cnt (q_bit (σ 34 0)) 6 = r' ∧ Rel s3 τ') (q_sum (q_mark (τ 9)) (τ 0 0).toNat) k u := by
    intro m
    induction m with
    | zero =>
      intro k u h0 h1 hm hf hz
      apply x8_forget_s9
      have u0 : u 0 0 = τ 0 0 := by rw [hf 0 (by omega), t00]
      refine ⟨by omega, fun _ => ⟨?_, ?_⟩, fun c => absurd c (by omega)⟩
      · rw [← e0]
        exact R.2.2.2.1.count hn
      have f : ∀ c : Nat, c ≠ 34 → s3 c = σ c := fun c hc => by rw [e3, m_upd_ne _ _ _ _ _ hc]
      have e34 : s3 34 0 = 0 := by rw [e3, m_upd_at, if_pos ⟨rfl, rfl⟩]
      have uf := hf 0 (by omega)
      refine ⟨Rt.1.cong (fun c h1 h2 => f c (by omega)) (fun c h1 h2 => hf c (by omega)) (by rw [uf]) (by rw [uf]), Rt.2.1.cong (by rw [f 23 (by omega)]) (fun d d1 d2 => f d (by omega)) (by rw [uf]) (hf 7 (by omega)), Rt.2.2.1.cong (f 32 (by omega)) (hf 8 (by omega)), ?_, Rt.2.2.2.2.1.cong (f 0 (by omega)) (f 37 (by omega)) (f 41 (by omega)) (hf 19 (by omega)) (by rw [uf]) (by rw [uf]) (by rw [uf]), Rt.2.2.2.2.2.cong (f 22 (by omega))⟩
      unfold RelR
      rw [e34, f 1 (by omega)]
      refine ⟨by omega, fun k _ => s_zero k, fun j hj => ?_⟩
      rw [s_zero, hz j hj.1 (by have := hj.2; omega)]
      exact ⟨rfl, fun c => absurd c (by decide)⟩
    | succ m ih =>
      intro k u h0 h1 hm hf hz
      apply x8_forget_s9
      have u0 : u 0 0 = τ 0 0 := by rw [hf 0 (by omega), t00]
      refine ⟨by omega, fun c => absurd c (by omega), fun c => ⟨by omega, fun s e => ?_⟩⟩
      refine ih (k + 1) s (by omega) (by omega) (by omega) (fun c hc => by rw [e, m_upd_ne _ _ _ _ _ hc]; exact hf c hc) (fun j h0 h1 => ?_)
      rw [e, m_upd_at]
      by_cases w : j = k
      · rw [if_pos ⟨rfl, w⟩]
      · rw [if_neg (fun q => w q.2)]
        exact hz j h0 (by omega)
  exact key _ 0 t (by omega) (by omega) rfl (fun _ _ => rfl) (fun j h0 h1 => absurd h1 (by omega))
