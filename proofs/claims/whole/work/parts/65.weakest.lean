/-! ===== the weakest bolt ===== -/
noncomputable def q_Fb (τ : Mem) (p : Int) : Int × Int := q_Fw (jB (m_upd τ 5 p 1)) (tB (m_upd τ 5 p 1)) (m_upd τ 5 p 1 7) (-1)
def q_lowb (F : Int → Int × Int) (br : Int → Int) : Nat → Int
  | 0 => -1
  | N + 1 => if br N = 0 then (if q_lowb F br N < 0 then (N : Int) else if (F N).1 * (F (q_lowb F br N)).2 < (F (q_lowb F br N)).1 * (F N).2 then (N : Int) else q_lowb F br N) else q_lowb F br N
theorem L_unmark {σ : Mem} {p v : Int} (hB : 0 ≤ σ 1 2 ∧ σ 1 2 < 64) (hp : q_in 6 p) (hv : 0 ≤ v ∧ v < 64) (hb : ∀ k, 0 ≤ k → q_bit v k = if k = p then true else q_bit (σ 1 2) k) (h0 : q_bit (σ 1 2) p = false) {s : Mem} (e : s 1 = m_upd σ 1 2 v 1) {Q : Int → Mem → Prop} (h : ∀ s' : Mem, (∀ c : Nat, c ≠ 1 → s' c = s c) → s' 1 = σ 1 → Q 0 s') : x2_markBroken p 0 s Q := by
  have e12 : s 1 2 = v := by
    rw [e, m_upd_at]
    simp
  refine L_markBroken (by rw [e12]; exact hv) hp (Or.inl rfl) (fun w w1 w2 => h _ (fun c hc => m_upd_ne _ _ _ _ _ hc) ?_)
  have ew : w = σ 1 2 := s_ext w1 hB (fun k hk => by
    rw [w2 k hk.1, e12, hb k hk.1]
    by_cases q : k = p
    · rw [if_pos q, q, h0]
      rfl
    · rw [if_neg q, if_neg q])
  funext j
  rw [m_upd_at, e, m_upd_at, ew]
  by_cases q : j = 2
  · rw [if_pos ⟨rfl, q⟩, q]
  · rw [if_neg (fun z => q z.2), if_neg (fun z => q z.2)]
theorem M_weakest {σ τ : Mem} (R : Rel σ τ) : Ans (x7_weakest σ) (x8_weakest τ) := by
  unfold Ans x7_weakest
  apply x0_findWeakest_i
  have hn := R.n
  have e0 : σ 1 0 = τ 0 0 := R.1.1
  have hJB := R.JB
  have wI : ∀ {s : Mem}, Rel s τ → InI (q_wh (c_br s) (s 1 0).toNat) := fun {s} Rs => by
    rw [q_wh_cnt]
    have := q_cnt_bd (q_bit (s 1 2)) (s 1 0).toNat
    have := Rs.n
    constructor <;> omega
  -- the reference's own run
  have refrun : ∀ s' : Mem, Rel s' τ → ¬ q_wh (τ 5) (τ 0 0).toNat = 1 → x8_weakest τ (fun r' τ' => q_lowb (q_Fb τ) (τ 5) (τ 0 0).toNat = r' ∧ Rel s' τ') := fun s' Rs' hw => by
    apply x8_weakest_i
    have wB : InI (q_wh (τ 5) (τ 0 0).toNat) := by
      rw [← R.wh]
      exact wI R
    refine B_whole (by omega) (fun k hk => (hJB.k hk).2.2.2.2) ⟨⟨wB, by omega⟩, fun _ => ?_, fun q => absurd q hw⟩
    have ref : ∀ (m : Nat) (k x a b : Int) (t : Mem), 0 ≤ k → k ≤ τ 0 0 → (τ 0 0 - k).toNat = m → FrL τ t → x = q_lowb (q_Fb τ) (τ 5) k.toNat → (x = -1 ∨ 0 ≤ x) → (0 ≤ a ∧ InL a) → (0 < b ∧ InL b) → (0 ≤ x → x < 6 ∧ b * (q_Fb τ x).1 = (q_Fb τ x).2 * a ∧ 0 < (q_Fb τ x).2) → x8_weakest_L20 (fun r' τ' => q_lowb (q_Fb τ) (τ 5) (τ 0 0).toNat = r' ∧ Rel s' τ') x a b k t := by
      intro m
      induction m with
      | zero =>
        intro k x a b t k0 k1 hm f hx hx1 ha hb hl
        apply x8_weakest_s20
        have t0 := f.2 0 (by omega) (by omega) (by omega) (by omega)
        refine ⟨by rw [t0]; omega, fun _ => ⟨by rw [hx, show k = τ 0 0 by omega], Rs'.same (SameA.refl s') f.same⟩, fun c => absurd c (by rw [t0]; omega)⟩
      | succ m ih =>
        intro k x a b t k0 k1 hm f hx hx1 ha hb hl
        apply x8_weakest_s20
        have t0 := f.2 0 (by omega) (by omega) (by omega) (by omega)
        have t5 : t 5 = τ 5 := f.1 5 (by omega) (by omega) (by omega) (by omega) (by omega)
        have hk : q_in (τ 0 0) k := ⟨k0, by omega⟩
        have hbk := (hJB.k hk).2.2.2.2
        have en : q_lowb (q_Fb τ) (τ 5) (k + 1).toNat = if τ 5 k = 0 then (if x < 0 then k else if (q_Fb τ k).1 * (q_Fb τ x).2 < (q_Fb τ x).1 * (q_Fb τ k).2 then k else x) else x := by
          rw [show (k + 1).toNat = k.toNat + 1 by omega, q_lowb, show ((k.toNat : Nat) : Int) = k by omega, ← hx]
        refine ⟨by rw [t0]; omega, fun c => absurd c (by rw [t0]; omega), fun _ => ⟨by omega, ?_⟩⟩
        rw [t5]
        refine ⟨by omega, fun w => ih (k + 1) x a b t (by omega) (by omega) (by omega) f (by rw [en, if_neg w]) hx1 ha hb hl, fun w => ⟨by omega, fun s4 e4 => ?_⟩⟩
        -- bolt k broken for a while
        have hwJ : ∃ i, q_in (τ 0 0) i ∧ i ≠ k ∧ τ 5 i = 0 := by
          obtain ⟨i, i1, i2, i3⟩ := q_wh_two (br := τ 5) (N := (τ 0 0).toNat) (p := k) ⟨k0, by omega⟩ w hw
          exact ⟨i, ⟨i1.1, by have := i1.2; omega⟩, i2, i3⟩
        have j4 : JB s4 := by
          unfold JB q_ok
          rw [e4, m_upd_ne _ _ _ _ _ (by omega), m_upd_ne _ _ _ _ _ (by omega), m_upd_ne _ _ _ _ _ (by omega), m_upd_ne _ _ _ _ _ (by omega), m_upd_ne _ _ _ _ _ (by omega), t0, f.2 1 (by omega) (by omega) (by omega) (by omega), f.1 1 (by omega) (by omega) (by omega) (by omega) (by omega), f.1 2 (by omega) (by omega) (by omega) (by omega) (by omega), f.1 3 (by omega) (by omega) (by omega) (by omega) (by omega), f.1 4 (by omega) (by omega) (by omega) (by omega) (by omega)]
          refine ⟨hJB.1, hJB.2.1, fun i hi => ?_, ?_⟩
          · have a := hJB.2.2.1 i hi
            refine ⟨a.1, a.2.1, a.2.2.1, a.2.2.2.1, ?_⟩
            rw [m_upd_at, t5]
            split
            · exact Or.inr rfl
            · exact a.2.2.2.2
          · obtain ⟨i, i1, i2, i3⟩ := hwJ
            refine ⟨i, i1, ?_⟩
            rw [m_upd_at, if_neg (fun z => i2 z.2), t5]
            exact i3
        refine B_findLeak j4 (fun u hu s5 f5 e28 e26 e27 => ⟨by omega, fun s6 e6 => ?_⟩)
        have g := hu.1
        have ok4 : OkB s4 := ⟨j4, fun i hi => by
          rw [e4, m_upd_ne _ _ _ _ _ (by omega)] at hi ⊢
          rw [t0] at hi
          rw [f.1 3 (by omega) (by omega) (by omega) (by omega) (by omega)]
          exact R.okB.2 i hi⟩
        have lk := B_leakLike ok4 (p := -1) (Or.inl rfl) (v := s4) ⟨rfl, rfl, rfl, rfl, rfl, rfl, fun i _ => rfl⟩ j4 hu
        have eF : q_Fw (jB s4) (tB s4) (s4 7) (-1) = q_Fb τ k := by
          have h1 : jB s4 = jB (m_upd τ 5 k 1) := by
            unfold jB
            rw [e4, m_upd_ne _ _ _ _ 0 (by omega), m_upd_ne _ _ _ _ 1 (by omega), m_upd_ne _ _ _ _ 2 (by omega), m_upd_ne _ _ _ _ 4 (by omega), m_upd_ne _ _ _ _ 0 (by omega), m_upd_ne _ _ _ _ 1 (by omega), m_upd_ne _ _ _ _ 2 (by omega), m_upd_ne _ _ _ _ 4 (by omega), t0, f.2 1 (by omega) (by omega) (by omega) (by omega), f.1 1 (by omega) (by omega) (by omega) (by omega) (by omega), f.1 2 (by omega) (by omega) (by omega) (by omega) (by omega), f.1 4 (by omega) (by omega) (by omega) (by omega) (by omega)]
            have : m_upd t 5 k 1 5 = m_upd τ 5 k 1 5 := by
              funext i
              rw [m_upd_at, m_upd_at, t5]
            rw [this]
          have h2 : tB s4 = tB (m_upd τ 5 k 1) := by
            unfold tB
            rw [e4, m_upd_ne _ _ _ _ 0 (by omega), m_upd_ne _ _ _ _ 3 (by omega), m_upd_ne _ _ _ _ 0 (by omega), m_upd_ne _ _ _ _ 3 (by omega), t0, f.1 3 (by omega) (by omega) (by omega) (by omega) (by omega)]
          have h3 : s4 7 = m_upd τ 5 k 1 7 := by
            rw [e4, m_upd_ne _ _ _ _ 7 (by omega), m_upd_ne _ _ _ _ 7 (by omega), f.1 7 (by omega) (by omega) (by omega) (by omega) (by omega)]
          unfold q_Fb
          rw [h1, h2, h3]
        rw [eF] at lk
        have hru := hu.rdy j4
        obtain ⟨g1, g2, g3⟩ := B_frac hru e26 e27
        have lk2 := q_frac_like hru.2.2.1.1 lk.2 g3
        have s60 : s6 0 = s5 0 := by rw [e6, m_upd_ne _ _ _ _ _ (by omega)]
        have f6 : FrL τ s6 := by
          refine ⟨fun c c0 c12 c13 c14 c18 => ?_, fun j j1 j2 j3 j4 => ?_⟩
          · by_cases q : c = 5
            · rw [q, e6]
              funext i
              rw [m_upd_at, f5.1 5 (by omega), g.1 5 (by omega) (by omega) (by omega) (by omega), e4, m_upd_at, t5]
              by_cases v : i = k
              · rw [if_pos ⟨rfl, v⟩, v, w]
              · rw [if_neg (fun z => v z.2), if_neg (fun z => v z.2)]
            · rw [e6, m_upd_ne _ _ _ _ _ q, f5.1 c c0, g.1 c c0 c12 c13 c14, e4, m_upd_ne _ _ _ _ _ q]
              exact f.1 c c0 c12 c13 c14 c18
          · rw [s60, f5.2 j j2 j3 j4, g.2 j j1, e4, m_upd_ne _ _ _ _ _ (by omega)]
            exact f.2 j j1 j2 j3 j4
        rw [s60]
        have take : (x < 0 ∨ (0 ≤ x ∧ (q_Fb τ k).1 * (q_Fb τ x).2 < (q_Fb τ x).1 * (q_Fb τ k).2)) → x8_weakest_L80 (fun r' τ' => q_lowb (q_Fb τ) (τ 5) (τ 0 0).toNat = r' ∧ Rel s' τ') k s6 := fun hy => by
          apply x8_weakest_s80
          refine ih (k + 1) k (s6 0 26) (s6 0 27) s6 (by omega) (by omega) (by omega) f6 ?_ (Or.inr k0) (by rw [s60]; exact g1) (by rw [s60]; exact g2) (fun _ => ⟨by omega, by rw [s60]; exact lk2, lk.1⟩)
          rw [en, if_pos w]
          rcases hy with q | q
          · rw [if_pos q]
          · rw [if_neg (by omega), if_pos q.2]
        refine ⟨by constructor <;> omega, fun q => take (Or.inl q), fun q => ?_⟩
        have hl := hl q
        have cmp := q_less g2.1 hb.1 lk.1 hl.2.2 lk2 hl.2.1
        refine B_held g1 g2 ha hb (fun r ir hr => ⟨ir, fun v => ?_, fun v => take (Or.inr ⟨q, cmp.mp (hr.mp v)⟩)⟩)
        refine ih (k + 1) x a b s6 (by omega) (by omega) (by omega) f6 ?_ hx1 ha hb (fun _ => hl)
        rw [en, if_pos w, if_neg (by omega), if_neg (fun z => by have := hr.mpr (cmp.mpr z); omega)]
    exact ref _ 0 (-1) 0 1 τ (by omega) (by omega) rfl (FrL.refl τ) rfl (Or.inl rfl) ⟨by omega, by omega⟩ ⟨by omega, by omega⟩ (fun c => absurd c (by omega))
  by_cases hw : q_wh (τ 5) (τ 0 0).toNat = 1
  · apply x0_findWeakest_s5
    have hw2 : q_wh (c_br σ) (σ 1 0).toNat = 1 := by
      rw [R.wh]
      exact hw
    refine ⟨by omega, fun c => absurd c (by omega), fun _ => L_wholeCount hn R.bd.1 R.bd.2 ⟨⟨wI R, by omega⟩, fun _ => ?_, fun c => absurd c (by omega)⟩⟩
    apply x8_weakest_i
    exact B_whole (by omega) (fun k hk => (hJB.k hk).2.2.2.2) ⟨⟨by rw [hw]; omega, by omega⟩, fun q => absurd hw q, fun _ => ⟨rfl, R⟩⟩
  have wge : ∀ {k : Int}, q_in (τ 0 0) k → τ 5 k = 0 → 1 < q_wh (τ 5) (τ 0 0).toNat := fun {k} hk h0 => by
    have := (q_wh_one (br := τ 5) (N := (τ 0 0).toNat) (fun i hi => (hJB.k ⟨hi.1, by have := hi.2; omega⟩).2.2.2.2) (p := k) ⟨hk.1, by have := hk.2; omega⟩ h0).1
    omega
  have wgt : 1 < q_wh (τ 5) (τ 0 0).toNat := by
    obtain ⟨k, hk, h0⟩ := hJB.2.2.2
    exact wge hk h0
  have key : ∀ (m : Nat) (k x : Int) (s : Mem), 0 ≤ k → k ≤ σ 1 0 → (σ 1 0 - k).toNat = m → Rel s τ → x = q_lowb (q_Fb τ) (τ 5) k.toNat → (x = -1 ∨ (0 ≤ x ∧ x < 6)) → (0 ≤ x → ((0 ≤ s 23 2 ∧ InL (s 23 2)) ∧ 0 < s 23 3 ∧ s 23 3 ≤ 2176782336) ∧ s 23 3 * (q_Fb τ x).1 = (q_Fb τ x).2 * s 23 2 ∧ 0 < (q_Fb τ x).2) → x0_findWeakest_L5 (fun r σ' => x8_weakest τ fun r' τ' => r = r' ∧ Rel σ' τ') x k s := by
    intro m
    induction m with
    | zero =>
      intro k x s k0 k1 hm Rs hx hx1 hI
      apply x0_findWeakest_s5
      have s10 : s 1 0 = σ 1 0 := by rw [Rs.1.1, e0]
      refine ⟨by omega, fun _ => ?_, fun c => absurd c (by omega)⟩
      rw [hx, show k = τ 0 0 by omega]
      exact refrun s Rs hw
    | succ m ih =>
      intro k x s k0 k1 hm Rs hx hx1 hI
      apply x0_findWeakest_s5
      have s10 : s 1 0 = σ 1 0 := by rw [Rs.1.1, e0]
      have hk : q_in (s 1 0) k := ⟨k0, by omega⟩
      have hkB : q_in (τ 0 0) k := ⟨k0, by omega⟩
      have ws : 1 < q_wh (c_br s) (s 1 0).toNat := by
        rw [Rs.wh]
        exact wgt
      have ebk := Rs.brk hk
      have en : q_lowb (q_Fb τ) (τ 5) (k + 1).toNat = if τ 5 k = 0 then (if x < 0 then k else if (q_Fb τ k).1 * (q_Fb τ x).2 < (q_Fb τ x).1 * (q_Fb τ k).2 then k else x) else x := by
        rw [show (k + 1).toNat = k.toNat + 1 by omega, q_lowb, show ((k.toNat : Nat) : Int) = k by omega, ← hx]
      refine ⟨by omega, fun c => absurd c (by omega), fun _ => L_wholeCount Rs.n Rs.bd.1 Rs.bd.2 ⟨⟨wI Rs, by omega⟩, fun c => absurd c (by omega), fun _ => L_isBroken Rs.bd.1 (by omega) ⟨by unfold c_br; split <;> omega, fun w => ?_, fun w => ?_⟩⟩⟩
      · have w' : q_bit (s 1 2) k = false := by
          unfold c_br at w
          revert w
          cases q_bit (s 1 2) k <;> simp
        refine L_markBroken Rs.bd.1 ⟨k0, by omega⟩ (Or.inr rfl) (fun v v1 v2 => ?_)
        have hwJ : ∃ i, q_in (s 1 0) i ∧ q_bit v i = false := by
          obtain ⟨i, i1, i2, i3⟩ := q_wh_two (br := c_br s) (N := (s 1 0).toNat) (p := k) ⟨k0, by omega⟩ w (by omega)
          refine ⟨i, ⟨i1.1, by have := i1.2; omega⟩, ?_⟩
          rw [v2 i i1.1, if_neg i2]
          unfold c_br at i3
          revert i3
          cases q_bit (s 1 2) i <;> simp
        have R5 := Rs.brok hk (x := 1) (Or.inr rfl) v1 v2 hwJ
        refine L_settle (Or.inl rfl) rfl (Or.inl (by omega)) R5.1.2.2.2.1 (fun s6 hA => ?_)
        have lk := L_leakLike R5 (p := -1) (Or.inl rfl) (s := s6) hA
        rw [R5.j, R5.t] at lk
        have lk : 0 < (q_Fb τ k).2 ∧ s6 7 1 * (q_Fb τ k).1 = (q_Fb τ k).2 * rA 7 s6 (q_amin (rA 7 s6) (s6 1 0).toNat) := lk
        have hrd6 := hA.rdy (Or.inl rfl) R5.1.2.2.2.1
        have s61 : s6 1 = m_upd s 1 2 v 1 := hA.1 1 (by omega)
        refine L_unmark Rs.bd.1 ⟨k0, by omega⟩ v1 (fun i hi => by rw [v2 i hi]; rfl) w' s61 (fun s7 f7 e71 => ?_)
        have s610 : s6 1 0 = s 1 0 := by
          rw [s61, m_upd_at]
          simp
        have g7 : ∀ c : Nat, (c < 7 ∨ 13 ≤ c) → s7 c = s c := fun c hc => by
          by_cases q : c = 1
          · rw [q]
            exact e71
          · rw [f7 c q, hA.1 c (by omega), m_upd_ne _ _ _ _ _ q]
        have R7 : Rel s7 τ := Rs.same ⟨⟨fun c h1 h2 h3 h4 => g7 c (by omega), by rw [g7 23 (by omega)]⟩, g7 4 (by omega)⟩ (SameB.refl τ)
        have hrd7 : RdyA 7 s7 := by
          obtain ⟨r1, r2, r3, r4, r5⟩ := hrd6
          unfold RdyA
          rw [e71, f7 2 (by omega), f7 3 (by omega), f7 4 (by omega), f7 7 (by omega), f7 (7 + 1) (by omega)]
          rw [s610] at r1 r3 r5
          exact ⟨r1, Rs.bd.1, r3, r4, r5⟩
        have er : rA 7 s7 = rA 7 s6 := by
          funext i
          unfold rA
          rw [f7 3 (by omega), f7 (7 + 1) (by omega)]
        have e710 : s7 1 0 = s6 1 0 := by rw [e71, s610]
        have e77 : s7 7 1 = s6 7 1 := by rw [f7 7 (by omega)]
        rw [← er, ← e710, ← e77] at lk
        have s23 := g7 23 (by omega)
        have bD := hrd7.2.2.2.1
        have ha := q_amin_in (rA 7 s7) (s7 1 0).toNat (by have := hrd7.1; omega)
        have bb := hrd7.r (k := q_amin (rA 7 s7) (s7 1 0).toNat) ⟨ha.1, by have := ha.2; have := hrd7.1; omega⟩
        have w5 : τ 5 k = 0 := by
          rw [← ebk]
          exact w
        have next : ∀ t0 : Int, t0 = (if x = -1 then 1 else 0) → x0_findWeakest_L70 (fun r σ' => x8_weakest τ fun r' τ' => r = r' ∧ Rel σ' τ') x k t0 s7 := fun t0 ht0 => by
          apply x0_findWeakest_s70
          have cmp : 0 ≤ x → (rA 7 s7 (q_amin (rA 7 s7) (s7 1 0).toNat) * s 23 3 < s 23 2 * s7 7 1 ↔ (q_Fb τ k).1 * (q_Fb τ x).2 < (q_Fb τ x).1 * (q_Fb τ k).2) := fun h => by
            have I := hI h
            exact q_less bD.1 I.1.2.1 lk.1 I.2.2 lk.2 I.2.1
          refine L_leaksMost R7 hrd7 (U := s 23 2) (W := s 23 3) (by rw [ht0]; split <;> omega) (by rw [s23]) (by rw [s23]) (fun z => (hI (by rw [ht0] at z; split at z <;> omega)).1) (fun z hn2 => ⟨by omega, fun _ => ?_, fun c => absurd rfl c⟩) (fun hy s2 R2 e2 e3 => ⟨by omega, fun c => absurd c (by omega), fun _ => ?_⟩)
          · have hx0 : 0 ≤ x := by
              rw [ht0] at z
              split at z <;> omega
            refine ih (k + 1) x s7 (by omega) (by omega) (by omega) R7 ?_ hx1 (fun h => by rw [s23]; exact hI h)
            rw [en, if_pos w5, if_neg (by omega), if_neg (fun q => hn2 ((cmp hx0).mpr q))]
          · refine ih (k + 1) k s2 (by omega) (by omega) (by omega) R2 ?_ (Or.inr ⟨k0, by omega⟩) (fun _ => ?_)
            · rw [en, if_pos w5]
              by_cases q : x < 0
              · rw [if_pos q]
              · rw [if_neg q]
                rcases hy with z | z
                · rw [ht0, if_neg (by omega)] at z
                  omega
                · rw [if_pos ((cmp (by omega)).mp z)]
            · rw [e2, e3]
              exact ⟨⟨⟨bb.1, by constructor <;> omega⟩, bD⟩, lk.2, lk.1⟩
        exact ⟨by constructor <;> omega, fun q => next 0 (by rw [if_neg q]), fun q => next 1 (by rw [if_pos q])⟩
      · refine ih (k + 1) x s (by omega) (by omega) (by omega) Rs ?_ hx1 hI
        rw [en, if_neg (by rw [← ebk]; exact w)]
  exact key _ 0 (-1) σ (by omega) (by omega) rfl R rfl (Or.inl rfl) (fun c => absurd c (by omega))
