theorem M_even {σ τ : Mem} (R : Rel σ τ) {p1 p2 : Int} (i1 : InI p1) (i2 : InI p2) : Ans (x7_even p1 p2 σ) (x8_even p1 p2 τ) := by
  unfold Ans
  apply x7_even_i
  have hn := R.n
  have e0 : σ 1 0 = τ 0 0 := R.1.1
  have hev := q_evn_tu (j := jA σ 5) (t := p1) hn 1202 _ (q_zer_tu (j := jA σ 5) (tu := tA σ) R.okA.tu)
  -- the reference
  have ref : ∀ {P : Int → Mem → Prop}, (p2 ≠ -1 → ¬ q_in (σ 1 0) p2 → P (-100001) τ) → (p2 = -1 ∨ q_in (σ 1 0) p2 → ¬ (1 ≤ p1 ∧ p1 ≤ 900) → P (-100002) τ) → (p2 = -1 ∨ q_in (σ 1 0) p2 → (1 ≤ p1 ∧ p1 ≤ 900) → ∀ t : Mem, SameBT τ t → tB t = tB τ → P (if (q_evn (jA σ 5) p1 1202 (q_zer (jA σ 5) (tA σ))).1 = 0 then -100003 else if p2 = -1 then q_sum (q_evn (jA σ 5) p1 1202 (q_zer (jA σ 5) (tA σ))).2 (σ 1 0).toNat else (q_evn (jA σ 5) p1 1202 (q_zer (jA σ 5) (tA σ))).2 p2) t) → x8_even p1 p2 τ P := fun {P} k1 k2 k3 => by
    apply x8_even_i
    have main : (p2 = -1 ∨ q_in (σ 1 0) p2) → x8_even_L16 P p1 p2 τ := fun hp => by
      apply x8_even_s16
      refine B_isAim i1 (fun b => ⟨by omega, fun _ => B_keep (by omega) (fun u1 g1 h1 => ?_), fun c => absurd c (by omega)⟩) (fun b => ⟨by omega, fun c => absurd rfl c, fun _ => k2 hp b⟩)
      have k3 := k3 hp b
      have u10 : u1 0 = τ 0 := g1 0 (by omega)
      obtain ⟨oku1, tu1, ju1⟩ := R.okB.other (fun c h1 h2 => g1 c (by omega)) (by rw [u10]) (by rw [u10])
      refine B_even oku1 b (fun u g oku eu => ?_)
      rw [tu1, ju1] at eu ⊢
      rw [R.j, R.t] at k3 hev
      have gu : ∀ c : Nat, c ≠ 0 → c ≠ 3 → c < 12 ∨ c = 19 → u c = τ c := fun c c0 c3 hc => by rw [g.1 c c0 c3 (by omega) (by omega) (by omega), g1 c (by omega)]
      have gu0 : ∀ j : Int, j ≠ 15 → u 0 j = τ 0 j := fun j h1 => by rw [g.2 j h1, u10]
      have u00 := gu0 0 (by omega)
      have bT : SameBT τ u := ⟨gu, gu0 0 (by omega), gu0 1 (by omega), gu0 8 (by omega), gu0 30 (by omega), gu0 33 (by omega), gu0 36 (by omega)⟩
      have u3 : ∀ k, q_in (τ 0 0) k → u 3 k = (q_evn (jB τ) p1 1202 (q_zer (jB τ) (tB τ))).2 k := fun k hk => by
        rw [← eu]
        unfold tB
        rw [u00]
        exact (q_nrm_in hk).symm
      have back : ∀ r : Int, r = (if (q_evn (jB τ) p1 1202 (q_zer (jB τ) (tB τ))).1 = 0 then -100003 else if p2 = -1 then q_sum (q_evn (jB τ) p1 1202 (q_zer (jB τ) (tB τ))).2 (σ 1 0).toNat else (q_evn (jB τ) p1 1202 (q_zer (jB τ) (tB τ))).2 p2) → x8_back u (fun _ s => P r s) := fun r hr => by
        refine B_back (by rw [u00]; omega) (fun v gv hv => ?_)
        rw [hr]
        refine k3 v ⟨fun c c0 c3 hc => by rw [gv c c3, gu c c0 c3 hc], ?_⟩ ?_
        · rw [gv 0 (by omega)]
          exact bT.2
        · refine tB_back (by rw [gv 0 (by omega), u00]) (fun k hk => ?_)
          rw [hv k (by rw [u00]; exact hk), g.1 16 (by omega) (by omega) (by omega) (by omega) (by omega), h1 k hk]
      have key : ∀ (m : Nat) (k : Int), 0 ≤ k → k ≤ τ 0 0 → (τ 0 0 - k).toNat = m → x8_even_L42 P p2 (q_evn (jB τ) p1 1202 (q_zer (jB τ) (tB τ))).1 (q_sum (u 3) k.toNat) k u := by
        intro m
        induction m with
        | zero =>
          intro k k0 k1 hm
          apply x8_even_s42
          obtain rfl : k = τ 0 0 := by omega
          refine ⟨by rw [u00]; omega, fun _ => ⟨by rcases hev.2 with w | w <;> rw [w] <;> omega, fun w => ⟨i2, fun w2 => ?_, fun w2 => back _ ?_⟩, fun w => back _ (by rw [if_pos w])⟩, fun c => absurd c (by rw [u00]; omega)⟩
          · have hk : q_in (τ 0 0) p2 := by
              rcases hp with q | q
              · omega
              · rw [← e0]
                exact q
            have k2 := hk.2
            refine ⟨by omega, back _ ?_⟩
            rw [if_neg w, if_neg (by omega)]
            exact u3 p2 hk
          · have : p2 = -1 := by
              rcases hp with q | q
              · exact q
              · have := q.1
                omega
            rw [if_neg w, if_pos this, e0]
            exact q_sum_congr _ (fun k hk => u3 k ⟨hk.1, by have := hk.2; omega⟩)
        | succ m ih =>
          intro k k0 k1 hm
          have nxt := ih (k + 1) (by omega) (by omega) (by omega)
          rw [show (k + 1).toNat = k.toNat + 1 by omega, q_sum, show ((k.toNat : Nat) : Int) = k by omega] at nxt
          apply x8_even_s42
          exact ⟨by rw [u00]; omega, fun c => absurd c (by rw [u00]; omega), fun _ => ⟨by omega, nxt⟩⟩
      exact key _ 0 (by omega) (by omega) rfl
    refine ⟨⟨i2, by omega⟩, fun q => main (Or.inl q), fun q => B_noBolt i2 (by omega) (fun a => ⟨by omega, fun _ => main (Or.inr (by rw [e0]; exact a)), fun c => absurd rfl c⟩) (fun a => ⟨by omega, fun c => absurd c (by omega), fun _ => k1 q (by rw [e0]; exact a)⟩)⟩
  have main : (p2 = -1 ∨ q_in (σ 1 0) p2) → x7_even_L19 (fun r σ' => x8_even p1 p2 τ fun r' τ' => r = r' ∧ Rel σ' τ') p1 p2 σ := fun hp => by
    apply x7_even_s19
    refine L_within i1 (by omega) (by omega) (fun b => ⟨by omega, fun _ => L_keepTurns (fun s1 f1 k1 => ?_), fun c => absurd c (by omega)⟩) (fun b => ⟨by omega, fun c => absurd rfl c, fun _ => ref (fun q1 q2 => absurd hp (fun z => by rcases z with z | z; exact q1 z; exact q2 z)) (fun _ _ => ⟨rfl, R⟩) (fun _ q => absurd q b)⟩)
    obtain ⟨ok1, t1, j1⟩ := R.okA.other (fun c h1 h2 => f1 c (by omega))
    have hN1 : RelN s1 := R.2.2.2.2.2.cong (f1 22 (by omega))
    refine L_even ok1 hN1 b (fun s f ok e => ?_)
    rw [t1, j1] at e ⊢
    have fs : ∀ c : Nat, c ≠ 4 → c < 14 ∨ 20 < c → s c = σ c := fun c h4 h => by rw [f c h4 (by omega), f1 c (by omega)]
    have aT : SameAT σ s := ⟨fun c h1 h2 _ _ => fs c h1 (by omega), by rw [fs 23 (by omega) (by omega)]⟩
    have s1' := fs 1 (by omega) (by omega)
    have s4 : ∀ k, q_in (σ 1 0) k → s 4 k = (q_evn (jA σ 5) p1 1202 (q_zer (jA σ 5) (tA σ))).2 k := fun k hk => by
      rw [← e]
      unfold tA
      rw [s1']
      exact (q_nrm_in hk).symm
    have fin : ∀ t0 : Int, t0 = (if p2 = -1 then q_sum (q_evn (jA σ 5) p1 1202 (q_zer (jA σ 5) (tA σ))).2 (σ 1 0).toNat else (q_evn (jA σ 5) p1 1202 (q_zer (jA σ 5) (tA σ))).2 p2) → x7_even_L88 (fun r σ' => x8_even p1 p2 τ fun r' τ' => r = r' ∧ Rel σ' τ') (q_evn (jA σ 5) p1 1202 (q_zer (jA σ 5) (tA σ))).1 t0 s := fun t0 ht0 => by
      apply x7_even_s88
      refine L_putBack (fun v fv hv => ?_)
      obtain ⟨okv, etv⟩ := R.okA.back (s := v) (fun c h1 h2 h3 => by rw [fv c h3, fs c h3 (by omega)]) (fun k hk => by
        have h1 := hk.1
        have h2 := hk.2
        rw [hv k ⟨h1, by omega⟩, f 20 (by omega) (by omega), k1 k ⟨h1, by omega⟩])
      have aV : SameAT σ v := ⟨fun c h1 h2 h3 h4 => by rw [fv c h1]; exact aT.1 c h1 h2 h3 h4, by rw [fv 23 (by omega)]; exact aT.2⟩
      have no1 : p2 ≠ -1 → ¬ q_in (σ 1 0) p2 → False := fun q1 q2 => by
        rcases hp with z | z
        · exact q1 z
        · exact q2 z
      refine ⟨by rcases hev.2 with w | w <;> rw [w] <;> omega, fun w => ref (fun q1 q2 => absurd (no1 q1 q2) id) (fun _ q => absurd b q) (fun _ _ t bT et => ⟨by rw [if_pos w], R.drawn aV bT okv (by rw [etv, et, R.t])⟩), fun w => ref (fun q1 q2 => absurd (no1 q1 q2) id) (fun _ q => absurd b q) (fun _ _ t bT et => ⟨by rw [if_neg w, ht0], R.drawn aV bT okv (by rw [etv, et, R.t])⟩)⟩
    refine ⟨⟨i2, by omega⟩, fun w => ?_, fun w => L_sumOf rfl (by rw [s1']; exact hn) (fin _ ?_)⟩
    · have hk : q_in (σ 1 0) p2 := by
        rcases hp with q | q
        · exact absurd q w
        · exact q
      have h1 := hk.1
      have h2 := hk.2
      refine ⟨by omega, fin _ ?_⟩
      rw [if_neg w]
      exact s4 p2 hk
    · rw [if_pos w, s1']
      exact q_sum_congr _ (fun k hk => s4 k ⟨hk.1, by have := hk.2; omega⟩)
  refine ⟨⟨i2, by omega⟩, fun q => main (Or.inl q), fun q => L_has i2 hn (fun a => ⟨by omega, fun _ => main (Or.inr a), fun c => absurd c (by omega)⟩) (fun a => ⟨by omega, fun c => absurd rfl c, fun _ => ref (fun _ _ => ⟨rfl, R⟩) (fun z => absurd z (fun z => by rcases z with z | z; exact q z; exact a z)) (fun z => absurd z (fun z => by rcases z with z | z; exact q z; exact a z))⟩)⟩
