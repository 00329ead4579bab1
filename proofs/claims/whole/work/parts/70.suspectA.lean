noncomputable def q_sus (E : Int → Int → Prop) (p n : Int) : Int := if p = -1 then (q_s2 E p n.toNat 0 (0, -1)).1 else (q_s2 E p n.toNat 0 (0, -1)).2
theorem L_suspectAt {σ : Mem} (ok : OkA σ) (h64 : 0 ≤ σ 34 0 ∧ σ 34 0 < 64) (hr : ∀ k, q_in (σ 1 0) k → c_on σ k ≠ 0 → (0 ≤ σ 35 k ∧ σ 35 k ≤ 2000) ∧ 0 ≤ σ 36 k ∧ σ 36 k ≤ 2000) {p : Int} (ip : InI p) {Q : Int → Mem → Prop} (hQ : ∀ s : Mem, FrO 7 σ s → Q (q_sus (q_expl (jA σ 5) (tA σ) (c_on σ) (σ 35) (σ 36)) p (σ 1 0)) s) : x6_suspectAt p σ Q := by
  apply x6_suspectAt_i
  have hn := ok.1.n
  have outer : ∀ (m : Nat) (i c : Int) (s : Mem), 0 ≤ i → i ≤ σ 1 0 → (σ 1 0 - i).toNat = m → FrO 7 σ s → (0 ≤ c ∧ c ≤ 7 * i) → (p < 0 ∨ c ≤ p) → q_s2 (q_expl (jA σ 5) (tA σ) (c_on σ) (σ 35) (σ 36)) p m i (c, -1) = q_s2 (q_expl (jA σ 5) (tA σ) (c_on σ) (σ 35) (σ 36)) p (σ 1 0).toNat 0 (0, -1) → x6_suspectAt_L6 Q p c i s := by
    intro m
    induction m with
    | zero =>
      intro i c s i0 i1 hm f hc hp e
      apply x6_suspectAt_s6
      have s1 := f 1 (by omega)
      have e2 : q_s2 (q_expl (jA σ 5) (tA σ) (c_on σ) (σ 35) (σ 36)) p (σ 1 0).toNat 0 (0, -1) = (c, -1) := e.symm
      have hQ := hQ s f
      unfold q_sus at hQ
      rw [e2] at hQ
      refine ⟨by rw [s1]; omega, fun _ => ⟨⟨ip, by omega⟩, fun q => ?_, fun q => ?_⟩, fun q => absurd q (by rw [s1]; omega)⟩
      · rw [if_neg q] at hQ
        exact hQ
      · rw [if_pos q] at hQ
        exact hQ
    | succ m ih =>
      intro i c s i0 i1 hm f hc hp e
      apply x6_suspectAt_s6
      have s1 := f 1 (by omega)
      have hi : q_in (σ 1 0) i := ⟨i0, by omega⟩
      have inner : ∀ (m2 : Nat) (d c : Int) (s : Mem), -3 ≤ d → d ≤ 4 → (4 - d).toNat = m2 → FrO 7 σ s → (0 ≤ c ∧ c ≤ 7 * i + d + 3) → (p < 0 ∨ c ≤ p) → q_s2 (q_expl (jA σ 5) (tA σ) (c_on σ) (σ 35) (σ 36)) p m (i + 1) (q_s1 (q_expl (jA σ 5) (tA σ) (c_on σ) (σ 35) (σ 36)) p i m2 d (c, -1)) = q_s2 (q_expl (jA σ 5) (tA σ) (c_on σ) (σ 35) (σ 36)) p (σ 1 0).toNat 0 (0, -1) → x6_suspectAt_L19 Q p c i d s := by
        intro m2
        induction m2 with
        | zero =>
          intro d c s d0 d1 hm2 f hc hp e
          apply x6_suspectAt_s19
          exact ⟨by omega, fun _ => ih (i + 1) c s (by omega) (by omega) (by omega) f (by omega) hp e, fun q => absurd q (by omega)⟩
        | succ m2 ih2 =>
          intro d c s d0 d1 hm2 f hc hp e
          apply x6_suspectAt_s19
          have oks := (ok.other (s := s) (fun c h1 h2 => f c (by omega)))
          have s34 := f 34 (by omega)
          have eo : c_on s = c_on σ := by
            funext k
            unfold c_on
            rw [s34]
          have s1 := f 1 (by omega)
          have s35 := f 35 (by omega)
          have s36 := f 36 (by omega)
          refine ⟨by omega, fun q => absurd q (by omega), fun _ => L_explains oks.1 (by rw [s34]; exact h64) (by rw [s1, eo, s35, s36]; exact hr) (i := i) (d := d) (by rw [s1]; exact hi) (by omega) (fun z u fu => ?_) (fun z u fu => ?_)⟩
          · rw [oks.2.1, oks.2.2, eo, s35, s36] at z
            rw [q_s1_yes z] at e
            have fu2 : FrO 7 σ u := fun c hc => (fu c hc).trans (f c hc)
            refine ⟨by omega, fun _ => ⟨⟨by omega, ip⟩, fun q => ?_, fun q => ?_⟩, fun c => absurd c (by omega)⟩
            · rw [if_neg (show ¬ (c, (-1 : Int)).1 = p from q)] at e
              exact ih2 (d + 1) (c + 1) u (by omega) (by omega) (by omega) fu2 (by omega) (by omega) e
            · rw [if_pos (show (c, (-1 : Int)).1 = p from q)] at e
              have a := q_s1_past (E := q_expl (jA σ 5) (tA σ) (c_on σ) (σ 35) (σ 36)) (p := p) (i := i) m2 (d + 1) ((c, (-1 : Int)).1 + 1, 10 * i + d + 3) (show p < c + 1 by omega)
              have b := q_s2_past (E := q_expl (jA σ 5) (tA σ) (c_on σ) (σ 35) (σ 36)) (p := p) m (i + 1) _ a.1
              have hQ := hQ u fu2
              unfold q_sus at hQ
              rw [if_neg (by omega), ← e, b, a.2] at hQ
              exact hQ
          · rw [oks.2.1, oks.2.2, eo, s35, s36] at z
            rw [q_s1_no z] at e
            have fu2 : FrO 7 σ u := fun c hc => (fu c hc).trans (f c hc)
            exact ⟨by omega, fun c => absurd rfl c, fun _ => ih2 (d + 1) c u (by omega) (by omega) (by omega) fu2 (by omega) hp e⟩
      exact ⟨by rw [s1]; omega, fun q => absurd q (by rw [s1]; omega), fun _ => inner 7 (-3) c s (by omega) (by omega) (by omega) f (by omega) hp e⟩
  exact outer _ 0 0 σ (by omega) (by omega) (by rw [Int.sub_zero]) (fun _ _ => rfl) (by omega) (by omega) rfl
