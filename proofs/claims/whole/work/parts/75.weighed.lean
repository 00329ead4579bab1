/-! ===== chance: one way weighed ===== -/
def q_win (j : JT) (tu : Int → Int) (a b : Int) : Prop := q_fits j tu (fun k => if j.2.2.2.2.2 k = 0 then 1 else 0) (fun _ => a) (fun _ => b)
theorem L_allLie {σ : Mem} (hJ : JA σ 5) {a b : Int} (ha : 0 ≤ a ∧ a ≤ 2000) (hb : 0 ≤ b ∧ b ≤ 2000) {Q : Int → Mem → Prop} (h1 : q_win (jA σ 5) (tA σ) a b → ∀ s : Mem, FrO 7 σ s → Q 1 s) (h0 : ¬ q_win (jA σ 5) (tA σ) a b → ∀ s : Mem, FrO 7 σ s → Q 0 s) : x4_allLie a b σ Q := by
  apply x4_allLie_i
  refine L_settle (Or.inl rfl) rfl (Or.inl (by omega)) hJ (fun s hS => ?_)
  have hn := hJ.n
  have f := hS.1
  have e1 := f 1 (by omega)
  have hrd := hS.rdy (Or.inl rfl) hJ
  have iff := q_fits_iff (on := fun k => if (jA σ 5).2.2.2.2.2 k = 0 then 1 else 0) (lo := fun _ => a) (hi := fun _ => b) hJ.okJ hS.isL
  have ebr : ∀ k, q_in (σ 1 0) k → (jA σ 5).2.2.2.2.2 k = c_br σ k := fun k hk => q_nrm_in hk
  have key : ∀ (m : Nat) (k : Int), 0 ≤ k → k ≤ σ 1 0 → (σ 1 0 - k).toNat = m → (∀ i, 0 ≤ i → i < k → c_br σ i = 0 → a * s 7 1 ≤ pA 7 s i ∧ pA 7 s i ≤ b * s 7 1) → x4_allLie_L12 Q a b k s := by
    intro m
    induction m with
    | zero =>
      intro k k0 k1 hm hall
      apply x4_allLie_s12
      refine ⟨by rw [e1]; omega, fun _ => ⟨by omega, h1 (iff.mpr (fun i hi ho => ?_)) s f⟩, fun c => absurd c (by rw [e1]; omega)⟩
      have hi2 : q_in (σ 1 0) i := hi
      have i2 := hi2.2
      rw [← hS.pull2 (Or.inl rfl) hi2]
      refine hall i hi.1 (by omega) ?_
      rw [← ebr i hi2]
      refine Classical.byContradiction (fun z => ho ?_)
      show (if (jA σ 5).2.2.2.2.2 i = 0 then (1 : Int) else 0) = 0
      rw [if_neg z]
    | succ m ih =>
      intro k k0 k1 hm hall
      have hk : q_in (σ 1 0) k := ⟨k0, by omega⟩
      have hks : q_in (s 1 0) k := by rw [e1]; exact hk
      apply x4_allLie_s12
      refine ⟨by rw [e1]; omega, fun c => absurd c (by rw [e1]; omega), fun _ => L_isBroken hrd.2.1 (by omega) ?_⟩
      rw [c_br_congr e1]
      refine ⟨by unfold c_br; split <;> omega, fun w => ih (k + 1) (by omega) (by omega) (by omega) (fun i i0 i1 ho => ?_), fun w => L_pullLies hrd hks ha hb (fun q => ⟨by omega, fun _ => ih (k + 1) (by omega) (by omega) (by omega) (fun i i0 i1 hoi => ?_), fun c => absurd c (by omega)⟩) (fun q => ⟨by omega, fun c => absurd rfl c, fun _ => ⟨by omega, h0 (fun z => q ?_) s f⟩⟩)⟩
      · by_cases v : i = k
        · exact absurd (by rw [← v]; exact ho) w
        · exact hall i i0 (by omega) ho
      · by_cases v : i = k
        · rw [v]
          exact q
        · exact hall i i0 (by omega) hoi
      · have := iff.mp z k hk (by
          show (if (jA σ 5).2.2.2.2.2 k = 0 then (1 : Int) else 0) ≠ 0
          rw [if_pos (by rw [ebr k hk]; exact w)]
          omega)
        rw [← hS.pull2 (Or.inl rfl) hk] at this
        exact this
  exact key _ 0 (by omega) (by omega) rfl (fun i i0 i1 => absurd i1 (by omega))
theorem q_pow9 {n : Nat} (h : n ≤ 6) : (9 : Int) ^ n ≤ 531441 := by
  rcases (show n = 0 ∨ n = 1 ∨ n = 2 ∨ n = 3 ∨ n = 4 ∨ n = 5 ∨ n = 6 by omega) with q | q | q | q | q | q | q <;> subst q <;> decide
theorem B_weighed {τ : Mem} (hJ : JB τ) (hk : ∀ k, q_in (τ 0 0) k → 0 ≤ τ 16 k ∧ τ 16 k ≤ 200) (hw : ∀ k, q_in 3 k → 0 ≤ τ 8 k ∧ τ 8 k ≤ 9) {a b x : Int} (ha : 0 ≤ a ∧ a ≤ 2000) (hb : 0 ≤ b ∧ b ≤ 2000) (hx : 0 ≤ x ∧ InI x) {Q : Int → Mem → Prop}
    (hQ : ∀ r : Int, ((q_mis (jB τ).2.2.2.2.2 (q_nrm 3 (τ 8)) (q_nrm (τ 0 0) (τ 16)) (τ 0 0).toNat 0 1 x (tB τ)).1 ≤ 0 → r = 0) → (0 < (q_mis (jB τ).2.2.2.2.2 (q_nrm 3 (τ 8)) (q_nrm (τ 0 0) (τ 16)) (τ 0 0).toNat 0 1 x (tB τ)).1 → (q_win (jB τ) (q_mis (jB τ).2.2.2.2.2 (q_nrm 3 (τ 8)) (q_nrm (τ 0 0) (τ 16)) (τ 0 0).toNat 0 1 x (tB τ)).2 a b → r = (q_mis (jB τ).2.2.2.2.2 (q_nrm 3 (τ 8)) (q_nrm (τ 0 0) (τ 16)) (τ 0 0).toNat 0 1 x (tB τ)).1) ∧ (¬ q_win (jB τ) (q_mis (jB τ).2.2.2.2.2 (q_nrm 3 (τ 8)) (q_nrm (τ 0 0) (τ 16)) (τ 0 0).toNat 0 1 x (tB τ)).2 a b → r = 0)) → ∀ s : Mem, FrT τ s → JB s → tB s = (q_mis (jB τ).2.2.2.2.2 (q_nrm 3 (τ 8)) (q_nrm (τ 0 0) (τ 16)) (τ 0 0).toNat 0 1 x (tB τ)).2 → Q r s) : x8_weighed x a b τ Q := by
  apply x8_weighed_i
  have hn := hJ.n
  have ebr : ∀ k, q_in (τ 0 0) k → (jB τ).2.2.2.2.2 k = τ 5 k := fun k hk => q_nrm_in hk
  have bdw := q_mis_bd (br := (jB τ).2.2.2.2.2) (kept := q_nrm (τ 0 0) (τ 16)) (wt := q_nrm 3 (τ 8)) (fun k hk => by rw [q_nrm_in hk]; exact hw k hk) (τ 0 0).toNat 0 1 x (tB τ) (by omega)
  have p9 := q_pow9 (n := (τ 0 0).toNat) (by omega)
  rw [Int.one_mul] at bdw
  have key : ∀ (m : Nat) (k acc y : Int) (s : Mem), 0 ≤ k → k ≤ τ 0 0 → (τ 0 0 - k).toNat = m → (0 ≤ y ∧ InI y) → (∀ c : Nat, c ≠ 3 → s c = τ c) → JB s → q_mis (jB τ).2.2.2.2.2 (q_nrm 3 (τ 8)) (q_nrm (τ 0 0) (τ 16)) m k acc y (tB s) = q_mis (jB τ).2.2.2.2.2 (q_nrm 3 (τ 8)) (q_nrm (τ 0 0) (τ 16)) (τ 0 0).toNat 0 1 x (tB τ) → x8_weighed_L9 Q a b acc y k s := by
    intro m
    induction m with
    | zero =>
      intro k acc y s k0 k1 hm hy f js e
      apply x8_weighed_s9
      have s0 := f 0 (by omega)
      have e2 : q_mis (jB τ).2.2.2.2.2 (q_nrm 3 (τ 8)) (q_nrm (τ 0 0) (τ 16)) (τ 0 0).toNat 0 1 x (tB τ) = (acc, tB s) := by
        rw [← e]
        rfl
      rw [e2] at bdw hQ
      have bdw : 0 ≤ acc ∧ acc ≤ 9 ^ (τ 0 0).toNat := bdw
      have fT : FrT τ s := ⟨fun c _ c3 _ _ _ => f c c3, fun j _ => by rw [s0]⟩
      refine ⟨by rw [s0]; omega, fun _ => ⟨by constructor <;> constructor <;> omega, fun q => B_findLifts js (fun u hu => ?_), fun q => hQ 0 (fun _ => rfl) (fun z => absurd z (by show ¬ 0 < acc; omega)) s fT js rfl⟩, fun q => absurd q (by rw [s0]; omega)⟩
      have g := hu.1
      have hrd := hu.rdy js
      have u00 : u 0 0 = τ 0 0 := by rw [g.2 0 (by omega), s0]
      have u5 : u 5 = τ 5 := by rw [g.1 5 (by omega) (by omega) (by omega) (by omega), f 5 (by omega)]
      have ej : jB s = jB τ := fT.j
      have iff := q_fits_iff (on := fun k => if (jB s).2.2.2.2.2 k = 0 then 1 else 0) (lo := fun _ => a) (hi := fun _ => b) js.okJ hu.isL
      have fu : FrT τ u := fT.trans (FrT.of g)
      have ju : JB u := js.fr g
      have loop : ∀ (m : Nat) (z k : Int), z = 0 ∨ z = 1 → 0 ≤ k → k ≤ τ 0 0 → (τ 0 0 - k).toNat = m → (z = 1 → ∀ i, 0 ≤ i → i < k → τ 5 i = 0 → a * u 0 15 ≤ pB u i ∧ pB u i ≤ b * u 0 15) → (z = 0 → ¬ q_win (jB s) (tB s) a b) → x8_weighed_L110 Q a b acc z k u := by
        intro m
        induction m with
        | zero =>
          intro z k hz k0 k1 hm hall hno
          apply x8_weighed_s110
          refine ⟨by rw [u00]; omega, fun _ => ⟨by omega, fun w => ?_, fun w => ?_⟩, fun c => absurd c (by rw [u00]; omega)⟩
          · have nw := hno w
            rw [ej] at nw
            exact hQ 0 (fun _ => rfl) (fun _ => ⟨fun y => absurd y nw, fun _ => rfl⟩) u fu ju g.t
          · have yw : q_win (jB s) (tB s) a b := iff.mpr (fun i hi ho => by
              have hi2 : q_in (s 0 0) i := hi
              rw [← hu.pull2 hi2]
              rw [s0] at hi2
              have i2 := hi2.2
              refine hall (by omega) i hi.1 (by omega) ?_
              rw [← ebr i hi2, ← ej]
              refine Classical.byContradiction (fun z => ho ?_)
              show (if (jB s).2.2.2.2.2 i = 0 then (1 : Int) else 0) = 0
              rw [if_neg z])
            rw [ej] at yw
            exact hQ acc (fun z => by have : acc ≤ 0 := z; omega) (fun _ => ⟨fun _ => rfl, fun y => absurd yw y⟩) u fu ju g.t
        | succ m ih =>
          intro z k hz k0 k1 hm hall hno
          have hk : q_in (τ 0 0) k := ⟨k0, by omega⟩
          have hks : q_in (u 0 0) k := by rw [u00]; exact hk
          have hss : q_in (s 0 0) k := by rw [s0]; exact hk
          have hbk := (hJ.k hk).2.2.2.2
          apply x8_weighed_s110
          unfold x8_weighed_b110
          rw [u5]
          refine ⟨by rw [u00]; omega, fun c => absurd c (by rw [u00]; omega), fun _ => ⟨by omega, fun q => ih 0 (k + 1) (Or.inl rfl) (by omega) (by omega) (by omega) (fun c => absurd c (by omega)) (fun _ => hno q), fun q => ⟨by omega, by omega, fun w => ih 1 (k + 1) (Or.inr rfl) (by omega) (by omega) (by omega) (fun _ i i0 i1 ho => ?_) (fun c => absurd c (by omega)), fun w => ?_⟩⟩⟩
          · by_cases v : i = k
            · exact absurd (by rw [← v]; exact ho) w
            · exact hall (by omega) i i0 (by omega) ho
          · refine B_isWithin hrd hks ha hb (fun v => ⟨by omega, fun c => absurd c (by omega), fun _ => ih 1 (k + 1) (Or.inr rfl) (by omega) (by omega) (by omega) (fun _ i i0 i1 ho => ?_) (fun c => absurd c (by omega))⟩) (fun v => ⟨by omega, fun _ => ih 0 (k + 1) (Or.inl rfl) (by omega) (by omega) (by omega) (fun c => absurd c (by omega)) (fun _ y => v ?_), fun c => absurd rfl c⟩)
            · by_cases y : i = k
              · rw [y]
                exact v
              · exact hall (by omega) i i0 (by omega) ho
            · have := iff.mp y k hss (by
                show (if (jB s).2.2.2.2.2 k = 0 then (1 : Int) else 0) ≠ 0
                rw [if_pos (by rw [ej, ebr k hk]; exact w)]
                omega)
              rw [← hu.pull2 hss] at this
              exact this
      exact loop _ 1 0 (Or.inr rfl) (by omega) (by omega) rfl (fun _ i i0 i1 => absurd i1 (by omega)) (fun c => absurd c (by omega))
    | succ m ih =>
      intro k acc y s k0 k1 hm hy f js e
      apply x8_weighed_s9
      have s0 := f 0 (by omega)
      have s5 := f 5 (by omega)
      have s8 := f 8 (by omega)
      have s16 := f 16 (by omega)
      have hkk : q_in (τ 0 0) k := ⟨k0, by omega⟩
      have hks : q_in (s 0 0) k := by rw [s0]; exact hkk
      have hbk := (hJ.k hkk).2.2.2.2
      have ek : q_nrm (τ 0 0) (τ 16) k = τ 16 k := q_nrm_in hkk
      have ey : q_in 3 (y % 3) := ⟨by omega, by omega⟩
      have ew : q_nrm 3 (τ 8) (y % 3) = τ 8 (y % 3) := q_nrm_in ey
      have hw1 := hw (y % 3) ey
      have hk1 := hk k hkk
      obtain ⟨d1, d2⟩ := q_td3 hy.1
      rw [q_mis_s, ebr k hkk, ek, ew] at e
      unfold x8_weighed_b9
      rw [d1, d2, s5, s8, s16]
      refine ⟨by rw [s0]; omega, fun q => absurd q (by rw [s0]; omega), fun _ => ⟨by omega, by omega, fun w => ?_, fun w => ⟨by omega, by omega, by omega, by constructor <;> omega, fun v3 e3 => ⟨by omega, fun v4 e4 => ⟨by constructor <;> omega, fun q => ⟨by omega, fun s5' e5 => ?_⟩, fun q => ⟨by omega, fun s6 e6 => ?_⟩⟩⟩⟩⟩⟩
      · rw [if_neg w] at e
        exact ih (k + 1) acc y s (by omega) (by omega) (by omega) hy f js e
      · rw [if_pos w] at e
        rw [e3]
        have f4 : ∀ c : Nat, c ≠ 3 → s5' c = s c := fun c hc => by rw [e5, m_upd_ne _ _ _ _ _ hc]
        refine ih (k + 1) _ _ s5' (by omega) (by omega) (by omega) (by constructor <;> omega) (fun c hc => (f4 c hc).trans (f c hc)) (js.tus f4 (fun i hi => ?_)) ?_
        · rw [e5, m_upd_at]
          have := (js.k hi).2.2.1
          split <;> omega
        · rw [tB_upd hks e5, ← e]
          congr 1
          rw [e4]
          split
          · rfl
          · rw [show τ 16 k + y % 3 - 1 = 0 by omega]
      · rw [if_pos w] at e
        rw [e3]
        have f4 : ∀ c : Nat, c ≠ 3 → s6 c = s c := fun c hc => by rw [e6, m_upd_ne _ _ _ _ _ hc]
        refine ih (k + 1) _ _ s6 (by omega) (by omega) (by omega) (by constructor <;> omega) (fun c hc => (f4 c hc).trans (f c hc)) (js.tus f4 (fun i hi => ?_)) ?_
        · rw [e6, m_upd_at]
          have := (js.k hi).2.2.1
          split <;> omega
        · rw [tB_upd hks e6, ← e]
          congr 1
          rw [if_neg (by omega)]
  exact key _ 0 1 x τ (by omega) (by omega) (by rw [Int.sub_zero]) hx (fun _ _ => rfl) hJ rfl
