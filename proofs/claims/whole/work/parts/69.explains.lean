theorem L_explains {σ : Mem} (ok : OkA σ) (h64 : 0 ≤ σ 34 0 ∧ σ 34 0 < 64) (hr : ∀ k, q_in (σ 1 0) k → c_on σ k ≠ 0 → (0 ≤ σ 35 k ∧ σ 35 k ≤ 2000) ∧ 0 ≤ σ 36 k ∧ σ 36 k ≤ 2000) {i d : Int} (hi : q_in (σ 1 0) i) (hd : -3 ≤ d ∧ d ≤ 3) {Q : Int → Mem → Prop} (h1 : q_expl (jA σ 5) (tA σ) (c_on σ) (σ 35) (σ 36) i d → ∀ s : Mem, FrO 7 σ s → Q 1 s) (h0 : ¬ q_expl (jA σ 5) (tA σ) (c_on σ) (σ 35) (σ 36) i d → ∀ s : Mem, FrO 7 σ s → Q 0 s) : x6_explains i d σ Q := by
  have hn := ok.1.n
  have i1 := hi.1
  have i2 := hi.2
  have t4 : tA σ i = σ 4 i := q_nrm_in hi
  have bd := ok.1.k hi
  have eb : (jA σ 5).2.2.2.2.2 i = c_br σ i := q_nrm_in hi
  have fr : FrO 7 σ σ := fun _ _ => rfl
  unfold x6_explains
  refine ⟨by omega, by omega, fun q => ⟨by omega, h0 (fun z => z.1 q) σ fr⟩, fun q => L_isBroken ok.1.2.1 (by omega) ⟨by unfold c_br; split <;> omega, fun w => ⟨by omega, h0 (fun z => w (by rw [← eb]; exact z.2.1)) σ fr⟩, fun w => L_within (by omega) (by omega) (by omega) (fun v => ⟨by omega, fun _ => ⟨by omega, fun s5 e5 => ?_⟩, fun c => absurd c (by omega)⟩) (fun v => ⟨by omega, fun c => absurd rfl c, fun _ => ⟨by omega, h0 (fun z => v (by rw [← t4]; exact z.2.2.1)) σ fr⟩⟩)⟩⟩
  have f5 : ∀ c : Nat, c ≠ 4 → s5 c = σ c := fun c hc => by rw [e5, m_upd_ne _ _ _ _ _ hc]
  have fD : FrD σ s5 := fun c hc _ => f5 c hc
  have ok5 := ok.tus fD (fun k hk => by
    have a := (ok.1.k hk).2.2.1
    have b := ok.2 k hk
    rw [e5, m_upd_at]
    split <;> omega)
  have s51 := f5 1 (by omega)
  have et : tA s5 = q_set (tA σ) i (tA σ i + d) := by
    funext k
    unfold tA q_set q_nrm
    rw [s51, e5, m_upd_at]
    by_cases y : k = i
    · rw [if_pos y, if_pos (by omega), if_pos ⟨rfl, y⟩, if_pos ⟨i1, i2⟩]
    · rw [if_neg y, if_neg (show ¬ ((4 : Nat) = 4 ∧ k = i) from fun z => y z.2)]
  have eo : c_on s5 = c_on σ := by
    funext k
    unfold c_on
    rw [f5 34 (by omega)]
  have iff : q_fits (jA s5 5) (tA s5) (c_on s5) (s5 35) (s5 36) ↔ q_expl (jA σ 5) (tA σ) (c_on σ) (σ 35) (σ 36) i d := by
    rw [fD.j, et, eo, f5 35 (by omega), f5 36 (by omega)]
    refine ⟨fun z => ⟨q, by rw [eb]; exact w, by rw [t4]; exact v, z⟩, fun z => z.2.2.2⟩
  have back : ∀ s6 : Mem, FrO 7 s5 s6 → ∀ s8 : Mem, s8 = m_upd s6 4 i (σ 4 i) → FrO 7 σ s8 := fun s6 f6 s8 e8 c hc => by
    by_cases y : c = 4
    · rw [y]
      funext k
      rw [e8, m_upd_at, f6 4 (by omega), e5, m_upd_at]
      by_cases x : k = i
      · rw [if_pos ⟨rfl, x⟩, x]
      · rw [if_neg (fun z => x z.2), if_neg (fun z => x z.2)]
    · rw [e8, m_upd_ne _ _ _ _ _ y, f6 c hc, f5 c y]
  refine L_agree ok5.1 (by rw [f5 34 (by omega)]; exact h64) (by rw [s51, eo, f5 35 (by omega), f5 36 (by omega)]; exact hr) (fun z s6 f6 => ⟨by omega, fun s8 e8 => ⟨by omega, h1 (iff.mp z) s8 (back s6 f6 s8 e8)⟩⟩) (fun z s6 f6 => ⟨by omega, fun s8 e8 => ⟨by omega, h0 (fun y => z (iff.mpr y)) s8 (back s6 f6 s8 e8)⟩⟩)
