theorem q_fits_congr {j : JT} {tu on lo hi on' lo' hi' : Int → Int} (h : ∀ k, q_in j.1 k → on k = on' k ∧ (on k ≠ 0 → lo k = lo' k ∧ hi k = hi' k)) : q_fits j tu on lo hi ↔ q_fits j tu on' lo' hi' := by
  constructor
  · intro ⟨u, D, hu, hq⟩
    refine ⟨u, D, hu, fun k hk ho => ?_⟩
    have a := h k hk
    have ho2 : on k ≠ 0 := by rw [a.1]; exact ho
    rw [← (a.2 ho2).1, ← (a.2 ho2).2]
    exact hq k hk ho2
  · intro ⟨u, D, hu, hq⟩
    refine ⟨u, D, hu, fun k hk ho => ?_⟩
    have a := h k hk
    have ho2 : on' k ≠ 0 := by rw [← a.1]; exact ho
    rw [(a.2 ho).1, (a.2 ho).2]
    exact hq k hk ho2
def c_on (σ : Mem) (k : Int) : Int := if q_bit (σ 34 0) k = true then 1 else 0
theorem L_agree {σ : Mem} (hJ : JA σ 5) (h64 : 0 ≤ σ 34 0 ∧ σ 34 0 < 64) (hr : ∀ k, q_in (σ 1 0) k → c_on σ k ≠ 0 → (0 ≤ σ 35 k ∧ σ 35 k ≤ 2000) ∧ 0 ≤ σ 36 k ∧ σ 36 k ≤ 2000) {Q : Int → Mem → Prop} (h1 : q_fits (jA σ 5) (tA σ) (c_on σ) (σ 35) (σ 36) → ∀ s : Mem, FrO 7 σ s → Q 1 s) (h0 : ¬ q_fits (jA σ 5) (tA σ) (c_on σ) (σ 35) (σ 36) → ∀ s : Mem, FrO 7 σ s → Q 0 s) : x6_agree σ Q := by
  apply x6_agree_i
  refine L_settle (Or.inl rfl) rfl (Or.inl (by omega)) hJ (fun s hS => ?_)
  have hn := hJ.n
  have f := hS.1
  have e1 := f 1 (by omega)
  have e34 := f 34 (by omega)
  have e35 := f 35 (by omega)
  have e36 := f 36 (by omega)
  have hrd := hS.rdy (Or.inl rfl) hJ
  have iff := q_fits_iff (on := c_on σ) (lo := σ 35) (hi := σ 36) hJ.okJ hS.isL
  have key : ∀ (m : Nat) (k : Int), 0 ≤ k → k ≤ σ 1 0 → (σ 1 0 - k).toNat = m → (∀ i, 0 ≤ i → i < k → c_on σ i ≠ 0 → σ 35 i * s 7 1 ≤ pA 7 s i ∧ pA 7 s i ≤ σ 36 i * s 7 1) → x6_agree_L11 Q k s := by
    intro m
    induction m with
    | zero =>
      intro k k0 k1 hm hall
      apply x6_agree_s11
      refine ⟨by rw [e1]; omega, fun _ => ⟨by omega, h1 (iff.mpr (fun i hi ho => ?_)) s f⟩, fun c => absurd c (by rw [e1]; omega)⟩
      have hi2 : q_in (σ 1 0) i := hi
      have i2 := hi2.2
      rw [← hS.pull2 (Or.inl rfl) hi2]
      exact hall i hi.1 (by omega) ho
    | succ m ih =>
      intro k k0 k1 hm hall
      have hk : q_in (σ 1 0) k := ⟨k0, by omega⟩
      have hks : q_in (s 1 0) k := by rw [e1]; exact hk
      apply x6_agree_s11
      unfold x6_agree_b11
      rw [e34, e35, e36]
      refine ⟨by rw [e1]; omega, fun c => absurd c (by rw [e1]; omega), fun _ => ⟨s_andIn _ _, fun w => ?_, fun w => ?_⟩⟩
      · rw [s_bit0 (by omega) (by omega)] at w
        refine ih (k + 1) (by omega) (by omega) (by omega) (fun i i0 i1 ho => ?_)
        by_cases v : i = k
        · exact absurd (by unfold c_on; rw [v, w]; rfl) ho
        · exact hall i i0 (by omega) ho
      · rw [s_bit1 (by omega) (by omega)] at w
        have ho : c_on σ k ≠ 0 := by
          unfold c_on
          rw [if_pos w]
          omega
        have hb := hr k hk ho
        refine ⟨by omega, by omega, L_pullLies hrd hks hb.1 hb.2 (fun q => ⟨by omega, fun _ => ih (k + 1) (by omega) (by omega) (by omega) (fun i i0 i1 hoi => ?_), fun c => absurd c (by omega)⟩) (fun q => ⟨by omega, fun c => absurd rfl c, fun _ => ⟨by omega, h0 (fun z => q ?_) s f⟩⟩)⟩
        · by_cases v : i = k
          · rw [v]
            exact q
          · exact hall i i0 (by omega) hoi
        · have := iff.mp z k hk ho
          rw [← hS.pull2 (Or.inl rfl) hk] at this
          exact this
  exact key _ 0 (by omega) (by omega) rfl (fun i i0 i1 => absurd i1 (by omega))
theorem B_isFit {τ : Mem} (hJ : JB τ) (h01 : ∀ k, q_in (τ 0 0) k → τ 9 k = 0 ∨ τ 9 k = 1) (hr : ∀ k, q_in (τ 0 0) k → τ 9 k ≠ 0 → (0 ≤ τ 10 k ∧ τ 10 k ≤ 2000) ∧ 0 ≤ τ 11 k ∧ τ 11 k ≤ 2000) {Q : Int → Mem → Prop} (h1 : q_fits (jB τ) (tB τ) (τ 9) (τ 10) (τ 11) → ∀ s : Mem, FrB τ s → Q 1 s) (h0 : ¬ q_fits (jB τ) (tB τ) (τ 9) (τ 10) (τ 11) → ∀ s : Mem, FrB τ s → Q 0 s) : x8_isFit τ Q := by
  apply x8_isFit_i
  refine B_findLifts hJ (fun s hS => ?_)
  have hn := hJ.n
  have f := hS.1
  have e0 := f.2 0 (by omega)
  have e9 := f.1 9 (by omega) (by omega) (by omega) (by omega)
  have e10 := f.1 10 (by omega) (by omega) (by omega) (by omega)
  have e11 := f.1 11 (by omega) (by omega) (by omega) (by omega)
  have hrd := hS.rdy hJ
  have iff := q_fits_iff (on := τ 9) (lo := τ 10) (hi := τ 11) hJ.okJ hS.isL
  have key : ∀ (m : Nat) (x k : Int), x = 0 ∨ x = 1 → 0 ≤ k → k ≤ τ 0 0 → (τ 0 0 - k).toNat = m → (x = 1 → ∀ i, 0 ≤ i → i < k → τ 9 i ≠ 0 → τ 10 i * s 0 15 ≤ pB s i ∧ pB s i ≤ τ 11 i * s 0 15) → (x = 0 → ¬ q_fits (jB τ) (tB τ) (τ 9) (τ 10) (τ 11)) → x8_isFit_L8 Q x k s := by
    intro m
    induction m with
    | zero =>
      intro x k hx k0 k1 hm hall hno
      apply x8_isFit_s8
      refine ⟨by rw [e0]; omega, fun _ => ⟨by omega, ?_⟩, fun c => absurd c (by rw [e0]; omega)⟩
      rcases hx with q | q
      · rw [q]
        exact h0 (hno q) s f
      · rw [q]
        refine h1 (iff.mpr (fun i hi ho => ?_)) s f
        have hi2 : q_in (τ 0 0) i := hi
        have i2 := hi2.2
        rw [← hS.pull2 hi2]
        exact hall q i hi.1 (by omega) ho
    | succ m ih =>
      intro x k hx k0 k1 hm hall hno
      have hk : q_in (τ 0 0) k := ⟨k0, by omega⟩
      have hks : q_in (s 0 0) k := by rw [e0]; exact hk
      have h9 := h01 k hk
      apply x8_isFit_s8
      unfold x8_isFit_b8
      rw [e9, e10, e11]
      refine ⟨by rw [e0]; omega, fun c => absurd c (by rw [e0]; omega), fun _ => ⟨by omega, fun q => ih 0 (k + 1) (Or.inl rfl) (by omega) (by omega) (by omega) (fun c => absurd c (by omega)) (fun _ => hno q), fun q => ⟨by omega, by omega, fun w => ih 1 (k + 1) (Or.inr rfl) (by omega) (by omega) (by omega) (fun _ i i0 i1 ho => ?_) (fun c => absurd c (by omega)), fun w => ?_⟩⟩⟩
      · by_cases v : i = k
        · exact absurd (by rw [v]; exact w) ho
        · exact hall (by omega) i i0 (by omega) ho
      · have hb := hr k hk w
        refine ⟨by omega, by omega, B_isWithin hrd hks hb.1 hb.2 (fun v => ⟨by omega, fun c => absurd c (by omega), fun _ => ih 1 (k + 1) (Or.inr rfl) (by omega) (by omega) (by omega) (fun _ i i0 i1 ho => ?_) (fun c => absurd c (by omega))⟩) (fun v => ⟨by omega, fun _ => ih 0 (k + 1) (Or.inl rfl) (by omega) (by omega) (by omega) (fun c => absurd c (by omega)) (fun _ z => v ?_), fun c => absurd rfl c⟩)⟩
        · by_cases y : i = k
          · rw [y]
            exact v
          · exact hall (by omega) i i0 (by omega) ho
        · have := iff.mp z k hk w
          rw [← hS.pull2 hk] at this
          exact this
  exact key _ 1 0 (Or.inr rfl) (by omega) (by omega) rfl (fun _ i i0 i1 => absurd i1 (by omega)) (fun c => absurd c (by omega))
theorem RelR.on {σ τ : Mem} (h : RelR σ τ) : (∀ k, q_in (σ 1 0) k → c_on σ k ≠ 0 → (0 ≤ σ 35 k ∧ σ 35 k ≤ 2000) ∧ 0 ≤ σ 36 k ∧ σ 36 k ≤ 2000) ∧ ∀ k, q_in (σ 1 0) k → c_on σ k = τ 9 k ∧ (c_on σ k ≠ 0 → σ 35 k = τ 10 k ∧ σ 36 k = τ 11 k) := by
  obtain ⟨-, -, h3⟩ := h
  constructor
  · intro k hk ho
    have a := (h3 k hk).2 (by
      unfold c_on at ho
      by_cases w : q_bit (σ 34 0) k = true
      · exact w
      · rw [if_neg w] at ho
        exact absurd rfl ho)
    omega
  · intro k hk
    refine ⟨(h3 k hk).1.symm, fun ho => ?_⟩
    have a := (h3 k hk).2 (by
      unfold c_on at ho
      by_cases w : q_bit (σ 34 0) k = true
      · exact w
      · rw [if_neg w] at ho
        exact absurd rfl ho)
    exact ⟨a.1, a.2.1⟩
theorem Rel.rdB {σ τ : Mem} (R : Rel σ τ) : ∀ k, q_in (τ 0 0) k → τ 9 k ≠ 0 → (0 ≤ τ 10 k ∧ τ 10 k ≤ 2000) ∧ 0 ≤ τ 11 k ∧ τ 11 k ≤ 2000 := fun k hk ho => by
  rw [← R.1.1] at hk
  obtain ⟨a, b⟩ := R.2.2.2.1.on
  have b := b k hk
  have ho2 : c_on σ k ≠ 0 := by
    rw [b.1]
    exact ho
  have c := a k hk ho2
  rw [(b.2 ho2).1, (b.2 ho2).2] at c
  exact c
theorem M_fit {σ τ : Mem} (R : Rel σ τ) : Ans (x7_fit σ) (x8_fit τ) := by
  unfold Ans x7_fit
  have eq : q_fits (jA σ 5) (tA σ) (c_on σ) (σ 35) (σ 36) ↔ q_fits (jB τ) (tB τ) (τ 9) (τ 10) (τ 11) := by
    rw [← R.j, ← R.t]
    exact q_fits_congr R.2.2.2.1.on.2
  refine L_agree R.1.2.2.2.1 R.2.2.2.1.1 R.2.2.2.1.on.1 (fun z s f => L_asNumber (by omega) ?_) (fun z s f => L_asNumber (by omega) ?_)
  · have Rs := R.same (SameA.of (Or.inl rfl) f) (SameB.refl τ)
    unfold x8_fit
    exact B_isFit R.JB R.rd R.rdB (fun _ t g => B_bit (by omega) ⟨rfl, Rs.same (SameA.refl s) (SameB.of g)⟩) (fun w => absurd (eq.mp z) w)
  · have Rs := R.same (SameA.of (Or.inl rfl) f) (SameB.refl τ)
    unfold x8_fit
    exact B_isFit R.JB R.rd R.rdB (fun w => absurd (eq.mpr w) z) (fun _ t g => B_bit (by omega) ⟨rfl, Rs.same (SameA.refl s) (SameB.of g)⟩)
