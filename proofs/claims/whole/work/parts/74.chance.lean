/-! ===== chance: one way to miss ===== -/
def q_mis (br wt kept : Int → Int) : Nat → Int → Int → Int → (Int → Int) → Int × (Int → Int)
  | 0, _, acc, _, tu => (acc, tu)
  | m + 1, k, acc, x, tu => if br k = 0 then q_mis br wt kept m (k + 1) (acc * wt (x % 3)) (x / 3) (q_set tu k (if 0 < kept k + x % 3 - 1 then kept k + x % 3 - 1 else 0)) else q_mis br wt kept m (k + 1) acc x tu
theorem q_mis_s (br wt kept : Int → Int) (m : Nat) (k acc x : Int) (tu : Int → Int) : q_mis br wt kept (m + 1) k acc x tu = if br k = 0 then q_mis br wt kept m (k + 1) (acc * wt (x % 3)) (x / 3) (q_set tu k (if 0 < kept k + x % 3 - 1 then kept k + x % 3 - 1 else 0)) else q_mis br wt kept m (k + 1) acc x tu := rfl
theorem q_mis_bd {br wt kept : Int → Int} (hw : ∀ k, q_in 3 k → 0 ≤ wt k ∧ wt k ≤ 9) : ∀ (m : Nat) (k acc x : Int) (tu : Int → Int), 0 ≤ acc → 0 ≤ (q_mis br wt kept m k acc x tu).1 ∧ (q_mis br wt kept m k acc x tu).1 ≤ acc * 9 ^ m
  | 0, k, acc, x, tu, h => ⟨h, by
    show acc ≤ acc * 9 ^ 0
    rw [Int.pow_zero, Int.mul_one]
    omega⟩
  | m + 1, k, acc, x, tu, h => by
    have hw1 := hw (x % 3) ⟨by omega, by omega⟩
    have p : (0 : Int) ≤ 9 ^ m := Int.le_of_lt (Int.pow_pos (by omega))
    rw [q_mis_s]
    split
    · have a0 := Int.mul_nonneg h hw1.1
      have ih := q_mis_bd (br := br) (kept := kept) hw m (k + 1) (acc * wt (x % 3)) (x / 3) (q_set tu k (if 0 < kept k + x % 3 - 1 then kept k + x % 3 - 1 else 0)) a0
      refine ⟨ih.1, Int.le_trans ih.2 ?_⟩
      have a1 : acc * wt (x % 3) ≤ acc * 9 := Int.mul_le_mul_of_nonneg_left hw1.2 h
      have a2 := Int.mul_le_mul_of_nonneg_right a1 p
      have e : acc * 9 * 9 ^ m = acc * 9 ^ (m + 1) := by
        rw [Int.pow_succ]
        grind
      omega
    · have ih := q_mis_bd (br := br) (kept := kept) hw m (k + 1) acc x tu h
      refine ⟨ih.1, Int.le_trans ih.2 ?_⟩
      have a0 := Int.mul_nonneg h p
      have e : acc * 9 ^ (m + 1) = 9 * (acc * 9 ^ m) := by
        rw [Int.pow_succ]
        grind
      omega
theorem q_td3 {x : Int} (h : 0 ≤ x) : Int.tmod x 3 = x % 3 ∧ Int.tdiv x 3 = x / 3 := ⟨Int.tmod_eq_emod_of_nonneg h, Int.tdiv_eq_ediv_of_nonneg h⟩
theorem JA.tus {σ s : Mem} (h : JA σ 5) (f : ∀ c : Nat, c ≠ 4 → s c = σ c) (ht : ∀ k, q_in (σ 1 0) k → 0 ≤ s 4 k ∧ s 4 k ≤ 201) : JA s 5 := by
  obtain ⟨⟨n1, n2, n3, n4⟩, n5⟩ := h
  have e1 := f 1 (by omega)
  unfold JA q_ok
  rw [c_br_congr e1, e1, f 2 (by omega), f 3 (by omega), f 5 (by omega)]
  refine ⟨⟨n1, n2, fun k hk => ?_, n4⟩, n5⟩
  have a := n3 k hk
  exact ⟨a.1, a.2.1, ht k hk, a.2.2.2⟩
theorem JB.tus {τ s : Mem} (h : JB τ) (f : ∀ c : Nat, c ≠ 3 → s c = τ c) (ht : ∀ k, q_in (τ 0 0) k → 0 ≤ s 3 k ∧ s 3 k ≤ 201) : JB s := by
  obtain ⟨n1, n2, n3, n4⟩ := h
  unfold JB q_ok
  rw [f 0 (by omega), f 1 (by omega), f 2 (by omega), f 4 (by omega), f 5 (by omega)]
  refine ⟨n1, n2, fun k hk => ?_, n4⟩
  have a := n3 k hk
  exact ⟨a.1, a.2.1, ht k hk, a.2.2.2⟩
theorem tA_upd {σ s : Mem} {k x : Int} (hk : q_in (σ 1 0) k) (e : s = m_upd σ 4 k x) : tA s = q_set (tA σ) k x := by
  have k1 := hk.1
  have k2 := hk.2
  funext j
  unfold tA q_set q_nrm
  rw [e, m_upd_ne _ _ _ _ _ (by omega), m_upd_at]
  by_cases w : j = k
  · rw [if_pos w, if_pos (by omega), if_pos (show (4 : Nat) = 4 ∧ j = k from ⟨rfl, w⟩)]
  · rw [if_neg w, if_neg (show ¬ ((4 : Nat) = 4 ∧ j = k) from fun z => w z.2)]
theorem tB_upd {τ s : Mem} {k x : Int} (hk : q_in (τ 0 0) k) (e : s = m_upd τ 3 k x) : tB s = q_set (tB τ) k x := by
  have k1 := hk.1
  have k2 := hk.2
  funext j
  unfold tB q_set q_nrm
  rw [e, m_upd_ne _ _ _ _ _ (by omega), m_upd_at]
  by_cases w : j = k
  · rw [if_pos w, if_pos (by omega), if_pos (show (3 : Nat) = 3 ∧ j = k from ⟨rfl, w⟩)]
  · rw [if_neg w, if_neg (show ¬ ((3 : Nat) = 3 ∧ j = k) from fun z => w z.2)]
theorem L_miss {σ : Mem} (hJ : JA σ 5) (hk : ∀ k, q_in (σ 1 0) k → 0 ≤ σ 33 k ∧ σ 33 k ≤ 200) (hw : ∀ k, q_in 3 k → 0 ≤ σ 32 k ∧ σ 32 k ≤ 9) {x : Int} (hx : 0 ≤ x ∧ InI x) {Q : Int → Mem → Prop} (hQ : ∀ s : Mem, (∀ c : Nat, c ≠ 4 → s c = σ c) → JA s 5 → tA s = (q_mis (jA σ 5).2.2.2.2.2 (q_nrm 3 (σ 32)) (q_nrm (σ 1 0) (σ 33)) (σ 1 0).toNat 0 1 x (tA σ)).2 → Q (q_mis (jA σ 5).2.2.2.2.2 (q_nrm 3 (σ 32)) (q_nrm (σ 1 0) (σ 33)) (σ 1 0).toNat 0 1 x (tA σ)).1 s) : x4_miss x σ Q := by
  apply x4_miss_i
  have hn := hJ.n
  have key : ∀ (m : Nat) (k acc y : Int) (s : Mem), 0 ≤ k → k ≤ σ 1 0 → (σ 1 0 - k).toNat = m → (0 ≤ y ∧ InI y) → (∀ c : Nat, c ≠ 4 → s c = σ c) → JA s 5 → q_mis (jA σ 5).2.2.2.2.2 (q_nrm 3 (σ 32)) (q_nrm (σ 1 0) (σ 33)) m k acc y (tA s) = q_mis (jA σ 5).2.2.2.2.2 (q_nrm 3 (σ 32)) (q_nrm (σ 1 0) (σ 33)) (σ 1 0).toNat 0 1 x (tA σ) → x4_miss_L8 Q acc y k s := by
    intro m
    induction m with
    | zero =>
      intro k acc y s k0 k1 hm hy f js e
      apply x4_miss_s8
      have s1 := f 1 (by omega)
      have := hQ s f js (by rw [← e]; rfl)
      rw [← e] at this
      exact ⟨by rw [s1]; omega, fun _ => this, fun q => absurd q (by rw [s1]; omega)⟩
    | succ m ih =>
      intro k acc y s k0 k1 hm hy f js e
      apply x4_miss_s8
      have s1 := f 1 (by omega)
      have s32 := f 32 (by omega)
      have s33 := f 33 (by omega)
      have hkk : q_in (σ 1 0) k := ⟨k0, by omega⟩
      have hks : q_in (s 1 0) k := by rw [s1]; exact hkk
      have eb : (jA σ 5).2.2.2.2.2 k = c_br σ k := q_nrm_in hkk
      have ek : q_nrm (σ 1 0) (σ 33) k = σ 33 k := q_nrm_in hkk
      have ey : q_in 3 (y % 3) := ⟨by omega, by omega⟩
      have ew : q_nrm 3 (σ 32) (y % 3) = σ 32 (y % 3) := q_nrm_in ey
      have hw1 := hw (y % 3) ey
      have hk1 := hk k hkk
      obtain ⟨d1, d2⟩ := q_td3 hy.1
      rw [q_mis_s, eb, ek, ew] at e
      unfold x4_miss_b8
      rw [d1, d2]
      refine ⟨by rw [s1]; omega, fun q => absurd q (by rw [s1]; omega), fun _ => L_isBroken (by rw [s1]; exact hJ.2.1) (by omega) ?_⟩
      rw [c_br_congr s1]
      refine ⟨by unfold c_br; split <;> omega, fun w => ?_, fun w => ⟨by omega, by omega, by omega, ?_⟩⟩
      · rw [if_neg w] at e
        exact ih (k + 1) acc y s (by omega) (by omega) (by omega) hy f js e
      · rw [if_pos w] at e
        rw [s32, s33]
        refine ⟨by constructor <;> omega, fun v3 e3 => ⟨by omega, by constructor <;> constructor <;> omega, by omega, fun s4 e4 => ?_⟩⟩
        rw [e3]
        have f4 : ∀ c : Nat, c ≠ 4 → s4 c = s c := fun c hc => by rw [e4, m_upd_ne _ _ _ _ _ hc]
        refine ih (k + 1) _ _ s4 (by omega) (by omega) (by omega) (by constructor <;> omega) (fun c hc => (f4 c hc).trans (f c hc)) (js.tus f4 (fun i hi => ?_)) ?_
        · rw [e4, m_upd_at]
          have := (js.k hi).2.2.1
          split
          · split <;> omega
          · exact this
        · rw [tA_upd hks e4]
          exact e
  exact key _ 0 1 x σ (by omega) (by omega) (by rw [Int.sub_zero]) hx (fun _ _ => rfl) hJ rfl
