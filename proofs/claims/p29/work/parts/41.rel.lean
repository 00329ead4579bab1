def RelJ (σ τ : Mem) : Prop := σ 1 0 = τ 0 0 ∧ σ 1 1 = τ 0 1 ∧ (∀ k, q_in (σ 1 0) k → σ 2 k = τ 1 k ∧ σ 3 k = τ 2 k ∧ σ 4 k = τ 3 k ∧ σ 5 k = τ 4 k ∧ c_br σ k = τ 5 k) ∧ JA σ 5 ∧ (∀ k, q_in (σ 1 0) k → σ 4 k ≤ 200) ∧ (∀ k, q_in (σ 1 0) k → σ 6 k = τ 6 k ∧ q_in (σ 1 0) (σ 6 k)) ∧ ∀ j k, q_in (σ 1 0) j → q_in (σ 1 0) k → σ 6 j = σ 6 k → j = k
def RelC (σ τ : Mem) : Prop := σ 23 0 = τ 0 8 ∧ (0 ≤ σ 23 0 ∧ σ 23 0 ≤ 6) ∧ ∀ i k : Int, 0 ≤ i → i < σ 23 0 → 0 ≤ k → k < 6 → σ (25 + i.toNat) k = τ 7 (6 * i + k) ∧ 0 ≤ σ (25 + i.toNat) k ∧ σ (25 + i.toNat) k ≤ 200
def RelW (σ τ : Mem) : Prop := (σ 32 0 = τ 8 0 ∧ σ 32 1 = τ 8 1 ∧ σ 32 2 = τ 8 2) ∧ (0 ≤ σ 32 0 ∧ σ 32 0 ≤ 9) ∧ (0 ≤ σ 32 1 ∧ σ 32 1 ≤ 9) ∧ (0 ≤ σ 32 2 ∧ σ 32 2 ≤ 9) ∧ 1 ≤ σ 32 0 + σ 32 1 + σ 32 2
def RelR (σ τ : Mem) : Prop := (0 ≤ σ 34 0 ∧ σ 34 0 < 64) ∧ (∀ k, σ 1 0 ≤ k → q_bit (σ 34 0) k = false) ∧ ∀ k, q_in (σ 1 0) k → τ 9 k = (if q_bit (σ 34 0) k = true then 1 else 0) ∧ (q_bit (σ 34 0) k = true → σ 35 k = τ 10 k ∧ σ 36 k = τ 11 k ∧ 0 ≤ σ 35 k ∧ σ 35 k ≤ σ 36 k ∧ σ 36 k ≤ 2000)
def RelT (σ τ : Mem) : Prop := σ 37 0 = τ 0 30 ∧ (0 ≤ σ 37 0 ∧ σ 37 0 ≤ 160) ∧ (∀ j, 0 ≤ j → j < σ 37 0 → σ 41 j = τ 19 j ∧ 0 ≤ σ 41 j ∧ σ 41 j ≤ 255) ∧ σ 0 7 = τ 0 36 ∧ σ 37 2 = τ 0 33
def RelN (σ : Mem) : Prop := ∀ j, 0 ≤ j → j < 6 → σ 22 j = j
def Rel (σ τ : Mem) : Prop := RelJ σ τ ∧ RelC σ τ ∧ RelW σ τ ∧ RelR σ τ ∧ RelT σ τ ∧ RelN σ
/-- what may have changed is no part of the state, but for the turns -/
def SameAT (σ σ' : Mem) : Prop := (∀ c : Nat, c ≠ 4 → (c < 7 ∨ 21 < c) → c ≠ 23 → c ≠ 33 → σ' c = σ c) ∧ σ' 23 0 = σ 23 0
def SameBT (τ τ' : Mem) : Prop := (∀ c : Nat, c ≠ 0 → c ≠ 3 → (c < 12 ∨ c = 19) → τ' c = τ c) ∧ (τ' 0 0 = τ 0 0 ∧ τ' 0 1 = τ 0 1 ∧ τ' 0 8 = τ 0 8 ∧ τ' 0 30 = τ 0 30 ∧ τ' 0 33 = τ 0 33 ∧ τ' 0 36 = τ 0 36)
def SameA (σ σ' : Mem) : Prop := SameAT σ σ' ∧ σ' 4 = σ 4
def SameB (τ τ' : Mem) : Prop := SameBT τ τ' ∧ τ' 3 = τ 3
theorem SameAT.refl (σ : Mem) : SameAT σ σ := ⟨fun _ _ _ _ _ => rfl, rfl⟩
theorem SameBT.refl (σ : Mem) : SameBT σ σ := ⟨fun _ _ _ _ => rfl, rfl, rfl, rfl, rfl, rfl, rfl⟩
theorem SameA.refl (σ : Mem) : SameA σ σ := ⟨SameAT.refl σ, rfl⟩
theorem SameB.refl (σ : Mem) : SameB σ σ := ⟨SameBT.refl σ, rfl⟩
theorem SameAT.trans {a b c : Mem} (h : SameAT a b) (g : SameAT b c) : SameAT a c := ⟨fun q h1 h2 h3 h4 => (g.1 q h1 h2 h3 h4).trans (h.1 q h1 h2 h3 h4), g.2.trans h.2⟩
theorem SameBT.trans {a b c : Mem} (h : SameBT a b) (g : SameBT b c) : SameBT a c := ⟨fun q h1 h2 h3 => (g.1 q h1 h2 h3).trans (h.1 q h1 h2 h3), g.2.1.trans h.2.1, g.2.2.1.trans h.2.2.1, g.2.2.2.1.trans h.2.2.2.1, g.2.2.2.2.1.trans h.2.2.2.2.1, g.2.2.2.2.2.1.trans h.2.2.2.2.2.1, g.2.2.2.2.2.2.trans h.2.2.2.2.2.2⟩
theorem SameA.trans {a b c : Mem} (h : SameA a b) (g : SameA b c) : SameA a c := ⟨h.1.trans g.1, g.2.trans h.2⟩
theorem SameB.trans {a b c : Mem} (h : SameB a b) (g : SameB b c) : SameB a c := ⟨h.1.trans g.1, g.2.trans h.2⟩
theorem SameA.of {o : Nat} (ho : LfA o) {σ σ' : Mem} (h : FrO o σ σ') : SameA σ σ' := ⟨⟨fun c h1 h2 h3 h4 => h c (by rcases ho with rfl | rfl <;> omega), by rw [h 23 (by rcases ho with rfl | rfl <;> omega)]⟩, h 4 (by rcases ho with rfl | rfl <;> omega)⟩
theorem RelC.congr {σ τ σ' τ' : Mem} (h : RelC σ τ) (a : SameAT σ σ') (b : SameBT τ τ') : RelC σ' τ' := by
  unfold RelC
  rw [a.2, b.2.2.2.1, b.1 7 (by omega) (by omega) (by omega)]
  refine ⟨h.1, h.2.1, fun i k h1 h2 h3 h4 => ?_⟩
  rw [a.1 (25 + i.toNat) (by omega) (by omega) (by omega) (by have := h.2.1; omega)]
  exact h.2.2 i k h1 h2 h3 h4
theorem RelW.congr {σ τ σ' τ' : Mem} (h : RelW σ τ) (a : SameAT σ σ') (b : SameBT τ τ') : RelW σ' τ' := by
  unfold RelW
  rw [a.1 32 (by omega) (by omega) (by omega) (by omega), b.1 8 (by omega) (by omega) (by omega)]
  exact h
theorem RelR.congr {σ τ σ' τ' : Mem} (h : RelR σ τ) (a : SameAT σ σ') (b : SameBT τ τ') : RelR σ' τ' := by
  unfold RelR
  rw [a.1 1 (by omega) (by omega) (by omega) (by omega), a.1 34 (by omega) (by omega) (by omega) (by omega), a.1 35 (by omega) (by omega) (by omega) (by omega), a.1 36 (by omega) (by omega) (by omega) (by omega), b.1 9 (by omega) (by omega) (by omega), b.1 10 (by omega) (by omega) (by omega), b.1 11 (by omega) (by omega) (by omega)]
  exact h
theorem RelT.congr {σ τ σ' τ' : Mem} (h : RelT σ τ) (a : SameAT σ σ') (b : SameBT τ τ') : RelT σ' τ' := by
  unfold RelT
  rw [a.1 0 (by omega) (by omega) (by omega) (by omega), a.1 37 (by omega) (by omega) (by omega) (by omega), a.1 41 (by omega) (by omega) (by omega) (by omega), b.1 19 (by omega) (by omega) (by omega), b.2.2.2.2.1, b.2.2.2.2.2.1, b.2.2.2.2.2.2]
  exact h
theorem RelN.congr {σ σ' : Mem} (h : RelN σ) (a : SameAT σ σ') : RelN σ' := by
  unfold RelN
  rw [a.1 22 (by omega) (by omega) (by omega) (by omega)]
  exact h
/-- the turns anew, in both alike -/
theorem RelJ.turns {σ τ σ' τ' : Mem} (h : RelJ σ τ) (a : SameAT σ σ') (b : SameBT τ τ') (ht : ∀ k, q_in (σ 1 0) k → σ' 4 k = τ' 3 k ∧ 0 ≤ σ' 4 k ∧ σ' 4 k ≤ 200) : RelJ σ' τ' := by
  obtain ⟨h1, h2, h3, ⟨h4, h4b⟩, h5, h6, h7⟩ := h
  have a1 := a.1 1 (by omega) (by omega) (by omega) (by omega)
  have a2 := a.1 2 (by omega) (by omega) (by omega) (by omega)
  have a3 := a.1 3 (by omega) (by omega) (by omega) (by omega)
  have a5 := a.1 5 (by omega) (by omega) (by omega) (by omega)
  have a6 := a.1 6 (by omega) (by omega) (by omega) (by omega)
  unfold RelJ JA
  rw [c_br_congr a1, a1, a2, a3, a5, a6, b.2.1, b.2.2.1, b.1 1 (by omega) (by omega) (by omega), b.1 2 (by omega) (by omega) (by omega), b.1 4 (by omega) (by omega) (by omega), b.1 5 (by omega) (by omega) (by omega), b.1 6 (by omega) (by omega) (by omega)]
  refine ⟨h1, h2, fun k hk => ⟨(h3 k hk).1, (h3 k hk).2.1, (ht k hk).1, (h3 k hk).2.2.2⟩, ⟨⟨h4.1, h4.2.1, fun k hk => ?_, h4.2.2.2⟩, h4b⟩, fun k hk => (ht k hk).2.2, h6, h7⟩
  have := h4.2.2.1 k hk
  exact ⟨this.1, this.2.1, ⟨(ht k hk).2.1, by have := (ht k hk).2.2; omega⟩, this.2.2.2⟩
theorem Rel.turns {σ τ σ' τ' : Mem} (h : Rel σ τ) (a : SameAT σ σ') (b : SameBT τ τ') (ht : ∀ k, q_in (σ 1 0) k → σ' 4 k = τ' 3 k ∧ 0 ≤ σ' 4 k ∧ σ' 4 k ≤ 200) : Rel σ' τ' := ⟨h.1.turns a b ht, h.2.1.congr a b, h.2.2.1.congr a b, h.2.2.2.1.congr a b, h.2.2.2.2.1.congr a b, h.2.2.2.2.2.congr a⟩
theorem Rel.n {σ τ : Mem} (h : Rel σ τ) : 3 ≤ σ 1 0 ∧ σ 1 0 ≤ 6 := h.1.2.2.2.1.n
theorem L_within {a b c : Int} {s : Mem} {Q : Int → Mem → Prop} (ha : InI a) (hb : InI b) (hc : InI c) (ht : b ≤ a ∧ a ≤ c → Q 1 s) (hf : ¬ (b ≤ a ∧ a ≤ c) → Q 0 s) : x7_within a b c s Q := ⟨⟨ha, hb⟩, fun q => ⟨by omega, hf (by omega)⟩, fun q => ⟨⟨ha, hc⟩, fun q2 => ⟨by omega, hf (by omega)⟩, fun q2 => ⟨by omega, ht ⟨q, q2⟩⟩⟩⟩
theorem L_has {k : Int} {s : Mem} {Q : Int → Mem → Prop} (hk : InI k) (hn : 3 ≤ s 1 0 ∧ s 1 0 ≤ 6) (ht : q_in (s 1 0) k → Q 1 s) (hf : ¬ q_in (s 1 0) k → Q 0 s) : x2_has k s Q := ⟨hk, fun q => ⟨by omega, hf (by omega)⟩, fun q => ⟨⟨hk, by omega⟩, fun q2 => ⟨by omega, hf (by omega)⟩, fun q2 => ⟨by omega, ht ⟨q, q2⟩⟩⟩⟩
theorem L_asNumber {a : Int} {s : Mem} {Q : Int → Mem → Prop} (ha : InI a) (h : Q (if a = 0 then 0 else 1) s) : x7_asNumber a s Q := ⟨ha, fun q => by rw [if_pos q] at h; exact h, fun q => by rw [if_neg q] at h; exact h⟩
theorem s_bc : ∀ a : Nat, a < 64 → ∀ v1 : Int, v1 = (a : Int) - andI (ushrI (a : Int) 1) 1431655765 → ∀ v2 : Int, v2 = andI v1 858993459 + andI (ushrI v1 2) 858993459 → ∀ v3 : Int, v3 = andI (v2 + ushrI v2 4) 252645135 → ∀ v4 : Int, v4 = v3 + ushrI v3 8 → ∀ v5 : Int, v5 = v4 + ushrI v4 16 → andI v5 63 = q_cnt (q_bit (a : Int)) 6 := by
  intro a ha v1 h1 v2 h2 v3 h3 v4 h4 v5 h5
  subst h1; subst h2; subst h3; subst h4; subst h5
  revert a
  decide +kernel
theorem L_bitCount {a : Int} {s : Mem} {Q : Int → Mem → Prop} (ha : 0 ≤ a ∧ a < 64) (h : Q (q_cnt (q_bit a) 6) s) : j6_bitCount_0f7a4 a s Q := by
  intro v1 h1 v2 h2 v3 h3 v4 h4 v5 h5
  obtain ⟨b, rfl⟩ : ∃ b : Nat, a = b := ⟨a.toNat, by omega⟩
  rw [s_bc b (by omega) v1 h1 v2 h2 v3 h3 v4 h4 v5 h5]
  exact h
theorem q_cnt_out {p : Int → Bool} {N M : Nat} (hNM : N ≤ M) (h : ∀ k : Int, (N : Int) ≤ k → p k = false) : q_cnt p M = q_cnt p N := by
  induction M with
  | zero => rw [show N = 0 by omega]
  | succ M ih =>
    by_cases e : N = M + 1
    · rw [e]
    · show q_cnt p M + (if p (M : Int) = true then 1 else 0) = q_cnt p N
      rw [ih (by omega), h (M : Int) (by omega)]
      simp
/-- how many aren't broken, in both -/
def q_wh (br : Int → Int) (N : Nat) : Int := q_sum (fun k => if br k = 0 then 1 else 0) N
theorem q_wh_cnt {σ : Mem} (N : Nat) : q_wh (c_br σ) N = N - q_cnt (q_bit (σ 1 2)) N := by
  induction N with
  | zero => rfl
  | succ N ih =>
    show q_wh (c_br σ) N + (if c_br σ (N : Int) = 0 then 1 else 0) = ((N + 1 : Nat) : Int) - (q_cnt (q_bit (σ 1 2)) N + (if q_bit (σ 1 2) (N : Int) = true then 1 else 0))
    rw [ih]
    unfold c_br
    cases q_bit (σ 1 2) (N : Int) <;> simp <;> omega
theorem L_wholeCount {s : Mem} {Q : Int → Mem → Prop} (hn : 3 ≤ s 1 0 ∧ s 1 0 ≤ 6) (hB : 0 ≤ s 1 2 ∧ s 1 2 < 64) (hb : ∀ k, s 1 0 ≤ k → q_bit (s 1 2) k = false) (h : Q (q_wh (c_br s) (s 1 0).toNat) s) : x2_wholeCount s Q := by
  refine L_bitCount hB ?_
  rw [q_cnt_out (N := (s 1 0).toNat) (M := 6) (by omega) (fun k hk => hb k (by omega))]
  rw [q_wh_cnt] at h
  rw [show (((s 1 0).toNat : Nat) : Int) = s 1 0 by omega] at h
  exact h
