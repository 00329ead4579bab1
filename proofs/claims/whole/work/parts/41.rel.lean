/-! ===== the class and the reference stand alike ===== -/
def RelJ (σ τ : Mem) : Prop := σ 1 0 = τ 0 0 ∧ σ 1 1 = τ 0 1 ∧ (∀ k, q_in (σ 1 0) k → σ 2 k = τ 1 k ∧ σ 3 k = τ 2 k ∧ σ 4 k = τ 3 k ∧ σ 5 k = τ 4 k ∧ c_br σ k = τ 5 k) ∧ JA σ 5 ∧ (∀ k, q_in (σ 1 0) k → σ 4 k ≤ 200) ∧ (∀ k, q_in (σ 1 0) k → σ 6 k = τ 6 k ∧ q_in (σ 1 0) (σ 6 k)) ∧ ∀ j k, q_in (σ 1 0) j → q_in (σ 1 0) k → σ 6 j = σ 6 k → j = k
def RelC (σ τ : Mem) : Prop := σ 23 0 = τ 0 8 ∧ (0 ≤ σ 23 0 ∧ σ 23 0 ≤ 6) ∧ ∀ i k : Int, 0 ≤ i → i < σ 23 0 → 0 ≤ k → k < 6 → σ (25 + i.toNat) k = τ 7 (6 * i + k) ∧ 0 ≤ σ (25 + i.toNat) k ∧ σ (25 + i.toNat) k ≤ 200
def RelW (σ τ : Mem) : Prop := (σ 32 0 = τ 8 0 ∧ σ 32 1 = τ 8 1 ∧ σ 32 2 = τ 8 2) ∧ (0 ≤ σ 32 0 ∧ σ 32 0 ≤ 9) ∧ (0 ≤ σ 32 1 ∧ σ 32 1 ≤ 9) ∧ (0 ≤ σ 32 2 ∧ σ 32 2 ≤ 9) ∧ 1 ≤ σ 32 0 + σ 32 1 + σ 32 2
def RelR (σ τ : Mem) : Prop := (0 ≤ σ 34 0 ∧ σ 34 0 < 64) ∧ (∀ k, σ 1 0 ≤ k → q_bit (σ 34 0) k = false) ∧ ∀ k, q_in (σ 1 0) k → τ 9 k = (if q_bit (σ 34 0) k = true then 1 else 0) ∧ (q_bit (σ 34 0) k = true → σ 35 k = τ 10 k ∧ σ 36 k = τ 11 k ∧ 0 ≤ σ 35 k ∧ σ 35 k ≤ σ 36 k ∧ σ 36 k ≤ 2000)
def RelT (σ τ : Mem) : Prop := σ 37 0 = τ 0 30 ∧ (0 ≤ σ 37 0 ∧ σ 37 0 ≤ 160) ∧ (∀ j, 0 ≤ j → j < σ 37 0 → σ 41 j = τ 19 j ∧ 0 ≤ σ 41 j ∧ σ 41 j ≤ 255) ∧ σ 0 7 = τ 0 36 ∧ σ 37 2 = τ 0 33
def RelN (σ : Mem) : Prop := ∀ j, 0 ≤ j → j < 6 → σ 22 j = j
def Rel (σ τ : Mem) : Prop := RelJ σ τ ∧ RelC σ τ ∧ RelW σ τ ∧ RelR σ τ ∧ RelT σ τ ∧ RelN σ
/-- what may have changed is no part of the state, but for the turns -/
def SameAT (σ σ' : Mem) : Prop := (∀ c : Nat, c ≠ 4 → (c < 7 ∨ 21 < c) → c ≠ 23 → c ≠ 33 → σ' c = σ c) ∧ σ' 23 0 = σ 23 0
def SameBT (τ τ' : Mem) : Prop := (∀ c : Nat, c ≠ 0 → c ≠ 3 → (c < 12 ∨ c = 19) → τ' c = τ c) ∧ (τ' 0 0 = τ 0 0 ∧ τ' 0 1 = τ 0 1 ∧ τ' 0 8 = τ 0 8 ∧ τ' 0 30 = τ 0 30 ∧ τ' 0 33 = τ 0 33 ∧ τ' 0 36 = τ 0 36)
def SameA (σ σ' : Mem) : Prop := SameAT σ σ' ∧ σ' 4 = σ 4
def SameB (τ τ' : Mem) : Prop := SameBT τ τ' ∧ τ' 3 = τ 3
theorem SameAT.refl (σ : Mem) : SameAT σ σ := ⟨fun _ _ _ _ _ => rfl, rfl⟩
theorem SameBT.refl (σ : Mem) : SameBT σ σ := ⟨fun _ _ _ _ => rfl, rfl, rfl, rfl, rfl, rfl, rfl⟩
theorem SameA.refl (σ : Mem) : SameA σ σ := ⟨SameAT.refl σ, rfl⟩
theorem SameB.refl (σ : Mem) : SameB σ σ := ⟨SameBT.refl σ, rfl⟩
theorem SameAT.trans {a b c : Mem} (h : SameAT a b) (g : SameAT b c) : SameAT a c := ⟨fun q h1 h2 h3 h4 => (g.1 q h1 h2 h3 h4).trans (h.1 q h1 h2 h3 h4), g.2.trans h.2⟩
theorem SameBT.trans {a b c : Mem} (h : SameBT a b) (g : SameBT b c) : SameBT a c := ⟨fun q h1 h2 h3 => (g.1 q h1 h2 h3).trans (h.1 q h1 h2 h3), g.2.1.trans h.2.1, g.2.2.1.trans h.2.2.1, g.2.2.2.1.trans h.2.2.2.1, g.2.2.2.2.1.trans h.2.2.2.2.1, g.2.2.2.2.2.1.trans h.2.2.2.2.2.1, g.2.2.2.2.2.2.trans h.2.2.2.2.2.2⟩
theorem SameA.trans {a b c : Mem} (h : SameA a b) (g : SameA b c) : SameA a c := ⟨h.1.trans g.1, g.2.trans h.2⟩
theorem SameB.trans {a b c : Mem} (h : SameB a b) (g : SameB b c) : SameB a c := ⟨h.1.trans g.1, g.2.trans h.2⟩
theorem SameA.of {o : Nat} (ho : LfA o) {σ σ' : Mem} (h : FrO o σ σ') : SameA σ σ' := ⟨⟨fun c h1 h2 h3 h4 => h c (by rcases ho with rfl | rfl <;> omega), by rw [h 23 (by rcases ho with rfl | rfl <;> omega)]⟩, h 4 (by rcases ho with rfl | rfl <;> omega)⟩
theorem SameB.of {τ τ' : Mem} (h : FrB τ τ') : SameB τ τ' := ⟨⟨fun c h1 h2 h3 => h.1 c h1 (by omega) (by omega) (by omega), h.2 0 (by omega), h.2 1 (by omega), h.2 8 (by omega), h.2 30 (by omega), h.2 33 (by omega), h.2 36 (by omega)⟩, h.1 3 (by omega) (by omega) (by omega) (by omega)⟩
theorem RelC.congr {σ τ σ' τ' : Mem} (h : RelC σ τ) (a : SameAT σ σ') (b : SameBT τ τ') : RelC σ' τ' := by
  unfold RelC
  rw [a.2, b.2.2.2.1, b.1 7 (by omega) (by omega) (by omega)]
  refine ⟨h.1, h.2.1, fun i k h1 h2 h3 h4 => ?_⟩
  rw [a.1 (25 + i.toNat) (by omega) (by omega) (by omega) (by have := h.2.1; omega)]
  exact h.2.2 i k h1 h2 h3 h4
theorem RelW.congr {σ τ σ' τ' : Mem} (h : RelW σ τ) (a : SameAT σ σ') (b : SameBT τ τ') : RelW σ' τ' := by
  unfold RelW
  rw [a.1 32 (by omega) (by omega) (by omega) (by omega), b.1 8 (by omega) (by omega) (by omega)]
  exact h
theorem RelR.congr {σ τ σ' τ' : Mem} (h : RelR σ τ) (a : SameAT σ σ') (b : SameBT τ τ') : RelR σ' τ' := by
  unfold RelR
  rw [a.1 1 (by omega) (by omega) (by omega) (by omega), a.1 34 (by omega) (by omega) (by omega) (by omega), a.1 35 (by omega) (by omega) (by omega) (by omega), a.1 36 (by omega) (by omega) (by omega) (by omega), b.1 9 (by omega) (by omega) (by omega), b.1 10 (by omega) (by omega) (by omega), b.1 11 (by omega) (by omega) (by omega)]
  exact h
theorem RelT.congr {σ τ σ' τ' : Mem} (h : RelT σ τ) (a : SameAT σ σ') (b : SameBT τ τ') : RelT σ' τ' := by
  unfold RelT
  rw [a.1 0 (by omega) (by omega) (by omega) (by omega), a.1 37 (by omega) (by omega) (by omega) (by omega), a.1 41 (by omega) (by omega) (by omega) (by omega), b.1 19 (by omega) (by omega) (by omega), b.2.2.2.2.1, b.2.2.2.2.2.1, b.2.2.2.2.2.2]
  exact h
theorem RelN.congr {σ σ' : Mem} (h : RelN σ) (a : SameAT σ σ') : RelN σ' := by
  unfold RelN
  rw [a.1 22 (by omega) (by omega) (by omega) (by omega)]
  exact h
/-- the turns anew, in both alike -/
theorem RelJ.turns {σ τ σ' τ' : Mem} (h : RelJ σ τ) (a : SameAT σ σ') (b : SameBT τ τ') (ht : ∀ k, q_in (σ 1 0) k → σ' 4 k = τ' 3 k ∧ 0 ≤ σ' 4 k ∧ σ' 4 k ≤ 200) : RelJ σ' τ' := by
  obtain ⟨h1, h2, h3, ⟨h4, h4b⟩, h5, h6, h7⟩ := h
  have a1 := a.1 1 (by omega) (by omega) (by omega) (by omega)
  have a2 := a.1 2 (by omega) (by omega) (by omega) (by omega)
  have a3 := a.1 3 (by omega) (by omega) (by omega) (by omega)
  have a5 := a.1 5 (by omega) (by omega) (by omega) (by omega)
  have a6 := a.1 6 (by omega) (by omega) (by omega) (by omega)
  unfold RelJ JA
  rw [c_br_congr a1, a1, a2, a3, a5, a6, b.2.1, b.2.2.1, b.1 1 (by omega) (by omega) (by omega), b.1 2 (by omega) (by omega) (by omega), b.1 4 (by omega) (by omega) (by omega), b.1 5 (by omega) (by omega) (by omega), b.1 6 (by omega) (by omega) (by omega)]
  refine ⟨h1, h2, fun k hk => ⟨(h3 k hk).1, (h3 k hk).2.1, (ht k hk).1, (h3 k hk).2.2.2⟩, ⟨⟨h4.1, h4.2.1, fun k hk => ?_, h4.2.2.2⟩, h4b⟩, fun k hk => (ht k hk).2.2, h6, h7⟩
  have := h4.2.2.1 k hk
  exact ⟨this.1, this.2.1, ⟨(ht k hk).2.1, by have := (ht k hk).2.2; omega⟩, this.2.2.2⟩
theorem Rel.turns {σ τ σ' τ' : Mem} (h : Rel σ τ) (a : SameAT σ σ') (b : SameBT τ τ') (ht : ∀ k, q_in (σ 1 0) k → σ' 4 k = τ' 3 k ∧ 0 ≤ σ' 4 k ∧ σ' 4 k ≤ 200) : Rel σ' τ' := ⟨h.1.turns a b ht, h.2.1.congr a b, h.2.2.1.congr a b, h.2.2.2.1.congr a b, h.2.2.2.2.1.congr a b, h.2.2.2.2.2.congr a⟩
theorem Rel.same {σ τ σ' τ' : Mem} (h : Rel σ τ) (a : SameA σ σ') (b : SameB τ τ') : Rel σ' τ' := by
  refine h.turns a.1 b.1 (fun k hk => ?_)
  rw [a.2, b.2]
  obtain ⟨h1, h2, h3, h4, h5, -⟩ := h.1
  exact ⟨(h3 k hk).2.2.1, (h4.k hk).2.2.1.1, h5 k hk⟩
theorem Rel.n {σ τ : Mem} (h : Rel σ τ) : 3 ≤ σ 1 0 ∧ σ 1 0 ≤ 6 := h.1.2.2.2.1.n
theorem RelJ.B {σ τ : Mem} (h : RelJ σ τ) : JB τ := JB.of h.2.2.2.1 h.1 h.2.1 h.2.2.1
/-! small helpers of both -/
theorem L_within {a b c : Int} {s : Mem} {Q : Int → Mem → Prop} (ha : InI a) (hb : InI b) (hc : InI c) (ht : b ≤ a ∧ a ≤ c → Q 1 s) (hf : ¬ (b ≤ a ∧ a ≤ c) → Q 0 s) : x7_within a b c s Q := ⟨⟨ha, hb⟩, fun q => ⟨by omega, hf (by omega)⟩, fun q => ⟨⟨ha, hc⟩, fun q2 => ⟨by omega, hf (by omega)⟩, fun q2 => ⟨by omega, ht ⟨q, q2⟩⟩⟩⟩
theorem B_in {a b c : Int} {s : Mem} {Q : Int → Mem → Prop} (ha : InL a) (hb : InL b) (hc : InL c) (ht : b ≤ a ∧ a ≤ c → Q 1 s) (hf : ¬ (b ≤ a ∧ a ≤ c) → Q 0 s) : x8_in a b c s Q := ⟨⟨ha, hb⟩, fun q => ⟨by omega, hf (by omega)⟩, fun q => ⟨⟨ha, hc⟩, fun q2 => ⟨by omega, hf (by omega)⟩, fun q2 => ⟨by omega, ht ⟨q, q2⟩⟩⟩⟩
theorem L_has {k : Int} {s : Mem} {Q : Int → Mem → Prop} (hk : InI k) (hn : 3 ≤ s 1 0 ∧ s 1 0 ≤ 6) (ht : q_in (s 1 0) k → Q 1 s) (hf : ¬ q_in (s 1 0) k → Q 0 s) : x2_has k s Q := ⟨hk, fun q => ⟨by omega, hf (by omega)⟩, fun q => ⟨⟨hk, by omega⟩, fun q2 => ⟨by omega, hf (by omega)⟩, fun q2 => ⟨by omega, ht ⟨q, q2⟩⟩⟩⟩
theorem B_noBolt {k : Int} {s : Mem} {Q : Int → Mem → Prop} (hk : InI k) (hn : 3 ≤ s 0 0 ∧ s 0 0 ≤ 6) (ht : q_in (s 0 0) k → Q 0 s) (hf : ¬ q_in (s 0 0) k → Q 1 s) : x8_noBolt k s Q := by
  refine ⟨hk, by omega, B_in (by constructor <;> omega) (by omega) (by constructor <;> omega) (fun q => ⟨by omega, fun c => ⟨by omega, ht ⟨q.1, by omega⟩⟩, fun c => absurd c (by omega)⟩) (fun q => ⟨by omega, fun c => absurd rfl c, fun c => ⟨by omega, hf (fun z => q ⟨z.1, by have := z.2; omega⟩)⟩⟩)⟩
theorem L_asNumber {a : Int} {s : Mem} {Q : Int → Mem → Prop} (ha : InI a) (h : Q (if a = 0 then 0 else 1) s) : x7_asNumber a s Q := ⟨ha, fun q => by rw [if_pos q] at h; exact h, fun q => by rw [if_neg q] at h; exact h⟩
theorem B_bit {a : Int} {s : Mem} {Q : Int → Mem → Prop} (ha : InI a) (h : Q (if a = 0 then 0 else 1) s) : x8_bit a s Q := ⟨ha, fun q => by rw [if_pos q] at h; exact h, fun q => by rw [if_neg q] at h; exact h⟩
theorem B_isAim {t : Int} {s : Mem} {Q : Int → Mem → Prop} (ht : InI t) (h1 : 1 ≤ t ∧ t ≤ 900 → Q 1 s) (h0 : ¬ (1 ≤ t ∧ t ≤ 900) → Q 0 s) : x8_isAim t s Q := ⟨ht, B_in (by constructor <;> omega) (by omega) (by omega) (fun q => ⟨by omega, h1 q⟩) (fun q => ⟨by omega, h0 q⟩)⟩
theorem s_bc : ∀ a : Nat, a < 64 → ∀ v1 : Int, v1 = (a : Int) - andI (ushrI (a : Int) 1) 1431655765 → ∀ v2 : Int, v2 = andI v1 858993459 + andI (ushrI v1 2) 858993459 → ∀ v3 : Int, v3 = andI (v2 + ushrI v2 4) 252645135 → ∀ v4 : Int, v4 = v3 + ushrI v3 8 → ∀ v5 : Int, v5 = v4 + ushrI v4 16 → andI v5 63 = q_cnt (q_bit (a : Int)) 6 := by
  intro a ha v1 h1 v2 h2 v3 h3 v4 h4 v5 h5
  subst h1; subst h2; subst h3; subst h4; subst h5
  revert a
  decide +kernel
theorem L_bitCount {a : Int} {s : Mem} {Q : Int → Mem → Prop} (ha : 0 ≤ a ∧ a < 64) (h : Q (q_cnt (q_bit a) 6) s) : j6_bitCount_0f7a4 a s Q := by
  intro v1 h1 v2 h2 v3 h3 v4 h4 v5 h5
  obtain ⟨b, rfl⟩ : ∃ b : Nat, a = b := ⟨a.toNat, by omega⟩
  rw [s_bc b (by omega) v1 h1 v2 h2 v3 h3 v4 h4 v5 h5]
  exact h
theorem q_cnt_out {p : Int → Bool} {N M : Nat} (hNM : N ≤ M) (h : ∀ k : Int, (N : Int) ≤ k → p k = false) : q_cnt p M = q_cnt p N := by
  induction M with
  | zero => rw [show N = 0 by omega]
  | succ M ih =>
    by_cases e : N = M + 1
    · rw [e]
    · show q_cnt p M + (if p (M : Int) = true then 1 else 0) = q_cnt p N
      rw [ih (by omega), h (M : Int) (by omega)]
      simp
/-- how many aren't broken, in both -/
def q_wh (br : Int → Int) (N : Nat) : Int := q_sum (fun k => if br k = 0 then 1 else 0) N
theorem q_wh_cnt {σ : Mem} (N : Nat) : q_wh (c_br σ) N = N - q_cnt (q_bit (σ 1 2)) N := by
  induction N with
  | zero => rfl
  | succ N ih =>
    show q_wh (c_br σ) N + (if c_br σ (N : Int) = 0 then 1 else 0) = ((N + 1 : Nat) : Int) - (q_cnt (q_bit (σ 1 2)) N + (if q_bit (σ 1 2) (N : Int) = true then 1 else 0))
    rw [ih]
    unfold c_br
    cases q_bit (σ 1 2) (N : Int) <;> simp <;> omega
theorem L_wholeCount {s : Mem} {Q : Int → Mem → Prop} (hn : 3 ≤ s 1 0 ∧ s 1 0 ≤ 6) (hB : 0 ≤ s 1 2 ∧ s 1 2 < 64) (hb : ∀ k, s 1 0 ≤ k → q_bit (s 1 2) k = false) (h : Q (q_wh (c_br s) (s 1 0).toNat) s) : x2_wholeCount s Q := by
  refine L_bitCount hB ?_
  rw [q_cnt_out (N := (s 1 0).toNat) (M := 6) (by omega) (fun k hk => hb k (by omega))]
  rw [q_wh_cnt] at h
  rw [show (((s 1 0).toNat : Nat) : Int) = s 1 0 by omega] at h
  exact h
theorem q_wh_congr {br br' : Int → Int} {N : Nat} (h : ∀ k, q_in N k → br k = br' k) : q_wh br N = q_wh br' N := q_sum_congr N (fun k hk => by rw [h k hk])
theorem B_whole {t : Mem} {Q : Int → Mem → Prop} (hn : 3 ≤ t 0 0 ∧ t 0 0 ≤ 6) (hb : ∀ k, q_in (t 0 0) k → t 5 k = 0 ∨ t 5 k = 1) (h : Q (q_wh (t 5) (t 0 0).toNat) t) : x8_whole t Q := by
  apply x8_whole_i
  have key : ∀ (m : Nat) (k : Int), 0 ≤ k → k ≤ t 0 0 → (t 0 0 - k).toNat = m → x8_whole_L4 Q (q_wh (t 5) k.toNat) k t := by
    intro m
    induction m with
    | zero =>
      intro k h0 h1 hm
      apply x8_whole_s4
      refine ⟨by omega, fun c => ?_, fun c => absurd c (by omega)⟩
      rw [show k = t 0 0 by omega]
      exact h
    | succ m ih =>
      intro k h0 h1 hm
      have hbk := hb k ⟨h0, by omega⟩
      have nxt := ih (k + 1) (by omega) (by omega) (by omega)
      rw [show (k + 1).toNat = k.toNat + 1 by omega, q_wh, q_sum, show ((k.toNat : Nat) : Int) = k by omega] at nxt
      apply x8_whole_s4
      refine ⟨by omega, fun c => absurd c (by omega), fun c => ⟨by omega, by omega, fun c2 => B_bit (by omega) ?_, fun c2 => B_bit (by omega) ?_⟩⟩
      · rw [if_neg c2] at nxt
        rw [if_pos rfl]
        exact nxt
      · rw [if_pos c2] at nxt
        rw [if_neg (by omega)]
        exact nxt
  exact key _ 0 (by omega) (by omega) rfl
/-! least terms in both -/
theorem L_commonDivisor {a b : Int} {s : Mem} {Q : Int → Mem → Prop} (ha : 0 ≤ a ∧ InL a) (hb : 0 < b ∧ InL b) (h : Q (q_gcd a b) s) : x7_commonDivisor a b s Q := by
  apply x7_commonDivisor_i
  have key : ∀ (m : Nat) (x y step : Int), 0 ≤ step → (0 ≤ x ∧ InL x) → (0 ≤ y ∧ InL y) → y < 2 ^ m → step + 2 * m + 1 ≤ 200 → q_gcd x y = q_gcd a b → x7_commonDivisor_L3 Q x y step s := by
    intro m
    induction m with
    | zero =>
      intro x y step hs hx hy hlt hst hg
      apply x7_commonDivisor_s3
      have hy0 : y = 0 := by
        rw [Int.pow_zero] at hlt
        omega
      refine ⟨by omega, fun c => absurd c (by omega), fun c => ⟨⟨hy.2, by omega⟩, fun c2 => ?_, fun c2 => absurd hy0 c2⟩⟩
      rw [← hg, hy0, q_gcd_0 hx.1] at h
      exact h
    | succ m ih =>
      intro x y step hs hx hy hlt hst hg
      rw [Int.pow_succ] at hlt
      apply x7_commonDivisor_s3
      refine ⟨by omega, fun c => absurd c (by omega), fun c => ⟨⟨hy.2, by omega⟩, fun c2 => ?_, fun c2 => ⟨⟨hx.2, hy.2, c2⟩, ?_⟩⟩⟩
      · rw [← hg, c2, q_gcd_0 hx.1] at h
        exact h
      · have hyp : 0 < y := by omega
        obtain ⟨r1, r2⟩ := q_tmod_lt hx.1 hyp
        have hg1 := q_gcd_step hx.1 hyp
        have hr : InL (x.tmod y) := ⟨by omega, by have := hy.2.2; omega⟩
        apply x7_commonDivisor_s3
        refine ⟨by omega, fun c => absurd c (by omega), fun c => ⟨⟨hr, by omega⟩, fun c3 => ?_, fun c3 => ⟨⟨hy.2, hr, c3⟩, ?_⟩⟩⟩
        · rw [← hg, ← hg1, c3, q_gcd_0 hy.1] at h
          exact h
        · have hrp : 0 < x.tmod y := by omega
          obtain ⟨u1, u2⟩ := q_tmod_lt hy.1 hrp
          have hhalf := q_tmod_half hyp hrp r2
          have hg2 := q_gcd_step hy.1 hrp
          exact ih _ _ _ (by omega) ⟨r1, hr⟩ ⟨u1, ⟨by omega, by have := hr.2; omega⟩⟩ (by omega) (by omega) (by rw [hg2, hg1, hg])
  refine key 63 a b 0 (by omega) ha ⟨by omega, hb.2⟩ ?_ (by omega) rfl
  have := hb.2.2
  have e : (2 : Int) ^ 63 = 9223372036854775808 := by decide
  omega
theorem B_gcd {a b : Int} {s : Mem} {Q : Int → Mem → Prop} (ha : InL a ∧ -9223372036854775807 ≤ a) (hb : 0 < b ∧ InL b) (h : Q (q_gcd (if a < 0 then -a else a) b) s) : x8_gcd a b s Q := by
  apply x8_gcd_i
  have key : ∀ (m : Nat) (x y : Int), (0 ≤ x ∧ InL x) → (0 ≤ y ∧ InL y) → y.toNat < m → q_gcd x y = q_gcd (if a < 0 then -a else a) b → x8_gcd_L18 Q x y s := by
    intro m
    induction m with
    | zero => intro x y hx hy hm; omega
    | succ m ih =>
      intro x y hx hy hm hg
      apply x8_gcd_s18
      refine ⟨⟨hy.2, by omega⟩, fun c => ?_, fun c => ⟨⟨hx.2, hy.2, c⟩, ?_⟩⟩
      · rw [← hg, c, q_gcd_0 hx.1] at h
        exact h
      · have hyp : 0 < y := by omega
        obtain ⟨r1, r2⟩ := q_tmod_lt hx.1 hyp
        exact ih _ _ ⟨by omega, hy.2⟩ ⟨r1, ⟨by omega, by have := hy.2.2; omega⟩⟩ (by omega) (by rw [q_gcd_step hx.1 hyp, hg])
  refine ⟨⟨ha.1, by omega⟩, fun c => ?_, fun c => ?_⟩
  · refine key (b.toNat + 1) a b ⟨c, ha.1⟩ ⟨by omega, hb.2⟩ (by omega) ?_
    rw [if_neg (by omega)]
  · refine key (b.toNat + 1) (0 - a) b ⟨by omega, ⟨by omega, by omega⟩⟩ ⟨by omega, hb.2⟩ (by omega) ?_
    rw [if_pos c, Int.zero_sub]
theorem L_leastTerm {u d w : Int} {s : Mem} {Q : Int → Mem → Prop} (hu : InL u ∧ -9223372036854775807 ≤ u) (hd : 0 < d ∧ InL d) (hw : InI w) (h : Q (Int.tdiv (if w = 0 then u else d) (q_gcd (if u < 0 then -u else u) d)) s) : x7_leastTerm u d w s Q := by
  apply x7_leastTerm_i
  have hab : (if (0 : Int) < u then u else -u) = if u < 0 then -u else u := by split <;> split <;> omega
  have hg := q_gcd_pos (a := if u < 0 then -u else u) hd.1
  have hga : InL (if u < 0 then -u else u) := by split <;> constructor <;> omega
  have hgle : q_gcd (if u < 0 then -u else u) d ≤ d := by
    unfold q_gcd
    have := Nat.gcd_le_right (if u < 0 then -u else u).toNat (show 0 < d.toNat by omega)
    omega
  have go : ∀ t0 : Int, InL t0 → t0 = (if w = 0 then u else d) → x7_leastTerm_L10 Q u d t0 s := by
    intro t0 ht h0
    apply x7_leastTerm_s10
    refine ⟨hu.1, ?_⟩
    rw [hab]
    refine L_commonDivisor ⟨by split <;> omega, hga⟩ hd ⟨⟨⟨by omega, by have := hd.2.2; omega⟩, by omega⟩, fun c => ⟨⟨ht, ⟨by omega, by have := hd.2.2; omega⟩, c⟩, ?_⟩, fun c => absurd c (by omega)⟩
    rw [h0]
    exact h
  exact ⟨hw, fun c => go d hd.2 (by rw [if_neg c]), fun c => go u hu.1 (by rw [if_pos c])⟩
