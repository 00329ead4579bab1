/-! ===== counts, figures told, forces, readings ===== -/
def q_nul (f : Int → Int) (k : Int) : Int := if f k = 0 then 1 else 0
theorem L_slackCount {o : Nat} {s : Mem} (h : RdyA o s) {Q : Int → Mem → Prop} (hQ : Q (q_sum (q_nul (pA o s)) (s 1 0).toNat) s) : x3_slackCount o s Q := by
  apply x3_slackCount_i
  have hn := h.1
  have key : ∀ (m : Nat) (k : Int), 0 ≤ k → k ≤ s 1 0 → (s 1 0 - k).toNat = m → x3_slackCount_L4 o Q (q_sum (q_nul (pA o s)) k.toNat) k s := by
    intro m
    induction m with
    | zero =>
      intro k h0 h1 hm
      apply x3_slackCount_s4
      rw [show k = s 1 0 by omega]
      exact ⟨by omega, fun _ => hQ, fun c => absurd c (by omega)⟩
    | succ m ih =>
      intro k h0 h1 hm
      have hk : q_in (s 1 0) k := ⟨h0, by omega⟩
      have nxt := ih (k + 1) (by omega) (by omega) (by omega)
      rw [show (k + 1).toNat = k.toNat + 1 by omega, q_sum, show ((k.toNat : Nat) : Int) = k by omega, q_nul] at nxt
      apply x3_slackCount_s4
      refine ⟨by omega, fun c => absurd c (by omega), fun c => L_pullUpper h hk ⟨by have := h.p hk; constructor <;> constructor <;> omega, fun q => L_asNumber (by omega) ?_, fun q => L_asNumber (by omega) ?_⟩⟩
      · rw [if_neg q] at nxt
        exact nxt
      · rw [if_pos q] at nxt
        exact nxt
  exact key _ 0 (by omega) (by omega) rfl
theorem L_openCount {o : Nat} {s : Mem} (h : RdyA o s) {Q : Int → Mem → Prop} (hQ : Q (q_sum (q_nul (rA o s)) (s 1 0).toNat) s) : x3_openCount o s Q := by
  apply x3_openCount_i
  have hn := h.1
  have key : ∀ (m : Nat) (k : Int), 0 ≤ k → k ≤ s 1 0 → (s 1 0 - k).toNat = m → x3_openCount_L4 o Q (q_sum (q_nul (rA o s)) k.toNat) k s := by
    intro m
    induction m with
    | zero =>
      intro k h0 h1 hm
      apply x3_openCount_s4
      rw [show k = s 1 0 by omega]
      exact ⟨by omega, fun _ => hQ, fun c => absurd c (by omega)⟩
    | succ m ih =>
      intro k h0 h1 hm
      have hk : q_in (s 1 0) k := ⟨h0, by omega⟩
      have nxt := ih (k + 1) (by omega) (by omega) (by omega)
      rw [show (k + 1).toNat = k.toNat + 1 by omega, q_sum, show ((k.toNat : Nat) : Int) = k by omega, q_nul] at nxt
      apply x3_openCount_s4
      refine ⟨by omega, fun c => absurd c (by omega), fun c => L_pressUpper h hk ⟨by have := h.r hk; constructor <;> constructor <;> omega, fun q => L_asNumber (by omega) ?_, fun q => L_asNumber (by omega) ?_⟩⟩
      · rw [if_neg q] at nxt
        exact nxt
      · rw [if_pos q] at nxt
        exact nxt
  exact key _ 0 (by omega) (by omega) rfl
def q_mark (f : Int → Int) (k : Int) : Int := if f k = 0 then 0 else 1
theorem B_count {τ : Mem} (hJ : JB τ) (hR : ∀ k, q_in (τ 0 0) k → τ 9 k = 0 ∨ τ 9 k = 1) {p1 : Int} (i1 : InI p1) {Q : Int → Mem → Prop} (h : ∀ t : Mem, LiftsB τ t → (p1 = 0 → Q (τ 0 0) t) ∧ (p1 = 1 → Q (τ 0 0 - q_wh (τ 5) (τ 0 0).toNat) t) ∧ (p1 = 2 → Q (q_sum (q_nul (pB t)) (τ 0 0).toNat) t) ∧ (p1 = 3 → Q (q_sum (q_nul (rB t)) (τ 0 0).toNat) t) ∧ (p1 = 4 → Q (q_sum (τ 3) (τ 0 0).toNat) t) ∧ (p1 = 5 → Q (τ 0 8) t) ∧ (p1 = 6 → Q (q_sum (q_mark (τ 9)) (τ 0 0).toNat) t) ∧ (p1 = 7 → Q (τ 0 30) t) ∧ (p1 = 8 → Q (τ 0 36) t) ∧ (p1 < 0 ∨ 8 < p1 → Q (-100002) t)) : x8_count p1 τ Q := by
  apply x8_count_i
  refine B_findLifts hJ (fun t hL => ?_)
  have h := h t hL
  have hn := hJ.n
  have hrd := hL.rdy hJ
  have f := hL.1
  have e0 : ∀ j : Int, j ≠ 15 → t 0 j = τ 0 j := f.2
  have e00 := e0 0 (by omega)
  have e3 : t 3 = τ 3 := f.1 3 (by omega) (by omega) (by omega) (by omega)
  have e5 : t 5 = τ 5 := f.1 5 (by omega) (by omega) (by omega) (by omega)
  have e9 : t 9 = τ 9 := f.1 9 (by omega) (by omega) (by omega) (by omega)
  have key : ∀ (m : Nat) (k : Int), 0 ≤ k → k ≤ τ 0 0 → (τ 0 0 - k).toNat = m → x8_count_L17 Q p1 (q_sum (q_nul (pB t)) k.toNat) (q_sum (q_nul (rB t)) k.toNat) (q_sum (τ 3) k.toNat) (q_sum (q_mark (τ 9)) k.toNat) k t := by
    intro m
    induction m with
    | zero =>
      intro k h0 h1 hm
      obtain ⟨g0, g1, g2, g3, g4, g5, g6, g7, g8, g9⟩ := h
      apply x8_count_s17
      rw [show k = τ 0 0 by omega]
      refine ⟨by omega, fun _ => ⟨i1, ?_, fun q => B_whole (by omega) (by rw [e00, e5]; exact fun k hk => (hJ.k hk).2.2.2.2) ?_, g2, g3, g4, ?_, g6, ?_, ?_, g9⟩, fun c => absurd c (by omega)⟩
      · rw [e00]
        exact g0
      · rw [e00, e5]
        exact g1 q
      · rw [e0 8 (by omega)]
        exact g5
      · rw [e0 30 (by omega)]
        exact g7
      · rw [e0 36 (by omega)]
        exact g8
    | succ m ih =>
      intro k h0 h1 hm
      have hk : q_in (τ 0 0) k := ⟨h0, by omega⟩
      have hk2 : q_in (t 0 0) k := by rw [e00]; exact hk
      have nxt := ih (k + 1) (by omega) (by omega) (by omega)
      simp only [show (k + 1).toNat = k.toNat + 1 by omega, q_sum, show ((k.toNat : Nat) : Int) = k by omega, q_nul, q_mark] at nxt
      have bp := hrd.p hk2
      have br := hrd.r hk2
      have h9 := hR k hk
      have last : ∀ a b : Int, a = (if pB t k = 0 then 1 else 0) → b = (if rB t k = 0 then 1 else 0) → x8_count_L65 Q p1 (q_sum (q_nul (pB t)) k.toNat + a) (q_sum (τ 3) k.toNat) (q_sum (q_mark (τ 9)) k.toNat) k b (q_sum (q_nul (rB t)) k.toNat) t := fun a b ha hb => by
        apply x8_count_s65
        refine B_bit (by rw [hb]; split <;> omega) ⟨by omega, by omega, B_bit (by rw [e9]; omega) ?_⟩
        rw [e9, e3]
        rw [← ha, ← hb] at nxt
        have eb : (if b = 0 then (0 : Int) else 1) = b := by
          rw [hb]
          split <;> rfl
        rw [eb]
        exact nxt
      have mid : ∀ a : Int, a = (if pB t k = 0 then 1 else 0) → x8_count_L43 Q p1 (q_sum (q_nul (rB t)) k.toNat) (q_sum (τ 3) k.toNat) (q_sum (q_mark (τ 9)) k.toNat) k a (q_sum (q_nul (pB t)) k.toNat) t := fun a ha => by
        apply x8_count_s43
        have ea : (if a = 0 then (0 : Int) else 1) = a := by
          rw [ha]
          split <;> rfl
        refine B_bit (by rw [ha]; split <;> omega) ?_
        rw [ea]
        exact B_press hrd hk2 ⟨⟨by constructor <;> omega, by omega⟩, fun q => last a 0 ha (by rw [if_neg q]), fun q => last a 1 ha (by rw [if_pos q])⟩
      apply x8_count_s17
      exact ⟨by omega, fun c => absurd c (by omega), fun c => B_pull hrd hk2 ⟨⟨by constructor <;> omega, by omega⟩, fun q => mid 0 (by rw [if_neg q]), fun q => mid 1 (by rw [if_pos q])⟩⟩
  exact key _ 0 (by omega) (by omega) rfl
theorem Rel.rd {σ τ : Mem} (R : Rel σ τ) : ∀ k, q_in (τ 0 0) k → τ 9 k = 0 ∨ τ 9 k = 1 := fun k hk => by
  have := (R.2.2.2.1.2.2 k (by rw [R.1.1]; exact hk)).1
  rw [this]
  split <;> omega
theorem q_mark_cnt {p : Int → Bool} {f : Int → Int} (N : Nat) (h : ∀ k, q_in N k → f k = if p k = true then 1 else 0) : q_sum (q_mark f) N = q_cnt p N := by
  refine q_sum_congr N (fun k hk => ?_)
  unfold q_mark
  rw [h k hk]
  cases p k <;> rfl
theorem RelR.count {σ τ : Mem} (h : RelR σ τ) (hn : 3 ≤ σ 1 0 ∧ σ 1 0 ≤ 6) : q_cnt (q_bit (σ 34 0)) 6 = q_sum (q_mark (τ 9)) (σ 1 0).toNat := by
  rw [q_mark_cnt (p := q_bit (σ 34 0)) _ (fun k hk => (h.2.2 k ⟨hk.1, by have := hk.2; omega⟩).1)]
  exact q_cnt_out (by omega) (fun k hk => h.2.1 k (by omega))
theorem Rel.tie {σ τ : Mem} (R : Rel σ τ) {s t : Mem} (hA : Settled 7 σ 5 (-1) 0 s) (hB : LiftsB τ t) : Tie 7 s t := Tie.of (Or.inl rfl) R.1.2.2.2.1 R.1.1 R.1.2.1 R.1.2.2.1 hA hB R.JB
theorem Rel.looked {σ τ : Mem} (R : Rel σ τ) {s t : Mem} (hA : Settled 7 σ 5 (-1) 0 s) (hB : LiftsB τ t) : Rel s t := R.same (SameA.of (Or.inl rfl) hA.1) (SameB.of hB.1)
theorem Rel.lookB {σ τ : Mem} (R : Rel σ τ) {t : Mem} (hB : LiftsB τ t) : Rel σ t := R.same (SameA.refl σ) (SameB.of hB.1)
theorem L_settle7 {σ τ : Mem} (R : Rel σ τ) {Q : Int → Mem → Prop} (hQ : ∀ s : Mem, Settled 7 σ 5 (-1) 0 s → Q 0 s) : x3_settle 7 5 σ Q := L_settle (Or.inl rfl) rfl (Or.inl (by omega)) R.1.2.2.2.1 hQ
theorem M_count {σ τ : Mem} (R : Rel σ τ) {p1 : Int} (i1 : InI p1) : Ans (x7_count p1 σ) (x8_count p1 τ) := by
  unfold Ans x7_count
  have hn := R.n
  have e0 : σ 1 0 = τ 0 0 := R.1.1
  have ref : ∀ {r : Int}, (p1 = 0 → r = τ 0 0) → (p1 = 1 → r = τ 0 0 - q_wh (τ 5) (τ 0 0).toNat) → ¬ (p1 = 2 ∨ p1 = 3) → (p1 = 4 → r = q_sum (τ 3) (τ 0 0).toNat) → (p1 = 5 → r = τ 0 8) → (p1 = 6 → r = q_sum (q_mark (τ 9)) (τ 0 0).toNat) → (p1 = 7 → r = τ 0 30) → (p1 = 8 → r = τ 0 36) → (p1 < 0 ∨ 8 < p1 → r = -100002) → x8_count p1 τ (fun r' τ' => r = r' ∧ Rel σ τ') := fun k0 k1 k2 k4 k5 k6 k7 k8 k9 => B_count R.JB R.rd i1 (fun t ht => by
    have Rt := R.lookB ht
    exact ⟨fun q => ⟨k0 q, Rt⟩, fun q => ⟨k1 q, Rt⟩, fun q => absurd (Or.inl q) k2, fun q => absurd (Or.inr q) k2, fun q => ⟨k4 q, Rt⟩, fun q => ⟨k5 q, Rt⟩, fun q => ⟨k6 q, Rt⟩, fun q => ⟨k7 q, Rt⟩, fun q => ⟨k8 q, Rt⟩, fun q => ⟨k9 q, Rt⟩⟩)
  refine ⟨i1, fun q => ?_, fun q => L_bitCount R.bd.1 ?_, fun q => ?_, fun q => ?_, fun q => L_sumOf rfl hn ?_, fun q => ?_, fun q => L_bitCount R.2.2.2.1.1 ?_, fun q => ?_, fun q => ?_, fun q => ?_⟩
  · exact ref (fun _ => e0) (fun _ => by omega) (by omega) (fun _ => by omega) (fun _ => by omega) (fun _ => by omega) (fun _ => by omega) (fun _ => by omega) (fun _ => by omega)
  · refine ref (fun _ => by omega) (fun _ => ?_) (by omega) (fun _ => by omega) (fun _ => by omega) (fun _ => by omega) (fun _ => by omega) (fun _ => by omega) (fun _ => by omega)
    rw [← R.wh, q_wh_cnt, q_cnt_out (N := (σ 1 0).toNat) (M := 6) (by omega) (fun k hk => R.bd.2 k (by omega))]
    omega
  · refine L_settle7 R (fun s hs => L_slackCount (hs.rdy (Or.inl rfl) R.1.2.2.2.1) (B_count R.JB R.rd i1 (fun t ht => ?_)))
    refine ⟨fun _ => by omega, fun _ => by omega, fun _ => ⟨?_, R.looked hs ht⟩, fun _ => by omega, fun _ => by omega, fun _ => by omega, fun _ => by omega, fun _ => by omega, fun _ => by omega, fun _ => by omega⟩
    have T := R.tie hs ht
    have e := (R.looked hs ht).1.1
    rw [e, ht.1.2 0 (by omega)]
    refine q_sum_congr _ (fun k hk => ?_)
    have hk2 : q_in (s 1 0) k := ⟨hk.1, by have := hk.2; rw [e, ht.1.2 0 (by omega)]; omega⟩
    have z := q_like0 T.2.2.1.2.2.2.1.1 T.2.2.2.1.2.2.1.1 (T.p hk2)
    unfold q_nul
    by_cases w : pA 7 s k = 0
    · rw [if_pos w, if_pos (z.mp w)]
    · rw [if_neg w, if_neg (fun y => w (z.mpr y))]
  · refine L_settle7 R (fun s hs => L_openCount (hs.rdy (Or.inl rfl) R.1.2.2.2.1) (B_count R.JB R.rd i1 (fun t ht => ?_)))
    refine ⟨fun _ => by omega, fun _ => by omega, fun _ => by omega, fun _ => ⟨?_, R.looked hs ht⟩, fun _ => by omega, fun _ => by omega, fun _ => by omega, fun _ => by omega, fun _ => by omega, fun _ => by omega⟩
    have T := R.tie hs ht
    have e := (R.looked hs ht).1.1
    rw [e, ht.1.2 0 (by omega)]
    refine q_sum_congr _ (fun k hk => ?_)
    have hk2 : q_in (s 1 0) k := ⟨hk.1, by have := hk.2; rw [e, ht.1.2 0 (by omega)]; omega⟩
    have z := q_like0 T.2.2.1.2.2.2.1.1 T.2.2.2.1.2.2.1.1 (T.r hk2)
    unfold q_nul
    by_cases w : rA 7 s k = 0
    · rw [if_pos w, if_pos (z.mp w)]
    · rw [if_neg w, if_neg (fun y => w (z.mpr y))]
  · refine ref (fun _ => by omega) (fun _ => by omega) (by omega) (fun _ => ?_) (fun _ => by omega) (fun _ => by omega) (fun _ => by omega) (fun _ => by omega) (fun _ => by omega)
    rw [← e0]
    exact q_sum_congr _ (fun k hk => (R.1.2.2.1 k ⟨hk.1, by have := hk.2; omega⟩).2.2.1)
  · exact ref (fun _ => by omega) (fun _ => by omega) (by omega) (fun _ => by omega) (fun _ => R.2.1.1) (fun _ => by omega) (fun _ => by omega) (fun _ => by omega) (fun _ => by omega)
  · refine ref (fun _ => by omega) (fun _ => by omega) (by omega) (fun _ => by omega) (fun _ => by omega) (fun _ => ?_) (fun _ => by omega) (fun _ => by omega) (fun _ => by omega)
    rw [← e0]
    exact R.2.2.2.1.count hn
  · exact ref (fun _ => by omega) (fun _ => by omega) (by omega) (fun _ => by omega) (fun _ => by omega) (fun _ => by omega) (fun _ => R.2.2.2.2.1.1) (fun _ => by omega) (fun _ => by omega)
  · exact ref (fun _ => by omega) (fun _ => by omega) (by omega) (fun _ => by omega) (fun _ => by omega) (fun _ => by omega) (fun _ => by omega) (fun _ => R.2.2.2.2.1.2.2.2.1) (fun _ => by omega)
  · exact ref (fun _ => by omega) (fun _ => by omega) (by omega) (fun _ => by omega) (fun _ => by omega) (fun _ => by omega) (fun _ => by omega) (fun _ => by omega) (fun _ => rfl)
