theorem Rel.drawn {σ τ s t : Mem} (R : Rel σ τ) (a : SameAT σ s) (b : SameBT τ t) (ok : OkA s) (e : tA s = tB t) : Rel s t := by
  refine R.turns a b (fun k hk => ?_)
  have s1 := a.1 1 (by omega) (by omega) (by omega) (by omega)
  have e1 : tA s k = s 4 k := by
    unfold tA
    rw [s1]
    exact q_nrm_in hk
  have e2 : tB t k = t 3 k := by
    unfold tB
    rw [b.2.1, ← R.1.1]
    exact q_nrm_in hk
  have hk2 : q_in (s 1 0) k := by rw [s1]; exact hk
  exact ⟨by rw [← e1, ← e2, e], (ok.1.k hk2).2.2.1.1, ok.2 k hk2⟩
/-- one pass over the row -/
noncomputable def q_pass (j : JT) (row : Int → Int) (t : Int) : Nat → Int → (Int → Int) → Int → Int × (Int → Int)
  | 0, _, tu, acc => (acc, tu)
  | m + 1, k, tu, acc => if j.2.2.2.2.2 (row k) = 0 then (if q_drw j tu (row k) t < 0 then (-1, tu) else q_pass j row t m (k + 1) (q_drT j tu (row k) t) (acc + q_drw j tu (row k) t)) else q_pass j row t m (k + 1) tu acc
theorem q_pass_s (j : JT) (row : Int → Int) (t : Int) (m : Nat) (k : Int) (tu : Int → Int) (acc : Int) : q_pass j row t (m + 1) k tu acc = if j.2.2.2.2.2 (row k) = 0 then (if q_drw j tu (row k) t < 0 then (-1, tu) else q_pass j row t m (k + 1) (q_drT j tu (row k) t) (acc + q_drw j tu (row k) t)) else q_pass j row t m (k + 1) tu acc := rfl
theorem q_sum_set {tu : Int → Int} {h d : Int} : ∀ N : Nat, q_in N h → q_sum (q_set tu h (tu h + d)) N = q_sum tu N + d
  | 0, hh => absurd hh.2 (by have := hh.1; omega)
  | N + 1, hh => by
    show q_sum (q_set tu h (tu h + d)) N + q_set tu h (tu h + d) N = q_sum tu N + tu N + d
    by_cases w : h = N
    · have e : q_sum (q_set tu h (tu h + d)) N = q_sum tu N := q_sum_congr N (fun k hk => by
        unfold q_set
        rw [if_neg (by have := hk.2; omega)])
      rw [e]
      unfold q_set
      rw [if_pos w.symm, w]
      omega
    · rw [q_sum_set N ⟨hh.1, by have := hh.2; omega⟩]
      unfold q_set
      rw [if_neg (fun q => w q.symm)]
      omega
theorem q_pass_ok {j : JT} {row : Int → Int} {t : Int} (hn : 0 ≤ j.1) (hrow : ∀ k, q_in j.1 k → q_in j.1 (row k)) : ∀ (m : Nat) (k : Int) (tu : Int → Int) (acc : Int), 0 ≤ k → k + m = j.1 → 0 ≤ acc → (∀ k, q_in j.1 k → 0 ≤ tu k ∧ tu k ≤ 200) → (∀ i, q_in j.1 i → 0 ≤ (q_pass j row t m k tu acc).2 i ∧ (q_pass j row t m k tu acc).2 i ≤ 200) ∧ ((q_pass j row t m k tu acc).1 = -1 ∨ (acc ≤ (q_pass j row t m k tu acc).1 ∧ q_sum (q_pass j row t m k tu acc).2 j.1.toNat = q_sum tu j.1.toNat + ((q_pass j row t m k tu acc).1 - acc)))
  | 0, k, tu, acc, _, _, h0, ht => ⟨ht, Or.inr ⟨Int.le_refl _, by
    show q_sum tu j.1.toNat = q_sum tu j.1.toNat + (acc - acc)
    omega⟩⟩
  | m + 1, k, tu, acc, hk, hm, h0, ht => by
    have hr := hrow k ⟨hk, by omega⟩
    have bd := q_drw_bd (j := j) (h := row k) (t := t) (tu := tu) (by have := (ht _ hr).2; omega)
    unfold q_pass
    by_cases w : j.2.2.2.2.2 (row k) = 0
    · rw [if_pos w]
      by_cases w2 : q_drw j tu (row k) t < 0
      · rw [if_pos w2]
        exact ⟨ht, Or.inl rfl⟩
      · rw [if_neg w2]
        have e : q_drT j tu (row k) t = q_set tu (row k) (tu (row k) + q_drw j tu (row k) t) := by
          unfold q_drT
          rw [if_neg w2]
        have ih := q_pass_ok (t := t) hn hrow m (k + 1) (q_drT j tu (row k) t) (acc + q_drw j tu (row k) t) (by omega) (by omega) (by omega) (fun i hi => by
          rw [e]
          unfold q_set
          have := ht i hi
          have := ht _ hr
          split <;> omega)
        refine ⟨ih.1, ?_⟩
        rcases ih.2 with q | q
        · exact Or.inl q
        · refine Or.inr ⟨by omega, ?_⟩
          rw [q.2, e, q_sum_set _ ⟨hr.1, by have := hr.2; omega⟩]
          omega
    · rw [if_neg w]
      exact q_pass_ok hn hrow m (k + 1) tu acc (by omega) (by omega) h0 ht
theorem OkA.tu {σ : Mem} (ok : OkA σ) : ∀ k, q_in (σ 1 0) k → 0 ≤ tA σ k ∧ tA σ k ≤ 200 := fun k hk => by
  rw [show tA σ k = σ 4 k from q_nrm_in hk]
  exact ⟨(ok.1.k hk).2.2.1.1, ok.2 k hk⟩
theorem L_goRound {σ : Mem} (ok : OkA σ) {c : Nat} (hc : shA[c]? = some (.inr (0, 6))) (hc4 : c ≠ 4) (hcf : c < 14 ∨ 20 ≤ c) {t : Int} (ht : 1 ≤ t ∧ t ≤ 900) (hrow : ∀ k, q_in (σ 1 0) k → q_in (σ 1 0) (σ c k)) {Q : Int → Mem → Prop} (hQ : ∀ s : Mem, FrD σ s → OkA s → tA s = (q_pass (jA σ 5) (q_nrm (σ 1 0) (σ c)) t (σ 1 0).toNat 0 (tA σ) 0).2 → Q (q_pass (jA σ 5) (q_nrm (σ 1 0) (σ c)) t (σ 1 0).toNat 0 (tA σ) 0).1 s) : x1_goRound c t σ Q := by
  apply x1_goRound_i
  have hn := ok.1.n
  have key : ∀ (m : Nat) (k acc : Int) (s : Mem), 0 ≤ k → k ≤ σ 1 0 → (σ 1 0 - k).toNat = m → FrD σ s → OkA s → q_pass (jA σ 5) (q_nrm (σ 1 0) (σ c)) t m k (tA s) acc = q_pass (jA σ 5) (q_nrm (σ 1 0) (σ c)) t (σ 1 0).toNat 0 (tA σ) 0 → x1_goRound_L6 Q c t acc k s := by
    intro m
    induction m with
    | zero =>
      intro k acc s h0 h1 hm f oks e
      apply x1_goRound_s6
      have s1 := f 1 (by omega) (by omega)
      have := hQ s f oks (by rw [← e]; rfl)
      rw [← e] at this
      exact ⟨by rw [s1]; omega, fun _ => this, fun q => absurd q (by rw [s1]; omega)⟩
    | succ m ih =>
      intro k acc s h0 h1 hm f oks e
      have s1 := f 1 (by omega) (by omega)
      have sc := f c hc4 hcf
      have hk : q_in (σ 1 0) k := ⟨h0, by omega⟩
      have hr := hrow k hk
      have hr1 := hr.1
      have hr2 := hr.2
      have er : q_nrm (σ 1 0) (σ c) k = σ c k := q_nrm_in hk
      have eb : (jA σ 5).2.2.2.2.2 (σ c k) = c_br σ (σ c k) := q_nrm_in hr
      rw [q_pass_s, er, eb] at e
      apply x1_goRound_s6
      refine ⟨by rw [s1]; omega, fun q => absurd q (by rw [s1]; omega), fun _ => ⟨hc, by omega, ?_⟩⟩
      rw [sc]
      have cb : c_br s = c_br σ := c_br_congr s1
      refine L_isBroken oks.1.2.1 (by omega) ?_
      rw [cb]
      refine ⟨by unfold c_br; split <;> omega, fun q => L_drawBolt oks (by rw [s1]; exact hr) (by rw [cb]; exact q) ht (fun u fu oku eu => ?_), fun q => ?_⟩
      · rw [if_pos q] at e
        rw [f.j] at eu
        rw [f.j]
        have bd := q_drw_bd (j := jA σ 5) (h := σ c k) (t := t) (tu := tA s) (by have := (oks.tu _ (by rw [s1]; exact hr)).2; omega)
        have b0 := (oks.tu (σ c k) (by rw [s1]; exact hr)).1
        refine ⟨⟨by rcases bd with w | w <;> constructor <;> omega, by omega⟩, fun w => ?_, fun w => ?_⟩
        · rw [if_neg (by omega), ← eu] at e
          exact ih (k + 1) _ u (by omega) (by omega) (by omega) (f.trans fu) oku e
        · rw [if_pos (by omega)] at e
          have := hQ u (f.trans fu) oku (by
            rw [← e, eu]
            unfold q_drT
            rw [if_pos (by omega)])
          rw [← e] at this
          exact this
      · rw [if_neg q] at e
        exact ih (k + 1) acc s (by omega) (by omega) (by omega) f oks e
  exact key _ 0 0 σ (by omega) (by omega) (by rw [Int.sub_zero]) (FrD.refl σ) ok rfl
