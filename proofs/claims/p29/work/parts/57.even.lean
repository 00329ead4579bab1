def q_zer (j : JT) (tu : Int → Int) (k : Int) : Int := if (0 ≤ k ∧ k < j.1) ∧ j.2.2.2.2.2 k = 0 then 0 else tu k
def q_id (n : Int) : Int → Int := q_nrm n (fun k => k)
noncomputable def q_evn (j : JT) (t : Int) : Nat → (Int → Int) → Int × (Int → Int)
  | 0, tu => (0, tu)
  | m + 1, tu => if (q_pass j (q_id j.1) t j.1.toNat 0 tu 0).1 < 0 then (0, (q_pass j (q_id j.1) t j.1.toNat 0 tu 0).2) else if (q_pass j (q_id j.1) t j.1.toNat 0 tu 0).1 = 0 then (1, (q_pass j (q_id j.1) t j.1.toNat 0 tu 0).2) else q_evn j t m (q_pass j (q_id j.1) t j.1.toNat 0 tu 0).2
theorem q_evn_s (j : JT) (t : Int) (m : Nat) (tu : Int → Int) : q_evn j t (m + 1) tu = if (q_pass j (q_id j.1) t j.1.toNat 0 tu 0).1 < 0 then (0, (q_pass j (q_id j.1) t j.1.toNat 0 tu 0).2) else if (q_pass j (q_id j.1) t j.1.toNat 0 tu 0).1 = 0 then (1, (q_pass j (q_id j.1) t j.1.toNat 0 tu 0).2) else q_evn j t m (q_pass j (q_id j.1) t j.1.toNat 0 tu 0).2 := rfl
theorem q_id_in {n k : Int} (h : q_in n k) : q_id n k = k := q_nrm_in h
theorem q_id_row {n : Int} : ∀ k, q_in n k → q_in n (q_id n k) := fun k hk => by
  rw [q_id_in hk]
  exact hk
theorem q_zer_tu {j : JT} {tu : Int → Int} (h : ∀ k, q_in j.1 k → 0 ≤ tu k ∧ tu k ≤ 200) : ∀ k, q_in j.1 k → 0 ≤ q_zer j tu k ∧ q_zer j tu k ≤ 200 := fun k hk => by
  have := h k hk
  unfold q_zer
  split <;> omega
theorem q_evn_tu {j : JT} {t : Int} (hn : 3 ≤ j.1 ∧ j.1 ≤ 6) : ∀ (m : Nat) (tu : Int → Int), (∀ k, q_in j.1 k → 0 ≤ tu k ∧ tu k ≤ 200) → ((∀ k, q_in j.1 k → 0 ≤ (q_evn j t m tu).2 k ∧ (q_evn j t m tu).2 k ≤ 200) ∧ ((q_evn j t m tu).1 = 0 ∨ (q_evn j t m tu).1 = 1))
  | 0, tu, h => ⟨h, Or.inl rfl⟩
  | m + 1, tu, h => by
    have po := (q_pass_ok (t := t) (row := q_id j.1) (by omega) q_id_row j.1.toNat 0 tu 0 (by omega) (by omega) (by omega) h).1
    rw [q_evn_s]
    split
    · exact ⟨po, Or.inl rfl⟩
    · split
      · exact ⟨po, Or.inr rfl⟩
      · exact q_evn_tu hn m _ po
theorem OkA.tus {σ s : Mem} (ok : OkA σ) (f : FrD σ s) (h : ∀ k, q_in (σ 1 0) k → 0 ≤ s 4 k ∧ s 4 k ≤ 200) : OkA s := by
  have e1 := f 1 (by omega) (by omega)
  obtain ⟨⟨⟨n1, n2, n3, n4⟩, n5⟩, n6⟩ := ok
  refine ⟨?_, fun k hk => (h k (by rw [e1] at hk; exact hk)).2⟩
  unfold JA q_ok
  rw [c_br_congr e1, e1, f 2 (by omega) (by omega), f 3 (by omega) (by omega), f 5 (by omega) (by omega)]
  refine ⟨⟨n1, n2, fun k hk => ?_, n4⟩, n5⟩
  have a := n3 k hk
  have b := h k hk
  exact ⟨a.1, a.2.1, by omega, a.2.2.2⟩
theorem L_even {σ : Mem} (ok : OkA σ) (hN : RelN σ) {t : Int} (ht : 1 ≤ t ∧ t ≤ 900) {Q : Int → Mem → Prop} (hQ : ∀ s : Mem, FrD σ s → OkA s → tA s = (q_evn (jA σ 5) t 1202 (q_zer (jA σ 5) (tA σ))).2 → Q (q_evn (jA σ 5) t 1202 (q_zer (jA σ 5) (tA σ))).1 s) : x1_drawEvenFromNothing t σ Q := by
  apply x1_drawEvenFromNothing_i
  have hn := ok.1.n
  have eid : q_nrm (σ 1 0) (σ 22) = q_id (jA σ 5).1 := q_nrm_congr (fun k hk => hN k hk.1 (by have := hk.2; omega))
  have row22 : ∀ k, q_in (σ 1 0) k → q_in (σ 1 0) (σ 22 k) := fun k hk => by
    rw [hN k hk.1 (by have := hk.2; omega)]
    exact hk
  have en : (jA σ 5).1 = σ 1 0 := rfl
  have out : ∀ (m : Nat) (i : Int) (s : Mem), 0 ≤ i → i ≤ 1202 → (1202 - i).toNat = m → FrD σ s → OkA s → q_evn (jA σ 5) t m (tA s) = q_evn (jA σ 5) t 1202 (q_zer (jA σ 5) (tA σ)) → x1_drawEvenFromNothing_L33 Q t i s := by
    intro m
    induction m with
    | zero =>
      intro i s i0 i1 hm f oks e
      apply x1_drawEvenFromNothing_s33
      refine ⟨by omega, fun _ => ⟨by omega, ?_⟩, fun q => absurd q (by omega)⟩
      have := hQ s f oks (by rw [← e]; rfl)
      rw [← e] at this
      exact this
    | succ m ih =>
      intro i s i0 i1 hm f oks e
      apply x1_drawEvenFromNothing_s33
      have s1 := f 1 (by omega) (by omega)
      have s22 := f 22 (by omega) (by omega)
      refine ⟨by omega, fun q => absurd q (by omega), fun _ => L_goRound oks rfl (by omega) (Or.inr (by omega)) ht (by rw [s1, s22]; exact row22) (fun u fu oku eu => ?_)⟩
      have bd := q_pass_bd (j := jA s 5) (t := t) (tu := tA s) (row := q_nrm (s 1 0) (s 22)) (by rw [f.j]; exact hn) (by rw [f.j, s1, s22]; exact q_nrm_row row22) oks.tu
      have en3 : (jA s 5).1 = s 1 0 := rfl
      rw [en3] at bd
      rw [s1, s22, f.j, eid] at eu bd
      rw [s1, s22, f.j, eid]
      rw [q_evn_s] at e
      rw [en] at e eu bd
      rw [en]
      refine ⟨⟨by rcases bd with w | w <;> constructor <;> omega, by omega⟩, fun w => ?_, fun w => ?_⟩
      · rw [w, if_pos (by omega)] at e
        rw [w]
        have := hQ u (f.trans fu) oku (by rw [← e]; exact eu)
        rw [← e] at this
        exact ⟨by omega, fun _ => ⟨by omega, this⟩, fun c => absurd c (by omega)⟩
      · rw [if_neg (by omega)] at e
        refine ⟨by rcases bd with w | w <;> constructor <;> omega, fun w2 => ?_, fun w2 => ?_⟩
        · rw [if_neg w2, ← eu] at e
          exact ih (i + 1) u (by omega) (by omega) (by omega) (f.trans fu) oku e
        · rw [if_pos w2] at e
          have := hQ u (f.trans fu) oku (by rw [← e]; exact eu)
          rw [← e] at this
          rw [w2]
          exact ⟨by omega, fun c => absurd rfl c, fun _ => ⟨by omega, this⟩⟩
  have zer : ∀ (m : Nat) (k : Int) (s : Mem), 0 ≤ k → k ≤ σ 1 0 → (σ 1 0 - k).toNat = m → FrD σ s → (∀ i, s 4 i = if (0 ≤ i ∧ i < k) ∧ c_br σ i = 0 then 0 else σ 4 i) → x1_drawEvenFromNothing_L2 Q t k s := by
    intro m
    induction m with
    | zero =>
      intro k s k0 k1 hm f h4
      apply x1_drawEvenFromNothing_s2
      have s1 := f 1 (by omega) (by omega)
      have ek : k = σ 1 0 := by omega
      refine ⟨by rw [s1]; omega, fun _ => out 1202 0 s (by omega) (by omega) (by omega) f (ok.tus f (fun i hi => ?_)) ?_, fun q => absurd q (by rw [s1]; omega)⟩
      · rw [h4 i]
        have a := (ok.1.k hi).2.2.1.1
        have b := ok.2 i hi
        split <;> omega
      · congr 1
        funext i
        unfold tA q_zer q_nrm
        rw [s1, h4 i, ek]
        show _ = if (0 ≤ i ∧ i < σ 1 0) ∧ q_nrm (σ 1 0) (c_br σ) i = 0 then 0 else _
        unfold q_nrm
        by_cases w : 0 ≤ i ∧ i < σ 1 0
        · rw [if_pos w, if_pos w, if_pos w]
        · rw [if_neg w, if_neg (fun q => w q.1), if_neg w]
    | succ m ih =>
      intro k s k0 k1 hm f h4
      apply x1_drawEvenFromNothing_s2
      have s1 := f 1 (by omega) (by omega)
      have cb := c_br_congr s1
      refine ⟨by rw [s1]; omega, fun q => absurd q (by rw [s1]; omega), fun _ => L_isBroken (by rw [s1]; exact ok.1.2.1) (by omega) ?_⟩
      rw [cb]
      refine ⟨by unfold c_br; split <;> omega, fun w => ih (k + 1) s (by omega) (by omega) (by omega) f (fun i => ?_), fun w => ⟨by omega, fun u e => ih (k + 1) u (by omega) (by omega) (by omega) (fun c c4 hc => by rw [e, m_upd_ne _ _ _ _ _ c4]; exact f c c4 hc) (fun i => ?_)⟩⟩
      · rw [h4 i]
        by_cases v : i = k
        · rw [if_neg (fun q => w (by rw [← v]; exact q.2)), if_neg (fun q => w (by rw [← v]; exact q.2))]
        · by_cases v2 : (0 ≤ i ∧ i < k) ∧ c_br σ i = 0
          · rw [if_pos v2, if_pos ⟨by omega, v2.2⟩]
          · rw [if_neg v2, if_neg (fun q => v2 ⟨by omega, q.2⟩)]
      · rw [e, m_upd_at, h4 i]
        by_cases v : i = k
        · rw [if_pos ⟨rfl, v⟩, if_pos ⟨by omega, by rw [v]; exact w⟩]
        · rw [if_neg (fun q => v q.2)]
          by_cases v2 : (0 ≤ i ∧ i < k) ∧ c_br σ i = 0
          · rw [if_pos v2, if_pos ⟨by omega, v2.2⟩]
          · rw [if_neg v2, if_neg (fun q => v2 ⟨by omega, q.2⟩)]
  exact zer _ 0 σ (by omega) (by omega) rfl (FrD.refl σ) (fun i => by rw [if_neg (by omega)])
