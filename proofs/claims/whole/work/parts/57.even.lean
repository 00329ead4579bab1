/-! ===== drawn even ===== -/
def q_zer (j : JT) (tu : Int → Int) (k : Int) : Int := if (0 ≤ k ∧ k < j.1) ∧ j.2.2.2.2.2 k = 0 then 0 else tu k
def q_id (n : Int) : Int → Int := q_nrm n (fun k => k)
noncomputable def q_evn (j : JT) (t : Int) : Nat → (Int → Int) → Int × (Int → Int)
  | 0, tu => (0, tu)
  | m + 1, tu => if (q_pass j (q_id j.1) t j.1.toNat 0 tu 0).1 < 0 then (0, (q_pass j (q_id j.1) t j.1.toNat 0 tu 0).2) else if (q_pass j (q_id j.1) t j.1.toNat 0 tu 0).1 = 0 then (1, (q_pass j (q_id j.1) t j.1.toNat 0 tu 0).2) else q_evn j t m (q_pass j (q_id j.1) t j.1.toNat 0 tu 0).2
theorem q_evn_s (j : JT) (t : Int) (m : Nat) (tu : Int → Int) : q_evn j t (m + 1) tu = if (q_pass j (q_id j.1) t j.1.toNat 0 tu 0).1 < 0 then (0, (q_pass j (q_id j.1) t j.1.toNat 0 tu 0).2) else if (q_pass j (q_id j.1) t j.1.toNat 0 tu 0).1 = 0 then (1, (q_pass j (q_id j.1) t j.1.toNat 0 tu 0).2) else q_evn j t m (q_pass j (q_id j.1) t j.1.toNat 0 tu 0).2 := rfl
theorem q_id_in {n k : Int} (h : q_in n k) : q_id n k = k := q_nrm_in h
theorem q_id_row {n : Int} : ∀ k, q_in n k → q_in n (q_id n k) := fun k hk => by
  rw [q_id_in hk]
  exact hk
theorem q_zer_tu {j : JT} {tu : Int → Int} (h : ∀ k, q_in j.1 k → 0 ≤ tu k ∧ tu k ≤ 200) : ∀ k, q_in j.1 k → 0 ≤ q_zer j tu k ∧ q_zer j tu k ≤ 200 := fun k hk => by
  have := h k hk
  unfold q_zer
  split <;> omega
theorem q_evn_tu {j : JT} {t : Int} (hn : 3 ≤ j.1 ∧ j.1 ≤ 6) : ∀ (m : Nat) (tu : Int → Int), (∀ k, q_in j.1 k → 0 ≤ tu k ∧ tu k ≤ 200) → ((∀ k, q_in j.1 k → 0 ≤ (q_evn j t m tu).2 k ∧ (q_evn j t m tu).2 k ≤ 200) ∧ ((q_evn j t m tu).1 = 0 ∨ (q_evn j t m tu).1 = 1))
  | 0, tu, h => ⟨h, Or.inl rfl⟩
  | m + 1, tu, h => by
    have po := (q_pass_ok (t := t) (row := q_id j.1) (by omega) q_id_row j.1.toNat 0 tu 0 (by omega) (by omega) (by omega) h).1
    rw [q_evn_s]
    split
    · exact ⟨po, Or.inl rfl⟩
    · split
      · exact ⟨po, Or.inr rfl⟩
      · exact q_evn_tu hn m _ po
theorem OkA.tus {σ s : Mem} (ok : OkA σ) (f : FrD σ s) (h : ∀ k, q_in (σ 1 0) k → 0 ≤ s 4 k ∧ s 4 k ≤ 200) : OkA s := by
  have e1 := f 1 (by omega) (by omega)
  obtain ⟨⟨⟨n1, n2, n3, n4⟩, n5⟩, n6⟩ := ok
  refine ⟨?_, fun k hk => (h k (by rw [e1] at hk; exact hk)).2⟩
  unfold JA q_ok
  rw [c_br_congr e1, e1, f 2 (by omega) (by omega), f 3 (by omega) (by omega), f 5 (by omega) (by omega)]
  refine ⟨⟨n1, n2, fun k hk => ?_, n4⟩, n5⟩
  have a := n3 k hk
  have b := h k hk
  exact ⟨a.1, a.2.1, by omega, a.2.2.2⟩
theorem OkB.tus {τ s : Mem} (ok : OkB τ) (f : FrT τ s) (h : ∀ k, q_in (τ 0 0) k → 0 ≤ s 3 k ∧ s 3 k ≤ 200) : OkB s := by
  have e0 := f.2 0 (by omega)
  obtain ⟨⟨n1, n2, n3, n4⟩, n6⟩ := ok
  refine ⟨?_, fun k hk => (h k (by rw [e0] at hk; exact hk)).2⟩
  unfold JB q_ok
  rw [e0, f.2 1 (by omega), f.1 1 (by omega) (by omega) (by omega) (by omega) (by omega), f.1 2 (by omega) (by omega) (by omega) (by omega) (by omega), f.1 4 (by omega) (by omega) (by omega) (by omega) (by omega), f.1 5 (by omega) (by omega) (by omega) (by omega) (by omega)]
  refine ⟨n1, n2, fun k hk => ?_, n4⟩
  have a := n3 k hk
  have b := h k hk
  exact ⟨a.1, a.2.1, by omega, a.2.2.2⟩
theorem L_even {σ : Mem} (ok : OkA σ) (hN : RelN σ) {t : Int} (ht : 1 ≤ t ∧ t ≤ 900) {Q : Int → Mem → Prop} (hQ : ∀ s : Mem, FrD σ s → OkA s → tA s = (q_evn (jA σ 5) t 1202 (q_zer (jA σ 5) (tA σ))).2 → Q (q_evn (jA σ 5) t 1202 (q_zer (jA σ 5) (tA σ))).1 s) : x1_drawEvenFromNothing t σ Q := by
  apply x1_drawEvenFromNothing_i
  have hn := ok.1.n
  have eid : q_nrm (σ 1 0) (σ 22) = q_id (jA σ 5).1 := q_nrm_congr (fun k hk => hN k hk.1 (by have := hk.2; omega))
  have row22 : ∀ k, q_in (σ 1 0) k → q_in (σ 1 0) (σ 22 k) := fun k hk => by
    rw [hN k hk.1 (by have := hk.2; omega)]
    exact hk
  have en : (jA σ 5).1 = σ 1 0 := rfl
  have out : ∀ (m : Nat) (i : Int) (s : Mem), 0 ≤ i → i ≤ 1202 → (1202 - i).toNat = m → FrD σ s → OkA s → q_evn (jA σ 5) t m (tA s) = q_evn (jA σ 5) t 1202 (q_zer (jA σ 5) (tA σ)) → x1_drawEvenFromNothing_L33 Q t i s := by
    intro m
    induction m with
    | zero =>
      intro i s i0 i1 hm f oks e
      apply x1_drawEvenFromNothing_s33
      refine ⟨by omega, fun _ => ⟨by omega, ?_⟩, fun q => absurd q (by omega)⟩
      have := hQ s f oks (by rw [← e]; rfl)
      rw [← e] at this
      exact this
    | succ m ih =>
      intro i s i0 i1 hm f oks e
      apply x1_drawEvenFromNothing_s33
      have s1 := f 1 (by omega) (by omega)
      have s22 := f 22 (by omega) (by omega)
      refine ⟨by omega, fun q => absurd q (by omega), fun _ => L_goRound oks rfl (by omega) (Or.inr (by omega)) ht (by rw [s1, s22]; exact row22) (fun u fu oku eu => ?_)⟩
      have bd := q_pass_bd (j := jA s 5) (t := t) (tu := tA s) (row := q_nrm (s 1 0) (s 22)) (by rw [f.j]; exact hn) (by rw [f.j, s1, s22]; exact q_nrm_row row22) oks.tu
      have en3 : (jA s 5).1 = s 1 0 := rfl
      rw [en3] at bd
      rw [s1, s22, f.j, eid] at eu bd
      rw [s1, s22, f.j, eid]
      rw [q_evn_s] at e
      rw [en] at e eu bd
      rw [en]
      refine ⟨⟨by rcases bd with w | w <;> constructor <;> omega, by omega⟩, fun w => ?_, fun w => ?_⟩
      · rw [w, if_pos (by omega)] at e
        rw [w]
        have := hQ u (f.trans fu) oku (by rw [← e]; exact eu)
        rw [← e] at this
        exact ⟨by omega, fun _ => ⟨by omega, this⟩, fun c => absurd c (by omega)⟩
      · rw [if_neg (by omega)] at e
        refine ⟨by rcases bd with w | w <;> constructor <;> omega, fun w2 => ?_, fun w2 => ?_⟩
        · rw [if_neg w2, ← eu] at e
          exact ih (i + 1) u (by omega) (by omega) (by omega) (f.trans fu) oku e
        · rw [if_pos w2] at e
          have := hQ u (f.trans fu) oku (by rw [← e]; exact eu)
          rw [← e] at this
          rw [w2]
          exact ⟨by omega, fun c => absurd rfl c, fun _ => ⟨by omega, this⟩⟩
  have zer : ∀ (m : Nat) (k : Int) (s : Mem), 0 ≤ k → k ≤ σ 1 0 → (σ 1 0 - k).toNat = m → FrD σ s → (∀ i, s 4 i = if (0 ≤ i ∧ i < k) ∧ c_br σ i = 0 then 0 else σ 4 i) → x1_drawEvenFromNothing_L2 Q t k s := by
    intro m
    induction m with
    | zero =>
      intro k s k0 k1 hm f h4
      apply x1_drawEvenFromNothing_s2
      have s1 := f 1 (by omega) (by omega)
      have ek : k = σ 1 0 := by omega
      refine ⟨by rw [s1]; omega, fun _ => out 1202 0 s (by omega) (by omega) (by omega) f (ok.tus f (fun i hi => ?_)) ?_, fun q => absurd q (by rw [s1]; omega)⟩
      · rw [h4 i]
        have a := (ok.1.k hi).2.2.1.1
        have b := ok.2 i hi
        split <;> omega
      · congr 1
        funext i
        unfold tA q_zer q_nrm
        rw [s1, h4 i, ek]
        show _ = if (0 ≤ i ∧ i < σ 1 0) ∧ q_nrm (σ 1 0) (c_br σ) i = 0 then 0 else _
        unfold q_nrm
        by_cases w : 0 ≤ i ∧ i < σ 1 0
        · rw [if_pos w, if_pos w, if_pos w]
        · rw [if_neg w, if_neg (fun q => w q.1), if_neg w]
    | succ m ih =>
      intro k s k0 k1 hm f h4
      apply x1_drawEvenFromNothing_s2
      have s1 := f 1 (by omega) (by omega)
      have cb := c_br_congr s1
      refine ⟨by rw [s1]; omega, fun q => absurd q (by rw [s1]; omega), fun _ => L_isBroken (by rw [s1]; exact ok.1.2.1) (by omega) ?_⟩
      rw [cb]
      refine ⟨by unfold c_br; split <;> omega, fun w => ih (k + 1) s (by omega) (by omega) (by omega) f (fun i => ?_), fun w => ⟨by omega, fun u e => ih (k + 1) u (by omega) (by omega) (by omega) (fun c c4 hc => by rw [e, m_upd_ne _ _ _ _ _ c4]; exact f c c4 hc) (fun i => ?_)⟩⟩
      · rw [h4 i]
        by_cases v : i = k
        · rw [if_neg (fun q => w (by rw [← v]; exact q.2)), if_neg (fun q => w (by rw [← v]; exact q.2))]
        · by_cases v2 : (0 ≤ i ∧ i < k) ∧ c_br σ i = 0
          · rw [if_pos v2, if_pos ⟨by omega, v2.2⟩]
          · rw [if_neg v2, if_neg (fun q => v2 ⟨by omega, q.2⟩)]
      · rw [e, m_upd_at, h4 i]
        by_cases v : i = k
        · rw [if_pos ⟨rfl, v⟩, if_pos ⟨by omega, by rw [v]; exact w⟩]
        · rw [if_neg (fun q => v q.2)]
          by_cases v2 : (0 ≤ i ∧ i < k) ∧ c_br σ i = 0
          · rw [if_pos v2, if_pos ⟨by omega, v2.2⟩]
          · rw [if_neg v2, if_neg (fun q => v2 ⟨by omega, q.2⟩)]
  exact zer _ 0 σ (by omega) (by omega) rfl (FrD.refl σ) (fun i => by rw [if_neg (by omega)])
theorem B_even {τ : Mem} (ok : OkB τ) {t : Int} (ht : 1 ≤ t ∧ t ≤ 900) {Q : Int → Mem → Prop} (hQ : ∀ s : Mem, FrT τ s → OkB s → tB s = (q_evn (jB τ) t 1202 (q_zer (jB τ) (tB τ))).2 → Q (q_evn (jB τ) t 1202 (q_zer (jB τ) (tB τ))).1 s) : x8_makeEven t τ Q := by
  apply x8_makeEven_i
  have hn := ok.1.n
  have en : (jB τ).1 = τ 0 0 := rfl
  have hbr : ∀ k, q_in (τ 0 0) k → (jB τ).2.2.2.2.2 k = τ 5 k := fun k hk => q_nrm_in hk
  have sumle : ∀ s : Mem, FrT τ s → OkB s → 0 ≤ q_sum (tB s) (τ 0 0).toNat ∧ q_sum (tB s) (τ 0 0).toNat ≤ 1200 := fun s f oks => q_sum_tu (by omega) (fun k hk => oks.tu k (by rw [f.2 0 (by omega)]; exact ⟨hk.1, by have := hk.2; omega⟩))
  have out : ∀ (m : Nat) (s : Mem), FrT τ s → OkB s → 1200 - q_sum (tB s) (τ 0 0).toNat < m → q_evn (jB τ) t m (tB s) = q_evn (jB τ) t 1202 (q_zer (jB τ) (tB τ)) → x8_makeEven_L43 Q t 1 s := by
    intro m
    induction m with
    | zero =>
      intro s f oks hm e
      have := sumle s f oks
      omega
    | succ m ih =>
      intro s f oks hm e
      apply x8_makeEven_s43
      refine ⟨by omega, fun c => absurd c (by omega), fun _ => ?_⟩
      have s00 := f.2 0 (by omega)
      have bd := q_pass_bd (j := jB τ) (t := t) (tu := tB s) (row := q_id (jB τ).1) hn q_id_row (by rw [en, ← s00]; exact oks.tu)
      rw [q_evn_s] at e
      rw [en] at e bd
      have inn : ∀ (m2 : Nat) (x k acc : Int) (u : Mem), (x = 0 ∧ acc = 0) ∨ (x = 1 ∧ 0 < acc) → 0 ≤ k → k ≤ τ 0 0 → (τ 0 0 - k).toNat = m2 → FrT τ u → OkB u → q_pass (jB τ) (q_id (τ 0 0)) t m2 k (tB u) acc = q_pass (jB τ) (q_id (τ 0 0)) t (τ 0 0).toNat 0 (tB s) 0 → x8_makeEven_L51 Q t x k u := by
        intro m2
        induction m2 with
        | zero =>
          intro x k acc u hx k0 k1 hm2 fu oku e2
          apply x8_makeEven_s51
          have u00 := fu.2 0 (by omega)
          refine ⟨by rw [u00]; omega, fun _ => ?_, fun q => absurd q (by rw [u00]; omega)⟩
          rw [← e2] at e bd
          have e3 : q_pass (jB τ) (q_id (τ 0 0)) t 0 k (tB u) acc = (acc, tB u) := rfl
          rw [e3] at e bd
          have bd2 : acc = -1 ∨ (0 ≤ acc ∧ acc ≤ 1200 ∧ q_sum (tB u) (τ 0 0).toNat = q_sum (tB s) (τ 0 0).toNat + acc) := bd
          rcases hx with ⟨hx, ha⟩ | ⟨hx, ha⟩
          · rw [hx]
            apply x8_makeEven_s43
            rw [if_neg (by show ¬ acc < 0; omega), if_pos ha] at e
            have := hQ u fu oku (by rw [← e])
            rw [← e] at this
            exact ⟨by omega, fun _ => ⟨by omega, this⟩, fun c => absurd rfl c⟩
          · rw [hx]
            rw [if_neg (by show ¬ acc < 0; omega), if_neg (by show ¬ acc = 0; omega)] at e
            exact ih u fu oku (by omega) e
        | succ m2 ih2 =>
          intro x k acc u hx k0 k1 hm2 fu oku e2
          apply x8_makeEven_s51
          have u00 := fu.2 0 (by omega)
          have u5 := fu.1 5 (by omega) (by omega) (by omega) (by omega) (by omega)
          have hk : q_in (τ 0 0) k := ⟨k0, by omega⟩
          have hb := (ok.1.k hk).2.2.2.2
          rw [q_pass_s, q_id_in hk, hbr k hk] at e2
          refine ⟨by rw [u00]; omega, fun q => absurd q (by rw [u00]; omega), fun _ => ⟨by omega, ?_⟩⟩
          rw [u5]
          refine ⟨by omega, fun w => B_drawOf oku (by rw [u00]; exact hk) (by rw [u5]; exact w) ht (fun v fv okv ev => ?_), fun w => ?_⟩
          · rw [if_pos w] at e2
            rw [fu.j] at ev ⊢
            have bk := q_drw_bd (j := jB τ) (h := k) (t := t) (tu := tB u) (by have := (oku.tu k (by rw [u00]; exact hk)).2; omega)
            have b0 := (oku.tu k (by rw [u00]; exact hk)).1
            apply x8_makeEven_s78
            refine ⟨by rcases bk with w | w <;> constructor <;> omega, fun w2 => ?_, fun w2 => ?_⟩
            · rw [if_neg (by omega), ← ev] at e2
              refine ⟨by omega, fun w3 => ih2 1 (k + 1) _ v (Or.inr ⟨rfl, by omega⟩) (by omega) (by omega) (by omega) (fu.trans fv) okv e2, fun w3 => ⟨by rcases bk with w | w <;> constructor <;> omega, fun w4 => ih2 0 (k + 1) _ v (Or.inl ⟨rfl, by omega⟩) (by omega) (by omega) (by omega) (fu.trans fv) okv e2, fun w4 => ih2 1 (k + 1) _ v (Or.inr ⟨rfl, by omega⟩) (by omega) (by omega) (by omega) (fu.trans fv) okv e2⟩⟩
            · rw [if_pos w2] at e2
              rw [← e2, if_pos (by show (-1 : Int) < 0; omega)] at e
              have := hQ v (fu.trans fv) okv (by
                rw [← e, ev]
                unfold q_drT
                rw [if_pos w2])
              rw [← e] at this
              exact ⟨by omega, this⟩
          · rw [if_neg w] at e2
            apply x8_makeEven_s78
            refine ⟨by omega, fun _ => ⟨by omega, fun w3 => ih2 1 (k + 1) acc u (Or.inr ⟨rfl, by omega⟩) (by omega) (by omega) (by omega) fu oku e2, fun w3 => ⟨by omega, fun _ => ih2 0 (k + 1) acc u (Or.inl ⟨rfl, by omega⟩) (by omega) (by omega) (by omega) fu oku e2, fun c => absurd c (by omega)⟩⟩, fun c => absurd c (by omega)⟩
      exact inn _ 0 0 0 s (Or.inl ⟨rfl, rfl⟩) (by omega) (by omega) rfl f oks (by rw [Int.sub_zero])
  have zer : ∀ (m : Nat) (k : Int) (s : Mem), 0 ≤ k → k ≤ τ 0 0 → (τ 0 0 - k).toNat = m → FrT τ s → (∀ i, s 3 i = if (0 ≤ i ∧ i < k) ∧ τ 5 i = 0 then 0 else τ 3 i) → x8_makeEven_L2 Q t k s := by
    intro m
    induction m with
    | zero =>
      intro k s k0 k1 hm f h4
      apply x8_makeEven_s2
      have s1 := f.2 0 (by omega)
      have ek : k = τ 0 0 := by omega
      have oks := ok.tus f (fun i hi => by
        rw [h4 i]
        have a := (ok.1.k hi).2.2.1.1
        have b := ok.2 i hi
        split <;> omega)
      refine ⟨by rw [s1]; omega, fun _ => out 1202 s f oks (by have := sumle s f oks; omega) ?_, fun q => absurd q (by rw [s1]; omega)⟩
      congr 1
      funext i
      unfold tB q_zer q_nrm
      rw [s1, h4 i, ek]
      show _ = if (0 ≤ i ∧ i < τ 0 0) ∧ q_nrm (τ 0 0) (τ 5) i = 0 then 0 else _
      unfold q_nrm
      by_cases w : 0 ≤ i ∧ i < τ 0 0
      · rw [if_pos w, if_pos w, if_pos w]
      · rw [if_neg w, if_neg (fun q => w q.1), if_neg w]
    | succ m ih =>
      intro k s k0 k1 hm f h4
      apply x8_makeEven_s2
      have s1 := f.2 0 (by omega)
      have s5 := f.1 5 (by omega) (by omega) (by omega) (by omega) (by omega)
      have hk : q_in (τ 0 0) k := ⟨k0, by omega⟩
      have hb := (ok.1.k hk).2.2.2.2
      refine ⟨by rw [s1]; omega, fun q => absurd q (by rw [s1]; omega), fun _ => ⟨by omega, ?_⟩⟩
      rw [s5]
      refine ⟨by omega, fun w => ⟨by omega, fun u e => ih (k + 1) u (by omega) (by omega) (by omega) ⟨fun c c0 c3 c12 c13 c14 => by rw [e, m_upd_ne _ _ _ _ _ c3]; exact f.1 c c0 c3 c12 c13 c14, fun j hj => by rw [e, m_upd_ne _ _ _ _ _ (by omega)]; exact f.2 j hj⟩ (fun i => ?_)⟩, fun w => ⟨by omega, by omega, fun u e => ih (k + 1) u (by omega) (by omega) (by omega) ⟨fun c c0 c3 c12 c13 c14 => by rw [e, m_upd_ne _ _ _ _ _ c3]; exact f.1 c c0 c3 c12 c13 c14, fun j hj => by rw [e, m_upd_ne _ _ _ _ _ (by omega)]; exact f.2 j hj⟩ (fun i => ?_)⟩⟩
      · rw [e, m_upd_at, h4 i]
        by_cases v : i = k
        · rw [if_pos ⟨rfl, v⟩, if_pos ⟨by omega, by rw [v]; exact w⟩]
        · rw [if_neg (fun q => v q.2)]
          by_cases v2 : (0 ≤ i ∧ i < k) ∧ τ 5 i = 0
          · rw [if_pos v2, if_pos ⟨by omega, v2.2⟩]
          · rw [if_neg v2, if_neg (fun q => v2 ⟨by omega, q.2⟩)]
      · rw [e, m_upd_at, h4 i, h4 k]
        by_cases v : i = k
        · rw [if_pos ⟨rfl, v⟩, v, if_neg (fun q => w q.2), if_neg (fun q => w q.2)]
        · rw [if_neg (fun q => v q.2)]
          by_cases v2 : (0 ≤ i ∧ i < k) ∧ τ 5 i = 0
          · rw [if_pos v2, if_pos ⟨by omega, v2.2⟩]
          · rw [if_neg v2, if_neg (fun q => v2 ⟨by omega, q.2⟩)]
  exact zer _ 0 τ (by omega) (by omega) rfl (FrT.refl τ) (fun i => by rw [if_neg (by omega)])
