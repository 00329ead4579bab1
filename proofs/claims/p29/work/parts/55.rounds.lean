/-- rounds till all hold: from the ith on, m more at most; answers the number of rounds, the turns, the turns drawn -/
noncomputable def q_rnd (j : JT) (row : Int → Int) (t : Int) : Nat → Int → (Int → Int) → Int → Int × (Int → Int) × Int
  | 0, i, tu, d => if (Classical.propDecidable (q_all j tu t)).decide then (i, tu, d) else (-1, tu, d)
  | m + 1, i, tu, d => if (Classical.propDecidable (q_all j tu t)).decide then (i, tu, d) else if (q_pass j row t j.1.toNat 0 tu 0).1 < 0 then (-1, (q_pass j row t j.1.toNat 0 tu 0).2, d) else q_rnd j row t m (i + 1) (q_pass j row t j.1.toNat 0 tu 0).2 (d + (q_pass j row t j.1.toNat 0 tu 0).1)
theorem q_rnd_yes {j : JT} {row : Int → Int} {t : Int} {m : Nat} {i : Int} {tu : Int → Int} {d : Int} (h : q_all j tu t) : q_rnd j row t m i tu d = (i, tu, d) := by
  cases m with
  | zero =>
    unfold q_rnd
    rw [if_pos (by simpa using h)]
  | succ m =>
    unfold q_rnd
    rw [if_pos (by simpa using h)]
theorem q_rnd_no0 {j : JT} {row : Int → Int} {t : Int} {i : Int} {tu : Int → Int} {d : Int} (h : ¬ q_all j tu t) : q_rnd j row t 0 i tu d = (-1, tu, d) := by
  unfold q_rnd
  rw [if_neg (by simpa using h)]
theorem q_rnd_no {j : JT} {row : Int → Int} {t : Int} {m : Nat} {i : Int} {tu : Int → Int} {d : Int} (h : ¬ q_all j tu t) : q_rnd j row t (m + 1) i tu d = if (q_pass j row t j.1.toNat 0 tu 0).1 < 0 then (-1, (q_pass j row t j.1.toNat 0 tu 0).2, d) else q_rnd j row t m (i + 1) (q_pass j row t j.1.toNat 0 tu 0).2 (d + (q_pass j row t j.1.toNat 0 tu 0).1) := by
  show (if (Classical.propDecidable (q_all j tu t)).decide then (i, tu, d) else _) = _
  rw [if_neg (by simpa using h)]
theorem L_goRounds {σ : Mem} (ok : OkA σ) {c : Nat} (hc : shA[c]? = some (.inr (0, 6))) (hc4 : c ≠ 4) (hcf : c < 14 ∨ 20 ≤ c) {t lim : Int} (ht : 1 ≤ t ∧ t ≤ 900) (hl : 0 ≤ lim ∧ lim ≤ 20) (hrow : ∀ k, q_in (σ 1 0) k → q_in (σ 1 0) (σ c k)) {Q : Int → Mem → Prop} (hQ : ∀ s : Mem, FrD σ s → OkA s → tA s = (q_rnd (jA σ 5) (q_nrm (σ 1 0) (σ c)) t lim.toNat 0 (tA σ) 0).2.1 → Q (q_rnd (jA σ 5) (q_nrm (σ 1 0) (σ c)) t lim.toNat 0 (tA σ) 0).1 s) : x1_goRounds c t lim σ Q := by
  apply x1_goRounds_i
  have hn := ok.1.n
  have key : ∀ (m : Nat) (i d : Int) (s : Mem), 0 ≤ i → i ≤ lim → (lim - i).toNat = m → FrD σ s → OkA s → q_rnd (jA σ 5) (q_nrm (σ 1 0) (σ c)) t m i (tA s) d = q_rnd (jA σ 5) (q_nrm (σ 1 0) (σ c)) t lim.toNat 0 (tA σ) 0 → x1_goRounds_L3 Q c t lim i s := by
    intro m
    induction m with
    | zero =>
      intro i d s i0 i1 hm f oks e
      apply x1_goRounds_s3
      have ei : i = lim := by omega
      refine ⟨by omega, fun _ => ?_, fun q => absurd q (by omega)⟩
      refine L_allHold oks ht (fun z u fu => ⟨by omega, fun c => absurd c (by omega), fun _ => ?_⟩) (fun z u fu => ⟨by omega, fun _ => ?_, fun c => absurd rfl c⟩)
      · rw [f.j] at z
        rw [q_rnd_yes z] at e
        have u4 : tA u = tA s := by
          unfold tA
          rw [fu 1 (by omega), fu 4 (by omega)]
        have := hQ u (f.trans (FrD.of fu)) (oks.drawn (FrD.of fu) (Or.inl u4)) (by rw [← e, u4])
        rw [← e, ei] at this
        exact this
      · rw [f.j] at z
        rw [q_rnd_no0 z] at e
        have u4 : tA u = tA s := by
          unfold tA
          rw [fu 1 (by omega), fu 4 (by omega)]
        have := hQ u (f.trans (FrD.of fu)) (oks.drawn (FrD.of fu) (Or.inl u4)) (by rw [← e, u4])
        rw [← e] at this
        exact this
    | succ m ih =>
      intro i d s i0 i1 hm f oks e
      apply x1_goRounds_s3
      refine ⟨by omega, fun q => absurd q (by omega), fun _ => ?_⟩
      refine L_allHold oks ht (fun z u fu => ⟨by omega, fun c => absurd c (by omega), fun _ => ?_⟩) (fun z u fu => ⟨by omega, fun _ => ?_, fun c => absurd rfl c⟩)
      · rw [f.j] at z
        rw [q_rnd_yes z] at e
        have u4 : tA u = tA s := by
          unfold tA
          rw [fu 1 (by omega), fu 4 (by omega)]
        have := hQ u (f.trans (FrD.of fu)) (oks.drawn (FrD.of fu) (Or.inl u4)) (by rw [← e, u4])
        rw [← e] at this
        exact this
      · rw [f.j] at z
        rw [q_rnd_no z] at e
        have u4 : tA u = tA s := by
          unfold tA
          rw [fu 1 (by omega), fu 4 (by omega)]
        have fsu := f.trans (FrD.of fu)
        have oku := oks.drawn (FrD.of fu) (Or.inl u4)
        have u1 := fsu 1 (by omega) (by omega)
        have uc := fsu c hc4 hcf
        refine L_goRound oku hc hc4 hcf ht (by rw [u1, uc]; exact hrow) (fun v fv okv ev => ?_)
        have bd := q_pass_bd (j := jA u 5) (t := t) (tu := tA u) (row := q_nrm (u 1 0) (u c)) (by rw [fsu.j]; exact hn) (by rw [fsu.j, u1, uc]; exact q_nrm_row hrow) oku.tu
        have en : (jA u 5).1 = u 1 0 := rfl
        rw [en] at bd
        rw [u1, uc, fsu.j, u4] at ev bd
        rw [u1, uc, fsu.j, u4]
        have en2 : (jA σ 5).1 = σ 1 0 := rfl
        rw [en2] at e
        refine ⟨⟨by rcases bd with w | w <;> constructor <;> omega, by omega⟩, fun w => ?_, fun w => ?_⟩
        · rw [if_neg (by omega), ← ev] at e
          exact ih (i + 1) _ v (by omega) (by omega) (by omega) (fsu.trans fv) okv e
        · rw [if_pos (by omega)] at e
          have := hQ v (fsu.trans fv) okv (by rw [← e]; exact ev)
          rw [← e] at this
          exact this
  exact key _ 0 0 σ (by omega) (by omega) (by rw [Int.sub_zero]) (FrD.refl σ) ok rfl
/-- but for the turns and the turns drawn -/
def FrP (τ t : Mem) : Prop := (∀ c : Nat, c ≠ 0 → c ≠ 3 → c ≠ 12 → c ≠ 13 → c ≠ 14 → t c = τ c) ∧ ∀ j : Int, j ≠ 15 → j ≠ 19 → t 0 j = τ 0 j
theorem FrP.refl (τ : Mem) : FrP τ τ := ⟨fun _ _ _ _ _ _ => rfl, fun _ _ _ => rfl⟩
theorem FrP.trans {a b c : Mem} (h : FrP a b) (g : FrP b c) : FrP a c := ⟨fun d h1 h2 h3 h4 h5 => (g.1 d h1 h2 h3 h4 h5).trans (h.1 d h1 h2 h3 h4 h5), fun j hj hk => (g.2 j hj hk).trans (h.2 j hj hk)⟩
theorem FrP.of {τ t : Mem} (h : FrT τ t) : FrP τ t := ⟨h.1, fun j hj _ => h.2 j hj⟩
theorem FrP.j {τ t : Mem} (h : FrP τ t) : jB t = jB τ := by
  unfold jB
  rw [h.2 0 (by omega) (by omega), h.2 1 (by omega) (by omega), h.1 1 (by omega) (by omega) (by omega) (by omega) (by omega), h.1 2 (by omega) (by omega) (by omega) (by omega) (by omega), h.1 4 (by omega) (by omega) (by omega) (by omega) (by omega), h.1 5 (by omega) (by omega) (by omega) (by omega) (by omega)]
