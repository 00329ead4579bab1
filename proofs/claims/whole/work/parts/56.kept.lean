/-! ===== turns kept and put back; passes ===== -/
theorem m_cpy_at (σ : Mem) (a b : Nat) (sp dp n : Int) (c : Nat) (j : Int) : m_cpy σ a b sp dp n c j = if c = b ∧ dp ≤ j ∧ j < dp + n then σ a (sp + (j - dp)) else σ c j := by
  unfold m_cpy
  by_cases h : c = b
  · subst h
    rw [if_pos rfl]
    simp
  · rw [if_neg h, if_neg (fun q => h q.1)]
theorem m_cpy_ne (σ : Mem) (a b : Nat) (sp dp n : Int) (c : Nat) (h : c ≠ b) : m_cpy σ a b sp dp n c = σ c := by
  unfold m_cpy
  rw [if_neg h]
theorem L_keepTurns {σ : Mem} {Q : Int → Mem → Prop} (h : ∀ s : Mem, (∀ c : Nat, c ≠ 20 → s c = σ c) → (∀ k, q_in 6 k → s 20 k = σ 4 k) → Q 0 s) : x1_keepTurns σ Q := by
  refine ⟨by omega, fun s e => h s (fun c hc => by rw [e, m_cpy_ne _ _ _ _ _ _ _ hc]) (fun k hk => ?_)⟩
  have h1 := hk.1
  have h2 := hk.2
  rw [e, m_cpy_at, if_pos ⟨rfl, by omega, by omega⟩, show 0 + (k - 0) = k by omega]
theorem L_putBack {σ : Mem} {Q : Int → Mem → Prop} (h : ∀ s : Mem, (∀ c : Nat, c ≠ 4 → s c = σ c) → (∀ k, q_in 6 k → s 4 k = σ 20 k) → Q 0 s) : x1_putTurnsBack σ Q := by
  refine ⟨by omega, fun s e => h s (fun c hc => by rw [e, m_cpy_ne _ _ _ _ _ _ _ hc]) (fun k hk => ?_)⟩
  have h1 := hk.1
  have h2 := hk.2
  rw [e, m_cpy_at, if_pos ⟨rfl, by omega, by omega⟩, show 0 + (k - 0) = k by omega]
theorem B_keep {τ : Mem} (hn : 3 ≤ τ 0 0 ∧ τ 0 0 ≤ 6) {Q : Int → Mem → Prop} (h : ∀ s : Mem, (∀ c : Nat, c ≠ 16 → s c = τ c) → (∀ k, q_in (τ 0 0) k → s 16 k = τ 3 k) → Q 0 s) : x8_keep τ Q := by
  apply x8_keep_i
  have key : ∀ (m : Nat) (k : Int) (s : Mem), 0 ≤ k → k ≤ τ 0 0 → (τ 0 0 - k).toNat = m → (∀ c : Nat, c ≠ 16 → s c = τ c) → (∀ j, 0 ≤ j → j < k → s 16 j = τ 3 j) → x8_keep_L2 Q k s := by
    intro m
    induction m with
    | zero =>
      intro k s h0 h1 hm hf hz
      apply x8_keep_s2
      rw [x8_keep_b2, hf 0 (by omega)]
      exact ⟨by omega, fun _ => h s hf (fun j hj => hz j hj.1 (by have := hj.2; omega)), fun c => absurd c (by omega)⟩
    | succ m ih =>
      intro k s h0 h1 hm hf hz
      apply x8_keep_s2
      rw [x8_keep_b2, hf 0 (by omega), hf 3 (by omega)]
      refine ⟨by omega, fun c => absurd c (by omega), fun c => ⟨by omega, by omega, fun u e => ih (k + 1) u (by omega) (by omega) (by omega) (fun c hc => by rw [e, m_upd_ne _ _ _ _ _ hc]; exact hf c hc) (fun j j0 j1 => ?_)⟩⟩
      rw [e, m_upd_at]
      by_cases w : j = k
      · rw [if_pos ⟨rfl, w⟩, w]
      · rw [if_neg (fun q => w q.2)]
        exact hz j j0 (by omega)
  exact key _ 0 τ (by omega) (by omega) rfl (fun _ _ => rfl) (fun j h0 h1 => absurd h1 (by omega))
theorem B_back {τ : Mem} (hn : 3 ≤ τ 0 0 ∧ τ 0 0 ≤ 6) {Q : Int → Mem → Prop} (h : ∀ s : Mem, (∀ c : Nat, c ≠ 3 → s c = τ c) → (∀ k, q_in (τ 0 0) k → s 3 k = τ 16 k) → Q 0 s) : x8_back τ Q := by
  apply x8_back_i
  have key : ∀ (m : Nat) (k : Int) (s : Mem), 0 ≤ k → k ≤ τ 0 0 → (τ 0 0 - k).toNat = m → (∀ c : Nat, c ≠ 3 → s c = τ c) → (∀ j, 0 ≤ j → j < k → s 3 j = τ 16 j) → x8_back_L2 Q k s := by
    intro m
    induction m with
    | zero =>
      intro k s h0 h1 hm hf hz
      apply x8_back_s2
      rw [x8_back_b2, hf 0 (by omega)]
      exact ⟨by omega, fun _ => h s hf (fun j hj => hz j hj.1 (by have := hj.2; omega)), fun c => absurd c (by omega)⟩
    | succ m ih =>
      intro k s h0 h1 hm hf hz
      apply x8_back_s2
      rw [x8_back_b2, hf 0 (by omega), hf 16 (by omega)]
      refine ⟨by omega, fun c => absurd c (by omega), fun c => ⟨by omega, by omega, fun u e => ih (k + 1) u (by omega) (by omega) (by omega) (fun c hc => by rw [e, m_upd_ne _ _ _ _ _ hc]; exact hf c hc) (fun j j0 j1 => ?_)⟩⟩
      rw [e, m_upd_at]
      by_cases w : j = k
      · rw [if_pos ⟨rfl, w⟩, w]
      · rw [if_neg (fun q => w q.2)]
        exact hz j j0 (by omega)
  exact key _ 0 τ (by omega) (by omega) rfl (fun _ _ => rfl) (fun j h0 h1 => absurd h1 (by omega))
theorem OkA.other {σ s : Mem} (ok : OkA σ) (f : ∀ c : Nat, 1 ≤ c → c ≤ 5 → s c = σ c) : OkA s ∧ tA s = tA σ ∧ jA s 5 = jA σ 5 := by
  have e1 := f 1 (by omega) (by omega)
  have e4 := f 4 (by omega) (by omega)
  refine ⟨⟨ok.1.congr e1 (f 2 (by omega) (by omega)) (f 3 (by omega) (by omega)) e4 (f 5 (by omega) (by omega)), by rw [e1, e4]; exact ok.2⟩, ?_, ?_⟩
  · unfold tA
    rw [e1, e4]
  · unfold jA
    rw [c_br_congr e1, e1, f 2 (by omega) (by omega), f 3 (by omega) (by omega), f 5 (by omega) (by omega)]
theorem OkB.other {τ t : Mem} (ok : OkB τ) (f : ∀ c : Nat, 1 ≤ c → c ≤ 5 → t c = τ c) (f0 : t 0 0 = τ 0 0) (f1 : t 0 1 = τ 0 1) : OkB t ∧ tB t = tB τ ∧ jB t = jB τ := by
  have e3 := f 3 (by omega) (by omega)
  refine ⟨⟨?_, by rw [f0, e3]; exact ok.2⟩, ?_, ?_⟩
  · unfold JB
    rw [f0, f1, e3, f 1 (by omega) (by omega), f 2 (by omega) (by omega), f 4 (by omega) (by omega), f 5 (by omega) (by omega)]
    exact ok.1
  · unfold tB
    rw [f0, e3]
  · unfold jB
    rw [f0, f1, f 1 (by omega) (by omega), f 2 (by omega) (by omega), f 4 (by omega) (by omega), f 5 (by omega) (by omega)]
/-- turns put back: those of before -/
theorem OkA.back {σ s : Mem} (ok : OkA σ) (f : ∀ c : Nat, 1 ≤ c → c ≤ 5 → c ≠ 4 → s c = σ c) (e : ∀ k, q_in (σ 1 0) k → s 4 k = σ 4 k) : OkA s ∧ tA s = tA σ := by
  have e1 := f 1 (by omega) (by omega) (by omega)
  have et : tA s = tA σ := by
    unfold tA
    rw [e1]
    exact q_nrm_congr e
  obtain ⟨⟨⟨n1, n2, n3, n4⟩, n5⟩, n6⟩ := ok
  refine ⟨⟨?_, fun k hk => ?_⟩, et⟩
  · unfold JA q_ok
    rw [c_br_congr e1, e1, f 2 (by omega) (by omega) (by omega), f 3 (by omega) (by omega) (by omega), f 5 (by omega) (by omega) (by omega)]
    refine ⟨⟨n1, n2, fun k hk => ?_, n4⟩, n5⟩
    rw [e k hk]
    exact n3 k hk
  · rw [e1] at hk
    rw [e k hk]
    exact n6 k hk
theorem tB_back {τ t : Mem} (f0 : t 0 0 = τ 0 0) (e : ∀ k, q_in (τ 0 0) k → t 3 k = τ 3 k) : tB t = tB τ := by
  unfold tB
  rw [f0]
  exact q_nrm_congr e
theorem q_rnd_bd {j : JT} {row : Int → Int} {t : Int} (hn : 3 ≤ j.1 ∧ j.1 ≤ 6) (hrow : ∀ k, q_in j.1 k → q_in j.1 (row k)) : ∀ (m : Nat) (i : Int) (tu : Int → Int) (d : Int), 0 ≤ i → (∀ k, q_in j.1 k → 0 ≤ tu k ∧ tu k ≤ 200) → (∀ k, q_in j.1 k → 0 ≤ (q_rnd j row t m i tu d).2.1 k ∧ (q_rnd j row t m i tu d).2.1 k ≤ 200) ∧ ((q_rnd j row t m i tu d).1 = -1 ∨ (i ≤ (q_rnd j row t m i tu d).1 ∧ (q_rnd j row t m i tu d).1 ≤ i + m ∧ q_sum (q_rnd j row t m i tu d).2.1 j.1.toNat = q_sum tu j.1.toNat + ((q_rnd j row t m i tu d).2.2 - d)))
  | 0, i, tu, d, hi, ht => by
    by_cases h : q_all j tu t
    · rw [q_rnd_yes h]
      exact ⟨ht, Or.inr ⟨Int.le_refl _, by show i ≤ i + ((0 : Nat) : Int); omega, by show q_sum tu j.1.toNat = q_sum tu j.1.toNat + (d - d); omega⟩⟩
    · rw [q_rnd_no0 h]
      exact ⟨ht, Or.inl rfl⟩
  | m + 1, i, tu, d, hi, ht => by
    by_cases h : q_all j tu t
    · rw [q_rnd_yes h]
      exact ⟨ht, Or.inr ⟨Int.le_refl _, by show i ≤ i + ((m + 1 : Nat) : Int); omega, by show q_sum tu j.1.toNat = q_sum tu j.1.toNat + (d - d); omega⟩⟩
    · rw [q_rnd_no h]
      have en : ((j.1.toNat : Nat) : Int) = j.1 := by omega
      have po := (q_pass_ok (t := t) (row := row) (by omega) hrow j.1.toNat 0 tu 0 (by omega) (by omega) (by omega) ht).1
      have pb := q_pass_bd (t := t) hn hrow ht
      split
      · exact ⟨po, Or.inl rfl⟩
      · have ih := q_rnd_bd (t := t) hn hrow m (i + 1) (q_pass j row t j.1.toNat 0 tu 0).2 (d + (q_pass j row t j.1.toNat 0 tu 0).1) (by omega) po
        refine ⟨ih.1, ?_⟩
        rcases ih.2 with q | q
        · exact Or.inl q
        · exact Or.inr ⟨by omega, by omega, by omega⟩
theorem M_passes {σ τ : Mem} (R : Rel σ τ) {p1 : Int} (i1 : InI p1) : Ans (x7_passes p1 σ) (x8_passes p1 τ) := by
  unfold Ans x7_passes
  have hn := R.n
  have e0 : σ 1 0 = τ 0 0 := R.1.1
  refine L_within i1 (by omega) (by omega) (fun b => ⟨by omega, fun _ => ?_, fun c => absurd c (by omega)⟩) (fun b => ⟨by omega, fun c => absurd rfl c, fun _ => ?_⟩)
  · refine L_keepTurns (fun s1 f1 k1 => ?_)
    obtain ⟨ok1, t1, j1⟩ := R.okA.other (fun c h1 h2 => f1 c (by omega))
    have s10 : s1 1 0 = σ 1 0 := by rw [f1 1 (by omega)]
    have s16 : s1 6 = σ 6 := f1 6 (by omega)
    refine L_goRounds ok1 rfl (by omega) (Or.inl (by omega)) b (by omega) (by rw [s10, s16]; exact R.rowA) (fun s f ok e => ?_)
    rw [s10, s16, t1, j1] at e ⊢
    have bd := (q_rnd_bd (j := jA σ 5) (t := p1) hn (q_nrm_row R.rowA) 20 0 (tA σ) 0 (by omega) R.okA.tu).2
    have e2 : (jA σ 5).1 = σ 1 0 := rfl
    rw [e2] at bd
    have e20 : Int.toNat 20 = 20 := rfl
    rw [e20] at e ⊢
    have fs : ∀ c : Nat, c ≠ 4 → c < 14 ∨ 20 < c → s c = σ c := fun c h4 h => by rw [f c h4 (by omega), f1 c (by omega)]
    have aT : SameAT σ s := ⟨fun c h1 h2 _ _ => fs c h1 (by omega), by rw [fs 23 (by omega) (by omega)]⟩
    -- the reference
    have ref : ∀ {P : Int → Mem → Prop}, ((q_rnd (jA σ 5) (q_nrm (σ 1 0) (σ 6)) p1 20 0 (tA σ) 0).1 < 0 → ∀ t : Mem, SameBT τ t → tB t = tB τ → P (-100003) t) → (0 ≤ (q_rnd (jA σ 5) (q_nrm (σ 1 0) (σ 6)) p1 20 0 (tA σ) 0).1 → ∀ t : Mem, SameBT τ t → tB t = (q_rnd (jA σ 5) (q_nrm (σ 1 0) (σ 6)) p1 20 0 (tA σ) 0).2.1 → P (q_rnd (jA σ 5) (q_nrm (σ 1 0) (σ 6)) p1 20 0 (tA σ) 0).1 t) → x8_passes p1 τ P := fun {P} k1 k2 => by
      unfold x8_passes
      rw [R.j, R.t, R.rw, e0] at bd
      rw [R.j, R.t, R.rw] at k1 k2
      refine B_isAim i1 (fun _ => ⟨by omega, fun _ => B_keep (by omega) (fun u1 g1 h1 => ?_), fun c => absurd c (by omega)⟩) (fun q => absurd b q)
      have u10 : u1 0 = τ 0 := g1 0 (by omega)
      obtain ⟨oku1, tu1, ju1⟩ := R.okB.other (fun c h1 h2 => g1 c (by omega)) (by rw [u10]) (by rw [u10])
      have u16 : u1 6 = τ 6 := g1 6 (by omega)
      refine B_passesOf oku1 b (by rw [u10, u16]; exact R.rowB) (fun u g oku eu _ => ?_)
      rw [u10, u16, tu1, ju1] at eu ⊢
      have gu : ∀ c : Nat, c ≠ 0 → c ≠ 3 → c < 12 ∨ c = 19 → u c = τ c := fun c c0 c3 hc => by rw [g.1 c c0 c3 (by omega) (by omega) (by omega), g1 c (by omega)]
      have gu0 : ∀ j : Int, j ≠ 15 → j ≠ 19 → u 0 j = τ 0 j := fun j h1 h2 => by rw [g.2 j h1 h2, u10]
      have bT : SameBT τ u := ⟨gu, gu0 0 (by omega) (by omega), gu0 1 (by omega) (by omega), gu0 8 (by omega) (by omega), gu0 30 (by omega) (by omega), gu0 33 (by omega) (by omega), gu0 36 (by omega) (by omega)⟩
      refine ⟨by rcases bd with w | w <;> constructor <;> omega, fun w => k2 w u bT eu, fun w => B_back (by rw [gu0 0 (by omega) (by omega)]; omega) (fun v gv hv => k1 w v ⟨fun c c0 c3 hc => by rw [gv c c3, gu c c0 c3 hc], ?_⟩ ?_)⟩
      · rw [gv 0 (by omega)]
        exact bT.2
      · refine tB_back (by rw [gv 0 (by omega), gu0 0 (by omega) (by omega)]) (fun k hk => ?_)
        rw [hv k (by rw [gu0 0 (by omega) (by omega)]; exact hk), g.1 16 (by omega) (by omega) (by omega) (by omega) (by omega), h1 k hk]
    refine ⟨⟨by rcases bd with w | w <;> constructor <;> omega, by omega⟩, fun w => ref (fun z => absurd z (by omega)) (fun _ t bT et => ⟨rfl, R.drawn aT bT ok (by rw [e, et])⟩), fun w => L_putBack (fun v fv hv => ref (fun z t bT et => ⟨rfl, ?_⟩) (fun z => absurd z (by omega)))⟩
    have s10' : s 1 0 = σ 1 0 := by rw [fs 1 (by omega) (by omega)]
    obtain ⟨okv, etv⟩ := R.okA.back (s := v) (fun c h1 h2 h3 => by rw [fv c h3, fs c h3 (by omega)]) (fun k hk => by
      have h1 := hk.1
      have h2 := hk.2
      rw [hv k ⟨h1, by omega⟩, f 20 (by omega) (by omega), k1 k ⟨h1, by omega⟩])
    refine R.drawn ⟨fun c h1 h2 h3 h4 => by rw [fv c h1]; exact aT.1 c h1 h2 h3 h4, by rw [fv 23 (by omega)]; exact aT.2⟩ bT okv (by rw [etv, et, R.t])
  · unfold x8_passes
    exact B_isAim i1 (fun q => absurd q b) (fun _ => ⟨by omega, fun c => absurd rfl c, fun _ => ⟨rfl, R⟩⟩)
