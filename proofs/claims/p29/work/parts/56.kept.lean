theorem m_cpy_at (σ : Mem) (a b : Nat) (sp dp n : Int) (c : Nat) (j : Int) : m_cpy σ a b sp dp n c j = if c = b ∧ dp ≤ j ∧ j < dp + n then σ a (sp + (j - dp)) else σ c j := by
  unfold m_cpy
  by_cases h : c = b
  · subst h
    rw [if_pos rfl]
    simp
  · rw [if_neg h, if_neg (fun q => h q.1)]
theorem m_cpy_ne (σ : Mem) (a b : Nat) (sp dp n : Int) (c : Nat) (h : c ≠ b) : m_cpy σ a b sp dp n c = σ c := by
  unfold m_cpy
  rw [if_neg h]
theorem L_keepTurns {σ : Mem} {Q : Int → Mem → Prop} (h : ∀ s : Mem, (∀ c : Nat, c ≠ 20 → s c = σ c) → (∀ k, q_in 6 k → s 20 k = σ 4 k) → Q 0 s) : x1_keepTurns σ Q := by
  refine ⟨by omega, fun s e => h s (fun c hc => by rw [e, m_cpy_ne _ _ _ _ _ _ _ hc]) (fun k hk => ?_)⟩
  have h1 := hk.1
  have h2 := hk.2
  rw [e, m_cpy_at, if_pos ⟨rfl, by omega, by omega⟩, show 0 + (k - 0) = k by omega]
theorem L_putBack {σ : Mem} {Q : Int → Mem → Prop} (h : ∀ s : Mem, (∀ c : Nat, c ≠ 4 → s c = σ c) → (∀ k, q_in 6 k → s 4 k = σ 20 k) → Q 0 s) : x1_putTurnsBack σ Q := by
  refine ⟨by omega, fun s e => h s (fun c hc => by rw [e, m_cpy_ne _ _ _ _ _ _ _ hc]) (fun k hk => ?_)⟩
  have h1 := hk.1
  have h2 := hk.2
  rw [e, m_cpy_at, if_pos ⟨rfl, by omega, by omega⟩, show 0 + (k - 0) = k by omega]
theorem OkA.other {σ s : Mem} (ok : OkA σ) (f : ∀ c : Nat, 1 ≤ c → c ≤ 5 → s c = σ c) : OkA s ∧ tA s = tA σ ∧ jA s 5 = jA σ 5 := by
  have e1 := f 1 (by omega) (by omega)
  have e4 := f 4 (by omega) (by omega)
  refine ⟨⟨ok.1.congr e1 (f 2 (by omega) (by omega)) (f 3 (by omega) (by omega)) e4 (f 5 (by omega) (by omega)), by rw [e1, e4]; exact ok.2⟩, ?_, ?_⟩
  · unfold tA
    rw [e1, e4]
  · unfold jA
    rw [c_br_congr e1, e1, f 2 (by omega) (by omega), f 3 (by omega) (by omega), f 5 (by omega) (by omega)]
/-- turns put back: those of before -/
theorem OkA.back {σ s : Mem} (ok : OkA σ) (f : ∀ c : Nat, 1 ≤ c → c ≤ 5 → c ≠ 4 → s c = σ c) (e : ∀ k, q_in (σ 1 0) k → s 4 k = σ 4 k) : OkA s ∧ tA s = tA σ := by
  have e1 := f 1 (by omega) (by omega) (by omega)
  have et : tA s = tA σ := by
    unfold tA
    rw [e1]
    exact q_nrm_congr e
  obtain ⟨⟨⟨n1, n2, n3, n4⟩, n5⟩, n6⟩ := ok
  refine ⟨⟨?_, fun k hk => ?_⟩, et⟩
  · unfold JA q_ok
    rw [c_br_congr e1, e1, f 2 (by omega) (by omega) (by omega), f 3 (by omega) (by omega) (by omega), f 5 (by omega) (by omega) (by omega)]
    refine ⟨⟨n1, n2, fun k hk => ?_, n4⟩, n5⟩
    rw [e k hk]
    exact n3 k hk
  · rw [e1] at hk
    rw [e k hk]
    exact n6 k hk
theorem q_rnd_bd {j : JT} {row : Int → Int} {t : Int} (hn : 3 ≤ j.1 ∧ j.1 ≤ 6) (hrow : ∀ k, q_in j.1 k → q_in j.1 (row k)) : ∀ (m : Nat) (i : Int) (tu : Int → Int) (d : Int), 0 ≤ i → (∀ k, q_in j.1 k → 0 ≤ tu k ∧ tu k ≤ 200) → (∀ k, q_in j.1 k → 0 ≤ (q_rnd j row t m i tu d).2.1 k ∧ (q_rnd j row t m i tu d).2.1 k ≤ 200) ∧ ((q_rnd j row t m i tu d).1 = -1 ∨ (i ≤ (q_rnd j row t m i tu d).1 ∧ (q_rnd j row t m i tu d).1 ≤ i + m ∧ q_sum (q_rnd j row t m i tu d).2.1 j.1.toNat = q_sum tu j.1.toNat + ((q_rnd j row t m i tu d).2.2 - d)))
  | 0, i, tu, d, hi, ht => by
    by_cases h : q_all j tu t
    · rw [q_rnd_yes h]
      exact ⟨ht, Or.inr ⟨Int.le_refl _, by show i ≤ i + ((0 : Nat) : Int); omega, by show q_sum tu j.1.toNat = q_sum tu j.1.toNat + (d - d); omega⟩⟩
    · rw [q_rnd_no0 h]
      exact ⟨ht, Or.inl rfl⟩
  | m + 1, i, tu, d, hi, ht => by
    by_cases h : q_all j tu t
    · rw [q_rnd_yes h]
      exact ⟨ht, Or.inr ⟨Int.le_refl _, by show i ≤ i + ((m + 1 : Nat) : Int); omega, by show q_sum tu j.1.toNat = q_sum tu j.1.toNat + (d - d); omega⟩⟩
    · rw [q_rnd_no h]
      have en : ((j.1.toNat : Nat) : Int) = j.1 := by omega
      have po := (q_pass_ok (t := t) (row := row) (by omega) hrow j.1.toNat 0 tu 0 (by omega) (by omega) (by omega) ht).1
      have pb := q_pass_bd (t := t) hn hrow ht
      split
      · exact ⟨po, Or.inl rfl⟩
      · have ih := q_rnd_bd (t := t) hn hrow m (i + 1) (q_pass j row t j.1.toNat 0 tu 0).2 (d + (q_pass j row t j.1.toNat 0 tu 0).1) (by omega) po
        refine ⟨ih.1, ?_⟩
        rcases ih.2 with q | q
        · exact Or.inl q
        · exact Or.inr ⟨by omega, by omega, by omega⟩
