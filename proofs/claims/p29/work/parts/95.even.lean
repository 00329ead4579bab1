/-! ===== passes from no turns come to what even comes to ===== -/
theorem e_set_id (tu : Int → Int) (h : Int) : q_set tu h (tu h) = tu := by
  funext k
  unfold q_set
  by_cases e : k = h
  · rw [if_pos e, e]
  · rw [if_neg e]
theorem e_drw0 {j : JT} {tu : Int → Int} {h t : Int} (a : q_all j tu t) (hh : q_in j.1 h) (hb : j.2.2.2.2.2 h = 0) (h2 : tu h ≤ 200) : q_drw j tu h t = 0 := by
  unfold q_drw
  refine q_srch_at _ _ 0 (by omega) (by omega) ?_ (fun i h0 h1 => absurd h1 (by omega))
  obtain ⟨u, D, hu, hp⟩ := a
  rw [Int.add_zero]
  refine ⟨u, D, ?_, hp h hh hb⟩
  rw [e_set_id]
  exact hu
theorem e_drT0 {j : JT} {tu : Int → Int} {h t : Int} (e : q_drw j tu h t = 0) : q_drT j tu h t = tu := by
  unfold q_drT
  rw [e, if_neg (by omega), Int.add_zero, e_set_id]
theorem e_drT_ne {j : JT} {tu : Int → Int} {h t k : Int} (hk : k ≠ h) : q_drT j tu h t k = tu k := by
  unfold q_drT
  split
  · rfl
  · unfold q_set
    rw [if_neg hk]
theorem e_drw_nn (j : JT) (tu : Int → Int) (h t : Int) : q_drw j tu h t = -1 ∨ 0 ≤ q_drw j tu h t := by
  unfold q_drw
  rcases q_srch_bd (p := q_hasJ j tu h t) (201 - tu h).toNat (tu h) with q | q
  · exact Or.inl q
  · exact Or.inr q.1
theorem e_pass0 {j : JT} {row : Int → Int} {t : Int} (hrow : ∀ k, q_in j.1 k → q_in j.1 (row k)) : ∀ (m : Nat) (k : Int) (tu : Int → Int) (acc : Int), 0 ≤ k → k + m = j.1 → q_all j tu t → (∀ k, q_in j.1 k → tu k ≤ 200) → q_pass j row t m k tu acc = (acc, tu)
  | 0, _, _, _, _, _, _, _ => rfl
  | m + 1, k, tu, acc, h0, h1, a, h2 => by
    rw [q_pass_s]
    have hk : q_in j.1 (row k) := hrow k ⟨h0, by omega⟩
    by_cases hb : j.2.2.2.2.2 (row k) = 0
    · have e := e_drw0 a hk hb (h2 _ hk)
      rw [if_pos hb, e_drT0 e, e, if_neg (by omega), Int.add_zero]
      exact e_pass0 hrow m (k + 1) tu acc (by omega) (by omega) a h2
    · rw [if_neg hb]
      exact e_pass0 hrow m (k + 1) tu acc (by omega) (by omega) a h2
theorem e_pass_nn {j : JT} {row : Int → Int} {t : Int} : ∀ (m : Nat) (k : Int) (tu : Int → Int) (acc : Int), (q_pass j row t m k tu acc).1 = -1 ∨ acc ≤ (q_pass j row t m k tu acc).1
  | 0, _, _, _ => Or.inr (Int.le_refl _)
  | m + 1, k, tu, acc => by
    rw [q_pass_s]
    split
    · split
      · exact Or.inl rfl
      · rcases e_pass_nn (j := j) (row := row) (t := t) m (k + 1) (q_drT j tu (row k) t) (acc + q_drw j tu (row k) t) with q | q
        · exact Or.inl q
        · exact Or.inr (by omega)
    · exact e_pass_nn m (k + 1) tu acc
theorem e_pass_same {j : JT} {row : Int → Int} {t : Int} : ∀ (m : Nat) (k : Int) (tu : Int → Int) (acc : Int), 0 ≤ acc → (q_pass j row t m k tu acc).1 = acc → (q_pass j row t m k tu acc).2 = tu
  | 0, _, _, _, _, _ => rfl
  | m + 1, k, tu, acc, h0, h => by
    rw [q_pass_s] at h ⊢
    by_cases hb : j.2.2.2.2.2 (row k) = 0
    · rw [if_pos hb] at h ⊢
      by_cases hd : q_drw j tu (row k) t < 0
      · rw [if_pos hd]
      · rw [if_neg hd] at h ⊢
        have e : q_drw j tu (row k) t = 0 := by
          rcases e_pass_nn (j := j) (row := row) (t := t) m (k + 1) (q_drT j tu (row k) t) (acc + q_drw j tu (row k) t) with q | q
          · rw [q] at h
            omega
          · rw [h] at q
            omega
        rw [e_drT0 e, e, Int.add_zero] at h ⊢
        exact e_pass_same m (k + 1) tu acc h0 h
    · rw [if_neg hb] at h ⊢
      exact e_pass_same m (k + 1) tu acc h0 h
theorem e_pass_keep {j : JT} {row : Int → Int} {t : Int} (hrow : ∀ k, q_in j.1 k → q_in j.1 (row k)) {i : Int} (hi : ¬ (q_in j.1 i ∧ j.2.2.2.2.2 i = 0)) : ∀ (m : Nat) (k : Int) (tu : Int → Int) (acc : Int), 0 ≤ k → k + m = j.1 → (q_pass j row t m k tu acc).2 i = tu i
  | 0, _, _, _, _, _ => rfl
  | m + 1, k, tu, acc, h0, h1 => by
    rw [q_pass_s]
    have hk : q_in j.1 (row k) := hrow k ⟨h0, by omega⟩
    by_cases hb : j.2.2.2.2.2 (row k) = 0
    · rw [if_pos hb]
      split
      · rfl
      · rw [e_pass_keep hrow hi m (k + 1) _ _ (by omega) (by omega)]
        exact e_drT_ne (fun e => hi ⟨by rw [e]; exact hk, by rw [e]; exact hb⟩)
    · rw [if_neg hb]
      exact e_pass_keep hrow hi m (k + 1) tu acc (by omega) (by omega)
theorem e_rnd_keep {j : JT} {row : Int → Int} {t : Int} (hn : 0 ≤ j.1) (hrow : ∀ k, q_in j.1 k → q_in j.1 (row k)) {i : Int} (hi : ¬ (q_in j.1 i ∧ j.2.2.2.2.2 i = 0)) : ∀ (m : Nat) (r : Int) (tu : Int → Int) (d : Int), (q_rnd j row t m r tu d).2.1 i = tu i
  | 0, r, tu, d => by
    by_cases a : q_all j tu t
    · rw [q_rnd_yes a]
    · rw [q_rnd_no0 a]
  | m + 1, r, tu, d => by
    have e := e_pass_keep (t := t) hrow hi j.1.toNat 0 tu 0 (by omega) (by omega)
    by_cases a : q_all j tu t
    · rw [q_rnd_yes a]
    · rw [q_rnd_no a]
      split
      · exact e
      · rw [e_rnd_keep hn hrow hi m]
        exact e
/-- if passes by numbers come to their end, even's passes come to the same turns -/
theorem e_main {j : JT} {t : Int} (hn : 3 ≤ j.1 ∧ j.1 ≤ 6) : ∀ (m : Nat) (i : Int) (tu : Int → Int) (d : Int) (M : Nat), 0 ≤ i → m < M → (∀ k, q_in j.1 k → 0 ≤ tu k ∧ tu k ≤ 200) → 0 ≤ (q_rnd j (q_id j.1) t m i tu d).1 → q_evn j t M tu = (1, (q_rnd j (q_id j.1) t m i tu d).2.1) := by
  have yes : ∀ (m : Nat) (i : Int) (tu : Int → Int) (d : Int) (M : Nat), m < M → (∀ k, q_in j.1 k → 0 ≤ tu k ∧ tu k ≤ 200) → q_all j tu t → q_evn j t M tu = (1, (q_rnd j (q_id j.1) t m i tu d).2.1) := by
    intro m i tu d M hM h2 a
    obtain ⟨K, rfl⟩ : ∃ K, M = K + 1 := ⟨M - 1, by omega⟩
    rw [q_rnd_yes a, q_evn_s, e_pass0 q_id_row j.1.toNat 0 tu 0 (by omega) (by omega) a (fun k hk => (h2 k hk).2)]
    show (if (0 : Int) < 0 then _ else if (0 : Int) = 0 then _ else _) = _
    rw [if_neg (by omega), if_pos rfl]
  intro m
  induction m with
  | zero =>
    intro i tu d M hi hM h2 h
    by_cases a : q_all j tu t
    · exact yes 0 i tu d M hM h2 a
    · rw [q_rnd_no0 a] at h
      exact absurd h (by show ¬ (0 : Int) ≤ -1; omega)
  | succ m ih =>
    intro i tu d M hi hM h2 h
    by_cases a : q_all j tu t
    · exact yes (m + 1) i tu d M hM h2 a
    · obtain ⟨K, rfl⟩ : ∃ K, M = K + 1 := ⟨M - 1, by omega⟩
      rw [q_rnd_no a] at h ⊢
      have ok := q_pass_ok (t := t) (row := q_id j.1) (by omega) q_id_row j.1.toNat 0 tu 0 (by omega) (by omega) (by omega) h2
      by_cases w : (q_pass j (q_id j.1) t j.1.toNat 0 tu 0).1 < 0
      · rw [if_pos w] at h
        exact absurd h (by show ¬ (0 : Int) ≤ -1; omega)
      · rw [if_neg w] at h ⊢
        by_cases w0 : (q_pass j (q_id j.1) t j.1.toNat 0 tu 0).1 = 0
        · have e := e_pass_same (j := j) (row := q_id j.1) (t := t) j.1.toNat 0 tu 0 (by omega) w0
          have r := ih (i + 1) _ (d + (q_pass j (q_id j.1) t j.1.toNat 0 tu 0).1) (m + 1) (by omega) (by omega) ok.1 h
          rw [q_evn_s, if_neg w, if_pos w0, ← r, e, q_evn_s, if_neg w, if_pos w0, e]
        · rw [q_evn_s, if_neg w, if_neg w0]
          exact ih (i + 1) _ _ K (by omega) (by omega) ok.1 h
theorem e_zer_congr {j : JT} {tu tv : Int → Int} (h : ∀ i, ¬ (q_in j.1 i ∧ j.2.2.2.2.2 i = 0) → tv i = tu i) : q_zer j tv = q_zer j tu := by
  funext k
  unfold q_zer
  by_cases w : (0 ≤ k ∧ k < j.1) ∧ j.2.2.2.2.2 k = 0
  · rw [if_pos w, if_pos w]
  · rw [if_neg w, if_neg w]
    exact h k w
theorem e_zer_ne {j : JT} {tu : Int → Int} {i : Int} (h : ¬ (q_in j.1 i ∧ j.2.2.2.2.2 i = 0)) : q_zer j tu i = tu i := if_neg h
theorem e_zer_zer (j : JT) (tu : Int → Int) : q_zer j (q_zer j tu) = q_zer j tu := e_zer_congr (fun _ h => e_zer_ne h)
