/-! ===== best in the reference, and in both ===== -/
theorem OkB.kept {τ s : Mem} (ok : OkB τ) (f : ∀ c : Nat, 1 ≤ c → c ≤ 5 → c ≠ 3 → s c = τ c) (e0 : s 0 0 = τ 0 0) (e1 : s 0 1 = τ 0 1) (h3 : ∀ k, q_in (τ 0 0) k → s 3 k = τ 3 k) : OkB s ∧ tB s = tB τ ∧ jB s = jB τ := by
  have f1 := f 1 (by omega) (by omega) (by omega)
  have f2 := f 2 (by omega) (by omega) (by omega)
  have f4 := f 4 (by omega) (by omega) (by omega)
  have f5 := f 5 (by omega) (by omega) (by omega)
  refine ⟨⟨?_, ?_⟩, ?_, ?_⟩
  · unfold JB
    rw [e0, e1, f1, f2, f4, f5]
    exact q_ok_congr (fun k hk => ⟨rfl, rfl, (h3 k hk).symm, rfl, rfl⟩) ok.1
  · rw [e0]
    intro k hk
    rw [h3 k hk]
    exact ok.2 k hk
  · unfold tB
    rw [e0]
    exact q_nrm_congr h3
  · unfold jB
    rw [e0, e1, f1, f2, f4, f5]
def InvB (τ : Mem) (t X : Int) (s : Mem) : Prop := (∀ c : Nat, c ≠ 0 → c ≠ 3 → c ≠ 6 → (c < 12 ∨ 17 < c) → s c = τ c) ∧ (∀ j : Int, j ≠ 15 → j ≠ 19 → j ≠ 21 → j ≠ 22 → j ≠ 23 → s 0 j = τ 0 j) ∧ (∀ k, q_in (τ 0 0) k → s 16 k = τ 3 k ∧ s 17 k = τ 6 k ∧ s 3 k = τ 3 k) ∧ (∀ k, ¬ q_in (τ 0 0) k → s 6 k = τ 6 k) ∧ ∃ b, q_bst (fun x => q_isRow (τ 0 0) x ∧ x < X) (q_rp (jB τ) (tB τ) t) (q_rd (jB τ) (tB τ) t) b ∧ s 0 21 = b ∧ (b ≠ -1 → s 0 22 = q_rp (jB τ) (tB τ) t b ∧ s 0 23 = q_rd (jB τ) (tB τ) t b)
theorem q_isRow_lt {n x : Int} (hn : n = 3 ∨ n = 4 ∨ n = 5) (h : q_isRow n x) : x < (10 : Int) ^ n.toNat := by
  have h1 := h.1
  have h2 := h.2.1
  rcases hn with q | q | q <;> subst q
  · have h3 : q_quo x 3 = 0 := h2
    show x < 1000
    simp only [q_quo] at h3
    omega
  · have h3 : q_quo x 4 = 0 := h2
    show x < 10000
    simp only [q_quo] at h3
    omega
  · have h3 : q_quo x 5 = 0 := h2
    show x < 100000
    simp only [q_quo] at h3
    omega
theorem B_findBest {τ : Mem} (ok : OkB τ) (h6 : τ 0 0 ≠ 6) {t : Int} (ht : 1 ≤ t ∧ t ≤ 900) {Q : Int → Mem → Prop} (hQ : ∀ s : Mem, (∀ c : Nat, c ≠ 0 → c ≠ 3 → (c < 12 ∨ 17 < c) → s c = τ c) → (∀ j : Int, j ≠ 15 → j ≠ 19 → j ≠ 21 → j ≠ 22 → j ≠ 23 → s 0 j = τ 0 j) → (∀ k, q_in (τ 0 0) k → s 3 k = τ 3 k) → (∃ b, q_bst (q_isRow (τ 0 0)) (q_rp (jB τ) (tB τ) t) (q_rd (jB τ) (tB τ) t) b ∧ s 0 21 = b ∧ (b ≠ -1 → s 0 22 = q_rp (jB τ) (tB τ) t b ∧ s 0 23 = q_rd (jB τ) (tB τ) t b)) → Q 0 s) : x8_findBest t τ Q := by
  apply x8_findBest_i
  have hJ := ok.1
  have hn := hJ.n
  have hn5 : τ 0 0 = 3 ∨ τ 0 0 = 4 ∨ τ 0 0 = 5 := by omega
  obtain ⟨ten, hten⟩ : ∃ ten : Int, ten = (10 : Int) ^ (τ 0 0).toNat := ⟨_, rfl⟩
  have tenb : 1 ≤ ten ∧ ten ≤ 100000 := by
    rw [hten]
    rcases hn5 with q | q | q <;> rw [q] <;> decide
  have lt10 : ∀ x, q_isRow (τ 0 0) x → x < ten := fun x hx => by
    rw [hten]
    exact q_isRow_lt hn5 hx
  have jn : (jB τ).1 = τ 0 0 := rfl
  -- the row put back
  have back : ∀ (m : Nat) (k : Int) (s : Mem), 0 ≤ k → k ≤ τ 0 0 → (τ 0 0 - k).toNat = m → InvB τ t ten s → (∀ j, 0 ≤ j → j < k → s 6 j = τ 6 j) → x8_findBest_L186 Q k s := by
    intro m
    induction m with
    | zero =>
      intro k s k0 k1 hm ⟨i1, i2, i3, i4, b, i5, i6⟩ hd
      apply x8_findBest_s186
      have s00 := i2 0 (by omega) (by omega) (by omega) (by omega) (by omega)
      have s6 : s 6 = τ 6 := by
        funext j
        by_cases w : q_in (τ 0 0) j
        · exact hd j w.1 (by have := w.2; omega)
        · exact i4 j w
      refine ⟨by rw [s00]; constructor <;> constructor <;> omega, fun _ => hQ s (fun c c0 c3 hc => ?_) i2 (fun k hk => (i3 k hk).2.2) ⟨b, q_bst_congr i5 (fun x => ⟨fun hx => ⟨hx, lt10 x hx⟩, fun hx => hx.1⟩), i6⟩, fun c => absurd c (by rw [s00]; omega)⟩
      by_cases w : c = 6
      · rw [w, s6]
      · exact i1 c c0 c3 w hc
    | succ m ih =>
      intro k s k0 k1 hm ⟨i1, i2, i3, i4, b, i5, i6⟩ hd
      apply x8_findBest_s186
      have s00 := i2 0 (by omega) (by omega) (by omega) (by omega) (by omega)
      have hk : q_in (τ 0 0) k := ⟨k0, by omega⟩
      refine ⟨by rw [s00]; constructor <;> constructor <;> omega, fun c => absurd c (by rw [s00]; omega), fun _ => ⟨by omega, by omega, fun s' e' => ?_⟩⟩
      have f' : ∀ c : Nat, c ≠ 6 → s' c = s c := fun c hc => by rw [e', m_upd_ne _ _ _ _ _ hc]
      refine ih (k + 1) s' (by omega) (by omega) (by omega) ⟨fun c c0 c3 c6 hc => by rw [f' c c6, i1 c c0 c3 c6 hc], by rw [f' 0 (by omega)]; exact i2, by rw [f' 16 (by omega), f' 17 (by omega), f' 3 (by omega)]; exact i3, fun j hj => ?_, b, i5, by rw [f' 0 (by omega)]; exact i6⟩ (fun j j0 j1 => ?_)
      · rw [e', m_upd_at, if_neg (fun z => hj (by rw [z.2]; exact hk))]
        exact i4 j hj
      · rw [e', m_upd_at]
        by_cases w : j = k
        · rw [if_pos ⟨rfl, w⟩, w]
          exact (i3 k hk).2.1
        · rw [if_neg (fun z => w z.2)]
          exact hd j j0 (by omega)
  -- number after number
  have ways : ∀ (m : Nat) (x : Int) (s : Mem), 0 ≤ x → x ≤ ten → (ten - x).toNat = m → InvB τ t x s → x8_findBest_L62 Q t ten x s := by
    intro m
    induction m with
    | zero =>
      intro x s x0 x1 hm inv
      apply x8_findBest_s62
      obtain rfl : x = ten := by omega
      exact ⟨by constructor <;> constructor <;> omega, fun _ => back _ 0 s (by omega) (by omega) rfl inv (fun j j0 j1 => absurd j1 (by omega)), fun c => absurd c (by omega)⟩
    | succ m ih =>
      intro x s x0 x1 hm ⟨i1, i2, i3, i4, b, i5, i6, i7⟩
      have s00 := i2 0 (by omega) (by omega) (by omega) (by omega) (by omega)
      apply x8_findBest_s62
      refine ⟨by constructor <;> constructor <;> omega, fun c => absurd c (by omega), fun _ => B_isRow (by constructor <;> omega) (by rw [s00]; exact hn) (fun hr u fu hu => ⟨by omega, fun c => absurd c (by omega), fun _ => ?_⟩) (fun hr u fu => ⟨by omega, fun _ => ih (x + 1) u (by omega) (by omega) (by omega) ?_, fun c => absurd rfl c⟩)⟩
      · -- a row: into the order, and the passes
        rw [s00] at hr hu
        have hS : ∀ y, (q_isRow (τ 0 0) y ∧ y < x + 1) ↔ (q_isRow (τ 0 0) y ∧ y < x) ∨ y = x := fun y => by
          constructor
          · intro h
            by_cases w : y = x
            · exact Or.inr w
            · exact Or.inl ⟨h.1, by omega⟩
          · intro h
            rcases h with h | h
            · exact ⟨h.1, by omega⟩
            · rw [h]
              exact ⟨hr, by omega⟩
        have u00 : u 0 0 = τ 0 0 := by rw [fu 0 (by omega), s00]
        have copy : ∀ (m : Nat) (k : Int) (v : Mem), 0 ≤ k → k ≤ τ 0 0 → (τ 0 0 - k).toNat = m → (∀ c : Nat, c ≠ 6 → v c = u c) → (∀ j, 0 ≤ j → j < k → v 6 j = q_dg x (τ 0 0 - 1 - j).toNat) → (∀ j, ¬ q_in (τ 0 0) j → v 6 j = τ 6 j) → x8_findBest_L78 Q t ten x k v := by
          intro m
          induction m with
          | zero =>
            intro k v k0 k1 hm fv hd ho
            apply x8_findBest_s78
            have v0 : v 0 = s 0 := by rw [fv 0 (by omega), fu 0 (by omega)]
            have vc : ∀ c : Nat, c ≠ 6 → c ≠ 15 → v c = s c := fun c c6 c15 => by rw [fv c c6, fu c c15]
            obtain ⟨okv, tv, jv⟩ := ok.kept (s := v) (fun c c1 c2 c3 => by rw [vc c (by omega) (by omega), i1 c (by omega) c3 (by omega) (by omega)]) (by rw [v0, s00]) (by rw [v0, i2 1 (by omega) (by omega) (by omega) (by omega) (by omega)]) (fun k hk => by rw [vc 3 (by omega) (by omega), (i3 k hk).2.2])
            have er : q_nrm (v 0 0) (v 6) = q_rw (τ 0 0) x := by
              rw [v0, s00]
              exact q_nrm_congr (fun j hj => hd j hj.1 (by have := hj.2; omega))
            have pb := q_rp_rg (jB τ) (tB τ) t b
            have py := q_rp_rg (jB τ) (tB τ) t x
            refine ⟨by rw [v0, s00]; constructor <;> constructor <;> omega, fun _ => B_passesOf okv ht (fun k hk => ?_) (fun w gw okw ew edw => ?_), fun c => absurd c (by rw [v0, s00]; omega)⟩
            · rw [v0, s00] at hk ⊢
              rw [hd k hk.1 (by have := hk.2; omega)]
              have := q_rw_in hn hr k hk
              unfold q_rw at this
              rw [q_nrm_in hk] at this
              exact this
            · rw [er, jv, tv] at ew edw ⊢
              have ep : q_rp (jB τ) (tB τ) t x = (q_rnd (jB τ) (q_rw (τ 0 0) x) t 20 0 (tB τ) 0).1 := rfl
              have ed : q_rd (jB τ) (tB τ) t x = (q_rnd (jB τ) (q_rw (τ 0 0) x) t 20 0 (tB τ) 0).2.2 := rfl
              rw [← ed] at edw
              rw [← ep]
              have w0 : ∀ j : Int, j ≠ 15 → j ≠ 19 → w 0 j = s 0 j := fun j h1 h2 => by rw [gw.2 j h1 h2, v0]
              refine B_back (by rw [w0 0 (by omega) (by omega), s00]; exact hn) (fun z gz hz => ?_)
              rw [w0 0 (by omega) (by omega), s00] at hz
              have z0 : ∀ j : Int, j ≠ 15 → j ≠ 19 → z 0 j = s 0 j := fun j h1 h2 => by rw [gz 0 (by omega), w0 j h1 h2]
              have z19 : z 0 19 = q_rd (jB τ) (tB τ) t x := by rw [gz 0 (by omega), edw]
              have c1 : ∀ c : Nat, c ≠ 0 → c ≠ 3 → c ≠ 6 → (c < 12 ∨ 17 < c) → z c = τ c := fun c c0 c3 c6 hc => by rw [gz c c3, gw.1 c c0 c3 (by omega) (by omega) (by omega), vc c c6 (by omega), i1 c c0 c3 c6 hc]
              have w16 : ∀ k, q_in (τ 0 0) k → w 16 k = τ 3 k := fun k hk => by rw [gw.1 16 (by omega) (by omega) (by omega) (by omega) (by omega), vc 16 (by omega) (by omega), (i3 k hk).1]
              have c3 : ∀ k, q_in (τ 0 0) k → z 16 k = τ 3 k ∧ z 17 k = τ 6 k ∧ z 3 k = τ 3 k := fun k hk => by
                refine ⟨?_, ?_, ?_⟩
                · rw [gz 16 (by omega), w16 k hk]
                · rw [gz 17 (by omega), gw.1 17 (by omega) (by omega) (by omega) (by omega) (by omega), vc 17 (by omega) (by omega), (i3 k hk).2.1]
                · rw [hz k hk, w16 k hk]
              have c4 : ∀ k, ¬ q_in (τ 0 0) k → z 6 k = τ 6 k := fun k hk => by
                rw [gz 6 (by omega), gw.1 6 (by omega) (by omega) (by omega) (by omega) (by omega), ho k hk]
              have z21 := z0 21 (by omega) (by omega)
              have z22 := z0 22 (by omega) (by omega)
              have z23 := z0 23 (by omega) (by omega)
              have keep : (q_rp (jB τ) (tB τ) t x < 0 ∨ (b ≠ -1 ∧ (q_rp (jB τ) (tB τ) t b < q_rp (jB τ) (tB τ) t x ∨ (q_rp (jB τ) (tB τ) t b = q_rp (jB τ) (tB τ) t x ∧ q_rd (jB τ) (tB τ) t b ≤ q_rd (jB τ) (tB τ) t x)))) → x8_findBest_L62 Q t ten (x + 1) z := fun h => by
                refine ih (x + 1) z (by omega) (by omega) (by omega) ⟨c1, fun j h1 h2 h3 h4 h5 => by rw [z0 j h1 h2, i2 j h1 h2 h3 h4 h5], c3, c4, b, q_bst_keep i5 hS (fun y hy => hy.2) h, by rw [z21, i6], by rw [z22, z23]; exact i7⟩
              have take : 0 ≤ q_rp (jB τ) (tB τ) t x → (b = -1 ∨ q_rp (jB τ) (tB τ) t x < q_rp (jB τ) (tB τ) t b ∨ (q_rp (jB τ) (tB τ) t x = q_rp (jB τ) (tB τ) t b ∧ q_rd (jB τ) (tB τ) t x < q_rd (jB τ) (tB τ) t b)) → x8_findBest_L159 Q t ten x (q_rp (jB τ) (tB τ) t x) z := fun h0 h => by
                apply x8_findBest_s159
                intro y1 ey1 y2 ey2 y3 ey3
                have yf : ∀ c : Nat, c ≠ 0 → y3 c = z c := fun c hc => by rw [ey3, m_upd_ne _ _ _ _ _ hc, ey2, m_upd_ne _ _ _ _ _ hc, ey1, m_upd_ne _ _ _ _ _ hc]
                have y19 : y2 0 19 = q_rd (jB τ) (tB τ) t x := by
                  rw [ey2, m_upd_at, if_neg (by omega), ey1, m_upd_at, if_neg (by omega), z19]
                have yj : ∀ j : Int, j ≠ 21 → j ≠ 22 → j ≠ 23 → y3 0 j = z 0 j := fun j h1 h2 h3 => by
                  rw [ey3, m_upd_at, if_neg (fun q => h3 q.2), ey2, m_upd_at, if_neg (fun q => h2 q.2), ey1, m_upd_at, if_neg (fun q => h1 q.2)]
                refine ih (x + 1) y3 (by omega) (by omega) (by omega) ⟨fun c d0 d3 d6 hc => by rw [yf c d0, c1 c d0 d3 d6 hc], fun j h1 h2 h3 h4 h5 => by rw [yj j h3 h4 h5, z0 j h1 h2, i2 j h1 h2 h3 h4 h5], by rw [yf 16 (by omega), yf 17 (by omega), yf 3 (by omega)]; exact c3, by rw [yf 6 (by omega)]; exact c4, x, q_bst_take i5 hS ⟨x0, h0⟩ h, ?_, fun _ => ⟨?_, ?_⟩⟩
                · rw [ey3, m_upd_at, if_neg (by omega), ey2, m_upd_at, if_neg (by omega), ey1, m_upd_at, if_pos ⟨rfl, rfl⟩]
                · rw [ey3, m_upd_at, if_neg (by omega), ey2, m_upd_at, if_pos ⟨rfl, rfl⟩]
                · rw [ey3, m_upd_at, if_pos ⟨rfl, rfl⟩, y19]
              have bneg : b = -1 ∨ (b ≠ -1 ∧ 0 ≤ b ∧ b < x ∧ q_isRow (τ 0 0) b ∧ 0 ≤ q_rp (jB τ) (tB τ) t b) := by
                rcases i5 with q | q
                · exact Or.inl q.1
                · exact Or.inr ⟨by omega, q.1, q.2.1.2, q.2.1.1, q.2.2.1⟩
              have z21b : z 0 21 = b := by rw [z21, i6]
              rw [z21b]
              have ib : InI b := by rcases bneg with q | q <;> constructor <;> omega
              refine ⟨by rcases py with q | q <;> constructor <;> omega, fun q => keep (Or.inl q), fun q => ⟨ib, fun q2 => take q (Or.inl (by omega)), fun q2 => ?_⟩⟩
              rcases bneg with w | ⟨w, w2, w3, w4, w5⟩
              · omega
              · obtain ⟨g1, g2⟩ := i7 w
                have dbw := (q_rd_bd (j := jB τ) hn ok.tu w4 w5).2
                have dyw := (q_rd_bd (j := jB τ) (t := t) hn ok.tu hr q).2
                rw [z22, z23, g1, g2, z19]
                exact ⟨by constructor <;> constructor <;> omega, fun q3 => take q (Or.inr (Or.inl q3)), fun q3 => ⟨by constructor <;> constructor <;> omega, fun q4 => keep (Or.inr ⟨w, Or.inl (by omega)⟩), fun q4 => ⟨by constructor <;> constructor <;> omega, fun q5 => keep (Or.inr ⟨w, Or.inr ⟨q4.symm, q5⟩⟩), fun q5 => take q (Or.inr (Or.inr ⟨q4, q5⟩))⟩⟩⟩
          | succ m ih2 =>
            intro k v k0 k1 hm fv hd ho
            apply x8_findBest_s78
            have v0 : v 0 = s 0 := by rw [fv 0 (by omega), fu 0 (by omega)]
            refine ⟨by rw [v0, s00]; constructor <;> constructor <;> omega, fun c => absurd c (by rw [v0, s00]; omega), fun _ => ⟨by omega, by omega, fun s' e' => ?_⟩⟩
            refine ih2 (k + 1) s' (by omega) (by omega) (by omega) (fun c hc => by rw [e', m_upd_ne _ _ _ _ _ hc]; exact fv c hc) (fun j j0 j1 => ?_) (fun j hj => ?_)
            · rw [e', m_upd_at]
              by_cases w : j = k
              · rw [if_pos ⟨rfl, w⟩, w, fv 15 (by omega)]
                exact hu k ⟨k0, by omega⟩
              · rw [if_neg (fun z => w z.2)]
                exact hd j j0 (by omega)
            · rw [e', m_upd_at, if_neg (fun z => hj (by rw [z.2]; exact ⟨k0, by omega⟩))]
              exact ho j hj
        exact copy _ 0 u (by omega) (by omega) rfl (fun _ _ => rfl) (fun j j0 j1 => absurd j1 (by omega)) (fun j hj => by rw [fu 6 (by omega)]; exact i4 j hj)
      · rw [s00] at hr
        refine ⟨fun c c0 c3 c6 hc => by rw [fu c (by omega), i1 c c0 c3 c6 hc], by rw [fu 0 (by omega)]; exact i2, by rw [fu 16 (by omega), fu 17 (by omega), fu 3 (by omega)]; exact i3, by rw [fu 6 (by omega)]; exact i4, b, q_bst_congr i5 (fun y => ⟨fun h => ⟨h.1, ?_⟩, fun h => ⟨h.1, by omega⟩⟩), by rw [fu 0 (by omega)]; exact ⟨i6, i7⟩⟩
        by_cases w : y = x
        · exact absurd (w ▸ h.1) hr
        · have := h.2
          omega
  intro s1 e1
  have f1 : ∀ c : Nat, c ≠ 0 → s1 c = τ c := fun c hc => by rw [e1, m_upd_ne _ _ _ _ _ hc]
  have j1 : ∀ j : Int, j ≠ 21 → s1 0 j = τ 0 j := fun j hj => by rw [e1, m_upd_at, if_neg (fun q => hj q.2)]
  have s10 := j1 0 (by omega)
  have s121 : s1 0 21 = -1 := by rw [e1, m_upd_at, if_pos ⟨rfl, rfl⟩]
  refine B_keep (by rw [s10]; exact hn) (fun s2 f2 h2 => ?_)
  rw [s10] at h2
  have s20 : s2 0 0 = τ 0 0 := by rw [f2 0 (by omega), s10]
  have pow : ∀ (m : Nat) (k x : Int) (s : Mem), 0 ≤ k → k ≤ τ 0 0 → (τ 0 0 - k).toNat = m → x * 10 ^ m = ten → InvB τ t 0 s → x8_findBest_L41 Q t x k s := by
    intro m
    induction m with
    | zero =>
      intro k x s k0 k1 hm hx inv
      have s00 := inv.2.1 0 (by omega) (by omega) (by omega) (by omega) (by omega)
      apply x8_findBest_s41
      rw [Int.pow_zero, Int.mul_one] at hx
      rw [hx]
      exact ⟨by rw [s00]; constructor <;> constructor <;> omega, fun _ => ways _ 0 s (by omega) (by omega) rfl inv, fun c => absurd c (by rw [s00]; omega)⟩
    | succ m ih =>
      intro k x s k0 k1 hm hx inv
      have s00 := inv.2.1 0 (by omega) (by omega) (by omega) (by omega) (by omega)
      apply x8_findBest_s41
      refine ⟨by rw [s00]; constructor <;> constructor <;> omega, fun c => absurd c (by rw [s00]; omega), fun _ => ih (k + 1) (x * 10) s (by omega) (by omega) (by omega) ?_ inv⟩
      rw [← hx, Int.pow_succ, Int.mul_assoc]
      congr 1
      exact Int.mul_comm _ _
  have save : ∀ (m : Nat) (k : Int) (s : Mem), 0 ≤ k → k ≤ τ 0 0 → (τ 0 0 - k).toNat = m → (∀ c : Nat, c ≠ 17 → s c = s2 c) → (∀ j, 0 ≤ j → j < k → s 17 j = τ 6 j) → x8_findBest_L11 Q t k s := by
    intro m
    induction m with
    | zero =>
      intro k s k0 k1 hm f hd
      have s00 : s 0 0 = τ 0 0 := by rw [f 0 (by omega), s20]
      apply x8_findBest_s11
      refine ⟨by rw [s00]; constructor <;> constructor <;> omega, fun _ => pow _ 0 1 s (by omega) (by omega) rfl (by rw [Int.one_mul, hten, Int.sub_zero]) ⟨fun c c0 c3 c6 hc => by rw [f c (by omega), f2 c (by omega), f1 c c0], fun j h1 h2 h3 h4 h5 => by rw [f 0 (by omega), f2 0 (by omega), j1 j h3], fun k hk => ⟨?_, hd k hk.1 (by have := hk.2; omega), ?_⟩, fun k _ => by rw [f 6 (by omega), f2 6 (by omega), f1 6 (by omega)], -1, Or.inl ⟨rfl, fun x hx => absurd hx.2 (by have := hx.1.1; omega)⟩, by rw [f 0 (by omega), f2 0 (by omega), s121], fun c => absurd rfl c⟩, fun c => absurd c (by rw [s00]; omega)⟩
      · rw [f 16 (by omega), h2 k hk, f1 3 (by omega)]
      · rw [f 3 (by omega), f2 3 (by omega), f1 3 (by omega)]
    | succ m ih =>
      intro k s k0 k1 hm f hd
      have s00 : s 0 0 = τ 0 0 := by rw [f 0 (by omega), s20]
      apply x8_findBest_s11
      refine ⟨by rw [s00]; constructor <;> constructor <;> omega, fun c => absurd c (by rw [s00]; omega), fun _ => ⟨by omega, by omega, fun s' e' => ih (k + 1) s' (by omega) (by omega) (by omega) (fun c hc => by rw [e', m_upd_ne _ _ _ _ _ hc]; exact f c hc) (fun j j0 j1 => ?_)⟩⟩
      rw [e', m_upd_at]
      by_cases w : j = k
      · rw [if_pos ⟨rfl, w⟩, w, f 6 (by omega), f2 6 (by omega), f1 6 (by omega)]
      · rw [if_neg (fun z => w z.2)]
        exact hd j j0 (by omega)
  exact save _ 0 s2 (by omega) (by omega) rfl (fun _ _ => rfl) (fun j j0 j1 => absurd j1 (by omega))
theorem M_best {σ τ : Mem} (R : Rel σ τ) {p1 p2 : Int} (i1 : InI p1) (i2 : InI p2) : Ans (x7_best p1 p2 σ) (x8_best p1 p2 τ) := by
  unfold Ans x7_best
  have hn := R.n
  have e0 : σ 1 0 = τ 0 0 := R.1.1
  have ref : ∀ {P : Int → Mem → Prop}, (¬ (1 ≤ p1 ∧ p1 ≤ 900) ∨ ¬ (0 ≤ p2 ∧ p2 ≤ 2) → P (-100002) τ) → (1 ≤ p1 ∧ p1 ≤ 900 → 0 ≤ p2 ∧ p2 ≤ 2 → (τ 0 0 = 6 → P (-100005) τ) ∧ (τ 0 0 ≠ 6 → x8_findBest p1 τ (fun _ s5 => InI (s5 0 (21)) ∧ ((0) ≤ (s5 0 (21)) → InI p2 ∧ (¬ p2 = (0) → (InI p2 ∧ InI (1)) ∧ (¬ p2 = (1) → P (s5 0 (23)) s5) ∧ (p2 = (1) → P (s5 0 (22)) s5)) ∧ (p2 = (0) → P (s5 0 (21)) s5)) ∧ ((s5 0 (21)) < (0) → P (-100003) s5)))) → x8_best p1 p2 τ P := fun {P} k1 k2 => by
    unfold x8_best
    exact B_isAim i1 (fun a => ⟨by omega, fun c => absurd c (by omega), fun _ => ⟨i2, B_in (by constructor <;> omega) (by omega) (by omega) (fun b => ⟨by omega, fun _ => ⟨by constructor <;> constructor <;> omega, fun c => (k2 a b).2 c, fun c => (k2 a b).1 c⟩, fun c => absurd c (by omega)⟩) (fun b => ⟨by omega, fun c => absurd rfl c, fun _ => k1 (Or.inr b)⟩)⟩⟩) (fun a => ⟨by omega, fun _ => k1 (Or.inl a), fun c => absurd rfl c⟩)
  refine L_within i1 (by omega) (by omega) (fun a => ⟨by omega, fun c => absurd c (by omega), fun _ => L_within i2 (by omega) (by omega) (fun b => ⟨by omega, fun _ => ⟨by constructor <;> constructor <;> omega, fun h6 => ?_, fun h6 => ref (fun z => absurd z (by omega)) (fun _ _ => ⟨fun _ => ⟨rfl, R⟩, fun z => absurd h6 (by omega)⟩)⟩, fun c => absurd c (by omega)⟩) (fun b => ⟨by omega, fun c => absurd rfl c, fun _ => ref (fun _ => ⟨rfl, R⟩) (fun _ z => absurd z b)⟩)⟩) (fun a => ⟨by omega, fun _ => ref (fun _ => ⟨rfl, R⟩) (fun z => absurd z a), fun c => absurd rfl c⟩)
  refine L_findBest R.okA R.2.2.2.2.2 h6 a (fun s f ht ⟨x, hx, x1, x2⟩ => ?_)
  obtain ⟨okv, etv⟩ := R.okA.back (s := s) (fun c h1 h2 h3 => f c h3 (by omega) (by omega) (by omega) (by omega)) (fun k hk => by
    have h1 := hk.1
    have h2 := hk.2
    exact ht k ⟨h1, by omega⟩)
  have aT : SameAT σ s := ⟨fun c h1 h2 _ _ => f c h1 (by omega) (by omega) (by omega) (by omega), by rw [f 23 (by omega) (by omega) (by omega) (by omega) (by omega)]⟩
  rw [R.j, R.t, e0] at hx
  rw [R.j, R.t] at x2
  have px := q_rp_rg (jB τ) (tB τ) p1 x
  have fit : x = -1 ∨ (x ≠ -1 ∧ 0 ≤ x ∧ x < 100000 ∧ q_isRow (τ 0 0) x ∧ 0 ≤ q_rp (jB τ) (tB τ) p1 x) := by
    rcases hx with q | q
    · exact Or.inl q.1
    · refine Or.inr ⟨by omega, q.1, ?_, q.2.1, q.2.2.1⟩
      have := q_isRow_lt (by omega) q.2.1
      rcases (show τ 0 0 = 3 ∨ τ 0 0 = 4 ∨ τ 0 0 = 5 by omega) with w | w | w
      · rw [w] at this
        have h : x < 1000 := this
        omega
      · rw [w] at this
        have h : x < 10000 := this
        omega
      · rw [w] at this
        exact this
  have i130 : InI (s 13 0) := by
    rcases fit with q | q
    · rw [x1 q]
      constructor <;> omega
    · rw [(x2 q.1).1]
      constructor <;> omega
  have done : ∀ r : Int, (x = -1 → r = -100003) → (x ≠ -1 → r = if p2 = 0 then x else if p2 = 1 then q_rp (jB τ) (tB τ) p1 x else q_rd (jB τ) (tB τ) p1 x) → x8_best p1 p2 τ (fun r' τ' => r = r' ∧ Rel s τ') := fun r r1 r2 => by
    refine ref (fun z => absurd z (by omega)) (fun _ _ => ⟨fun z => absurd z (by omega), fun _ => B_findBest R.okB (by omega) a (fun t g g0 g3 ⟨y, hy, y1, y2⟩ => ?_)⟩)
    obtain rfl : y = x := q_bst_un hy hx
    have bT : SameBT τ t := ⟨fun c c0 c3 hc => g c c0 c3 (by omega), g0 0 (by omega) (by omega) (by omega) (by omega) (by omega), g0 1 (by omega) (by omega) (by omega) (by omega) (by omega), g0 8 (by omega) (by omega) (by omega) (by omega) (by omega), g0 30 (by omega) (by omega) (by omega) (by omega) (by omega), g0 33 (by omega) (by omega) (by omega) (by omega) (by omega), g0 36 (by omega) (by omega) (by omega) (by omega) (by omega)⟩
    have et : tB t = tB τ := tB_back (g0 0 (by omega) (by omega) (by omega) (by omega) (by omega)) g3
    have Rl : Rel s t := R.drawn aT bT okv (by rw [etv, et, R.t])
    rw [y1]
    refine ⟨by rcases fit with q | q <;> constructor <;> omega, fun q => ⟨i2, fun w => ⟨⟨i2, by omega⟩, fun v => ⟨?_, Rl⟩, fun v => ⟨?_, Rl⟩⟩, fun w => ⟨?_, Rl⟩⟩, fun q => ⟨r1 (by omega), Rl⟩⟩
    · rw [r2 (by omega), if_neg w, if_neg v, (y2 (by omega)).2]
    · rw [r2 (by omega), if_neg w, if_pos v, (y2 (by omega)).1]
    · rw [r2 (by omega), if_pos w]
  refine ⟨⟨i130, by omega⟩, fun q => ⟨i2, fun w => ⟨⟨i2, by omega⟩, fun v => done _ (fun z => absurd (x1 z) q) (fun z => ?_), fun v => done _ (fun z => absurd (x1 z) q) (fun z => ?_)⟩, fun w => done _ (fun z => absurd (x1 z) q) (fun z => ?_)⟩, fun q => done _ (fun _ => rfl) (fun z => ?_)⟩
  · rw [if_neg w, if_neg v]
    exact (x2 z).2.1
  · rw [if_neg w, if_pos v]
    exact (x2 z).1
  · rw [if_pos w]
    exact (x2 z).2.2
  · have := (x2 z).1
    rcases fit with y | y
    · exact absurd y z
    · omega
