/-! ===== chance: all ways, and the answer ===== -/
theorem q_mis_ext {br wt kept : Int → Int} : ∀ (m : Nat) (k acc x : Int) (tu tv : Int → Int), (∀ j, ¬ (k ≤ j ∧ j < k + m ∧ br j = 0) → tu j = tv j) → q_mis br wt kept m k acc x tu = q_mis br wt kept m k acc x tv
  | 0, k, acc, x, tu, tv, h => by
    have : tu = tv := funext fun j => h j (fun q => by have := q.1; have := q.2.1; omega)
    rw [this]
  | m + 1, k, acc, x, tu, tv, h => by
    rw [q_mis_s, q_mis_s]
    by_cases w : br k = 0
    · rw [if_pos w, if_pos w]
      refine q_mis_ext m (k + 1) _ _ _ _ (fun j hj => ?_)
      unfold q_set
      by_cases v : j = k
      · rw [if_pos v, if_pos v]
      · rw [if_neg v, if_neg v]
        exact h j (fun q => hj ⟨by have := q.1; omega, by have := q.2.1; omega, q.2.2⟩)
    · rw [if_neg w, if_neg w]
      refine q_mis_ext m (k + 1) _ _ _ _ (fun j hj => h j (fun q => hj ⟨?_, by have := q.2.1; omega, q.2.2⟩))
      have := q.1
      by_cases v : j = k
      · exact absurd (v ▸ q.2.2) w
      · omega
theorem q_mis_off {br wt kept : Int → Int} : ∀ (m : Nat) (k acc x : Int) (tu : Int → Int) (j : Int), ¬ (k ≤ j ∧ j < k + m ∧ br j = 0) → (q_mis br wt kept m k acc x tu).2 j = tu j
  | 0, k, acc, x, tu, j, h => rfl
  | m + 1, k, acc, x, tu, j, h => by
    rw [q_mis_s]
    by_cases w : br k = 0
    · rw [if_pos w, q_mis_off m (k + 1) _ _ _ j (fun q => h ⟨by have := q.1; omega, by have := q.2.1; omega, q.2.2⟩)]
      unfold q_set
      rw [if_neg (fun v => h ⟨by rw [v]; exact Int.le_refl k, by rw [v]; omega, by rw [v]; exact w⟩)]
    · rw [if_neg w, q_mis_off m (k + 1) _ _ _ j (fun q => h ⟨by have := q.1; omega, by have := q.2.1; omega, q.2.2⟩)]
/-- the weight of a way if it wins -/
noncomputable def q_wgh (j : JT) (wt tu : Int → Int) (a b x : Int) : Int := @ite Int (0 < (q_mis j.2.2.2.2.2 wt tu j.1.toNat 0 1 x tu).1 ∧ q_win j (q_mis j.2.2.2.2.2 wt tu j.1.toNat 0 1 x tu).2 a b) (Classical.propDecidable _) (q_mis j.2.2.2.2.2 wt tu j.1.toNat 0 1 x tu).1 0
theorem q_wgh_bd {j : JT} {wt tu : Int → Int} {a b : Int} (hn : j.1 ≤ 6) (hw : ∀ k, q_in 3 k → 0 ≤ wt k ∧ wt k ≤ 9) (x : Int) : 0 ≤ q_wgh j wt tu a b x ∧ q_wgh j wt tu a b x ≤ 531441 := by
  have h := q_mis_bd (br := j.2.2.2.2.2) (kept := tu) hw j.1.toNat 0 1 x tu (by omega)
  have p := q_pow9 (n := j.1.toNat) (by omega)
  rw [Int.one_mul] at h
  unfold q_wgh
  split <;> omega
theorem q_fav_bd {j : JT} {wt tu : Int → Int} {a b : Int} (hn : j.1 ≤ 6) (hw : ∀ k, q_in 3 k → 0 ≤ wt k ∧ wt k ≤ 9) : ∀ N : Nat, 0 ≤ q_sum (q_wgh j wt tu a b) N ∧ q_sum (q_wgh j wt tu a b) N ≤ 531441 * N
  | 0 => ⟨Int.le_refl _, Int.le_refl _⟩
  | N + 1 => by
    have h1 := q_fav_bd (j := j) (tu := tu) (a := a) (b := b) hn hw N
    have h2 := q_wgh_bd (tu := tu) (a := a) (b := b) hn hw N
    show 0 ≤ q_sum (q_wgh j wt tu a b) N + q_wgh j wt tu a b N ∧ q_sum (q_wgh j wt tu a b) N + q_wgh j wt tu a b N ≤ 531441 * ((N + 1 : Nat) : Int)
    omega
theorem q_wh_bd (br : Int → Int) : ∀ N : Nat, 0 ≤ q_wh br N ∧ q_wh br N ≤ N
  | 0 => ⟨Int.le_refl _, Int.le_refl _⟩
  | N + 1 => by
    have h := q_wh_bd br N
    show 0 ≤ q_wh br N + (if br N = 0 then 1 else 0) ∧ q_wh br N + (if br N = 0 then 1 else 0) ≤ ((N + 1 : Nat) : Int)
    split <;> omega
theorem q_pow3 {n : Nat} (h : n ≤ 6) : 1 ≤ 3 ^ n ∧ 3 ^ n ≤ 729 := by
  rcases (show n = 0 ∨ n = 1 ∨ n = 2 ∨ n = 3 ∨ n = 4 ∨ n = 5 ∨ n = 6 by omega) with q | q | q | q | q | q | q <;> subst q <;> decide
theorem L_fav {σ : Mem} (ok : OkA σ) (hw : ∀ k, q_in 3 k → 0 ≤ σ 32 k ∧ σ 32 k ≤ 9) {a b : Int} (ha : 0 ≤ a ∧ a ≤ 2000) (hb : 0 ≤ b ∧ b ≤ 2000) {Q : Int → Mem → Prop} (hQ : ∀ s : Mem, (∀ c : Nat, c ≠ 4 → c ≠ 33 → (c < 7 ∨ 13 ≤ c) → s c = σ c) → (∀ k, q_in 6 k → s 4 k = σ 4 k) → Q (q_sum (q_wgh (jA σ 5) (q_nrm 3 (σ 32)) (tA σ) a b) (3 ^ (q_wh (c_br σ) (σ 1 0).toNat).toNat)) s) : x4_favourable a b σ Q := by
  apply x4_favourable_i
  have hJ := ok.1
  have hn := hJ.n
  have whb := q_wh_bd (c_br σ) (σ 1 0).toNat
  refine ⟨by omega, fun s1 e1 => ?_⟩
  have f1 : ∀ c : Nat, c ≠ 33 → s1 c = σ c := fun c hc => by rw [e1, m_cpy_ne _ _ _ _ _ _ _ hc]
  have h33 : ∀ k, q_in 6 k → s1 33 k = σ 4 k := fun k hk => by
    have h1 := hk.1
    have h2 := hk.2
    rw [e1, m_cpy_at, if_pos ⟨rfl, by omega, by omega⟩, show 0 + (k - 0) = k by omega]
  have s11 := f1 1 (by omega)
  refine L_wholeCount (by rw [s11]; exact hn) (by rw [s11]; exact hJ.2.1) (by rw [s11]; exact hJ.2.2) ?_
  rw [c_br_congr s11, s11]
  obtain ⟨ok1, t1, j1⟩ := ok.other (fun c h1 h2 => f1 c (by omega))
  have ew : ((q_wh (c_br σ) (σ 1 0).toNat).toNat : Int) = q_wh (c_br σ) (σ 1 0).toNat := by omega
  obtain ⟨w, hw6⟩ : ∃ w : Nat, w = (q_wh (c_br σ) (σ 1 0).toNat).toNat := ⟨_, rfl⟩
  rw [← hw6] at ew hQ
  rw [← ew]
  have p3 := q_pow3 (n := w) (by omega)
  obtain ⟨W, hW⟩ : ∃ W : Nat, W = 3 ^ w := ⟨_, rfl⟩
  rw [← hW] at p3 hQ
  have ways : ∀ (m : Nat) (x acc : Int) (s : Mem), 0 ≤ x → x ≤ W → ((W : Int) - x).toNat = m → acc = q_sum (q_wgh (jA σ 5) (q_nrm 3 (σ 32)) (tA σ) a b) x.toNat → (∀ c : Nat, c ≠ 4 → (c < 7 ∨ 13 ≤ c) → s c = s1 c) → JA s 5 → (∀ j, ¬ (0 ≤ j ∧ j < 0 + ((σ 1 0).toNat : Int) ∧ (jA σ 5).2.2.2.2.2 j = 0) → tA s j = tA σ j) → x4_favourable_L47 Q a b W acc x s := by
    intro m
    induction m with
    | zero =>
      intro x acc s x0 x1 hm hacc f js ht
      apply x4_favourable_s47
      refine ⟨by constructor <;> constructor <;> omega, fun _ => ⟨by omega, fun s5 e5 => ?_⟩, fun c => absurd c (by omega)⟩
      rw [hacc, show x.toNat = W by omega]
      refine hQ s5 (fun c c4 c33 hc => ?_) (fun k hk => ?_)
      · rw [e5, m_cpy_ne _ _ _ _ _ _ _ c4, f c c4 hc, f1 c c33]
      · have h1 := hk.1
        have h2 := hk.2
        rw [e5, m_cpy_at, if_pos ⟨rfl, by omega, by omega⟩, show 0 + (k - 0) = k by omega, f 33 (by omega) (by omega)]
        exact h33 k hk
    | succ m ih =>
      intro x acc s x0 x1 hm hacc f js ht
      have s10 : s 1 = σ 1 := by rw [f 1 (by omega) (by omega), s11]
      have s32 : s 32 = σ 32 := by rw [f 32 (by omega) (by omega), f1 32 (by omega)]
      have ej : jA s 5 = jA σ 5 := by
        unfold jA
        rw [c_br_congr s10, s10, f 2 (by omega) (by omega), f 3 (by omega) (by omega), f 5 (by omega) (by omega), f1 2 (by omega), f1 3 (by omega), f1 5 (by omega)]
      have e33 : q_nrm (s 1 0) (s 33) = tA σ := by
        unfold tA
        rw [s10]
        exact q_nrm_congr (fun k hk => by rw [f 33 (by omega) (by omega)]; exact h33 k ⟨hk.1, by have := hk.2; omega⟩)
      have em : q_mis (jA s 5).2.2.2.2.2 (q_nrm 3 (s 32)) (q_nrm (s 1 0) (s 33)) (s 1 0).toNat 0 1 x (tA s) = q_mis (jA σ 5).2.2.2.2.2 (q_nrm 3 (σ 32)) (tA σ) (σ 1 0).toNat 0 1 x (tA σ) := by
        rw [ej, e33, s32, s10]
        exact q_mis_ext _ _ _ _ _ _ ht
      have bd := q_mis_bd (br := (jA σ 5).2.2.2.2.2) (kept := tA σ) (wt := q_nrm 3 (σ 32)) (fun k hk => by rw [q_nrm_in hk]; exact hw k hk) (σ 1 0).toNat 0 1 x (tA σ) (by omega)
      have p9 := q_pow9 (n := (σ 1 0).toNat) (by omega)
      rw [Int.one_mul] at bd
      have off := fun j (hj : ¬ (0 ≤ j ∧ j < 0 + ((σ 1 0).toNat : Int) ∧ (jA σ 5).2.2.2.2.2 j = 0)) => q_mis_off (wt := q_nrm 3 (σ 32)) (kept := tA σ) (σ 1 0).toNat 0 1 x (tA σ) j hj
      have sm : q_sum (q_wgh (jA σ 5) (q_nrm 3 (σ 32)) (tA σ) a b) (x + 1).toNat = q_sum (q_wgh (jA σ 5) (q_nrm 3 (σ 32)) (tA σ) a b) x.toNat + q_wgh (jA σ 5) (q_nrm 3 (σ 32)) (tA σ) a b x := by
        rw [show (x + 1).toNat = x.toNat + 1 by omega]
        show _ + q_wgh (jA σ 5) (q_nrm 3 (σ 32)) (tA σ) a b ((x.toNat : Nat) : Int) = _
        rw [show ((x.toNat : Nat) : Int) = x by omega]
      have g : q_wgh (jA σ 5) (q_nrm 3 (σ 32)) (tA σ) a b x = @ite Int (0 < (q_mis (jA σ 5).2.2.2.2.2 (q_nrm 3 (σ 32)) (tA σ) (σ 1 0).toNat 0 1 x (tA σ)).1 ∧ q_win (jA σ 5) (q_mis (jA σ 5).2.2.2.2.2 (q_nrm 3 (σ 32)) (tA σ) (σ 1 0).toNat 0 1 x (tA σ)).2 a b) (Classical.propDecidable _) (q_mis (jA σ 5).2.2.2.2.2 (q_nrm 3 (σ 32)) (tA σ) (σ 1 0).toNat 0 1 x (tA σ)).1 0 := rfl
      apply x4_favourable_s47
      refine ⟨by constructor <;> constructor <;> omega, fun c => absurd c (by omega), fun _ => L_miss js (fun k hk => ?_) (fun k hk => by rw [s32]; exact hw k hk) ⟨by omega, by constructor <;> omega⟩ (fun s' f' js' e' => ?_)⟩
      · rw [s10] at hk
        have k1 := hk.1
        have k2 := hk.2
        rw [f 33 (by omega) (by omega), h33 k ⟨k1, by omega⟩]
        exact ⟨(hJ.k hk).2.2.1.1, ok.2 k hk⟩
      · rw [em] at e' ⊢
        generalize q_mis (jA σ 5).2.2.2.2.2 (q_nrm 3 (σ 32)) (tA σ) (σ 1 0).toNat 0 1 x (tA σ) = P at e' bd off g ⊢
        have ej' : jA s' 5 = jA σ 5 := by
          rw [← ej]
          unfold jA
          rw [c_br_congr (f' 1 (by omega)), f' 1 (by omega), f' 2 (by omega), f' 3 (by omega), f' 5 (by omega)]
        have nxt : ∀ (acc' : Int) (s2 : Mem), FrO 7 s' s2 → acc' = acc + q_wgh (jA σ 5) (q_nrm 3 (σ 32)) (tA σ) a b x → x4_favourable_L47 Q a b W acc' (x + 1) s2 := fun acc' s2 f2 ha' => by
          refine ih (x + 1) acc' s2 (by omega) (by omega) (by omega) (by rw [sm, ha', hacc]) (fun c c4 hc => by rw [f2 c (by omega), f' c c4, f c c4 hc]) (js'.congr (f2 1 (by omega)) (f2 2 (by omega)) (f2 3 (by omega)) (f2 4 (by omega)) (f2 5 (by omega))) (fun j hj => ?_)
          have : tA s2 = tA s' := by
            unfold tA
            rw [f2 1 (by omega), f2 4 (by omega)]
          rw [this, e']
          exact off j hj
        refine ⟨by constructor <;> constructor <;> omega, fun q => nxt acc s' (fun _ _ => rfl) ?_, fun q => L_allLie js' ha hb (fun y s2 f2 => ?_) (fun y s2 f2 => ?_)⟩
        · rw [g, if_neg (fun z => by have := z.1; omega)]
          omega
        · rw [ej', e'] at y
          exact ⟨by omega, fun c => absurd c (by omega), fun _ => nxt _ s2 f2 (by rw [g, if_pos ⟨q, y⟩])⟩
        · rw [ej', e'] at y
          exact ⟨by omega, fun _ => nxt _ s2 f2 (by rw [g, if_neg (fun z => y z.2)]; omega), fun c => absurd rfl c⟩
  have pow : ∀ (m : Nat) (k x : Int), m ≤ 6 → k = m → x * (3 ^ m : Nat) = W → x4_favourable_L24 Q a b x k s1 := by
    intro m
    induction m with
    | zero =>
      intro k x h6 hk hx
      apply x4_favourable_s24
      refine ⟨by constructor <;> omega, fun _ => ?_, fun c => absurd c (by omega)⟩
      have : x = W := by
        rw [← hx, Nat.pow_zero]
        omega
      rw [this]
      exact ways _ 0 0 s1 (by omega) (by omega) rfl rfl (fun _ _ _ => rfl) ok1.1 (fun j _ => by rw [t1])
    | succ m ih =>
      intro k x h6 hk hx
      apply x4_favourable_s24
      refine ⟨by constructor <;> omega, fun c => absurd c (by omega), fun _ => ih (k + (-1)) (x * 3) (by omega) (by omega) ?_⟩
      rw [← hx, Nat.pow_succ, Int.natCast_mul]
      rw [Int.mul_assoc]
      congr 1
      exact Int.mul_comm _ _
  refine pow w _ 1 (by omega) rfl ?_
  rw [Int.one_mul, hW]
