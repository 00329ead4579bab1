/-! ===== chance in both ===== -/
theorem q_powS {S : Int} (h1 : 1 ≤ S) (h2 : S ≤ 27) : ∀ n : Nat, n ≤ 6 → 1 ≤ S ^ n ∧ S ^ n ≤ 387420489 := fun n hn => by
  have key : ∀ m : Nat, 1 ≤ S ^ m ∧ S ^ m ≤ 27 ^ m := by
    intro m
    induction m with
    | zero =>
      rw [Int.pow_zero, Int.pow_zero]
      omega
    | succ m ih =>
      rw [Int.pow_succ, Int.pow_succ]
      have a1 : 1 * 1 ≤ S ^ m * S := Int.mul_le_mul ih.1 h1 (by omega) (by omega)
      have a2 : S ^ m * S ≤ 27 ^ m * 27 := Int.mul_le_mul ih.2 h2 (by omega) (by omega)
      omega
  have k := key n
  have : (27 : Int) ^ n ≤ 387420489 := by
    rcases (show n = 0 ∨ n = 1 ∨ n = 2 ∨ n = 3 ∨ n = 4 ∨ n = 5 ∨ n = 6 by omega) with q | q | q | q | q | q | q <;> subst q <;> decide
  omega
theorem L_all {σ : Mem} (hJ : JA σ 5) (hw : ∀ k, q_in 3 k → 0 ≤ σ 32 k ∧ σ 32 k ≤ 9) {Q : Int → Mem → Prop} (h : Q ((σ 32 0 + σ 32 1 + σ 32 2) ^ (q_wh (c_br σ) (σ 1 0).toNat).toNat) σ) : x4_all σ Q := by
  apply x4_all_i
  have hn := hJ.n
  have whb := q_wh_bd (c_br σ) (σ 1 0).toNat
  refine L_wholeCount hn hJ.2.1 hJ.2.2 ?_
  have w0 := hw 0 ⟨by omega, by omega⟩
  have w1 := hw 1 ⟨by omega, by omega⟩
  have w2 := hw 2 ⟨by omega, by omega⟩
  have ew : ((q_wh (c_br σ) (σ 1 0).toNat).toNat : Int) = q_wh (c_br σ) (σ 1 0).toNat := by omega
  obtain ⟨w, hw6⟩ : ∃ w : Nat, w = (q_wh (c_br σ) (σ 1 0).toNat).toNat := ⟨_, rfl⟩
  rw [← hw6] at ew h
  rw [← ew]
  have pow : ∀ (m : Nat) (k x : Int), m ≤ 6 → k = m → x * (σ 32 0 + σ 32 1 + σ 32 2) ^ m = (σ 32 0 + σ 32 1 + σ 32 2) ^ w → x4_all_L8 Q x k σ := by
    intro m
    induction m with
    | zero =>
      intro k x h6 hk hx
      apply x4_all_s8
      rw [Int.pow_zero, Int.mul_one] at hx
      rw [hx]
      exact ⟨by constructor <;> omega, fun _ => h, fun c => absurd c (by omega)⟩
    | succ m ih =>
      intro k x h6 hk hx
      apply x4_all_s8
      refine ⟨by constructor <;> omega, fun c => absurd c (by omega), fun _ => ⟨by omega, by omega, by omega, by constructor <;> omega, fun v3 e3 => ih (k + (-1)) v3 (by omega) (by omega) ?_⟩⟩
      rw [← hx, e3, Int.pow_succ, Int.mul_assoc]
      congr 1
      exact Int.mul_comm _ _
  exact pow w _ 1 (by omega) rfl (by rw [Int.one_mul])
theorem M_chance {σ τ : Mem} (R : Rel σ τ) {p1 p2 p3 : Int} (i1 : InI p1) (i2 : InI p2) (i3 : InI p3) : Ans (x7_chance p1 p2 p3 σ) (x8_chance p1 p2 p3 τ) := by
  unfold Ans x7_chance
  have hn := R.n
  have e0 : σ 1 0 = τ 0 0 := R.1.1
  have hJB : JB τ := R.JB
  have hw : ∀ k, q_in 3 k → σ 32 k = τ 8 k ∧ 0 ≤ σ 32 k ∧ σ 32 k ≤ 9 := fun k hk => by
    obtain ⟨⟨w0, w1, w2⟩, b0, b1, b2, _⟩ := R.2.2.1
    have h1 := hk.1
    have h2 := hk.2
    rcases (show k = 0 ∨ k = 1 ∨ k = 2 by omega) with q | q | q <;> subst q
    · exact ⟨w0, b0⟩
    · exact ⟨w1, b1⟩
    · exact ⟨w2, b2⟩
  have S1 : 1 ≤ σ 32 0 + σ 32 1 + σ 32 2 := R.2.2.1.2.2.2.2
  have h0 := hw 0 ⟨by omega, by omega⟩
  have h1a := hw 1 ⟨by omega, by omega⟩
  have h2a := hw 2 ⟨by omega, by omega⟩
  have ewt : q_nrm 3 (σ 32) = q_nrm 3 (τ 8) := q_nrm_congr (fun k hk => (hw k hk).1)
  have ewh : q_wh (c_br σ) (σ 1 0).toNat = q_wh (τ 5) (τ 0 0).toNat := by
    rw [← e0]
    exact q_wh_congr (fun k hk => (R.1.2.2.1 k ⟨hk.1, by have := hk.2; omega⟩).2.2.2.2)
  have whb := q_wh_bd (τ 5) (τ 0 0).toNat
  have ew : ((q_wh (τ 5) (τ 0 0).toNat).toNat : Int) = q_wh (τ 5) (τ 0 0).toNat := by omega
  obtain ⟨w, hw6⟩ : ∃ w : Nat, w = (q_wh (τ 5) (τ 0 0).toNat).toNat := ⟨_, rfl⟩
  rw [← hw6] at ew
  have w6 : w ≤ 6 := by omega
  have pS := q_powS S1 (by omega) w w6
  have p3b := q_pow3 w6
  obtain ⟨W, hW⟩ : ∃ W : Nat, W = 3 ^ w := ⟨_, rfl⟩
  rw [← hW] at p3b
  have fb := q_fav_bd (j := jB τ) (tu := tB τ) (a := p1) (b := p2) (wt := q_nrm 3 (τ 8)) (show (jB τ).1 ≤ 6 by show τ 0 0 ≤ 6; omega) (fun k hk => by rw [q_nrm_in hk, ← (hw k hk).1]; exact (hw k hk).2) W
  obtain ⟨fav, hfav⟩ : ∃ f : Int, f = q_sum (q_wgh (jB τ) (q_nrm 3 (τ 8)) (tB τ) p1 p2) W := ⟨_, rfl⟩
  obtain ⟨all, hall⟩ : ∃ f : Int, f = (σ 32 0 + σ 32 1 + σ 32 2) ^ w := ⟨_, rfl⟩
  rw [← hfav] at fb
  rw [← hall] at pS
  have gp := q_gcd_pos (a := if fav < 0 then -fav else fav) (b := all) (by omega)
  have gle : q_gcd (if fav < 0 then -fav else fav) all ≤ all := by
    unfold q_gcd
    have := Nat.gcd_le_right (if fav < 0 then -fav else fav).toNat (show 0 < all.toNat by omega)
    omega
  have ref : ∀ {P : Int → Mem → Prop}, (¬ (0 ≤ p1 ∧ p1 ≤ p2 ∧ p2 ≤ 2000 ∧ 0 ≤ p3 ∧ p3 ≤ 1) → P (-100002) τ) → ((0 ≤ p1 ∧ p1 ≤ p2 ∧ p2 ≤ 2000 ∧ 0 ≤ p3 ∧ p3 ≤ 1) → ∀ t : Mem, SameBT τ t → tB t = tB τ → P (Int.tdiv (if p3 = 0 then fav else all) (q_gcd (if fav < 0 then -fav else fav) all)) t) → x8_chance p1 p2 p3 τ P := fun {P} k1 k2 => by
    apply x8_chance_i
    refine ⟨i1, i2, B_in (by constructor <;> omega) (by omega) (by constructor <;> omega) (fun a => ⟨by omega, fun c => absurd c (by omega), fun _ => ⟨⟨i2, by omega⟩, fun c => k1 (fun z => by omega), fun c => ⟨i3, B_in (by constructor <;> omega) (by omega) (by omega) (fun b => ⟨by omega, fun _ => B_keep (by omega) (fun u1 g1 h1 => ?_), fun c => absurd c (by omega)⟩) (fun b => ⟨by omega, fun c => absurd rfl c, fun _ => k1 (fun z => by omega)⟩)⟩⟩⟩) (fun a => ⟨by omega, fun _ => k1 (fun z => by omega), fun c => absurd rfl c⟩)⟩
    have u10 : u1 0 = τ 0 := g1 0 (by omega)
    obtain ⟨oku1, tu1, ju1⟩ := R.okB.other (fun c h1 h2 => g1 c (by omega)) (by rw [u10]) (by rw [u10])
    have u18 : u1 8 = τ 8 := g1 8 (by omega)
    have ways : ∀ (m : Nat) (x acc : Int) (s : Mem), 0 ≤ x → x ≤ W → ((W : Int) - x).toNat = m → acc = q_sum (q_wgh (jB τ) (q_nrm 3 (τ 8)) (tB τ) p1 p2) x.toNat → FrT u1 s → JB s → (∀ j, ¬ (0 ≤ j ∧ j < 0 + ((τ 0 0).toNat : Int) ∧ (jB τ).2.2.2.2.2 j = 0) → tB s j = tB τ j) → x8_chance_L98 P p1 p2 p3 W all acc x s := by
      intro m
      induction m with
      | zero =>
        intro x acc s x0 x1 hm hacc g js ht
        have gu : ∀ c : Nat, c ≠ 0 → c ≠ 3 → c < 12 ∨ c = 19 → s c = τ c := fun c c0 c3 hc => by rw [g.1 c c0 c3 (by omega) (by omega) (by omega), g1 c (by omega)]
        have gu0 : ∀ j : Int, j ≠ 15 → s 0 j = τ 0 j := fun j h1 => by rw [g.2 j h1, u10]
        have bT : SameBT τ s := ⟨gu, gu0 0 (by omega), gu0 1 (by omega), gu0 8 (by omega), gu0 30 (by omega), gu0 33 (by omega), gu0 36 (by omega)⟩
        have ef : acc = fav := by rw [hacc, hfav, show x.toNat = W by omega]
        apply x8_chance_s98
        refine ⟨by constructor <;> constructor <;> omega, fun _ => B_back (by rw [gu0 0 (by omega)]; omega) (fun v gv hv => ?_), fun c => absurd c (by omega)⟩
        have fin := k2 (by omega) v ⟨fun c c0 c3 hc => by rw [gv c c3, gu c c0 c3 hc], by rw [gv 0 (by omega)]; exact bT.2⟩ (tB_back (by rw [gv 0 (by omega), gu0 0 (by omega)]) (fun k hk => by rw [hv k (by rw [gu0 0 (by omega)]; exact hk), g.1 16 (by omega) (by omega) (by omega) (by omega) (by omega), h1 k hk]))
        rw [ef]
        refine B_gcd ⟨by constructor <;> omega, by omega⟩ ⟨by omega, by constructor <;> omega⟩ ⟨i3, fun q => ⟨⟨by constructor <;> omega, by constructor <;> omega, by omega⟩, ?_⟩, fun q => ⟨⟨by constructor <;> omega, by constructor <;> omega, by omega⟩, ?_⟩⟩
        · rw [if_neg q] at fin
          exact fin
        · rw [if_pos q] at fin
          exact fin
      | succ m ih =>
        intro x acc s x0 x1 hm hacc g js ht
        have s00 : s 0 0 = τ 0 0 := by rw [g.2 0 (by omega), u10]
        have s8 : s 8 = τ 8 := by rw [g.1 8 (by omega) (by omega) (by omega) (by omega) (by omega), u18]
        have ej : jB s = jB τ := by rw [g.j, ju1]
        have s16 : ∀ k, q_in (τ 0 0) k → s 16 k = τ 3 k := fun k hk => by rw [g.1 16 (by omega) (by omega) (by omega) (by omega) (by omega), h1 k hk]
        have e16 : q_nrm (s 0 0) (s 16) = tB τ := by
          unfold tB
          rw [s00]
          exact q_nrm_congr s16
        have em : q_mis (jB s).2.2.2.2.2 (q_nrm 3 (s 8)) (q_nrm (s 0 0) (s 16)) (s 0 0).toNat 0 1 x (tB s) = q_mis (jB τ).2.2.2.2.2 (q_nrm 3 (τ 8)) (tB τ) (τ 0 0).toNat 0 1 x (tB τ) := by
          rw [ej, e16, s8, s00]
          exact q_mis_ext _ _ _ _ _ _ ht
        have off := fun j (hj : ¬ (0 ≤ j ∧ j < 0 + ((τ 0 0).toNat : Int) ∧ (jB τ).2.2.2.2.2 j = 0)) => q_mis_off (wt := q_nrm 3 (τ 8)) (kept := tB τ) (τ 0 0).toNat 0 1 x (tB τ) j hj
        have sm : q_sum (q_wgh (jB τ) (q_nrm 3 (τ 8)) (tB τ) p1 p2) (x + 1).toNat = q_sum (q_wgh (jB τ) (q_nrm 3 (τ 8)) (tB τ) p1 p2) x.toNat + q_wgh (jB τ) (q_nrm 3 (τ 8)) (tB τ) p1 p2 x := by
          rw [show (x + 1).toNat = x.toNat + 1 by omega]
          show _ + q_wgh (jB τ) (q_nrm 3 (τ 8)) (tB τ) p1 p2 ((x.toNat : Nat) : Int) = _
          rw [show ((x.toNat : Nat) : Int) = x by omega]
        have gw : q_wgh (jB τ) (q_nrm 3 (τ 8)) (tB τ) p1 p2 x = @ite Int (0 < (q_mis (jB τ).2.2.2.2.2 (q_nrm 3 (τ 8)) (tB τ) (τ 0 0).toNat 0 1 x (tB τ)).1 ∧ q_win (jB τ) (q_mis (jB τ).2.2.2.2.2 (q_nrm 3 (τ 8)) (tB τ) (τ 0 0).toNat 0 1 x (tB τ)).2 p1 p2) (Classical.propDecidable _) (q_mis (jB τ).2.2.2.2.2 (q_nrm 3 (τ 8)) (tB τ) (τ 0 0).toNat 0 1 x (tB τ)).1 0 := rfl
        apply x8_chance_s98
        refine ⟨by constructor <;> constructor <;> omega, fun c => absurd c (by omega), fun _ => B_weighed js (fun k hk => ?_) (fun k hk => by rw [s8, ← (hw k hk).1]; exact (hw k hk).2) (a := p1) (b := p2) (by omega) (by omega) ⟨by omega, by constructor <;> omega⟩ (fun r c1 c2 s' f' js' e' => ?_)⟩
        · rw [s00] at hk
          rw [s16 k hk]
          exact ⟨(hJB.k hk).2.2.1.1, R.okB.2 k hk⟩
        · rw [em] at c1 c2 e'
          rw [ej] at c2
          generalize q_mis (jB τ).2.2.2.2.2 (q_nrm 3 (τ 8)) (tB τ) (τ 0 0).toNat 0 1 x (tB τ) = P at e' off gw c1 c2
          refine ih (x + 1) _ s' (by omega) (by omega) (by omega) ?_ (g.trans f') js' (fun j hj => ?_)
          · rw [sm, ← hacc, gw]
            congr 1
            by_cases q : 0 < P.1
            · by_cases y : q_win (jB τ) P.2 p1 p2
              · rw [if_pos ⟨q, y⟩]
                exact (c2 q).1 y
              · rw [if_neg (fun z => y z.2)]
                exact (c2 q).2 y
            · rw [if_neg (fun z => q z.1)]
              exact c1 (by omega)
          · rw [e']
            exact off j hj
    have pow : ∀ (m : Nat) (k x y : Int), m ≤ 6 → k + m = w → x * (3 ^ m : Nat) = W → y * (σ 32 0 + σ 32 1 + σ 32 2) ^ m = all → x8_chance_L45 P p1 p2 p3 x y k u1 := by
      intro m
      induction m with
      | zero =>
        intro k x y h6 hk hx hy
        apply x8_chance_s45
        unfold x8_chance_b45
        refine B_whole (by rw [u10]; omega) (by rw [u10, g1 5 (by omega)]; exact fun k hk => (hJB.k hk).2.2.2.2) ?_
        rw [u10, g1 5 (by omega), ← ew]
        refine ⟨by constructor <;> constructor <;> omega, fun _ => ?_, fun c => absurd c (by omega)⟩
        have ex : x = W := by
          rw [← hx, Nat.pow_zero]
          omega
        rw [Int.pow_zero, Int.mul_one] at hy
        rw [ex, hy]
        exact ways _ 0 0 u1 (by omega) (by omega) rfl rfl (FrT.refl _) oku1.1 (fun j _ => by rw [tu1])
      | succ m ih =>
        intro k x y h6 hk hx hy
        apply x8_chance_s45
        unfold x8_chance_b45
        refine B_whole (by rw [u10]; omega) (by rw [u10, g1 5 (by omega)]; exact fun k hk => (hJB.k hk).2.2.2.2) ?_
        rw [u10, g1 5 (by omega), ← ew, u18]
        refine ⟨by constructor <;> constructor <;> omega, fun c => absurd c (by omega), fun _ => ⟨by omega, by omega, by omega, by constructor <;> omega, fun v11 e11 => ih (k + 1) (x * 3) v11 (by omega) (by omega) ?_ ?_⟩⟩
        · rw [← hx, Nat.pow_succ, Int.natCast_mul, Int.mul_assoc]
          congr 1
          exact Int.mul_comm _ _
        · rw [← hy, e11, Int.pow_succ, Int.mul_assoc, h0.1, h1a.1, h2a.1]
          congr 1
          exact Int.mul_comm _ _
    exact pow w 0 1 1 w6 (by omega) (by rw [Int.one_mul, hW]) (by rw [Int.one_mul, hall])
  refine L_within i2 (by omega) (by omega) (fun b2 => ⟨by omega, fun c => absurd c (by omega), fun _ => L_within i1 (by omega) i2 (fun b1 => ⟨by omega, fun c => absurd c (by omega), fun _ => L_within i3 (by omega) (by omega) (fun b3 => ⟨by omega, fun _ => ?_, fun c => absurd c (by omega)⟩) (fun b3 => ⟨by omega, fun c => absurd rfl c, fun _ => ref (fun _ => ⟨rfl, R⟩) (fun z => absurd z (by omega))⟩)⟩) (fun b1 => ⟨by omega, fun _ => ref (fun _ => ⟨rfl, R⟩) (fun z => absurd z (by omega)), fun c => absurd rfl c⟩)⟩) (fun b2 => ⟨by omega, fun _ => ref (fun _ => ⟨rfl, R⟩) (fun z => absurd z (by omega)), fun c => absurd rfl c⟩)
  refine L_fav R.okA (fun k hk => (hw k hk).2) (by omega) (by omega) (fun s f ht => ?_)
  rw [R.j, R.t, ewt, ewh, ← hw6, ← hW, ← hfav]
  obtain ⟨okv, etv⟩ := R.okA.back (s := s) (fun c h1 h2 h3 => f c h3 (by omega) (by omega)) (fun k hk => by
    have h1 := hk.1
    have h2 := hk.2
    exact ht k ⟨h1, by omega⟩)
  have s1 := f 1 (by omega) (by omega) (by omega)
  have s32 := f 32 (by omega) (by omega) (by omega)
  refine L_all okv.1 (by rw [s32]; exact fun k hk => (hw k hk).2) ?_
  rw [s32, c_br_congr s1, s1, ewh, ← hw6, ← hall]
  exact L_leastTerm ⟨by constructor <;> omega, by omega⟩ ⟨by omega, by constructor <;> omega⟩ i3 (ref (fun z => absurd (by omega) z) (fun _ t bT et => ⟨rfl, R.drawn ⟨fun c h1 h2 _ h4 => f c h1 h4 (by omega), by rw [f 23 (by omega) (by omega) (by omega)]⟩ bT okv (by rw [etv, et, R.t])⟩))
