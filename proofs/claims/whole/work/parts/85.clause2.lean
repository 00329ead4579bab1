/-! ===== read: the class understands ===== -/
theorem L_two {T : Int → Int} {len c k a lo hi : Int} {w : Nat} (hw : w = 6 ∨ w = 7) {s0 s : Mem} (tx : TxA T len s) (hp : 0 ≤ s 37 8 ∧ s 37 8 ≤ len) (h3 : s 37 3 = c) (hc : 0 ≤ c ∧ c < 12) (hh : 0 ≤ lo ∧ lo ≤ 900 ∧ 0 ≤ hi ∧ hi ≤ 900) (f0 : FrY c s0 s) {Q : Int → Mem → Prop} (h1 : ¬ (q_sc T len k a lo hi w (s 37 8)).1 = 0 → ∀ s' : Mem, FrZ c s0 s' → s' 37 1 = (q_sc T len k a lo hi w (s 37 8)).1 → s' 37 2 = (q_sc T len k a lo hi w (s 37 8)).2.1 → Q 0 s') (h0 : (q_sc T len k a lo hi w (s 37 8)).1 = 0 → ∀ s' : Mem, FrY c s0 s' → s' 37 8 = (q_sc T len k a lo hi w (s 37 8)).2.2.2.2.2 → s' 38 = s 38 → s' 39 = s 39 → s' 40 c = (q_sc T len k a lo hi w (s 37 8)).2.2.2.2.1 → (q_sc T len k a lo hi w (s 37 8)).2.2.1 = k → (q_sc T len k a lo hi w (s 37 8)).2.2.2.1 = a → Q 1 s') : x5_take (w : Int) s (fun r6 s5 => InI r6 ∧ (r6 = (0 : Int) → ((0 : Int) ≤ (0 : Int) ∧ (0 : Int) ≤ 1) ∧ Q (0 : Int) s5) ∧ (¬ r6 = (0 : Int) → x5_takeSecond lo hi s5 (fun r8 s7 => InI r8 ∧ (r8 = (0 : Int) → ((0 : Int) ≤ (0 : Int) ∧ (0 : Int) ≤ 1) ∧ Q (0 : Int) s7) ∧ (¬ r8 = (0 : Int) → x5_take (9 : Int) s7 (fun r10 s9 => InI r10 ∧ (r10 = (0 : Int) → ((0 : Int) ≤ (0 : Int) ∧ (0 : Int) ≤ 1) ∧ Q (0 : Int) s9) ∧ (¬ r10 = (0 : Int) → ((0 : Int) ≤ (1 : Int) ∧ (1 : Int) ≤ 1) ∧ Q (1 : Int) s9)))))) := by
  have tw : ∀ j, q_tok T len j = (w : Int) ↔ q_isw T j (q_end (q_lt T) len j) (q_ws w) = true := fun j => by
    rcases hw with q | q <;> subst q
    · exact q_tok_to
    · exact q_tok_by
  refine L_take tx hp (by constructor <;> omega) (fun q s' f e1 e2 => ⟨by omega, fun _ => ⟨by omega, ?_⟩, fun z => absurd rfl z⟩) (fun q u fu u8 up => ⟨by omega, fun z => absurd z (by omega), fun _ => ?_⟩)
  · have e : q_to T len w (s 37 8) = (1, q_end (q_sp T) len (s 37 8), 0) := if_neg (fun z => q ((tw _).mpr z))
    unfold q_sc at h1
    rw [e] at h1
    rw [if_pos (show ¬ (1 : Int) = 0 by omega)] at h1
    exact h1 (show ¬ (1 : Int) = 0 by omega) s' (f0.z (FrZ.of f)) e1 e2
  · have e : q_to T len w (s 37 8) = (0, q_end (q_sp T) len (s 37 8), u 37 8) := by
      rw [u8, (q_nxt_lt (by rw [q]; omega)).1]
      exact if_pos ((tw _).mp q)
    unfold q_sc at h1 h0
    rw [e] at h1 h0
    rw [if_neg (show ¬ ¬ (0 : Int) = 0 by omega)] at h1 h0
    have fu' : FrY c s0 u := f0.trans (FrY.of fu)
    have u3 : u 37 3 = c := by rw [fu.2 3 (by omega) (by omega) (by omega) (by omega), h3]
    refine L_takeSecond (tx.fr fu) up (by rw [u3]; exact hc) hh (fun z s' f e1 e2 => ⟨by omega, fun _ => ⟨by omega, ?_⟩, fun z => absurd rfl z⟩) (fun z v fv v8 v38 v40 v39 vp => ⟨by omega, fun z => absurd z (by omega), fun _ => ?_⟩)
    · rw [u3] at f
      rw [if_pos z] at h1
      exact h1 z s' (fu'.z f) e1 e2
    · rw [u3] at fv v40
      rw [if_neg (fun y => y z), ← v8] at h1 h0
      have fv' := fu'.trans fv
      have txv := (tx.fr fu).fy fv
      refine L_stop txv vp (k := k) (a := a) (b := (q_nf T len lo hi (u 37 8)).2.2.1) (fun y s' f e1 e2 => ⟨by omega, fun _ => ⟨by omega, h1 y s' (fv'.z (FrZ.of f)) e1 e2⟩, fun z => absurd rfl z⟩) (fun y s' f e8 => ⟨by omega, fun z => absurd z (by omega), fun _ => ⟨by omega, ?_⟩⟩)
      have y' : q_st T len k a (q_nf T len lo hi (u 37 8)).2.2.1 (v 37 8) = (0, 0, k, a, (q_nf T len lo hi (u 37 8)).2.2.1, q_end (q_sp T) len (v 37 8) + 1) := y
      rw [y'] at h0
      refine h0 rfl s' (fv'.trans (FrY.of f)) e8 ?_ ?_ ?_ rfl rfl
      · rw [f.1 38 (by omega), v38, fu.1 38 (by omega)]
      · rw [f.1 39 (by omega), v39, fu.1 39 (by omega)]
      · rw [f.1 40 (by omega)]
        exact v40
theorem L_takeClause {T : Int → Int} {len n : Int} (hn : 3 ≤ n ∧ n ≤ 6) {s : Mem} (tx : TxA T len s) {j : Int} (hj : 0 ≤ j ∧ j < len) (g10 : s 37 10 = j) (g9 : s 37 9 = q_tok T len j) (g8 : s 37 8 = q_nxt T len j) (hc : 0 ≤ s 37 3 ∧ s 37 3 ≤ 12) {Q : Int → Mem → Prop} (h1 : ¬ (q_cl T len n (s 37 3) j).1 = 0 → ∀ s' : Mem, FrZ (s 37 3) s s' → s' 37 1 = (q_cl T len n (s 37 3) j).1 → s' 37 2 = (q_cl T len n (s 37 3) j).2.1 → Q 0 s') (h0 : (q_cl T len n (s 37 3) j).1 = 0 → ¬ s 37 3 = 12 → ∀ s' : Mem, FrY (s 37 3) s s' → s' 37 8 = (q_cl T len n (s 37 3) j).2.2.2.2.2 → s' 38 (s 37 3) = (q_cl T len n (s 37 3) j).2.2.1 → s' 39 (s 37 3) = (q_cl T len n (s 37 3) j).2.2.2.1 → (s' 38 (s 37 3) = 0 ∨ s' 38 (s 37 3) = 2 → s' 40 (s 37 3) = (q_cl T len n (s 37 3) j).2.2.2.2.1) → Q 1 s') : x5_takeClause n s Q := by
  have tb := q_tok_bd T len j
  have kt := q_kd_tok (T := T) hj.2
  have nb := q_nxt_bd (T := T) (show j ≤ len by omega)
  obtain ⟨c, hc0⟩ : ∃ c, c = s 37 3 := ⟨_, rfl⟩
  rw [← hc0] at hc h1 h0
  refine ⟨⟨by rw [g9]; constructor <;> omega, by omega⟩, fun q => ⟨by rw [← hc0]; constructor <;> constructor <;> omega, fun q12 => ⟨by omega, fun s1 e1 => ?_⟩, fun q12 => L_faulty (fun s' f e1 e2 => ⟨by omega, ?_⟩)⟩, fun q => L_faulty (fun s' f e1 e2 => ⟨by omega, ?_⟩)⟩
  · rw [g9] at q e1
    rw [← hc0] at q12 e1
    obtain ⟨en, -, ek⟩ := q_nxt_lt (T := T) (len := len) (j := j) (by omega)
    rw [en] at g8 nb
    have f1 : FrY c s s1 := FrY.set e1 (by omega)
    have tx1 := tx.fy f1
    have s37 : s1 37 = s 37 := u_nc e1 (by omega)
    have s38 : s1 38 c = q_tok T len j := u_at e1
    have s18 : s1 37 8 = q_end (q_lt T) len j := by rw [s37, g8]
    have s13 : s1 37 3 = c := by rw [s37, hc0]
    have hp : 0 ≤ s1 37 8 ∧ s1 37 8 ≤ len := by omega
    have h0 := fun z => h0 z q12
    unfold q_cl at h1 h0
    rw [if_neg (by omega), if_neg q12, ek, ← s18] at h1 h0
    have ch : 0 ≤ s1 37 3 ∧ s1 37 3 < 12 := by omega
    -- the kinds with one number or two
    have two : ∀ (k : Int) (w : Nat) (lo hi : Int), (k = 0 ∧ w = 6 ∧ lo = 1 ∧ hi = 900 ∨ k = 2 ∧ w = 7 ∧ lo = 0 ∧ hi = 200) → q_tok T len j = k → x5_takeFirst 0 (n - 1) s1 (fun r4 s3 => InI r4 ∧ (r4 = (0 : Int) → ((0 : Int) ≤ (0 : Int) ∧ (0 : Int) ≤ 1) ∧ Q (0 : Int) s3) ∧ (¬ r4 = (0 : Int) → x5_take (w : Int) s3 (fun r6 s5 => InI r6 ∧ (r6 = (0 : Int) → ((0 : Int) ≤ (0 : Int) ∧ (0 : Int) ≤ 1) ∧ Q (0 : Int) s5) ∧ (¬ r6 = (0 : Int) → x5_takeSecond lo hi s5 (fun r8 s7 => InI r8 ∧ (r8 = (0 : Int) → ((0 : Int) ≤ (0 : Int) ∧ (0 : Int) ≤ 1) ∧ Q (0 : Int) s7) ∧ (¬ r8 = (0 : Int) → x5_take (9 : Int) s7 (fun r10 s9 => InI r10 ∧ (r10 = (0 : Int) → ((0 : Int) ≤ (0 : Int) ∧ (0 : Int) ≤ 1) ∧ Q (0 : Int) s9) ∧ (¬ r10 = (0 : Int) → ((0 : Int) ≤ (1 : Int) ∧ (1 : Int) ≤ 1) ∧ Q (1 : Int) s9)))))))) := fun k w lo hi hk ht => by
      rw [ht, if_neg (by omega), if_neg (by omega)] at h1 h0
      refine L_takeFirst tx1 hp ch (by omega) (fun z s' f e1 e2 => ⟨by omega, fun _ => ⟨by omega, ?_⟩, fun z => absurd rfl z⟩) (fun z u fu u8 u38 u39 u40 up => ⟨by omega, fun z => absurd z (by omega), fun _ => ?_⟩)
      · unfold q_af at h1
        rw [if_pos z] at h1
        rw [s13] at f
        exact h1 z s' (f1.z f) e1 e2
      · rw [s13] at fu u39
        have eo : q_af T len k n (q_nf T len 0 (n - 1) (s1 37 8)) = q_sc T len k (q_nf T len 0 (n - 1) (s1 37 8)).2.2.1 lo hi w (u 37 8) := by
          unfold q_af
          rw [if_neg (fun y => y z), u8]
          rcases hk with ⟨k1, k2, k3, k4⟩ | ⟨k1, k2, k3, k4⟩
          · rw [if_pos k1, k1, k2, k3, k4]
          · rw [if_neg (by omega), if_pos k1, k1, k2, k3, k4]
        rw [eo] at h1 h0
        have u3 : u 37 3 = c := by rw [fu.2.1 3 (by omega) (by omega) (by omega) (by omega), s13]
        refine L_two (k := k) (a := (q_nf T len 0 (n - 1) (s1 37 8)).2.2.1) (by omega) (tx1.fy fu) up u3 (by omega) (by omega) (f1.trans fu) (fun y s' f e1 e2 => h1 y s' f e1 e2) (fun y s' f e8 e38 e39 e40 ey1 ey2 => h0 y s' f e8 ?_ ?_ (fun _ => e40))
        · rw [e38, u38, s38, ht, ey1]
        · rw [e39, u39, ey2]
    have one : ∀ (k lo hi : Int), (0 ≤ lo ∧ lo ≤ 900 ∧ 0 ≤ hi ∧ hi ≤ 900) → k = 1 ∨ k = 3 ∨ k = 4 → q_tok T len j = k → (if q_tok T len j = 5 then q_rr T len n (n.toNat + 1) 0 0 (s1 37 8) else if q_tok T len j = 1 then q_af T len 1 n (q_nf T len 1 900 (s1 37 8)) else q_af T len (q_tok T len j) n (q_nf T len 0 (n - 1) (s1 37 8))) = q_af T len k n (q_nf T len lo hi (s1 37 8)) → x5_takeFirst lo hi s1 (fun r34 s33 => InI r34 ∧ (r34 = (0 : Int) → ((0 : Int) ≤ (0 : Int) ∧ (0 : Int) ≤ 1) ∧ Q (0 : Int) s33) ∧ (¬ r34 = (0 : Int) → x5_take (9 : Int) s33 (fun r36 s35 => InI r36 ∧ (r36 = (0 : Int) → ((0 : Int) ≤ (0 : Int) ∧ (0 : Int) ≤ 1) ∧ Q (0 : Int) s35) ∧ (¬ r36 = (0 : Int) → ((0 : Int) ≤ (1 : Int) ∧ (1 : Int) ≤ 1) ∧ Q (1 : Int) s35)))) := fun k lo hi hh hk ht eo => by
      rw [eo] at h1 h0
      refine L_takeFirst tx1 hp ch hh (fun z s' f e1 e2 => ⟨by omega, fun _ => ⟨by omega, ?_⟩, fun z => absurd rfl z⟩) (fun z u fu u8 u38 u39 u40 up => ⟨by omega, fun z => absurd z (by omega), fun _ => ?_⟩)
      · unfold q_af at h1
        rw [if_pos z] at h1
        rw [s13] at f
        exact h1 z s' (f1.z f) e1 e2
      · rw [s13] at fu u39
        have eo2 : q_af T len k n (q_nf T len lo hi (s1 37 8)) = q_st T len k (q_nf T len lo hi (s1 37 8)).2.2.1 0 (u 37 8) := by
          unfold q_af
          rw [if_neg (fun y => y z), u8, if_neg (by omega), if_neg (by omega)]
        rw [eo2] at h1 h0
        refine L_stop (tx1.fy fu) up (k := k) (a := (q_nf T len lo hi (s1 37 8)).2.2.1) (b := 0) (fun y s' f e1 e2 => ⟨by omega, fun _ => ⟨by omega, h1 y s' ((f1.trans fu).z (FrZ.of f)) e1 e2⟩, fun z => absurd rfl z⟩) (fun y s' f e8 => ⟨by omega, fun z => absurd z (by omega), fun _ => ⟨by omega, ?_⟩⟩)
        rw [y] at h0
        have e38 : s' 38 c = k := by rw [f.1 38 (by omega), u38, s38, ht]
        refine h0 rfl s' ((f1.trans fu).trans (FrY.of f)) e8 e38 ?_ (fun z => absurd z (by omega))
        rw [f.1 39 (by omega), u39]
    have k9 : s1 37 9 = q_tok T len j := by rw [s37, g9]
    rw [k9]
    refine ⟨by constructor <;> omega, fun z => two 0 6 1 900 (by omega) z, fun z => one 1 1 900 (by omega) (by omega) z (by rw [if_neg (by omega), if_pos z]), fun z => two 2 7 0 200 (by omega) z, fun z => ?_, fun z => ?_⟩
    · rcases z with z | z
      · exact one 3 0 (n - 1) (by omega) (by omega) z (by rw [if_neg (by omega), if_neg (by omega), z])
      · exact one 4 0 (n - 1) (by omega) (by omega) z (by rw [if_neg (by omega), if_neg (by omega), z])
    · rw [if_pos (by omega)] at h1 h0
      refine L_textRow hn tx1 hp ch (fun y s' f e1 e2 => ⟨by omega, ?_⟩) (fun y s' f e8 e38 e39 e5 => ⟨by omega, ?_⟩)
      · rw [s13] at f
        exact h1 y s' (f1.z f) e1 e2
      · rw [s13] at f e39
        refine h0 y s' (f1.trans f) e8 ?_ e39 (fun w => absurd w ?_)
        · rw [e38, s38, e5]
          omega
        · rw [e38, s38]
          omega
  · rw [← hc0] at q12
    rw [g9] at q
    have e : q_cl T len n c j = (5, j, 0, 0, 0, 0) := by
      unfold q_cl
      rw [if_neg (by omega), if_pos q12]
    rw [e] at h1
    exact h1 (show ¬ (5 : Int) = 0 by omega) s' (FrZ.of f) e1 (by rw [e2, g10])
  · rw [g9] at q
    have e : q_cl T len n c j = (1, j, 0, 0, 0, 0) := by
      unfold q_cl
      rw [if_pos (by omega)]
    rw [e] at h1
    exact h1 (show ¬ (1 : Int) = 0 by omega) s' (FrZ.of f) e1 (by rw [e2, g10])
/-- where the clauses begin, and what they come to -/
def q_ps (T : Int → Int) (len n : Int) : Nat → Int
  | 0 => q_end (q_sp T) len 0
  | c + 1 => q_end (q_sp T) len (q_cl T len n c (q_ps T len n c)).2.2.2.2.2
def q_C (T : Int → Int) (len n : Int) (c : Nat) : QO := q_cl T len n c (q_ps T len n c)
def q_halt (T : Int → Int) (len n : Int) (N : Nat) : Prop := len ≤ q_ps T len n N ∨ ¬ (q_C T len n N).1 = 0
def q_fst (T : Int → Int) (len n : Int) (N : Nat) : Prop := q_halt T len n N ∧ ∀ i, i < N → ¬ q_halt T len n i
theorem q_fst_un {T : Int → Int} {len n : Int} {M N : Nat} (hM : q_fst T len n M) (hN : q_fst T len n N) : M = N := by
  rcases Nat.lt_trichotomy M N with q | q | q
  · exact absurd hM.1 (hN.2 M q)
  · exact q
  · exact absurd hN.1 (hM.2 N q)
theorem q_nf_end {T : Int → Int} {len lo hi i : Int} (hil : i ≤ len) (h : (q_nf T len lo hi i).1 = 0) : i ≤ (q_nf T len lo hi i).2.2.2 ∧ (q_nf T len lo hi i).2.2.2 ≤ len ∧ lo ≤ (q_nf T len lo hi i).2.2.1 ∧ (q_nf T len lo hi i).2.2.1 ≤ hi := by
  have a := q_end_bd (p := q_sp T) (len := len) (i := i)
  have b := q_end_bd (p := q_fg T) (len := len) (i := q_end (q_sp T) len i)
  unfold q_nf at h ⊢
  split at h
  · exact absurd h (show ¬ (1 : Int) = 0 by omega)
  · rename_i h1
    rw [if_neg h1]
    split at h
    · exact absurd h (show ¬ (2 : Int) = 0 by omega)
    · rename_i h2
      rw [if_neg h2]
      refine ⟨?_, ?_, ?_⟩
      · show i ≤ q_end (q_fg T) len (q_end (q_sp T) len i)
        omega
      · show q_end (q_fg T) len (q_end (q_sp T) len i) ≤ len
        omega
      · exact Classical.byContradiction (fun z => h2 (Or.inr z))
theorem q_st_end {T : Int → Int} {len k a b i : Int} (hi : i ≤ len) (h : (q_st T len k a b i).1 = 0) : i ≤ (q_st T len k a b i).2.2.2.2.2 ∧ (q_st T len k a b i).2.2.2.2.2 ≤ len ∧ (q_st T len k a b i).2.2.1 = k ∧ (q_st T len k a b i).2.2.2.1 = a ∧ (q_st T len k a b i).2.2.2.2.1 = b := by
  have a := q_end_bd (p := q_sp T) (len := len) (i := i)
  unfold q_st at h ⊢
  split at h
  · rename_i h1
    rw [if_pos h1]
    refine ⟨?_, ?_, rfl, rfl, rfl⟩
    · show i ≤ q_end (q_sp T) len i + 1
      omega
    · show q_end (q_sp T) len i + 1 ≤ len
      omega
  · exact absurd h (show ¬ (1 : Int) = 0 by omega)
/-- what a sound clause asks lies within bounds -/
def q_okc (n k a b : Int) : Prop := (k = 0 ∧ q_in n a ∧ 1 ≤ b ∧ b ≤ 900) ∨ (k = 1 ∧ 1 ≤ a ∧ a ≤ 900) ∨ (k = 2 ∧ q_in n a ∧ 0 ≤ b ∧ b ≤ 200) ∨ ((k = 3 ∨ k = 4) ∧ q_in n a) ∨ (k = 5 ∧ 0 ≤ a ∧ a ≤ 99999999)
theorem q_sc_ok {T : Int → Int} {len k a lo hi i : Int} {w : Nat} (hil : i ≤ len) (h : (q_sc T len k a lo hi w i).1 = 0) : i ≤ (q_sc T len k a lo hi w i).2.2.2.2.2 ∧ (q_sc T len k a lo hi w i).2.2.2.2.2 ≤ len ∧ (q_sc T len k a lo hi w i).2.2.1 = k ∧ (q_sc T len k a lo hi w i).2.2.2.1 = a ∧ lo ≤ (q_sc T len k a lo hi w i).2.2.2.2.1 ∧ (q_sc T len k a lo hi w i).2.2.2.2.1 ≤ hi := by
  have e1 := q_end_bd (p := q_sp T) (len := len) (i := i)
  have e2 := q_end_bd (p := q_lt T) (len := len) (i := q_end (q_sp T) len i)
  by_cases z : (q_to T len w i).1 = 0
  · have hb : i ≤ (q_to T len w i).2.2 ∧ (q_to T len w i).2.2 ≤ len := by
      unfold q_to at z ⊢
      split at z
      · rename_i y
        rw [if_pos y]
        refine ⟨?_, ?_⟩
        · show i ≤ q_end (q_lt T) len (q_end (q_sp T) len i)
          omega
        · show q_end (q_lt T) len (q_end (q_sp T) len i) ≤ len
          omega
      · exact absurd z (show ¬ (1 : Int) = 0 by omega)
    by_cases y : (q_nf T len lo hi (q_to T len w i).2.2).1 = 0
    · have nb := q_nf_end hb.2 y
      have e : q_sc T len k a lo hi w i = q_st T len k a (q_nf T len lo hi (q_to T len w i).2.2).2.2.1 (q_nf T len lo hi (q_to T len w i).2.2).2.2.2 := by
        unfold q_sc
        rw [if_neg (fun x => x z), if_neg (fun x => x y)]
      rw [e] at h ⊢
      have sb := q_st_end nb.2.1 h
      refine ⟨by omega, sb.2.1, sb.2.2.1, sb.2.2.2.1, ?_, ?_⟩
      · rw [sb.2.2.2.2]
        exact nb.2.2.1
      · rw [sb.2.2.2.2]
        exact nb.2.2.2
    · unfold q_sc at h
      rw [if_neg (fun x => x z), if_pos y] at h
      exact absurd h y
  · unfold q_sc at h
    rw [if_pos z] at h
    exact absurd h z
theorem q_rr_ok {T : Int → Int} {len n : Int} (hn : 3 ≤ n ∧ n ≤ 6) : ∀ (m : Nat) (seen fig i : Int), i ≤ len → 0 ≤ fig → (q_rr T len n m seen fig i).1 = 0 → i ≤ (q_rr T len n m seen fig i).2.2.2.2.2 ∧ (q_rr T len n m seen fig i).2.2.2.2.2 ≤ len ∧ (q_rr T len n m seen fig i).2.2.1 = 5 ∧ 0 ≤ (q_rr T len n m seen fig i).2.2.2.1 ∧ (q_rr T len n m seen fig i).2.2.2.1 < 10 ^ m * (fig + 1)
  | 0, seen, fig, i, _, _, h => absurd h (show ¬ (9 : Int) = 0 by omega)
  | m + 1, seen, fig, i, hi, hf, h => by
    unfold q_rr at h ⊢
    by_cases z : (q_nf T len 0 (n - 1) i).1 = 0
    · rw [if_neg (fun x => x z)] at h ⊢
      have nb := q_nf_end hi z
      by_cases y : q_bit seen (q_nf T len 0 (n - 1) i).2.2.1 = true
      · rw [if_pos y] at h
        exact absurd h (show ¬ (3 : Int) = 0 by omega)
      · rw [if_neg y] at h ⊢
        have p : (0 : Int) < 10 ^ m := Int.pow_pos (by omega)
        have pm : (10 : Int) ^ m * (10 * fig + (q_nf T len 0 (n - 1) i).2.2.1 + 1) ≤ 10 ^ (m + 1) * (fig + 1) := by
          rw [Int.pow_succ, Int.mul_assoc]
          exact Int.mul_le_mul_of_nonneg_left (by omega) (by omega)
        split at h
        · rename_i x
          rw [if_pos x]
          have ih := q_rr_ok (T := T) (len := len) hn m _ _ _ nb.2.1 (show 0 ≤ 10 * fig + (q_nf T len 0 (n - 1) i).2.2.1 by omega) h
          exact ⟨by omega, ih.2.1, ih.2.2.1, ih.2.2.2.1, by omega⟩
        · rename_i x
          rw [if_neg x]
          split at h
          · rename_i v
            rw [if_pos v]
            have e1 := q_end_bd (p := q_sp T) (len := len) (i := (q_nf T len 0 (n - 1) i).2.2.2)
            split at h
            · rename_i u
              rw [if_pos u]
              have p1 : 1 * (10 * fig + (q_nf T len 0 (n - 1) i).2.2.1 + 1) ≤ 10 ^ m * (10 * fig + (q_nf T len 0 (n - 1) i).2.2.1 + 1) := Int.mul_le_mul_of_nonneg_right (by omega) (by omega)
              refine ⟨?_, ?_, rfl, ?_, ?_⟩
              · show i ≤ q_end (q_sp T) len (q_nf T len 0 (n - 1) i).2.2.2 + 1
                omega
              · show q_end (q_sp T) len (q_nf T len 0 (n - 1) i).2.2.2 + 1 ≤ len
                omega
              · show 0 ≤ 10 * fig + (q_nf T len 0 (n - 1) i).2.2.1
                omega
              · show 10 * fig + (q_nf T len 0 (n - 1) i).2.2.1 < 10 ^ (m + 1) * (fig + 1)
                omega
            · exact absurd h (show ¬ (4 : Int) = 0 by omega)
          · exact absurd h (show ¬ (1 : Int) = 0 by omega)
    · rw [if_pos z] at h
      exact absurd h z
theorem q_cl_ok {T : Int → Int} {len n c j : Int} (hn : 3 ≤ n ∧ n ≤ 6) (hj : j ≤ len) (h : (q_cl T len n c j).1 = 0) : j ≤ (q_cl T len n c j).2.2.2.2.2 ∧ (q_cl T len n c j).2.2.2.2.2 ≤ len ∧ q_okc n (q_cl T len n c j).2.2.1 (q_cl T len n c j).2.2.2.1 (q_cl T len n c j).2.2.2.2.1 := by
  have e1 := q_end_bd (p := q_lt T) (len := len) (i := j)
  have el := e1.2 hj
  have kb := q_kd_bd T j (q_end (q_lt T) len j)
  have af : ∀ (k lo hi : Int), (k = 1 ∧ lo = 1 ∧ hi = 900) ∨ ((k = 0 ∨ k = 2 ∨ k = 3 ∨ k = 4) ∧ lo = 0 ∧ hi = n - 1) → (q_af T len k n (q_nf T len lo hi (q_end (q_lt T) len j))).1 = 0 → j ≤ (q_af T len k n (q_nf T len lo hi (q_end (q_lt T) len j))).2.2.2.2.2 ∧ (q_af T len k n (q_nf T len lo hi (q_end (q_lt T) len j))).2.2.2.2.2 ≤ len ∧ q_okc n (q_af T len k n (q_nf T len lo hi (q_end (q_lt T) len j))).2.2.1 (q_af T len k n (q_nf T len lo hi (q_end (q_lt T) len j))).2.2.2.1 (q_af T len k n (q_nf T len lo hi (q_end (q_lt T) len j))).2.2.2.2.1 := fun k lo hi hk h => by
    unfold q_af at h ⊢
    by_cases z : (q_nf T len lo hi (q_end (q_lt T) len j)).1 = 0
    · rw [if_neg (fun x => x z)] at h ⊢
      have nb := q_nf_end el z
      have inn : lo = 0 ∧ hi = n - 1 → q_in n (q_nf T len lo hi (q_end (q_lt T) len j)).2.2.1 := fun y => ⟨by omega, by omega⟩
      split at h
      · rename_i k0
        rw [if_pos k0]
        have sb := q_sc_ok nb.2.1 h
        refine ⟨by omega, sb.2.1, ?_⟩
        rw [sb.2.2.1, sb.2.2.2.1]
        exact Or.inl ⟨rfl, inn (by omega), sb.2.2.2.2.1, sb.2.2.2.2.2⟩
      · rename_i k0
        rw [if_neg k0]
        split at h
        · rename_i k2
          rw [if_pos k2]
          have sb := q_sc_ok nb.2.1 h
          refine ⟨by omega, sb.2.1, ?_⟩
          rw [sb.2.2.1, sb.2.2.2.1]
          exact Or.inr (Or.inr (Or.inl ⟨rfl, inn (by omega), sb.2.2.2.2.1, sb.2.2.2.2.2⟩))
        · rename_i k2
          rw [if_neg k2]
          have sb := q_st_end nb.2.1 h
          refine ⟨by omega, sb.2.1, ?_⟩
          rw [sb.2.2.1, sb.2.2.2.1]
          rcases hk with y | y
          · exact Or.inr (Or.inl ⟨y.1, by omega, by omega⟩)
          · exact Or.inr (Or.inr (Or.inr (Or.inl ⟨by omega, inn (by omega)⟩)))
    · rw [if_pos z] at h
      exact absurd h z
  unfold q_cl at h ⊢
  split at h
  · exact absurd h (show ¬ (1 : Int) = 0 by omega)
  · rename_i h1
    rw [if_neg h1]
    split at h
    · exact absurd h (show ¬ (5 : Int) = 0 by omega)
    · rename_i h2
      rw [if_neg h2]
      split at h
      · rename_i h3
        rw [if_pos h3]
        have r := q_rr_ok hn _ _ _ _ el (Int.le_refl 0) h
        refine ⟨by omega, r.2.1, Or.inr (Or.inr (Or.inr (Or.inr ⟨r.2.2.1, r.2.2.2.1, ?_⟩)))⟩
        have p7 : (10 : Int) ^ (n.toNat + 1) ≤ 10000000 := by
          rcases (show n = 3 ∨ n = 4 ∨ n = 5 ∨ n = 6 by omega) with q | q | q | q <;> subst q <;> decide
        have := r.2.2.2.2
        omega
      · rename_i h3
        rw [if_neg h3]
        split at h
        · rename_i h4
          rw [if_pos h4]
          exact af 1 1 900 (Or.inl ⟨rfl, rfl, rfl⟩) h
        · rename_i h4
          rw [if_neg h4]
          exact af _ 0 (n - 1) (Or.inr ⟨by omega, rfl, rfl⟩) h
