/-! ===== read: the text, apart from any machine ===== -/
def q_run (p : Int → Bool) : Nat → Int → Int
  | 0, i => i
  | m + 1, i => if p i = true then q_run p m (i + 1) else i
/-- the first byte from i on that p doesn't hold of, or the end -/
def q_end (p : Int → Bool) (len i : Int) : Int := q_run p (len - i).toNat i
theorem q_end_out {p : Int → Bool} {len i : Int} (h : len ≤ i) : q_end p len i = i := by
  unfold q_end
  rw [show (len - i).toNat = 0 by omega]
  rfl
theorem q_end_no {p : Int → Bool} {len i : Int} (h : p i = false) : q_end p len i = i := by
  unfold q_end
  cases (len - i).toNat with
  | zero => rfl
  | succ m =>
    unfold q_run
    rw [h]
    rfl
theorem q_end_go {p : Int → Bool} {len i : Int} (hl : i < len) (h : p i = true) : q_end p len i = q_end p len (i + 1) := by
  unfold q_end
  rw [show (len - i).toNat = (len - (i + 1)).toNat + 1 by omega, q_run, if_pos h]
theorem q_run_bd (p : Int → Bool) : ∀ (m : Nat) (i : Int), i ≤ q_run p m i ∧ q_run p m i ≤ i + m
  | 0, i => ⟨Int.le_refl _, by show i ≤ i + ((0 : Nat) : Int); omega⟩
  | m + 1, i => by
    unfold q_run
    split
    · have := q_run_bd p m (i + 1)
      omega
    · omega
theorem q_end_bd {p : Int → Bool} {len i : Int} : i ≤ q_end p len i ∧ (i ≤ len → q_end p len i ≤ len) := by
  have := q_run_bd p (len - i).toNat i
  unfold q_end
  omega
theorem q_run_stop (p : Int → Bool) : ∀ (m : Nat) (i : Int), q_run p m i = i + m ∨ p (q_run p m i) = false
  | 0, i => Or.inl (by show i = i + ((0 : Nat) : Int); omega)
  | m + 1, i => by
    unfold q_run
    split
    · rcases q_run_stop p m (i + 1) with q | q
      · exact Or.inl (by omega)
      · exact Or.inr q
    · rename_i h
      exact Or.inr (by simpa using h)
theorem q_end_stop {p : Int → Bool} {len i : Int} : len ≤ q_end p len i ∨ p (q_end p len i) = false := by
  rcases q_run_stop p (len - i).toNat i with q | q
  · left
    unfold q_end
    omega
  · exact Or.inr q
/-- once more from where it ended -/
theorem q_end_end {p : Int → Bool} {len i : Int} : q_end p len (q_end p len i) = q_end p len i := by
  rcases q_end_stop (p := p) (len := len) (i := i) with q | q
  · exact q_end_out q
  · exact q_end_no q
def q_sp (T : Int → Int) (k : Int) : Bool := decide (T k = 32)
def q_lt (T : Int → Int) (k : Int) : Bool := decide (97 ≤ T k ∧ T k ≤ 122)
def q_fg (T : Int → Int) (k : Int) : Bool := decide (48 ≤ T k ∧ T k ≤ 57)
theorem q_lt_iff {T : Int → Int} {k : Int} : q_lt T k = true ↔ 97 ≤ T k ∧ T k ≤ 122 := decide_eq_true_iff
theorem q_fg_iff {T : Int → Int} {k : Int} : q_fg T k = true ↔ 48 ≤ T k ∧ T k ≤ 57 := decide_eq_true_iff
theorem q_lt_no {T : Int → Int} {k : Int} (h : ¬ (97 ≤ T k ∧ T k ≤ 122)) : q_lt T k = false := decide_eq_false h
theorem q_fg_no {T : Int → Int} {k : Int} (h : ¬ (48 ≤ T k ∧ T k ≤ 57)) : q_fg T k = false := decide_eq_false h
theorem q_sp_no {T : Int → Int} {k : Int} (h : ¬ T k = 32) : q_sp T k = false := decide_eq_false h
/-- the number that m figures from j on tell -/
def q_val (T : Int → Int) (j : Int) : Nat → Int
  | 0 => 0
  | m + 1 => 10 * q_val T j m + T (j + m) - 48
def q_ws : Nat → List Int
  | 0 => [100, 114, 97, 119]
  | 1 => [112, 97, 115, 115]
  | 2 => [108, 111, 97, 100]
  | 3 => [98, 114, 101, 97, 107]
  | 4 => [109, 101, 110, 100]
  | 5 => [114, 111, 119]
  | 6 => [116, 111]
  | _ => [98, 121]
def q_isw (T : Int → Int) (j e : Int) (ws : List Int) : Bool := decide (e - j = ws.length ∧ ∀ i, i < ws.length → T (j + (i : Nat)) = ws.getD i 0)
theorem q_isw_iff {T : Int → Int} {j e : Int} {ws : List Int} : q_isw T j e ws = true ↔ (e - j = ws.length ∧ ∀ i, i < ws.length → T (j + (i : Nat)) = ws.getD i 0) := decide_eq_true_iff
def q_kd (T : Int → Int) (j e : Int) : Int := if q_isw T j e (q_ws 0) = true then 0 else if q_isw T j e (q_ws 1) = true then 1 else if q_isw T j e (q_ws 2) = true then 2 else if q_isw T j e (q_ws 3) = true then 3 else if q_isw T j e (q_ws 4) = true then 4 else if q_isw T j e (q_ws 5) = true then 5 else if q_isw T j e (q_ws 6) = true then 6 else if q_isw T j e (q_ws 7) = true then 7 else 11
theorem q_kd_bd (T : Int → Int) (j e : Int) : (0 ≤ q_kd T j e ∧ q_kd T j e ≤ 7) ∨ q_kd T j e = 11 := by
  unfold q_kd
  repeat' split
  all_goals omega
theorem q_kd_no {T : Int → Int} {j : Int} : q_kd T j j = 11 := by
  have h : ∀ w, q_isw T j j (q_ws w) = false := fun w => by
    refine decide_eq_false (fun z => ?_)
    have := z.1
    rcases (show w = 0 ∨ w = 1 ∨ w = 2 ∨ w = 3 ∨ w = 4 ∨ w = 5 ∨ w = 6 ∨ 7 ≤ w by omega) with q | q | q | q | q | q | q | q
    all_goals try (subst q; simp [q_ws] at this)
    unfold q_ws at this
    split at this <;> first | omega | simp at this
  unfold q_kd
  simp [h]
theorem q_kd_to {T : Int → Int} {j e : Int} : q_kd T j e = 6 ↔ q_isw T j e (q_ws 6) = true := by
  constructor
  · intro h
    unfold q_kd at h
    repeat' split at h
    all_goals first | assumption | omega
  · intro h
    have h2 := (q_isw_iff.mp h).1
    have z : ∀ w, w < 6 → q_isw T j e (q_ws w) = false := fun w hw => by
      refine decide_eq_false (fun z => ?_)
      have := z.1
      rcases (show w = 0 ∨ w = 1 ∨ w = 2 ∨ w = 3 ∨ w = 4 ∨ w = 5 by omega) with q | q | q | q | q | q <;> (subst q; simp [q_ws] at this h2; omega)
    unfold q_kd
    simp [z, h]
theorem q_kd_by {T : Int → Int} {j e : Int} : q_kd T j e = 7 ↔ q_isw T j e (q_ws 7) = true := by
  constructor
  · intro h
    unfold q_kd at h
    repeat' split at h
    all_goals first | assumption | omega
  · intro h
    have h2 := (q_isw_iff.mp h).1
    have h3 := (q_isw_iff.mp h).2 0 (by decide)
    have z : ∀ w, w < 6 → q_isw T j e (q_ws w) = false := fun w hw => by
      refine decide_eq_false (fun z => ?_)
      have := z.1
      rcases (show w = 0 ∨ w = 1 ∨ w = 2 ∨ w = 3 ∨ w = 4 ∨ w = 5 by omega) with q | q | q | q | q | q <;> (subst q; simp [q_ws] at this h2; omega)
    have z6 : q_isw T j e (q_ws 6) = false := by
      refine decide_eq_false (fun z => ?_)
      have h4 := z.2 0 (by decide)
      rw [h3] at h4
      exact absurd h4 (by decide)
    unfold q_kd
    simp [z, z6, h]
/-- a number from i on that lies from lo to hi: flaw, where, the number, where it ends -/
def q_nf (T : Int → Int) (len lo hi i : Int) : Int × Int × Int × Int := if ¬ (q_end (q_sp T) len i < len ∧ 48 ≤ T (q_end (q_sp T) len i) ∧ T (q_end (q_sp T) len i) ≤ 57) then (1, q_end (q_sp T) len i, 0, 0) else if 4 ≤ q_end (q_fg T) len (q_end (q_sp T) len i) - q_end (q_sp T) len i ∨ ¬ (lo ≤ q_val T (q_end (q_sp T) len i) (q_end (q_fg T) len (q_end (q_sp T) len i) - q_end (q_sp T) len i).toNat ∧ q_val T (q_end (q_sp T) len i) (q_end (q_fg T) len (q_end (q_sp T) len i) - q_end (q_sp T) len i).toNat ≤ hi) then (2, q_end (q_sp T) len i, 0, 0) else (0, q_end (q_sp T) len i, q_val T (q_end (q_sp T) len i) (q_end (q_fg T) len (q_end (q_sp T) len i) - q_end (q_sp T) len i).toNat, q_end (q_fg T) len (q_end (q_sp T) len i))
/-- what a clause comes to: flaw, where, kind, first, second, where it ends -/
abbrev QO : Type := Int × Int × Int × Int × Int × Int
def q_st (T : Int → Int) (len k a b i : Int) : QO := if q_end (q_sp T) len i < len ∧ T (q_end (q_sp T) len i) = 59 then (0, 0, k, a, b, q_end (q_sp T) len i + 1) else (1, q_end (q_sp T) len i, 0, 0, 0, 0)
def q_to (T : Int → Int) (len : Int) (w : Nat) (i : Int) : Int × Int × Int := if q_isw T (q_end (q_sp T) len i) (q_end (q_lt T) len (q_end (q_sp T) len i)) (q_ws w) = true then (0, q_end (q_sp T) len i, q_end (q_lt T) len (q_end (q_sp T) len i)) else (1, q_end (q_sp T) len i, 0)
def q_sc (T : Int → Int) (len k a lo hi : Int) (w : Nat) (i : Int) : QO := if ¬ (q_to T len w i).1 = 0 then ((q_to T len w i).1, (q_to T len w i).2.1, 0, 0, 0, 0) else if ¬ (q_nf T len lo hi (q_to T len w i).2.2).1 = 0 then ((q_nf T len lo hi (q_to T len w i).2.2).1, (q_nf T len lo hi (q_to T len w i).2.2).2.1, 0, 0, 0, 0) else q_st T len k a (q_nf T len lo hi (q_to T len w i).2.2).2.2.1 (q_nf T len lo hi (q_to T len w i).2.2).2.2.2
def q_rr (T : Int → Int) (len n : Int) : Nat → Int → Int → Int → QO
  | 0, _, _, _ => (9, 0, 0, 0, 0, 0)
  | m + 1, seen, fig, i => if ¬ (q_nf T len 0 (n - 1) i).1 = 0 then ((q_nf T len 0 (n - 1) i).1, (q_nf T len 0 (n - 1) i).2.1, 0, 0, 0, 0) else if q_bit seen (q_nf T len 0 (n - 1) i).2.2.1 = true then (3, (q_nf T len 0 (n - 1) i).2.1, 0, 0, 0, 0) else if q_end (q_sp T) len (q_nf T len 0 (n - 1) i).2.2.2 < len ∧ 48 ≤ T (q_end (q_sp T) len (q_nf T len 0 (n - 1) i).2.2.2) ∧ T (q_end (q_sp T) len (q_nf T len 0 (n - 1) i).2.2.2) ≤ 57 then q_rr T len n m (orI seen (shlI 1 (q_nf T len 0 (n - 1) i).2.2.1)) (10 * fig + (q_nf T len 0 (n - 1) i).2.2.1) (q_nf T len 0 (n - 1) i).2.2.2 else if q_end (q_sp T) len (q_nf T len 0 (n - 1) i).2.2.2 < len ∧ T (q_end (q_sp T) len (q_nf T len 0 (n - 1) i).2.2.2) = 59 then (if orI seen (shlI 1 (q_nf T len 0 (n - 1) i).2.2.1) = shlI 1 n - 1 then (0, 0, 5, 10 * fig + (q_nf T len 0 (n - 1) i).2.2.1, 0, q_end (q_sp T) len (q_nf T len 0 (n - 1) i).2.2.2 + 1) else (4, q_end (q_sp T) len (q_nf T len 0 (n - 1) i).2.2.2, 0, 0, 0, 0)) else (1, q_end (q_sp T) len (q_nf T len 0 (n - 1) i).2.2.2, 0, 0, 0, 0)
def q_af (T : Int → Int) (len k n : Int) (f : Int × Int × Int × Int) : QO := if ¬ f.1 = 0 then (f.1, f.2.1, 0, 0, 0, 0) else if k = 0 then q_sc T len 0 f.2.2.1 1 900 6 f.2.2.2 else if k = 2 then q_sc T len 2 f.2.2.1 0 200 7 f.2.2.2 else q_st T len k f.2.2.1 0 f.2.2.2
/-- the clause that begins at j, the cth -/
def q_cl (T : Int → Int) (len n c j : Int) : QO := if 5 < q_kd T j (q_end (q_lt T) len j) then (1, j, 0, 0, 0, 0) else if c = 12 then (5, j, 0, 0, 0, 0) else if q_kd T j (q_end (q_lt T) len j) = 5 then q_rr T len n (n.toNat + 1) 0 0 (q_end (q_lt T) len j) else if q_kd T j (q_end (q_lt T) len j) = 1 then q_af T len 1 n (q_nf T len 1 900 (q_end (q_lt T) len j)) else q_af T len (q_kd T j (q_end (q_lt T) len j)) n (q_nf T len 0 (n - 1) (q_end (q_lt T) len j))
