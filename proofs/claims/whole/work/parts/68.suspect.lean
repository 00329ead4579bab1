/-! ===== suspects ===== -/
noncomputable def q_s1 (E : Int → Int → Prop) (p i : Int) : Nat → Int → Int × Int → Int × Int
  | 0, _, st => st
  | m + 1, d, st => q_s1 E p i m (d + 1) (if (Classical.propDecidable (E i d)).decide then (st.1 + 1, if st.1 = p then 10 * i + d + 3 else st.2) else st)
noncomputable def q_s2 (E : Int → Int → Prop) (p : Int) : Nat → Int → Int × Int → Int × Int
  | 0, _, st => st
  | m + 1, i, st => q_s2 E p m (i + 1) (q_s1 E p i 7 (-3) st)
theorem q_s1_yes {E : Int → Int → Prop} {p i : Int} {m : Nat} {d : Int} {st : Int × Int} (h : E i d) : q_s1 E p i (m + 1) d st = q_s1 E p i m (d + 1) (st.1 + 1, if st.1 = p then 10 * i + d + 3 else st.2) := by
  show q_s1 E p i m (d + 1) (if _ then _ else _) = _
  rw [if_pos (by simpa using h)]
theorem q_s1_no {E : Int → Int → Prop} {p i : Int} {m : Nat} {d : Int} {st : Int × Int} (h : ¬ E i d) : q_s1 E p i (m + 1) d st = q_s1 E p i m (d + 1) st := by
  show q_s1 E p i m (d + 1) (if _ then _ else _) = _
  rw [if_neg (by simpa using h)]
theorem q_s1_past {E : Int → Int → Prop} {p i : Int} : ∀ (m : Nat) (d : Int) (st : Int × Int), p < st.1 → p < (q_s1 E p i m d st).1 ∧ (q_s1 E p i m d st).2 = st.2
  | 0, d, st, h => ⟨h, rfl⟩
  | m + 1, d, st, h => by
    by_cases w : E i d
    · rw [q_s1_yes w]
      have := q_s1_past (E := E) (i := i) m (d + 1) (st.1 + 1, if st.1 = p then 10 * i + d + 3 else st.2) (show p < st.1 + 1 by omega)
      refine ⟨this.1, this.2.trans ?_⟩
      show (if st.1 = p then 10 * i + d + 3 else st.2) = st.2
      rw [if_neg (by omega)]
    · rw [q_s1_no w]
      exact q_s1_past m (d + 1) st h
theorem q_s2_past {E : Int → Int → Prop} {p : Int} : ∀ (m : Nat) (i : Int) (st : Int × Int), p < st.1 → (q_s2 E p m i st).2 = st.2
  | 0, i, st, h => rfl
  | m + 1, i, st, h => by
    have a := q_s1_past (E := E) (i := i) 7 (-3) st h
    exact (q_s2_past m (i + 1) _ a.1).trans a.2
theorem q_s1_cnt {E : Int → Int → Prop} {p i : Int} : ∀ (m : Nat) (d : Int) (st : Int × Int), st.1 ≤ (q_s1 E p i m d st).1 ∧ (q_s1 E p i m d st).1 ≤ st.1 + m
  | 0, d, st => ⟨Int.le_refl _, by show st.1 ≤ st.1 + ((0 : Nat) : Int); omega⟩
  | m + 1, d, st => by
    by_cases w : E i d
    · rw [q_s1_yes w]
      have := q_s1_cnt (E := E) (p := p) (i := i) m (d + 1) (st.1 + 1, if st.1 = p then 10 * i + d + 3 else st.2)
      have a : (st.1 + 1, if st.1 = p then 10 * i + d + 3 else st.2).1 = st.1 + 1 := rfl
      rw [a] at this
      omega
    · rw [q_s1_no w]
      have := q_s1_cnt (E := E) (p := p) (i := i) m (d + 1) st
      omega
/-- another turn of d at bolt i explains the readings -/
def q_expl (j : JT) (tu on lo hi : Int → Int) (i d : Int) : Prop := d ≠ 0 ∧ j.2.2.2.2.2 i = 0 ∧ (0 ≤ tu i + d ∧ tu i + d ≤ 200) ∧ q_fits j (q_set tu i (tu i + d)) on lo hi
