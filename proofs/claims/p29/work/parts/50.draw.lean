/-- a joint: how many bolts, the rib, stiffness, pads, loads, what is broken -/
abbrev JT : Type := Int × Int × (Int → Int) × (Int → Int) × (Int → Int) × (Int → Int)
def q_nrm (n : Int) (f : Int → Int) (k : Int) : Int := if 0 ≤ k ∧ k < n then f k else 0
theorem q_nrm_in {n k : Int} {f : Int → Int} (h : q_in n k) : q_nrm n f k = f k := if_pos h
theorem q_nrm_congr {n : Int} {f g : Int → Int} (h : ∀ k, q_in n k → f k = g k) : q_nrm n f = q_nrm n g := by
  funext k
  unfold q_nrm
  by_cases w : 0 ≤ k ∧ k < n
  · rw [if_pos w, if_pos w]
    exact h k w
  · rw [if_neg w, if_neg w]
def jA (σ : Mem) (a : Nat) : JT := (σ 1 0, σ 1 1, q_nrm (σ 1 0) (σ 2), q_nrm (σ 1 0) (σ 3), q_nrm (σ 1 0) (σ a), q_nrm (σ 1 0) (c_br σ))
def tA (σ : Mem) : Int → Int := q_nrm (σ 1 0) (σ 4)
def jB (τ : Mem) : JT := (τ 0 0, τ 0 1, q_nrm (τ 0 0) (τ 1), q_nrm (τ 0 0) (τ 2), q_nrm (τ 0 0) (τ 4), q_nrm (τ 0 0) (τ 5))
def tB (τ : Mem) : Int → Int := q_nrm (τ 0 0) (τ 3)
def q_okJ (j : JT) (tu : Int → Int) : Prop := q_ok j.1 j.2.1 j.2.2.1 j.2.2.2.1 tu j.2.2.2.2.1 j.2.2.2.2.2
def q_isL (j : JT) (tu u : Int → Int) (D : Int) : Prop := q_IsL j.1 j.2.1 j.2.2.1 j.2.2.2.1 tu j.2.2.2.2.1 j.2.2.2.2.2 u D
def q_set (tu : Int → Int) (h x : Int) (k : Int) : Int := if k = h then x else tu k
theorem JA.okJ {σ : Mem} {a : Nat} (h : JA σ a) : q_okJ (jA σ a) (tA σ) := q_ok_congr (fun k hk => ⟨(q_nrm_in hk).symm, (q_nrm_in hk).symm, (q_nrm_in hk).symm, (q_nrm_in hk).symm, (q_nrm_in hk).symm⟩) h.1
theorem q_okJ_set {j : JT} {tu : Int → Int} (ok : q_okJ j tu) {h x : Int} (hx : 0 ≤ x ∧ x ≤ 201) : q_okJ j (q_set tu h x) := by
  refine ⟨ok.1, ok.2.1, fun k hk => ?_, ok.2.2.2⟩
  have := ok.2.2.1 k hk
  refine ⟨this.1, this.2.1, ?_, this.2.2.2⟩
  unfold q_set
  split <;> omega
theorem Rel.j {σ τ : Mem} (R : Rel σ τ) : jA σ 5 = jB τ := by
  obtain ⟨h0, h1, h2, -⟩ := R.1
  unfold jA jB
  rw [← h0, ← h1, q_nrm_congr (fun k hk => (h2 k hk).1), q_nrm_congr (fun k hk => (h2 k hk).2.1), q_nrm_congr (fun k hk => (h2 k hk).2.2.2.1), q_nrm_congr (fun k hk => (h2 k hk).2.2.2.2)]
/-- bolt h, turned to x, pulls t or more -/
def q_hasJ (j : JT) (tu : Int → Int) (h t x : Int) : Prop := ∃ u D, q_isL j (q_set tu h x) u D ∧ t * D ≤ q_pull (j.2.2.1 h) (x * D - u h)
theorem q_hasJ_iff {j : JT} {tu : Int → Int} (ok : q_okJ j tu) {h t x : Int} (hh : q_in j.1 h) (hx : 0 ≤ x ∧ x ≤ 201) {u : Int → Int} {D : Int} (hu : q_isL j (q_set tu h x) u D) : q_hasJ j tu h t x ↔ t * D ≤ q_pull (j.2.2.1 h) (x * D - u h) := by
  refine ⟨fun ⟨v, E, hv, hq⟩ => ?_, fun q => ⟨u, D, hu, q⟩⟩
  have e := q_uniq (q_okJ_set ok hx) hu hv h hh
  have hD := hu.1
  have hE := hv.1
  have key : E * q_pull (j.2.2.1 h) (x * D - u h) = D * q_pull (j.2.2.1 h) (x * E - v h) := by
    rw [← q_pull_mul hE, ← q_pull_mul hD]
    congr 1
    rw [Int.mul_sub, Int.mul_sub, e]
    grind
  rw [Int.mul_comm t D]
  rw [Int.mul_comm t E] at hq
  exact (q_likele hD hE key).mpr hq
theorem q_isL_ex {j : JT} {tu : Int → Int} (ok : q_okJ j tu) : ∃ u D, q_isL j tu u D := q_IsL_ex ok
/-- either the bolt stands alone and always pulls enough, or it does from some turn on -/
theorem q_hasJ_lin {j : JT} {tu : Int → Int} (ok : q_okJ j tu) {h t : Int} (hh : q_in j.1 h) (hb : j.2.2.2.2.2 h = 0) (ht : 1 ≤ t) {z : Int → Int} {E : Int} (held : q_IsG j.1 j.2.1 j.2.2.1 j.2.2.2.1 tu j.2.2.2.2.1 j.2.2.2.2.2 h (t * E) z E)
    (hs : (∃ k, q_in j.1 k ∧ k ≠ h ∧ j.2.2.2.2.2 k = 0) ∨ q_sum j.2.2.2.2.1 j.1.toNat < t) {x : Int} (hx : 0 ≤ x ∧ x ≤ 201) : q_hasJ j tu h t x ↔ j.2.2.1 h * z h + t * E ≤ x * (j.2.2.1 h * E) := by
  obtain ⟨u, D, hu⟩ := q_isL_ex (q_okJ_set ok (h := h) hx)
  rw [q_hasJ_iff ok hh hx hu]
  exact q_draw ok hh hb ht hu held hs
theorem q_hasJ_alone {j : JT} {tu : Int → Int} (ok : q_okJ j tu) {h t : Int} (hh : q_in j.1 h) (hb : j.2.2.2.2.2 h = 0) (hno : ∀ k, q_in j.1 k → k ≠ h → j.2.2.2.2.2 k ≠ 0) (hs : t ≤ q_sum j.2.2.2.2.1 j.1.toNat) {x : Int} (hx : 0 ≤ x ∧ x ≤ 201) : q_hasJ j tu h t x := by
  obtain ⟨u, D, hu⟩ := q_isL_ex (q_okJ_set ok (h := h) hx)
  rw [q_hasJ_iff ok hh hx hu]
  have a := q_alone (q_okJ_set ok (h := h) hx) hh hb hno hu
  unfold q_set at a
  rw [if_pos rfl] at a
  have b := Int.mul_le_mul_of_nonneg_right hs (Int.le_of_lt hu.1)
  omega
/-- the first of m numbers from a on of which p is so, less a; -1 if none is -/
noncomputable def q_srch (p : Int → Prop) (a : Int) : Nat → Int
  | 0 => -1
  | m + 1 => if Classical.propDecidable (p a) |>.decide then 0 else if q_srch p (a + 1) m < 0 then -1 else q_srch p (a + 1) m + 1
theorem q_srch_at {p : Int → Prop} : ∀ (m : Nat) (a r : Int), 0 ≤ r → r < m → p (a + r) → (∀ i, 0 ≤ i → i < r → ¬ p (a + i)) → q_srch p a m = r
  | 0, a, r, h0, h1, _, _ => absurd h1 (by omega)
  | m + 1, a, r, h0, h1, hp, hn => by
    unfold q_srch
    by_cases w : r = 0
    · have : p a := by
        rw [w, Int.add_zero] at hp
        exact hp
      rw [if_pos (by simpa using this), w]
    · have na : ¬ p a := by
        have := hn 0 (by omega) (by omega)
        rw [Int.add_zero] at this
        exact this
      rw [if_neg (by simpa using na), q_srch_at m (a + 1) (r - 1) (by omega) (by omega) (by rw [show a + 1 + (r - 1) = a + r by omega]; exact hp) (fun i i0 i1 => by
        rw [show a + 1 + i = a + (i + 1) by omega]
        exact hn (i + 1) (by omega) (by omega)), if_neg (by omega)]
      omega
theorem q_srch_no {p : Int → Prop} : ∀ (m : Nat) (a : Int), (∀ i : Int, 0 ≤ i → i < m → ¬ p (a + i)) → q_srch p a m = -1
  | 0, a, _ => rfl
  | m + 1, a, hn => by
    unfold q_srch
    have na : ¬ p a := by
      have := hn 0 (by omega) (by omega)
      rw [Int.add_zero] at this
      exact this
    rw [if_neg (by simpa using na), q_srch_no m (a + 1) (fun i i0 i1 => by
      rw [show a + 1 + i = a + (i + 1) by omega]
      exact hn (i + 1) (by omega) (by omega)), if_pos (by omega)]
theorem q_srch_bd {p : Int → Prop} : ∀ (m : Nat) (a : Int), q_srch p a m = -1 ∨ (0 ≤ q_srch p a m ∧ q_srch p a m < m)
  | 0, a => Or.inl rfl
  | m + 1, a => by
    unfold q_srch
    have := q_srch_bd (p := p) m (a + 1)
    split
    · omega
    · split <;> omega
/-- how far bolt h is drawn to pull t; -1 if 200 turns don't do -/
noncomputable def q_drw (j : JT) (tu : Int → Int) (h t : Int) : Int := q_srch (q_hasJ j tu h t) (tu h) (201 - tu h).toNat
noncomputable def q_drT (j : JT) (tu : Int → Int) (h t : Int) : Int → Int := if q_drw j tu h t < 0 then tu else q_set tu h (tu h + q_drw j tu h t)
