def x8_solve_be (X4 : Int → Int → Mem → Prop) (X28 : Int → Int → Int → Int → Mem → Prop) (X60 : Int → Int → Int → Int → Int → Int → Mem → Prop) (X144 : Int → Mem → Prop) (Q : Int → Mem → Prop)  (s : Mem) : Prop :=
  X4 (1 : Int) (0 : Int) s
def x8_solve_b4 (X4 : Int → Int → Mem → Prop) (X28 : Int → Int → Int → Int → Mem → Prop) (X60 : Int → Int → Int → Int → Int → Int → Mem → Prop) (X144 : Int → Mem → Prop) (Q : Int → Mem → Prop) (x1 : Int) (x3 : Int) (s : Mem) : Prop :=
  (InI x3 ∧ InI (s 0 (0 : Int))) ∧ ((s 0 (0 : Int)) ≤ x3 → ∀ s1 : Mem, s1 = m_upd s 0 (15 : Int) x1 → X144 (0 : Int) s1) ∧ (x3 < (s 0 (0 : Int)) → ((0 : Int) ≤ (((7 : Int) * x3) + x3) ∧ (((7 : Int) * x3) + x3) < 42) ∧ ∀ v2 : Int, v2 = (s 13 (((7 : Int) * x3) + x3)) → X28 x1 x3 v2 (0 : Int) s)
def x8_solve_b28 (X4 : Int → Int → Mem → Prop) (X28 : Int → Int → Int → Int → Mem → Prop) (X60 : Int → Int → Int → Int → Int → Int → Mem → Prop) (X144 : Int → Mem → Prop) (Q : Int → Mem → Prop) (x1 : Int) (x3 : Int) (x4 : Int) (x6 : Int) (s : Mem) : Prop :=
  (InI x6 ∧ InI (s 0 (0 : Int))) ∧ ((s 0 (0 : Int)) ≤ x6 → X4 x4 (x3 + (1 : Int)) s) ∧ (x6 < (s 0 (0 : Int)) → (InI x6 ∧ InI x3) ∧ (x6 = x3 → X28 x1 x3 x4 (x6 + (1 : Int)) s) ∧ (¬ x6 = x3 → ((0 : Int) ≤ (((7 : Int) * x6) + x3) ∧ (((7 : Int) * x6) + x3) < 42) ∧ ∀ v4 : Int, v4 = (s 13 (((7 : Int) * x6) + x3)) → X60 x1 x3 x4 x6 v4 (0 : Int) s))
def x8_solve_b60 (X4 : Int → Int → Mem → Prop) (X28 : Int → Int → Int → Int → Mem → Prop) (X60 : Int → Int → Int → Int → Int → Int → Mem → Prop) (X144 : Int → Mem → Prop) (Q : Int → Mem → Prop) (x1 : Int) (x3 : Int) (x4 : Int) (x6 : Int) (x7 : Int) (x9 : Int) (s : Mem) : Prop :=
  (InI x9 ∧ InI (s 0 (0 : Int))) ∧ ((s 0 (0 : Int)) < x9 → X28 x1 x3 x4 (x6 + (1 : Int)) s) ∧ (x9 ≤ (s 0 (0 : Int)) → ((0 : Int) ≤ (((7 : Int) * x6) + x9) ∧ (((7 : Int) * x6) + x9) < 42) ∧ ((0 : Int) ≤ (((7 : Int) * x3) + x9) ∧ (((7 : Int) * x3) + x9) < 42) ∧ (InL (((s 13 (((7 : Int) * x6) + x9)) * x4) - (x7 * (s 13 (((7 : Int) * x3) + x9)))) ∧ InL x1 ∧ ¬ x1 = 0) ∧ ((0 : Int) ≤ (((7 : Int) * x6) + x9) ∧ (((7 : Int) * x6) + x9) < 42) ∧ ∀ s7 : Mem, s7 = m_upd s 13 (((7 : Int) * x6) + x9) (Int.tdiv (((s 13 (((7 : Int) * x6) + x9)) * x4) - (x7 * (s 13 (((7 : Int) * x3) + x9)))) x1) → X60 x1 x3 x4 x6 x7 (x9 + (1 : Int)) s7)
def x8_solve_b144 (X4 : Int → Int → Mem → Prop) (X28 : Int → Int → Int → Int → Mem → Prop) (X60 : Int → Int → Int → Int → Int → Int → Mem → Prop) (X144 : Int → Mem → Prop) (Q : Int → Mem → Prop) (x3 : Int) (s : Mem) : Prop :=
  (InI x3 ∧ InI (s 0 (0 : Int))) ∧ ((s 0 (0 : Int)) ≤ x3 → Q (0 : Int) s) ∧ (x3 < (s 0 (0 : Int)) → ((0 : Int) ≤ (((7 : Int) * x3) + (s 0 (0 : Int))) ∧ (((7 : Int) * x3) + (s 0 (0 : Int))) < 42) ∧ ((0 : Int) ≤ x3 ∧ x3 < 6) ∧ ∀ s9 : Mem, s9 = m_upd s 12 x3 (s 13 (((7 : Int) * x3) + (s 0 (0 : Int)))) → X144 (x3 + (1 : Int)) s9)
theorem x8_solve_me {X4 Y4 : Int → Int → Mem → Prop} {X28 Y28 : Int → Int → Int → Int → Mem → Prop} {X60 Y60 : Int → Int → Int → Int → Int → Int → Mem → Prop} {X144 Y144 : Int → Mem → Prop} {Q R : Int → Mem → Prop} (hX4 : ∀ x1 x3 s, X4 x1 x3 s → Y4 x1 x3 s) (hX28 : ∀ x1 x3 x4 x6 s, X28 x1 x3 x4 x6 s → Y28 x1 x3 x4 x6 s) (hX60 : ∀ x1 x3 x4 x6 x7 x9 s, X60 x1 x3 x4 x6 x7 x9 s → Y60 x1 x3 x4 x6 x7 x9 s) (hX144 : ∀ x3 s, X144 x3 s → Y144 x3 s) (hQ : ∀ r s, Q r s → R r s)  {s : Mem} (h : x8_solve_be X4 X28 X60 X144 Q  s) : x8_solve_be Y4 Y28 Y60 Y144 R  s :=
  hX4 _ _ _ h
theorem x8_solve_m4 {X4 Y4 : Int → Int → Mem → Prop} {X28 Y28 : Int → Int → Int → Int → Mem → Prop} {X60 Y60 : Int → Int → Int → Int → Int → Int → Mem → Prop} {X144 Y144 : Int → Mem → Prop} {Q R : Int → Mem → Prop} (hX4 : ∀ x1 x3 s, X4 x1 x3 s → Y4 x1 x3 s) (hX28 : ∀ x1 x3 x4 x6 s, X28 x1 x3 x4 x6 s → Y28 x1 x3 x4 x6 s) (hX60 : ∀ x1 x3 x4 x6 x7 x9 s, X60 x1 x3 x4 x6 x7 x9 s → Y60 x1 x3 x4 x6 x7 x9 s) (hX144 : ∀ x3 s, X144 x3 s → Y144 x3 s) (hQ : ∀ r s, Q r s → R r s) {x1 : Int} {x3 : Int} {s : Mem} (h : x8_solve_b4 X4 X28 X60 X144 Q x1 x3 s) : x8_solve_b4 Y4 Y28 Y60 Y144 R x1 x3 s :=
  ⟨h.1, fun c => have h := h.2.1 c; fun s1 e_s1 => have h := h s1 e_s1; hX144 _ _ h, fun c => have h := h.2.2 c; ⟨h.1, have h := h.2; fun v2 e_v2 => have h := h v2 e_v2; hX28 _ _ _ _ _ h⟩⟩
theorem x8_solve_m28 {X4 Y4 : Int → Int → Mem → Prop} {X28 Y28 : Int → Int → Int → Int → Mem → Prop} {X60 Y60 : Int → Int → Int → Int → Int → Int → Mem → Prop} {X144 Y144 : Int → Mem → Prop} {Q R : Int → Mem → Prop} (hX4 : ∀ x1 x3 s, X4 x1 x3 s → Y4 x1 x3 s) (hX28 : ∀ x1 x3 x4 x6 s, X28 x1 x3 x4 x6 s → Y28 x1 x3 x4 x6 s) (hX60 : ∀ x1 x3 x4 x6 x7 x9 s, X60 x1 x3 x4 x6 x7 x9 s → Y60 x1 x3 x4 x6 x7 x9 s) (hX144 : ∀ x3 s, X144 x3 s → Y144 x3 s) (hQ : ∀ r s, Q r s → R r s) {x1 : Int} {x3 : Int} {x4 : Int} {x6 : Int} {s : Mem} (h : x8_solve_b28 X4 X28 X60 X144 Q x1 x3 x4 x6 s) : x8_solve_b28 Y4 Y28 Y60 Y144 R x1 x3 x4 x6 s :=
  ⟨h.1, fun c => have h := h.2.1 c; hX4 _ _ _ h, fun c => have h := h.2.2 c; ⟨h.1, fun c => have h := h.2.1 c; hX28 _ _ _ _ _ h, fun c => have h := h.2.2 c; ⟨h.1, have h := h.2; fun v4 e_v4 => have h := h v4 e_v4; hX60 _ _ _ _ _ _ _ h⟩⟩⟩
theorem x8_solve_m60 {X4 Y4 : Int → Int → Mem → Prop} {X28 Y28 : Int → Int → Int → Int → Mem → Prop} {X60 Y60 : Int → Int → Int → Int → Int → Int → Mem → Prop} {X144 Y144 : Int → Mem → Prop} {Q R : Int → Mem → Prop} (hX4 : ∀ x1 x3 s, X4 x1 x3 s → Y4 x1 x3 s) (hX28 : ∀ x1 x3 x4 x6 s, X28 x1 x3 x4 x6 s → Y28 x1 x3 x4 x6 s) (hX60 : ∀ x1 x3 x4 x6 x7 x9 s, X60 x1 x3 x4 x6 x7 x9 s → Y60 x1 x3 x4 x6 x7 x9 s) (hX144 : ∀ x3 s, X144 x3 s → Y144 x3 s) (hQ : ∀ r s, Q r s → R r s) {x1 : Int} {x3 : Int} {x4 : Int} {x6 : Int} {x7 : Int} {x9 : Int} {s : Mem} (h : x8_solve_b60 X4 X28 X60 X144 Q x1 x3 x4 x6 x7 x9 s) : x8_solve_b60 Y4 Y28 Y60 Y144 R x1 x3 x4 x6 x7 x9 s :=
  ⟨h.1, fun c => have h := h.2.1 c; hX28 _ _ _ _ _ h, fun c => have h := h.2.2 c; ⟨h.1, have h := h.2; ⟨h.1, have h := h.2; ⟨h.1, have h := h.2; ⟨h.1, have h := h.2; fun s7 e_s7 => have h := h s7 e_s7; hX60 _ _ _ _ _ _ _ h⟩⟩⟩⟩⟩
theorem x8_solve_m144 {X4 Y4 : Int → Int → Mem → Prop} {X28 Y28 : Int → Int → Int → Int → Mem → Prop} {X60 Y60 : Int → Int → Int → Int → Int → Int → Mem → Prop} {X144 Y144 : Int → Mem → Prop} {Q R : Int → Mem → Prop} (hX4 : ∀ x1 x3 s, X4 x1 x3 s → Y4 x1 x3 s) (hX28 : ∀ x1 x3 x4 x6 s, X28 x1 x3 x4 x6 s → Y28 x1 x3 x4 x6 s) (hX60 : ∀ x1 x3 x4 x6 x7 x9 s, X60 x1 x3 x4 x6 x7 x9 s → Y60 x1 x3 x4 x6 x7 x9 s) (hX144 : ∀ x3 s, X144 x3 s → Y144 x3 s) (hQ : ∀ r s, Q r s → R r s) {x3 : Int} {s : Mem} (h : x8_solve_b144 X4 X28 X60 X144 Q x3 s) : x8_solve_b144 Y4 Y28 Y60 Y144 R x3 s :=
  ⟨h.1, fun c => have h := h.2.1 c; hQ _ _ h, fun c => have h := h.2.2 c; ⟨h.1, have h := h.2; ⟨h.1, have h := h.2; fun s9 e_s9 => have h := h s9 e_s9; hX144 _ _ h⟩⟩⟩
def x8_solve  (s : Mem) (Q : Int → Mem → Prop) : Prop := ∀ (X4 : Int → Int → Mem → Prop) (X28 : Int → Int → Int → Int → Mem → Prop) (X60 : Int → Int → Int → Int → Int → Int → Mem → Prop) (X144 : Int → Mem → Prop), (∀ x1 x3 s, x8_solve_b4 X4 X28 X60 X144 Q x1 x3 s → X4 x1 x3 s) → (∀ x1 x3 x4 x6 s, x8_solve_b28 X4 X28 X60 X144 Q x1 x3 x4 x6 s → X28 x1 x3 x4 x6 s) → (∀ x1 x3 x4 x6 x7 x9 s, x8_solve_b60 X4 X28 X60 X144 Q x1 x3 x4 x6 x7 x9 s → X60 x1 x3 x4 x6 x7 x9 s) → (∀ x3 s, x8_solve_b144 X4 X28 X60 X144 Q x3 s → X144 x3 s) → x8_solve_be X4 X28 X60 X144 Q  s
def x8_solve_L4 (Q : Int → Mem → Prop) (x1 : Int) (x3 : Int) (s : Mem) : Prop := ∀ (X4 : Int → Int → Mem → Prop) (X28 : Int → Int → Int → Int → Mem → Prop) (X60 : Int → Int → Int → Int → Int → Int → Mem → Prop) (X144 : Int → Mem → Prop), (∀ x1 x3 s, x8_solve_b4 X4 X28 X60 X144 Q x1 x3 s → X4 x1 x3 s) → (∀ x1 x3 x4 x6 s, x8_solve_b28 X4 X28 X60 X144 Q x1 x3 x4 x6 s → X28 x1 x3 x4 x6 s) → (∀ x1 x3 x4 x6 x7 x9 s, x8_solve_b60 X4 X28 X60 X144 Q x1 x3 x4 x6 x7 x9 s → X60 x1 x3 x4 x6 x7 x9 s) → (∀ x3 s, x8_solve_b144 X4 X28 X60 X144 Q x3 s → X144 x3 s) → X4 x1 x3 s
def x8_solve_L28 (Q : Int → Mem → Prop) (x1 : Int) (x3 : Int) (x4 : Int) (x6 : Int) (s : Mem) : Prop := ∀ (X4 : Int → Int → Mem → Prop) (X28 : Int → Int → Int → Int → Mem → Prop) (X60 : Int → Int → Int → Int → Int → Int → Mem → Prop) (X144 : Int → Mem → Prop), (∀ x1 x3 s, x8_solve_b4 X4 X28 X60 X144 Q x1 x3 s → X4 x1 x3 s) → (∀ x1 x3 x4 x6 s, x8_solve_b28 X4 X28 X60 X144 Q x1 x3 x4 x6 s → X28 x1 x3 x4 x6 s) → (∀ x1 x3 x4 x6 x7 x9 s, x8_solve_b60 X4 X28 X60 X144 Q x1 x3 x4 x6 x7 x9 s → X60 x1 x3 x4 x6 x7 x9 s) → (∀ x3 s, x8_solve_b144 X4 X28 X60 X144 Q x3 s → X144 x3 s) → X28 x1 x3 x4 x6 s
def x8_solve_L60 (Q : Int → Mem → Prop) (x1 : Int) (x3 : Int) (x4 : Int) (x6 : Int) (x7 : Int) (x9 : Int) (s : Mem) : Prop := ∀ (X4 : Int → Int → Mem → Prop) (X28 : Int → Int → Int → Int → Mem → Prop) (X60 : Int → Int → Int → Int → Int → Int → Mem → Prop) (X144 : Int → Mem → Prop), (∀ x1 x3 s, x8_solve_b4 X4 X28 X60 X144 Q x1 x3 s → X4 x1 x3 s) → (∀ x1 x3 x4 x6 s, x8_solve_b28 X4 X28 X60 X144 Q x1 x3 x4 x6 s → X28 x1 x3 x4 x6 s) → (∀ x1 x3 x4 x6 x7 x9 s, x8_solve_b60 X4 X28 X60 X144 Q x1 x3 x4 x6 x7 x9 s → X60 x1 x3 x4 x6 x7 x9 s) → (∀ x3 s, x8_solve_b144 X4 X28 X60 X144 Q x3 s → X144 x3 s) → X60 x1 x3 x4 x6 x7 x9 s
def x8_solve_L144 (Q : Int → Mem → Prop) (x3 : Int) (s : Mem) : Prop := ∀ (X4 : Int → Int → Mem → Prop) (X28 : Int → Int → Int → Int → Mem → Prop) (X60 : Int → Int → Int → Int → Int → Int → Mem → Prop) (X144 : Int → Mem → Prop), (∀ x1 x3 s, x8_solve_b4 X4 X28 X60 X144 Q x1 x3 s → X4 x1 x3 s) → (∀ x1 x3 x4 x6 s, x8_solve_b28 X4 X28 X60 X144 Q x1 x3 x4 x6 s → X28 x1 x3 x4 x6 s) → (∀ x1 x3 x4 x6 x7 x9 s, x8_solve_b60 X4 X28 X60 X144 Q x1 x3 x4 x6 x7 x9 s → X60 x1 x3 x4 x6 x7 x9 s) → (∀ x3 s, x8_solve_b144 X4 X28 X60 X144 Q x3 s → X144 x3 s) → X144 x3 s
theorem x8_solve_i {Q : Int → Mem → Prop}  {s : Mem} (h : x8_solve_be (x8_solve_L4 Q) (x8_solve_L28 Q) (x8_solve_L60 Q) (x8_solve_L144 Q) Q  s) : x8_solve  s Q := fun X4 X28 X60 X144 k4 k28 k60 k144 => x8_solve_me (fun _ _ _ h => h X4 X28 X60 X144 k4 k28 k60 k144) (fun _ _ _ _ _ h => h X4 X28 X60 X144 k4 k28 k60 k144) (fun _ _ _ _ _ _ _ h => h X4 X28 X60 X144 k4 k28 k60 k144) (fun _ _ h => h X4 X28 X60 X144 k4 k28 k60 k144) (fun _ _ h => h) h
theorem x8_solve_s4 {Q : Int → Mem → Prop} {x1 : Int} {x3 : Int} {s : Mem} (h : x8_solve_b4 (x8_solve_L4 Q) (x8_solve_L28 Q) (x8_solve_L60 Q) (x8_solve_L144 Q) Q x1 x3 s) : x8_solve_L4 Q x1 x3 s := fun X4 X28 X60 X144 k4 k28 k60 k144 => k4 _ _ _ (x8_solve_m4 (fun _ _ _ h => h X4 X28 X60 X144 k4 k28 k60 k144) (fun _ _ _ _ _ h => h X4 X28 X60 X144 k4 k28 k60 k144) (fun _ _ _ _ _ _ _ h => h X4 X28 X60 X144 k4 k28 k60 k144) (fun _ _ h => h X4 X28 X60 X144 k4 k28 k60 k144) (fun _ _ h => h) h)
theorem x8_solve_s28 {Q : Int → Mem → Prop} {x1 : Int} {x3 : Int} {x4 : Int} {x6 : Int} {s : Mem} (h : x8_solve_b28 (x8_solve_L4 Q) (x8_solve_L28 Q) (x8_solve_L60 Q) (x8_solve_L144 Q) Q x1 x3 x4 x6 s) : x8_solve_L28 Q x1 x3 x4 x6 s := fun X4 X28 X60 X144 k4 k28 k60 k144 => k28 _ _ _ _ _ (x8_solve_m28 (fun _ _ _ h => h X4 X28 X60 X144 k4 k28 k60 k144) (fun _ _ _ _ _ h => h X4 X28 X60 X144 k4 k28 k60 k144) (fun _ _ _ _ _ _ _ h => h X4 X28 X60 X144 k4 k28 k60 k144) (fun _ _ h => h X4 X28 X60 X144 k4 k28 k60 k144) (fun _ _ h => h) h)
theorem x8_solve_s60 {Q : Int → Mem → Prop} {x1 : Int} {x3 : Int} {x4 : Int} {x6 : Int} {x7 : Int} {x9 : Int} {s : Mem} (h : x8_solve_b60 (x8_solve_L4 Q) (x8_solve_L28 Q) (x8_solve_L60 Q) (x8_solve_L144 Q) Q x1 x3 x4 x6 x7 x9 s) : x8_solve_L60 Q x1 x3 x4 x6 x7 x9 s := fun X4 X28 X60 X144 k4 k28 k60 k144 => k60 _ _ _ _ _ _ _ (x8_solve_m60 (fun _ _ _ h => h X4 X28 X60 X144 k4 k28 k60 k144) (fun _ _ _ _ _ h => h X4 X28 X60 X144 k4 k28 k60 k144) (fun _ _ _ _ _ _ _ h => h X4 X28 X60 X144 k4 k28 k60 k144) (fun _ _ h => h X4 X28 X60 X144 k4 k28 k60 k144) (fun _ _ h => h) h)
theorem x8_solve_s144 {Q : Int → Mem → Prop} {x3 : Int} {s : Mem} (h : x8_solve_b144 (x8_solve_L4 Q) (x8_solve_L28 Q) (x8_solve_L60 Q) (x8_solve_L144 Q) Q x3 s) : x8_solve_L144 Q x3 s := fun X4 X28 X60 X144 k4 k28 k60 k144 => k144 _ _ (x8_solve_m144 (fun _ _ _ h => h X4 X28 X60 X144 k4 k28 k60 k144) (fun _ _ _ _ _ h => h X4 X28 X60 X144 k4 k28 k60 k144) (fun _ _ _ _ _ _ _ h => h X4 X28 X60 X144 k4 k28 k60 k144) (fun _ _ h => h X4 X28 X60 X144 k4 k28 k60 k144) (fun _ _ h => h) h)
theorem x8_solve_mono {Q R : Int → Mem → Prop}  {s : Mem} (h : x8_solve  s Q) (hQ : ∀ r s, Q r s → R r s) : x8_solve  s R := fun X4 X28 X60 X144 k4 k28 k60 k144 => x8_solve_me (fun _ _ _ h => h) (fun _ _ _ _ _ h => h) (fun _ _ _ _ _ _ _ h => h) (fun _ _ h => h) hQ (h X4 X28 X60 X144 (fun _ _ _ h => k4 _ _ _ (x8_solve_m4 (fun _ _ _ h => h) (fun _ _ _ _ _ h => h) (fun _ _ _ _ _ _ _ h => h) (fun _ _ h => h) hQ h)) (fun _ _ _ _ _ h => k28 _ _ _ _ _ (x8_solve_m28 (fun _ _ _ h => h) (fun _ _ _ _ _ h => h) (fun _ _ _ _ _ _ _ h => h) (fun _ _ h => h) hQ h)) (fun _ _ _ _ _ _ _ h => k60 _ _ _ _ _ _ _ (x8_solve_m60 (fun _ _ _ h => h) (fun _ _ _ _ _ h => h) (fun _ _ _ _ _ _ _ h => h) (fun _ _ h => h) hQ h)) (fun _ _ h => k144 _ _ (x8_solve_m144 (fun _ _ _ h => h) (fun _ _ _ _ _ h => h) (fun _ _ _ _ _ _ _ h => h) (fun _ _ h => h) hQ h)))
def x8_solve_rm : Room := { frames := 0, cells := 0, slots := 0, locals := 0 }
theorem w_x8_solve_86 : Cond.fieldLink RX8 86 "BoltRingModel" "n" "I" ∈ wsX8_solve := by decide +kernel
theorem w_x8_solve_124 : Cond.fieldLink RX8 124 "BoltRingModel" "below" "J" ∈ wsX8_solve := by decide +kernel
theorem w_x8_solve_48 : Cond.fieldLink RX8 48 "BoltRingModel" "table" "[J" ∈ wsX8_solve := by decide +kernel
theorem w_x8_solve_44 : Cond.fieldLink RX8 44 "BoltRingModel" "lift" "[J" ∈ wsX8_solve := by decide +kernel
theorem in_x8_solve_X8 : ∀ w ∈ wsX80, w ∈ wsX8_solve := by decide +kernel
set_option maxHeartbeats 4000000 in
set_option maxRecDepth 100000 in
theorem x8_solve_bd {κ : KT} {ad : Nat → Nat} {cA : Nat → ClassId} {D : va_G} {Q : State → Prop}  {s : Mem} (C : CX κ (GB ad cA D) RX8 cX8_solve 10 wsX8_solve x8_solve_rm none) (h : x8_solve  s (RT κ (GB ad cA D) ocV Q)) : WM κ (GB ad cA D) 10 Q s 0 [(0, .ref (ad 0))] [] := by
  obtain ⟨Z4, z4⟩ : ∃ Z : Int → Int → Mem → Prop, ∀ x1 x3 s, Z x1 x3 s ↔ WM κ (GB ad cA D) 10 Q s 4 [(0, .ref (ad 0)), (1, vL x1), (3, vI x3)] [] := ⟨fun x1 x3 s => WM κ (GB ad cA D) 10 Q s 4 [(0, .ref (ad 0)), (1, vL x1), (3, vI x3)] [], fun _ _ _ => Iff.rfl⟩
  obtain ⟨Z28, z28⟩ : ∃ Z : Int → Int → Int → Int → Mem → Prop, ∀ x1 x3 x4 x6 s, Z x1 x3 x4 x6 s ↔ WM κ (GB ad cA D) 10 Q s 28 [(0, .ref (ad 0)), (1, vL x1), (3, vI x3), (4, vL x4), (6, vI x6)] [] := ⟨fun x1 x3 x4 x6 s => WM κ (GB ad cA D) 10 Q s 28 [(0, .ref (ad 0)), (1, vL x1), (3, vI x3), (4, vL x4), (6, vI x6)] [], fun _ _ _ _ _ => Iff.rfl⟩
  obtain ⟨Z60, z60⟩ : ∃ Z : Int → Int → Int → Int → Int → Int → Mem → Prop, ∀ x1 x3 x4 x6 x7 x9 s, Z x1 x3 x4 x6 x7 x9 s ↔ WM κ (GB ad cA D) 10 Q s 60 [(0, .ref (ad 0)), (1, vL x1), (3, vI x3), (4, vL x4), (6, vI x6), (7, vL x7), (9, vI x9)] [] := ⟨fun x1 x3 x4 x6 x7 x9 s => WM κ (GB ad cA D) 10 Q s 60 [(0, .ref (ad 0)), (1, vL x1), (3, vI x3), (4, vL x4), (6, vI x6), (7, vL x7), (9, vI x9)] [], fun _ _ _ _ _ _ _ => Iff.rfl⟩
  obtain ⟨Z144, z144⟩ : ∃ Z : Int → Mem → Prop, ∀ x3 s, Z x3 s ↔ WM κ (GB ad cA D) 10 Q s 144 [(0, .ref (ad 0)), (3, vI x3)] [] := ⟨fun x3 s => WM κ (GB ad cA D) 10 Q s 144 [(0, .ref (ad 0)), (3, vI x3)] [], fun _ _ => Iff.rfl⟩
  refine (fun h => ?_) (h Z4 Z28 Z60 Z144 ?_ ?_ ?_ ?_)
  · refine r_lconst (z := 1) C dX8_solve_0 rfl ?_
    refine r_lstore_n (ls' := [(1, vL (1 : Int)), (0, .ref (ad 0))]) C dX8_solve_1 rfl (by decide) rfl ?_
    refine r_iconst C dX8_solve_2 ?_
    refine r_istore_n (ls' := [(3, vI (0 : Int)), (1, vL (1 : Int)), (0, .ref (ad 0))]) C dX8_solve_3 rfl (by decide) rfl ?_
    exact r_perm [2, 1, 0] rfl ((z4 _ _ _).1 h)
  · intro x1 x3 s h
    refine (z4 _ _ _).2 ?_
    refine r_iload_n C 2 dX8_solve_4 rfl ?_
    refine r_aload_n C 0 dX8_solve_5 rfl ?_
    refine r_get (j := 0) (jz := 0) (v := vI (s 0 (0 : Int))) C dX8_solve_6 (shB_0) rfl rfl (by decide) in_x8_solve_X8 w_x8_solve_86 rfl rfl rfl ?_
    refine r_icmp_ge (tgt := 137) C dX8_solve_9 (by decide) ⟨h.1, fun c3 => ?_, fun c3 => ?_⟩
    · have h := h.2.1 c3
      refine r_aload_n C 0 dX8_solve_137 rfl ?_
      refine r_lload_n C 1 dX8_solve_138 rfl ?_
      refine r_putl (j := 15) (jz := 15) C dX8_solve_139 (shB_0) rfl rfl (by decide) in_x8_solve_X8 tyX8 tyX8_ok nmX8 w_x8_solve_124 rfl rfl (by decide +kernel) rfl (fun s1 e_s1 => ?_)
      have h := h s1 e_s1
      refine r_iconst C dX8_solve_142 ?_
      refine r_istore_n (ls' := [(3, vI (0 : Int)), (0, .ref (ad 0)), (1, vL x1)]) C dX8_solve_143 rfl (by decide) rfl ?_
      exact r_perm [1, 0] rfl ((z144 _ _).1 h)
    · have h := h.2.2 c3
      refine r_aload_n C 0 dX8_solve_12 rfl ?_
      refine r_get (j := 16) (jz := 16) (v := .ref (ad 13)) C dX8_solve_13 (shB_0) rfl rfl (by decide) in_x8_solve_X8 w_x8_solve_48 rfl rfl rfl ?_
      refine r_bipush C dX8_solve_16 (by decide) ?_
      refine r_iload_n C 2 dX8_solve_18 rfl ?_
      refine r_imul C dX8_solve_19 ?_
      refine r_iload_n C 2 dX8_solve_20 rfl ?_
      refine r_iadd C dX8_solve_21 ?_
      refine r_lald (nz := 42) C dX8_solve_22 (shB_13) rfl (by decide) ⟨h.1, ?_⟩
      have h := h.2
      refine r_topL (fun v2 e_v2 => ?_)
      have h := h v2 e_v2
      refine r_lstore (ls' := [(4, vL v2), (0, .ref (ad 0)), (1, vL x1), (3, vI x3)]) C dX8_solve_23 (by decide) rfl ?_
      refine r_iconst C dX8_solve_25 ?_
      refine r_istore (ls' := [(6, vI (0 : Int)), (4, vL v2), (0, .ref (ad 0)), (1, vL x1), (3, vI x3)]) C dX8_solve_26 (by decide) rfl ?_
      exact r_perm [2, 3, 4, 1, 0] rfl ((z28 _ _ _ _ _).1 h)
  · intro x1 x3 x4 x6 s h
    refine (z28 _ _ _ _ _).2 ?_
    refine r_iload C 4 dX8_solve_28 rfl ?_
    refine r_aload_n C 0 dX8_solve_30 rfl ?_
    refine r_get (j := 0) (jz := 0) (v := vI (s 0 (0 : Int))) C dX8_solve_31 (shB_0) rfl rfl (by decide) in_x8_solve_X8 w_x8_solve_86 rfl rfl rfl ?_
    refine r_icmp_ge (tgt := 128) C dX8_solve_34 (by decide) ⟨h.1, fun c6 => ?_, fun c6 => ?_⟩
    · have h := h.2.1 c6
      refine r_lload C 3 dX8_solve_128 rfl ?_
      refine r_lstore_n (ls' := [(1, vL x4), (0, .ref (ad 0)), (3, vI x3), (4, vL x4), (6, vI x6)]) C dX8_solve_130 rfl (by decide) rfl ?_
      refine r_iinc (j := 2) (ls' := [(3, vI (x3 + (1 : Int))), (1, vL x4), (0, .ref (ad 0)), (4, vL x4), (6, vI x6)]) C dX8_solve_131 rfl (by decide) rfl ?_
      refine r_goto (tgt := 4) C dX8_solve_134 (by decide) ?_
      exact r_perm [2, 1, 0] rfl ((z4 _ _ _).1 h)
    · have h := h.2.2 c6
      refine r_iload C 4 dX8_solve_37 rfl ?_
      refine r_iload_n C 2 dX8_solve_39 rfl ?_
      refine r_icmp_eq (tgt := 122) C dX8_solve_40 (by decide) ⟨h.1, fun c5 => ?_, fun c5 => ?_⟩
      · have h := h.2.1 c5
        refine r_iinc (j := 4) (ls' := [(6, vI (x6 + (1 : Int))), (0, .ref (ad 0)), (1, vL x1), (3, vI x3), (4, vL x4)]) C dX8_solve_122 rfl (by decide) rfl ?_
        refine r_goto (tgt := 28) C dX8_solve_125 (by decide) ?_
        exact r_perm [1, 2, 3, 4, 0] rfl ((z28 _ _ _ _ _).1 h)
      · have h := h.2.2 c5
        refine r_aload_n C 0 dX8_solve_43 rfl ?_
        refine r_get (j := 16) (jz := 16) (v := .ref (ad 13)) C dX8_solve_44 (shB_0) rfl rfl (by decide) in_x8_solve_X8 w_x8_solve_48 rfl rfl rfl ?_
        refine r_bipush C dX8_solve_47 (by decide) ?_
        refine r_iload C 4 dX8_solve_49 rfl ?_
        refine r_imul C dX8_solve_51 ?_
        refine r_iload_n C 2 dX8_solve_52 rfl ?_
        refine r_iadd C dX8_solve_53 ?_
        refine r_lald (nz := 42) C dX8_solve_54 (shB_13) rfl (by decide) ⟨h.1, ?_⟩
        have h := h.2
        refine r_topL (fun v4 e_v4 => ?_)
        have h := h v4 e_v4
        refine r_lstore (ls' := [(7, vL v4), (0, .ref (ad 0)), (1, vL x1), (3, vI x3), (4, vL x4), (6, vI x6)]) C dX8_solve_55 (by decide) rfl ?_
        refine r_iconst C dX8_solve_57 ?_
        refine r_istore (ls' := [(9, vI (0 : Int)), (7, vL v4), (0, .ref (ad 0)), (1, vL x1), (3, vI x3), (4, vL x4), (6, vI x6)]) C dX8_solve_58 (by decide) rfl ?_
        exact r_perm [2, 3, 4, 5, 6, 1, 0] rfl ((z60 _ _ _ _ _ _ _).1 h)
  · intro x1 x3 x4 x6 x7 x9 s h
    refine (z60 _ _ _ _ _ _ _).2 ?_
    refine r_iload C 6 dX8_solve_60 rfl ?_
    refine r_aload_n C 0 dX8_solve_62 rfl ?_
    refine r_get (j := 0) (jz := 0) (v := vI (s 0 (0 : Int))) C dX8_solve_63 (shB_0) rfl rfl (by decide) in_x8_solve_X8 w_x8_solve_86 rfl rfl rfl ?_
    refine r_icmp_gt (tgt := 122) C dX8_solve_66 (by decide) ⟨h.1, fun c8 => ?_, fun c8 => ?_⟩
    · have h := h.2.1 c8
      refine r_iinc (j := 4) (ls' := [(6, vI (x6 + (1 : Int))), (0, .ref (ad 0)), (1, vL x1), (3, vI x3), (4, vL x4), (7, vL x7), (9, vI x9)]) C dX8_solve_122 rfl (by decide) rfl ?_
      refine r_goto (tgt := 28) C dX8_solve_125 (by decide) ?_
      exact r_perm [1, 2, 3, 4, 0] rfl ((z28 _ _ _ _ _).1 h)
    · have h := h.2.2 c8
      refine r_aload_n C 0 dX8_solve_69 rfl ?_
      refine r_get (j := 16) (jz := 16) (v := .ref (ad 13)) C dX8_solve_70 (shB_0) rfl rfl (by decide) in_x8_solve_X8 w_x8_solve_48 rfl rfl rfl ?_
      refine r_bipush C dX8_solve_73 (by decide) ?_
      refine r_iload C 4 dX8_solve_75 rfl ?_
      refine r_imul C dX8_solve_77 ?_
      refine r_iload C 6 dX8_solve_78 rfl ?_
      refine r_iadd C dX8_solve_80 ?_
      refine r_aload_n C 0 dX8_solve_81 rfl ?_
      refine r_get (j := 16) (jz := 16) (v := .ref (ad 13)) C dX8_solve_82 (shB_0) rfl rfl (by decide) in_x8_solve_X8 w_x8_solve_48 rfl rfl rfl ?_
      refine r_bipush C dX8_solve_85 (by decide) ?_
      refine r_iload C 4 dX8_solve_87 rfl ?_
      refine r_imul C dX8_solve_89 ?_
      refine r_iload C 6 dX8_solve_90 rfl ?_
      refine r_iadd C dX8_solve_92 ?_
      refine r_lald (nz := 42) C dX8_solve_93 (shB_13) rfl (by decide) ⟨h.1, ?_⟩
      have h := h.2
      refine r_lload C 3 dX8_solve_94 rfl ?_
      refine r_lmul C dX8_solve_96 ?_
      refine r_lload C 5 dX8_solve_97 rfl ?_
      refine r_aload_n C 0 dX8_solve_99 rfl ?_
      refine r_get (j := 16) (jz := 16) (v := .ref (ad 13)) C dX8_solve_100 (shB_0) rfl rfl (by decide) in_x8_solve_X8 w_x8_solve_48 rfl rfl rfl ?_
      refine r_bipush C dX8_solve_103 (by decide) ?_
      refine r_iload_n C 2 dX8_solve_105 rfl ?_
      refine r_imul C dX8_solve_106 ?_
      refine r_iload C 6 dX8_solve_107 rfl ?_
      refine r_iadd C dX8_solve_109 ?_
      refine r_lald (nz := 42) C dX8_solve_110 (shB_13) rfl (by decide) ⟨h.1, ?_⟩
      have h := h.2
      refine r_lmul C dX8_solve_111 ?_
      refine r_lsub C dX8_solve_112 ?_
      refine r_lload_n C 1 dX8_solve_113 rfl ?_
      refine r_ldiv C dX8_solve_114 ⟨h.1, ?_⟩
      have h := h.2
      refine r_last (nz := 42) C dX8_solve_115 (shB_13) rfl (by decide) ⟨h.1, fun s7 e_s7 => ?_⟩
      have h := h.2 s7 e_s7
      refine r_iinc (j := 6) (ls' := [(9, vI (x9 + (1 : Int))), (0, .ref (ad 0)), (1, vL x1), (3, vI x3), (4, vL x4), (6, vI x6), (7, vL x7)]) C dX8_solve_116 rfl (by decide) rfl ?_
      refine r_goto (tgt := 60) C dX8_solve_119 (by decide) ?_
      exact r_perm [1, 2, 3, 4, 5, 6, 0] rfl ((z60 _ _ _ _ _ _ _).1 h)
  · intro x3 s h
    refine (z144 _ _).2 ?_
    refine r_iload_n C 1 dX8_solve_144 rfl ?_
    refine r_aload_n C 0 dX8_solve_145 rfl ?_
    refine r_get (j := 0) (jz := 0) (v := vI (s 0 (0 : Int))) C dX8_solve_146 (shB_0) rfl rfl (by decide) in_x8_solve_X8 w_x8_solve_86 rfl rfl rfl ?_
    refine r_icmp_ge (tgt := 178) C dX8_solve_149 (by decide) ⟨h.1, fun c10 => ?_, fun c10 => ?_⟩
    · have h := h.2.1 c10
      exact r_return C dX8_solve_178 h
    · have h := h.2.2 c10
      refine r_aload_n C 0 dX8_solve_152 rfl ?_
      refine r_get (j := 14) (jz := 14) (v := .ref (ad 12)) C dX8_solve_153 (shB_0) rfl rfl (by decide) in_x8_solve_X8 w_x8_solve_44 rfl rfl rfl ?_
      refine r_iload_n C 1 dX8_solve_156 rfl ?_
      refine r_aload_n C 0 dX8_solve_157 rfl ?_
      refine r_get (j := 16) (jz := 16) (v := .ref (ad 13)) C dX8_solve_158 (shB_0) rfl rfl (by decide) in_x8_solve_X8 w_x8_solve_48 rfl rfl rfl ?_
      refine r_bipush C dX8_solve_161 (by decide) ?_
      refine r_iload_n C 1 dX8_solve_163 rfl ?_
      refine r_imul C dX8_solve_164 ?_
      refine r_aload_n C 0 dX8_solve_165 rfl ?_
      refine r_get (j := 0) (jz := 0) (v := vI (s 0 (0 : Int))) C dX8_solve_166 (shB_0) rfl rfl (by decide) in_x8_solve_X8 w_x8_solve_86 rfl rfl rfl ?_
      refine r_iadd C dX8_solve_169 ?_
      refine r_lald (nz := 42) C dX8_solve_170 (shB_13) rfl (by decide) ⟨h.1, ?_⟩
      have h := h.2
      refine r_last (nz := 6) C dX8_solve_171 (shB_12) rfl (by decide) ⟨h.1, fun s9 e_s9 => ?_⟩
      have h := h.2 s9 e_s9
      refine r_iinc (j := 1) (ls' := [(3, vI (x3 + (1 : Int))), (0, .ref (ad 0))]) C dX8_solve_172 rfl (by decide) rfl ?_
      refine r_goto (tgt := 144) C dX8_solve_175 (by decide) ?_
      exact r_perm [1, 0] rfl ((z144 _ _).1 h)
theorem x8_solve_ct (l : Launch) (ad : Nat → Nat) (cA : Nat → ClassId) (D : va_G)  (s : Mem) : MG l yX8_solve wsX8_solve x8_solve_rm ocV [.ref (ad 0)] (GB ad cA D) s (x8_solve  s) :=
  m_met (own := RX8) (nL := 10) (by decide) rfl rfl (Nat.le_of_ble_eq_true rfl) rfl rfl rfl (fun κ hl C Q Pst hW hQ => x8_solve_bd C (x8_solve_mono hW hQ))

def x8_wayBy_be (X72 : Int → Int → Int → Mem → Prop) (X95 : Int → Int → Int → Mem → Prop) (X119 : Int → Int → Mem → Prop) (Q : Int → Mem → Prop) (p1 : Int) (s : Mem) : Prop :=
  ((0 : Int) ≤ p1 ∧ p1 < 6) ∧ ((0 : Int) ≤ p1 ∧ p1 < 6) ∧ (InI (s 3 p1)) ∧ ∀ v1 : Int, v1 = ((s 3 p1) * (s 0 (15 : Int))) → ((0 : Int) ≤ p1 ∧ p1 < 6) ∧ InI (s 5 p1) ∧ ((s 5 p1) = (0 : Int) → ((0 : Int) ≤ p1 ∧ p1 < 6) ∧ InI (s 14 p1) ∧ (¬ (s 14 p1) = (0 : Int) → X72 p1 (s 12 p1) v1 s) ∧ ((s 14 p1) = (0 : Int) → (InL (s 12 p1) ∧ InL (0 : Int)) ∧ ((s 12 p1) ≤ (0 : Int) → ((0 : Int) ≤ p1 ∧ p1 < 6) ∧ Q (s 14 p1) s) ∧ ((0 : Int) < (s 12 p1) → X72 p1 (s 12 p1) v1 s))) ∧ (¬ (s 5 p1) = (0 : Int) → (InL (s 12 p1) ∧ InL (0 : Int)) ∧ ((s 12 p1) ≤ (0 : Int) → (InL (s 12 p1) ∧ InL (0 : Int)) ∧ ((0 : Int) ≤ (s 12 p1) → ((0 : Int) ≤ p1 ∧ p1 < 6) ∧ Q (s 14 p1) s) ∧ ((s 12 p1) < (0 : Int) → Q (0 : Int) s)) ∧ ((0 : Int) < (s 12 p1) → Q (2 : Int) s))
def x8_wayBy_b72 (X72 : Int → Int → Int → Mem → Prop) (X95 : Int → Int → Int → Mem → Prop) (X119 : Int → Int → Mem → Prop) (Q : Int → Mem → Prop) (x1 : Int) (x2 : Int) (x4 : Int) (s : Mem) : Prop :=
  ((0 : Int) ≤ x1 ∧ x1 < 6) ∧ (InI (s 14 x1) ∧ InI (1 : Int)) ∧ (¬ (s 14 x1) = (1 : Int) → X95 x1 x2 x4 s) ∧ ((s 14 x1) = (1 : Int) → (InL x2 ∧ InL (0 : Int)) ∧ (x2 < (0 : Int) → X95 x1 x2 x4 s) ∧ ((0 : Int) ≤ x2 → (InL x2 ∧ InL x4) ∧ (x2 ≤ x4 → ((0 : Int) ≤ x1 ∧ x1 < 6) ∧ Q (s 14 x1) s) ∧ (x4 < x2 → X95 x1 x2 x4 s)))
def x8_wayBy_b95 (X72 : Int → Int → Int → Mem → Prop) (X95 : Int → Int → Int → Mem → Prop) (X119 : Int → Int → Mem → Prop) (Q : Int → Mem → Prop) (x1 : Int) (x2 : Int) (x4 : Int) (s : Mem) : Prop :=
  ((0 : Int) ≤ x1 ∧ x1 < 6) ∧ (InI (s 14 x1) ∧ InI (2 : Int)) ∧ (¬ (s 14 x1) = (2 : Int) → X119 x2 x4 s) ∧ ((s 14 x1) = (2 : Int) → (InL x2 ∧ InL x4) ∧ (x2 < x4 → X119 x2 x4 s) ∧ (x4 ≤ x2 → ((0 : Int) ≤ x1 ∧ x1 < 6) ∧ Q (s 14 x1) s))
def x8_wayBy_b119 (X72 : Int → Int → Int → Mem → Prop) (X95 : Int → Int → Int → Mem → Prop) (X119 : Int → Int → Mem → Prop) (Q : Int → Mem → Prop) (x2 : Int) (x4 : Int) (s : Mem) : Prop :=
  (InL x2 ∧ InL (0 : Int)) ∧ ((0 : Int) ≤ x2 → (InL x2 ∧ InL x4) ∧ (x2 ≤ x4 → Q (1 : Int) s) ∧ (x4 < x2 → Q (2 : Int) s)) ∧ (x2 < (0 : Int) → Q (0 : Int) s)
theorem x8_wayBy_me {X72 Y72 : Int → Int → Int → Mem → Prop} {X95 Y95 : Int → Int → Int → Mem → Prop} {X119 Y119 : Int → Int → Mem → Prop} {Q R : Int → Mem → Prop} (hX72 : ∀ x1 x2 x4 s, X72 x1 x2 x4 s → Y72 x1 x2 x4 s) (hX95 : ∀ x1 x2 x4 s, X95 x1 x2 x4 s → Y95 x1 x2 x4 s) (hX119 : ∀ x2 x4 s, X119 x2 x4 s → Y119 x2 x4 s) (hQ : ∀ r s, Q r s → R r s) {p1 : Int} {s : Mem} (h : x8_wayBy_be X72 X95 X119 Q p1 s) : x8_wayBy_be Y72 Y95 Y119 R p1 s :=
  ⟨h.1, have h := h.2; ⟨h.1, have h := h.2; ⟨h.1, have h := h.2; fun v1 e_v1 => have h := h v1 e_v1; ⟨h.1, have h := h.2; ⟨h.1, fun c => have h := h.2.1 c; ⟨h.1, have h := h.2; ⟨h.1, fun c => have h := h.2.1 c; hX72 _ _ _ _ h, fun c => have h := h.2.2 c; ⟨h.1, fun c => have h := h.2.1 c; ⟨h.1, have h := h.2; hQ _ _ h⟩, fun c => have h := h.2.2 c; hX72 _ _ _ _ h⟩⟩⟩, fun c => have h := h.2.2 c; ⟨h.1, fun c => have h := h.2.1 c; ⟨h.1, fun c => have h := h.2.1 c; ⟨h.1, have h := h.2; hQ _ _ h⟩, fun c => have h := h.2.2 c; hQ _ _ h⟩, fun c => have h := h.2.2 c; hQ _ _ h⟩⟩⟩⟩⟩⟩
theorem x8_wayBy_m72 {X72 Y72 : Int → Int → Int → Mem → Prop} {X95 Y95 : Int → Int → Int → Mem → Prop} {X119 Y119 : Int → Int → Mem → Prop} {Q R : Int → Mem → Prop} (hX72 : ∀ x1 x2 x4 s, X72 x1 x2 x4 s → Y72 x1 x2 x4 s) (hX95 : ∀ x1 x2 x4 s, X95 x1 x2 x4 s → Y95 x1 x2 x4 s) (hX119 : ∀ x2 x4 s, X119 x2 x4 s → Y119 x2 x4 s) (hQ : ∀ r s, Q r s → R r s) {x1 : Int} {x2 : Int} {x4 : Int} {s : Mem} (h : x8_wayBy_b72 X72 X95 X119 Q x1 x2 x4 s) : x8_wayBy_b72 Y72 Y95 Y119 R x1 x2 x4 s :=
  ⟨h.1, have h := h.2; ⟨h.1, fun c => have h := h.2.1 c; hX95 _ _ _ _ h, fun c => have h := h.2.2 c; ⟨h.1, fun c => have h := h.2.1 c; hX95 _ _ _ _ h, fun c => have h := h.2.2 c; ⟨h.1, fun c => have h := h.2.1 c; ⟨h.1, have h := h.2; hQ _ _ h⟩, fun c => have h := h.2.2 c; hX95 _ _ _ _ h⟩⟩⟩⟩
theorem x8_wayBy_m95 {X72 Y72 : Int → Int → Int → Mem → Prop} {X95 Y95 : Int → Int → Int → Mem → Prop} {X119 Y119 : Int → Int → Mem → Prop} {Q R : Int → Mem → Prop} (hX72 : ∀ x1 x2 x4 s, X72 x1 x2 x4 s → Y72 x1 x2 x4 s) (hX95 : ∀ x1 x2 x4 s, X95 x1 x2 x4 s → Y95 x1 x2 x4 s) (hX119 : ∀ x2 x4 s, X119 x2 x4 s → Y119 x2 x4 s) (hQ : ∀ r s, Q r s → R r s) {x1 : Int} {x2 : Int} {x4 : Int} {s : Mem} (h : x8_wayBy_b95 X72 X95 X119 Q x1 x2 x4 s) : x8_wayBy_b95 Y72 Y95 Y119 R x1 x2 x4 s :=
  ⟨h.1, have h := h.2; ⟨h.1, fun c => have h := h.2.1 c; hX119 _ _ _ h, fun c => have h := h.2.2 c; ⟨h.1, fun c => have h := h.2.1 c; hX119 _ _ _ h, fun c => have h := h.2.2 c; ⟨h.1, have h := h.2; hQ _ _ h⟩⟩⟩⟩
theorem x8_wayBy_m119 {X72 Y72 : Int → Int → Int → Mem → Prop} {X95 Y95 : Int → Int → Int → Mem → Prop} {X119 Y119 : Int → Int → Mem → Prop} {Q R : Int → Mem → Prop} (hX72 : ∀ x1 x2 x4 s, X72 x1 x2 x4 s → Y72 x1 x2 x4 s) (hX95 : ∀ x1 x2 x4 s, X95 x1 x2 x4 s → Y95 x1 x2 x4 s) (hX119 : ∀ x2 x4 s, X119 x2 x4 s → Y119 x2 x4 s) (hQ : ∀ r s, Q r s → R r s) {x2 : Int} {x4 : Int} {s : Mem} (h : x8_wayBy_b119 X72 X95 X119 Q x2 x4 s) : x8_wayBy_b119 Y72 Y95 Y119 R x2 x4 s :=
  ⟨h.1, fun c => have h := h.2.1 c; ⟨h.1, fun c => have h := h.2.1 c; hQ _ _ h, fun c => have h := h.2.2 c; hQ _ _ h⟩, fun c => have h := h.2.2 c; hQ _ _ h⟩
def x8_wayBy (p1 : Int) (s : Mem) (Q : Int → Mem → Prop) : Prop := ∀ (X72 : Int → Int → Int → Mem → Prop) (X95 : Int → Int → Int → Mem → Prop) (X119 : Int → Int → Mem → Prop), (∀ x1 x2 x4 s, x8_wayBy_b72 X72 X95 X119 Q x1 x2 x4 s → X72 x1 x2 x4 s) → (∀ x1 x2 x4 s, x8_wayBy_b95 X72 X95 X119 Q x1 x2 x4 s → X95 x1 x2 x4 s) → (∀ x2 x4 s, x8_wayBy_b119 X72 X95 X119 Q x2 x4 s → X119 x2 x4 s) → x8_wayBy_be X72 X95 X119 Q p1 s
def x8_wayBy_L72 (Q : Int → Mem → Prop) (x1 : Int) (x2 : Int) (x4 : Int) (s : Mem) : Prop := ∀ (X72 : Int → Int → Int → Mem → Prop) (X95 : Int → Int → Int → Mem → Prop) (X119 : Int → Int → Mem → Prop), (∀ x1 x2 x4 s, x8_wayBy_b72 X72 X95 X119 Q x1 x2 x4 s → X72 x1 x2 x4 s) → (∀ x1 x2 x4 s, x8_wayBy_b95 X72 X95 X119 Q x1 x2 x4 s → X95 x1 x2 x4 s) → (∀ x2 x4 s, x8_wayBy_b119 X72 X95 X119 Q x2 x4 s → X119 x2 x4 s) → X72 x1 x2 x4 s
def x8_wayBy_L95 (Q : Int → Mem → Prop) (x1 : Int) (x2 : Int) (x4 : Int) (s : Mem) : Prop := ∀ (X72 : Int → Int → Int → Mem → Prop) (X95 : Int → Int → Int → Mem → Prop) (X119 : Int → Int → Mem → Prop), (∀ x1 x2 x4 s, x8_wayBy_b72 X72 X95 X119 Q x1 x2 x4 s → X72 x1 x2 x4 s) → (∀ x1 x2 x4 s, x8_wayBy_b95 X72 X95 X119 Q x1 x2 x4 s → X95 x1 x2 x4 s) → (∀ x2 x4 s, x8_wayBy_b119 X72 X95 X119 Q x2 x4 s → X119 x2 x4 s) → X95 x1 x2 x4 s
def x8_wayBy_L119 (Q : Int → Mem → Prop) (x2 : Int) (x4 : Int) (s : Mem) : Prop := ∀ (X72 : Int → Int → Int → Mem → Prop) (X95 : Int → Int → Int → Mem → Prop) (X119 : Int → Int → Mem → Prop), (∀ x1 x2 x4 s, x8_wayBy_b72 X72 X95 X119 Q x1 x2 x4 s → X72 x1 x2 x4 s) → (∀ x1 x2 x4 s, x8_wayBy_b95 X72 X95 X119 Q x1 x2 x4 s → X95 x1 x2 x4 s) → (∀ x2 x4 s, x8_wayBy_b119 X72 X95 X119 Q x2 x4 s → X119 x2 x4 s) → X119 x2 x4 s
theorem x8_wayBy_i {Q : Int → Mem → Prop} {p1 : Int} {s : Mem} (h : x8_wayBy_be (x8_wayBy_L72 Q) (x8_wayBy_L95 Q) (x8_wayBy_L119 Q) Q p1 s) : x8_wayBy p1 s Q := fun X72 X95 X119 k72 k95 k119 => x8_wayBy_me (fun _ _ _ _ h => h X72 X95 X119 k72 k95 k119) (fun _ _ _ _ h => h X72 X95 X119 k72 k95 k119) (fun _ _ _ h => h X72 X95 X119 k72 k95 k119) (fun _ _ h => h) h
theorem x8_wayBy_s72 {Q : Int → Mem → Prop} {x1 : Int} {x2 : Int} {x4 : Int} {s : Mem} (h : x8_wayBy_b72 (x8_wayBy_L72 Q) (x8_wayBy_L95 Q) (x8_wayBy_L119 Q) Q x1 x2 x4 s) : x8_wayBy_L72 Q x1 x2 x4 s := fun X72 X95 X119 k72 k95 k119 => k72 _ _ _ _ (x8_wayBy_m72 (fun _ _ _ _ h => h X72 X95 X119 k72 k95 k119) (fun _ _ _ _ h => h X72 X95 X119 k72 k95 k119) (fun _ _ _ h => h X72 X95 X119 k72 k95 k119) (fun _ _ h => h) h)
theorem x8_wayBy_s95 {Q : Int → Mem → Prop} {x1 : Int} {x2 : Int} {x4 : Int} {s : Mem} (h : x8_wayBy_b95 (x8_wayBy_L72 Q) (x8_wayBy_L95 Q) (x8_wayBy_L119 Q) Q x1 x2 x4 s) : x8_wayBy_L95 Q x1 x2 x4 s := fun X72 X95 X119 k72 k95 k119 => k95 _ _ _ _ (x8_wayBy_m95 (fun _ _ _ _ h => h X72 X95 X119 k72 k95 k119) (fun _ _ _ _ h => h X72 X95 X119 k72 k95 k119) (fun _ _ _ h => h X72 X95 X119 k72 k95 k119) (fun _ _ h => h) h)
theorem x8_wayBy_s119 {Q : Int → Mem → Prop} {x2 : Int} {x4 : Int} {s : Mem} (h : x8_wayBy_b119 (x8_wayBy_L72 Q) (x8_wayBy_L95 Q) (x8_wayBy_L119 Q) Q x2 x4 s) : x8_wayBy_L119 Q x2 x4 s := fun X72 X95 X119 k72 k95 k119 => k119 _ _ _ (x8_wayBy_m119 (fun _ _ _ _ h => h X72 X95 X119 k72 k95 k119) (fun _ _ _ _ h => h X72 X95 X119 k72 k95 k119) (fun _ _ _ h => h X72 X95 X119 k72 k95 k119) (fun _ _ h => h) h)
theorem x8_wayBy_mono {Q R : Int → Mem → Prop} {p1 : Int} {s : Mem} (h : x8_wayBy p1 s Q) (hQ : ∀ r s, Q r s → R r s) : x8_wayBy p1 s R := fun X72 X95 X119 k72 k95 k119 => x8_wayBy_me (fun _ _ _ _ h => h) (fun _ _ _ _ h => h) (fun _ _ _ h => h) hQ (h X72 X95 X119 (fun _ _ _ _ h => k72 _ _ _ _ (x8_wayBy_m72 (fun _ _ _ _ h => h) (fun _ _ _ _ h => h) (fun _ _ _ h => h) hQ h)) (fun _ _ _ _ h => k95 _ _ _ _ (x8_wayBy_m95 (fun _ _ _ _ h => h) (fun _ _ _ _ h => h) (fun _ _ _ h => h) hQ h)) (fun _ _ _ h => k119 _ _ _ (x8_wayBy_m119 (fun _ _ _ _ h => h) (fun _ _ _ _ h => h) (fun _ _ _ h => h) hQ h)))
def x8_wayBy_rm : Room := { frames := 0, cells := 0, slots := 0, locals := 0 }
theorem w_x8_wayBy_44 : Cond.fieldLink RX8 44 "BoltRingModel" "lift" "[J" ∈ wsX8_wayBy := by decide +kernel
theorem w_x8_wayBy_16 : Cond.fieldLink RX8 16 "BoltRingModel" "turns" "[I" ∈ wsX8_wayBy := by decide +kernel
theorem w_x8_wayBy_124 : Cond.fieldLink RX8 124 "BoltRingModel" "below" "J" ∈ wsX8_wayBy := by decide +kernel
theorem w_x8_wayBy_22 : Cond.fieldLink RX8 22 "BoltRingModel" "isBroken" "[Z" ∈ wsX8_wayBy := by decide +kernel
theorem w_x8_wayBy_51 : Cond.fieldLink RX8 51 "BoltRingModel" "way" "[I" ∈ wsX8_wayBy := by decide +kernel
theorem in_x8_wayBy_X8 : ∀ w ∈ wsX80, w ∈ wsX8_wayBy := by decide +kernel
set_option maxHeartbeats 4000000 in
set_option maxRecDepth 100000 in
theorem x8_wayBy_bd {κ : KT} {ad : Nat → Nat} {cA : Nat → ClassId} {D : va_G} {Q : State → Prop} {p1 : Int} {s : Mem} (C : CX κ (GB ad cA D) RX8 cX8_wayBy 6 wsX8_wayBy x8_wayBy_rm (some .int)) (h : x8_wayBy p1 s (RT κ (GB ad cA D) ocI Q)) : WM κ (GB ad cA D) 6 Q s 0 [(0, .ref (ad 0)), (1, vI p1)] [] := by
  obtain ⟨Z72, z72⟩ : ∃ Z : Int → Int → Int → Mem → Prop, ∀ x1 x2 x4 s, Z x1 x2 x4 s ↔ WM κ (GB ad cA D) 6 Q s 72 [(0, .ref (ad 0)), (1, vI x1), (2, vL x2), (4, vL x4)] [] := ⟨fun x1 x2 x4 s => WM κ (GB ad cA D) 6 Q s 72 [(0, .ref (ad 0)), (1, vI x1), (2, vL x2), (4, vL x4)] [], fun _ _ _ _ => Iff.rfl⟩
  obtain ⟨Z95, z95⟩ : ∃ Z : Int → Int → Int → Mem → Prop, ∀ x1 x2 x4 s, Z x1 x2 x4 s ↔ WM κ (GB ad cA D) 6 Q s 95 [(0, .ref (ad 0)), (1, vI x1), (2, vL x2), (4, vL x4)] [] := ⟨fun x1 x2 x4 s => WM κ (GB ad cA D) 6 Q s 95 [(0, .ref (ad 0)), (1, vI x1), (2, vL x2), (4, vL x4)] [], fun _ _ _ _ => Iff.rfl⟩
  obtain ⟨Z119, z119⟩ : ∃ Z : Int → Int → Mem → Prop, ∀ x2 x4 s, Z x2 x4 s ↔ WM κ (GB ad cA D) 6 Q s 119 [(2, vL x2), (4, vL x4)] [] := ⟨fun x2 x4 s => WM κ (GB ad cA D) 6 Q s 119 [(2, vL x2), (4, vL x4)] [], fun _ _ _ => Iff.rfl⟩
  refine (fun h => ?_) (h Z72 Z95 Z119 ?_ ?_ ?_)
  · refine r_aload_n C 0 dX8_wayBy_0 rfl ?_
    refine r_get (j := 14) (jz := 14) (v := .ref (ad 12)) C dX8_wayBy_1 (shB_0) rfl rfl (by decide) in_x8_wayBy_X8 w_x8_wayBy_44 rfl rfl rfl ?_
    refine r_iload_n C 1 dX8_wayBy_4 rfl ?_
    refine r_lald (nz := 6) C dX8_wayBy_5 (shB_12) rfl (by decide) ⟨h.1, ?_⟩
    have h := h.2
    refine r_lstore_n (ls' := [(2, vL (s 12 p1)), (0, .ref (ad 0)), (1, vI p1)]) C dX8_wayBy_6 rfl (by decide) rfl ?_
    refine r_aload_n C 1 dX8_wayBy_7 rfl ?_
    refine r_get (j := 4) (jz := 4) (v := .ref (ad 3)) C dX8_wayBy_8 (shB_0) rfl rfl (by decide) in_x8_wayBy_X8 w_x8_wayBy_16 rfl rfl rfl ?_
    refine r_iload_n C 2 dX8_wayBy_11 rfl ?_
    refine r_iald (nz := 6) C dX8_wayBy_12 (shB_3) rfl (by decide) ⟨h.1, ?_⟩
    have h := h.2
    refine r_i2l C dX8_wayBy_13 ⟨h.1, ?_⟩
    have h := h.2
    refine r_aload_n C 1 dX8_wayBy_14 rfl ?_
    refine r_get (j := 15) (jz := 15) (v := vL (s 0 (15 : Int))) C dX8_wayBy_15 (shB_0) rfl rfl (by decide) in_x8_wayBy_X8 w_x8_wayBy_124 rfl rfl rfl ?_
    refine r_lmul C dX8_wayBy_18 ?_
    refine r_topL (fun v1 e_v1 => ?_)
    have h := h v1 e_v1
    refine r_lstore (ls' := [(4, vL v1), (2, vL (s 12 p1)), (0, .ref (ad 0)), (1, vI p1)]) C dX8_wayBy_19 (by decide) rfl ?_
    refine r_aload_n C 2 dX8_wayBy_21 rfl ?_
    refine r_get (j := 6) (jz := 6) (v := .ref (ad 5)) C dX8_wayBy_22 (shB_0) rfl rfl (by decide) in_x8_wayBy_X8 w_x8_wayBy_22 rfl rfl rfl ?_
    refine r_iload_n C 3 dX8_wayBy_25 rfl ?_
    refine r_zald (nz := 6) C dX8_wayBy_26 (shB_5) rfl (by decide) ⟨h.1, ?_⟩
    have h := h.2
    refine r_if_eq (tgt := 57) C dX8_wayBy_27 (by decide) ⟨h.1, fun c6 => ?_, fun c6 => ?_⟩
    · have h := h.2.1 c6
      refine r_aload_n C 2 dX8_wayBy_57 rfl ?_
      refine r_get (j := 17) (jz := 17) (v := .ref (ad 14)) C dX8_wayBy_58 (shB_0) rfl rfl (by decide) in_x8_wayBy_X8 w_x8_wayBy_51 rfl rfl rfl ?_
      refine r_iload_n C 3 dX8_wayBy_61 rfl ?_
      refine r_iald (nz := 6) C dX8_wayBy_62 (shB_14) rfl (by decide) ⟨h.1, ?_⟩
      have h := h.2
      refine r_if_ne (tgt := 72) C dX8_wayBy_63 (by decide) ⟨h.1, fun c3 => ?_, fun c3 => ?_⟩
      · have h := h.2.1 c3
        exact r_perm [2, 3, 1, 0] rfl ((z72 _ _ _ _).1 h)
      · have h := h.2.2 c3
        refine r_lload_n C 1 dX8_wayBy_66 rfl ?_
        refine r_lconst (z := 0) C dX8_wayBy_67 rfl ?_
        refine r_lcmp_le (tgt := 112) C dX8_wayBy_68 dX8_wayBy_69 (by decide) ⟨h.1, fun c2 => ?_, fun c2 => ?_⟩
        · have h := h.2.1 c2
          refine r_aload_n C 2 dX8_wayBy_112 rfl ?_
          refine r_get (j := 17) (jz := 17) (v := .ref (ad 14)) C dX8_wayBy_113 (shB_0) rfl rfl (by decide) in_x8_wayBy_X8 w_x8_wayBy_51 rfl rfl rfl ?_
          refine r_iload_n C 3 dX8_wayBy_116 rfl ?_
          refine r_iald (nz := 6) C dX8_wayBy_117 (shB_14) rfl (by decide) ⟨h.1, ?_⟩
          have h := h.2
          exact r_ireturn C dX8_wayBy_118 h
        · have h := h.2.2 c2
          exact r_perm [2, 3, 1, 0] rfl ((z72 _ _ _ _).1 h)
    · have h := h.2.2 c6
      refine r_lload_n C 1 dX8_wayBy_30 rfl ?_
      refine r_lconst (z := 0) C dX8_wayBy_31 rfl ?_
      refine r_lcmp_le (tgt := 40) C dX8_wayBy_32 dX8_wayBy_33 (by decide) ⟨h.1, fun c5 => ?_, fun c5 => ?_⟩
      · have h := h.2.1 c5
        refine r_lload_n C 1 dX8_wayBy_40 rfl ?_
        refine r_lconst (z := 0) C dX8_wayBy_41 rfl ?_
        refine r_lcmp_ge (tgt := 50) C dX8_wayBy_42 dX8_wayBy_43 (by decide) ⟨h.1, fun c4 => ?_, fun c4 => ?_⟩
        · have h := h.2.1 c4
          refine r_aload_n C 2 dX8_wayBy_50 rfl ?_
          refine r_get (j := 17) (jz := 17) (v := .ref (ad 14)) C dX8_wayBy_51 (shB_0) rfl rfl (by decide) in_x8_wayBy_X8 w_x8_wayBy_51 rfl rfl rfl ?_
          refine r_iload_n C 3 dX8_wayBy_54 rfl ?_
          refine r_iald (nz := 6) C dX8_wayBy_55 (shB_14) rfl (by decide) ⟨h.1, ?_⟩
          have h := h.2
          exact r_ireturn C dX8_wayBy_56 h
        · have h := h.2.2 c4
          refine r_iconst C dX8_wayBy_46 ?_
          refine r_goto (tgt := 56) C dX8_wayBy_47 (by decide) ?_
          exact r_ireturn C dX8_wayBy_56 h
      · have h := h.2.2 c5
        refine r_iconst C dX8_wayBy_36 ?_
        refine r_goto (tgt := 56) C dX8_wayBy_37 (by decide) ?_
        exact r_ireturn C dX8_wayBy_56 h
  · intro x1 x2 x4 s h
    refine (z72 _ _ _ _).2 ?_
    refine r_aload_n C 0 dX8_wayBy_72 rfl ?_
    refine r_get (j := 17) (jz := 17) (v := .ref (ad 14)) C dX8_wayBy_73 (shB_0) rfl rfl (by decide) in_x8_wayBy_X8 w_x8_wayBy_51 rfl rfl rfl ?_
    refine r_iload_n C 1 dX8_wayBy_76 rfl ?_
    refine r_iald (nz := 6) C dX8_wayBy_77 (shB_14) rfl (by decide) ⟨h.1, ?_⟩
    have h := h.2
    refine r_iconst C dX8_wayBy_78 ?_
    refine r_icmp_ne (tgt := 95) C dX8_wayBy_79 (by decide) ⟨h.1, fun c9 => ?_, fun c9 => ?_⟩
    · have h := h.2.1 c9
      exact r_perm [0, 1, 2, 3] rfl ((z95 _ _ _ _).1 h)
    · have h := h.2.2 c9
      refine r_lload_n C 2 dX8_wayBy_82 rfl ?_
      refine r_lconst (z := 0) C dX8_wayBy_83 rfl ?_
      refine r_lcmp_lt (tgt := 95) C dX8_wayBy_84 dX8_wayBy_85 (by decide) ⟨h.1, fun c8 => ?_, fun c8 => ?_⟩
      · have h := h.2.1 c8
        exact r_perm [0, 1, 2, 3] rfl ((z95 _ _ _ _).1 h)
      · have h := h.2.2 c8
        refine r_lload_n C 2 dX8_wayBy_88 rfl ?_
        refine r_lload C 3 dX8_wayBy_89 rfl ?_
        refine r_lcmp_le (tgt := 112) C dX8_wayBy_91 dX8_wayBy_92 (by decide) ⟨h.1, fun c7 => ?_, fun c7 => ?_⟩
        · have h := h.2.1 c7
          refine r_aload_n C 0 dX8_wayBy_112 rfl ?_
          refine r_get (j := 17) (jz := 17) (v := .ref (ad 14)) C dX8_wayBy_113 (shB_0) rfl rfl (by decide) in_x8_wayBy_X8 w_x8_wayBy_51 rfl rfl rfl ?_
          refine r_iload_n C 1 dX8_wayBy_116 rfl ?_
          refine r_iald (nz := 6) C dX8_wayBy_117 (shB_14) rfl (by decide) ⟨h.1, ?_⟩
          have h := h.2
          exact r_ireturn C dX8_wayBy_118 h
        · have h := h.2.2 c7
          exact r_perm [0, 1, 2, 3] rfl ((z95 _ _ _ _).1 h)
  · intro x1 x2 x4 s h
    refine (z95 _ _ _ _).2 ?_
    refine r_aload_n C 0 dX8_wayBy_95 rfl ?_
    refine r_get (j := 17) (jz := 17) (v := .ref (ad 14)) C dX8_wayBy_96 (shB_0) rfl rfl (by decide) in_x8_wayBy_X8 w_x8_wayBy_51 rfl rfl rfl ?_
    refine r_iload_n C 1 dX8_wayBy_99 rfl ?_
    refine r_iald (nz := 6) C dX8_wayBy_100 (shB_14) rfl (by decide) ⟨h.1, ?_⟩
    have h := h.2
    refine r_iconst C dX8_wayBy_101 ?_
    refine r_icmp_ne (tgt := 119) C dX8_wayBy_102 (by decide) ⟨h.1, fun c11 => ?_, fun c11 => ?_⟩
    · have h := h.2.1 c11
      exact r_perm [2, 3] rfl ((z119 _ _ _).1 h)
    · have h := h.2.2 c11
      refine r_lload_n C 2 dX8_wayBy_105 rfl ?_
      refine r_lload C 3 dX8_wayBy_106 rfl ?_
      refine r_lcmp_lt (tgt := 119) C dX8_wayBy_108 dX8_wayBy_109 (by decide) ⟨h.1, fun c10 => ?_, fun c10 => ?_⟩
      · have h := h.2.1 c10
        exact r_perm [2, 3] rfl ((z119 _ _ _).1 h)
      · have h := h.2.2 c10
        refine r_aload_n C 0 dX8_wayBy_112 rfl ?_
        refine r_get (j := 17) (jz := 17) (v := .ref (ad 14)) C dX8_wayBy_113 (shB_0) rfl rfl (by decide) in_x8_wayBy_X8 w_x8_wayBy_51 rfl rfl rfl ?_
        refine r_iload_n C 1 dX8_wayBy_116 rfl ?_
        refine r_iald (nz := 6) C dX8_wayBy_117 (shB_14) rfl (by decide) ⟨h.1, ?_⟩
        have h := h.2
        exact r_ireturn C dX8_wayBy_118 h
  · intro x2 x4 s h
    refine (z119 _ _ _).2 ?_
    refine r_lload_n C 0 dX8_wayBy_119 rfl ?_
    refine r_lconst (z := 0) C dX8_wayBy_120 rfl ?_
    refine r_lcmp_ge (tgt := 129) C dX8_wayBy_121 dX8_wayBy_122 (by decide) ⟨h.1, fun c13 => ?_, fun c13 => ?_⟩
    · have h := h.2.1 c13
      refine r_lload_n C 0 dX8_wayBy_129 rfl ?_
      refine r_lload C 1 dX8_wayBy_130 rfl ?_
      refine r_lcmp_le (tgt := 140) C dX8_wayBy_132 dX8_wayBy_133 (by decide) ⟨h.1, fun c12 => ?_, fun c12 => ?_⟩
      · have h := h.2.1 c12
        refine r_iconst C dX8_wayBy_140 ?_
        exact r_ireturn C dX8_wayBy_141 h
      · have h := h.2.2 c12
        refine r_iconst C dX8_wayBy_136 ?_
        refine r_goto (tgt := 141) C dX8_wayBy_137 (by decide) ?_
        exact r_ireturn C dX8_wayBy_141 h
    · have h := h.2.2 c13
      refine r_iconst C dX8_wayBy_125 ?_
      refine r_goto (tgt := 141) C dX8_wayBy_126 (by decide) ?_
      exact r_ireturn C dX8_wayBy_141 h
theorem x8_wayBy_ct (l : Launch) (ad : Nat → Nat) (cA : Nat → ClassId) (D : va_G) (p1 : Int) (s : Mem) : MG l yX8_wayBy wsX8_wayBy x8_wayBy_rm ocI [.ref (ad 0), vI p1] (GB ad cA D) s (x8_wayBy p1 s) :=
  m_met (own := RX8) (nL := 6) (by decide) rfl rfl (Nat.le_of_ble_eq_true rfl) rfl rfl rfl (fun κ hl C Q Pst hW hQ => x8_wayBy_bd C (x8_wayBy_mono hW hQ))

def x8_isSo_be (X4 : Int → Int → Mem → Prop) (X36 : Int → Int → Mem → Prop) (Q : Int → Mem → Prop)  (s : Mem) : Prop :=
  X4 (1 : Int) (0 : Int) s
def x8_isSo_b4 (X4 : Int → Int → Mem → Prop) (X36 : Int → Int → Mem → Prop) (Q : Int → Mem → Prop) (x1 : Int) (x2 : Int) (s : Mem) : Prop :=
  (InI x2 ∧ InI (s 0 (0 : Int))) ∧ ((s 0 (0 : Int)) ≤ x2 → ((0 : Int) ≤ x1 ∧ x1 ≤ 1) ∧ Q x1 s) ∧ (x2 < (s 0 (0 : Int)) → x8_wayBy x2 s (fun r2 s1 => InI x1 ∧ (x1 = (0 : Int) → X36 x2 r2 s1) ∧ (¬ x1 = (0 : Int) → ((0 : Int) ≤ x2 ∧ x2 < 6) ∧ (InI r2 ∧ InI (s1 14 x2)) ∧ (¬ r2 = (s1 14 x2) → X36 x2 r2 s1) ∧ (r2 = (s1 14 x2) → ((0 : Int) ≤ x2 ∧ x2 < 6) ∧ ∀ s3 : Mem, s3 = m_upd s1 14 x2 r2 → X4 (1 : Int) (x2 + (1 : Int)) s3))))
def x8_isSo_b36 (X4 : Int → Int → Mem → Prop) (X36 : Int → Int → Mem → Prop) (Q : Int → Mem → Prop) (x2 : Int) (x3 : Int) (s : Mem) : Prop :=
  ((0 : Int) ≤ x2 ∧ x2 < 6) ∧ ∀ s7 : Mem, s7 = m_upd s 14 x2 x3 → X4 (0 : Int) (x2 + (1 : Int)) s7
theorem x8_isSo_me {X4 Y4 : Int → Int → Mem → Prop} {X36 Y36 : Int → Int → Mem → Prop} {Q R : Int → Mem → Prop} (hX4 : ∀ x1 x2 s, X4 x1 x2 s → Y4 x1 x2 s) (hX36 : ∀ x2 x3 s, X36 x2 x3 s → Y36 x2 x3 s) (hQ : ∀ r s, Q r s → R r s)  {s : Mem} (h : x8_isSo_be X4 X36 Q  s) : x8_isSo_be Y4 Y36 R  s :=
  hX4 _ _ _ h
theorem x8_isSo_m4 {X4 Y4 : Int → Int → Mem → Prop} {X36 Y36 : Int → Int → Mem → Prop} {Q R : Int → Mem → Prop} (hX4 : ∀ x1 x2 s, X4 x1 x2 s → Y4 x1 x2 s) (hX36 : ∀ x2 x3 s, X36 x2 x3 s → Y36 x2 x3 s) (hQ : ∀ r s, Q r s → R r s) {x1 : Int} {x2 : Int} {s : Mem} (h : x8_isSo_b4 X4 X36 Q x1 x2 s) : x8_isSo_b4 Y4 Y36 R x1 x2 s :=
  ⟨h.1, fun c => have h := h.2.1 c; ⟨h.1, hQ _ _ h.2⟩, fun c => have h := h.2.2 c; x8_wayBy_mono h (fun r2 s1 h => ⟨h.1, fun c => have h := h.2.1 c; hX36 _ _ _ h, fun c => have h := h.2.2 c; ⟨h.1, have h := h.2; ⟨h.1, fun c => have h := h.2.1 c; hX36 _ _ _ h, fun c => have h := h.2.2 c; ⟨h.1, have h := h.2; fun s3 e_s3 => have h := h s3 e_s3; hX4 _ _ _ h⟩⟩⟩⟩)⟩
theorem x8_isSo_m36 {X4 Y4 : Int → Int → Mem → Prop} {X36 Y36 : Int → Int → Mem → Prop} {Q R : Int → Mem → Prop} (hX4 : ∀ x1 x2 s, X4 x1 x2 s → Y4 x1 x2 s) (hX36 : ∀ x2 x3 s, X36 x2 x3 s → Y36 x2 x3 s) (hQ : ∀ r s, Q r s → R r s) {x2 : Int} {x3 : Int} {s : Mem} (h : x8_isSo_b36 X4 X36 Q x2 x3 s) : x8_isSo_b36 Y4 Y36 R x2 x3 s :=
  ⟨h.1, have h := h.2; fun s7 e_s7 => have h := h s7 e_s7; hX4 _ _ _ h⟩
def x8_isSo  (s : Mem) (Q : Int → Mem → Prop) : Prop := ∀ (X4 : Int → Int → Mem → Prop) (X36 : Int → Int → Mem → Prop), (∀ x1 x2 s, x8_isSo_b4 X4 X36 Q x1 x2 s → X4 x1 x2 s) → (∀ x2 x3 s, x8_isSo_b36 X4 X36 Q x2 x3 s → X36 x2 x3 s) → x8_isSo_be X4 X36 Q  s
def x8_isSo_L4 (Q : Int → Mem → Prop) (x1 : Int) (x2 : Int) (s : Mem) : Prop := ∀ (X4 : Int → Int → Mem → Prop) (X36 : Int → Int → Mem → Prop), (∀ x1 x2 s, x8_isSo_b4 X4 X36 Q x1 x2 s → X4 x1 x2 s) → (∀ x2 x3 s, x8_isSo_b36 X4 X36 Q x2 x3 s → X36 x2 x3 s) → X4 x1 x2 s
def x8_isSo_L36 (Q : Int → Mem → Prop) (x2 : Int) (x3 : Int) (s : Mem) : Prop := ∀ (X4 : Int → Int → Mem → Prop) (X36 : Int → Int → Mem → Prop), (∀ x1 x2 s, x8_isSo_b4 X4 X36 Q x1 x2 s → X4 x1 x2 s) → (∀ x2 x3 s, x8_isSo_b36 X4 X36 Q x2 x3 s → X36 x2 x3 s) → X36 x2 x3 s
theorem x8_isSo_i {Q : Int → Mem → Prop}  {s : Mem} (h : x8_isSo_be (x8_isSo_L4 Q) (x8_isSo_L36 Q) Q  s) : x8_isSo  s Q := fun X4 X36 k4 k36 => x8_isSo_me (fun _ _ _ h => h X4 X36 k4 k36) (fun _ _ _ h => h X4 X36 k4 k36) (fun _ _ h => h) h
theorem x8_isSo_s4 {Q : Int → Mem → Prop} {x1 : Int} {x2 : Int} {s : Mem} (h : x8_isSo_b4 (x8_isSo_L4 Q) (x8_isSo_L36 Q) Q x1 x2 s) : x8_isSo_L4 Q x1 x2 s := fun X4 X36 k4 k36 => k4 _ _ _ (x8_isSo_m4 (fun _ _ _ h => h X4 X36 k4 k36) (fun _ _ _ h => h X4 X36 k4 k36) (fun _ _ h => h) h)
theorem x8_isSo_s36 {Q : Int → Mem → Prop} {x2 : Int} {x3 : Int} {s : Mem} (h : x8_isSo_b36 (x8_isSo_L4 Q) (x8_isSo_L36 Q) Q x2 x3 s) : x8_isSo_L36 Q x2 x3 s := fun X4 X36 k4 k36 => k36 _ _ _ (x8_isSo_m36 (fun _ _ _ h => h X4 X36 k4 k36) (fun _ _ _ h => h X4 X36 k4 k36) (fun _ _ h => h) h)
theorem x8_isSo_mono {Q R : Int → Mem → Prop}  {s : Mem} (h : x8_isSo  s Q) (hQ : ∀ r s, Q r s → R r s) : x8_isSo  s R := fun X4 X36 k4 k36 => x8_isSo_me (fun _ _ _ h => h) (fun _ _ _ h => h) hQ (h X4 X36 (fun _ _ _ h => k4 _ _ _ (x8_isSo_m4 (fun _ _ _ h => h) (fun _ _ _ h => h) hQ h)) (fun _ _ _ h => k36 _ _ _ (x8_isSo_m36 (fun _ _ _ h => h) (fun _ _ _ h => h) hQ h)))
def x8_isSo_rm : Room := { frames := 1, cells := 0, slots := 0, locals := 25 }
theorem w_x8_isSo_86 : Cond.fieldLink RX8 86 "BoltRingModel" "n" "I" ∈ wsX8_isSo := by decide +kernel
theorem w_x8_isSo_51 : Cond.fieldLink RX8 51 "BoltRingModel" "way" "[I" ∈ wsX8_isSo := by decide +kernel
theorem in_x8_isSo_X8 : ∀ w ∈ wsX80, w ∈ wsX8_isSo := by decide +kernel
set_option maxHeartbeats 4000000 in
set_option maxRecDepth 100000 in
theorem x8_isSo_bd {κ : KT} {ad : Nat → Nat} {cA : Nat → ClassId} {D : va_G} {Q : State → Prop}  {s : Mem} (C : CX κ (GB ad cA D) RX8 cX8_isSo 4 wsX8_isSo x8_isSo_rm (some .boolean)) (h : x8_isSo  s (RT κ (GB ad cA D) ocI Q)) : WM κ (GB ad cA D) 4 Q s 0 [(0, .ref (ad 0))] [] := by
  obtain ⟨Z4, z4⟩ : ∃ Z : Int → Int → Mem → Prop, ∀ x1 x2 s, Z x1 x2 s ↔ WM κ (GB ad cA D) 4 Q s 4 [(0, .ref (ad 0)), (1, vI x1), (2, vI x2)] [] := ⟨fun x1 x2 s => WM κ (GB ad cA D) 4 Q s 4 [(0, .ref (ad 0)), (1, vI x1), (2, vI x2)] [], fun _ _ _ => Iff.rfl⟩
  obtain ⟨Z36, z36⟩ : ∃ Z : Int → Int → Mem → Prop, ∀ x2 x3 s, Z x2 x3 s ↔ WM κ (GB ad cA D) 4 Q s 36 [(0, .ref (ad 0)), (2, vI x2), (3, vI x3)] [] := ⟨fun x2 x3 s => WM κ (GB ad cA D) 4 Q s 36 [(0, .ref (ad 0)), (2, vI x2), (3, vI x3)] [], fun _ _ _ => Iff.rfl⟩
  refine (fun h => ?_) (h Z4 Z36 ?_ ?_)
  · refine r_iconst C dX8_isSo_0 ?_
    refine r_istore_n (ls' := [(1, vI (1 : Int)), (0, .ref (ad 0))]) C dX8_isSo_1 rfl (by decide) rfl ?_
    refine r_iconst C dX8_isSo_2 ?_
    refine r_istore_n (ls' := [(2, vI (0 : Int)), (1, vI (1 : Int)), (0, .ref (ad 0))]) C dX8_isSo_3 rfl (by decide) rfl ?_
    exact r_perm [2, 1, 0] rfl ((z4 _ _ _).1 h)
  · intro x1 x2 s h
    refine (z4 _ _ _).2 ?_
    refine r_iload_n C 2 dX8_isSo_4 rfl ?_
    refine r_aload_n C 0 dX8_isSo_5 rfl ?_
    refine r_get (j := 0) (jz := 0) (v := vI (s 0 (0 : Int))) C dX8_isSo_6 (shB_0) rfl rfl (by decide) in_x8_isSo_X8 w_x8_isSo_86 rfl rfl rfl ?_
    refine r_icmp_ge (tgt := 51) C dX8_isSo_9 (by decide) ⟨h.1, fun c6 => ?_, fun c6 => ?_⟩
    · have h := h.2.1 c6
      refine r_iload_n C 1 dX8_isSo_51 rfl ?_
      exact r_zreturn C dX8_isSo_52 h
    · have h := h.2.2 c6
      refine r_aload_n C 0 dX8_isSo_12 rfl ?_
      refine r_iload_n C 2 dX8_isSo_13 rfl ?_
      refine r_callV (As := [vI x2]) (o := 0) (n := 1) C dX8_isSo_14 (x8_wayBy_ct κ.1.2.1 ad cA D x2 s) gX8_isSo_X8_wayBy rfl ⟨rfl, rfl⟩ (by decide +kernel) (by decide) (shB_0) rfl rfl rfl (Nat.le_of_ble_eq_true rfl) (fun _ => rfl) ?_
      refine x8_wayBy_mono h (fun r2 s1 h => ?_)
      refine r_istore_n (ls' := [(3, vI r2), (0, .ref (ad 0)), (1, vI x1), (2, vI x2)]) C dX8_isSo_17 rfl (by decide) rfl ?_
      refine r_iload_n C 2 dX8_isSo_18 rfl ?_
      refine r_if_eq (tgt := 36) C dX8_isSo_19 (by decide) ⟨h.1, fun c5 => ?_, fun c5 => ?_⟩
      · have h := h.2.1 c5
        exact r_perm [1, 3, 0] rfl ((z36 _ _ _).1 h)
      · have h := h.2.2 c5
        refine r_iload_n C 0 dX8_isSo_22 rfl ?_
        refine r_aload_n C 1 dX8_isSo_23 rfl ?_
        refine r_get (j := 17) (jz := 17) (v := .ref (ad 14)) C dX8_isSo_24 (shB_0) rfl rfl (by decide) in_x8_isSo_X8 w_x8_isSo_51 rfl rfl rfl ?_
        refine r_iload_n C 3 dX8_isSo_27 rfl ?_
        refine r_iald (nz := 6) C dX8_isSo_28 (shB_14) rfl (by decide) ⟨h.1, ?_⟩
        have h := h.2
        refine r_icmp_ne (tgt := 36) C dX8_isSo_29 (by decide) ⟨h.1, fun c4 => ?_, fun c4 => ?_⟩
        · have h := h.2.1 c4
          exact r_perm [1, 3, 0] rfl ((z36 _ _ _).1 h)
        · have h := h.2.2 c4
          refine r_iconst C dX8_isSo_32 ?_
          refine r_goto (tgt := 37) C dX8_isSo_33 (by decide) ?_
          refine r_istore_n (ls' := [(1, vI (1 : Int)), (3, vI r2), (0, .ref (ad 0)), (2, vI x2)]) C dX8_isSo_37 rfl (by decide) rfl ?_
          refine r_aload_n C 2 dX8_isSo_38 rfl ?_
          refine r_get (j := 17) (jz := 17) (v := .ref (ad 14)) C dX8_isSo_39 (shB_0) rfl rfl (by decide) in_x8_isSo_X8 w_x8_isSo_51 rfl rfl rfl ?_
          refine r_iload_n C 3 dX8_isSo_42 rfl ?_
          refine r_iload_n C 1 dX8_isSo_43 rfl ?_
          refine r_iast (nz := 6) C dX8_isSo_44 (shB_14) rfl (by decide) ⟨h.1, fun s3 e_s3 => ?_⟩
          have h := h.2 s3 e_s3
          refine r_iinc (j := 3) (ls' := [(2, vI (x2 + (1 : Int))), (1, vI (1 : Int)), (3, vI r2), (0, .ref (ad 0))]) C dX8_isSo_45 rfl (by decide) rfl ?_
          refine r_goto (tgt := 4) C dX8_isSo_48 (by decide) ?_
          exact r_perm [3, 1, 0] rfl ((z4 _ _ _).1 h)
  · intro x2 x3 s h
    refine (z36 _ _ _).2 ?_
    refine r_iconst C dX8_isSo_36 ?_
    refine r_istore_n (ls' := [(1, vI (0 : Int)), (0, .ref (ad 0)), (2, vI x2), (3, vI x3)]) C dX8_isSo_37 rfl (by decide) rfl ?_
    refine r_aload_n C 1 dX8_isSo_38 rfl ?_
    refine r_get (j := 17) (jz := 17) (v := .ref (ad 14)) C dX8_isSo_39 (shB_0) rfl rfl (by decide) in_x8_isSo_X8 w_x8_isSo_51 rfl rfl rfl ?_
    refine r_iload_n C 2 dX8_isSo_42 rfl ?_
    refine r_iload_n C 3 dX8_isSo_43 rfl ?_
    refine r_iast (nz := 6) C dX8_isSo_44 (shB_14) rfl (by decide) ⟨h.1, fun s7 e_s7 => ?_⟩
    have h := h.2 s7 e_s7
    refine r_iinc (j := 2) (ls' := [(2, vI (x2 + (1 : Int))), (1, vI (0 : Int)), (0, .ref (ad 0)), (3, vI x3)]) C dX8_isSo_45 rfl (by decide) rfl ?_
    refine r_goto (tgt := 4) C dX8_isSo_48 (by decide) ?_
    exact r_perm [2, 1, 0] rfl ((z4 _ _ _).1 h)
theorem x8_isSo_ct (l : Launch) (ad : Nat → Nat) (cA : Nat → ClassId) (D : va_G)  (s : Mem) : MG l yX8_isSo wsX8_isSo x8_isSo_rm ocI [.ref (ad 0)] (GB ad cA D) s (x8_isSo  s) :=
  m_met (own := RX8) (nL := 4) (by decide) rfl rfl (Nat.le_of_ble_eq_true rfl) rfl rfl rfl (fun κ hl C Q Pst hW hQ => x8_isSo_bd C (x8_isSo_mono hW hQ))

def x8_fits_be (X4 : Int → Int → Mem → Prop) (Q : Int → Mem → Prop)  (s : Mem) : Prop :=
  X4 (1 : Int) (0 : Int) s
def x8_fits_b4 (X4 : Int → Int → Mem → Prop) (Q : Int → Mem → Prop) (x1 : Int) (x2 : Int) (s : Mem) : Prop :=
  (InI x2 ∧ InI (s 0 (0 : Int))) ∧ ((s 0 (0 : Int)) ≤ x2 → ((0 : Int) ≤ x1 ∧ x1 ≤ 1) ∧ Q x1 s) ∧ (x2 < (s 0 (0 : Int)) → InI x1 ∧ (x1 = (0 : Int) → X4 (0 : Int) (x2 + (1 : Int)) s) ∧ (¬ x1 = (0 : Int) → x8_wayBy x2 s (fun r2 s1 => ((0 : Int) ≤ x2 ∧ x2 < 6) ∧ (InI r2 ∧ InI (s1 14 x2)) ∧ (¬ r2 = (s1 14 x2) → X4 (0 : Int) (x2 + (1 : Int)) s1) ∧ (r2 = (s1 14 x2) → X4 (1 : Int) (x2 + (1 : Int)) s1))))
theorem x8_fits_me {X4 Y4 : Int → Int → Mem → Prop} {Q R : Int → Mem → Prop} (hX4 : ∀ x1 x2 s, X4 x1 x2 s → Y4 x1 x2 s) (hQ : ∀ r s, Q r s → R r s)  {s : Mem} (h : x8_fits_be X4 Q  s) : x8_fits_be Y4 R  s :=
  hX4 _ _ _ h
theorem x8_fits_m4 {X4 Y4 : Int → Int → Mem → Prop} {Q R : Int → Mem → Prop} (hX4 : ∀ x1 x2 s, X4 x1 x2 s → Y4 x1 x2 s) (hQ : ∀ r s, Q r s → R r s) {x1 : Int} {x2 : Int} {s : Mem} (h : x8_fits_b4 X4 Q x1 x2 s) : x8_fits_b4 Y4 R x1 x2 s :=
  ⟨h.1, fun c => have h := h.2.1 c; ⟨h.1, hQ _ _ h.2⟩, fun c => have h := h.2.2 c; ⟨h.1, fun c => have h := h.2.1 c; hX4 _ _ _ h, fun c => have h := h.2.2 c; x8_wayBy_mono h (fun r2 s1 h => ⟨h.1, have h := h.2; ⟨h.1, fun c => have h := h.2.1 c; hX4 _ _ _ h, fun c => have h := h.2.2 c; hX4 _ _ _ h⟩⟩)⟩⟩
def x8_fits  (s : Mem) (Q : Int → Mem → Prop) : Prop := ∀ (X4 : Int → Int → Mem → Prop), (∀ x1 x2 s, x8_fits_b4 X4 Q x1 x2 s → X4 x1 x2 s) → x8_fits_be X4 Q  s
def x8_fits_L4 (Q : Int → Mem → Prop) (x1 : Int) (x2 : Int) (s : Mem) : Prop := ∀ (X4 : Int → Int → Mem → Prop), (∀ x1 x2 s, x8_fits_b4 X4 Q x1 x2 s → X4 x1 x2 s) → X4 x1 x2 s
theorem x8_fits_i {Q : Int → Mem → Prop}  {s : Mem} (h : x8_fits_be (x8_fits_L4 Q) Q  s) : x8_fits  s Q := fun X4 k4 => x8_fits_me (fun _ _ _ h => h X4 k4) (fun _ _ h => h) h
theorem x8_fits_s4 {Q : Int → Mem → Prop} {x1 : Int} {x2 : Int} {s : Mem} (h : x8_fits_b4 (x8_fits_L4 Q) Q x1 x2 s) : x8_fits_L4 Q x1 x2 s := fun X4 k4 => k4 _ _ _ (x8_fits_m4 (fun _ _ _ h => h X4 k4) (fun _ _ h => h) h)
theorem x8_fits_mono {Q R : Int → Mem → Prop}  {s : Mem} (h : x8_fits  s Q) (hQ : ∀ r s, Q r s → R r s) : x8_fits  s R := fun X4 k4 => x8_fits_me (fun _ _ _ h => h) hQ (h X4 (fun _ _ _ h => k4 _ _ _ (x8_fits_m4 (fun _ _ _ h => h) hQ h)))
def x8_fits_rm : Room := { frames := 1, cells := 0, slots := 0, locals := 25 }
theorem w_x8_fits_86 : Cond.fieldLink RX8 86 "BoltRingModel" "n" "I" ∈ wsX8_fits := by decide +kernel
theorem w_x8_fits_51 : Cond.fieldLink RX8 51 "BoltRingModel" "way" "[I" ∈ wsX8_fits := by decide +kernel
theorem in_x8_fits_X8 : ∀ w ∈ wsX80, w ∈ wsX8_fits := by decide +kernel
set_option maxHeartbeats 4000000 in
set_option maxRecDepth 100000 in
theorem x8_fits_bd {κ : KT} {ad : Nat → Nat} {cA : Nat → ClassId} {D : va_G} {Q : State → Prop}  {s : Mem} (C : CX κ (GB ad cA D) RX8 cX8_fits 3 wsX8_fits x8_fits_rm (some .boolean)) (h : x8_fits  s (RT κ (GB ad cA D) ocI Q)) : WM κ (GB ad cA D) 3 Q s 0 [(0, .ref (ad 0))] [] := by
  obtain ⟨Z4, z4⟩ : ∃ Z : Int → Int → Mem → Prop, ∀ x1 x2 s, Z x1 x2 s ↔ WM κ (GB ad cA D) 3 Q s 4 [(0, .ref (ad 0)), (1, vI x1), (2, vI x2)] [] := ⟨fun x1 x2 s => WM κ (GB ad cA D) 3 Q s 4 [(0, .ref (ad 0)), (1, vI x1), (2, vI x2)] [], fun _ _ _ => Iff.rfl⟩
  refine (fun h => ?_) (h Z4 ?_)
  · refine r_iconst C dX8_fits_0 ?_
    refine r_istore_n (ls' := [(1, vI (1 : Int)), (0, .ref (ad 0))]) C dX8_fits_1 rfl (by decide) rfl ?_
    refine r_iconst C dX8_fits_2 ?_
    refine r_istore_n (ls' := [(2, vI (0 : Int)), (1, vI (1 : Int)), (0, .ref (ad 0))]) C dX8_fits_3 rfl (by decide) rfl ?_
    exact r_perm [2, 1, 0] rfl ((z4 _ _ _).1 h)
  · intro x1 x2 s h
    refine (z4 _ _ _).2 ?_
    refine r_iload_n C 2 dX8_fits_4 rfl ?_
    refine r_aload_n C 0 dX8_fits_5 rfl ?_
    refine r_get (j := 0) (jz := 0) (v := vI (s 0 (0 : Int))) C dX8_fits_6 (shB_0) rfl rfl (by decide) in_x8_fits_X8 w_x8_fits_86 rfl rfl rfl ?_
    refine r_icmp_ge (tgt := 42) C dX8_fits_9 (by decide) ⟨h.1, fun c5 => ?_, fun c5 => ?_⟩
    · have h := h.2.1 c5
      refine r_iload_n C 1 dX8_fits_42 rfl ?_
      exact r_zreturn C dX8_fits_43 h
    · have h := h.2.2 c5
      refine r_iload_n C 1 dX8_fits_12 rfl ?_
      refine r_if_eq (tgt := 34) C dX8_fits_13 (by decide) ⟨h.1, fun c4 => ?_, fun c4 => ?_⟩
      · have h := h.2.1 c4
        refine r_iconst C dX8_fits_34 ?_
        refine r_istore_n (ls' := [(1, vI (0 : Int)), (0, .ref (ad 0)), (2, vI x2)]) C dX8_fits_35 rfl (by decide) rfl ?_
        refine r_iinc (j := 2) (ls' := [(2, vI (x2 + (1 : Int))), (1, vI (0 : Int)), (0, .ref (ad 0))]) C dX8_fits_36 rfl (by decide) rfl ?_
        refine r_goto (tgt := 4) C dX8_fits_39 (by decide) ?_
        exact r_perm [2, 1, 0] rfl ((z4 _ _ _).1 h)
      · have h := h.2.2 c4
        refine r_aload_n C 0 dX8_fits_16 rfl ?_
        refine r_iload_n C 2 dX8_fits_17 rfl ?_
        refine r_callV (As := [vI x2]) (o := 0) (n := 1) C dX8_fits_18 (x8_wayBy_ct κ.1.2.1 ad cA D x2 s) gX8_fits_X8_wayBy rfl ⟨rfl, rfl⟩ (by decide +kernel) (by decide) (shB_0) rfl rfl rfl (Nat.le_of_ble_eq_true rfl) (fun _ => rfl) ?_
        refine x8_wayBy_mono h (fun r2 s1 h => ?_)
        refine r_aload_n C 0 dX8_fits_21 rfl ?_
        refine r_get (j := 17) (jz := 17) (v := .ref (ad 14)) C dX8_fits_22 (shB_0) rfl rfl (by decide) in_x8_fits_X8 w_x8_fits_51 rfl rfl rfl ?_
        refine r_iload_n C 2 dX8_fits_25 rfl ?_
        refine r_iald (nz := 6) C dX8_fits_26 (shB_14) rfl (by decide) ⟨h.1, ?_⟩
        have h := h.2
        refine r_icmp_ne (tgt := 34) C dX8_fits_27 (by decide) ⟨h.1, fun c3 => ?_, fun c3 => ?_⟩
        · have h := h.2.1 c3
          refine r_iconst C dX8_fits_34 ?_
          refine r_istore_n (ls' := [(1, vI (0 : Int)), (0, .ref (ad 0)), (2, vI x2)]) C dX8_fits_35 rfl (by decide) rfl ?_
          refine r_iinc (j := 2) (ls' := [(2, vI (x2 + (1 : Int))), (1, vI (0 : Int)), (0, .ref (ad 0))]) C dX8_fits_36 rfl (by decide) rfl ?_
          refine r_goto (tgt := 4) C dX8_fits_39 (by decide) ?_
          exact r_perm [2, 1, 0] rfl ((z4 _ _ _).1 h)
        · have h := h.2.2 c3
          refine r_iconst C dX8_fits_30 ?_
          refine r_goto (tgt := 35) C dX8_fits_31 (by decide) ?_
          refine r_istore_n (ls' := [(1, vI (1 : Int)), (0, .ref (ad 0)), (2, vI x2)]) C dX8_fits_35 rfl (by decide) rfl ?_
          refine r_iinc (j := 2) (ls' := [(2, vI (x2 + (1 : Int))), (1, vI (1 : Int)), (0, .ref (ad 0))]) C dX8_fits_36 rfl (by decide) rfl ?_
          refine r_goto (tgt := 4) C dX8_fits_39 (by decide) ?_
          exact r_perm [2, 1, 0] rfl ((z4 _ _ _).1 h)
theorem x8_fits_ct (l : Launch) (ad : Nat → Nat) (cA : Nat → ClassId) (D : va_G)  (s : Mem) : MG l yX8_fits wsX8_fits x8_fits_rm ocI [.ref (ad 0)] (GB ad cA D) s (x8_fits  s) :=
  m_met (own := RX8) (nL := 3) (by decide) rfl rfl (Nat.le_of_ble_eq_true rfl) rfl rfl rfl (fun κ hl C Q Pst hW hQ => x8_fits_bd C (x8_fits_mono hW hQ))

def x8_findLifts_be (X2 : Int → Mem → Prop) (X38 : Int → Mem → Prop) (X70 : Int → Int → Mem → Prop) (X90 : Int → Int → Mem → Prop) (X100 : Int → Int → Int → Int → Mem → Prop) (Q : Int → Mem → Prop)  (s : Mem) : Prop :=
  X2 (0 : Int) s
def x8_findLifts_b2 (X2 : Int → Mem → Prop) (X38 : Int → Mem → Prop) (X70 : Int → Int → Mem → Prop) (X90 : Int → Int → Mem → Prop) (X100 : Int → Int → Int → Int → Mem → Prop) (Q : Int → Mem → Prop) (x1 : Int) (s : Mem) : Prop :=
  (InI x1 ∧ InI (s 0 (0 : Int))) ∧ ((s 0 (0 : Int)) ≤ x1 → X38 (0 : Int) s) ∧ (x1 < (s 0 (0 : Int)) → ((0 : Int) ≤ x1 ∧ x1 < 6) ∧ InI (s 5 x1) ∧ ((s 5 x1) = (0 : Int) → ((0 : Int) ≤ x1 ∧ x1 < 6) ∧ ∀ s1 : Mem, s1 = m_upd s 14 x1 (1 : Int) → X2 (x1 + (1 : Int)) s1) ∧ (¬ (s 5 x1) = (0 : Int) → ((0 : Int) ≤ x1 ∧ x1 < 6) ∧ ∀ s2 : Mem, s2 = m_upd s 14 x1 (2 : Int) → X2 (x1 + (1 : Int)) s2))
def x8_findLifts_b38 (X2 : Int → Mem → Prop) (X38 : Int → Mem → Prop) (X70 : Int → Int → Mem → Prop) (X90 : Int → Int → Mem → Prop) (X100 : Int → Int → Int → Int → Mem → Prop) (Q : Int → Mem → Prop) (x1 : Int) (s : Mem) : Prop :=
  (InI x1 ∧ InI (40 : Int)) ∧ ((40 : Int) ≤ x1 → X70 (1 : Int) (0 : Int) s) ∧ (x1 < (40 : Int) → x8_layTable s (fun _ s5 => x8_solve s5 (fun _ s6 => x8_isSo s6 (fun r8 s7 => InI r8 ∧ (r8 = (0 : Int) → X38 (x1 + (1 : Int)) s7) ∧ (¬ r8 = (0 : Int) → Q (0 : Int) s7)))))
def x8_findLifts_b70 (X2 : Int → Mem → Prop) (X38 : Int → Mem → Prop) (X70 : Int → Int → Mem → Prop) (X90 : Int → Int → Mem → Prop) (X100 : Int → Int → Int → Int → Mem → Prop) (Q : Int → Mem → Prop) (x1 : Int) (x2 : Int) (s : Mem) : Prop :=
  (InI x2 ∧ InI (s 0 (0 : Int))) ∧ ((s 0 (0 : Int)) ≤ x2 → X90 x1 (0 : Int) s) ∧ (x2 < (s 0 (0 : Int)) → X70 (x1 * (3 : Int)) (x2 + (1 : Int)) s)
def x8_findLifts_b90 (X2 : Int → Mem → Prop) (X38 : Int → Mem → Prop) (X70 : Int → Int → Mem → Prop) (X90 : Int → Int → Mem → Prop) (X100 : Int → Int → Int → Int → Mem → Prop) (Q : Int → Mem → Prop) (x1 : Int) (x2 : Int) (s : Mem) : Prop :=
  (InI x2 ∧ InI x1) ∧ (x1 ≤ x2 → Q (0 : Int) s) ∧ (x2 < x1 → X100 x1 x2 x2 (0 : Int) s)
def x8_findLifts_b100 (X2 : Int → Mem → Prop) (X38 : Int → Mem → Prop) (X70 : Int → Int → Mem → Prop) (X90 : Int → Int → Mem → Prop) (X100 : Int → Int → Int → Int → Mem → Prop) (Q : Int → Mem → Prop) (x1 : Int) (x2 : Int) (x3 : Int) (x4 : Int) (s : Mem) : Prop :=
  (InI x4 ∧ InI (s 0 (0 : Int))) ∧ ((s 0 (0 : Int)) ≤ x4 → x8_layTable s (fun _ s13 => x8_solve s13 (fun _ s14 => x8_fits s14 (fun r16 s15 => InI r16 ∧ (r16 = (0 : Int) → X90 x1 (x2 + (1 : Int)) s15) ∧ (¬ r16 = (0 : Int) → Q (0 : Int) s15))))) ∧ (x4 < (s 0 (0 : Int)) → (InI x3 ∧ InI (3 : Int) ∧ ¬ (3 : Int) = 0) ∧ ((0 : Int) ≤ x4 ∧ x4 < 6) ∧ ∀ s18 : Mem, s18 = m_upd s 14 x4 (Int.tmod x3 (3 : Int)) → (InI x3 ∧ InI (3 : Int) ∧ ¬ (3 : Int) = 0) ∧ X100 x1 x2 (Int.tdiv x3 (3 : Int)) (x4 + (1 : Int)) s18)
theorem x8_findLifts_me {X2 Y2 : Int → Mem → Prop} {X38 Y38 : Int → Mem → Prop} {X70 Y70 : Int → Int → Mem → Prop} {X90 Y90 : Int → Int → Mem → Prop} {X100 Y100 : Int → Int → Int → Int → Mem → Prop} {Q R : Int → Mem → Prop} (hX2 : ∀ x1 s, X2 x1 s → Y2 x1 s) (hX38 : ∀ x1 s, X38 x1 s → Y38 x1 s) (hX70 : ∀ x1 x2 s, X70 x1 x2 s → Y70 x1 x2 s) (hX90 : ∀ x1 x2 s, X90 x1 x2 s → Y90 x1 x2 s) (hX100 : ∀ x1 x2 x3 x4 s, X100 x1 x2 x3 x4 s → Y100 x1 x2 x3 x4 s) (hQ : ∀ r s, Q r s → R r s)  {s : Mem} (h : x8_findLifts_be X2 X38 X70 X90 X100 Q  s) : x8_findLifts_be Y2 Y38 Y70 Y90 Y100 R  s :=
  hX2 _ _ h
theorem x8_findLifts_m2 {X2 Y2 : Int → Mem → Prop} {X38 Y38 : Int → Mem → Prop} {X70 Y70 : Int → Int → Mem → Prop} {X90 Y90 : Int → Int → Mem → Prop} {X100 Y100 : Int → Int → Int → Int → Mem → Prop} {Q R : Int → Mem → Prop} (hX2 : ∀ x1 s, X2 x1 s → Y2 x1 s) (hX38 : ∀ x1 s, X38 x1 s → Y38 x1 s) (hX70 : ∀ x1 x2 s, X70 x1 x2 s → Y70 x1 x2 s) (hX90 : ∀ x1 x2 s, X90 x1 x2 s → Y90 x1 x2 s) (hX100 : ∀ x1 x2 x3 x4 s, X100 x1 x2 x3 x4 s → Y100 x1 x2 x3 x4 s) (hQ : ∀ r s, Q r s → R r s) {x1 : Int} {s : Mem} (h : x8_findLifts_b2 X2 X38 X70 X90 X100 Q x1 s) : x8_findLifts_b2 Y2 Y38 Y70 Y90 Y100 R x1 s :=
  ⟨h.1, fun c => have h := h.2.1 c; hX38 _ _ h, fun c => have h := h.2.2 c; ⟨h.1, have h := h.2; ⟨h.1, fun c => have h := h.2.1 c; ⟨h.1, have h := h.2; fun s1 e_s1 => have h := h s1 e_s1; hX2 _ _ h⟩, fun c => have h := h.2.2 c; ⟨h.1, have h := h.2; fun s2 e_s2 => have h := h s2 e_s2; hX2 _ _ h⟩⟩⟩⟩
theorem x8_findLifts_m38 {X2 Y2 : Int → Mem → Prop} {X38 Y38 : Int → Mem → Prop} {X70 Y70 : Int → Int → Mem → Prop} {X90 Y90 : Int → Int → Mem → Prop} {X100 Y100 : Int → Int → Int → Int → Mem → Prop} {Q R : Int → Mem → Prop} (hX2 : ∀ x1 s, X2 x1 s → Y2 x1 s) (hX38 : ∀ x1 s, X38 x1 s → Y38 x1 s) (hX70 : ∀ x1 x2 s, X70 x1 x2 s → Y70 x1 x2 s) (hX90 : ∀ x1 x2 s, X90 x1 x2 s → Y90 x1 x2 s) (hX100 : ∀ x1 x2 x3 x4 s, X100 x1 x2 x3 x4 s → Y100 x1 x2 x3 x4 s) (hQ : ∀ r s, Q r s → R r s) {x1 : Int} {s : Mem} (h : x8_findLifts_b38 X2 X38 X70 X90 X100 Q x1 s) : x8_findLifts_b38 Y2 Y38 Y70 Y90 Y100 R x1 s :=
  ⟨h.1, fun c => have h := h.2.1 c; hX70 _ _ _ h, fun c => have h := h.2.2 c; x8_layTable_mono h (fun _ s5 h => x8_solve_mono h (fun _ s6 h => x8_isSo_mono h (fun r8 s7 h => ⟨h.1, fun c => have h := h.2.1 c; hX38 _ _ h, fun c => have h := h.2.2 c; hQ _ _ h⟩)))⟩
theorem x8_findLifts_m70 {X2 Y2 : Int → Mem → Prop} {X38 Y38 : Int → Mem → Prop} {X70 Y70 : Int → Int → Mem → Prop} {X90 Y90 : Int → Int → Mem → Prop} {X100 Y100 : Int → Int → Int → Int → Mem → Prop} {Q R : Int → Mem → Prop} (hX2 : ∀ x1 s, X2 x1 s → Y2 x1 s) (hX38 : ∀ x1 s, X38 x1 s → Y38 x1 s) (hX70 : ∀ x1 x2 s, X70 x1 x2 s → Y70 x1 x2 s) (hX90 : ∀ x1 x2 s, X90 x1 x2 s → Y90 x1 x2 s) (hX100 : ∀ x1 x2 x3 x4 s, X100 x1 x2 x3 x4 s → Y100 x1 x2 x3 x4 s) (hQ : ∀ r s, Q r s → R r s) {x1 : Int} {x2 : Int} {s : Mem} (h : x8_findLifts_b70 X2 X38 X70 X90 X100 Q x1 x2 s) : x8_findLifts_b70 Y2 Y38 Y70 Y90 Y100 R x1 x2 s :=
  ⟨h.1, fun c => have h := h.2.1 c; hX90 _ _ _ h, fun c => have h := h.2.2 c; hX70 _ _ _ h⟩
theorem x8_findLifts_m90 {X2 Y2 : Int → Mem → Prop} {X38 Y38 : Int → Mem → Prop} {X70 Y70 : Int → Int → Mem → Prop} {X90 Y90 : Int → Int → Mem → Prop} {X100 Y100 : Int → Int → Int → Int → Mem → Prop} {Q R : Int → Mem → Prop} (hX2 : ∀ x1 s, X2 x1 s → Y2 x1 s) (hX38 : ∀ x1 s, X38 x1 s → Y38 x1 s) (hX70 : ∀ x1 x2 s, X70 x1 x2 s → Y70 x1 x2 s) (hX90 : ∀ x1 x2 s, X90 x1 x2 s → Y90 x1 x2 s) (hX100 : ∀ x1 x2 x3 x4 s, X100 x1 x2 x3 x4 s → Y100 x1 x2 x3 x4 s) (hQ : ∀ r s, Q r s → R r s) {x1 : Int} {x2 : Int} {s : Mem} (h : x8_findLifts_b90 X2 X38 X70 X90 X100 Q x1 x2 s) : x8_findLifts_b90 Y2 Y38 Y70 Y90 Y100 R x1 x2 s :=
  ⟨h.1, fun c => have h := h.2.1 c; hQ _ _ h, fun c => have h := h.2.2 c; hX100 _ _ _ _ _ h⟩
theorem x8_findLifts_m100 {X2 Y2 : Int → Mem → Prop} {X38 Y38 : Int → Mem → Prop} {X70 Y70 : Int → Int → Mem → Prop} {X90 Y90 : Int → Int → Mem → Prop} {X100 Y100 : Int → Int → Int → Int → Mem → Prop} {Q R : Int → Mem → Prop} (hX2 : ∀ x1 s, X2 x1 s → Y2 x1 s) (hX38 : ∀ x1 s, X38 x1 s → Y38 x1 s) (hX70 : ∀ x1 x2 s, X70 x1 x2 s → Y70 x1 x2 s) (hX90 : ∀ x1 x2 s, X90 x1 x2 s → Y90 x1 x2 s) (hX100 : ∀ x1 x2 x3 x4 s, X100 x1 x2 x3 x4 s → Y100 x1 x2 x3 x4 s) (hQ : ∀ r s, Q r s → R r s) {x1 : Int} {x2 : Int} {x3 : Int} {x4 : Int} {s : Mem} (h : x8_findLifts_b100 X2 X38 X70 X90 X100 Q x1 x2 x3 x4 s) : x8_findLifts_b100 Y2 Y38 Y70 Y90 Y100 R x1 x2 x3 x4 s :=
  ⟨h.1, fun c => have h := h.2.1 c; x8_layTable_mono h (fun _ s13 h => x8_solve_mono h (fun _ s14 h => x8_fits_mono h (fun r16 s15 h => ⟨h.1, fun c => have h := h.2.1 c; hX90 _ _ _ h, fun c => have h := h.2.2 c; hQ _ _ h⟩))), fun c => have h := h.2.2 c; ⟨h.1, have h := h.2; ⟨h.1, have h := h.2; fun s18 e_s18 => have h := h s18 e_s18; ⟨h.1, have h := h.2; hX100 _ _ _ _ _ h⟩⟩⟩⟩
def x8_findLifts  (s : Mem) (Q : Int → Mem → Prop) : Prop := ∀ (X2 : Int → Mem → Prop) (X38 : Int → Mem → Prop) (X70 : Int → Int → Mem → Prop) (X90 : Int → Int → Mem → Prop) (X100 : Int → Int → Int → Int → Mem → Prop), (∀ x1 s, x8_findLifts_b2 X2 X38 X70 X90 X100 Q x1 s → X2 x1 s) → (∀ x1 s, x8_findLifts_b38 X2 X38 X70 X90 X100 Q x1 s → X38 x1 s) → (∀ x1 x2 s, x8_findLifts_b70 X2 X38 X70 X90 X100 Q x1 x2 s → X70 x1 x2 s) → (∀ x1 x2 s, x8_findLifts_b90 X2 X38 X70 X90 X100 Q x1 x2 s → X90 x1 x2 s) → (∀ x1 x2 x3 x4 s, x8_findLifts_b100 X2 X38 X70 X90 X100 Q x1 x2 x3 x4 s → X100 x1 x2 x3 x4 s) → x8_findLifts_be X2 X38 X70 X90 X100 Q  s
def x8_findLifts_L2 (Q : Int → Mem → Prop) (x1 : Int) (s : Mem) : Prop := ∀ (X2 : Int → Mem → Prop) (X38 : Int → Mem → Prop) (X70 : Int → Int → Mem → Prop) (X90 : Int → Int → Mem → Prop) (X100 : Int → Int → Int → Int → Mem → Prop), (∀ x1 s, x8_findLifts_b2 X2 X38 X70 X90 X100 Q x1 s → X2 x1 s) → (∀ x1 s, x8_findLifts_b38 X2 X38 X70 X90 X100 Q x1 s → X38 x1 s) → (∀ x1 x2 s, x8_findLifts_b70 X2 X38 X70 X90 X100 Q x1 x2 s → X70 x1 x2 s) → (∀ x1 x2 s, x8_findLifts_b90 X2 X38 X70 X90 X100 Q x1 x2 s → X90 x1 x2 s) → (∀ x1 x2 x3 x4 s, x8_findLifts_b100 X2 X38 X70 X90 X100 Q x1 x2 x3 x4 s → X100 x1 x2 x3 x4 s) → X2 x1 s
def x8_findLifts_L38 (Q : Int → Mem → Prop) (x1 : Int) (s : Mem) : Prop := ∀ (X2 : Int → Mem → Prop) (X38 : Int → Mem → Prop) (X70 : Int → Int → Mem → Prop) (X90 : Int → Int → Mem → Prop) (X100 : Int → Int → Int → Int → Mem → Prop), (∀ x1 s, x8_findLifts_b2 X2 X38 X70 X90 X100 Q x1 s → X2 x1 s) → (∀ x1 s, x8_findLifts_b38 X2 X38 X70 X90 X100 Q x1 s → X38 x1 s) → (∀ x1 x2 s, x8_findLifts_b70 X2 X38 X70 X90 X100 Q x1 x2 s → X70 x1 x2 s) → (∀ x1 x2 s, x8_findLifts_b90 X2 X38 X70 X90 X100 Q x1 x2 s → X90 x1 x2 s) → (∀ x1 x2 x3 x4 s, x8_findLifts_b100 X2 X38 X70 X90 X100 Q x1 x2 x3 x4 s → X100 x1 x2 x3 x4 s) → X38 x1 s
def x8_findLifts_L70 (Q : Int → Mem → Prop) (x1 : Int) (x2 : Int) (s : Mem) : Prop := ∀ (X2 : Int → Mem → Prop) (X38 : Int → Mem → Prop) (X70 : Int → Int → Mem → Prop) (X90 : Int → Int → Mem → Prop) (X100 : Int → Int → Int → Int → Mem → Prop), (∀ x1 s, x8_findLifts_b2 X2 X38 X70 X90 X100 Q x1 s → X2 x1 s) → (∀ x1 s, x8_findLifts_b38 X2 X38 X70 X90 X100 Q x1 s → X38 x1 s) → (∀ x1 x2 s, x8_findLifts_b70 X2 X38 X70 X90 X100 Q x1 x2 s → X70 x1 x2 s) → (∀ x1 x2 s, x8_findLifts_b90 X2 X38 X70 X90 X100 Q x1 x2 s → X90 x1 x2 s) → (∀ x1 x2 x3 x4 s, x8_findLifts_b100 X2 X38 X70 X90 X100 Q x1 x2 x3 x4 s → X100 x1 x2 x3 x4 s) → X70 x1 x2 s
def x8_findLifts_L90 (Q : Int → Mem → Prop) (x1 : Int) (x2 : Int) (s : Mem) : Prop := ∀ (X2 : Int → Mem → Prop) (X38 : Int → Mem → Prop) (X70 : Int → Int → Mem → Prop) (X90 : Int → Int → Mem → Prop) (X100 : Int → Int → Int → Int → Mem → Prop), (∀ x1 s, x8_findLifts_b2 X2 X38 X70 X90 X100 Q x1 s → X2 x1 s) → (∀ x1 s, x8_findLifts_b38 X2 X38 X70 X90 X100 Q x1 s → X38 x1 s) → (∀ x1 x2 s, x8_findLifts_b70 X2 X38 X70 X90 X100 Q x1 x2 s → X70 x1 x2 s) → (∀ x1 x2 s, x8_findLifts_b90 X2 X38 X70 X90 X100 Q x1 x2 s → X90 x1 x2 s) → (∀ x1 x2 x3 x4 s, x8_findLifts_b100 X2 X38 X70 X90 X100 Q x1 x2 x3 x4 s → X100 x1 x2 x3 x4 s) → X90 x1 x2 s
def x8_findLifts_L100 (Q : Int → Mem → Prop) (x1 : Int) (x2 : Int) (x3 : Int) (x4 : Int) (s : Mem) : Prop := ∀ (X2 : Int → Mem → Prop) (X38 : Int → Mem → Prop) (X70 : Int → Int → Mem → Prop) (X90 : Int → Int → Mem → Prop) (X100 : Int → Int → Int → Int → Mem → Prop), (∀ x1 s, x8_findLifts_b2 X2 X38 X70 X90 X100 Q x1 s → X2 x1 s) → (∀ x1 s, x8_findLifts_b38 X2 X38 X70 X90 X100 Q x1 s → X38 x1 s) → (∀ x1 x2 s, x8_findLifts_b70 X2 X38 X70 X90 X100 Q x1 x2 s → X70 x1 x2 s) → (∀ x1 x2 s, x8_findLifts_b90 X2 X38 X70 X90 X100 Q x1 x2 s → X90 x1 x2 s) → (∀ x1 x2 x3 x4 s, x8_findLifts_b100 X2 X38 X70 X90 X100 Q x1 x2 x3 x4 s → X100 x1 x2 x3 x4 s) → X100 x1 x2 x3 x4 s
theorem x8_findLifts_i {Q : Int → Mem → Prop}  {s : Mem} (h : x8_findLifts_be (x8_findLifts_L2 Q) (x8_findLifts_L38 Q) (x8_findLifts_L70 Q) (x8_findLifts_L90 Q) (x8_findLifts_L100 Q) Q  s) : x8_findLifts  s Q := fun X2 X38 X70 X90 X100 k2 k38 k70 k90 k100 => x8_findLifts_me (fun _ _ h => h X2 X38 X70 X90 X100 k2 k38 k70 k90 k100) (fun _ _ h => h X2 X38 X70 X90 X100 k2 k38 k70 k90 k100) (fun _ _ _ h => h X2 X38 X70 X90 X100 k2 k38 k70 k90 k100) (fun _ _ _ h => h X2 X38 X70 X90 X100 k2 k38 k70 k90 k100) (fun _ _ _ _ _ h => h X2 X38 X70 X90 X100 k2 k38 k70 k90 k100) (fun _ _ h => h) h
theorem x8_findLifts_s2 {Q : Int → Mem → Prop} {x1 : Int} {s : Mem} (h : x8_findLifts_b2 (x8_findLifts_L2 Q) (x8_findLifts_L38 Q) (x8_findLifts_L70 Q) (x8_findLifts_L90 Q) (x8_findLifts_L100 Q) Q x1 s) : x8_findLifts_L2 Q x1 s := fun X2 X38 X70 X90 X100 k2 k38 k70 k90 k100 => k2 _ _ (x8_findLifts_m2 (fun _ _ h => h X2 X38 X70 X90 X100 k2 k38 k70 k90 k100) (fun _ _ h => h X2 X38 X70 X90 X100 k2 k38 k70 k90 k100) (fun _ _ _ h => h X2 X38 X70 X90 X100 k2 k38 k70 k90 k100) (fun _ _ _ h => h X2 X38 X70 X90 X100 k2 k38 k70 k90 k100) (fun _ _ _ _ _ h => h X2 X38 X70 X90 X100 k2 k38 k70 k90 k100) (fun _ _ h => h) h)
theorem x8_findLifts_s38 {Q : Int → Mem → Prop} {x1 : Int} {s : Mem} (h : x8_findLifts_b38 (x8_findLifts_L2 Q) (x8_findLifts_L38 Q) (x8_findLifts_L70 Q) (x8_findLifts_L90 Q) (x8_findLifts_L100 Q) Q x1 s) : x8_findLifts_L38 Q x1 s := fun X2 X38 X70 X90 X100 k2 k38 k70 k90 k100 => k38 _ _ (x8_findLifts_m38 (fun _ _ h => h X2 X38 X70 X90 X100 k2 k38 k70 k90 k100) (fun _ _ h => h X2 X38 X70 X90 X100 k2 k38 k70 k90 k100) (fun _ _ _ h => h X2 X38 X70 X90 X100 k2 k38 k70 k90 k100) (fun _ _ _ h => h X2 X38 X70 X90 X100 k2 k38 k70 k90 k100) (fun _ _ _ _ _ h => h X2 X38 X70 X90 X100 k2 k38 k70 k90 k100) (fun _ _ h => h) h)
theorem x8_findLifts_s70 {Q : Int → Mem → Prop} {x1 : Int} {x2 : Int} {s : Mem} (h : x8_findLifts_b70 (x8_findLifts_L2 Q) (x8_findLifts_L38 Q) (x8_findLifts_L70 Q) (x8_findLifts_L90 Q) (x8_findLifts_L100 Q) Q x1 x2 s) : x8_findLifts_L70 Q x1 x2 s := fun X2 X38 X70 X90 X100 k2 k38 k70 k90 k100 => k70 _ _ _ (x8_findLifts_m70 (fun _ _ h => h X2 X38 X70 X90 X100 k2 k38 k70 k90 k100) (fun _ _ h => h X2 X38 X70 X90 X100 k2 k38 k70 k90 k100) (fun _ _ _ h => h X2 X38 X70 X90 X100 k2 k38 k70 k90 k100) (fun _ _ _ h => h X2 X38 X70 X90 X100 k2 k38 k70 k90 k100) (fun _ _ _ _ _ h => h X2 X38 X70 X90 X100 k2 k38 k70 k90 k100) (fun _ _ h => h) h)
theorem x8_findLifts_s90 {Q : Int → Mem → Prop} {x1 : Int} {x2 : Int} {s : Mem} (h : x8_findLifts_b90 (x8_findLifts_L2 Q) (x8_findLifts_L38 Q) (x8_findLifts_L70 Q) (x8_findLifts_L90 Q) (x8_findLifts_L100 Q) Q x1 x2 s) : x8_findLifts_L90 Q x1 x2 s := fun X2 X38 X70 X90 X100 k2 k38 k70 k90 k100 => k90 _ _ _ (x8_findLifts_m90 (fun _ _ h => h X2 X38 X70 X90 X100 k2 k38 k70 k90 k100) (fun _ _ h => h X2 X38 X70 X90 X100 k2 k38 k70 k90 k100) (fun _ _ _ h => h X2 X38 X70 X90 X100 k2 k38 k70 k90 k100) (fun _ _ _ h => h X2 X38 X70 X90 X100 k2 k38 k70 k90 k100) (fun _ _ _ _ _ h => h X2 X38 X70 X90 X100 k2 k38 k70 k90 k100) (fun _ _ h => h) h)
theorem x8_findLifts_s100 {Q : Int → Mem → Prop} {x1 : Int} {x2 : Int} {x3 : Int} {x4 : Int} {s : Mem} (h : x8_findLifts_b100 (x8_findLifts_L2 Q) (x8_findLifts_L38 Q) (x8_findLifts_L70 Q) (x8_findLifts_L90 Q) (x8_findLifts_L100 Q) Q x1 x2 x3 x4 s) : x8_findLifts_L100 Q x1 x2 x3 x4 s := fun X2 X38 X70 X90 X100 k2 k38 k70 k90 k100 => k100 _ _ _ _ _ (x8_findLifts_m100 (fun _ _ h => h X2 X38 X70 X90 X100 k2 k38 k70 k90 k100) (fun _ _ h => h X2 X38 X70 X90 X100 k2 k38 k70 k90 k100) (fun _ _ _ h => h X2 X38 X70 X90 X100 k2 k38 k70 k90 k100) (fun _ _ _ h => h X2 X38 X70 X90 X100 k2 k38 k70 k90 k100) (fun _ _ _ _ _ h => h X2 X38 X70 X90 X100 k2 k38 k70 k90 k100) (fun _ _ h => h) h)
theorem x8_findLifts_mono {Q R : Int → Mem → Prop}  {s : Mem} (h : x8_findLifts  s Q) (hQ : ∀ r s, Q r s → R r s) : x8_findLifts  s R := fun X2 X38 X70 X90 X100 k2 k38 k70 k90 k100 => x8_findLifts_me (fun _ _ h => h) (fun _ _ h => h) (fun _ _ _ h => h) (fun _ _ _ h => h) (fun _ _ _ _ _ h => h) hQ (h X2 X38 X70 X90 X100 (fun _ _ h => k2 _ _ (x8_findLifts_m2 (fun _ _ h => h) (fun _ _ h => h) (fun _ _ _ h => h) (fun _ _ _ h => h) (fun _ _ _ _ _ h => h) hQ h)) (fun _ _ h => k38 _ _ (x8_findLifts_m38 (fun _ _ h => h) (fun _ _ h => h) (fun _ _ _ h => h) (fun _ _ _ h => h) (fun _ _ _ _ _ h => h) hQ h)) (fun _ _ _ h => k70 _ _ _ (x8_findLifts_m70 (fun _ _ h => h) (fun _ _ h => h) (fun _ _ _ h => h) (fun _ _ _ h => h) (fun _ _ _ _ _ h => h) hQ h)) (fun _ _ _ h => k90 _ _ _ (x8_findLifts_m90 (fun _ _ h => h) (fun _ _ h => h) (fun _ _ _ h => h) (fun _ _ _ h => h) (fun _ _ _ _ _ h => h) hQ h)) (fun _ _ _ _ _ h => k100 _ _ _ _ _ (x8_findLifts_m100 (fun _ _ h => h) (fun _ _ h => h) (fun _ _ _ h => h) (fun _ _ _ h => h) (fun _ _ _ _ _ h => h) hQ h)))
def x8_findLifts_rm : Room := { frames := 2, cells := 0, slots := 0, locals := 48 }
theorem w_x8_findLifts_86 : Cond.fieldLink RX8 86 "BoltRingModel" "n" "I" ∈ wsX8_findLifts := by decide +kernel
theorem w_x8_findLifts_51 : Cond.fieldLink RX8 51 "BoltRingModel" "way" "[I" ∈ wsX8_findLifts := by decide +kernel
theorem w_x8_findLifts_22 : Cond.fieldLink RX8 22 "BoltRingModel" "isBroken" "[Z" ∈ wsX8_findLifts := by decide +kernel
theorem in_x8_findLifts_X8 : ∀ w ∈ wsX80, w ∈ wsX8_findLifts := by decide +kernel
set_option maxHeartbeats 4000000 in
set_option maxRecDepth 100000 in
theorem x8_findLifts_bd {κ : KT} {ad : Nat → Nat} {cA : Nat → ClassId} {D : va_G} {Q : State → Prop}  {s : Mem} (C : CX κ (GB ad cA D) RX8 cX8_findLifts 5 wsX8_findLifts x8_findLifts_rm none) (h : x8_findLifts  s (RT κ (GB ad cA D) ocV Q)) : WM κ (GB ad cA D) 5 Q s 0 [(0, .ref (ad 0))] [] := by
  obtain ⟨Z2, z2⟩ : ∃ Z : Int → Mem → Prop, ∀ x1 s, Z x1 s ↔ WM κ (GB ad cA D) 5 Q s 2 [(0, .ref (ad 0)), (1, vI x1)] [] := ⟨fun x1 s => WM κ (GB ad cA D) 5 Q s 2 [(0, .ref (ad 0)), (1, vI x1)] [], fun _ _ => Iff.rfl⟩
  obtain ⟨Z38, z38⟩ : ∃ Z : Int → Mem → Prop, ∀ x1 s, Z x1 s ↔ WM κ (GB ad cA D) 5 Q s 38 [(0, .ref (ad 0)), (1, vI x1)] [] := ⟨fun x1 s => WM κ (GB ad cA D) 5 Q s 38 [(0, .ref (ad 0)), (1, vI x1)] [], fun _ _ => Iff.rfl⟩
  obtain ⟨Z70, z70⟩ : ∃ Z : Int → Int → Mem → Prop, ∀ x1 x2 s, Z x1 x2 s ↔ WM κ (GB ad cA D) 5 Q s 70 [(0, .ref (ad 0)), (1, vI x1), (2, vI x2)] [] := ⟨fun x1 x2 s => WM κ (GB ad cA D) 5 Q s 70 [(0, .ref (ad 0)), (1, vI x1), (2, vI x2)] [], fun _ _ _ => Iff.rfl⟩
  obtain ⟨Z90, z90⟩ : ∃ Z : Int → Int → Mem → Prop, ∀ x1 x2 s, Z x1 x2 s ↔ WM κ (GB ad cA D) 5 Q s 90 [(0, .ref (ad 0)), (1, vI x1), (2, vI x2)] [] := ⟨fun x1 x2 s => WM κ (GB ad cA D) 5 Q s 90 [(0, .ref (ad 0)), (1, vI x1), (2, vI x2)] [], fun _ _ _ => Iff.rfl⟩
  obtain ⟨Z100, z100⟩ : ∃ Z : Int → Int → Int → Int → Mem → Prop, ∀ x1 x2 x3 x4 s, Z x1 x2 x3 x4 s ↔ WM κ (GB ad cA D) 5 Q s 100 [(0, .ref (ad 0)), (1, vI x1), (2, vI x2), (3, vI x3), (4, vI x4)] [] := ⟨fun x1 x2 x3 x4 s => WM κ (GB ad cA D) 5 Q s 100 [(0, .ref (ad 0)), (1, vI x1), (2, vI x2), (3, vI x3), (4, vI x4)] [], fun _ _ _ _ _ => Iff.rfl⟩
  refine (fun h => ?_) (h Z2 Z38 Z70 Z90 Z100 ?_ ?_ ?_ ?_ ?_)
  · refine r_iconst C dX8_findLifts_0 ?_
    refine r_istore_n (ls' := [(1, vI (0 : Int)), (0, .ref (ad 0))]) C dX8_findLifts_1 rfl (by decide) rfl ?_
    exact r_perm [1, 0] rfl ((z2 _ _).1 h)
  · intro x1 s h
    refine (z2 _ _).2 ?_
    refine r_iload_n C 1 dX8_findLifts_2 rfl ?_
    refine r_aload_n C 0 dX8_findLifts_3 rfl ?_
    refine r_get (j := 0) (jz := 0) (v := vI (s 0 (0 : Int))) C dX8_findLifts_4 (shB_0) rfl rfl (by decide) in_x8_findLifts_X8 w_x8_findLifts_86 rfl rfl rfl ?_
    refine r_icmp_ge (tgt := 36) C dX8_findLifts_7 (by decide) ⟨h.1, fun c4 => ?_, fun c4 => ?_⟩
    · have h := h.2.1 c4
      refine r_iconst C dX8_findLifts_36 ?_
      refine r_istore_n (ls' := [(1, vI (0 : Int)), (0, .ref (ad 0))]) C dX8_findLifts_37 rfl (by decide) rfl ?_
      exact r_perm [1, 0] rfl ((z38 _ _).1 h)
    · have h := h.2.2 c4
      refine r_aload_n C 0 dX8_findLifts_10 rfl ?_
      refine r_get (j := 17) (jz := 17) (v := .ref (ad 14)) C dX8_findLifts_11 (shB_0) rfl rfl (by decide) in_x8_findLifts_X8 w_x8_findLifts_51 rfl rfl rfl ?_
      refine r_iload_n C 1 dX8_findLifts_14 rfl ?_
      refine r_aload_n C 0 dX8_findLifts_15 rfl ?_
      refine r_get (j := 6) (jz := 6) (v := .ref (ad 5)) C dX8_findLifts_16 (shB_0) rfl rfl (by decide) in_x8_findLifts_X8 w_x8_findLifts_22 rfl rfl rfl ?_
      refine r_iload_n C 1 dX8_findLifts_19 rfl ?_
      refine r_zald (nz := 6) C dX8_findLifts_20 (shB_5) rfl (by decide) ⟨h.1, ?_⟩
      have h := h.2
      refine r_if_eq (tgt := 28) C dX8_findLifts_21 (by decide) ⟨h.1, fun c3 => ?_, fun c3 => ?_⟩
      · have h := h.2.1 c3
        refine r_iconst C dX8_findLifts_28 ?_
        refine r_iast (nz := 6) C dX8_findLifts_29 (shB_14) rfl (by decide) ⟨h.1, fun s1 e_s1 => ?_⟩
        have h := h.2 s1 e_s1
        refine r_iinc (j := 1) (ls' := [(1, vI (x1 + (1 : Int))), (0, .ref (ad 0))]) C dX8_findLifts_30 rfl (by decide) rfl ?_
        refine r_goto (tgt := 2) C dX8_findLifts_33 (by decide) ?_
        exact r_perm [1, 0] rfl ((z2 _ _).1 h)
      · have h := h.2.2 c3
        refine r_iconst C dX8_findLifts_24 ?_
        refine r_goto (tgt := 29) C dX8_findLifts_25 (by decide) ?_
        refine r_iast (nz := 6) C dX8_findLifts_29 (shB_14) rfl (by decide) ⟨h.1, fun s2 e_s2 => ?_⟩
        have h := h.2 s2 e_s2
        refine r_iinc (j := 1) (ls' := [(1, vI (x1 + (1 : Int))), (0, .ref (ad 0))]) C dX8_findLifts_30 rfl (by decide) rfl ?_
        refine r_goto (tgt := 2) C dX8_findLifts_33 (by decide) ?_
        exact r_perm [1, 0] rfl ((z2 _ _).1 h)
  · intro x1 s h
    refine (z38 _ _).2 ?_
    refine r_iload_n C 1 dX8_findLifts_38 rfl ?_
    refine r_bipush C dX8_findLifts_39 (by decide) ?_
    refine r_icmp_ge (tgt := 66) C dX8_findLifts_41 (by decide) ⟨h.1, fun c10 => ?_, fun c10 => ?_⟩
    · have h := h.2.1 c10
      refine r_iconst C dX8_findLifts_66 ?_
      refine r_istore_n (ls' := [(1, vI (1 : Int)), (0, .ref (ad 0))]) C dX8_findLifts_67 rfl (by decide) rfl ?_
      refine r_iconst C dX8_findLifts_68 ?_
      refine r_istore_n (ls' := [(2, vI (0 : Int)), (1, vI (1 : Int)), (0, .ref (ad 0))]) C dX8_findLifts_69 rfl (by decide) rfl ?_
      exact r_perm [2, 1, 0] rfl ((z70 _ _ _).1 h)
    · have h := h.2.2 c10
      refine r_aload_n C 0 dX8_findLifts_44 rfl ?_
      refine r_callV (As := []) (o := 0) (n := 0) C dX8_findLifts_45 (x8_layTable_ct κ.1.2.1 ad cA D s) gX8_findLifts_X8_layTable rfl ⟨rfl, rfl⟩ (by decide +kernel) (by decide) (shB_0) rfl rfl rfl (Nat.le_of_ble_eq_true rfl) (fun _ => rfl) ?_
      refine x8_layTable_mono h (fun _ s5 h => ?_)
      refine r_aload_n C 0 dX8_findLifts_48 rfl ?_
      refine r_callV (As := []) (o := 0) (n := 0) C dX8_findLifts_49 (x8_solve_ct κ.1.2.1 ad cA D s5) gX8_findLifts_X8_solve rfl ⟨rfl, rfl⟩ (by decide +kernel) (by decide) (shB_0) rfl rfl rfl (Nat.le_of_ble_eq_true rfl) (fun _ => rfl) ?_
      refine x8_solve_mono h (fun _ s6 h => ?_)
      refine r_aload_n C 0 dX8_findLifts_52 rfl ?_
      refine r_callV (As := []) (o := 0) (n := 0) C dX8_findLifts_53 (x8_isSo_ct κ.1.2.1 ad cA D s6) gX8_findLifts_X8_isSo rfl ⟨rfl, rfl⟩ (by decide +kernel) (by decide) (shB_0) rfl rfl rfl (Nat.le_of_ble_eq_true rfl) (fun _ => rfl) ?_
      refine x8_isSo_mono h (fun r8 s7 h => ?_)
      refine r_if_eq (tgt := 60) C dX8_findLifts_56 (by decide) ⟨h.1, fun c9 => ?_, fun c9 => ?_⟩
      · have h := h.2.1 c9
        refine r_iinc (j := 1) (ls' := [(1, vI (x1 + (1 : Int))), (0, .ref (ad 0))]) C dX8_findLifts_60 rfl (by decide) rfl ?_
        refine r_goto (tgt := 38) C dX8_findLifts_63 (by decide) ?_
        exact r_perm [1, 0] rfl ((z38 _ _).1 h)
      · have h := h.2.2 c9
        exact r_return C dX8_findLifts_59 h
  · intro x1 x2 s h
    refine (z70 _ _ _).2 ?_
    refine r_iload_n C 2 dX8_findLifts_70 rfl ?_
    refine r_aload_n C 0 dX8_findLifts_71 rfl ?_
    refine r_get (j := 0) (jz := 0) (v := vI (s 0 (0 : Int))) C dX8_findLifts_72 (shB_0) rfl rfl (by decide) in_x8_findLifts_X8 w_x8_findLifts_86 rfl rfl rfl ?_
    refine r_icmp_ge (tgt := 88) C dX8_findLifts_75 (by decide) ⟨h.1, fun c11 => ?_, fun c11 => ?_⟩
    · have h := h.2.1 c11
      refine r_iconst C dX8_findLifts_88 ?_
      refine r_istore_n (ls' := [(2, vI (0 : Int)), (0, .ref (ad 0)), (1, vI x1)]) C dX8_findLifts_89 rfl (by decide) rfl ?_
      exact r_perm [1, 2, 0] rfl ((z90 _ _ _).1 h)
    · have h := h.2.2 c11
      refine r_iload_n C 1 dX8_findLifts_78 rfl ?_
      refine r_iconst C dX8_findLifts_79 ?_
      refine r_imul C dX8_findLifts_80 ?_
      refine r_istore_n (ls' := [(1, vI (x1 * (3 : Int))), (0, .ref (ad 0)), (2, vI x2)]) C dX8_findLifts_81 rfl (by decide) rfl ?_
      refine r_iinc (j := 2) (ls' := [(2, vI (x2 + (1 : Int))), (1, vI (x1 * (3 : Int))), (0, .ref (ad 0))]) C dX8_findLifts_82 rfl (by decide) rfl ?_
      refine r_goto (tgt := 70) C dX8_findLifts_85 (by decide) ?_
      exact r_perm [2, 1, 0] rfl ((z70 _ _ _).1 h)
  · intro x1 x2 s h
    refine (z90 _ _ _).2 ?_
    refine r_iload_n C 2 dX8_findLifts_90 rfl ?_
    refine r_iload_n C 1 dX8_findLifts_91 rfl ?_
    refine r_icmp_ge (tgt := 151) C dX8_findLifts_92 (by decide) ⟨h.1, fun c12 => ?_, fun c12 => ?_⟩
    · have h := h.2.1 c12
      exact r_return C dX8_findLifts_151 h
    · have h := h.2.2 c12
      refine r_iload_n C 2 dX8_findLifts_95 rfl ?_
      refine r_istore_n (ls' := [(3, vI x2), (0, .ref (ad 0)), (1, vI x1), (2, vI x2)]) C dX8_findLifts_96 rfl (by decide) rfl ?_
      refine r_iconst C dX8_findLifts_97 ?_
      refine r_istore (ls' := [(4, vI (0 : Int)), (3, vI x2), (0, .ref (ad 0)), (1, vI x1), (2, vI x2)]) C dX8_findLifts_98 (by decide) rfl ?_
      exact r_perm [2, 3, 4, 1, 0] rfl ((z100 _ _ _ _ _).1 h)
  · intro x1 x2 x3 x4 s h
    refine (z100 _ _ _ _ _).2 ?_
    refine r_iload C 4 dX8_findLifts_100 rfl ?_
    refine r_aload_n C 0 dX8_findLifts_102 rfl ?_
    refine r_get (j := 0) (jz := 0) (v := vI (s 0 (0 : Int))) C dX8_findLifts_103 (shB_0) rfl rfl (by decide) in_x8_findLifts_X8 w_x8_findLifts_86 rfl rfl rfl ?_
    refine r_icmp_ge (tgt := 129) C dX8_findLifts_106 (by decide) ⟨h.1, fun c19 => ?_, fun c19 => ?_⟩
    · have h := h.2.1 c19
      refine r_aload_n C 0 dX8_findLifts_129 rfl ?_
      refine r_callV (As := []) (o := 0) (n := 0) C dX8_findLifts_130 (x8_layTable_ct κ.1.2.1 ad cA D s) gX8_findLifts_X8_layTable rfl ⟨rfl, rfl⟩ (by decide +kernel) (by decide) (shB_0) rfl rfl rfl (Nat.le_of_ble_eq_true rfl) (fun _ => rfl) ?_
      refine x8_layTable_mono h (fun _ s13 h => ?_)
      refine r_aload_n C 0 dX8_findLifts_133 rfl ?_
      refine r_callV (As := []) (o := 0) (n := 0) C dX8_findLifts_134 (x8_solve_ct κ.1.2.1 ad cA D s13) gX8_findLifts_X8_solve rfl ⟨rfl, rfl⟩ (by decide +kernel) (by decide) (shB_0) rfl rfl rfl (Nat.le_of_ble_eq_true rfl) (fun _ => rfl) ?_
      refine x8_solve_mono h (fun _ s14 h => ?_)
      refine r_aload_n C 0 dX8_findLifts_137 rfl ?_
      refine r_callV (As := []) (o := 0) (n := 0) C dX8_findLifts_138 (x8_fits_ct κ.1.2.1 ad cA D s14) gX8_findLifts_X8_fits rfl ⟨rfl, rfl⟩ (by decide +kernel) (by decide) (shB_0) rfl rfl rfl (Nat.le_of_ble_eq_true rfl) (fun _ => rfl) ?_
      refine x8_fits_mono h (fun r16 s15 h => ?_)
      refine r_if_eq (tgt := 145) C dX8_findLifts_141 (by decide) ⟨h.1, fun c17 => ?_, fun c17 => ?_⟩
      · have h := h.2.1 c17
        refine r_iinc (j := 2) (ls' := [(2, vI (x2 + (1 : Int))), (0, .ref (ad 0)), (1, vI x1), (3, vI x3), (4, vI x4)]) C dX8_findLifts_145 rfl (by decide) rfl ?_
        refine r_goto (tgt := 90) C dX8_findLifts_148 (by decide) ?_
        exact r_perm [1, 2, 0] rfl ((z90 _ _ _).1 h)
      · have h := h.2.2 c17
        exact r_return C dX8_findLifts_144 h
    · have h := h.2.2 c19
      refine r_aload_n C 0 dX8_findLifts_109 rfl ?_
      refine r_get (j := 17) (jz := 17) (v := .ref (ad 14)) C dX8_findLifts_110 (shB_0) rfl rfl (by decide) in_x8_findLifts_X8 w_x8_findLifts_51 rfl rfl rfl ?_
      refine r_iload C 4 dX8_findLifts_113 rfl ?_
      refine r_iload_n C 3 dX8_findLifts_115 rfl ?_
      refine r_iconst C dX8_findLifts_116 ?_
      refine r_irem C dX8_findLifts_117 ⟨h.1, ?_⟩
      have h := h.2
      refine r_iast (nz := 6) C dX8_findLifts_118 (shB_14) rfl (by decide) ⟨h.1, fun s18 e_s18 => ?_⟩
      have h := h.2 s18 e_s18
      refine r_iload_n C 3 dX8_findLifts_119 rfl ?_
      refine r_iconst C dX8_findLifts_120 ?_
      refine r_idiv C dX8_findLifts_121 ⟨h.1, ?_⟩
      have h := h.2
      refine r_istore_n (ls' := [(3, vI (Int.tdiv x3 (3 : Int))), (0, .ref (ad 0)), (1, vI x1), (2, vI x2), (4, vI x4)]) C dX8_findLifts_122 rfl (by decide) rfl ?_
      refine r_iinc (j := 4) (ls' := [(4, vI (x4 + (1 : Int))), (3, vI (Int.tdiv x3 (3 : Int))), (0, .ref (ad 0)), (1, vI x1), (2, vI x2)]) C dX8_findLifts_123 rfl (by decide) rfl ?_
      refine r_goto (tgt := 100) C dX8_findLifts_126 (by decide) ?_
      exact r_perm [2, 3, 4, 1, 0] rfl ((z100 _ _ _ _ _).1 h)
theorem x8_findLifts_ct (l : Launch) (ad : Nat → Nat) (cA : Nat → ClassId) (D : va_G)  (s : Mem) : MG l yX8_findLifts wsX8_findLifts x8_findLifts_rm ocV [.ref (ad 0)] (GB ad cA D) s (x8_findLifts  s) :=
  m_met (own := RX8) (nL := 5) (by decide) rfl rfl (Nat.le_of_ble_eq_true rfl) rfl rfl rfl (fun κ hl C Q Pst hW hQ => x8_findLifts_bd C (x8_findLifts_mono hW hQ))

def x8_pull (p1 : Int) (s : Mem) (Q : Int → Mem → Prop) : Prop :=
  ((0 : Int) ≤ p1 ∧ p1 < 6) ∧ (InI (s 3 p1)) ∧ ((0 : Int) ≤ p1 ∧ p1 < 6) ∧ ∀ v1 : Int, v1 = (((s 3 p1) * (s 0 (15 : Int))) - (s 12 p1)) → ((0 : Int) ≤ p1 ∧ p1 < 6) ∧ InI (s 5 p1) ∧ (¬ (s 5 p1) = (0 : Int) → Q (0 : Int) s) ∧ ((s 5 p1) = (0 : Int) → (InL v1 ∧ InL (0 : Int)) ∧ ((0 : Int) ≤ v1 → ((0 : Int) ≤ p1 ∧ p1 < 6) ∧ (InI (s 1 p1)) ∧ Q ((s 1 p1) * v1) s) ∧ (v1 < (0 : Int) → Q (0 : Int) s))
theorem x8_pull_mono {Q R : Int → Mem → Prop} {p1 : Int} {s : Mem} (h : x8_pull p1 s Q) (hQ : ∀ r s, Q r s → R r s) : x8_pull p1 s R :=
  ⟨h.1, have h := h.2; ⟨h.1, have h := h.2; ⟨h.1, have h := h.2; fun v1 e_v1 => have h := h v1 e_v1; ⟨h.1, have h := h.2; ⟨h.1, fun c => have h := h.2.1 c; hQ _ _ h, fun c => have h := h.2.2 c; ⟨h.1, fun c => have h := h.2.1 c; ⟨h.1, have h := h.2; ⟨h.1, have h := h.2; hQ _ _ h⟩⟩, fun c => have h := h.2.2 c; hQ _ _ h⟩⟩⟩⟩⟩⟩
def x8_pull_rm : Room := { frames := 0, cells := 0, slots := 0, locals := 0 }
theorem w_x8_pull_16 : Cond.fieldLink RX8 16 "BoltRingModel" "turns" "[I" ∈ wsX8_pull := by decide +kernel
theorem w_x8_pull_124 : Cond.fieldLink RX8 124 "BoltRingModel" "below" "J" ∈ wsX8_pull := by decide +kernel
theorem w_x8_pull_44 : Cond.fieldLink RX8 44 "BoltRingModel" "lift" "[J" ∈ wsX8_pull := by decide +kernel
theorem w_x8_pull_22 : Cond.fieldLink RX8 22 "BoltRingModel" "isBroken" "[Z" ∈ wsX8_pull := by decide +kernel
theorem w_x8_pull_7 : Cond.fieldLink RX8 7 "BoltRingModel" "stiff" "[I" ∈ wsX8_pull := by decide +kernel
theorem in_x8_pull_X8 : ∀ w ∈ wsX80, w ∈ wsX8_pull := by decide +kernel
set_option maxHeartbeats 4000000 in
set_option maxRecDepth 100000 in
theorem x8_pull_bd {κ : KT} {ad : Nat → Nat} {cA : Nat → ClassId} {D : va_G} {Q : State → Prop} {p1 : Int} {s : Mem} (C : CX κ (GB ad cA D) RX8 cX8_pull 4 wsX8_pull x8_pull_rm (some .long)) (h : x8_pull p1 s (RT κ (GB ad cA D) ocL Q)) : WM κ (GB ad cA D) 4 Q s 0 [(0, .ref (ad 0)), (1, vI p1)] [] := by
  refine r_aload_n C 0 dX8_pull_0 rfl ?_
  refine r_get (j := 4) (jz := 4) (v := .ref (ad 3)) C dX8_pull_1 (shB_0) rfl rfl (by decide) in_x8_pull_X8 w_x8_pull_16 rfl rfl rfl ?_
  refine r_iload_n C 1 dX8_pull_4 rfl ?_
  refine r_iald (nz := 6) C dX8_pull_5 (shB_3) rfl (by decide) ⟨h.1, ?_⟩
  have h := h.2
  refine r_i2l C dX8_pull_6 ⟨h.1, ?_⟩
  have h := h.2
  refine r_aload_n C 0 dX8_pull_7 rfl ?_
  refine r_get (j := 15) (jz := 15) (v := vL (s 0 (15 : Int))) C dX8_pull_8 (shB_0) rfl rfl (by decide) in_x8_pull_X8 w_x8_pull_124 rfl rfl rfl ?_
  refine r_lmul C dX8_pull_11 ?_
  refine r_aload_n C 0 dX8_pull_12 rfl ?_
  refine r_get (j := 14) (jz := 14) (v := .ref (ad 12)) C dX8_pull_13 (shB_0) rfl rfl (by decide) in_x8_pull_X8 w_x8_pull_44 rfl rfl rfl ?_
  refine r_iload_n C 1 dX8_pull_16 rfl ?_
  refine r_lald (nz := 6) C dX8_pull_17 (shB_12) rfl (by decide) ⟨h.1, ?_⟩
  have h := h.2
  refine r_lsub C dX8_pull_18 ?_
  refine r_topL (fun v1 e_v1 => ?_)
  have h := h v1 e_v1
  refine r_lstore_n (ls' := [(2, vL v1), (0, .ref (ad 0)), (1, vI p1)]) C dX8_pull_19 rfl (by decide) rfl ?_
  refine r_aload_n C 1 dX8_pull_20 rfl ?_
  refine r_get (j := 6) (jz := 6) (v := .ref (ad 5)) C dX8_pull_21 (shB_0) rfl rfl (by decide) in_x8_pull_X8 w_x8_pull_22 rfl rfl rfl ?_
  refine r_iload_n C 2 dX8_pull_24 rfl ?_
  refine r_zald (nz := 6) C dX8_pull_25 (shB_5) rfl (by decide) ⟨h.1, ?_⟩
  have h := h.2
  refine r_if_ne (tgt := 35) C dX8_pull_26 (by decide) ⟨h.1, fun c3 => ?_, fun c3 => ?_⟩
  · have h := h.2.1 c3
    refine r_lconst (z := 0) C dX8_pull_35 rfl ?_
    refine r_goto (tgt := 48) C dX8_pull_36 (by decide) ?_
    exact r_lreturn C dX8_pull_48 h
  · have h := h.2.2 c3
    refine r_lload_n C 0 dX8_pull_29 rfl ?_
    refine r_lconst (z := 0) C dX8_pull_30 rfl ?_
    refine r_lcmp_ge (tgt := 39) C dX8_pull_31 dX8_pull_32 (by decide) ⟨h.1, fun c2 => ?_, fun c2 => ?_⟩
    · have h := h.2.1 c2
      refine r_aload_n C 1 dX8_pull_39 rfl ?_
      refine r_get (j := 2) (jz := 2) (v := .ref (ad 1)) C dX8_pull_40 (shB_0) rfl rfl (by decide) in_x8_pull_X8 w_x8_pull_7 rfl rfl rfl ?_
      refine r_iload_n C 2 dX8_pull_43 rfl ?_
      refine r_iald (nz := 6) C dX8_pull_44 (shB_1) rfl (by decide) ⟨h.1, ?_⟩
      have h := h.2
      refine r_i2l C dX8_pull_45 ⟨h.1, ?_⟩
      have h := h.2
      refine r_lload_n C 0 dX8_pull_46 rfl ?_
      refine r_lmul C dX8_pull_47 ?_
      exact r_lreturn C dX8_pull_48 h
    · have h := h.2.2 c2
      refine r_lconst (z := 0) C dX8_pull_35 rfl ?_
      refine r_goto (tgt := 48) C dX8_pull_36 (by decide) ?_
      exact r_lreturn C dX8_pull_48 h
theorem x8_pull_ct (l : Launch) (ad : Nat → Nat) (cA : Nat → ClassId) (D : va_G) (p1 : Int) (s : Mem) : MG l yX8_pull wsX8_pull x8_pull_rm ocL [.ref (ad 0), vI p1] (GB ad cA D) s (x8_pull p1 s) :=
  m_met (own := RX8) (nL := 4) (by decide) rfl rfl (Nat.le_of_ble_eq_true rfl) rfl rfl rfl (fun κ hl C Q Pst hW hQ => x8_pull_bd C (x8_pull_mono hW hQ))

def x8_press (p1 : Int) (s : Mem) (Q : Int → Mem → Prop) : Prop :=
  ((0 : Int) ≤ p1 ∧ p1 < 6) ∧ (InL (s 12 p1) ∧ InL (0 : Int)) ∧ ((0 : Int) ≤ (s 12 p1) → ((0 : Int) ≤ p1 ∧ p1 < 6) ∧ (InI (s 2 p1)) ∧ ((0 : Int) ≤ p1 ∧ p1 < 6) ∧ Q ((s 2 p1) * (s 12 p1)) s) ∧ ((s 12 p1) < (0 : Int) → Q (0 : Int) s)
theorem x8_press_mono {Q R : Int → Mem → Prop} {p1 : Int} {s : Mem} (h : x8_press p1 s Q) (hQ : ∀ r s, Q r s → R r s) : x8_press p1 s R :=
  ⟨h.1, have h := h.2; ⟨h.1, fun c => have h := h.2.1 c; ⟨h.1, have h := h.2; ⟨h.1, have h := h.2; ⟨h.1, have h := h.2; hQ _ _ h⟩⟩⟩, fun c => have h := h.2.2 c; hQ _ _ h⟩⟩
def x8_press_rm : Room := { frames := 0, cells := 0, slots := 0, locals := 0 }
theorem w_x8_press_44 : Cond.fieldLink RX8 44 "BoltRingModel" "lift" "[J" ∈ wsX8_press := by decide +kernel
theorem w_x8_press_13 : Cond.fieldLink RX8 13 "BoltRingModel" "pad" "[I" ∈ wsX8_press := by decide +kernel
theorem in_x8_press_X8 : ∀ w ∈ wsX80, w ∈ wsX8_press := by decide +kernel
set_option maxHeartbeats 4000000 in
set_option maxRecDepth 100000 in
theorem x8_press_bd {κ : KT} {ad : Nat → Nat} {cA : Nat → ClassId} {D : va_G} {Q : State → Prop} {p1 : Int} {s : Mem} (C : CX κ (GB ad cA D) RX8 cX8_press 2 wsX8_press x8_press_rm (some .long)) (h : x8_press p1 s (RT κ (GB ad cA D) ocL Q)) : WM κ (GB ad cA D) 2 Q s 0 [(0, .ref (ad 0)), (1, vI p1)] [] := by
  refine r_aload_n C 0 dX8_press_0 rfl ?_
  refine r_get (j := 14) (jz := 14) (v := .ref (ad 12)) C dX8_press_1 (shB_0) rfl rfl (by decide) in_x8_press_X8 w_x8_press_44 rfl rfl rfl ?_
  refine r_iload_n C 1 dX8_press_4 rfl ?_
  refine r_lald (nz := 6) C dX8_press_5 (shB_12) rfl (by decide) ⟨h.1, ?_⟩
  have h := h.2
  refine r_lconst (z := 0) C dX8_press_6 rfl ?_
  refine r_lcmp_ge (tgt := 15) C dX8_press_7 dX8_press_8 (by decide) ⟨h.1, fun c1 => ?_, fun c1 => ?_⟩
  · have h := h.2.1 c1
    refine r_aload_n C 0 dX8_press_15 rfl ?_
    refine r_get (j := 3) (jz := 3) (v := .ref (ad 2)) C dX8_press_16 (shB_0) rfl rfl (by decide) in_x8_press_X8 w_x8_press_13 rfl rfl rfl ?_
    refine r_iload_n C 1 dX8_press_19 rfl ?_
    refine r_iald (nz := 6) C dX8_press_20 (shB_2) rfl (by decide) ⟨h.1, ?_⟩
    have h := h.2
    refine r_i2l C dX8_press_21 ⟨h.1, ?_⟩
    have h := h.2
    refine r_aload_n C 0 dX8_press_22 rfl ?_
    refine r_get (j := 14) (jz := 14) (v := .ref (ad 12)) C dX8_press_23 (shB_0) rfl rfl (by decide) in_x8_press_X8 w_x8_press_44 rfl rfl rfl ?_
    refine r_iload_n C 1 dX8_press_26 rfl ?_
    refine r_lald (nz := 6) C dX8_press_27 (shB_12) rfl (by decide) ⟨h.1, ?_⟩
    have h := h.2
    refine r_lmul C dX8_press_28 ?_
    exact r_lreturn C dX8_press_29 h
  · have h := h.2.2 c1
    refine r_lconst (z := 0) C dX8_press_11 rfl ?_
    refine r_goto (tgt := 29) C dX8_press_12 (by decide) ?_
    exact r_lreturn C dX8_press_29 h
theorem x8_press_ct (l : Launch) (ad : Nat → Nat) (cA : Nat → ClassId) (D : va_G) (p1 : Int) (s : Mem) : MG l yX8_press wsX8_press x8_press_rm ocL [.ref (ad 0), vI p1] (GB ad cA D) s (x8_press p1 s) :=
  m_met (own := RX8) (nL := 2) (by decide) rfl rfl (Nat.le_of_ble_eq_true rfl) rfl rfl rfl (fun κ hl C Q Pst hW hQ => x8_press_bd C (x8_press_mono hW hQ))

def x8_told_be (X17 : Int → Int → Int → Mem → Prop) (Q : Int → Mem → Prop) (p1 : Int) (p2 : Int) (s : Mem) : Prop :=
  x8_noBolt p1 s (fun r2 s1 => InI r2 ∧ (r2 = (0 : Int) → x8_findLifts s1 (fun _ s3 => X17 p1 p2 (0 : Int) s3)) ∧ (¬ r2 = (0 : Int) → Q (-100001 : Int) s1))
def x8_told_b17 (X17 : Int → Int → Int → Mem → Prop) (Q : Int → Mem → Prop) (x1 : Int) (x2 : Int) (x3 : Int) (s : Mem) : Prop :=
  ((0 : Int) ≤ x3 ∧ x3 < 6) ∧ (InI (s 6 x3) ∧ InI x1) ∧ ((s 6 x3) = x1 → InI x2 ∧ ((x2 = 0) → ((0 : Int) ≤ x1 ∧ x1 < 6) ∧ Q (s 1 x1) s) ∧ ((x2 = 1) → ((0 : Int) ≤ x1 ∧ x1 < 6) ∧ Q (s 2 x1) s) ∧ ((x2 = 2) → ((0 : Int) ≤ x1 ∧ x1 < 6) ∧ Q (s 3 x1) s) ∧ ((x2 = 3) → ((0 : Int) ≤ x1 ∧ x1 < 6) ∧ Q (s 4 x1) s) ∧ ((x2 = 4) → ((0 : Int) ≤ x1 ∧ x1 < 6) ∧ x8_bit (s 5 x1) s (fun r7 s6 => Q r7 s6)) ∧ ((x2 = 5) → x8_pull x1 s (fun r9 s8 => (InL r9 ∧ InL (0 : Int)) ∧ (¬ r9 = (0 : Int) → x8_bit (0 : Int) s8 (fun r11 s10 => Q r11 s10)) ∧ (r9 = (0 : Int) → x8_bit (1 : Int) s8 (fun r13 s12 => Q r13 s12)))) ∧ ((x2 = 6) → x8_press x1 s (fun r16 s15 => (InL r16 ∧ InL (0 : Int)) ∧ (¬ r16 = (0 : Int) → x8_bit (0 : Int) s15 (fun r18 s17 => Q r18 s17)) ∧ (r16 = (0 : Int) → x8_bit (1 : Int) s15 (fun r20 s19 => Q r20 s19)))) ∧ ((x2 = 7) → Q x3 s) ∧ ((x2 < 0 ∨ 7 < x2) → Q (-100002 : Int) s)) ∧ (¬ (s 6 x3) = x1 → X17 x1 x2 (x3 + (1 : Int)) s)
theorem x8_told_me {X17 Y17 : Int → Int → Int → Mem → Prop} {Q R : Int → Mem → Prop} (hX17 : ∀ x1 x2 x3 s, X17 x1 x2 x3 s → Y17 x1 x2 x3 s) (hQ : ∀ r s, Q r s → R r s) {p1 : Int} {p2 : Int} {s : Mem} (h : x8_told_be X17 Q p1 p2 s) : x8_told_be Y17 R p1 p2 s :=
  x8_noBolt_mono h (fun r2 s1 h => ⟨h.1, fun c => have h := h.2.1 c; x8_findLifts_mono h (fun _ s3 h => hX17 _ _ _ _ h), fun c => have h := h.2.2 c; hQ _ _ h⟩)
theorem x8_told_m17 {X17 Y17 : Int → Int → Int → Mem → Prop} {Q R : Int → Mem → Prop} (hX17 : ∀ x1 x2 x3 s, X17 x1 x2 x3 s → Y17 x1 x2 x3 s) (hQ : ∀ r s, Q r s → R r s) {x1 : Int} {x2 : Int} {x3 : Int} {s : Mem} (h : x8_told_b17 X17 Q x1 x2 x3 s) : x8_told_b17 Y17 R x1 x2 x3 s :=
  ⟨h.1, have h := h.2; ⟨h.1, fun c => have h := h.2.1 c; ⟨h.1, fun c => have h := h.2.1 c; ⟨h.1, have h := h.2; hQ _ _ h⟩, fun c => have h := h.2.2.1 c; ⟨h.1, have h := h.2; hQ _ _ h⟩, fun c => have h := h.2.2.2.1 c; ⟨h.1, have h := h.2; hQ _ _ h⟩, fun c => have h := h.2.2.2.2.1 c; ⟨h.1, have h := h.2; hQ _ _ h⟩, fun c => have h := h.2.2.2.2.2.1 c; ⟨h.1, have h := h.2; x8_bit_mono h (fun r7 s6 h => hQ _ _ h)⟩, fun c => have h := h.2.2.2.2.2.2.1 c; x8_pull_mono h (fun r9 s8 h => ⟨h.1, fun c => have h := h.2.1 c; x8_bit_mono h (fun r11 s10 h => hQ _ _ h), fun c => have h := h.2.2 c; x8_bit_mono h (fun r13 s12 h => hQ _ _ h)⟩), fun c => have h := h.2.2.2.2.2.2.2.1 c; x8_press_mono h (fun r16 s15 h => ⟨h.1, fun c => have h := h.2.1 c; x8_bit_mono h (fun r18 s17 h => hQ _ _ h), fun c => have h := h.2.2 c; x8_bit_mono h (fun r20 s19 h => hQ _ _ h)⟩), fun c => have h := h.2.2.2.2.2.2.2.2.1 c; hQ _ _ h, fun c => have h := h.2.2.2.2.2.2.2.2.2 c; hQ _ _ h⟩, fun c => have h := h.2.2 c; hX17 _ _ _ _ h⟩⟩
def x8_told (p1 : Int) (p2 : Int) (s : Mem) (Q : Int → Mem → Prop) : Prop := ∀ (X17 : Int → Int → Int → Mem → Prop), (∀ x1 x2 x3 s, x8_told_b17 X17 Q x1 x2 x3 s → X17 x1 x2 x3 s) → x8_told_be X17 Q p1 p2 s
def x8_told_L17 (Q : Int → Mem → Prop) (x1 : Int) (x2 : Int) (x3 : Int) (s : Mem) : Prop := ∀ (X17 : Int → Int → Int → Mem → Prop), (∀ x1 x2 x3 s, x8_told_b17 X17 Q x1 x2 x3 s → X17 x1 x2 x3 s) → X17 x1 x2 x3 s
theorem x8_told_i {Q : Int → Mem → Prop} {p1 : Int} {p2 : Int} {s : Mem} (h : x8_told_be (x8_told_L17 Q) Q p1 p2 s) : x8_told p1 p2 s Q := fun X17 k17 => x8_told_me (fun _ _ _ _ h => h X17 k17) (fun _ _ h => h) h
theorem x8_told_s17 {Q : Int → Mem → Prop} {x1 : Int} {x2 : Int} {x3 : Int} {s : Mem} (h : x8_told_b17 (x8_told_L17 Q) Q x1 x2 x3 s) : x8_told_L17 Q x1 x2 x3 s := fun X17 k17 => k17 _ _ _ _ (x8_told_m17 (fun _ _ _ _ h => h X17 k17) (fun _ _ h => h) h)
theorem x8_told_mono {Q R : Int → Mem → Prop} {p1 : Int} {p2 : Int} {s : Mem} (h : x8_told p1 p2 s Q) (hQ : ∀ r s, Q r s → R r s) : x8_told p1 p2 s R := fun X17 k17 => x8_told_me (fun _ _ _ _ h => h) hQ (h X17 (fun _ _ _ _ h => k17 _ _ _ _ (x8_told_m17 (fun _ _ _ _ h => h) hQ h)))
def x8_told_rm : Room := { frames := 3, cells := 0, slots := 0, locals := 72 }
theorem w_x8_told_110 : Cond.constant RX8 110 (-100001) ∈ wsX8_told := by decide +kernel
theorem w_x8_told_26 : Cond.fieldLink RX8 26 "BoltRingModel" "row" "[I" ∈ wsX8_told := by decide +kernel
theorem w_x8_told_7 : Cond.fieldLink RX8 7 "BoltRingModel" "stiff" "[I" ∈ wsX8_told := by decide +kernel
theorem w_x8_told_13 : Cond.fieldLink RX8 13 "BoltRingModel" "pad" "[I" ∈ wsX8_told := by decide +kernel
theorem w_x8_told_16 : Cond.fieldLink RX8 16 "BoltRingModel" "turns" "[I" ∈ wsX8_told := by decide +kernel
theorem w_x8_told_19 : Cond.fieldLink RX8 19 "BoltRingModel" "load" "[I" ∈ wsX8_told := by decide +kernel
theorem w_x8_told_22 : Cond.fieldLink RX8 22 "BoltRingModel" "isBroken" "[Z" ∈ wsX8_told := by decide +kernel
theorem w_x8_told_105 : Cond.constant RX8 105 (-100002) ∈ wsX8_told := by decide +kernel
theorem in_x8_told_X8 : ∀ w ∈ wsX80, w ∈ wsX8_told := by decide +kernel
set_option maxHeartbeats 4000000 in
set_option maxRecDepth 100000 in
theorem x8_told_bd {κ : KT} {ad : Nat → Nat} {cA : Nat → ClassId} {D : va_G} {Q : State → Prop} {p1 : Int} {p2 : Int} {s : Mem} (C : CX κ (GB ad cA D) RX8 cX8_told 4 wsX8_told x8_told_rm (some .int)) (h : x8_told p1 p2 s (RT κ (GB ad cA D) ocI Q)) : WM κ (GB ad cA D) 4 Q s 0 [(0, .ref (ad 0)), (1, vI p1), (2, vI p2)] [] := by
  obtain ⟨Z17, z17⟩ : ∃ Z : Int → Int → Int → Mem → Prop, ∀ x1 x2 x3 s, Z x1 x2 x3 s ↔ WM κ (GB ad cA D) 4 Q s 17 [(0, .ref (ad 0)), (1, vI x1), (2, vI x2), (3, vI x3)] [] := ⟨fun x1 x2 x3 s => WM κ (GB ad cA D) 4 Q s 17 [(0, .ref (ad 0)), (1, vI x1), (2, vI x2), (3, vI x3)] [], fun _ _ _ _ => Iff.rfl⟩
  refine (fun h => ?_) (h Z17 ?_)
  · refine r_aload_n C 0 dX8_told_0 rfl ?_
    refine r_iload_n C 1 dX8_told_1 rfl ?_
    refine r_callV (As := [vI p1]) (o := 0) (n := 1) C dX8_told_2 (x8_noBolt_ct κ.1.2.1 ad cA D p1 s) gX8_told_X8_noBolt rfl ⟨rfl, rfl⟩ (by decide +kernel) (by decide) (shB_0) rfl rfl rfl (Nat.le_of_ble_eq_true rfl) (fun _ => rfl) ?_
    refine x8_noBolt_mono h (fun r2 s1 h => ?_)
    refine r_if_eq (tgt := 11) C dX8_told_5 (by decide) ⟨h.1, fun c4 => ?_, fun c4 => ?_⟩
    · have h := h.2.1 c4
      refine r_aload_n C 0 dX8_told_11 rfl ?_
      refine r_callV (As := []) (o := 0) (n := 0) C dX8_told_12 (x8_findLifts_ct κ.1.2.1 ad cA D s1) gX8_told_X8_findLifts rfl ⟨rfl, rfl⟩ (by decide +kernel) (by decide) (shB_0) rfl rfl rfl (Nat.le_of_ble_eq_true rfl) (fun _ => rfl) ?_
      refine x8_findLifts_mono h (fun _ s3 h => ?_)
      refine r_iconst C dX8_told_15 ?_
      refine r_istore_n (ls' := [(3, vI (0 : Int)), (0, .ref (ad 0)), (1, vI p1), (2, vI p2)]) C dX8_told_16 rfl (by decide) rfl ?_
      exact r_perm [1, 2, 3, 0] rfl ((z17 _ _ _ _).1 h)
    · have h := h.2.2 c4
      refine r_ldc (z := -100001) C dX8_told_8 w_x8_told_110 rfl ?_
      exact r_ireturn C dX8_told_10 h
  · intro x1 x2 x3 s h
    refine (z17 _ _ _ _).2 ?_
    refine r_aload_n C 0 dX8_told_17 rfl ?_
    refine r_get (j := 7) (jz := 7) (v := .ref (ad 6)) C dX8_told_18 (shB_0) rfl rfl (by decide) in_x8_told_X8 w_x8_told_26 rfl rfl rfl ?_
    refine r_iload_n C 3 dX8_told_21 rfl ?_
    refine r_iald (nz := 6) C dX8_told_22 (shB_6) rfl (by decide) ⟨h.1, ?_⟩
    have h := h.2
    refine r_iload_n C 1 dX8_told_23 rfl ?_
    refine r_icmp_eq (tgt := 33) C dX8_told_24 (by decide) ⟨h.1, fun c22 => ?_, fun c22 => ?_⟩
    · have h := h.2.1 c22
      refine r_iload_n C 2 dX8_told_33 rfl ?_
      have hI := h.1
      by_cases c5 : x2 = 0
      · have h := h.2.1 c5
        refine r_tsIn (tgt := 80) C 0 dX8_told_34 rfl (by decide) c5 hI (by decide) ?_
        refine r_aload_n C 0 dX8_told_80 rfl ?_
        refine r_get (j := 2) (jz := 2) (v := .ref (ad 1)) C dX8_told_81 (shB_0) rfl rfl (by decide) in_x8_told_X8 w_x8_told_7 rfl rfl rfl ?_
        refine r_iload_n C 1 dX8_told_84 rfl ?_
        refine r_iald (nz := 6) C dX8_told_85 (shB_1) rfl (by decide) ⟨h.1, ?_⟩
        have h := h.2
        exact r_ireturn C dX8_told_86 h
      by_cases c5 : x2 = 1
      · have h := h.2.2.1 c5
        refine r_tsIn (tgt := 87) C 1 dX8_told_34 rfl (by decide) c5 hI (by decide) ?_
        refine r_aload_n C 0 dX8_told_87 rfl ?_
        refine r_get (j := 3) (jz := 3) (v := .ref (ad 2)) C dX8_told_88 (shB_0) rfl rfl (by decide) in_x8_told_X8 w_x8_told_13 rfl rfl rfl ?_
        refine r_iload_n C 1 dX8_told_91 rfl ?_
        refine r_iald (nz := 6) C dX8_told_92 (shB_2) rfl (by decide) ⟨h.1, ?_⟩
        have h := h.2
        exact r_ireturn C dX8_told_93 h
      by_cases c5 : x2 = 2
      · have h := h.2.2.2.1 c5
        refine r_tsIn (tgt := 94) C 2 dX8_told_34 rfl (by decide) c5 hI (by decide) ?_
        refine r_aload_n C 0 dX8_told_94 rfl ?_
        refine r_get (j := 4) (jz := 4) (v := .ref (ad 3)) C dX8_told_95 (shB_0) rfl rfl (by decide) in_x8_told_X8 w_x8_told_16 rfl rfl rfl ?_
        refine r_iload_n C 1 dX8_told_98 rfl ?_
        refine r_iald (nz := 6) C dX8_told_99 (shB_3) rfl (by decide) ⟨h.1, ?_⟩
        have h := h.2
        exact r_ireturn C dX8_told_100 h
      by_cases c5 : x2 = 3
      · have h := h.2.2.2.2.1 c5
        refine r_tsIn (tgt := 101) C 3 dX8_told_34 rfl (by decide) c5 hI (by decide) ?_
        refine r_aload_n C 0 dX8_told_101 rfl ?_
        refine r_get (j := 5) (jz := 5) (v := .ref (ad 4)) C dX8_told_102 (shB_0) rfl rfl (by decide) in_x8_told_X8 w_x8_told_19 rfl rfl rfl ?_
        refine r_iload_n C 1 dX8_told_105 rfl ?_
        refine r_iald (nz := 6) C dX8_told_106 (shB_4) rfl (by decide) ⟨h.1, ?_⟩
        have h := h.2
        exact r_ireturn C dX8_told_107 h
      by_cases c5 : x2 = 4
      · have h := h.2.2.2.2.2.1 c5
        refine r_tsIn (tgt := 108) C 4 dX8_told_34 rfl (by decide) c5 hI (by decide) ?_
        refine r_aload_n C 0 dX8_told_108 rfl ?_
        refine r_get (j := 6) (jz := 6) (v := .ref (ad 5)) C dX8_told_109 (shB_0) rfl rfl (by decide) in_x8_told_X8 w_x8_told_22 rfl rfl rfl ?_
        refine r_iload_n C 1 dX8_told_112 rfl ?_
        refine r_zald (nz := 6) C dX8_told_113 (shB_5) rfl (by decide) ⟨h.1, ?_⟩
        have h := h.2
        refine r_callS (As := [vI (s 5 x1)]) (n := 1) C dX8_told_114 (x8_bit_ct κ.1.2.1 ad cA D (s 5 x1) s) gX8_told_X8_bit rfl ⟨rfl, rfl⟩ (by decide +kernel) (by decide) rfl rfl (Nat.le_of_ble_eq_true rfl) (fun _ => rfl) ?_
        refine x8_bit_mono h (fun r7 s6 h => ?_)
        exact r_ireturn C dX8_told_117 h
      by_cases c5 : x2 = 5
      · have h := h.2.2.2.2.2.2.1 c5
        refine r_tsIn (tgt := 118) C 5 dX8_told_34 rfl (by decide) c5 hI (by decide) ?_
        refine r_aload_n C 0 dX8_told_118 rfl ?_
        refine r_iload_n C 1 dX8_told_119 rfl ?_
        refine r_callV (As := [vI x1]) (o := 0) (n := 1) C dX8_told_120 (x8_pull_ct κ.1.2.1 ad cA D x1 s) gX8_told_X8_pull rfl ⟨rfl, rfl⟩ (by decide +kernel) (by decide) (shB_0) rfl rfl rfl (Nat.le_of_ble_eq_true rfl) (fun _ => rfl) ?_
        refine x8_pull_mono h (fun r9 s8 h => ?_)
        refine r_lconst (z := 0) C dX8_told_123 rfl ?_
        refine r_lcmp_ne (tgt := 132) C dX8_told_124 dX8_told_125 (by decide) ⟨h.1, fun c14 => ?_, fun c14 => ?_⟩
        · have h := h.2.1 c14
          refine r_iconst C dX8_told_132 ?_
          refine r_callS (As := [vI (0 : Int)]) (n := 1) C dX8_told_133 (x8_bit_ct κ.1.2.1 ad cA D (0 : Int) s8) gX8_told_X8_bit rfl ⟨rfl, rfl⟩ (by decide +kernel) (by decide) rfl rfl (Nat.le_of_ble_eq_true rfl) (fun _ => rfl) ?_
          refine x8_bit_mono h (fun r11 s10 h => ?_)
          exact r_ireturn C dX8_told_136 h
        · have h := h.2.2 c14
          refine r_iconst C dX8_told_128 ?_
          refine r_goto (tgt := 133) C dX8_told_129 (by decide) ?_
          refine r_callS (As := [vI (1 : Int)]) (n := 1) C dX8_told_133 (x8_bit_ct κ.1.2.1 ad cA D (1 : Int) s8) gX8_told_X8_bit rfl ⟨rfl, rfl⟩ (by decide +kernel) (by decide) rfl rfl (Nat.le_of_ble_eq_true rfl) (fun _ => rfl) ?_
          refine x8_bit_mono h (fun r13 s12 h => ?_)
          exact r_ireturn C dX8_told_136 h
      by_cases c5 : x2 = 6
      · have h := h.2.2.2.2.2.2.2.1 c5
        refine r_tsIn (tgt := 137) C 6 dX8_told_34 rfl (by decide) c5 hI (by decide) ?_
        refine r_aload_n C 0 dX8_told_137 rfl ?_
        refine r_iload_n C 1 dX8_told_138 rfl ?_
        refine r_callV (As := [vI x1]) (o := 0) (n := 1) C dX8_told_139 (x8_press_ct κ.1.2.1 ad cA D x1 s) gX8_told_X8_press rfl ⟨rfl, rfl⟩ (by decide +kernel) (by decide) (shB_0) rfl rfl rfl (Nat.le_of_ble_eq_true rfl) (fun _ => rfl) ?_
        refine x8_press_mono h (fun r16 s15 h => ?_)
        refine r_lconst (z := 0) C dX8_told_142 rfl ?_
        refine r_lcmp_ne (tgt := 151) C dX8_told_143 dX8_told_144 (by decide) ⟨h.1, fun c21 => ?_, fun c21 => ?_⟩
        · have h := h.2.1 c21
          refine r_iconst C dX8_told_151 ?_
          refine r_callS (As := [vI (0 : Int)]) (n := 1) C dX8_told_152 (x8_bit_ct κ.1.2.1 ad cA D (0 : Int) s15) gX8_told_X8_bit rfl ⟨rfl, rfl⟩ (by decide +kernel) (by decide) rfl rfl (Nat.le_of_ble_eq_true rfl) (fun _ => rfl) ?_
          refine x8_bit_mono h (fun r18 s17 h => ?_)
          exact r_ireturn C dX8_told_155 h
        · have h := h.2.2 c21
          refine r_iconst C dX8_told_147 ?_
          refine r_goto (tgt := 152) C dX8_told_148 (by decide) ?_
          refine r_callS (As := [vI (1 : Int)]) (n := 1) C dX8_told_152 (x8_bit_ct κ.1.2.1 ad cA D (1 : Int) s15) gX8_told_X8_bit rfl ⟨rfl, rfl⟩ (by decide +kernel) (by decide) rfl rfl (Nat.le_of_ble_eq_true rfl) (fun _ => rfl) ?_
          refine x8_bit_mono h (fun r20 s19 h => ?_)
          exact r_ireturn C dX8_told_155 h
      by_cases c5 : x2 = 7
      · have h := h.2.2.2.2.2.2.2.2.1 c5
        refine r_tsIn (tgt := 156) C 7 dX8_told_34 rfl (by decide) c5 hI (by decide) ?_
        refine r_iload_n C 3 dX8_told_156 rfl ?_
        exact r_ireturn C dX8_told_157 h
      have c5d : x2 < 0 ∨ 7 < x2 := by omega
      have h := h.2.2.2.2.2.2.2.2.2 c5d
      refine r_tsOut (tgt := 158) C dX8_told_34 c5d hI (by decide) ?_
      refine r_ldc (z := -100002) C dX8_told_158 w_x8_told_105 rfl ?_
      exact r_ireturn C dX8_told_160 h
    · have h := h.2.2 c22
      refine r_iinc (j := 3) (ls' := [(3, vI (x3 + (1 : Int))), (0, .ref (ad 0)), (1, vI x1), (2, vI x2)]) C dX8_told_27 rfl (by decide) rfl ?_
      refine r_goto (tgt := 17) C dX8_told_30 (by decide) ?_
      exact r_perm [1, 2, 3, 0] rfl ((z17 _ _ _ _).1 h)
theorem x8_told_ct (l : Launch) (ad : Nat → Nat) (cA : Nat → ClassId) (D : va_G) (p1 : Int) (p2 : Int) (s : Mem) : MG l yX8_told wsX8_told x8_told_rm ocI [.ref (ad 0), vI p1, vI p2] (GB ad cA D) s (x8_told p1 p2 s) :=
  m_met (own := RX8) (nL := 4) (by decide) rfl rfl (Nat.le_of_ble_eq_true rfl) rfl rfl rfl (fun κ hl C Q Pst hW hQ => x8_told_bd C (x8_told_mono hW hQ))

def x8_force_be (X73 : Int → Int → Mem → Prop) (Q : Int → Mem → Prop) (p1 : Int) (p2 : Int) (p3 : Int) (s : Mem) : Prop :=
  x8_noBolt p1 s (fun r2 s1 => InI r2 ∧ (r2 = (0 : Int) → (InI p2) ∧ x8_in p2 (0 : Int) (2 : Int) s1 (fun r4 s3 => InI r4 ∧ (r4 = (0 : Int) → Q (-100002 : Int) s3) ∧ (¬ r4 = (0 : Int) → (InI p3) ∧ x8_in p3 (0 : Int) (1 : Int) s3 (fun r6 s5 => InI r6 ∧ (¬ r6 = (0 : Int) → x8_findLifts s5 (fun _ s7 => InI p2 ∧ (¬ p2 = (0 : Int) → (InI p2 ∧ InI (1 : Int)) ∧ (¬ p2 = (1 : Int) → ((0 : Int) ≤ p1 ∧ p1 < 6) ∧ X73 p3 (s7 12 p1) s7) ∧ (p2 = (1 : Int) → x8_press p1 s7 (fun r9 s8 => X73 p3 r9 s8))) ∧ (p2 = (0 : Int) → x8_pull p1 s7 (fun r12 s11 => X73 p3 r12 s11)))) ∧ (r6 = (0 : Int) → Q (-100002 : Int) s5))))) ∧ (¬ r2 = (0 : Int) → Q (-100001 : Int) s1))
def x8_force_b73 (X73 : Int → Int → Mem → Prop) (Q : Int → Mem → Prop) (x3 : Int) (t0 : Int) (s : Mem) : Prop :=
  x8_gcd t0 (s 0 (15 : Int)) s (fun r18 s17 => InI x3 ∧ (¬ x3 = (0 : Int) → (InL (s17 0 (15 : Int)) ∧ InL r18 ∧ ¬ r18 = 0) ∧ Q (Int.tdiv (s17 0 (15 : Int)) r18) s17) ∧ (x3 = (0 : Int) → (InL t0 ∧ InL r18 ∧ ¬ r18 = 0) ∧ Q (Int.tdiv t0 r18) s17))
theorem x8_force_me {X73 Y73 : Int → Int → Mem → Prop} {Q R : Int → Mem → Prop} (hX73 : ∀ x3 t0 s, X73 x3 t0 s → Y73 x3 t0 s) (hQ : ∀ r s, Q r s → R r s) {p1 : Int} {p2 : Int} {p3 : Int} {s : Mem} (h : x8_force_be X73 Q p1 p2 p3 s) : x8_force_be Y73 R p1 p2 p3 s :=
  x8_noBolt_mono h (fun r2 s1 h => ⟨h.1, fun c => have h := h.2.1 c; ⟨h.1, have h := h.2; x8_in_mono h (fun r4 s3 h => ⟨h.1, fun c => have h := h.2.1 c; hQ _ _ h, fun c => have h := h.2.2 c; ⟨h.1, have h := h.2; x8_in_mono h (fun r6 s5 h => ⟨h.1, fun c => have h := h.2.1 c; x8_findLifts_mono h (fun _ s7 h => ⟨h.1, fun c => have h := h.2.1 c; ⟨h.1, fun c => have h := h.2.1 c; ⟨h.1, have h := h.2; hX73 _ _ _ h⟩, fun c => have h := h.2.2 c; x8_press_mono h (fun r9 s8 h => hX73 _ _ _ h)⟩, fun c => have h := h.2.2 c; x8_pull_mono h (fun r12 s11 h => hX73 _ _ _ h)⟩), fun c => have h := h.2.2 c; hQ _ _ h⟩)⟩⟩)⟩, fun c => have h := h.2.2 c; hQ _ _ h⟩)
theorem x8_force_m73 {X73 Y73 : Int → Int → Mem → Prop} {Q R : Int → Mem → Prop} (hX73 : ∀ x3 t0 s, X73 x3 t0 s → Y73 x3 t0 s) (hQ : ∀ r s, Q r s → R r s) {x3 : Int} {t0 : Int} {s : Mem} (h : x8_force_b73 X73 Q x3 t0 s) : x8_force_b73 Y73 R x3 t0 s :=
  x8_gcd_mono h (fun r18 s17 h => ⟨h.1, fun c => have h := h.2.1 c; ⟨h.1, have h := h.2; hQ _ _ h⟩, fun c => have h := h.2.2 c; ⟨h.1, have h := h.2; hQ _ _ h⟩⟩)
def x8_force (p1 : Int) (p2 : Int) (p3 : Int) (s : Mem) (Q : Int → Mem → Prop) : Prop := ∀ (X73 : Int → Int → Mem → Prop), (∀ x3 t0 s, x8_force_b73 X73 Q x3 t0 s → X73 x3 t0 s) → x8_force_be X73 Q p1 p2 p3 s
def x8_force_L73 (Q : Int → Mem → Prop) (x3 : Int) (t0 : Int) (s : Mem) : Prop := ∀ (X73 : Int → Int → Mem → Prop), (∀ x3 t0 s, x8_force_b73 X73 Q x3 t0 s → X73 x3 t0 s) → X73 x3 t0 s
theorem x8_force_i {Q : Int → Mem → Prop} {p1 : Int} {p2 : Int} {p3 : Int} {s : Mem} (h : x8_force_be (x8_force_L73 Q) Q p1 p2 p3 s) : x8_force p1 p2 p3 s Q := fun X73 k73 => x8_force_me (fun _ _ _ h => h X73 k73) (fun _ _ h => h) h
theorem x8_force_s73 {Q : Int → Mem → Prop} {x3 : Int} {t0 : Int} {s : Mem} (h : x8_force_b73 (x8_force_L73 Q) Q x3 t0 s) : x8_force_L73 Q x3 t0 s := fun X73 k73 => k73 _ _ _ (x8_force_m73 (fun _ _ _ h => h X73 k73) (fun _ _ h => h) h)
theorem x8_force_mono {Q R : Int → Mem → Prop} {p1 : Int} {p2 : Int} {p3 : Int} {s : Mem} (h : x8_force p1 p2 p3 s Q) (hQ : ∀ r s, Q r s → R r s) : x8_force p1 p2 p3 s R := fun X73 k73 => x8_force_me (fun _ _ _ h => h) hQ (h X73 (fun _ _ _ h => k73 _ _ _ (x8_force_m73 (fun _ _ _ h => h) hQ h)))
def x8_force_rm : Room := { frames := 3, cells := 0, slots := 0, locals := 72 }
theorem w_x8_force_122 : Cond.constantLong RX8 122 (2) ∈ wsX8_force := by decide +kernel
theorem w_x8_force_157 : Cond.constantLong RX8 157 (-100002) ∈ wsX8_force := by decide +kernel
theorem w_x8_force_44 : Cond.fieldLink RX8 44 "BoltRingModel" "lift" "[J" ∈ wsX8_force := by decide +kernel
theorem w_x8_force_155 : Cond.constantLong RX8 155 (-100001) ∈ wsX8_force := by decide +kernel
theorem w_x8_force_124 : Cond.fieldLink RX8 124 "BoltRingModel" "below" "J" ∈ wsX8_force := by decide +kernel
theorem in_x8_force_X8 : ∀ w ∈ wsX80, w ∈ wsX8_force := by decide +kernel
set_option maxHeartbeats 4000000 in
set_option maxRecDepth 100000 in
theorem x8_force_bd {κ : KT} {ad : Nat → Nat} {cA : Nat → ClassId} {D : va_G} {Q : State → Prop} {p1 : Int} {p2 : Int} {p3 : Int} {s : Mem} (C : CX κ (GB ad cA D) RX8 cX8_force 8 wsX8_force x8_force_rm (some .long)) (h : x8_force p1 p2 p3 s (RT κ (GB ad cA D) ocL Q)) : WM κ (GB ad cA D) 8 Q s 0 [(0, .ref (ad 0)), (1, vI p1), (2, vI p2), (3, vI p3)] [] := by
  obtain ⟨Z73, z73⟩ : ∃ Z : Int → Int → Mem → Prop, ∀ x3 t0 s, Z x3 t0 s ↔ WM κ (GB ad cA D) 8 Q s 73 [(0, .ref (ad 0)), (3, vI x3)] [vL t0] := ⟨fun x3 t0 s => WM κ (GB ad cA D) 8 Q s 73 [(0, .ref (ad 0)), (3, vI x3)] [vL t0], fun _ _ _ => Iff.rfl⟩
  refine (fun h => ?_) (h Z73 ?_)
  · refine r_aload_n C 0 dX8_force_0 rfl ?_
    refine r_iload_n C 1 dX8_force_1 rfl ?_
    refine r_callV (As := [vI p1]) (o := 0) (n := 1) C dX8_force_2 (x8_noBolt_ct κ.1.2.1 ad cA D p1 s) gX8_force_X8_noBolt rfl ⟨rfl, rfl⟩ (by decide +kernel) (by decide) (shB_0) rfl rfl rfl (Nat.le_of_ble_eq_true rfl) (fun _ => rfl) ?_
    refine x8_noBolt_mono h (fun r2 s1 h => ?_)
    refine r_if_eq (tgt := 12) C dX8_force_5 (by decide) ⟨h.1, fun c16 => ?_, fun c16 => ?_⟩
    · have h := h.2.1 c16
      refine r_iload_n C 2 dX8_force_12 rfl ?_
      refine r_i2l C dX8_force_13 ⟨h.1, ?_⟩
      have h := h.2
      refine r_lconst (z := 0) C dX8_force_14 rfl ?_
      refine r_ldc2 (z := 2) C dX8_force_15 w_x8_force_122 rfl ?_
      refine r_callS (As := [vL p2, vL (0 : Int), vL (2 : Int)]) (n := 3) C dX8_force_18 (x8_in_ct κ.1.2.1 ad cA D p2 (0 : Int) (2 : Int) s1) gX8_force_X8_in rfl ⟨rfl, rfl⟩ (by decide +kernel) (by decide) rfl rfl (Nat.le_of_ble_eq_true rfl) (fun _ => rfl) ?_
      refine x8_in_mono h (fun r4 s3 h => ?_)
      refine r_if_eq (tgt := 34) C dX8_force_21 (by decide) ⟨h.1, fun c15 => ?_, fun c15 => ?_⟩
      · have h := h.2.1 c15
        refine r_ldc2 (z := -100002) C dX8_force_34 w_x8_force_157 rfl ?_
        exact r_lreturn C dX8_force_37 h
      · have h := h.2.2 c15
        refine r_iload_n C 3 dX8_force_24 rfl ?_
        refine r_i2l C dX8_force_25 ⟨h.1, ?_⟩
        have h := h.2
        refine r_lconst (z := 0) C dX8_force_26 rfl ?_
        refine r_lconst (z := 1) C dX8_force_27 rfl ?_
        refine r_callS (As := [vL p3, vL (0 : Int), vL (1 : Int)]) (n := 3) C dX8_force_28 (x8_in_ct κ.1.2.1 ad cA D p3 (0 : Int) (1 : Int) s3) gX8_force_X8_in rfl ⟨rfl, rfl⟩ (by decide +kernel) (by decide) rfl rfl (Nat.le_of_ble_eq_true rfl) (fun _ => rfl) ?_
        refine x8_in_mono h (fun r6 s5 h => ?_)
        refine r_if_ne (tgt := 38) C dX8_force_31 (by decide) ⟨h.1, fun c14 => ?_, fun c14 => ?_⟩
        · have h := h.2.1 c14
          refine r_aload_n C 0 dX8_force_38 rfl ?_
          refine r_callV (As := []) (o := 0) (n := 0) C dX8_force_39 (x8_findLifts_ct κ.1.2.1 ad cA D s5) gX8_force_X8_findLifts rfl ⟨rfl, rfl⟩ (by decide +kernel) (by decide) (shB_0) rfl rfl rfl (Nat.le_of_ble_eq_true rfl) (fun _ => rfl) ?_
          refine x8_findLifts_mono h (fun _ s7 h => ?_)
          refine r_iload_n C 2 dX8_force_42 rfl ?_
          refine r_if_ne (tgt := 54) C dX8_force_43 (by decide) ⟨h.1, fun c13 => ?_, fun c13 => ?_⟩
          · have h := h.2.1 c13
            refine r_iload_n C 2 dX8_force_54 rfl ?_
            refine r_iconst C dX8_force_55 ?_
            refine r_icmp_ne (tgt := 67) C dX8_force_56 (by decide) ⟨h.1, fun c10 => ?_, fun c10 => ?_⟩
            · have h := h.2.1 c10
              refine r_aload_n C 0 dX8_force_67 rfl ?_
              refine r_get (j := 14) (jz := 14) (v := .ref (ad 12)) C dX8_force_68 (shB_0) rfl rfl (by decide) in_x8_force_X8 w_x8_force_44 rfl rfl rfl ?_
              refine r_iload_n C 1 dX8_force_71 rfl ?_
              refine r_lald (nz := 6) C dX8_force_72 (shB_12) rfl (by decide) ⟨h.1, ?_⟩
              have h := h.2
              exact r_perm [0, 3] rfl ((z73 _ _ _).1 h)
            · have h := h.2.2 c10
              refine r_aload_n C 0 dX8_force_59 rfl ?_
              refine r_iload_n C 1 dX8_force_60 rfl ?_
              refine r_callV (As := [vI p1]) (o := 0) (n := 1) C dX8_force_61 (x8_press_ct κ.1.2.1 ad cA D p1 s7) gX8_force_X8_press rfl ⟨rfl, rfl⟩ (by decide +kernel) (by decide) (shB_0) rfl rfl rfl (Nat.le_of_ble_eq_true rfl) (fun _ => rfl) ?_
              refine x8_press_mono h (fun r9 s8 h => ?_)
              refine r_goto (tgt := 73) C dX8_force_64 (by decide) ?_
              exact r_perm [0, 3] rfl ((z73 _ _ _).1 h)
          · have h := h.2.2 c13
            refine r_aload_n C 0 dX8_force_46 rfl ?_
            refine r_iload_n C 1 dX8_force_47 rfl ?_
            refine r_callV (As := [vI p1]) (o := 0) (n := 1) C dX8_force_48 (x8_pull_ct κ.1.2.1 ad cA D p1 s7) gX8_force_X8_pull rfl ⟨rfl, rfl⟩ (by decide +kernel) (by decide) (shB_0) rfl rfl rfl (Nat.le_of_ble_eq_true rfl) (fun _ => rfl) ?_
            refine x8_pull_mono h (fun r12 s11 h => ?_)
            refine r_goto (tgt := 73) C dX8_force_51 (by decide) ?_
            exact r_perm [0, 3] rfl ((z73 _ _ _).1 h)
        · have h := h.2.2 c14
          refine r_ldc2 (z := -100002) C dX8_force_34 w_x8_force_157 rfl ?_
          exact r_lreturn C dX8_force_37 h
    · have h := h.2.2 c16
      refine r_ldc2 (z := -100001) C dX8_force_8 w_x8_force_155 rfl ?_
      exact r_lreturn C dX8_force_11 h
  · intro x3 t0 s h
    refine (z73 _ _ _).2 ?_
    refine r_lstore (ls' := [(4, vL t0), (0, .ref (ad 0)), (3, vI x3)]) C dX8_force_73 (by decide) rfl ?_
    refine r_lload C 0 dX8_force_75 rfl ?_
    refine r_aload_n C 1 dX8_force_77 rfl ?_
    refine r_get (j := 15) (jz := 15) (v := vL (s 0 (15 : Int))) C dX8_force_78 (shB_0) rfl rfl (by decide) in_x8_force_X8 w_x8_force_124 rfl rfl rfl ?_
    refine r_callS (As := [vL t0, vL (s 0 (15 : Int))]) (n := 2) C dX8_force_81 (x8_gcd_ct κ.1.2.1 ad cA D t0 (s 0 (15 : Int)) s) gX8_force_X8_gcd rfl ⟨rfl, rfl⟩ (by decide +kernel) (by decide) rfl rfl (Nat.le_of_ble_eq_true rfl) (fun _ => rfl) ?_
    refine x8_gcd_mono h (fun r18 s17 h => ?_)
    refine r_lstore (ls' := [(6, vL r18), (4, vL t0), (0, .ref (ad 0)), (3, vI x3)]) C dX8_force_84 (by decide) rfl ?_
    refine r_iload_n C 3 dX8_force_86 rfl ?_
    refine r_if_ne (tgt := 98) C dX8_force_87 (by decide) ⟨h.1, fun c19 => ?_, fun c19 => ?_⟩
    · have h := h.2.1 c19
      refine r_aload_n C 2 dX8_force_98 rfl ?_
      refine r_get (j := 15) (jz := 15) (v := vL (s17 0 (15 : Int))) C dX8_force_99 (shB_0) rfl rfl (by decide) in_x8_force_X8 w_x8_force_124 rfl rfl rfl ?_
      refine r_lload C 0 dX8_force_102 rfl ?_
      refine r_ldiv C dX8_force_104 ⟨h.1, ?_⟩
      have h := h.2
      exact r_lreturn C dX8_force_105 h
    · have h := h.2.2 c19
      refine r_lload C 1 dX8_force_90 rfl ?_
      refine r_lload C 0 dX8_force_92 rfl ?_
      refine r_ldiv C dX8_force_94 ⟨h.1, ?_⟩
      have h := h.2
      refine r_goto (tgt := 105) C dX8_force_95 (by decide) ?_
      exact r_lreturn C dX8_force_105 h
theorem x8_force_ct (l : Launch) (ad : Nat → Nat) (cA : Nat → ClassId) (D : va_G) (p1 : Int) (p2 : Int) (p3 : Int) (s : Mem) : MG l yX8_force wsX8_force x8_force_rm ocL [.ref (ad 0), vI p1, vI p2, vI p3] (GB ad cA D) s (x8_force p1 p2 p3 s) :=
  m_met (own := RX8) (nL := 8) (by decide) rfl rfl (Nat.le_of_ble_eq_true rfl) rfl rfl rfl (fun κ hl C Q Pst hW hQ => x8_force_bd C (x8_force_mono hW hQ))
