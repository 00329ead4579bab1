def x8_count_be (X17 : Int → Int → Int → Int → Int → Int → Mem → Prop) (X43 : Int → Int → Int → Int → Int → Int → Int → Mem → Prop) (X65 : Int → Int → Int → Int → Int → Int → Int → Mem → Prop) (Q : Int → Mem → Prop) (p1 : Int) (s : Mem) : Prop :=
  x8_findLifts s (fun _ s1 => X17 p1 (0 : Int) (0 : Int) (0 : Int) (0 : Int) (0 : Int) s1)
def x8_count_b17 (X17 : Int → Int → Int → Int → Int → Int → Mem → Prop) (X43 : Int → Int → Int → Int → Int → Int → Int → Mem → Prop) (X65 : Int → Int → Int → Int → Int → Int → Int → Mem → Prop) (Q : Int → Mem → Prop) (x1 : Int) (x2 : Int) (x3 : Int) (x4 : Int) (x5 : Int) (x6 : Int) (s : Mem) : Prop :=
  (InI x6 ∧ InI (s 0 (0 : Int))) ∧ ((s 0 (0 : Int)) ≤ x6 → InI x1 ∧ ((x1 = 0) → Q (s 0 (0 : Int)) s) ∧ ((x1 = 1) → x8_whole s (fun r4 s3 => Q ((s 0 (0 : Int)) - r4) s3)) ∧ ((x1 = 2) → Q x2 s) ∧ ((x1 = 3) → Q x3 s) ∧ ((x1 = 4) → Q x4 s) ∧ ((x1 = 5) → Q (s 0 (8 : Int)) s) ∧ ((x1 = 6) → Q x5 s) ∧ ((x1 = 7) → Q (s 0 (30 : Int)) s) ∧ ((x1 = 8) → Q (s 0 (36 : Int)) s) ∧ ((x1 < 0 ∨ 8 < x1) → Q (-100002 : Int) s)) ∧ (x6 < (s 0 (0 : Int)) → x8_pull x6 s (fun r6 s5 => (InL r6 ∧ InL (0 : Int)) ∧ (¬ r6 = (0 : Int) → X43 x1 x3 x4 x5 x6 (0 : Int) x2 s5) ∧ (r6 = (0 : Int) → X43 x1 x3 x4 x5 x6 (1 : Int) x2 s5)))
def x8_count_b43 (X17 : Int → Int → Int → Int → Int → Int → Mem → Prop) (X43 : Int → Int → Int → Int → Int → Int → Int → Mem → Prop) (X65 : Int → Int → Int → Int → Int → Int → Int → Mem → Prop) (Q : Int → Mem → Prop) (x1 : Int) (x3 : Int) (x4 : Int) (x5 : Int) (x6 : Int) (t0 : Int) (t1 : Int) (s : Mem) : Prop :=
  x8_bit t0 s (fun r10 s9 => x8_press x6 s9 (fun r12 s11 => (InL r12 ∧ InL (0 : Int)) ∧ (¬ r12 = (0 : Int) → X65 x1 (t1 + r10) x4 x5 x6 (0 : Int) x3 s11) ∧ (r12 = (0 : Int) → X65 x1 (t1 + r10) x4 x5 x6 (1 : Int) x3 s11)))
def x8_count_b65 (X17 : Int → Int → Int → Int → Int → Int → Mem → Prop) (X43 : Int → Int → Int → Int → Int → Int → Int → Mem → Prop) (X65 : Int → Int → Int → Int → Int → Int → Int → Mem → Prop) (Q : Int → Mem → Prop) (x1 : Int) (x2 : Int) (x4 : Int) (x5 : Int) (x6 : Int) (t0 : Int) (t1 : Int) (s : Mem) : Prop :=
  x8_bit t0 s (fun r15 s14 => ((0 : Int) ≤ x6 ∧ x6 < 6) ∧ ((0 : Int) ≤ x6 ∧ x6 < 6) ∧ x8_bit (s14 9 x6) s14 (fun r17 s16 => X17 x1 x2 (t1 + r15) (x4 + (s14 3 x6)) (x5 + r17) (x6 + (1 : Int)) s16))
theorem x8_count_me {X17 Y17 : Int → Int → Int → Int → Int → Int → Mem → Prop} {X43 Y43 : Int → Int → Int → Int → Int → Int → Int → Mem → Prop} {X65 Y65 : Int → Int → Int → Int → Int → Int → Int → Mem → Prop} {Q R : Int → Mem → Prop} (hX17 : ∀ x1 x2 x3 x4 x5 x6 s, X17 x1 x2 x3 x4 x5 x6 s → Y17 x1 x2 x3 x4 x5 x6 s) (hX43 : ∀ x1 x3 x4 x5 x6 t0 t1 s, X43 x1 x3 x4 x5 x6 t0 t1 s → Y43 x1 x3 x4 x5 x6 t0 t1 s) (hX65 : ∀ x1 x2 x4 x5 x6 t0 t1 s, X65 x1 x2 x4 x5 x6 t0 t1 s → Y65 x1 x2 x4 x5 x6 t0 t1 s) (hQ : ∀ r s, Q r s → R r s) {p1 : Int} {s : Mem} (h : x8_count_be X17 X43 X65 Q p1 s) : x8_count_be Y17 Y43 Y65 R p1 s :=
  x8_findLifts_mono h (fun _ s1 h => hX17 _ _ _ _ _ _ _ h)
theorem x8_count_m17 {X17 Y17 : Int → Int → Int → Int → Int → Int → Mem → Prop} {X43 Y43 : Int → Int → Int → Int → Int → Int → Int → Mem → Prop} {X65 Y65 : Int → Int → Int → Int → Int → Int → Int → Mem → Prop} {Q R : Int → Mem → Prop} (hX17 : ∀ x1 x2 x3 x4 x5 x6 s, X17 x1 x2 x3 x4 x5 x6 s → Y17 x1 x2 x3 x4 x5 x6 s) (hX43 : ∀ x1 x3 x4 x5 x6 t0 t1 s, X43 x1 x3 x4 x5 x6 t0 t1 s → Y43 x1 x3 x4 x5 x6 t0 t1 s) (hX65 : ∀ x1 x2 x4 x5 x6 t0 t1 s, X65 x1 x2 x4 x5 x6 t0 t1 s → Y65 x1 x2 x4 x5 x6 t0 t1 s) (hQ : ∀ r s, Q r s → R r s) {x1 : Int} {x2 : Int} {x3 : Int} {x4 : Int} {x5 : Int} {x6 : Int} {s : Mem} (h : x8_count_b17 X17 X43 X65 Q x1 x2 x3 x4 x5 x6 s) : x8_count_b17 Y17 Y43 Y65 R x1 x2 x3 x4 x5 x6 s :=
  ⟨h.1, fun c => have h := h.2.1 c; ⟨h.1, fun c => have h := h.2.1 c; hQ _ _ h, fun c => have h := h.2.2.1 c; x8_whole_mono h (fun r4 s3 h => hQ _ _ h), fun c => have h := h.2.2.2.1 c; hQ _ _ h, fun c => have h := h.2.2.2.2.1 c; hQ _ _ h, fun c => have h := h.2.2.2.2.2.1 c; hQ _ _ h, fun c => have h := h.2.2.2.2.2.2.1 c; hQ _ _ h, fun c => have h := h.2.2.2.2.2.2.2.1 c; hQ _ _ h, fun c => have h := h.2.2.2.2.2.2.2.2.1 c; hQ _ _ h, fun c => have h := h.2.2.2.2.2.2.2.2.2.1 c; hQ _ _ h, fun c => have h := h.2.2.2.2.2.2.2.2.2.2 c; hQ _ _ h⟩, fun c => have h := h.2.2 c; x8_pull_mono h (fun r6 s5 h => ⟨h.1, fun c => have h := h.2.1 c; hX43 _ _ _ _ _ _ _ _ h, fun c => have h := h.2.2 c; hX43 _ _ _ _ _ _ _ _ h⟩)⟩
theorem x8_count_m43 {X17 Y17 : Int → Int → Int → Int → Int → Int → Mem → Prop} {X43 Y43 : Int → Int → Int → Int → Int → Int → Int → Mem → Prop} {X65 Y65 : Int → Int → Int → Int → Int → Int → Int → Mem → Prop} {Q R : Int → Mem → Prop} (hX17 : ∀ x1 x2 x3 x4 x5 x6 s, X17 x1 x2 x3 x4 x5 x6 s → Y17 x1 x2 x3 x4 x5 x6 s) (hX43 : ∀ x1 x3 x4 x5 x6 t0 t1 s, X43 x1 x3 x4 x5 x6 t0 t1 s → Y43 x1 x3 x4 x5 x6 t0 t1 s) (hX65 : ∀ x1 x2 x4 x5 x6 t0 t1 s, X65 x1 x2 x4 x5 x6 t0 t1 s → Y65 x1 x2 x4 x5 x6 t0 t1 s) (hQ : ∀ r s, Q r s → R r s) {x1 : Int} {x3 : Int} {x4 : Int} {x5 : Int} {x6 : Int} {t0 : Int} {t1 : Int} {s : Mem} (h : x8_count_b43 X17 X43 X65 Q x1 x3 x4 x5 x6 t0 t1 s) : x8_count_b43 Y17 Y43 Y65 R x1 x3 x4 x5 x6 t0 t1 s :=
  x8_bit_mono h (fun r10 s9 h => x8_press_mono h (fun r12 s11 h => ⟨h.1, fun c => have h := h.2.1 c; hX65 _ _ _ _ _ _ _ _ h, fun c => have h := h.2.2 c; hX65 _ _ _ _ _ _ _ _ h⟩))
theorem x8_count_m65 {X17 Y17 : Int → Int → Int → Int → Int → Int → Mem → Prop} {X43 Y43 : Int → Int → Int → Int → Int → Int → Int → Mem → Prop} {X65 Y65 : Int → Int → Int → Int → Int → Int → Int → Mem → Prop} {Q R : Int → Mem → Prop} (hX17 : ∀ x1 x2 x3 x4 x5 x6 s, X17 x1 x2 x3 x4 x5 x6 s → Y17 x1 x2 x3 x4 x5 x6 s) (hX43 : ∀ x1 x3 x4 x5 x6 t0 t1 s, X43 x1 x3 x4 x5 x6 t0 t1 s → Y43 x1 x3 x4 x5 x6 t0 t1 s) (hX65 : ∀ x1 x2 x4 x5 x6 t0 t1 s, X65 x1 x2 x4 x5 x6 t0 t1 s → Y65 x1 x2 x4 x5 x6 t0 t1 s) (hQ : ∀ r s, Q r s → R r s) {x1 : Int} {x2 : Int} {x4 : Int} {x5 : Int} {x6 : Int} {t0 : Int} {t1 : Int} {s : Mem} (h : x8_count_b65 X17 X43 X65 Q x1 x2 x4 x5 x6 t0 t1 s) : x8_count_b65 Y17 Y43 Y65 R x1 x2 x4 x5 x6 t0 t1 s :=
  x8_bit_mono h (fun r15 s14 h => ⟨h.1, have h := h.2; ⟨h.1, have h := h.2; x8_bit_mono h (fun r17 s16 h => hX17 _ _ _ _ _ _ _ h)⟩⟩)
def x8_count (p1 : Int) (s : Mem) (Q : Int → Mem → Prop) : Prop := ∀ (X17 : Int → Int → Int → Int → Int → Int → Mem → Prop) (X43 : Int → Int → Int → Int → Int → Int → Int → Mem → Prop) (X65 : Int → Int → Int → Int → Int → Int → Int → Mem → Prop), (∀ x1 x2 x3 x4 x5 x6 s, x8_count_b17 X17 X43 X65 Q x1 x2 x3 x4 x5 x6 s → X17 x1 x2 x3 x4 x5 x6 s) → (∀ x1 x3 x4 x5 x6 t0 t1 s, x8_count_b43 X17 X43 X65 Q x1 x3 x4 x5 x6 t0 t1 s → X43 x1 x3 x4 x5 x6 t0 t1 s) → (∀ x1 x2 x4 x5 x6 t0 t1 s, x8_count_b65 X17 X43 X65 Q x1 x2 x4 x5 x6 t0 t1 s → X65 x1 x2 x4 x5 x6 t0 t1 s) → x8_count_be X17 X43 X65 Q p1 s
def x8_count_L17 (Q : Int → Mem → Prop) (x1 : Int) (x2 : Int) (x3 : Int) (x4 : Int) (x5 : Int) (x6 : Int) (s : Mem) : Prop := ∀ (X17 : Int → Int → Int → Int → Int → Int → Mem → Prop) (X43 : Int → Int → Int → Int → Int → Int → Int → Mem → Prop) (X65 : Int → Int → Int → Int → Int → Int → Int → Mem → Prop), (∀ x1 x2 x3 x4 x5 x6 s, x8_count_b17 X17 X43 X65 Q x1 x2 x3 x4 x5 x6 s → X17 x1 x2 x3 x4 x5 x6 s) → (∀ x1 x3 x4 x5 x6 t0 t1 s, x8_count_b43 X17 X43 X65 Q x1 x3 x4 x5 x6 t0 t1 s → X43 x1 x3 x4 x5 x6 t0 t1 s) → (∀ x1 x2 x4 x5 x6 t0 t1 s, x8_count_b65 X17 X43 X65 Q x1 x2 x4 x5 x6 t0 t1 s → X65 x1 x2 x4 x5 x6 t0 t1 s) → X17 x1 x2 x3 x4 x5 x6 s
def x8_count_L43 (Q : Int → Mem → Prop) (x1 : Int) (x3 : Int) (x4 : Int) (x5 : Int) (x6 : Int) (t0 : Int) (t1 : Int) (s : Mem) : Prop := ∀ (X17 : Int → Int → Int → Int → Int → Int → Mem → Prop) (X43 : Int → Int → Int → Int → Int → Int → Int → Mem → Prop) (X65 : Int → Int → Int → Int → Int → Int → Int → Mem → Prop), (∀ x1 x2 x3 x4 x5 x6 s, x8_count_b17 X17 X43 X65 Q x1 x2 x3 x4 x5 x6 s → X17 x1 x2 x3 x4 x5 x6 s) → (∀ x1 x3 x4 x5 x6 t0 t1 s, x8_count_b43 X17 X43 X65 Q x1 x3 x4 x5 x6 t0 t1 s → X43 x1 x3 x4 x5 x6 t0 t1 s) → (∀ x1 x2 x4 x5 x6 t0 t1 s, x8_count_b65 X17 X43 X65 Q x1 x2 x4 x5 x6 t0 t1 s → X65 x1 x2 x4 x5 x6 t0 t1 s) → X43 x1 x3 x4 x5 x6 t0 t1 s
def x8_count_L65 (Q : Int → Mem → Prop) (x1 : Int) (x2 : Int) (x4 : Int) (x5 : Int) (x6 : Int) (t0 : Int) (t1 : Int) (s : Mem) : Prop := ∀ (X17 : Int → Int → Int → Int → Int → Int → Mem → Prop) (X43 : Int → Int → Int → Int → Int → Int → Int → Mem → Prop) (X65 : Int → Int → Int → Int → Int → Int → Int → Mem → Prop), (∀ x1 x2 x3 x4 x5 x6 s, x8_count_b17 X17 X43 X65 Q x1 x2 x3 x4 x5 x6 s → X17 x1 x2 x3 x4 x5 x6 s) → (∀ x1 x3 x4 x5 x6 t0 t1 s, x8_count_b43 X17 X43 X65 Q x1 x3 x4 x5 x6 t0 t1 s → X43 x1 x3 x4 x5 x6 t0 t1 s) → (∀ x1 x2 x4 x5 x6 t0 t1 s, x8_count_b65 X17 X43 X65 Q x1 x2 x4 x5 x6 t0 t1 s → X65 x1 x2 x4 x5 x6 t0 t1 s) → X65 x1 x2 x4 x5 x6 t0 t1 s
theorem x8_count_i {Q : Int → Mem → Prop} {p1 : Int} {s : Mem} (h : x8_count_be (x8_count_L17 Q) (x8_count_L43 Q) (x8_count_L65 Q) Q p1 s) : x8_count p1 s Q := fun X17 X43 X65 k17 k43 k65 => x8_count_me (fun _ _ _ _ _ _ _ h => h X17 X43 X65 k17 k43 k65) (fun _ _ _ _ _ _ _ _ h => h X17 X43 X65 k17 k43 k65) (fun _ _ _ _ _ _ _ _ h => h X17 X43 X65 k17 k43 k65) (fun _ _ h => h) h
theorem x8_count_s17 {Q : Int → Mem → Prop} {x1 : Int} {x2 : Int} {x3 : Int} {x4 : Int} {x5 : Int} {x6 : Int} {s : Mem} (h : x8_count_b17 (x8_count_L17 Q) (x8_count_L43 Q) (x8_count_L65 Q) Q x1 x2 x3 x4 x5 x6 s) : x8_count_L17 Q x1 x2 x3 x4 x5 x6 s := fun X17 X43 X65 k17 k43 k65 => k17 _ _ _ _ _ _ _ (x8_count_m17 (fun _ _ _ _ _ _ _ h => h X17 X43 X65 k17 k43 k65) (fun _ _ _ _ _ _ _ _ h => h X17 X43 X65 k17 k43 k65) (fun _ _ _ _ _ _ _ _ h => h X17 X43 X65 k17 k43 k65) (fun _ _ h => h) h)
theorem x8_count_s43 {Q : Int → Mem → Prop} {x1 : Int} {x3 : Int} {x4 : Int} {x5 : Int} {x6 : Int} {t0 : Int} {t1 : Int} {s : Mem} (h : x8_count_b43 (x8_count_L17 Q) (x8_count_L43 Q) (x8_count_L65 Q) Q x1 x3 x4 x5 x6 t0 t1 s) : x8_count_L43 Q x1 x3 x4 x5 x6 t0 t1 s := fun X17 X43 X65 k17 k43 k65 => k43 _ _ _ _ _ _ _ _ (x8_count_m43 (fun _ _ _ _ _ _ _ h => h X17 X43 X65 k17 k43 k65) (fun _ _ _ _ _ _ _ _ h => h X17 X43 X65 k17 k43 k65) (fun _ _ _ _ _ _ _ _ h => h X17 X43 X65 k17 k43 k65) (fun _ _ h => h) h)
theorem x8_count_s65 {Q : Int → Mem → Prop} {x1 : Int} {x2 : Int} {x4 : Int} {x5 : Int} {x6 : Int} {t0 : Int} {t1 : Int} {s : Mem} (h : x8_count_b65 (x8_count_L17 Q) (x8_count_L43 Q) (x8_count_L65 Q) Q x1 x2 x4 x5 x6 t0 t1 s) : x8_count_L65 Q x1 x2 x4 x5 x6 t0 t1 s := fun X17 X43 X65 k17 k43 k65 => k65 _ _ _ _ _ _ _ _ (x8_count_m65 (fun _ _ _ _ _ _ _ h => h X17 X43 X65 k17 k43 k65) (fun _ _ _ _ _ _ _ _ h => h X17 X43 X65 k17 k43 k65) (fun _ _ _ _ _ _ _ _ h => h X17 X43 X65 k17 k43 k65) (fun _ _ h => h) h)
theorem x8_count_mono {Q R : Int → Mem → Prop} {p1 : Int} {s : Mem} (h : x8_count p1 s Q) (hQ : ∀ r s, Q r s → R r s) : x8_count p1 s R := fun X17 X43 X65 k17 k43 k65 => x8_count_me (fun _ _ _ _ _ _ _ h => h) (fun _ _ _ _ _ _ _ _ h => h) (fun _ _ _ _ _ _ _ _ h => h) hQ (h X17 X43 X65 (fun _ _ _ _ _ _ _ h => k17 _ _ _ _ _ _ _ (x8_count_m17 (fun _ _ _ _ _ _ _ h => h) (fun _ _ _ _ _ _ _ _ h => h) (fun _ _ _ _ _ _ _ _ h => h) hQ h)) (fun _ _ _ _ _ _ _ _ h => k43 _ _ _ _ _ _ _ _ (x8_count_m43 (fun _ _ _ _ _ _ _ h => h) (fun _ _ _ _ _ _ _ _ h => h) (fun _ _ _ _ _ _ _ _ h => h) hQ h)) (fun _ _ _ _ _ _ _ _ h => k65 _ _ _ _ _ _ _ _ (x8_count_m65 (fun _ _ _ _ _ _ _ h => h) (fun _ _ _ _ _ _ _ _ h => h) (fun _ _ _ _ _ _ _ _ h => h) hQ h)))
def x8_count_rm : Room := { frames := 3, cells := 0, slots := 0, locals := 72 }
theorem w_x8_count_86 : Cond.fieldLink RX8 86 "BoltRingModel" "n" "I" ∈ wsX8_count := by decide +kernel
theorem w_x8_count_92 : Cond.fieldLink RX8 92 "BoltRingModel" "cases" "I" ∈ wsX8_count := by decide +kernel
theorem w_x8_count_163 : Cond.fieldLink RX8 163 "BoltRingModel" "textSize" "I" ∈ wsX8_count := by decide +kernel
theorem w_x8_count_166 : Cond.fieldLink RX8 166 "BoltRingModel" "done" "I" ∈ wsX8_count := by decide +kernel
theorem w_x8_count_105 : Cond.constant RX8 105 (-100002) ∈ wsX8_count := by decide +kernel
theorem w_x8_count_16 : Cond.fieldLink RX8 16 "BoltRingModel" "turns" "[I" ∈ wsX8_count := by decide +kernel
theorem w_x8_count_35 : Cond.fieldLink RX8 35 "BoltRingModel" "isRead" "[Z" ∈ wsX8_count := by decide +kernel
theorem in_x8_count_X8 : ∀ w ∈ wsX80, w ∈ wsX8_count := by decide +kernel
set_option maxHeartbeats 4000000 in
set_option maxRecDepth 100000 in
theorem x8_count_bd {κ : KT} {ad : Nat → Nat} {cA : Nat → ClassId} {D : va_G} {Q : State → Prop} {p1 : Int} {s : Mem} (C : CX κ (GB ad cA D) RX8 cX8_count 7 wsX8_count x8_count_rm (some .int)) (h : x8_count p1 s (RT κ (GB ad cA D) ocI Q)) : WM κ (GB ad cA D) 7 Q s 0 [(0, .ref (ad 0)), (1, vI p1)] [] := by
  obtain ⟨Z17, z17⟩ : ∃ Z : Int → Int → Int → Int → Int → Int → Mem → Prop, ∀ x1 x2 x3 x4 x5 x6 s, Z x1 x2 x3 x4 x5 x6 s ↔ WM κ (GB ad cA D) 7 Q s 17 [(0, .ref (ad 0)), (1, vI x1), (2, vI x2), (3, vI x3), (4, vI x4), (5, vI x5), (6, vI x6)] [] := ⟨fun x1 x2 x3 x4 x5 x6 s => WM κ (GB ad cA D) 7 Q s 17 [(0, .ref (ad 0)), (1, vI x1), (2, vI x2), (3, vI x3), (4, vI x4), (5, vI x5), (6, vI x6)] [], fun _ _ _ _ _ _ _ => Iff.rfl⟩
  obtain ⟨Z43, z43⟩ : ∃ Z : Int → Int → Int → Int → Int → Int → Int → Mem → Prop, ∀ x1 x3 x4 x5 x6 t0 t1 s, Z x1 x3 x4 x5 x6 t0 t1 s ↔ WM κ (GB ad cA D) 7 Q s 43 [(0, .ref (ad 0)), (1, vI x1), (3, vI x3), (4, vI x4), (5, vI x5), (6, vI x6)] [vI t0, vI t1] := ⟨fun x1 x3 x4 x5 x6 t0 t1 s => WM κ (GB ad cA D) 7 Q s 43 [(0, .ref (ad 0)), (1, vI x1), (3, vI x3), (4, vI x4), (5, vI x5), (6, vI x6)] [vI t0, vI t1], fun _ _ _ _ _ _ _ _ => Iff.rfl⟩
  obtain ⟨Z65, z65⟩ : ∃ Z : Int → Int → Int → Int → Int → Int → Int → Mem → Prop, ∀ x1 x2 x4 x5 x6 t0 t1 s, Z x1 x2 x4 x5 x6 t0 t1 s ↔ WM κ (GB ad cA D) 7 Q s 65 [(0, .ref (ad 0)), (1, vI x1), (2, vI x2), (4, vI x4), (5, vI x5), (6, vI x6)] [vI t0, vI t1] := ⟨fun x1 x2 x4 x5 x6 t0 t1 s => WM κ (GB ad cA D) 7 Q s 65 [(0, .ref (ad 0)), (1, vI x1), (2, vI x2), (4, vI x4), (5, vI x5), (6, vI x6)] [vI t0, vI t1], fun _ _ _ _ _ _ _ _ => Iff.rfl⟩
  refine (fun h => ?_) (h Z17 Z43 Z65 ?_ ?_ ?_)
  · refine r_aload_n C 0 dX8_count_0 rfl ?_
    refine r_callV (As := []) (o := 0) (n := 0) C dX8_count_1 (x8_findLifts_ct κ.1.2.1 ad cA D s) gX8_count_X8_findLifts rfl ⟨rfl, rfl⟩ (by decide +kernel) (by decide) (shB_0) rfl rfl rfl (Nat.le_of_ble_eq_true rfl) (fun _ => rfl) ?_
    refine x8_findLifts_mono h (fun _ s1 h => ?_)
    refine r_iconst C dX8_count_4 ?_
    refine r_istore_n (ls' := [(2, vI (0 : Int)), (0, .ref (ad 0)), (1, vI p1)]) C dX8_count_5 rfl (by decide) rfl ?_
    refine r_iconst C dX8_count_6 ?_
    refine r_istore_n (ls' := [(3, vI (0 : Int)), (2, vI (0 : Int)), (0, .ref (ad 0)), (1, vI p1)]) C dX8_count_7 rfl (by decide) rfl ?_
    refine r_iconst C dX8_count_8 ?_
    refine r_istore (ls' := [(4, vI (0 : Int)), (3, vI (0 : Int)), (2, vI (0 : Int)), (0, .ref (ad 0)), (1, vI p1)]) C dX8_count_9 (by decide) rfl ?_
    refine r_iconst C dX8_count_11 ?_
    refine r_istore (ls' := [(5, vI (0 : Int)), (4, vI (0 : Int)), (3, vI (0 : Int)), (2, vI (0 : Int)), (0, .ref (ad 0)), (1, vI p1)]) C dX8_count_12 (by decide) rfl ?_
    refine r_iconst C dX8_count_14 ?_
    refine r_istore (ls' := [(6, vI (0 : Int)), (5, vI (0 : Int)), (4, vI (0 : Int)), (3, vI (0 : Int)), (2, vI (0 : Int)), (0, .ref (ad 0)), (1, vI p1)]) C dX8_count_15 (by decide) rfl ?_
    exact r_perm [5, 6, 4, 3, 2, 1, 0] rfl ((z17 _ _ _ _ _ _ _).1 h)
  · intro x1 x2 x3 x4 x5 x6 s h
    refine (z17 _ _ _ _ _ _ _).2 ?_
    refine r_iload C 6 dX8_count_17 rfl ?_
    refine r_aload_n C 0 dX8_count_19 rfl ?_
    refine r_get (j := 0) (jz := 0) (v := vI (s 0 (0 : Int))) C dX8_count_20 (shB_0) rfl rfl (by decide) in_x8_count_X8 w_x8_count_86 rfl rfl rfl ?_
    refine r_icmp_ge (tgt := 103) C dX8_count_23 (by decide) ⟨h.1, fun c8 => ?_, fun c8 => ?_⟩
    · have h := h.2.1 c8
      refine r_iload_n C 1 dX8_count_103 rfl ?_
      have hI := h.1
      by_cases c2 : x1 = 0
      · have h := h.2.1 c2
        refine r_tsIn (tgt := 156) C 0 dX8_count_104 rfl (by decide) c2 hI (by decide) ?_
        refine r_aload_n C 0 dX8_count_156 rfl ?_
        refine r_get (j := 0) (jz := 0) (v := vI (s 0 (0 : Int))) C dX8_count_157 (shB_0) rfl rfl (by decide) in_x8_count_X8 w_x8_count_86 rfl rfl rfl ?_
        exact r_ireturn C dX8_count_160 h
      by_cases c2 : x1 = 1
      · have h := h.2.2.1 c2
        refine r_tsIn (tgt := 161) C 1 dX8_count_104 rfl (by decide) c2 hI (by decide) ?_
        refine r_aload_n C 0 dX8_count_161 rfl ?_
        refine r_get (j := 0) (jz := 0) (v := vI (s 0 (0 : Int))) C dX8_count_162 (shB_0) rfl rfl (by decide) in_x8_count_X8 w_x8_count_86 rfl rfl rfl ?_
        refine r_aload_n C 0 dX8_count_165 rfl ?_
        refine r_callV (As := []) (o := 0) (n := 0) C dX8_count_166 (x8_whole_ct κ.1.2.1 ad cA D s) gX8_count_X8_whole rfl ⟨rfl, rfl⟩ (by decide +kernel) (by decide) (shB_0) rfl rfl rfl (Nat.le_of_ble_eq_true rfl) (fun _ => rfl) ?_
        refine x8_whole_mono h (fun r4 s3 h => ?_)
        refine r_isub C dX8_count_169 ?_
        exact r_ireturn C dX8_count_170 h
      by_cases c2 : x1 = 2
      · have h := h.2.2.2.1 c2
        refine r_tsIn (tgt := 171) C 2 dX8_count_104 rfl (by decide) c2 hI (by decide) ?_
        refine r_iload_n C 2 dX8_count_171 rfl ?_
        exact r_ireturn C dX8_count_172 h
      by_cases c2 : x1 = 3
      · have h := h.2.2.2.2.1 c2
        refine r_tsIn (tgt := 173) C 3 dX8_count_104 rfl (by decide) c2 hI (by decide) ?_
        refine r_iload_n C 3 dX8_count_173 rfl ?_
        exact r_ireturn C dX8_count_174 h
      by_cases c2 : x1 = 4
      · have h := h.2.2.2.2.2.1 c2
        refine r_tsIn (tgt := 175) C 4 dX8_count_104 rfl (by decide) c2 hI (by decide) ?_
        refine r_iload C 4 dX8_count_175 rfl ?_
        exact r_ireturn C dX8_count_177 h
      by_cases c2 : x1 = 5
      · have h := h.2.2.2.2.2.2.1 c2
        refine r_tsIn (tgt := 178) C 5 dX8_count_104 rfl (by decide) c2 hI (by decide) ?_
        refine r_aload_n C 0 dX8_count_178 rfl ?_
        refine r_get (j := 8) (jz := 8) (v := vI (s 0 (8 : Int))) C dX8_count_179 (shB_0) rfl rfl (by decide) in_x8_count_X8 w_x8_count_92 rfl rfl rfl ?_
        exact r_ireturn C dX8_count_182 h
      by_cases c2 : x1 = 6
      · have h := h.2.2.2.2.2.2.2.1 c2
        refine r_tsIn (tgt := 183) C 6 dX8_count_104 rfl (by decide) c2 hI (by decide) ?_
        refine r_iload C 5 dX8_count_183 rfl ?_
        exact r_ireturn C dX8_count_185 h
      by_cases c2 : x1 = 7
      · have h := h.2.2.2.2.2.2.2.2.1 c2
        refine r_tsIn (tgt := 186) C 7 dX8_count_104 rfl (by decide) c2 hI (by decide) ?_
        refine r_aload_n C 0 dX8_count_186 rfl ?_
        refine r_get (j := 30) (jz := 30) (v := vI (s 0 (30 : Int))) C dX8_count_187 (shB_0) rfl rfl (by decide) in_x8_count_X8 w_x8_count_163 rfl rfl rfl ?_
        exact r_ireturn C dX8_count_190 h
      by_cases c2 : x1 = 8
      · have h := h.2.2.2.2.2.2.2.2.2.1 c2
        refine r_tsIn (tgt := 191) C 8 dX8_count_104 rfl (by decide) c2 hI (by decide) ?_
        refine r_aload_n C 0 dX8_count_191 rfl ?_
        refine r_get (j := 36) (jz := 36) (v := vI (s 0 (36 : Int))) C dX8_count_192 (shB_0) rfl rfl (by decide) in_x8_count_X8 w_x8_count_166 rfl rfl rfl ?_
        exact r_ireturn C dX8_count_195 h
      have c2d : x1 < 0 ∨ 8 < x1 := by omega
      have h := h.2.2.2.2.2.2.2.2.2.2 c2d
      refine r_tsOut (tgt := 196) C dX8_count_104 c2d hI (by decide) ?_
      refine r_ldc (z := -100002) C dX8_count_196 w_x8_count_105 rfl ?_
      exact r_ireturn C dX8_count_198 h
    · have h := h.2.2 c8
      refine r_iload_n C 2 dX8_count_26 rfl ?_
      refine r_aload_n C 0 dX8_count_27 rfl ?_
      refine r_iload C 6 dX8_count_28 rfl ?_
      refine r_callV (As := [vI x6]) (o := 0) (n := 1) C dX8_count_30 (x8_pull_ct κ.1.2.1 ad cA D x6 s) gX8_count_X8_pull rfl ⟨rfl, rfl⟩ (by decide +kernel) (by decide) (shB_0) rfl rfl rfl (Nat.le_of_ble_eq_true rfl) (fun _ => rfl) ?_
      refine x8_pull_mono h (fun r6 s5 h => ?_)
      refine r_lconst (z := 0) C dX8_count_33 rfl ?_
      refine r_lcmp_ne (tgt := 42) C dX8_count_34 dX8_count_35 (by decide) ⟨h.1, fun c7 => ?_, fun c7 => ?_⟩
      · have h := h.2.1 c7
        refine r_iconst C dX8_count_42 ?_
        exact r_perm [0, 1, 3, 4, 5, 6] rfl ((z43 _ _ _ _ _ _ _ _).1 h)
      · have h := h.2.2 c7
        refine r_iconst C dX8_count_38 ?_
        refine r_goto (tgt := 43) C dX8_count_39 (by decide) ?_
        exact r_perm [0, 1, 3, 4, 5, 6] rfl ((z43 _ _ _ _ _ _ _ _).1 h)
  · intro x1 x3 x4 x5 x6 t0 t1 s h
    refine (z43 _ _ _ _ _ _ _ _).2 ?_
    refine r_callS (As := [vI t0]) (n := 1) C dX8_count_43 (x8_bit_ct κ.1.2.1 ad cA D t0 s) gX8_count_X8_bit rfl ⟨rfl, rfl⟩ (by decide +kernel) (by decide) rfl rfl (Nat.le_of_ble_eq_true rfl) (fun _ => rfl) ?_
    refine x8_bit_mono h (fun r10 s9 h => ?_)
    refine r_iadd C dX8_count_46 ?_
    refine r_istore_n (ls' := [(2, vI (t1 + r10)), (0, .ref (ad 0)), (1, vI x1), (3, vI x3), (4, vI x4), (5, vI x5), (6, vI x6)]) C dX8_count_47 rfl (by decide) rfl ?_
    refine r_iload_n C 3 dX8_count_48 rfl ?_
    refine r_aload_n C 1 dX8_count_49 rfl ?_
    refine r_iload C 6 dX8_count_50 rfl ?_
    refine r_callV (As := [vI x6]) (o := 0) (n := 1) C dX8_count_52 (x8_press_ct κ.1.2.1 ad cA D x6 s9) gX8_count_X8_press rfl ⟨rfl, rfl⟩ (by decide +kernel) (by decide) (shB_0) rfl rfl rfl (Nat.le_of_ble_eq_true rfl) (fun _ => rfl) ?_
    refine x8_press_mono h (fun r12 s11 h => ?_)
    refine r_lconst (z := 0) C dX8_count_55 rfl ?_
    refine r_lcmp_ne (tgt := 64) C dX8_count_56 dX8_count_57 (by decide) ⟨h.1, fun c13 => ?_, fun c13 => ?_⟩
    · have h := h.2.1 c13
      refine r_iconst C dX8_count_64 ?_
      exact r_perm [1, 2, 0, 4, 5, 6] rfl ((z65 _ _ _ _ _ _ _ _).1 h)
    · have h := h.2.2 c13
      refine r_iconst C dX8_count_60 ?_
      refine r_goto (tgt := 65) C dX8_count_61 (by decide) ?_
      exact r_perm [1, 2, 0, 4, 5, 6] rfl ((z65 _ _ _ _ _ _ _ _).1 h)
  · intro x1 x2 x4 x5 x6 t0 t1 s h
    refine (z65 _ _ _ _ _ _ _ _).2 ?_
    refine r_callS (As := [vI t0]) (n := 1) C dX8_count_65 (x8_bit_ct κ.1.2.1 ad cA D t0 s) gX8_count_X8_bit rfl ⟨rfl, rfl⟩ (by decide +kernel) (by decide) rfl rfl (Nat.le_of_ble_eq_true rfl) (fun _ => rfl) ?_
    refine x8_bit_mono h (fun r15 s14 h => ?_)
    refine r_iadd C dX8_count_68 ?_
    refine r_istore_n (ls' := [(3, vI (t1 + r15)), (0, .ref (ad 0)), (1, vI x1), (2, vI x2), (4, vI x4), (5, vI x5), (6, vI x6)]) C dX8_count_69 rfl (by decide) rfl ?_
    refine r_iload C 4 dX8_count_70 rfl ?_
    refine r_aload_n C 1 dX8_count_72 rfl ?_
    refine r_get (j := 4) (jz := 4) (v := .ref (ad 3)) C dX8_count_73 (shB_0) rfl rfl (by decide) in_x8_count_X8 w_x8_count_16 rfl rfl rfl ?_
    refine r_iload C 6 dX8_count_76 rfl ?_
    refine r_iald (nz := 6) C dX8_count_78 (shB_3) rfl (by decide) ⟨h.1, ?_⟩
    have h := h.2
    refine r_iadd C dX8_count_79 ?_
    refine r_istore (ls' := [(4, vI (x4 + (s14 3 x6))), (3, vI (t1 + r15)), (0, .ref (ad 0)), (1, vI x1), (2, vI x2), (5, vI x5), (6, vI x6)]) C dX8_count_80 (by decide) rfl ?_
    refine r_iload C 5 dX8_count_82 rfl ?_
    refine r_aload_n C 2 dX8_count_84 rfl ?_
    refine r_get (j := 11) (jz := 11) (v := .ref (ad 9)) C dX8_count_85 (shB_0) rfl rfl (by decide) in_x8_count_X8 w_x8_count_35 rfl rfl rfl ?_
    refine r_iload C 6 dX8_count_88 rfl ?_
    refine r_zald (nz := 6) C dX8_count_90 (shB_9) rfl (by decide) ⟨h.1, ?_⟩
    have h := h.2
    refine r_callS (As := [vI (s14 9 x6)]) (n := 1) C dX8_count_91 (x8_bit_ct κ.1.2.1 ad cA D (s14 9 x6) s14) gX8_count_X8_bit rfl ⟨rfl, rfl⟩ (by decide +kernel) (by decide) rfl rfl (Nat.le_of_ble_eq_true rfl) (fun _ => rfl) ?_
    refine x8_bit_mono h (fun r17 s16 h => ?_)
    refine r_iadd C dX8_count_94 ?_
    refine r_istore (ls' := [(5, vI (x5 + r17)), (4, vI (x4 + (s14 3 x6))), (3, vI (t1 + r15)), (0, .ref (ad 0)), (1, vI x1), (2, vI x2), (6, vI x6)]) C dX8_count_95 (by decide) rfl ?_
    refine r_iinc (j := 6) (ls' := [(6, vI (x6 + (1 : Int))), (5, vI (x5 + r17)), (4, vI (x4 + (s14 3 x6))), (3, vI (t1 + r15)), (0, .ref (ad 0)), (1, vI x1), (2, vI x2)]) C dX8_count_97 rfl (by decide) rfl ?_
    refine r_goto (tgt := 17) C dX8_count_100 (by decide) ?_
    exact r_perm [4, 5, 6, 3, 2, 1, 0] rfl ((z17 _ _ _ _ _ _ _).1 h)
theorem x8_count_ct (l : Launch) (ad : Nat → Nat) (cA : Nat → ClassId) (D : va_G) (p1 : Int) (s : Mem) : MG l yX8_count wsX8_count x8_count_rm ocI [.ref (ad 0), vI p1] (GB ad cA D) s (x8_count p1 s) :=
  m_met (own := RX8) (nL := 7) (by decide) rfl rfl (Nat.le_of_ble_eq_true rfl) rfl rfl rfl (fun κ hl C Q Pst hW hQ => x8_count_bd C (x8_count_mono hW hQ))

def x8_has (p1 : Int) (p2 : Int) (s : Mem) (Q : Int → Mem → Prop) : Prop :=
  x8_findLifts s (fun _ s1 => x8_pull p1 s1 (fun r3 s2 => (InI p2) ∧ (InL r3 ∧ InL (p2 * (s2 0 (15 : Int)))) ∧ (r3 < (p2 * (s2 0 (15 : Int))) → ((0 : Int) ≤ (0 : Int) ∧ (0 : Int) ≤ 1) ∧ Q (0 : Int) s2) ∧ ((p2 * (s2 0 (15 : Int))) ≤ r3 → ((0 : Int) ≤ (1 : Int) ∧ (1 : Int) ≤ 1) ∧ Q (1 : Int) s2)))
theorem x8_has_mono {Q R : Int → Mem → Prop} {p1 : Int} {p2 : Int} {s : Mem} (h : x8_has p1 p2 s Q) (hQ : ∀ r s, Q r s → R r s) : x8_has p1 p2 s R :=
  x8_findLifts_mono h (fun _ s1 h => x8_pull_mono h (fun r3 s2 h => ⟨h.1, have h := h.2; ⟨h.1, fun c => have h := h.2.1 c; ⟨h.1, hQ _ _ h.2⟩, fun c => have h := h.2.2 c; ⟨h.1, hQ _ _ h.2⟩⟩⟩))
def x8_has_rm : Room := { frames := 3, cells := 0, slots := 0, locals := 72 }
theorem w_x8_has_124 : Cond.fieldLink RX8 124 "BoltRingModel" "below" "J" ∈ wsX8_has := by decide +kernel
theorem in_x8_has_X8 : ∀ w ∈ wsX80, w ∈ wsX8_has := by decide +kernel
set_option maxHeartbeats 4000000 in
set_option maxRecDepth 100000 in
theorem x8_has_bd {κ : KT} {ad : Nat → Nat} {cA : Nat → ClassId} {D : va_G} {Q : State → Prop} {p1 : Int} {p2 : Int} {s : Mem} (C : CX κ (GB ad cA D) RX8 cX8_has 3 wsX8_has x8_has_rm (some .boolean)) (h : x8_has p1 p2 s (RT κ (GB ad cA D) ocI Q)) : WM κ (GB ad cA D) 3 Q s 0 [(0, .ref (ad 0)), (1, vI p1), (2, vI p2)] [] := by
  refine r_aload_n C 0 dX8_has_0 rfl ?_
  refine r_callV (As := []) (o := 0) (n := 0) C dX8_has_1 (x8_findLifts_ct κ.1.2.1 ad cA D s) gX8_has_X8_findLifts rfl ⟨rfl, rfl⟩ (by decide +kernel) (by decide) (shB_0) rfl rfl rfl (Nat.le_of_ble_eq_true rfl) (fun _ => rfl) ?_
  refine x8_findLifts_mono h (fun _ s1 h => ?_)
  refine r_aload_n C 0 dX8_has_4 rfl ?_
  refine r_iload_n C 1 dX8_has_5 rfl ?_
  refine r_callV (As := [vI p1]) (o := 0) (n := 1) C dX8_has_6 (x8_pull_ct κ.1.2.1 ad cA D p1 s1) gX8_has_X8_pull rfl ⟨rfl, rfl⟩ (by decide +kernel) (by decide) (shB_0) rfl rfl rfl (Nat.le_of_ble_eq_true rfl) (fun _ => rfl) ?_
  refine x8_pull_mono h (fun r3 s2 h => ?_)
  refine r_iload_n C 2 dX8_has_9 rfl ?_
  refine r_i2l C dX8_has_10 ⟨h.1, ?_⟩
  have h := h.2
  refine r_aload_n C 0 dX8_has_11 rfl ?_
  refine r_get (j := 15) (jz := 15) (v := vL (s2 0 (15 : Int))) C dX8_has_12 (shB_0) rfl rfl (by decide) in_x8_has_X8 w_x8_has_124 rfl rfl rfl ?_
  refine r_lmul C dX8_has_15 ?_
  refine r_lcmp_lt (tgt := 24) C dX8_has_16 dX8_has_17 (by decide) ⟨h.1, fun c4 => ?_, fun c4 => ?_⟩
  · have h := h.2.1 c4
    refine r_iconst C dX8_has_24 ?_
    exact r_zreturn C dX8_has_25 h
  · have h := h.2.2 c4
    refine r_iconst C dX8_has_20 ?_
    refine r_goto (tgt := 25) C dX8_has_21 (by decide) ?_
    exact r_zreturn C dX8_has_25 h
theorem x8_has_ct (l : Launch) (ad : Nat → Nat) (cA : Nat → ClassId) (D : va_G) (p1 : Int) (p2 : Int) (s : Mem) : MG l yX8_has wsX8_has x8_has_rm ocI [.ref (ad 0), vI p1, vI p2] (GB ad cA D) s (x8_has p1 p2 s) :=
  m_met (own := RX8) (nL := 3) (by decide) rfl rfl (Nat.le_of_ble_eq_true rfl) rfl rfl rfl (fun κ hl C Q Pst hW hQ => x8_has_bd C (x8_has_mono hW hQ))

def x8_drawOf_be (X60 : Int → Int → Int → Int → Int → Mem → Prop) (Q : Int → Mem → Prop) (p1 : Int) (p2 : Int) (s : Mem) : Prop :=
  ((0 : Int) ≤ p1 ∧ p1 < 6) ∧ x8_has p1 p2 s (fun r2 s1 => InI r2 ∧ (r2 = (0 : Int) → ((0 : Int) ≤ p1 ∧ p1 < 6) ∧ ∀ s3 : Mem, s3 = m_upd s1 3 p1 (200 : Int) → (InI (s 3 p1) ∧ InI (200 : Int)) ∧ ((s 3 p1) = (200 : Int) → ((0 : Int) ≤ p1 ∧ p1 < 6) ∧ ∀ s4 : Mem, s4 = m_upd s3 3 p1 (s 3 p1) → Q (-1 : Int) s4) ∧ (¬ (s 3 p1) = (200 : Int) → x8_has p1 p2 s3 (fun r6 s5 => InI r6 ∧ (¬ r6 = (0 : Int) → X60 p1 p2 (s 3 p1) (s 3 p1) (200 : Int) s5) ∧ (r6 = (0 : Int) → ((0 : Int) ≤ p1 ∧ p1 < 6) ∧ ∀ s7 : Mem, s7 = m_upd s5 3 p1 (s 3 p1) → Q (-1 : Int) s7)))) ∧ (¬ r2 = (0 : Int) → Q (0 : Int) s1))
def x8_drawOf_b60 (X60 : Int → Int → Int → Int → Int → Mem → Prop) (Q : Int → Mem → Prop) (x1 : Int) (x2 : Int) (x3 : Int) (x4 : Int) (x5 : Int) (s : Mem) : Prop :=
  (InI (x5 - x4) ∧ InI (1 : Int)) ∧ ((x5 - x4) ≤ (1 : Int) → ((0 : Int) ≤ x1 ∧ x1 < 6) ∧ ∀ s11 : Mem, s11 = m_upd s 3 x1 x5 → Q (x5 - x3) s11) ∧ ((1 : Int) < (x5 - x4) → (InI (x4 + x5) ∧ InI (2 : Int) ∧ ¬ (2 : Int) = 0) ∧ ∀ v12 : Int, v12 = (Int.tdiv (x4 + x5) (2 : Int)) → ((0 : Int) ≤ x1 ∧ x1 < 6) ∧ ∀ s13 : Mem, s13 = m_upd s 3 x1 v12 → x8_has x1 x2 s13 (fun r15 s14 => InI r15 ∧ (r15 = (0 : Int) → X60 x1 x2 x3 v12 x5 s14) ∧ (¬ r15 = (0 : Int) → X60 x1 x2 x3 x4 v12 s14)))
theorem x8_drawOf_me {X60 Y60 : Int → Int → Int → Int → Int → Mem → Prop} {Q R : Int → Mem → Prop} (hX60 : ∀ x1 x2 x3 x4 x5 s, X60 x1 x2 x3 x4 x5 s → Y60 x1 x2 x3 x4 x5 s) (hQ : ∀ r s, Q r s → R r s) {p1 : Int} {p2 : Int} {s : Mem} (h : x8_drawOf_be X60 Q p1 p2 s) : x8_drawOf_be Y60 R p1 p2 s :=
  ⟨h.1, have h := h.2; x8_has_mono h (fun r2 s1 h => ⟨h.1, fun c => have h := h.2.1 c; ⟨h.1, have h := h.2; fun s3 e_s3 => have h := h s3 e_s3; ⟨h.1, fun c => have h := h.2.1 c; ⟨h.1, have h := h.2; fun s4 e_s4 => have h := h s4 e_s4; hQ _ _ h⟩, fun c => have h := h.2.2 c; x8_has_mono h (fun r6 s5 h => ⟨h.1, fun c => have h := h.2.1 c; hX60 _ _ _ _ _ _ h, fun c => have h := h.2.2 c; ⟨h.1, have h := h.2; fun s7 e_s7 => have h := h s7 e_s7; hQ _ _ h⟩⟩)⟩⟩, fun c => have h := h.2.2 c; hQ _ _ h⟩)⟩
theorem x8_drawOf_m60 {X60 Y60 : Int → Int → Int → Int → Int → Mem → Prop} {Q R : Int → Mem → Prop} (hX60 : ∀ x1 x2 x3 x4 x5 s, X60 x1 x2 x3 x4 x5 s → Y60 x1 x2 x3 x4 x5 s) (hQ : ∀ r s, Q r s → R r s) {x1 : Int} {x2 : Int} {x3 : Int} {x4 : Int} {x5 : Int} {s : Mem} (h : x8_drawOf_b60 X60 Q x1 x2 x3 x4 x5 s) : x8_drawOf_b60 Y60 R x1 x2 x3 x4 x5 s :=
  ⟨h.1, fun c => have h := h.2.1 c; ⟨h.1, have h := h.2; fun s11 e_s11 => have h := h s11 e_s11; hQ _ _ h⟩, fun c => have h := h.2.2 c; ⟨h.1, have h := h.2; fun v12 e_v12 => have h := h v12 e_v12; ⟨h.1, have h := h.2; fun s13 e_s13 => have h := h s13 e_s13; x8_has_mono h (fun r15 s14 h => ⟨h.1, fun c => have h := h.2.1 c; hX60 _ _ _ _ _ _ h, fun c => have h := h.2.2 c; hX60 _ _ _ _ _ _ h⟩)⟩⟩⟩
def x8_drawOf (p1 : Int) (p2 : Int) (s : Mem) (Q : Int → Mem → Prop) : Prop := ∀ (X60 : Int → Int → Int → Int → Int → Mem → Prop), (∀ x1 x2 x3 x4 x5 s, x8_drawOf_b60 X60 Q x1 x2 x3 x4 x5 s → X60 x1 x2 x3 x4 x5 s) → x8_drawOf_be X60 Q p1 p2 s
def x8_drawOf_L60 (Q : Int → Mem → Prop) (x1 : Int) (x2 : Int) (x3 : Int) (x4 : Int) (x5 : Int) (s : Mem) : Prop := ∀ (X60 : Int → Int → Int → Int → Int → Mem → Prop), (∀ x1 x2 x3 x4 x5 s, x8_drawOf_b60 X60 Q x1 x2 x3 x4 x5 s → X60 x1 x2 x3 x4 x5 s) → X60 x1 x2 x3 x4 x5 s
theorem x8_drawOf_i {Q : Int → Mem → Prop} {p1 : Int} {p2 : Int} {s : Mem} (h : x8_drawOf_be (x8_drawOf_L60 Q) Q p1 p2 s) : x8_drawOf p1 p2 s Q := fun X60 k60 => x8_drawOf_me (fun _ _ _ _ _ _ h => h X60 k60) (fun _ _ h => h) h
theorem x8_drawOf_s60 {Q : Int → Mem → Prop} {x1 : Int} {x2 : Int} {x3 : Int} {x4 : Int} {x5 : Int} {s : Mem} (h : x8_drawOf_b60 (x8_drawOf_L60 Q) Q x1 x2 x3 x4 x5 s) : x8_drawOf_L60 Q x1 x2 x3 x4 x5 s := fun X60 k60 => k60 _ _ _ _ _ _ (x8_drawOf_m60 (fun _ _ _ _ _ _ h => h X60 k60) (fun _ _ h => h) h)
theorem x8_drawOf_mono {Q R : Int → Mem → Prop} {p1 : Int} {p2 : Int} {s : Mem} (h : x8_drawOf p1 p2 s Q) (hQ : ∀ r s, Q r s → R r s) : x8_drawOf p1 p2 s R := fun X60 k60 => x8_drawOf_me (fun _ _ _ _ _ _ h => h) hQ (h X60 (fun _ _ _ _ _ _ h => k60 _ _ _ _ _ _ (x8_drawOf_m60 (fun _ _ _ _ _ _ h => h) hQ h)))
def x8_drawOf_rm : Room := { frames := 4, cells := 0, slots := 0, locals := 94 }
theorem w_x8_drawOf_16 : Cond.fieldLink RX8 16 "BoltRingModel" "turns" "[I" ∈ wsX8_drawOf := by decide +kernel
theorem in_x8_drawOf_X8 : ∀ w ∈ wsX80, w ∈ wsX8_drawOf := by decide +kernel
set_option maxHeartbeats 4000000 in
set_option maxRecDepth 100000 in
theorem x8_drawOf_bd {κ : KT} {ad : Nat → Nat} {cA : Nat → ClassId} {D : va_G} {Q : State → Prop} {p1 : Int} {p2 : Int} {s : Mem} (C : CX κ (GB ad cA D) RX8 cX8_drawOf 7 wsX8_drawOf x8_drawOf_rm (some .int)) (h : x8_drawOf p1 p2 s (RT κ (GB ad cA D) ocI Q)) : WM κ (GB ad cA D) 7 Q s 0 [(0, .ref (ad 0)), (1, vI p1), (2, vI p2)] [] := by
  obtain ⟨Z60, z60⟩ : ∃ Z : Int → Int → Int → Int → Int → Mem → Prop, ∀ x1 x2 x3 x4 x5 s, Z x1 x2 x3 x4 x5 s ↔ WM κ (GB ad cA D) 7 Q s 60 [(0, .ref (ad 0)), (1, vI x1), (2, vI x2), (3, vI x3), (4, vI x4), (5, vI x5)] [] := ⟨fun x1 x2 x3 x4 x5 s => WM κ (GB ad cA D) 7 Q s 60 [(0, .ref (ad 0)), (1, vI x1), (2, vI x2), (3, vI x3), (4, vI x4), (5, vI x5)] [], fun _ _ _ _ _ _ => Iff.rfl⟩
  refine (fun h => ?_) (h Z60 ?_)
  · refine r_aload_n C 0 dX8_drawOf_0 rfl ?_
    refine r_get (j := 4) (jz := 4) (v := .ref (ad 3)) C dX8_drawOf_1 (shB_0) rfl rfl (by decide) in_x8_drawOf_X8 w_x8_drawOf_16 rfl rfl rfl ?_
    refine r_iload_n C 1 dX8_drawOf_4 rfl ?_
    refine r_iald (nz := 6) C dX8_drawOf_5 (shB_3) rfl (by decide) ⟨h.1, ?_⟩
    have h := h.2
    refine r_istore_n (ls' := [(3, vI (s 3 p1)), (0, .ref (ad 0)), (1, vI p1), (2, vI p2)]) C dX8_drawOf_6 rfl (by decide) rfl ?_
    refine r_aload_n C 1 dX8_drawOf_7 rfl ?_
    refine r_iload_n C 2 dX8_drawOf_8 rfl ?_
    refine r_iload_n C 3 dX8_drawOf_9 rfl ?_
    refine r_callV (As := [vI p1, vI p2]) (o := 0) (n := 2) C dX8_drawOf_10 (x8_has_ct κ.1.2.1 ad cA D p1 p2 s) gX8_drawOf_X8_has rfl ⟨rfl, rfl⟩ (by decide +kernel) (by decide) (shB_0) rfl rfl rfl (Nat.le_of_ble_eq_true rfl) (fun _ => rfl) ?_
    refine x8_has_mono h (fun r2 s1 h => ?_)
    refine r_if_eq (tgt := 18) C dX8_drawOf_13 (by decide) ⟨h.1, fun c10 => ?_, fun c10 => ?_⟩
    · have h := h.2.1 c10
      refine r_aload_n C 1 dX8_drawOf_18 rfl ?_
      refine r_get (j := 4) (jz := 4) (v := .ref (ad 3)) C dX8_drawOf_19 (shB_0) rfl rfl (by decide) in_x8_drawOf_X8 w_x8_drawOf_16 rfl rfl rfl ?_
      refine r_iload_n C 2 dX8_drawOf_22 rfl ?_
      refine r_sipush C dX8_drawOf_23 (by decide) ?_
      refine r_iast (nz := 6) C dX8_drawOf_26 (shB_3) rfl (by decide) ⟨h.1, fun s3 e_s3 => ?_⟩
      have h := h.2 s3 e_s3
      refine r_iload_n C 0 dX8_drawOf_27 rfl ?_
      refine r_sipush C dX8_drawOf_28 (by decide) ?_
      refine r_icmp_eq (tgt := 43) C dX8_drawOf_31 (by decide) ⟨h.1, fun c9 => ?_, fun c9 => ?_⟩
      · have h := h.2.1 c9
        refine r_aload_n C 1 dX8_drawOf_43 rfl ?_
        refine r_get (j := 4) (jz := 4) (v := .ref (ad 3)) C dX8_drawOf_44 (shB_0) rfl rfl (by decide) in_x8_drawOf_X8 w_x8_drawOf_16 rfl rfl rfl ?_
        refine r_iload_n C 2 dX8_drawOf_47 rfl ?_
        refine r_iload_n C 0 dX8_drawOf_48 rfl ?_
        refine r_iast (nz := 6) C dX8_drawOf_49 (shB_3) rfl (by decide) ⟨h.1, fun s4 e_s4 => ?_⟩
        have h := h.2 s4 e_s4
        refine r_iconst C dX8_drawOf_50 ?_
        exact r_ireturn C dX8_drawOf_51 h
      · have h := h.2.2 c9
        refine r_aload_n C 1 dX8_drawOf_34 rfl ?_
        refine r_iload_n C 2 dX8_drawOf_35 rfl ?_
        refine r_iload_n C 3 dX8_drawOf_36 rfl ?_
        refine r_callV (As := [vI p1, vI p2]) (o := 0) (n := 2) C dX8_drawOf_37 (x8_has_ct κ.1.2.1 ad cA D p1 p2 s3) gX8_drawOf_X8_has rfl ⟨rfl, rfl⟩ (by decide +kernel) (by decide) (shB_0) rfl rfl rfl (Nat.le_of_ble_eq_true rfl) (fun _ => rfl) ?_
        refine x8_has_mono h (fun r6 s5 h => ?_)
        refine r_if_ne (tgt := 52) C dX8_drawOf_40 (by decide) ⟨h.1, fun c8 => ?_, fun c8 => ?_⟩
        · have h := h.2.1 c8
          refine r_iload_n C 0 dX8_drawOf_52 rfl ?_
          refine r_istore (ls' := [(4, vI (s 3 p1)), (3, vI (s 3 p1)), (0, .ref (ad 0)), (1, vI p1), (2, vI p2)]) C dX8_drawOf_53 (by decide) rfl ?_
          refine r_sipush C dX8_drawOf_55 (by decide) ?_
          refine r_istore (ls' := [(5, vI (200 : Int)), (4, vI (s 3 p1)), (3, vI (s 3 p1)), (0, .ref (ad 0)), (1, vI p1), (2, vI p2)]) C dX8_drawOf_58 (by decide) rfl ?_
          exact r_perm [3, 4, 5, 2, 1, 0] rfl ((z60 _ _ _ _ _ _).1 h)
        · have h := h.2.2 c8
          refine r_aload_n C 1 dX8_drawOf_43 rfl ?_
          refine r_get (j := 4) (jz := 4) (v := .ref (ad 3)) C dX8_drawOf_44 (shB_0) rfl rfl (by decide) in_x8_drawOf_X8 w_x8_drawOf_16 rfl rfl rfl ?_
          refine r_iload_n C 2 dX8_drawOf_47 rfl ?_
          refine r_iload_n C 0 dX8_drawOf_48 rfl ?_
          refine r_iast (nz := 6) C dX8_drawOf_49 (shB_3) rfl (by decide) ⟨h.1, fun s7 e_s7 => ?_⟩
          have h := h.2 s7 e_s7
          refine r_iconst C dX8_drawOf_50 ?_
          exact r_ireturn C dX8_drawOf_51 h
    · have h := h.2.2 c10
      refine r_iconst C dX8_drawOf_16 ?_
      exact r_ireturn C dX8_drawOf_17 h
  · intro x1 x2 x3 x4 x5 s h
    refine (z60 _ _ _ _ _ _).2 ?_
    refine r_iload C 5 dX8_drawOf_60 rfl ?_
    refine r_iload C 4 dX8_drawOf_62 rfl ?_
    refine r_isub C dX8_drawOf_64 ?_
    refine r_iconst C dX8_drawOf_65 ?_
    refine r_icmp_le (tgt := 109) C dX8_drawOf_66 (by decide) ⟨h.1, fun c17 => ?_, fun c17 => ?_⟩
    · have h := h.2.1 c17
      refine r_aload_n C 0 dX8_drawOf_109 rfl ?_
      refine r_get (j := 4) (jz := 4) (v := .ref (ad 3)) C dX8_drawOf_110 (shB_0) rfl rfl (by decide) in_x8_drawOf_X8 w_x8_drawOf_16 rfl rfl rfl ?_
      refine r_iload_n C 1 dX8_drawOf_113 rfl ?_
      refine r_iload C 5 dX8_drawOf_114 rfl ?_
      refine r_iast (nz := 6) C dX8_drawOf_116 (shB_3) rfl (by decide) ⟨h.1, fun s11 e_s11 => ?_⟩
      have h := h.2 s11 e_s11
      refine r_iload C 5 dX8_drawOf_117 rfl ?_
      refine r_iload_n C 3 dX8_drawOf_119 rfl ?_
      refine r_isub C dX8_drawOf_120 ?_
      exact r_ireturn C dX8_drawOf_121 h
    · have h := h.2.2 c17
      refine r_iload C 4 dX8_drawOf_69 rfl ?_
      refine r_iload C 5 dX8_drawOf_71 rfl ?_
      refine r_iadd C dX8_drawOf_73 ?_
      refine r_iconst C dX8_drawOf_74 ?_
      refine r_idiv C dX8_drawOf_75 ⟨h.1, ?_⟩
      have h := h.2
      refine r_topI (fun v12 e_v12 => ?_)
      have h := h v12 e_v12
      refine r_istore (ls' := [(6, vI v12), (0, .ref (ad 0)), (1, vI x1), (2, vI x2), (3, vI x3), (4, vI x4), (5, vI x5)]) C dX8_drawOf_76 (by decide) rfl ?_
      refine r_aload_n C 1 dX8_drawOf_78 rfl ?_
      refine r_get (j := 4) (jz := 4) (v := .ref (ad 3)) C dX8_drawOf_79 (shB_0) rfl rfl (by decide) in_x8_drawOf_X8 w_x8_drawOf_16 rfl rfl rfl ?_
      refine r_iload_n C 2 dX8_drawOf_82 rfl ?_
      refine r_iload C 0 dX8_drawOf_83 rfl ?_
      refine r_iast (nz := 6) C dX8_drawOf_85 (shB_3) rfl (by decide) ⟨h.1, fun s13 e_s13 => ?_⟩
      have h := h.2 s13 e_s13
      refine r_aload_n C 1 dX8_drawOf_86 rfl ?_
      refine r_iload_n C 2 dX8_drawOf_87 rfl ?_
      refine r_iload_n C 3 dX8_drawOf_88 rfl ?_
      refine r_callV (As := [vI x1, vI x2]) (o := 0) (n := 2) C dX8_drawOf_89 (x8_has_ct κ.1.2.1 ad cA D x1 x2 s13) gX8_drawOf_X8_has rfl ⟨rfl, rfl⟩ (by decide +kernel) (by decide) (shB_0) rfl rfl rfl (Nat.le_of_ble_eq_true rfl) (fun _ => rfl) ?_
      refine x8_has_mono h (fun r15 s14 h => ?_)
      refine r_if_eq (tgt := 102) C dX8_drawOf_92 (by decide) ⟨h.1, fun c16 => ?_, fun c16 => ?_⟩
      · have h := h.2.1 c16
        refine r_iload C 0 dX8_drawOf_102 rfl ?_
        refine r_istore (ls' := [(4, vI v12), (6, vI v12), (0, .ref (ad 0)), (1, vI x1), (2, vI x2), (3, vI x3), (5, vI x5)]) C dX8_drawOf_104 (by decide) rfl ?_
        refine r_goto (tgt := 60) C dX8_drawOf_106 (by decide) ?_
        exact r_perm [2, 3, 4, 5, 0, 6] rfl ((z60 _ _ _ _ _ _).1 h)
      · have h := h.2.2 c16
        refine r_iload C 0 dX8_drawOf_95 rfl ?_
        refine r_istore (ls' := [(5, vI v12), (6, vI v12), (0, .ref (ad 0)), (1, vI x1), (2, vI x2), (3, vI x3), (4, vI x4)]) C dX8_drawOf_97 (by decide) rfl ?_
        refine r_goto (tgt := 106) C dX8_drawOf_99 (by decide) ?_
        refine r_goto (tgt := 60) C dX8_drawOf_106 (by decide) ?_
        exact r_perm [2, 3, 4, 5, 6, 0] rfl ((z60 _ _ _ _ _ _).1 h)
theorem x8_drawOf_ct (l : Launch) (ad : Nat → Nat) (cA : Nat → ClassId) (D : va_G) (p1 : Int) (p2 : Int) (s : Mem) : MG l yX8_drawOf wsX8_drawOf x8_drawOf_rm ocI [.ref (ad 0), vI p1, vI p2] (GB ad cA D) s (x8_drawOf p1 p2 s) :=
  m_met (own := RX8) (nL := 7) (by decide) rfl rfl (Nat.le_of_ble_eq_true rfl) rfl rfl rfl (fun κ hl C Q Pst hW hQ => x8_drawOf_bd C (x8_drawOf_mono hW hQ))

def x8_isAim (p0 : Int) (s : Mem) (Q : Int → Mem → Prop) : Prop :=
  (InI p0) ∧ x8_in p0 (1 : Int) (900 : Int) s (fun r2 s1 => ((0 : Int) ≤ r2 ∧ r2 ≤ 1) ∧ Q r2 s1)
theorem x8_isAim_mono {Q R : Int → Mem → Prop} {p0 : Int} {s : Mem} (h : x8_isAim p0 s Q) (hQ : ∀ r s, Q r s → R r s) : x8_isAim p0 s R :=
  ⟨h.1, have h := h.2; x8_in_mono h (fun r2 s1 h => ⟨h.1, hQ _ _ h.2⟩)⟩
def x8_isAim_rm : Room := { frames := 1, cells := 0, slots := 0, locals := 25 }
theorem w_x8_isAim_173 : Cond.constantLong RX8 173 (900) ∈ wsX8_isAim := by decide +kernel
set_option maxHeartbeats 4000000 in
set_option maxRecDepth 100000 in
theorem x8_isAim_bd {κ : KT} {ad : Nat → Nat} {cA : Nat → ClassId} {D : va_G} {Q : State → Prop} {p0 : Int} {s : Mem} (C : CX κ (GB ad cA D) RX8 cX8_isAim 1 wsX8_isAim x8_isAim_rm (some .boolean)) (h : x8_isAim p0 s (RT κ (GB ad cA D) ocI Q)) : WM κ (GB ad cA D) 1 Q s 0 [(0, vI p0)] [] := by
  refine r_iload_n C 0 dX8_isAim_0 rfl ?_
  refine r_i2l C dX8_isAim_1 ⟨h.1, ?_⟩
  have h := h.2
  refine r_lconst (z := 1) C dX8_isAim_2 rfl ?_
  refine r_ldc2 (z := 900) C dX8_isAim_3 w_x8_isAim_173 rfl ?_
  refine r_callS (As := [vL p0, vL (1 : Int), vL (900 : Int)]) (n := 3) C dX8_isAim_6 (x8_in_ct κ.1.2.1 ad cA D p0 (1 : Int) (900 : Int) s) gX8_isAim_X8_in rfl ⟨rfl, rfl⟩ (by decide +kernel) (by decide) rfl rfl (Nat.le_of_ble_eq_true rfl) (fun _ => rfl) ?_
  refine x8_in_mono h (fun r2 s1 h => ?_)
  exact r_zreturn C dX8_isAim_9 h
theorem x8_isAim_ct (l : Launch) (ad : Nat → Nat) (cA : Nat → ClassId) (D : va_G) (p0 : Int) (s : Mem) : MG l yX8_isAim wsX8_isAim x8_isAim_rm ocI [vI p0] (GB ad cA D) s (x8_isAim p0 s) :=
  m_met (own := RX8) (nL := 1) (by decide) rfl rfl (Nat.le_of_ble_eq_true rfl) rfl rfl rfl (fun κ hl C Q Pst hW hQ => x8_isAim_bd C (x8_isAim_mono hW hQ))

def x8_draw (p1 : Int) (p2 : Int) (s : Mem) (Q : Int → Mem → Prop) : Prop :=
  x8_noBolt p1 s (fun r2 s1 => InI r2 ∧ (r2 = (0 : Int) → x8_isAim p2 s1 (fun r4 s3 => InI r4 ∧ (¬ r4 = (0 : Int) → ((0 : Int) ≤ p1 ∧ p1 < 6) ∧ InI (s3 5 p1) ∧ ((s3 5 p1) = (0 : Int) → x8_drawOf p1 p2 s3 (fun r6 s5 => InI r6 ∧ ((0 : Int) ≤ r6 → Q r6 s5) ∧ (r6 < (0 : Int) → Q (-100003 : Int) s5))) ∧ (¬ (s3 5 p1) = (0 : Int) → Q (-100003 : Int) s3)) ∧ (r4 = (0 : Int) → Q (-100002 : Int) s3))) ∧ (¬ r2 = (0 : Int) → Q (-100001 : Int) s1))
theorem x8_draw_mono {Q R : Int → Mem → Prop} {p1 : Int} {p2 : Int} {s : Mem} (h : x8_draw p1 p2 s Q) (hQ : ∀ r s, Q r s → R r s) : x8_draw p1 p2 s R :=
  x8_noBolt_mono h (fun r2 s1 h => ⟨h.1, fun c => have h := h.2.1 c; x8_isAim_mono h (fun r4 s3 h => ⟨h.1, fun c => have h := h.2.1 c; ⟨h.1, have h := h.2; ⟨h.1, fun c => have h := h.2.1 c; x8_drawOf_mono h (fun r6 s5 h => ⟨h.1, fun c => have h := h.2.1 c; hQ _ _ h, fun c => have h := h.2.2 c; hQ _ _ h⟩), fun c => have h := h.2.2 c; hQ _ _ h⟩⟩, fun c => have h := h.2.2 c; hQ _ _ h⟩), fun c => have h := h.2.2 c; hQ _ _ h⟩)
def x8_draw_rm : Room := { frames := 5, cells := 0, slots := 0, locals := 120 }
theorem w_x8_draw_22 : Cond.fieldLink RX8 22 "BoltRingModel" "isBroken" "[Z" ∈ wsX8_draw := by decide +kernel
theorem w_x8_draw_121 : Cond.constant RX8 121 (-100003) ∈ wsX8_draw := by decide +kernel
theorem w_x8_draw_105 : Cond.constant RX8 105 (-100002) ∈ wsX8_draw := by decide +kernel
theorem w_x8_draw_110 : Cond.constant RX8 110 (-100001) ∈ wsX8_draw := by decide +kernel
theorem in_x8_draw_X8 : ∀ w ∈ wsX80, w ∈ wsX8_draw := by decide +kernel
set_option maxHeartbeats 4000000 in
set_option maxRecDepth 100000 in
theorem x8_draw_bd {κ : KT} {ad : Nat → Nat} {cA : Nat → ClassId} {D : va_G} {Q : State → Prop} {p1 : Int} {p2 : Int} {s : Mem} (C : CX κ (GB ad cA D) RX8 cX8_draw 4 wsX8_draw x8_draw_rm (some .int)) (h : x8_draw p1 p2 s (RT κ (GB ad cA D) ocI Q)) : WM κ (GB ad cA D) 4 Q s 0 [(0, .ref (ad 0)), (1, vI p1), (2, vI p2)] [] := by
  refine r_aload_n C 0 dX8_draw_0 rfl ?_
  refine r_iload_n C 1 dX8_draw_1 rfl ?_
  refine r_callV (As := [vI p1]) (o := 0) (n := 1) C dX8_draw_2 (x8_noBolt_ct κ.1.2.1 ad cA D p1 s) gX8_draw_X8_noBolt rfl ⟨rfl, rfl⟩ (by decide +kernel) (by decide) (shB_0) rfl rfl rfl (Nat.le_of_ble_eq_true rfl) (fun _ => rfl) ?_
  refine x8_noBolt_mono h (fun r2 s1 h => ?_)
  refine r_if_eq (tgt := 11) C dX8_draw_5 (by decide) ⟨h.1, fun c10 => ?_, fun c10 => ?_⟩
  · have h := h.2.1 c10
    refine r_iload_n C 2 dX8_draw_11 rfl ?_
    refine r_callS (As := [vI p2]) (n := 1) C dX8_draw_12 (x8_isAim_ct κ.1.2.1 ad cA D p2 s1) gX8_draw_X8_isAim rfl ⟨rfl, rfl⟩ (by decide +kernel) (by decide) rfl rfl (Nat.le_of_ble_eq_true rfl) (fun _ => rfl) ?_
    refine x8_isAim_mono h (fun r4 s3 h => ?_)
    refine r_if_ne (tgt := 21) C dX8_draw_15 (by decide) ⟨h.1, fun c9 => ?_, fun c9 => ?_⟩
    · have h := h.2.1 c9
      refine r_aload_n C 0 dX8_draw_21 rfl ?_
      refine r_get (j := 6) (jz := 6) (v := .ref (ad 5)) C dX8_draw_22 (shB_0) rfl rfl (by decide) in_x8_draw_X8 w_x8_draw_22 rfl rfl rfl ?_
      refine r_iload_n C 1 dX8_draw_25 rfl ?_
      refine r_zald (nz := 6) C dX8_draw_26 (shB_5) rfl (by decide) ⟨h.1, ?_⟩
      have h := h.2
      refine r_if_eq (tgt := 33) C dX8_draw_27 (by decide) ⟨h.1, fun c8 => ?_, fun c8 => ?_⟩
      · have h := h.2.1 c8
        refine r_aload_n C 0 dX8_draw_33 rfl ?_
        refine r_iload_n C 1 dX8_draw_34 rfl ?_
        refine r_iload_n C 2 dX8_draw_35 rfl ?_
        refine r_callV (As := [vI p1, vI p2]) (o := 0) (n := 2) C dX8_draw_36 (x8_drawOf_ct κ.1.2.1 ad cA D p1 p2 s3) gX8_draw_X8_drawOf rfl ⟨rfl, rfl⟩ (by decide +kernel) (by decide) (shB_0) rfl rfl rfl (Nat.le_of_ble_eq_true rfl) (fun _ => rfl) ?_
        refine x8_drawOf_mono h (fun r6 s5 h => ?_)
        refine r_istore_n (ls' := [(3, vI r6), (0, .ref (ad 0)), (1, vI p1), (2, vI p2)]) C dX8_draw_39 rfl (by decide) rfl ?_
        refine r_iload_n C 0 dX8_draw_40 rfl ?_
        refine r_if_ge (tgt := 49) C dX8_draw_41 (by decide) ⟨h.1, fun c7 => ?_, fun c7 => ?_⟩
        · have h := h.2.1 c7
          refine r_iload_n C 0 dX8_draw_49 rfl ?_
          exact r_ireturn C dX8_draw_50 h
        · have h := h.2.2 c7
          refine r_ldc (z := -100003) C dX8_draw_44 w_x8_draw_121 rfl ?_
          refine r_goto (tgt := 50) C dX8_draw_46 (by decide) ?_
          exact r_ireturn C dX8_draw_50 h
      · have h := h.2.2 c8
        refine r_ldc (z := -100003) C dX8_draw_30 w_x8_draw_121 rfl ?_
        exact r_ireturn C dX8_draw_32 h
    · have h := h.2.2 c9
      refine r_ldc (z := -100002) C dX8_draw_18 w_x8_draw_105 rfl ?_
      exact r_ireturn C dX8_draw_20 h
  · have h := h.2.2 c10
    refine r_ldc (z := -100001) C dX8_draw_8 w_x8_draw_110 rfl ?_
    exact r_ireturn C dX8_draw_10 h
theorem x8_draw_ct (l : Launch) (ad : Nat → Nat) (cA : Nat → ClassId) (D : va_G) (p1 : Int) (p2 : Int) (s : Mem) : MG l yX8_draw wsX8_draw x8_draw_rm ocI [.ref (ad 0), vI p1, vI p2] (GB ad cA D) s (x8_draw p1 p2 s) :=
  m_met (own := RX8) (nL := 4) (by decide) rfl rfl (Nat.le_of_ble_eq_true rfl) rfl rfl rfl (fun κ hl C Q Pst hW hQ => x8_draw_bd C (x8_draw_mono hW hQ))

def x8_isRow_be (X12 : Int → Int → Int → Int → Mem → Prop) (Q : Int → Mem → Prop) (p1 : Int) (s : Mem) : Prop :=
  X12 p1 p1 (0 : Int) ((s 0 (0 : Int)) - (1 : Int)) s
def x8_isRow_b12 (X12 : Int → Int → Int → Int → Mem → Prop) (Q : Int → Mem → Prop) (x1 : Int) (x2 : Int) (x3 : Int) (x4 : Int) (s : Mem) : Prop :=
  InI x4 ∧ (x4 < (0 : Int) → InI x1 ∧ (x1 < (0 : Int) → ((0 : Int) ≤ (0 : Int) ∧ (0 : Int) ≤ 1) ∧ Q (0 : Int) s) ∧ ((0 : Int) ≤ x1 → InI x2 ∧ (¬ x2 = (0 : Int) → ((0 : Int) ≤ (0 : Int) ∧ (0 : Int) ≤ 1) ∧ Q (0 : Int) s) ∧ (x2 = (0 : Int) → (InI x3 ∧ InI ((shlI (1 : Int) (s 0 (0 : Int))) - (1 : Int))) ∧ (¬ x3 = ((shlI (1 : Int) (s 0 (0 : Int))) - (1 : Int)) → ((0 : Int) ≤ (0 : Int) ∧ (0 : Int) ≤ 1) ∧ Q (0 : Int) s) ∧ (x3 = ((shlI (1 : Int) (s 0 (0 : Int))) - (1 : Int)) → ((0 : Int) ≤ (1 : Int) ∧ (1 : Int) ≤ 1) ∧ Q (1 : Int) s)))) ∧ ((0 : Int) ≤ x4 → (InI x2 ∧ InI (10 : Int) ∧ ¬ (10 : Int) = 0) ∧ ((0 : Int) ≤ x4 ∧ x4 < 6) ∧ ∀ s4 : Mem, s4 = m_upd s 15 x4 (Int.tmod x2 (10 : Int)) → (InI x2 ∧ InI (10 : Int) ∧ ¬ (10 : Int) = 0) ∧ ((0 : Int) ≤ x4 ∧ x4 < 6) ∧ ∀ v5 : Int, v5 = (orI x3 (shlI (1 : Int) (s4 15 x4))) → X12 x1 (Int.tdiv x2 (10 : Int)) v5 (x4 + (-1 : Int)) s4)
theorem x8_isRow_me {X12 Y12 : Int → Int → Int → Int → Mem → Prop} {Q R : Int → Mem → Prop} (hX12 : ∀ x1 x2 x3 x4 s, X12 x1 x2 x3 x4 s → Y12 x1 x2 x3 x4 s) (hQ : ∀ r s, Q r s → R r s) {p1 : Int} {s : Mem} (h : x8_isRow_be X12 Q p1 s) : x8_isRow_be Y12 R p1 s :=
  hX12 _ _ _ _ _ h
theorem x8_isRow_m12 {X12 Y12 : Int → Int → Int → Int → Mem → Prop} {Q R : Int → Mem → Prop} (hX12 : ∀ x1 x2 x3 x4 s, X12 x1 x2 x3 x4 s → Y12 x1 x2 x3 x4 s) (hQ : ∀ r s, Q r s → R r s) {x1 : Int} {x2 : Int} {x3 : Int} {x4 : Int} {s : Mem} (h : x8_isRow_b12 X12 Q x1 x2 x3 x4 s) : x8_isRow_b12 Y12 R x1 x2 x3 x4 s :=
  ⟨h.1, fun c => have h := h.2.1 c; ⟨h.1, fun c => have h := h.2.1 c; ⟨h.1, hQ _ _ h.2⟩, fun c => have h := h.2.2 c; ⟨h.1, fun c => have h := h.2.1 c; ⟨h.1, hQ _ _ h.2⟩, fun c => have h := h.2.2 c; ⟨h.1, fun c => have h := h.2.1 c; ⟨h.1, hQ _ _ h.2⟩, fun c => have h := h.2.2 c; ⟨h.1, hQ _ _ h.2⟩⟩⟩⟩, fun c => have h := h.2.2 c; ⟨h.1, have h := h.2; ⟨h.1, have h := h.2; fun s4 e_s4 => have h := h s4 e_s4; ⟨h.1, have h := h.2; ⟨h.1, have h := h.2; fun v5 e_v5 => have h := h v5 e_v5; hX12 _ _ _ _ _ h⟩⟩⟩⟩⟩
def x8_isRow (p1 : Int) (s : Mem) (Q : Int → Mem → Prop) : Prop := ∀ (X12 : Int → Int → Int → Int → Mem → Prop), (∀ x1 x2 x3 x4 s, x8_isRow_b12 X12 Q x1 x2 x3 x4 s → X12 x1 x2 x3 x4 s) → x8_isRow_be X12 Q p1 s
def x8_isRow_L12 (Q : Int → Mem → Prop) (x1 : Int) (x2 : Int) (x3 : Int) (x4 : Int) (s : Mem) : Prop := ∀ (X12 : Int → Int → Int → Int → Mem → Prop), (∀ x1 x2 x3 x4 s, x8_isRow_b12 X12 Q x1 x2 x3 x4 s → X12 x1 x2 x3 x4 s) → X12 x1 x2 x3 x4 s
theorem x8_isRow_i {Q : Int → Mem → Prop} {p1 : Int} {s : Mem} (h : x8_isRow_be (x8_isRow_L12 Q) Q p1 s) : x8_isRow p1 s Q := fun X12 k12 => x8_isRow_me (fun _ _ _ _ _ h => h X12 k12) (fun _ _ h => h) h
theorem x8_isRow_s12 {Q : Int → Mem → Prop} {x1 : Int} {x2 : Int} {x3 : Int} {x4 : Int} {s : Mem} (h : x8_isRow_b12 (x8_isRow_L12 Q) Q x1 x2 x3 x4 s) : x8_isRow_L12 Q x1 x2 x3 x4 s := fun X12 k12 => k12 _ _ _ _ _ (x8_isRow_m12 (fun _ _ _ _ _ h => h X12 k12) (fun _ _ h => h) h)
theorem x8_isRow_mono {Q R : Int → Mem → Prop} {p1 : Int} {s : Mem} (h : x8_isRow p1 s Q) (hQ : ∀ r s, Q r s → R r s) : x8_isRow p1 s R := fun X12 k12 => x8_isRow_me (fun _ _ _ _ _ h => h) hQ (h X12 (fun _ _ _ _ _ h => k12 _ _ _ _ _ (x8_isRow_m12 (fun _ _ _ _ _ h => h) hQ h)))
def x8_isRow_rm : Room := { frames := 0, cells := 0, slots := 0, locals := 0 }
theorem w_x8_isRow_86 : Cond.fieldLink RX8 86 "BoltRingModel" "n" "I" ∈ wsX8_isRow := by decide +kernel
theorem w_x8_isRow_54 : Cond.fieldLink RX8 54 "BoltRingModel" "draft" "[I" ∈ wsX8_isRow := by decide +kernel
theorem in_x8_isRow_X8 : ∀ w ∈ wsX80, w ∈ wsX8_isRow := by decide +kernel
set_option maxHeartbeats 4000000 in
set_option maxRecDepth 100000 in
theorem x8_isRow_bd {κ : KT} {ad : Nat → Nat} {cA : Nat → ClassId} {D : va_G} {Q : State → Prop} {p1 : Int} {s : Mem} (C : CX κ (GB ad cA D) RX8 cX8_isRow 5 wsX8_isRow x8_isRow_rm (some .boolean)) (h : x8_isRow p1 s (RT κ (GB ad cA D) ocI Q)) : WM κ (GB ad cA D) 5 Q s 0 [(0, .ref (ad 0)), (1, vI p1)] [] := by
  obtain ⟨Z12, z12⟩ : ∃ Z : Int → Int → Int → Int → Mem → Prop, ∀ x1 x2 x3 x4 s, Z x1 x2 x3 x4 s ↔ WM κ (GB ad cA D) 5 Q s 12 [(0, .ref (ad 0)), (1, vI x1), (2, vI x2), (3, vI x3), (4, vI x4)] [] := ⟨fun x1 x2 x3 x4 s => WM κ (GB ad cA D) 5 Q s 12 [(0, .ref (ad 0)), (1, vI x1), (2, vI x2), (3, vI x3), (4, vI x4)] [], fun _ _ _ _ _ => Iff.rfl⟩
  refine (fun h => ?_) (h Z12 ?_)
  · refine r_iload_n C 1 dX8_isRow_0 rfl ?_
    refine r_istore_n (ls' := [(2, vI p1), (0, .ref (ad 0)), (1, vI p1)]) C dX8_isRow_1 rfl (by decide) rfl ?_
    refine r_iconst C dX8_isRow_2 ?_
    refine r_istore_n (ls' := [(3, vI (0 : Int)), (2, vI p1), (0, .ref (ad 0)), (1, vI p1)]) C dX8_isRow_3 rfl (by decide) rfl ?_
    refine r_aload_n C 2 dX8_isRow_4 rfl ?_
    refine r_get (j := 0) (jz := 0) (v := vI (s 0 (0 : Int))) C dX8_isRow_5 (shB_0) rfl rfl (by decide) in_x8_isRow_X8 w_x8_isRow_86 rfl rfl rfl ?_
    refine r_iconst C dX8_isRow_8 ?_
    refine r_isub C dX8_isRow_9 ?_
    refine r_istore (ls' := [(4, vI ((s 0 (0 : Int)) - (1 : Int))), (3, vI (0 : Int)), (2, vI p1), (0, .ref (ad 0)), (1, vI p1)]) C dX8_isRow_10 (by decide) rfl ?_
    exact r_perm [3, 4, 2, 1, 0] rfl ((z12 _ _ _ _ _).1 h)
  · intro x1 x2 x3 x4 s h
    refine (z12 _ _ _ _ _).2 ?_
    refine r_iload C 4 dX8_isRow_12 rfl ?_
    refine r_if_lt (tgt := 51) C dX8_isRow_14 (by decide) ⟨h.1, fun c6 => ?_, fun c6 => ?_⟩
    · have h := h.2.1 c6
      refine r_iload_n C 1 dX8_isRow_51 rfl ?_
      refine r_if_lt (tgt := 75) C dX8_isRow_52 (by decide) ⟨h.1, fun c3 => ?_, fun c3 => ?_⟩
      · have h := h.2.1 c3
        refine r_iconst C dX8_isRow_75 ?_
        exact r_zreturn C dX8_isRow_76 h
      · have h := h.2.2 c3
        refine r_iload_n C 2 dX8_isRow_55 rfl ?_
        refine r_if_ne (tgt := 75) C dX8_isRow_56 (by decide) ⟨h.1, fun c2 => ?_, fun c2 => ?_⟩
        · have h := h.2.1 c2
          refine r_iconst C dX8_isRow_75 ?_
          exact r_zreturn C dX8_isRow_76 h
        · have h := h.2.2 c2
          refine r_iload_n C 3 dX8_isRow_59 rfl ?_
          refine r_iconst C dX8_isRow_60 ?_
          refine r_aload_n C 0 dX8_isRow_61 rfl ?_
          refine r_get (j := 0) (jz := 0) (v := vI (s 0 (0 : Int))) C dX8_isRow_62 (shB_0) rfl rfl (by decide) in_x8_isRow_X8 w_x8_isRow_86 rfl rfl rfl ?_
          refine r_ishl C dX8_isRow_65 ?_
          refine r_iconst C dX8_isRow_66 ?_
          refine r_isub C dX8_isRow_67 ?_
          refine r_icmp_ne (tgt := 75) C dX8_isRow_68 (by decide) ⟨h.1, fun c1 => ?_, fun c1 => ?_⟩
          · have h := h.2.1 c1
            refine r_iconst C dX8_isRow_75 ?_
            exact r_zreturn C dX8_isRow_76 h
          · have h := h.2.2 c1
            refine r_iconst C dX8_isRow_71 ?_
            refine r_goto (tgt := 76) C dX8_isRow_72 (by decide) ?_
            exact r_zreturn C dX8_isRow_76 h
    · have h := h.2.2 c6
      refine r_aload_n C 0 dX8_isRow_17 rfl ?_
      refine r_get (j := 18) (jz := 18) (v := .ref (ad 15)) C dX8_isRow_18 (shB_0) rfl rfl (by decide) in_x8_isRow_X8 w_x8_isRow_54 rfl rfl rfl ?_
      refine r_iload C 4 dX8_isRow_21 rfl ?_
      refine r_iload_n C 2 dX8_isRow_23 rfl ?_
      refine r_bipush C dX8_isRow_24 (by decide) ?_
      refine r_irem C dX8_isRow_26 ⟨h.1, ?_⟩
      have h := h.2
      refine r_iast (nz := 6) C dX8_isRow_27 (shB_15) rfl (by decide) ⟨h.1, fun s4 e_s4 => ?_⟩
      have h := h.2 s4 e_s4
      refine r_iload_n C 2 dX8_isRow_28 rfl ?_
      refine r_bipush C dX8_isRow_29 (by decide) ?_
      refine r_idiv C dX8_isRow_31 ⟨h.1, ?_⟩
      have h := h.2
      refine r_istore_n (ls' := [(2, vI (Int.tdiv x2 (10 : Int))), (0, .ref (ad 0)), (1, vI x1), (3, vI x3), (4, vI x4)]) C dX8_isRow_32 rfl (by decide) rfl ?_
      refine r_iload_n C 3 dX8_isRow_33 rfl ?_
      refine r_iconst C dX8_isRow_34 ?_
      refine r_aload_n C 1 dX8_isRow_35 rfl ?_
      refine r_get (j := 18) (jz := 18) (v := .ref (ad 15)) C dX8_isRow_36 (shB_0) rfl rfl (by decide) in_x8_isRow_X8 w_x8_isRow_54 rfl rfl rfl ?_
      refine r_iload C 4 dX8_isRow_39 rfl ?_
      refine r_iald (nz := 6) C dX8_isRow_41 (shB_15) rfl (by decide) ⟨h.1, ?_⟩
      have h := h.2
      refine r_ishl C dX8_isRow_42 ?_
      refine r_ior C dX8_isRow_43 ?_
      refine r_topI (fun v5 e_v5 => ?_)
      have h := h v5 e_v5
      refine r_istore_n (ls' := [(3, vI v5), (2, vI (Int.tdiv x2 (10 : Int))), (0, .ref (ad 0)), (1, vI x1), (4, vI x4)]) C dX8_isRow_44 rfl (by decide) rfl ?_
      refine r_iinc (j := 4) (ls' := [(4, vI (x4 + (-1 : Int))), (3, vI v5), (2, vI (Int.tdiv x2 (10 : Int))), (0, .ref (ad 0)), (1, vI x1)]) C dX8_isRow_45 rfl (by decide) rfl ?_
      refine r_goto (tgt := 12) C dX8_isRow_48 (by decide) ?_
      exact r_perm [3, 4, 2, 1, 0] rfl ((z12 _ _ _ _ _).1 h)
theorem x8_isRow_ct (l : Launch) (ad : Nat → Nat) (cA : Nat → ClassId) (D : va_G) (p1 : Int) (s : Mem) : MG l yX8_isRow wsX8_isRow x8_isRow_rm ocI [.ref (ad 0), vI p1] (GB ad cA D) s (x8_isRow p1 s) :=
  m_met (own := RX8) (nL := 5) (by decide) rfl rfl (Nat.le_of_ble_eq_true rfl) rfl rfl rfl (fun κ hl C Q Pst hW hQ => x8_isRow_bd C (x8_isRow_mono hW hQ))

def x8_row_be (X13 : Int → Mem → Prop) (Q : Int → Mem → Prop) (p1 : Int) (s : Mem) : Prop :=
  x8_isRow p1 s (fun r2 s1 => InI r2 ∧ (¬ r2 = (0 : Int) → X13 (0 : Int) s1) ∧ (r2 = (0 : Int) → Q (-100002 : Int) s1))
def x8_row_b13 (X13 : Int → Mem → Prop) (Q : Int → Mem → Prop) (x2 : Int) (s : Mem) : Prop :=
  (InI x2 ∧ InI (s 0 (0 : Int))) ∧ ((s 0 (0 : Int)) ≤ x2 → Q (1 : Int) s) ∧ (x2 < (s 0 (0 : Int)) → ((0 : Int) ≤ x2 ∧ x2 < 6) ∧ ((0 : Int) ≤ x2 ∧ x2 < 6) ∧ ∀ s4 : Mem, s4 = m_upd s 6 x2 (s 15 x2) → X13 (x2 + (1 : Int)) s4)
theorem x8_row_me {X13 Y13 : Int → Mem → Prop} {Q R : Int → Mem → Prop} (hX13 : ∀ x2 s, X13 x2 s → Y13 x2 s) (hQ : ∀ r s, Q r s → R r s) {p1 : Int} {s : Mem} (h : x8_row_be X13 Q p1 s) : x8_row_be Y13 R p1 s :=
  x8_isRow_mono h (fun r2 s1 h => ⟨h.1, fun c => have h := h.2.1 c; hX13 _ _ h, fun c => have h := h.2.2 c; hQ _ _ h⟩)
theorem x8_row_m13 {X13 Y13 : Int → Mem → Prop} {Q R : Int → Mem → Prop} (hX13 : ∀ x2 s, X13 x2 s → Y13 x2 s) (hQ : ∀ r s, Q r s → R r s) {x2 : Int} {s : Mem} (h : x8_row_b13 X13 Q x2 s) : x8_row_b13 Y13 R x2 s :=
  ⟨h.1, fun c => have h := h.2.1 c; hQ _ _ h, fun c => have h := h.2.2 c; ⟨h.1, have h := h.2; ⟨h.1, have h := h.2; fun s4 e_s4 => have h := h s4 e_s4; hX13 _ _ h⟩⟩⟩
def x8_row (p1 : Int) (s : Mem) (Q : Int → Mem → Prop) : Prop := ∀ (X13 : Int → Mem → Prop), (∀ x2 s, x8_row_b13 X13 Q x2 s → X13 x2 s) → x8_row_be X13 Q p1 s
def x8_row_L13 (Q : Int → Mem → Prop) (x2 : Int) (s : Mem) : Prop := ∀ (X13 : Int → Mem → Prop), (∀ x2 s, x8_row_b13 X13 Q x2 s → X13 x2 s) → X13 x2 s
theorem x8_row_i {Q : Int → Mem → Prop} {p1 : Int} {s : Mem} (h : x8_row_be (x8_row_L13 Q) Q p1 s) : x8_row p1 s Q := fun X13 k13 => x8_row_me (fun _ _ h => h X13 k13) (fun _ _ h => h) h
theorem x8_row_s13 {Q : Int → Mem → Prop} {x2 : Int} {s : Mem} (h : x8_row_b13 (x8_row_L13 Q) Q x2 s) : x8_row_L13 Q x2 s := fun X13 k13 => k13 _ _ (x8_row_m13 (fun _ _ h => h X13 k13) (fun _ _ h => h) h)
theorem x8_row_mono {Q R : Int → Mem → Prop} {p1 : Int} {s : Mem} (h : x8_row p1 s Q) (hQ : ∀ r s, Q r s → R r s) : x8_row p1 s R := fun X13 k13 => x8_row_me (fun _ _ h => h) hQ (h X13 (fun _ _ h => k13 _ _ (x8_row_m13 (fun _ _ h => h) hQ h)))
def x8_row_rm : Room := { frames := 1, cells := 0, slots := 0, locals := 24 }
theorem w_x8_row_105 : Cond.constant RX8 105 (-100002) ∈ wsX8_row := by decide +kernel
theorem w_x8_row_86 : Cond.fieldLink RX8 86 "BoltRingModel" "n" "I" ∈ wsX8_row := by decide +kernel
theorem w_x8_row_26 : Cond.fieldLink RX8 26 "BoltRingModel" "row" "[I" ∈ wsX8_row := by decide +kernel
theorem w_x8_row_54 : Cond.fieldLink RX8 54 "BoltRingModel" "draft" "[I" ∈ wsX8_row := by decide +kernel
theorem in_x8_row_X8 : ∀ w ∈ wsX80, w ∈ wsX8_row := by decide +kernel
set_option maxHeartbeats 4000000 in
set_option maxRecDepth 100000 in
theorem x8_row_bd {κ : KT} {ad : Nat → Nat} {cA : Nat → ClassId} {D : va_G} {Q : State → Prop} {p1 : Int} {s : Mem} (C : CX κ (GB ad cA D) RX8 cX8_row 3 wsX8_row x8_row_rm (some .int)) (h : x8_row p1 s (RT κ (GB ad cA D) ocI Q)) : WM κ (GB ad cA D) 3 Q s 0 [(0, .ref (ad 0)), (1, vI p1)] [] := by
  obtain ⟨Z13, z13⟩ : ∃ Z : Int → Mem → Prop, ∀ x2 s, Z x2 s ↔ WM κ (GB ad cA D) 3 Q s 13 [(0, .ref (ad 0)), (2, vI x2)] [] := ⟨fun x2 s => WM κ (GB ad cA D) 3 Q s 13 [(0, .ref (ad 0)), (2, vI x2)] [], fun _ _ => Iff.rfl⟩
  refine (fun h => ?_) (h Z13 ?_)
  · refine r_aload_n C 0 dX8_row_0 rfl ?_
    refine r_iload_n C 1 dX8_row_1 rfl ?_
    refine r_callV (As := [vI p1]) (o := 0) (n := 1) C dX8_row_2 (x8_isRow_ct κ.1.2.1 ad cA D p1 s) gX8_row_X8_isRow rfl ⟨rfl, rfl⟩ (by decide +kernel) (by decide) (shB_0) rfl rfl rfl (Nat.le_of_ble_eq_true rfl) (fun _ => rfl) ?_
    refine x8_isRow_mono h (fun r2 s1 h => ?_)
    refine r_if_ne (tgt := 11) C dX8_row_5 (by decide) ⟨h.1, fun c3 => ?_, fun c3 => ?_⟩
    · have h := h.2.1 c3
      refine r_iconst C dX8_row_11 ?_
      refine r_istore_n (ls' := [(2, vI (0 : Int)), (0, .ref (ad 0)), (1, vI p1)]) C dX8_row_12 rfl (by decide) rfl ?_
      exact r_perm [1, 0] rfl ((z13 _ _).1 h)
    · have h := h.2.2 c3
      refine r_ldc (z := -100002) C dX8_row_8 w_x8_row_105 rfl ?_
      exact r_ireturn C dX8_row_10 h
  · intro x2 s h
    refine (z13 _ _).2 ?_
    refine r_iload_n C 1 dX8_row_13 rfl ?_
    refine r_aload_n C 0 dX8_row_14 rfl ?_
    refine r_get (j := 0) (jz := 0) (v := vI (s 0 (0 : Int))) C dX8_row_15 (shB_0) rfl rfl (by decide) in_x8_row_X8 w_x8_row_86 rfl rfl rfl ?_
    refine r_icmp_ge (tgt := 39) C dX8_row_18 (by decide) ⟨h.1, fun c5 => ?_, fun c5 => ?_⟩
    · have h := h.2.1 c5
      refine r_iconst C dX8_row_39 ?_
      exact r_ireturn C dX8_row_40 h
    · have h := h.2.2 c5
      refine r_aload_n C 0 dX8_row_21 rfl ?_
      refine r_get (j := 7) (jz := 7) (v := .ref (ad 6)) C dX8_row_22 (shB_0) rfl rfl (by decide) in_x8_row_X8 w_x8_row_26 rfl rfl rfl ?_
      refine r_iload_n C 1 dX8_row_25 rfl ?_
      refine r_aload_n C 0 dX8_row_26 rfl ?_
      refine r_get (j := 18) (jz := 18) (v := .ref (ad 15)) C dX8_row_27 (shB_0) rfl rfl (by decide) in_x8_row_X8 w_x8_row_54 rfl rfl rfl ?_
      refine r_iload_n C 1 dX8_row_30 rfl ?_
      refine r_iald (nz := 6) C dX8_row_31 (shB_15) rfl (by decide) ⟨h.1, ?_⟩
      have h := h.2
      refine r_iast (nz := 6) C dX8_row_32 (shB_6) rfl (by decide) ⟨h.1, fun s4 e_s4 => ?_⟩
      have h := h.2 s4 e_s4
      refine r_iinc (j := 1) (ls' := [(2, vI (x2 + (1 : Int))), (0, .ref (ad 0))]) C dX8_row_33 rfl (by decide) rfl ?_
      refine r_goto (tgt := 13) C dX8_row_36 (by decide) ?_
      exact r_perm [1, 0] rfl ((z13 _ _).1 h)
theorem x8_row_ct (l : Launch) (ad : Nat → Nat) (cA : Nat → ClassId) (D : va_G) (p1 : Int) (s : Mem) : MG l yX8_row wsX8_row x8_row_rm ocI [.ref (ad 0), vI p1] (GB ad cA D) s (x8_row p1 s) :=
  m_met (own := RX8) (nL := 3) (by decide) rfl rfl (Nat.le_of_ble_eq_true rfl) rfl rfl rfl (fun κ hl C Q Pst hW hQ => x8_row_bd C (x8_row_mono hW hQ))

def x8_passOf_be (X4 : Int → Int → Int → Mem → Prop) (Q : Int → Mem → Prop) (p1 : Int) (s : Mem) : Prop :=
  X4 p1 (0 : Int) (0 : Int) s
def x8_passOf_b4 (X4 : Int → Int → Int → Mem → Prop) (Q : Int → Mem → Prop) (x1 : Int) (x2 : Int) (x3 : Int) (s : Mem) : Prop :=
  (InI x3 ∧ InI (s 0 (0 : Int))) ∧ ((s 0 (0 : Int)) ≤ x3 → Q x2 s) ∧ (x3 < (s 0 (0 : Int)) → ((0 : Int) ≤ x3 ∧ x3 < 6) ∧ ((0 : Int) ≤ (s 6 x3) ∧ (s 6 x3) < 6) ∧ InI (s 5 (s 6 x3)) ∧ (¬ (s 5 (s 6 x3)) = (0 : Int) → X4 x1 x2 (x3 + (1 : Int)) s) ∧ ((s 5 (s 6 x3)) = (0 : Int) → ((0 : Int) ≤ x3 ∧ x3 < 6) ∧ x8_drawOf (s 6 x3) x1 s (fun r2 s1 => InI r2 ∧ ((0 : Int) ≤ r2 → X4 x1 (x2 + r2) (x3 + (1 : Int)) s1) ∧ (r2 < (0 : Int) → Q (-1 : Int) s1))))
theorem x8_passOf_me {X4 Y4 : Int → Int → Int → Mem → Prop} {Q R : Int → Mem → Prop} (hX4 : ∀ x1 x2 x3 s, X4 x1 x2 x3 s → Y4 x1 x2 x3 s) (hQ : ∀ r s, Q r s → R r s) {p1 : Int} {s : Mem} (h : x8_passOf_be X4 Q p1 s) : x8_passOf_be Y4 R p1 s :=
  hX4 _ _ _ _ h
theorem x8_passOf_m4 {X4 Y4 : Int → Int → Int → Mem → Prop} {Q R : Int → Mem → Prop} (hX4 : ∀ x1 x2 x3 s, X4 x1 x2 x3 s → Y4 x1 x2 x3 s) (hQ : ∀ r s, Q r s → R r s) {x1 : Int} {x2 : Int} {x3 : Int} {s : Mem} (h : x8_passOf_b4 X4 Q x1 x2 x3 s) : x8_passOf_b4 Y4 R x1 x2 x3 s :=
  ⟨h.1, fun c => have h := h.2.1 c; hQ _ _ h, fun c => have h := h.2.2 c; ⟨h.1, have h := h.2; ⟨h.1, have h := h.2; ⟨h.1, fun c => have h := h.2.1 c; hX4 _ _ _ _ h, fun c => have h := h.2.2 c; ⟨h.1, have h := h.2; x8_drawOf_mono h (fun r2 s1 h => ⟨h.1, fun c => have h := h.2.1 c; hX4 _ _ _ _ h, fun c => have h := h.2.2 c; hQ _ _ h⟩)⟩⟩⟩⟩⟩
def x8_passOf (p1 : Int) (s : Mem) (Q : Int → Mem → Prop) : Prop := ∀ (X4 : Int → Int → Int → Mem → Prop), (∀ x1 x2 x3 s, x8_passOf_b4 X4 Q x1 x2 x3 s → X4 x1 x2 x3 s) → x8_passOf_be X4 Q p1 s
def x8_passOf_L4 (Q : Int → Mem → Prop) (x1 : Int) (x2 : Int) (x3 : Int) (s : Mem) : Prop := ∀ (X4 : Int → Int → Int → Mem → Prop), (∀ x1 x2 x3 s, x8_passOf_b4 X4 Q x1 x2 x3 s → X4 x1 x2 x3 s) → X4 x1 x2 x3 s
theorem x8_passOf_i {Q : Int → Mem → Prop} {p1 : Int} {s : Mem} (h : x8_passOf_be (x8_passOf_L4 Q) Q p1 s) : x8_passOf p1 s Q := fun X4 k4 => x8_passOf_me (fun _ _ _ _ h => h X4 k4) (fun _ _ h => h) h
theorem x8_passOf_s4 {Q : Int → Mem → Prop} {x1 : Int} {x2 : Int} {x3 : Int} {s : Mem} (h : x8_passOf_b4 (x8_passOf_L4 Q) Q x1 x2 x3 s) : x8_passOf_L4 Q x1 x2 x3 s := fun X4 k4 => k4 _ _ _ _ (x8_passOf_m4 (fun _ _ _ _ h => h X4 k4) (fun _ _ h => h) h)
theorem x8_passOf_mono {Q R : Int → Mem → Prop} {p1 : Int} {s : Mem} (h : x8_passOf p1 s Q) (hQ : ∀ r s, Q r s → R r s) : x8_passOf p1 s R := fun X4 k4 => x8_passOf_me (fun _ _ _ _ h => h) hQ (h X4 (fun _ _ _ _ h => k4 _ _ _ _ (x8_passOf_m4 (fun _ _ _ _ h => h) hQ h)))
def x8_passOf_rm : Room := { frames := 5, cells := 0, slots := 0, locals := 120 }
theorem w_x8_passOf_86 : Cond.fieldLink RX8 86 "BoltRingModel" "n" "I" ∈ wsX8_passOf := by decide +kernel
theorem w_x8_passOf_22 : Cond.fieldLink RX8 22 "BoltRingModel" "isBroken" "[Z" ∈ wsX8_passOf := by decide +kernel
theorem w_x8_passOf_26 : Cond.fieldLink RX8 26 "BoltRingModel" "row" "[I" ∈ wsX8_passOf := by decide +kernel
theorem in_x8_passOf_X8 : ∀ w ∈ wsX80, w ∈ wsX8_passOf := by decide +kernel
set_option maxHeartbeats 4000000 in
set_option maxRecDepth 100000 in
theorem x8_passOf_bd {κ : KT} {ad : Nat → Nat} {cA : Nat → ClassId} {D : va_G} {Q : State → Prop} {p1 : Int} {s : Mem} (C : CX κ (GB ad cA D) RX8 cX8_passOf 5 wsX8_passOf x8_passOf_rm (some .int)) (h : x8_passOf p1 s (RT κ (GB ad cA D) ocI Q)) : WM κ (GB ad cA D) 5 Q s 0 [(0, .ref (ad 0)), (1, vI p1)] [] := by
  obtain ⟨Z4, z4⟩ : ∃ Z : Int → Int → Int → Mem → Prop, ∀ x1 x2 x3 s, Z x1 x2 x3 s ↔ WM κ (GB ad cA D) 5 Q s 4 [(0, .ref (ad 0)), (1, vI x1), (2, vI x2), (3, vI x3)] [] := ⟨fun x1 x2 x3 s => WM κ (GB ad cA D) 5 Q s 4 [(0, .ref (ad 0)), (1, vI x1), (2, vI x2), (3, vI x3)] [], fun _ _ _ _ => Iff.rfl⟩
  refine (fun h => ?_) (h Z4 ?_)
  · refine r_iconst C dX8_passOf_0 ?_
    refine r_istore_n (ls' := [(2, vI (0 : Int)), (0, .ref (ad 0)), (1, vI p1)]) C dX8_passOf_1 rfl (by decide) rfl ?_
    refine r_iconst C dX8_passOf_2 ?_
    refine r_istore_n (ls' := [(3, vI (0 : Int)), (2, vI (0 : Int)), (0, .ref (ad 0)), (1, vI p1)]) C dX8_passOf_3 rfl (by decide) rfl ?_
    exact r_perm [2, 3, 1, 0] rfl ((z4 _ _ _ _).1 h)
  · intro x1 x2 x3 s h
    refine (z4 _ _ _ _).2 ?_
    refine r_iload_n C 3 dX8_passOf_4 rfl ?_
    refine r_aload_n C 0 dX8_passOf_5 rfl ?_
    refine r_get (j := 0) (jz := 0) (v := vI (s 0 (0 : Int))) C dX8_passOf_6 (shB_0) rfl rfl (by decide) in_x8_passOf_X8 w_x8_passOf_86 rfl rfl rfl ?_
    refine r_icmp_ge (tgt := 57) C dX8_passOf_9 (by decide) ⟨h.1, fun c5 => ?_, fun c5 => ?_⟩
    · have h := h.2.1 c5
      refine r_iload_n C 2 dX8_passOf_57 rfl ?_
      exact r_ireturn C dX8_passOf_58 h
    · have h := h.2.2 c5
      refine r_aload_n C 0 dX8_passOf_12 rfl ?_
      refine r_get (j := 6) (jz := 6) (v := .ref (ad 5)) C dX8_passOf_13 (shB_0) rfl rfl (by decide) in_x8_passOf_X8 w_x8_passOf_22 rfl rfl rfl ?_
      refine r_aload_n C 0 dX8_passOf_16 rfl ?_
      refine r_get (j := 7) (jz := 7) (v := .ref (ad 6)) C dX8_passOf_17 (shB_0) rfl rfl (by decide) in_x8_passOf_X8 w_x8_passOf_26 rfl rfl rfl ?_
      refine r_iload_n C 3 dX8_passOf_20 rfl ?_
      refine r_iald (nz := 6) C dX8_passOf_21 (shB_6) rfl (by decide) ⟨h.1, ?_⟩
      have h := h.2
      refine r_zald (nz := 6) C dX8_passOf_22 (shB_5) rfl (by decide) ⟨h.1, ?_⟩
      have h := h.2
      refine r_if_ne (tgt := 51) C dX8_passOf_23 (by decide) ⟨h.1, fun c4 => ?_, fun c4 => ?_⟩
      · have h := h.2.1 c4
        refine r_iinc (j := 3) (ls' := [(3, vI (x3 + (1 : Int))), (0, .ref (ad 0)), (1, vI x1), (2, vI x2)]) C dX8_passOf_51 rfl (by decide) rfl ?_
        refine r_goto (tgt := 4) C dX8_passOf_54 (by decide) ?_
        exact r_perm [1, 2, 3, 0] rfl ((z4 _ _ _ _).1 h)
      · have h := h.2.2 c4
        refine r_aload_n C 0 dX8_passOf_26 rfl ?_
        refine r_aload_n C 0 dX8_passOf_27 rfl ?_
        refine r_get (j := 7) (jz := 7) (v := .ref (ad 6)) C dX8_passOf_28 (shB_0) rfl rfl (by decide) in_x8_passOf_X8 w_x8_passOf_26 rfl rfl rfl ?_
        refine r_iload_n C 3 dX8_passOf_31 rfl ?_
        refine r_iald (nz := 6) C dX8_passOf_32 (shB_6) rfl (by decide) ⟨h.1, ?_⟩
        have h := h.2
        refine r_iload_n C 1 dX8_passOf_33 rfl ?_
        refine r_callV (As := [vI (s 6 x3), vI x1]) (o := 0) (n := 2) C dX8_passOf_34 (x8_drawOf_ct κ.1.2.1 ad cA D (s 6 x3) x1 s) gX8_passOf_X8_drawOf rfl ⟨rfl, rfl⟩ (by decide +kernel) (by decide) (shB_0) rfl rfl rfl (Nat.le_of_ble_eq_true rfl) (fun _ => rfl) ?_
        refine x8_drawOf_mono h (fun r2 s1 h => ?_)
        refine r_istore (ls' := [(4, vI r2), (0, .ref (ad 0)), (1, vI x1), (2, vI x2), (3, vI x3)]) C dX8_passOf_37 (by decide) rfl ?_
        refine r_iload C 0 dX8_passOf_39 rfl ?_
        refine r_if_ge (tgt := 46) C dX8_passOf_41 (by decide) ⟨h.1, fun c3 => ?_, fun c3 => ?_⟩
        · have h := h.2.1 c3
          refine r_iload_n C 3 dX8_passOf_46 rfl ?_
          refine r_iload C 0 dX8_passOf_47 rfl ?_
          refine r_iadd C dX8_passOf_49 ?_
          refine r_istore_n (ls' := [(2, vI (x2 + r2)), (4, vI r2), (0, .ref (ad 0)), (1, vI x1), (3, vI x3)]) C dX8_passOf_50 rfl (by decide) rfl ?_
          refine r_iinc (j := 4) (ls' := [(3, vI (x3 + (1 : Int))), (2, vI (x2 + r2)), (4, vI r2), (0, .ref (ad 0)), (1, vI x1)]) C dX8_passOf_51 rfl (by decide) rfl ?_
          refine r_goto (tgt := 4) C dX8_passOf_54 (by decide) ?_
          exact r_perm [3, 4, 1, 0] rfl ((z4 _ _ _ _).1 h)
        · have h := h.2.2 c3
          refine r_iconst C dX8_passOf_44 ?_
          exact r_ireturn C dX8_passOf_45 h
theorem x8_passOf_ct (l : Launch) (ad : Nat → Nat) (cA : Nat → ClassId) (D : va_G) (p1 : Int) (s : Mem) : MG l yX8_passOf wsX8_passOf x8_passOf_rm ocI [.ref (ad 0), vI p1] (GB ad cA D) s (x8_passOf p1 s) :=
  m_met (own := RX8) (nL := 5) (by decide) rfl rfl (Nat.le_of_ble_eq_true rfl) rfl rfl rfl (fun κ hl C Q Pst hW hQ => x8_passOf_bd C (x8_passOf_mono hW hQ))

def x8_pass (p1 : Int) (s : Mem) (Q : Int → Mem → Prop) : Prop :=
  x8_isAim p1 s (fun r2 s1 => InI r2 ∧ (¬ r2 = (0 : Int) → x8_passOf p1 s1 (fun r4 s3 => InI r4 ∧ ((0 : Int) ≤ r4 → Q r4 s3) ∧ (r4 < (0 : Int) → Q (-100003 : Int) s3))) ∧ (r2 = (0 : Int) → Q (-100002 : Int) s1))
theorem x8_pass_mono {Q R : Int → Mem → Prop} {p1 : Int} {s : Mem} (h : x8_pass p1 s Q) (hQ : ∀ r s, Q r s → R r s) : x8_pass p1 s R :=
  x8_isAim_mono h (fun r2 s1 h => ⟨h.1, fun c => have h := h.2.1 c; x8_passOf_mono h (fun r4 s3 h => ⟨h.1, fun c => have h := h.2.1 c; hQ _ _ h, fun c => have h := h.2.2 c; hQ _ _ h⟩), fun c => have h := h.2.2 c; hQ _ _ h⟩)
def x8_pass_rm : Room := { frames := 6, cells := 0, slots := 0, locals := 144 }
theorem w_x8_pass_121 : Cond.constant RX8 121 (-100003) ∈ wsX8_pass := by decide +kernel
theorem w_x8_pass_105 : Cond.constant RX8 105 (-100002) ∈ wsX8_pass := by decide +kernel
set_option maxHeartbeats 4000000 in
set_option maxRecDepth 100000 in
theorem x8_pass_bd {κ : KT} {ad : Nat → Nat} {cA : Nat → ClassId} {D : va_G} {Q : State → Prop} {p1 : Int} {s : Mem} (C : CX κ (GB ad cA D) RX8 cX8_pass 3 wsX8_pass x8_pass_rm (some .int)) (h : x8_pass p1 s (RT κ (GB ad cA D) ocI Q)) : WM κ (GB ad cA D) 3 Q s 0 [(0, .ref (ad 0)), (1, vI p1)] [] := by
  refine r_iload_n C 1 dX8_pass_0 rfl ?_
  refine r_callS (As := [vI p1]) (n := 1) C dX8_pass_1 (x8_isAim_ct κ.1.2.1 ad cA D p1 s) gX8_pass_X8_isAim rfl ⟨rfl, rfl⟩ (by decide +kernel) (by decide) rfl rfl (Nat.le_of_ble_eq_true rfl) (fun _ => rfl) ?_
  refine x8_isAim_mono h (fun r2 s1 h => ?_)
  refine r_if_ne (tgt := 10) C dX8_pass_4 (by decide) ⟨h.1, fun c6 => ?_, fun c6 => ?_⟩
  · have h := h.2.1 c6
    refine r_aload_n C 0 dX8_pass_10 rfl ?_
    refine r_iload_n C 1 dX8_pass_11 rfl ?_
    refine r_callV (As := [vI p1]) (o := 0) (n := 1) C dX8_pass_12 (x8_passOf_ct κ.1.2.1 ad cA D p1 s1) gX8_pass_X8_passOf rfl ⟨rfl, rfl⟩ (by decide +kernel) (by decide) (shB_0) rfl rfl rfl (Nat.le_of_ble_eq_true rfl) (fun _ => rfl) ?_
    refine x8_passOf_mono h (fun r4 s3 h => ?_)
    refine r_istore_n (ls' := [(2, vI r4), (0, .ref (ad 0)), (1, vI p1)]) C dX8_pass_15 rfl (by decide) rfl ?_
    refine r_iload_n C 0 dX8_pass_16 rfl ?_
    refine r_if_ge (tgt := 25) C dX8_pass_17 (by decide) ⟨h.1, fun c5 => ?_, fun c5 => ?_⟩
    · have h := h.2.1 c5
      refine r_iload_n C 0 dX8_pass_25 rfl ?_
      exact r_ireturn C dX8_pass_26 h
    · have h := h.2.2 c5
      refine r_ldc (z := -100003) C dX8_pass_20 w_x8_pass_121 rfl ?_
      refine r_goto (tgt := 26) C dX8_pass_22 (by decide) ?_
      exact r_ireturn C dX8_pass_26 h
  · have h := h.2.2 c6
    refine r_ldc (z := -100002) C dX8_pass_7 w_x8_pass_105 rfl ?_
    exact r_ireturn C dX8_pass_9 h
theorem x8_pass_ct (l : Launch) (ad : Nat → Nat) (cA : Nat → ClassId) (D : va_G) (p1 : Int) (s : Mem) : MG l yX8_pass wsX8_pass x8_pass_rm ocI [.ref (ad 0), vI p1] (GB ad cA D) s (x8_pass p1 s) :=
  m_met (own := RX8) (nL := 3) (by decide) rfl rfl (Nat.le_of_ble_eq_true rfl) rfl rfl rfl (fun κ hl C Q Pst hW hQ => x8_pass_bd C (x8_pass_mono hW hQ))

def x8_allHave_be (X8 : Int → Int → Int → Mem → Prop) (Q : Int → Mem → Prop) (p1 : Int) (s : Mem) : Prop :=
  x8_findLifts s (fun _ s1 => X8 p1 (1 : Int) (0 : Int) s1)
def x8_allHave_b8 (X8 : Int → Int → Int → Mem → Prop) (Q : Int → Mem → Prop) (x1 : Int) (x2 : Int) (x3 : Int) (s : Mem) : Prop :=
  (InI x3 ∧ InI (s 0 (0 : Int))) ∧ ((s 0 (0 : Int)) ≤ x3 → ((0 : Int) ≤ x2 ∧ x2 ≤ 1) ∧ Q x2 s) ∧ (x3 < (s 0 (0 : Int)) → InI x2 ∧ (x2 = (0 : Int) → X8 x1 (0 : Int) (x3 + (1 : Int)) s) ∧ (¬ x2 = (0 : Int) → ((0 : Int) ≤ x3 ∧ x3 < 6) ∧ InI (s 5 x3) ∧ (¬ (s 5 x3) = (0 : Int) → X8 x1 (1 : Int) (x3 + (1 : Int)) s) ∧ ((s 5 x3) = (0 : Int) → x8_pull x3 s (fun r3 s2 => (InI x1) ∧ (InL r3 ∧ InL (x1 * (s2 0 (15 : Int)))) ∧ (r3 < (x1 * (s2 0 (15 : Int))) → X8 x1 (0 : Int) (x3 + (1 : Int)) s2) ∧ ((x1 * (s2 0 (15 : Int))) ≤ r3 → X8 x1 (1 : Int) (x3 + (1 : Int)) s2)))))
theorem x8_allHave_me {X8 Y8 : Int → Int → Int → Mem → Prop} {Q R : Int → Mem → Prop} (hX8 : ∀ x1 x2 x3 s, X8 x1 x2 x3 s → Y8 x1 x2 x3 s) (hQ : ∀ r s, Q r s → R r s) {p1 : Int} {s : Mem} (h : x8_allHave_be X8 Q p1 s) : x8_allHave_be Y8 R p1 s :=
  x8_findLifts_mono h (fun _ s1 h => hX8 _ _ _ _ h)
theorem x8_allHave_m8 {X8 Y8 : Int → Int → Int → Mem → Prop} {Q R : Int → Mem → Prop} (hX8 : ∀ x1 x2 x3 s, X8 x1 x2 x3 s → Y8 x1 x2 x3 s) (hQ : ∀ r s, Q r s → R r s) {x1 : Int} {x2 : Int} {x3 : Int} {s : Mem} (h : x8_allHave_b8 X8 Q x1 x2 x3 s) : x8_allHave_b8 Y8 R x1 x2 x3 s :=
  ⟨h.1, fun c => have h := h.2.1 c; ⟨h.1, hQ _ _ h.2⟩, fun c => have h := h.2.2 c; ⟨h.1, fun c => have h := h.2.1 c; hX8 _ _ _ _ h, fun c => have h := h.2.2 c; ⟨h.1, have h := h.2; ⟨h.1, fun c => have h := h.2.1 c; hX8 _ _ _ _ h, fun c => have h := h.2.2 c; x8_pull_mono h (fun r3 s2 h => ⟨h.1, have h := h.2; ⟨h.1, fun c => have h := h.2.1 c; hX8 _ _ _ _ h, fun c => have h := h.2.2 c; hX8 _ _ _ _ h⟩⟩)⟩⟩⟩⟩
def x8_allHave (p1 : Int) (s : Mem) (Q : Int → Mem → Prop) : Prop := ∀ (X8 : Int → Int → Int → Mem → Prop), (∀ x1 x2 x3 s, x8_allHave_b8 X8 Q x1 x2 x3 s → X8 x1 x2 x3 s) → x8_allHave_be X8 Q p1 s
def x8_allHave_L8 (Q : Int → Mem → Prop) (x1 : Int) (x2 : Int) (x3 : Int) (s : Mem) : Prop := ∀ (X8 : Int → Int → Int → Mem → Prop), (∀ x1 x2 x3 s, x8_allHave_b8 X8 Q x1 x2 x3 s → X8 x1 x2 x3 s) → X8 x1 x2 x3 s
theorem x8_allHave_i {Q : Int → Mem → Prop} {p1 : Int} {s : Mem} (h : x8_allHave_be (x8_allHave_L8 Q) Q p1 s) : x8_allHave p1 s Q := fun X8 k8 => x8_allHave_me (fun _ _ _ _ h => h X8 k8) (fun _ _ h => h) h
theorem x8_allHave_s8 {Q : Int → Mem → Prop} {x1 : Int} {x2 : Int} {x3 : Int} {s : Mem} (h : x8_allHave_b8 (x8_allHave_L8 Q) Q x1 x2 x3 s) : x8_allHave_L8 Q x1 x2 x3 s := fun X8 k8 => k8 _ _ _ _ (x8_allHave_m8 (fun _ _ _ _ h => h X8 k8) (fun _ _ h => h) h)
theorem x8_allHave_mono {Q R : Int → Mem → Prop} {p1 : Int} {s : Mem} (h : x8_allHave p1 s Q) (hQ : ∀ r s, Q r s → R r s) : x8_allHave p1 s R := fun X8 k8 => x8_allHave_me (fun _ _ _ _ h => h) hQ (h X8 (fun _ _ _ _ h => k8 _ _ _ _ (x8_allHave_m8 (fun _ _ _ _ h => h) hQ h)))
def x8_allHave_rm : Room := { frames := 3, cells := 0, slots := 0, locals := 72 }
theorem w_x8_allHave_86 : Cond.fieldLink RX8 86 "BoltRingModel" "n" "I" ∈ wsX8_allHave := by decide +kernel
theorem w_x8_allHave_22 : Cond.fieldLink RX8 22 "BoltRingModel" "isBroken" "[Z" ∈ wsX8_allHave := by decide +kernel
theorem w_x8_allHave_124 : Cond.fieldLink RX8 124 "BoltRingModel" "below" "J" ∈ wsX8_allHave := by decide +kernel
theorem in_x8_allHave_X8 : ∀ w ∈ wsX80, w ∈ wsX8_allHave := by decide +kernel
set_option maxHeartbeats 4000000 in
set_option maxRecDepth 100000 in
theorem x8_allHave_bd {κ : KT} {ad : Nat → Nat} {cA : Nat → ClassId} {D : va_G} {Q : State → Prop} {p1 : Int} {s : Mem} (C : CX κ (GB ad cA D) RX8 cX8_allHave 4 wsX8_allHave x8_allHave_rm (some .boolean)) (h : x8_allHave p1 s (RT κ (GB ad cA D) ocI Q)) : WM κ (GB ad cA D) 4 Q s 0 [(0, .ref (ad 0)), (1, vI p1)] [] := by
  obtain ⟨Z8, z8⟩ : ∃ Z : Int → Int → Int → Mem → Prop, ∀ x1 x2 x3 s, Z x1 x2 x3 s ↔ WM κ (GB ad cA D) 4 Q s 8 [(0, .ref (ad 0)), (1, vI x1), (2, vI x2), (3, vI x3)] [] := ⟨fun x1 x2 x3 s => WM κ (GB ad cA D) 4 Q s 8 [(0, .ref (ad 0)), (1, vI x1), (2, vI x2), (3, vI x3)] [], fun _ _ _ _ => Iff.rfl⟩
  refine (fun h => ?_) (h Z8 ?_)
  · refine r_aload_n C 0 dX8_allHave_0 rfl ?_
    refine r_callV (As := []) (o := 0) (n := 0) C dX8_allHave_1 (x8_findLifts_ct κ.1.2.1 ad cA D s) gX8_allHave_X8_findLifts rfl ⟨rfl, rfl⟩ (by decide +kernel) (by decide) (shB_0) rfl rfl rfl (Nat.le_of_ble_eq_true rfl) (fun _ => rfl) ?_
    refine x8_findLifts_mono h (fun _ s1 h => ?_)
    refine r_iconst C dX8_allHave_4 ?_
    refine r_istore_n (ls' := [(2, vI (1 : Int)), (0, .ref (ad 0)), (1, vI p1)]) C dX8_allHave_5 rfl (by decide) rfl ?_
    refine r_iconst C dX8_allHave_6 ?_
    refine r_istore_n (ls' := [(3, vI (0 : Int)), (2, vI (1 : Int)), (0, .ref (ad 0)), (1, vI p1)]) C dX8_allHave_7 rfl (by decide) rfl ?_
    exact r_perm [2, 3, 1, 0] rfl ((z8 _ _ _ _).1 h)
  · intro x1 x2 x3 s h
    refine (z8 _ _ _ _).2 ?_
    refine r_iload_n C 3 dX8_allHave_8 rfl ?_
    refine r_aload_n C 0 dX8_allHave_9 rfl ?_
    refine r_get (j := 0) (jz := 0) (v := vI (s 0 (0 : Int))) C dX8_allHave_10 (shB_0) rfl rfl (by decide) in_x8_allHave_X8 w_x8_allHave_86 rfl rfl rfl ?_
    refine r_icmp_ge (tgt := 57) C dX8_allHave_13 (by decide) ⟨h.1, fun c7 => ?_, fun c7 => ?_⟩
    · have h := h.2.1 c7
      refine r_iload_n C 2 dX8_allHave_57 rfl ?_
      exact r_zreturn C dX8_allHave_58 h
    · have h := h.2.2 c7
      refine r_iload_n C 2 dX8_allHave_16 rfl ?_
      refine r_if_eq (tgt := 49) C dX8_allHave_17 (by decide) ⟨h.1, fun c6 => ?_, fun c6 => ?_⟩
      · have h := h.2.1 c6
        refine r_iconst C dX8_allHave_49 ?_
        refine r_istore_n (ls' := [(2, vI (0 : Int)), (0, .ref (ad 0)), (1, vI x1), (3, vI x3)]) C dX8_allHave_50 rfl (by decide) rfl ?_
        refine r_iinc (j := 3) (ls' := [(3, vI (x3 + (1 : Int))), (2, vI (0 : Int)), (0, .ref (ad 0)), (1, vI x1)]) C dX8_allHave_51 rfl (by decide) rfl ?_
        refine r_goto (tgt := 8) C dX8_allHave_54 (by decide) ?_
        exact r_perm [2, 3, 1, 0] rfl ((z8 _ _ _ _).1 h)
      · have h := h.2.2 c6
        refine r_aload_n C 0 dX8_allHave_20 rfl ?_
        refine r_get (j := 6) (jz := 6) (v := .ref (ad 5)) C dX8_allHave_21 (shB_0) rfl rfl (by decide) in_x8_allHave_X8 w_x8_allHave_22 rfl rfl rfl ?_
        refine r_iload_n C 3 dX8_allHave_24 rfl ?_
        refine r_zald (nz := 6) C dX8_allHave_25 (shB_5) rfl (by decide) ⟨h.1, ?_⟩
        have h := h.2
        refine r_if_ne (tgt := 45) C dX8_allHave_26 (by decide) ⟨h.1, fun c5 => ?_, fun c5 => ?_⟩
        · have h := h.2.1 c5
          refine r_iconst C dX8_allHave_45 ?_
          refine r_goto (tgt := 50) C dX8_allHave_46 (by decide) ?_
          refine r_istore_n (ls' := [(2, vI (1 : Int)), (0, .ref (ad 0)), (1, vI x1), (3, vI x3)]) C dX8_allHave_50 rfl (by decide) rfl ?_
          refine r_iinc (j := 3) (ls' := [(3, vI (x3 + (1 : Int))), (2, vI (1 : Int)), (0, .ref (ad 0)), (1, vI x1)]) C dX8_allHave_51 rfl (by decide) rfl ?_
          refine r_goto (tgt := 8) C dX8_allHave_54 (by decide) ?_
          exact r_perm [2, 3, 1, 0] rfl ((z8 _ _ _ _).1 h)
        · have h := h.2.2 c5
          refine r_aload_n C 0 dX8_allHave_29 rfl ?_
          refine r_iload_n C 3 dX8_allHave_30 rfl ?_
          refine r_callV (As := [vI x3]) (o := 0) (n := 1) C dX8_allHave_31 (x8_pull_ct κ.1.2.1 ad cA D x3 s) gX8_allHave_X8_pull rfl ⟨rfl, rfl⟩ (by decide +kernel) (by decide) (shB_0) rfl rfl rfl (Nat.le_of_ble_eq_true rfl) (fun _ => rfl) ?_
          refine x8_pull_mono h (fun r3 s2 h => ?_)
          refine r_iload_n C 1 dX8_allHave_34 rfl ?_
          refine r_i2l C dX8_allHave_35 ⟨h.1, ?_⟩
          have h := h.2
          refine r_aload_n C 0 dX8_allHave_36 rfl ?_
          refine r_get (j := 15) (jz := 15) (v := vL (s2 0 (15 : Int))) C dX8_allHave_37 (shB_0) rfl rfl (by decide) in_x8_allHave_X8 w_x8_allHave_124 rfl rfl rfl ?_
          refine r_lmul C dX8_allHave_40 ?_
          refine r_lcmp_lt (tgt := 49) C dX8_allHave_41 dX8_allHave_42 (by decide) ⟨h.1, fun c4 => ?_, fun c4 => ?_⟩
          · have h := h.2.1 c4
            refine r_iconst C dX8_allHave_49 ?_
            refine r_istore_n (ls' := [(2, vI (0 : Int)), (0, .ref (ad 0)), (1, vI x1), (3, vI x3)]) C dX8_allHave_50 rfl (by decide) rfl ?_
            refine r_iinc (j := 3) (ls' := [(3, vI (x3 + (1 : Int))), (2, vI (0 : Int)), (0, .ref (ad 0)), (1, vI x1)]) C dX8_allHave_51 rfl (by decide) rfl ?_
            refine r_goto (tgt := 8) C dX8_allHave_54 (by decide) ?_
            exact r_perm [2, 3, 1, 0] rfl ((z8 _ _ _ _).1 h)
          · have h := h.2.2 c4
            refine r_iconst C dX8_allHave_45 ?_
            refine r_goto (tgt := 50) C dX8_allHave_46 (by decide) ?_
            refine r_istore_n (ls' := [(2, vI (1 : Int)), (0, .ref (ad 0)), (1, vI x1), (3, vI x3)]) C dX8_allHave_50 rfl (by decide) rfl ?_
            refine r_iinc (j := 3) (ls' := [(3, vI (x3 + (1 : Int))), (2, vI (1 : Int)), (0, .ref (ad 0)), (1, vI x1)]) C dX8_allHave_51 rfl (by decide) rfl ?_
            refine r_goto (tgt := 8) C dX8_allHave_54 (by decide) ?_
            exact r_perm [2, 3, 1, 0] rfl ((z8 _ _ _ _).1 h)
theorem x8_allHave_ct (l : Launch) (ad : Nat → Nat) (cA : Nat → ClassId) (D : va_G) (p1 : Int) (s : Mem) : MG l yX8_allHave wsX8_allHave x8_allHave_rm ocI [.ref (ad 0), vI p1] (GB ad cA D) s (x8_allHave p1 s) :=
  m_met (own := RX8) (nL := 4) (by decide) rfl rfl (Nat.le_of_ble_eq_true rfl) rfl rfl rfl (fun κ hl C Q Pst hW hQ => x8_allHave_bd C (x8_allHave_mono hW hQ))

def x8_keep_be (X2 : Int → Mem → Prop) (Q : Int → Mem → Prop)  (s : Mem) : Prop :=
  X2 (0 : Int) s
def x8_keep_b2 (X2 : Int → Mem → Prop) (Q : Int → Mem → Prop) (x1 : Int) (s : Mem) : Prop :=
  (InI x1 ∧ InI (s 0 (0 : Int))) ∧ ((s 0 (0 : Int)) ≤ x1 → Q (0 : Int) s) ∧ (x1 < (s 0 (0 : Int)) → ((0 : Int) ≤ x1 ∧ x1 < 6) ∧ ((0 : Int) ≤ x1 ∧ x1 < 6) ∧ ∀ s1 : Mem, s1 = m_upd s 16 x1 (s 3 x1) → X2 (x1 + (1 : Int)) s1)
theorem x8_keep_me {X2 Y2 : Int → Mem → Prop} {Q R : Int → Mem → Prop} (hX2 : ∀ x1 s, X2 x1 s → Y2 x1 s) (hQ : ∀ r s, Q r s → R r s)  {s : Mem} (h : x8_keep_be X2 Q  s) : x8_keep_be Y2 R  s :=
  hX2 _ _ h
theorem x8_keep_m2 {X2 Y2 : Int → Mem → Prop} {Q R : Int → Mem → Prop} (hX2 : ∀ x1 s, X2 x1 s → Y2 x1 s) (hQ : ∀ r s, Q r s → R r s) {x1 : Int} {s : Mem} (h : x8_keep_b2 X2 Q x1 s) : x8_keep_b2 Y2 R x1 s :=
  ⟨h.1, fun c => have h := h.2.1 c; hQ _ _ h, fun c => have h := h.2.2 c; ⟨h.1, have h := h.2; ⟨h.1, have h := h.2; fun s1 e_s1 => have h := h s1 e_s1; hX2 _ _ h⟩⟩⟩
def x8_keep  (s : Mem) (Q : Int → Mem → Prop) : Prop := ∀ (X2 : Int → Mem → Prop), (∀ x1 s, x8_keep_b2 X2 Q x1 s → X2 x1 s) → x8_keep_be X2 Q  s
def x8_keep_L2 (Q : Int → Mem → Prop) (x1 : Int) (s : Mem) : Prop := ∀ (X2 : Int → Mem → Prop), (∀ x1 s, x8_keep_b2 X2 Q x1 s → X2 x1 s) → X2 x1 s
theorem x8_keep_i {Q : Int → Mem → Prop}  {s : Mem} (h : x8_keep_be (x8_keep_L2 Q) Q  s) : x8_keep  s Q := fun X2 k2 => x8_keep_me (fun _ _ h => h X2 k2) (fun _ _ h => h) h
theorem x8_keep_s2 {Q : Int → Mem → Prop} {x1 : Int} {s : Mem} (h : x8_keep_b2 (x8_keep_L2 Q) Q x1 s) : x8_keep_L2 Q x1 s := fun X2 k2 => k2 _ _ (x8_keep_m2 (fun _ _ h => h X2 k2) (fun _ _ h => h) h)
theorem x8_keep_mono {Q R : Int → Mem → Prop}  {s : Mem} (h : x8_keep  s Q) (hQ : ∀ r s, Q r s → R r s) : x8_keep  s R := fun X2 k2 => x8_keep_me (fun _ _ h => h) hQ (h X2 (fun _ _ h => k2 _ _ (x8_keep_m2 (fun _ _ h => h) hQ h)))
def x8_keep_rm : Room := { frames := 0, cells := 0, slots := 0, locals := 0 }
theorem w_x8_keep_86 : Cond.fieldLink RX8 86 "BoltRingModel" "n" "I" ∈ wsX8_keep := by decide +kernel
theorem w_x8_keep_57 : Cond.fieldLink RX8 57 "BoltRingModel" "kept" "[I" ∈ wsX8_keep := by decide +kernel
theorem w_x8_keep_16 : Cond.fieldLink RX8 16 "BoltRingModel" "turns" "[I" ∈ wsX8_keep := by decide +kernel
theorem in_x8_keep_X8 : ∀ w ∈ wsX80, w ∈ wsX8_keep := by decide +kernel
set_option maxHeartbeats 4000000 in
set_option maxRecDepth 100000 in
theorem x8_keep_bd {κ : KT} {ad : Nat → Nat} {cA : Nat → ClassId} {D : va_G} {Q : State → Prop}  {s : Mem} (C : CX κ (GB ad cA D) RX8 cX8_keep 2 wsX8_keep x8_keep_rm none) (h : x8_keep  s (RT κ (GB ad cA D) ocV Q)) : WM κ (GB ad cA D) 2 Q s 0 [(0, .ref (ad 0))] [] := by
  obtain ⟨Z2, z2⟩ : ∃ Z : Int → Mem → Prop, ∀ x1 s, Z x1 s ↔ WM κ (GB ad cA D) 2 Q s 2 [(0, .ref (ad 0)), (1, vI x1)] [] := ⟨fun x1 s => WM κ (GB ad cA D) 2 Q s 2 [(0, .ref (ad 0)), (1, vI x1)] [], fun _ _ => Iff.rfl⟩
  refine (fun h => ?_) (h Z2 ?_)
  · refine r_iconst C dX8_keep_0 ?_
    refine r_istore_n (ls' := [(1, vI (0 : Int)), (0, .ref (ad 0))]) C dX8_keep_1 rfl (by decide) rfl ?_
    exact r_perm [1, 0] rfl ((z2 _ _).1 h)
  · intro x1 s h
    refine (z2 _ _).2 ?_
    refine r_iload_n C 1 dX8_keep_2 rfl ?_
    refine r_aload_n C 0 dX8_keep_3 rfl ?_
    refine r_get (j := 0) (jz := 0) (v := vI (s 0 (0 : Int))) C dX8_keep_4 (shB_0) rfl rfl (by decide) in_x8_keep_X8 w_x8_keep_86 rfl rfl rfl ?_
    refine r_icmp_ge (tgt := 28) C dX8_keep_7 (by decide) ⟨h.1, fun c2 => ?_, fun c2 => ?_⟩
    · have h := h.2.1 c2
      exact r_return C dX8_keep_28 h
    · have h := h.2.2 c2
      refine r_aload_n C 0 dX8_keep_10 rfl ?_
      refine r_get (j := 20) (jz := 20) (v := .ref (ad 16)) C dX8_keep_11 (shB_0) rfl rfl (by decide) in_x8_keep_X8 w_x8_keep_57 rfl rfl rfl ?_
      refine r_iload_n C 1 dX8_keep_14 rfl ?_
      refine r_aload_n C 0 dX8_keep_15 rfl ?_
      refine r_get (j := 4) (jz := 4) (v := .ref (ad 3)) C dX8_keep_16 (shB_0) rfl rfl (by decide) in_x8_keep_X8 w_x8_keep_16 rfl rfl rfl ?_
      refine r_iload_n C 1 dX8_keep_19 rfl ?_
      refine r_iald (nz := 6) C dX8_keep_20 (shB_3) rfl (by decide) ⟨h.1, ?_⟩
      have h := h.2
      refine r_iast (nz := 6) C dX8_keep_21 (shB_16) rfl (by decide) ⟨h.1, fun s1 e_s1 => ?_⟩
      have h := h.2 s1 e_s1
      refine r_iinc (j := 1) (ls' := [(1, vI (x1 + (1 : Int))), (0, .ref (ad 0))]) C dX8_keep_22 rfl (by decide) rfl ?_
      refine r_goto (tgt := 2) C dX8_keep_25 (by decide) ?_
      exact r_perm [1, 0] rfl ((z2 _ _).1 h)
theorem x8_keep_ct (l : Launch) (ad : Nat → Nat) (cA : Nat → ClassId) (D : va_G)  (s : Mem) : MG l yX8_keep wsX8_keep x8_keep_rm ocV [.ref (ad 0)] (GB ad cA D) s (x8_keep  s) :=
  m_met (own := RX8) (nL := 2) (by decide) rfl rfl (Nat.le_of_ble_eq_true rfl) rfl rfl rfl (fun κ hl C Q Pst hW hQ => x8_keep_bd C (x8_keep_mono hW hQ))

def x8_back_be (X2 : Int → Mem → Prop) (Q : Int → Mem → Prop)  (s : Mem) : Prop :=
  X2 (0 : Int) s
def x8_back_b2 (X2 : Int → Mem → Prop) (Q : Int → Mem → Prop) (x1 : Int) (s : Mem) : Prop :=
  (InI x1 ∧ InI (s 0 (0 : Int))) ∧ ((s 0 (0 : Int)) ≤ x1 → Q (0 : Int) s) ∧ (x1 < (s 0 (0 : Int)) → ((0 : Int) ≤ x1 ∧ x1 < 6) ∧ ((0 : Int) ≤ x1 ∧ x1 < 6) ∧ ∀ s1 : Mem, s1 = m_upd s 3 x1 (s 16 x1) → X2 (x1 + (1 : Int)) s1)
theorem x8_back_me {X2 Y2 : Int → Mem → Prop} {Q R : Int → Mem → Prop} (hX2 : ∀ x1 s, X2 x1 s → Y2 x1 s) (hQ : ∀ r s, Q r s → R r s)  {s : Mem} (h : x8_back_be X2 Q  s) : x8_back_be Y2 R  s :=
  hX2 _ _ h
theorem x8_back_m2 {X2 Y2 : Int → Mem → Prop} {Q R : Int → Mem → Prop} (hX2 : ∀ x1 s, X2 x1 s → Y2 x1 s) (hQ : ∀ r s, Q r s → R r s) {x1 : Int} {s : Mem} (h : x8_back_b2 X2 Q x1 s) : x8_back_b2 Y2 R x1 s :=
  ⟨h.1, fun c => have h := h.2.1 c; hQ _ _ h, fun c => have h := h.2.2 c; ⟨h.1, have h := h.2; ⟨h.1, have h := h.2; fun s1 e_s1 => have h := h s1 e_s1; hX2 _ _ h⟩⟩⟩
def x8_back  (s : Mem) (Q : Int → Mem → Prop) : Prop := ∀ (X2 : Int → Mem → Prop), (∀ x1 s, x8_back_b2 X2 Q x1 s → X2 x1 s) → x8_back_be X2 Q  s
def x8_back_L2 (Q : Int → Mem → Prop) (x1 : Int) (s : Mem) : Prop := ∀ (X2 : Int → Mem → Prop), (∀ x1 s, x8_back_b2 X2 Q x1 s → X2 x1 s) → X2 x1 s
theorem x8_back_i {Q : Int → Mem → Prop}  {s : Mem} (h : x8_back_be (x8_back_L2 Q) Q  s) : x8_back  s Q := fun X2 k2 => x8_back_me (fun _ _ h => h X2 k2) (fun _ _ h => h) h
theorem x8_back_s2 {Q : Int → Mem → Prop} {x1 : Int} {s : Mem} (h : x8_back_b2 (x8_back_L2 Q) Q x1 s) : x8_back_L2 Q x1 s := fun X2 k2 => k2 _ _ (x8_back_m2 (fun _ _ h => h X2 k2) (fun _ _ h => h) h)
theorem x8_back_mono {Q R : Int → Mem → Prop}  {s : Mem} (h : x8_back  s Q) (hQ : ∀ r s, Q r s → R r s) : x8_back  s R := fun X2 k2 => x8_back_me (fun _ _ h => h) hQ (h X2 (fun _ _ h => k2 _ _ (x8_back_m2 (fun _ _ h => h) hQ h)))
def x8_back_rm : Room := { frames := 0, cells := 0, slots := 0, locals := 0 }
theorem w_x8_back_86 : Cond.fieldLink RX8 86 "BoltRingModel" "n" "I" ∈ wsX8_back := by decide +kernel
theorem w_x8_back_16 : Cond.fieldLink RX8 16 "BoltRingModel" "turns" "[I" ∈ wsX8_back := by decide +kernel
theorem w_x8_back_57 : Cond.fieldLink RX8 57 "BoltRingModel" "kept" "[I" ∈ wsX8_back := by decide +kernel
theorem in_x8_back_X8 : ∀ w ∈ wsX80, w ∈ wsX8_back := by decide +kernel
set_option maxHeartbeats 4000000 in
set_option maxRecDepth 100000 in
theorem x8_back_bd {κ : KT} {ad : Nat → Nat} {cA : Nat → ClassId} {D : va_G} {Q : State → Prop}  {s : Mem} (C : CX κ (GB ad cA D) RX8 cX8_back 2 wsX8_back x8_back_rm none) (h : x8_back  s (RT κ (GB ad cA D) ocV Q)) : WM κ (GB ad cA D) 2 Q s 0 [(0, .ref (ad 0))] [] := by
  obtain ⟨Z2, z2⟩ : ∃ Z : Int → Mem → Prop, ∀ x1 s, Z x1 s ↔ WM κ (GB ad cA D) 2 Q s 2 [(0, .ref (ad 0)), (1, vI x1)] [] := ⟨fun x1 s => WM κ (GB ad cA D) 2 Q s 2 [(0, .ref (ad 0)), (1, vI x1)] [], fun _ _ => Iff.rfl⟩
  refine (fun h => ?_) (h Z2 ?_)
  · refine r_iconst C dX8_back_0 ?_
    refine r_istore_n (ls' := [(1, vI (0 : Int)), (0, .ref (ad 0))]) C dX8_back_1 rfl (by decide) rfl ?_
    exact r_perm [1, 0] rfl ((z2 _ _).1 h)
  · intro x1 s h
    refine (z2 _ _).2 ?_
    refine r_iload_n C 1 dX8_back_2 rfl ?_
    refine r_aload_n C 0 dX8_back_3 rfl ?_
    refine r_get (j := 0) (jz := 0) (v := vI (s 0 (0 : Int))) C dX8_back_4 (shB_0) rfl rfl (by decide) in_x8_back_X8 w_x8_back_86 rfl rfl rfl ?_
    refine r_icmp_ge (tgt := 28) C dX8_back_7 (by decide) ⟨h.1, fun c2 => ?_, fun c2 => ?_⟩
    · have h := h.2.1 c2
      exact r_return C dX8_back_28 h
    · have h := h.2.2 c2
      refine r_aload_n C 0 dX8_back_10 rfl ?_
      refine r_get (j := 4) (jz := 4) (v := .ref (ad 3)) C dX8_back_11 (shB_0) rfl rfl (by decide) in_x8_back_X8 w_x8_back_16 rfl rfl rfl ?_
      refine r_iload_n C 1 dX8_back_14 rfl ?_
      refine r_aload_n C 0 dX8_back_15 rfl ?_
      refine r_get (j := 20) (jz := 20) (v := .ref (ad 16)) C dX8_back_16 (shB_0) rfl rfl (by decide) in_x8_back_X8 w_x8_back_57 rfl rfl rfl ?_
      refine r_iload_n C 1 dX8_back_19 rfl ?_
      refine r_iald (nz := 6) C dX8_back_20 (shB_16) rfl (by decide) ⟨h.1, ?_⟩
      have h := h.2
      refine r_iast (nz := 6) C dX8_back_21 (shB_3) rfl (by decide) ⟨h.1, fun s1 e_s1 => ?_⟩
      have h := h.2 s1 e_s1
      refine r_iinc (j := 1) (ls' := [(1, vI (x1 + (1 : Int))), (0, .ref (ad 0))]) C dX8_back_22 rfl (by decide) rfl ?_
      refine r_goto (tgt := 2) C dX8_back_25 (by decide) ?_
      exact r_perm [1, 0] rfl ((z2 _ _).1 h)
theorem x8_back_ct (l : Launch) (ad : Nat → Nat) (cA : Nat → ClassId) (D : va_G)  (s : Mem) : MG l yX8_back wsX8_back x8_back_rm ocV [.ref (ad 0)] (GB ad cA D) s (x8_back  s) :=
  m_met (own := RX8) (nL := 2) (by decide) rfl rfl (Nat.le_of_ble_eq_true rfl) rfl rfl rfl (fun κ hl C Q Pst hW hQ => x8_back_bd C (x8_back_mono hW hQ))

def x8_passesOf_be (X7 : Int → Int → Mem → Prop) (X38 : Int → Int → Int → Mem → Prop) (Q : Int → Mem → Prop) (p1 : Int) (s : Mem) : Prop :=
  ∀ s1 : Mem, s1 = m_upd s 0 (19 : Int) (0 : Int) → X7 p1 (0 : Int) s1
def x8_passesOf_b7 (X7 : Int → Int → Mem → Prop) (X38 : Int → Int → Int → Mem → Prop) (Q : Int → Mem → Prop) (x1 : Int) (x2 : Int) (s : Mem) : Prop :=
  (InI x2 ∧ InI (20 : Int)) ∧ ((20 : Int) < x2 → Q (-1 : Int) s) ∧ (x2 ≤ (20 : Int) → x8_allHave x1 s (fun r3 s2 => InI r3 ∧ (r3 = (0 : Int) → (InI x2 ∧ InI (20 : Int)) ∧ ((20 : Int) ≤ x2 → X38 x1 x2 (-1 : Int) s2) ∧ (x2 < (20 : Int) → x8_passOf x1 s2 (fun r5 s4 => X38 x1 x2 r5 s4))) ∧ (¬ r3 = (0 : Int) → Q x2 s2)))
def x8_passesOf_b38 (X7 : Int → Int → Mem → Prop) (X38 : Int → Int → Int → Mem → Prop) (Q : Int → Mem → Prop) (x1 : Int) (x2 : Int) (t0 : Int) (s : Mem) : Prop :=
  InI t0 ∧ ((0 : Int) ≤ t0 → ∀ s9 : Mem, s9 = m_upd s 0 (19 : Int) ((s 0 (19 : Int)) + t0) → X7 x1 (x2 + (1 : Int)) s9) ∧ (t0 < (0 : Int) → Q (-1 : Int) s)
theorem x8_passesOf_me {X7 Y7 : Int → Int → Mem → Prop} {X38 Y38 : Int → Int → Int → Mem → Prop} {Q R : Int → Mem → Prop} (hX7 : ∀ x1 x2 s, X7 x1 x2 s → Y7 x1 x2 s) (hX38 : ∀ x1 x2 t0 s, X38 x1 x2 t0 s → Y38 x1 x2 t0 s) (hQ : ∀ r s, Q r s → R r s) {p1 : Int} {s : Mem} (h : x8_passesOf_be X7 X38 Q p1 s) : x8_passesOf_be Y7 Y38 R p1 s :=
  fun s1 e_s1 => have h := h s1 e_s1; hX7 _ _ _ h
theorem x8_passesOf_m7 {X7 Y7 : Int → Int → Mem → Prop} {X38 Y38 : Int → Int → Int → Mem → Prop} {Q R : Int → Mem → Prop} (hX7 : ∀ x1 x2 s, X7 x1 x2 s → Y7 x1 x2 s) (hX38 : ∀ x1 x2 t0 s, X38 x1 x2 t0 s → Y38 x1 x2 t0 s) (hQ : ∀ r s, Q r s → R r s) {x1 : Int} {x2 : Int} {s : Mem} (h : x8_passesOf_b7 X7 X38 Q x1 x2 s) : x8_passesOf_b7 Y7 Y38 R x1 x2 s :=
  ⟨h.1, fun c => have h := h.2.1 c; hQ _ _ h, fun c => have h := h.2.2 c; x8_allHave_mono h (fun r3 s2 h => ⟨h.1, fun c => have h := h.2.1 c; ⟨h.1, fun c => have h := h.2.1 c; hX38 _ _ _ _ h, fun c => have h := h.2.2 c; x8_passOf_mono h (fun r5 s4 h => hX38 _ _ _ _ h)⟩, fun c => have h := h.2.2 c; hQ _ _ h⟩)⟩
theorem x8_passesOf_m38 {X7 Y7 : Int → Int → Mem → Prop} {X38 Y38 : Int → Int → Int → Mem → Prop} {Q R : Int → Mem → Prop} (hX7 : ∀ x1 x2 s, X7 x1 x2 s → Y7 x1 x2 s) (hX38 : ∀ x1 x2 t0 s, X38 x1 x2 t0 s → Y38 x1 x2 t0 s) (hQ : ∀ r s, Q r s → R r s) {x1 : Int} {x2 : Int} {t0 : Int} {s : Mem} (h : x8_passesOf_b38 X7 X38 Q x1 x2 t0 s) : x8_passesOf_b38 Y7 Y38 R x1 x2 t0 s :=
  ⟨h.1, fun c => have h := h.2.1 c; fun s9 e_s9 => have h := h s9 e_s9; hX7 _ _ _ h, fun c => have h := h.2.2 c; hQ _ _ h⟩
def x8_passesOf (p1 : Int) (s : Mem) (Q : Int → Mem → Prop) : Prop := ∀ (X7 : Int → Int → Mem → Prop) (X38 : Int → Int → Int → Mem → Prop), (∀ x1 x2 s, x8_passesOf_b7 X7 X38 Q x1 x2 s → X7 x1 x2 s) → (∀ x1 x2 t0 s, x8_passesOf_b38 X7 X38 Q x1 x2 t0 s → X38 x1 x2 t0 s) → x8_passesOf_be X7 X38 Q p1 s
def x8_passesOf_L7 (Q : Int → Mem → Prop) (x1 : Int) (x2 : Int) (s : Mem) : Prop := ∀ (X7 : Int → Int → Mem → Prop) (X38 : Int → Int → Int → Mem → Prop), (∀ x1 x2 s, x8_passesOf_b7 X7 X38 Q x1 x2 s → X7 x1 x2 s) → (∀ x1 x2 t0 s, x8_passesOf_b38 X7 X38 Q x1 x2 t0 s → X38 x1 x2 t0 s) → X7 x1 x2 s
def x8_passesOf_L38 (Q : Int → Mem → Prop) (x1 : Int) (x2 : Int) (t0 : Int) (s : Mem) : Prop := ∀ (X7 : Int → Int → Mem → Prop) (X38 : Int → Int → Int → Mem → Prop), (∀ x1 x2 s, x8_passesOf_b7 X7 X38 Q x1 x2 s → X7 x1 x2 s) → (∀ x1 x2 t0 s, x8_passesOf_b38 X7 X38 Q x1 x2 t0 s → X38 x1 x2 t0 s) → X38 x1 x2 t0 s
theorem x8_passesOf_i {Q : Int → Mem → Prop} {p1 : Int} {s : Mem} (h : x8_passesOf_be (x8_passesOf_L7 Q) (x8_passesOf_L38 Q) Q p1 s) : x8_passesOf p1 s Q := fun X7 X38 k7 k38 => x8_passesOf_me (fun _ _ _ h => h X7 X38 k7 k38) (fun _ _ _ _ h => h X7 X38 k7 k38) (fun _ _ h => h) h
theorem x8_passesOf_s7 {Q : Int → Mem → Prop} {x1 : Int} {x2 : Int} {s : Mem} (h : x8_passesOf_b7 (x8_passesOf_L7 Q) (x8_passesOf_L38 Q) Q x1 x2 s) : x8_passesOf_L7 Q x1 x2 s := fun X7 X38 k7 k38 => k7 _ _ _ (x8_passesOf_m7 (fun _ _ _ h => h X7 X38 k7 k38) (fun _ _ _ _ h => h X7 X38 k7 k38) (fun _ _ h => h) h)
theorem x8_passesOf_s38 {Q : Int → Mem → Prop} {x1 : Int} {x2 : Int} {t0 : Int} {s : Mem} (h : x8_passesOf_b38 (x8_passesOf_L7 Q) (x8_passesOf_L38 Q) Q x1 x2 t0 s) : x8_passesOf_L38 Q x1 x2 t0 s := fun X7 X38 k7 k38 => k38 _ _ _ _ (x8_passesOf_m38 (fun _ _ _ h => h X7 X38 k7 k38) (fun _ _ _ _ h => h X7 X38 k7 k38) (fun _ _ h => h) h)
theorem x8_passesOf_mono {Q R : Int → Mem → Prop} {p1 : Int} {s : Mem} (h : x8_passesOf p1 s Q) (hQ : ∀ r s, Q r s → R r s) : x8_passesOf p1 s R := fun X7 X38 k7 k38 => x8_passesOf_me (fun _ _ _ h => h) (fun _ _ _ _ h => h) hQ (h X7 X38 (fun _ _ _ h => k7 _ _ _ (x8_passesOf_m7 (fun _ _ _ h => h) (fun _ _ _ _ h => h) hQ h)) (fun _ _ _ _ h => k38 _ _ _ _ (x8_passesOf_m38 (fun _ _ _ h => h) (fun _ _ _ _ h => h) hQ h)))
def x8_passesOf_rm : Room := { frames := 6, cells := 0, slots := 0, locals := 144 }
theorem w_x8_passesOf_188 : Cond.fieldLink RX8 188 "BoltRingModel" "drawnAll" "I" ∈ wsX8_passesOf := by decide +kernel
theorem in_x8_passesOf_X8 : ∀ w ∈ wsX80, w ∈ wsX8_passesOf := by decide +kernel
set_option maxHeartbeats 4000000 in
set_option maxRecDepth 100000 in
theorem x8_passesOf_bd {κ : KT} {ad : Nat → Nat} {cA : Nat → ClassId} {D : va_G} {Q : State → Prop} {p1 : Int} {s : Mem} (C : CX κ (GB ad cA D) RX8 cX8_passesOf 4 wsX8_passesOf x8_passesOf_rm (some .int)) (h : x8_passesOf p1 s (RT κ (GB ad cA D) ocI Q)) : WM κ (GB ad cA D) 4 Q s 0 [(0, .ref (ad 0)), (1, vI p1)] [] := by
  obtain ⟨Z7, z7⟩ : ∃ Z : Int → Int → Mem → Prop, ∀ x1 x2 s, Z x1 x2 s ↔ WM κ (GB ad cA D) 4 Q s 7 [(0, .ref (ad 0)), (1, vI x1), (2, vI x2)] [] := ⟨fun x1 x2 s => WM κ (GB ad cA D) 4 Q s 7 [(0, .ref (ad 0)), (1, vI x1), (2, vI x2)] [], fun _ _ _ => Iff.rfl⟩
  obtain ⟨Z38, z38⟩ : ∃ Z : Int → Int → Int → Mem → Prop, ∀ x1 x2 t0 s, Z x1 x2 t0 s ↔ WM κ (GB ad cA D) 4 Q s 38 [(0, .ref (ad 0)), (1, vI x1), (2, vI x2)] [vI t0] := ⟨fun x1 x2 t0 s => WM κ (GB ad cA D) 4 Q s 38 [(0, .ref (ad 0)), (1, vI x1), (2, vI x2)] [vI t0], fun _ _ _ _ => Iff.rfl⟩
  refine (fun h => ?_) (h Z7 Z38 ?_ ?_)
  · refine r_aload_n C 0 dX8_passesOf_0 rfl ?_
    refine r_iconst C dX8_passesOf_1 ?_
    refine r_puti (j := 19) (jz := 19) C dX8_passesOf_2 (shB_0) rfl rfl (by decide) in_x8_passesOf_X8 tyX8 tyX8_ok nmX8 w_x8_passesOf_188 rfl rfl (by decide +kernel) rfl (fun s1 e_s1 => ?_)
    have h := h s1 e_s1
    refine r_iconst C dX8_passesOf_5 ?_
    refine r_istore_n (ls' := [(2, vI (0 : Int)), (0, .ref (ad 0)), (1, vI p1)]) C dX8_passesOf_6 rfl (by decide) rfl ?_
    exact r_perm [1, 2, 0] rfl ((z7 _ _ _).1 h)
  · intro x1 x2 s h
    refine (z7 _ _ _).2 ?_
    refine r_iload_n C 2 dX8_passesOf_7 rfl ?_
    refine r_bipush C dX8_passesOf_8 (by decide) ?_
    refine r_icmp_gt (tgt := 61) C dX8_passesOf_10 (by decide) ⟨h.1, fun c8 => ?_, fun c8 => ?_⟩
    · have h := h.2.1 c8
      refine r_iconst C dX8_passesOf_61 ?_
      exact r_ireturn C dX8_passesOf_62 h
    · have h := h.2.2 c8
      refine r_aload_n C 0 dX8_passesOf_13 rfl ?_
      refine r_iload_n C 1 dX8_passesOf_14 rfl ?_
      refine r_callV (As := [vI x1]) (o := 0) (n := 1) C dX8_passesOf_15 (x8_allHave_ct κ.1.2.1 ad cA D x1 s) gX8_passesOf_X8_allHave rfl ⟨rfl, rfl⟩ (by decide +kernel) (by decide) (shB_0) rfl rfl rfl (Nat.le_of_ble_eq_true rfl) (fun _ => rfl) ?_
      refine x8_allHave_mono h (fun r3 s2 h => ?_)
      refine r_if_eq (tgt := 23) C dX8_passesOf_18 (by decide) ⟨h.1, fun c7 => ?_, fun c7 => ?_⟩
      · have h := h.2.1 c7
        refine r_iload_n C 2 dX8_passesOf_23 rfl ?_
        refine r_bipush C dX8_passesOf_24 (by decide) ?_
        refine r_icmp_ge (tgt := 37) C dX8_passesOf_26 (by decide) ⟨h.1, fun c6 => ?_, fun c6 => ?_⟩
        · have h := h.2.1 c6
          refine r_iconst C dX8_passesOf_37 ?_
          exact r_perm [0, 1, 2] rfl ((z38 _ _ _ _).1 h)
        · have h := h.2.2 c6
          refine r_aload_n C 0 dX8_passesOf_29 rfl ?_
          refine r_iload_n C 1 dX8_passesOf_30 rfl ?_
          refine r_callV (As := [vI x1]) (o := 0) (n := 1) C dX8_passesOf_31 (x8_passOf_ct κ.1.2.1 ad cA D x1 s2) gX8_passesOf_X8_passOf rfl ⟨rfl, rfl⟩ (by decide +kernel) (by decide) (shB_0) rfl rfl rfl (Nat.le_of_ble_eq_true rfl) (fun _ => rfl) ?_
          refine x8_passOf_mono h (fun r5 s4 h => ?_)
          refine r_goto (tgt := 38) C dX8_passesOf_34 (by decide) ?_
          exact r_perm [0, 1, 2] rfl ((z38 _ _ _ _).1 h)
      · have h := h.2.2 c7
        refine r_iload_n C 2 dX8_passesOf_21 rfl ?_
        exact r_ireturn C dX8_passesOf_22 h
  · intro x1 x2 t0 s h
    refine (z38 _ _ _ _).2 ?_
    refine r_istore_n (ls' := [(3, vI t0), (0, .ref (ad 0)), (1, vI x1), (2, vI x2)]) C dX8_passesOf_38 rfl (by decide) rfl ?_
    refine r_iload_n C 0 dX8_passesOf_39 rfl ?_
    refine r_if_ge (tgt := 45) C dX8_passesOf_40 (by decide) ⟨h.1, fun c10 => ?_, fun c10 => ?_⟩
    · have h := h.2.1 c10
      refine r_aload_n C 1 dX8_passesOf_45 rfl ?_
      refine r_dup C dX8_passesOf_46 rfl ?_
      refine r_get (j := 19) (jz := 19) (v := vI (s 0 (19 : Int))) C dX8_passesOf_47 (shB_0) rfl rfl (by decide) in_x8_passesOf_X8 w_x8_passesOf_188 rfl rfl rfl ?_
      refine r_iload_n C 0 dX8_passesOf_50 rfl ?_
      refine r_iadd C dX8_passesOf_51 ?_
      refine r_puti (j := 19) (jz := 19) C dX8_passesOf_52 (shB_0) rfl rfl (by decide) in_x8_passesOf_X8 tyX8 tyX8_ok nmX8 w_x8_passesOf_188 rfl rfl (by decide +kernel) rfl (fun s9 e_s9 => ?_)
      have h := h s9 e_s9
      refine r_iinc (j := 3) (ls' := [(2, vI (x2 + (1 : Int))), (3, vI t0), (0, .ref (ad 0)), (1, vI x1)]) C dX8_passesOf_55 rfl (by decide) rfl ?_
      refine r_goto (tgt := 7) C dX8_passesOf_58 (by decide) ?_
      exact r_perm [2, 3, 0] rfl ((z7 _ _ _).1 h)
    · have h := h.2.2 c10
      refine r_iconst C dX8_passesOf_43 ?_
      exact r_ireturn C dX8_passesOf_44 h
theorem x8_passesOf_ct (l : Launch) (ad : Nat → Nat) (cA : Nat → ClassId) (D : va_G) (p1 : Int) (s : Mem) : MG l yX8_passesOf wsX8_passesOf x8_passesOf_rm ocI [.ref (ad 0), vI p1] (GB ad cA D) s (x8_passesOf p1 s) :=
  m_met (own := RX8) (nL := 4) (by decide) rfl rfl (Nat.le_of_ble_eq_true rfl) rfl rfl rfl (fun κ hl C Q Pst hW hQ => x8_passesOf_bd C (x8_passesOf_mono hW hQ))

def x8_passes (p1 : Int) (s : Mem) (Q : Int → Mem → Prop) : Prop :=
  x8_isAim p1 s (fun r2 s1 => InI r2 ∧ (¬ r2 = (0 : Int) → x8_keep s1 (fun _ s3 => x8_passesOf p1 s3 (fun r5 s4 => InI r5 ∧ ((0 : Int) ≤ r5 → Q r5 s4) ∧ (r5 < (0 : Int) → x8_back s4 (fun _ s6 => Q (-100003 : Int) s6))))) ∧ (r2 = (0 : Int) → Q (-100002 : Int) s1))
theorem x8_passes_mono {Q R : Int → Mem → Prop} {p1 : Int} {s : Mem} (h : x8_passes p1 s Q) (hQ : ∀ r s, Q r s → R r s) : x8_passes p1 s R :=
  x8_isAim_mono h (fun r2 s1 h => ⟨h.1, fun c => have h := h.2.1 c; x8_keep_mono h (fun _ s3 h => x8_passesOf_mono h (fun r5 s4 h => ⟨h.1, fun c => have h := h.2.1 c; hQ _ _ h, fun c => have h := h.2.2 c; x8_back_mono h (fun _ s6 h => hQ _ _ h)⟩)), fun c => have h := h.2.2 c; hQ _ _ h⟩)
def x8_passes_rm : Room := { frames := 7, cells := 0, slots := 0, locals := 167 }
theorem w_x8_passes_121 : Cond.constant RX8 121 (-100003) ∈ wsX8_passes := by decide +kernel
theorem w_x8_passes_105 : Cond.constant RX8 105 (-100002) ∈ wsX8_passes := by decide +kernel
set_option maxHeartbeats 4000000 in
set_option maxRecDepth 100000 in
theorem x8_passes_bd {κ : KT} {ad : Nat → Nat} {cA : Nat → ClassId} {D : va_G} {Q : State → Prop} {p1 : Int} {s : Mem} (C : CX κ (GB ad cA D) RX8 cX8_passes 3 wsX8_passes x8_passes_rm (some .int)) (h : x8_passes p1 s (RT κ (GB ad cA D) ocI Q)) : WM κ (GB ad cA D) 3 Q s 0 [(0, .ref (ad 0)), (1, vI p1)] [] := by
  refine r_iload_n C 1 dX8_passes_0 rfl ?_
  refine r_callS (As := [vI p1]) (n := 1) C dX8_passes_1 (x8_isAim_ct κ.1.2.1 ad cA D p1 s) gX8_passes_X8_isAim rfl ⟨rfl, rfl⟩ (by decide +kernel) (by decide) rfl rfl (Nat.le_of_ble_eq_true rfl) (fun _ => rfl) ?_
  refine x8_isAim_mono h (fun r2 s1 h => ?_)
  refine r_if_ne (tgt := 10) C dX8_passes_4 (by decide) ⟨h.1, fun c8 => ?_, fun c8 => ?_⟩
  · have h := h.2.1 c8
    refine r_aload_n C 0 dX8_passes_10 rfl ?_
    refine r_callV (As := []) (o := 0) (n := 0) C dX8_passes_11 (x8_keep_ct κ.1.2.1 ad cA D s1) gX8_passes_X8_keep rfl ⟨rfl, rfl⟩ (by decide +kernel) (by decide) (shB_0) rfl rfl rfl (Nat.le_of_ble_eq_true rfl) (fun _ => rfl) ?_
    refine x8_keep_mono h (fun _ s3 h => ?_)
    refine r_aload_n C 0 dX8_passes_14 rfl ?_
    refine r_iload_n C 1 dX8_passes_15 rfl ?_
    refine r_callV (As := [vI p1]) (o := 0) (n := 1) C dX8_passes_16 (x8_passesOf_ct κ.1.2.1 ad cA D p1 s3) gX8_passes_X8_passesOf rfl ⟨rfl, rfl⟩ (by decide +kernel) (by decide) (shB_0) rfl rfl rfl (Nat.le_of_ble_eq_true rfl) (fun _ => rfl) ?_
    refine x8_passesOf_mono h (fun r5 s4 h => ?_)
    refine r_istore_n (ls' := [(2, vI r5), (0, .ref (ad 0)), (1, vI p1)]) C dX8_passes_19 rfl (by decide) rfl ?_
    refine r_iload_n C 0 dX8_passes_20 rfl ?_
    refine r_if_ge (tgt := 31) C dX8_passes_21 (by decide) ⟨h.1, fun c7 => ?_, fun c7 => ?_⟩
    · have h := h.2.1 c7
      refine r_iload_n C 0 dX8_passes_31 rfl ?_
      exact r_ireturn C dX8_passes_32 h
    · have h := h.2.2 c7
      refine r_aload_n C 1 dX8_passes_24 rfl ?_
      refine r_callV (As := []) (o := 0) (n := 0) C dX8_passes_25 (x8_back_ct κ.1.2.1 ad cA D s4) gX8_passes_X8_back rfl ⟨rfl, rfl⟩ (by decide +kernel) (by decide) (shB_0) rfl rfl rfl (Nat.le_of_ble_eq_true rfl) (fun _ => rfl) ?_
      refine x8_back_mono h (fun _ s6 h => ?_)
      refine r_ldc (z := -100003) C dX8_passes_28 w_x8_passes_121 rfl ?_
      exact r_ireturn C dX8_passes_30 h
  · have h := h.2.2 c8
    refine r_ldc (z := -100002) C dX8_passes_7 w_x8_passes_105 rfl ?_
    exact r_ireturn C dX8_passes_9 h
theorem x8_passes_ct (l : Launch) (ad : Nat → Nat) (cA : Nat → ClassId) (D : va_G) (p1 : Int) (s : Mem) : MG l yX8_passes wsX8_passes x8_passes_rm ocI [.ref (ad 0), vI p1] (GB ad cA D) s (x8_passes p1 s) :=
  m_met (own := RX8) (nL := 3) (by decide) rfl rfl (Nat.le_of_ble_eq_true rfl) rfl rfl rfl (fun κ hl C Q Pst hW hQ => x8_passes_bd C (x8_passes_mono hW hQ))

def x8_findBest_be (X11 : Int → Int → Mem → Prop) (X41 : Int → Int → Int → Mem → Prop) (X62 : Int → Int → Int → Mem → Prop) (X78 : Int → Int → Int → Int → Mem → Prop) (X159 : Int → Int → Int → Int → Mem → Prop) (X186 : Int → Mem → Prop) (Q : Int → Mem → Prop) (p1 : Int) (s : Mem) : Prop :=
  ∀ s1 : Mem, s1 = m_upd s 0 (21 : Int) (-1 : Int) → x8_keep s1 (fun _ s2 => X11 p1 (0 : Int) s2)
def x8_findBest_b11 (X11 : Int → Int → Mem → Prop) (X41 : Int → Int → Int → Mem → Prop) (X62 : Int → Int → Int → Mem → Prop) (X78 : Int → Int → Int → Int → Mem → Prop) (X159 : Int → Int → Int → Int → Mem → Prop) (X186 : Int → Mem → Prop) (Q : Int → Mem → Prop) (x1 : Int) (x2 : Int) (s : Mem) : Prop :=
  (InI x2 ∧ InI (s 0 (0 : Int))) ∧ ((s 0 (0 : Int)) ≤ x2 → X41 x1 (1 : Int) (0 : Int) s) ∧ (x2 < (s 0 (0 : Int)) → ((0 : Int) ≤ x2 ∧ x2 < 6) ∧ ((0 : Int) ≤ x2 ∧ x2 < 6) ∧ ∀ s3 : Mem, s3 = m_upd s 17 x2 (s 6 x2) → X11 x1 (x2 + (1 : Int)) s3)
def x8_findBest_b41 (X11 : Int → Int → Mem → Prop) (X41 : Int → Int → Int → Mem → Prop) (X62 : Int → Int → Int → Mem → Prop) (X78 : Int → Int → Int → Int → Mem → Prop) (X159 : Int → Int → Int → Int → Mem → Prop) (X186 : Int → Mem → Prop) (Q : Int → Mem → Prop) (x1 : Int) (x2 : Int) (x3 : Int) (s : Mem) : Prop :=
  (InI x3 ∧ InI (s 0 (0 : Int))) ∧ ((s 0 (0 : Int)) ≤ x3 → X62 x1 x2 (0 : Int) s) ∧ (x3 < (s 0 (0 : Int)) → X41 x1 (x2 * (10 : Int)) (x3 + (1 : Int)) s)
def x8_findBest_b62 (X11 : Int → Int → Mem → Prop) (X41 : Int → Int → Int → Mem → Prop) (X62 : Int → Int → Int → Mem → Prop) (X78 : Int → Int → Int → Int → Mem → Prop) (X159 : Int → Int → Int → Int → Mem → Prop) (X186 : Int → Mem → Prop) (Q : Int → Mem → Prop) (x1 : Int) (x2 : Int) (x3 : Int) (s : Mem) : Prop :=
  (InI x3 ∧ InI x2) ∧ (x2 ≤ x3 → X186 (0 : Int) s) ∧ (x3 < x2 → x8_isRow x3 s (fun r7 s6 => InI r7 ∧ (r7 = (0 : Int) → X62 x1 x2 (x3 + (1 : Int)) s6) ∧ (¬ r7 = (0 : Int) → X78 x1 x2 x3 (0 : Int) s6)))
def x8_findBest_b78 (X11 : Int → Int → Mem → Prop) (X41 : Int → Int → Int → Mem → Prop) (X62 : Int → Int → Int → Mem → Prop) (X78 : Int → Int → Int → Int → Mem → Prop) (X159 : Int → Int → Int → Int → Mem → Prop) (X186 : Int → Mem → Prop) (Q : Int → Mem → Prop) (x1 : Int) (x2 : Int) (x3 : Int) (x4 : Int) (s : Mem) : Prop :=
  (InI x4 ∧ InI (s 0 (0 : Int))) ∧ ((s 0 (0 : Int)) ≤ x4 → x8_passesOf x1 s (fun r11 s10 => x8_back s10 (fun _ s12 => InI r11 ∧ (r11 < (0 : Int) → X62 x1 x2 (x3 + (1 : Int)) s12) ∧ ((0 : Int) ≤ r11 → InI (s12 0 (21 : Int)) ∧ ((s12 0 (21 : Int)) < (0 : Int) → X159 x1 x2 x3 r11 s12) ∧ ((0 : Int) ≤ (s12 0 (21 : Int)) → (InI r11 ∧ InI (s12 0 (22 : Int))) ∧ (r11 < (s12 0 (22 : Int)) → X159 x1 x2 x3 r11 s12) ∧ ((s12 0 (22 : Int)) ≤ r11 → (InI r11 ∧ InI (s12 0 (22 : Int))) ∧ (¬ r11 = (s12 0 (22 : Int)) → X62 x1 x2 (x3 + (1 : Int)) s12) ∧ (r11 = (s12 0 (22 : Int)) → (InI (s12 0 (19 : Int)) ∧ InI (s12 0 (23 : Int))) ∧ ((s12 0 (23 : Int)) ≤ (s12 0 (19 : Int)) → X62 x1 x2 (x3 + (1 : Int)) s12) ∧ ((s12 0 (19 : Int)) < (s12 0 (23 : Int)) → X159 x1 x2 x3 r11 s12)))))))) ∧ (x4 < (s 0 (0 : Int)) → ((0 : Int) ≤ x4 ∧ x4 < 6) ∧ ((0 : Int) ≤ x4 ∧ x4 < 6) ∧ ∀ s18 : Mem, s18 = m_upd s 6 x4 (s 15 x4) → X78 x1 x2 x3 (x4 + (1 : Int)) s18)
def x8_findBest_b159 (X11 : Int → Int → Mem → Prop) (X41 : Int → Int → Int → Mem → Prop) (X62 : Int → Int → Int → Mem → Prop) (X78 : Int → Int → Int → Int → Mem → Prop) (X159 : Int → Int → Int → Int → Mem → Prop) (X186 : Int → Mem → Prop) (Q : Int → Mem → Prop) (x1 : Int) (x2 : Int) (x3 : Int) (x4 : Int) (s : Mem) : Prop :=
  ∀ s20 : Mem, s20 = m_upd s 0 (21 : Int) x3 → ∀ s21 : Mem, s21 = m_upd s20 0 (22 : Int) x4 → ∀ s22 : Mem, s22 = m_upd s21 0 (23 : Int) (s21 0 (19 : Int)) → X62 x1 x2 (x3 + (1 : Int)) s22
def x8_findBest_b186 (X11 : Int → Int → Mem → Prop) (X41 : Int → Int → Int → Mem → Prop) (X62 : Int → Int → Int → Mem → Prop) (X78 : Int → Int → Int → Int → Mem → Prop) (X159 : Int → Int → Int → Int → Mem → Prop) (X186 : Int → Mem → Prop) (Q : Int → Mem → Prop) (x3 : Int) (s : Mem) : Prop :=
  (InI x3 ∧ InI (s 0 (0 : Int))) ∧ ((s 0 (0 : Int)) ≤ x3 → Q (0 : Int) s) ∧ (x3 < (s 0 (0 : Int)) → ((0 : Int) ≤ x3 ∧ x3 < 6) ∧ ((0 : Int) ≤ x3 ∧ x3 < 6) ∧ ∀ s23 : Mem, s23 = m_upd s 6 x3 (s 17 x3) → X186 (x3 + (1 : Int)) s23)
theorem x8_findBest_me {X11 Y11 : Int → Int → Mem → Prop} {X41 Y41 : Int → Int → Int → Mem → Prop} {X62 Y62 : Int → Int → Int → Mem → Prop} {X78 Y78 : Int → Int → Int → Int → Mem → Prop} {X159 Y159 : Int → Int → Int → Int → Mem → Prop} {X186 Y186 : Int → Mem → Prop} {Q R : Int → Mem → Prop} (hX11 : ∀ x1 x2 s, X11 x1 x2 s → Y11 x1 x2 s) (hX41 : ∀ x1 x2 x3 s, X41 x1 x2 x3 s → Y41 x1 x2 x3 s) (hX62 : ∀ x1 x2 x3 s, X62 x1 x2 x3 s → Y62 x1 x2 x3 s) (hX78 : ∀ x1 x2 x3 x4 s, X78 x1 x2 x3 x4 s → Y78 x1 x2 x3 x4 s) (hX159 : ∀ x1 x2 x3 x4 s, X159 x1 x2 x3 x4 s → Y159 x1 x2 x3 x4 s) (hX186 : ∀ x3 s, X186 x3 s → Y186 x3 s) (hQ : ∀ r s, Q r s → R r s) {p1 : Int} {s : Mem} (h : x8_findBest_be X11 X41 X62 X78 X159 X186 Q p1 s) : x8_findBest_be Y11 Y41 Y62 Y78 Y159 Y186 R p1 s :=
  fun s1 e_s1 => have h := h s1 e_s1; x8_keep_mono h (fun _ s2 h => hX11 _ _ _ h)
theorem x8_findBest_m11 {X11 Y11 : Int → Int → Mem → Prop} {X41 Y41 : Int → Int → Int → Mem → Prop} {X62 Y62 : Int → Int → Int → Mem → Prop} {X78 Y78 : Int → Int → Int → Int → Mem → Prop} {X159 Y159 : Int → Int → Int → Int → Mem → Prop} {X186 Y186 : Int → Mem → Prop} {Q R : Int → Mem → Prop} (hX11 : ∀ x1 x2 s, X11 x1 x2 s → Y11 x1 x2 s) (hX41 : ∀ x1 x2 x3 s, X41 x1 x2 x3 s → Y41 x1 x2 x3 s) (hX62 : ∀ x1 x2 x3 s, X62 x1 x2 x3 s → Y62 x1 x2 x3 s) (hX78 : ∀ x1 x2 x3 x4 s, X78 x1 x2 x3 x4 s → Y78 x1 x2 x3 x4 s) (hX159 : ∀ x1 x2 x3 x4 s, X159 x1 x2 x3 x4 s → Y159 x1 x2 x3 x4 s) (hX186 : ∀ x3 s, X186 x3 s → Y186 x3 s) (hQ : ∀ r s, Q r s → R r s) {x1 : Int} {x2 : Int} {s : Mem} (h : x8_findBest_b11 X11 X41 X62 X78 X159 X186 Q x1 x2 s) : x8_findBest_b11 Y11 Y41 Y62 Y78 Y159 Y186 R x1 x2 s :=
  ⟨h.1, fun c => have h := h.2.1 c; hX41 _ _ _ _ h, fun c => have h := h.2.2 c; ⟨h.1, have h := h.2; ⟨h.1, have h := h.2; fun s3 e_s3 => have h := h s3 e_s3; hX11 _ _ _ h⟩⟩⟩
theorem x8_findBest_m41 {X11 Y11 : Int → Int → Mem → Prop} {X41 Y41 : Int → Int → Int → Mem → Prop} {X62 Y62 : Int → Int → Int → Mem → Prop} {X78 Y78 : Int → Int → Int → Int → Mem → Prop} {X159 Y159 : Int → Int → Int → Int → Mem → Prop} {X186 Y186 : Int → Mem → Prop} {Q R : Int → Mem → Prop} (hX11 : ∀ x1 x2 s, X11 x1 x2 s → Y11 x1 x2 s) (hX41 : ∀ x1 x2 x3 s, X41 x1 x2 x3 s → Y41 x1 x2 x3 s) (hX62 : ∀ x1 x2 x3 s, X62 x1 x2 x3 s → Y62 x1 x2 x3 s) (hX78 : ∀ x1 x2 x3 x4 s, X78 x1 x2 x3 x4 s → Y78 x1 x2 x3 x4 s) (hX159 : ∀ x1 x2 x3 x4 s, X159 x1 x2 x3 x4 s → Y159 x1 x2 x3 x4 s) (hX186 : ∀ x3 s, X186 x3 s → Y186 x3 s) (hQ : ∀ r s, Q r s → R r s) {x1 : Int} {x2 : Int} {x3 : Int} {s : Mem} (h : x8_findBest_b41 X11 X41 X62 X78 X159 X186 Q x1 x2 x3 s) : x8_findBest_b41 Y11 Y41 Y62 Y78 Y159 Y186 R x1 x2 x3 s :=
  ⟨h.1, fun c => have h := h.2.1 c; hX62 _ _ _ _ h, fun c => have h := h.2.2 c; hX41 _ _ _ _ h⟩
theorem x8_findBest_m62 {X11 Y11 : Int → Int → Mem → Prop} {X41 Y41 : Int → Int → Int → Mem → Prop} {X62 Y62 : Int → Int → Int → Mem → Prop} {X78 Y78 : Int → Int → Int → Int → Mem → Prop} {X159 Y159 : Int → Int → Int → Int → Mem → Prop} {X186 Y186 : Int → Mem → Prop} {Q R : Int → Mem → Prop} (hX11 : ∀ x1 x2 s, X11 x1 x2 s → Y11 x1 x2 s) (hX41 : ∀ x1 x2 x3 s, X41 x1 x2 x3 s → Y41 x1 x2 x3 s) (hX62 : ∀ x1 x2 x3 s, X62 x1 x2 x3 s → Y62 x1 x2 x3 s) (hX78 : ∀ x1 x2 x3 x4 s, X78 x1 x2 x3 x4 s → Y78 x1 x2 x3 x4 s) (hX159 : ∀ x1 x2 x3 x4 s, X159 x1 x2 x3 x4 s → Y159 x1 x2 x3 x4 s) (hX186 : ∀ x3 s, X186 x3 s → Y186 x3 s) (hQ : ∀ r s, Q r s → R r s) {x1 : Int} {x2 : Int} {x3 : Int} {s : Mem} (h : x8_findBest_b62 X11 X41 X62 X78 X159 X186 Q x1 x2 x3 s) : x8_findBest_b62 Y11 Y41 Y62 Y78 Y159 Y186 R x1 x2 x3 s :=
  ⟨h.1, fun c => have h := h.2.1 c; hX186 _ _ h, fun c => have h := h.2.2 c; x8_isRow_mono h (fun r7 s6 h => ⟨h.1, fun c => have h := h.2.1 c; hX62 _ _ _ _ h, fun c => have h := h.2.2 c; hX78 _ _ _ _ _ h⟩)⟩
theorem x8_findBest_m78 {X11 Y11 : Int → Int → Mem → Prop} {X41 Y41 : Int → Int → Int → Mem → Prop} {X62 Y62 : Int → Int → Int → Mem → Prop} {X78 Y78 : Int → Int → Int → Int → Mem → Prop} {X159 Y159 : Int → Int → Int → Int → Mem → Prop} {X186 Y186 : Int → Mem → Prop} {Q R : Int → Mem → Prop} (hX11 : ∀ x1 x2 s, X11 x1 x2 s → Y11 x1 x2 s) (hX41 : ∀ x1 x2 x3 s, X41 x1 x2 x3 s → Y41 x1 x2 x3 s) (hX62 : ∀ x1 x2 x3 s, X62 x1 x2 x3 s → Y62 x1 x2 x3 s) (hX78 : ∀ x1 x2 x3 x4 s, X78 x1 x2 x3 x4 s → Y78 x1 x2 x3 x4 s) (hX159 : ∀ x1 x2 x3 x4 s, X159 x1 x2 x3 x4 s → Y159 x1 x2 x3 x4 s) (hX186 : ∀ x3 s, X186 x3 s → Y186 x3 s) (hQ : ∀ r s, Q r s → R r s) {x1 : Int} {x2 : Int} {x3 : Int} {x4 : Int} {s : Mem} (h : x8_findBest_b78 X11 X41 X62 X78 X159 X186 Q x1 x2 x3 x4 s) : x8_findBest_b78 Y11 Y41 Y62 Y78 Y159 Y186 R x1 x2 x3 x4 s :=
  ⟨h.1, fun c => have h := h.2.1 c; x8_passesOf_mono h (fun r11 s10 h => x8_back_mono h (fun _ s12 h => ⟨h.1, fun c => have h := h.2.1 c; hX62 _ _ _ _ h, fun c => have h := h.2.2 c; ⟨h.1, fun c => have h := h.2.1 c; hX159 _ _ _ _ _ h, fun c => have h := h.2.2 c; ⟨h.1, fun c => have h := h.2.1 c; hX159 _ _ _ _ _ h, fun c => have h := h.2.2 c; ⟨h.1, fun c => have h := h.2.1 c; hX62 _ _ _ _ h, fun c => have h := h.2.2 c; ⟨h.1, fun c => have h := h.2.1 c; hX62 _ _ _ _ h, fun c => have h := h.2.2 c; hX159 _ _ _ _ _ h⟩⟩⟩⟩⟩)), fun c => have h := h.2.2 c; ⟨h.1, have h := h.2; ⟨h.1, have h := h.2; fun s18 e_s18 => have h := h s18 e_s18; hX78 _ _ _ _ _ h⟩⟩⟩
theorem x8_findBest_m159 {X11 Y11 : Int → Int → Mem → Prop} {X41 Y41 : Int → Int → Int → Mem → Prop} {X62 Y62 : Int → Int → Int → Mem → Prop} {X78 Y78 : Int → Int → Int → Int → Mem → Prop} {X159 Y159 : Int → Int → Int → Int → Mem → Prop} {X186 Y186 : Int → Mem → Prop} {Q R : Int → Mem → Prop} (hX11 : ∀ x1 x2 s, X11 x1 x2 s → Y11 x1 x2 s) (hX41 : ∀ x1 x2 x3 s, X41 x1 x2 x3 s → Y41 x1 x2 x3 s) (hX62 : ∀ x1 x2 x3 s, X62 x1 x2 x3 s → Y62 x1 x2 x3 s) (hX78 : ∀ x1 x2 x3 x4 s, X78 x1 x2 x3 x4 s → Y78 x1 x2 x3 x4 s) (hX159 : ∀ x1 x2 x3 x4 s, X159 x1 x2 x3 x4 s → Y159 x1 x2 x3 x4 s) (hX186 : ∀ x3 s, X186 x3 s → Y186 x3 s) (hQ : ∀ r s, Q r s → R r s) {x1 : Int} {x2 : Int} {x3 : Int} {x4 : Int} {s : Mem} (h : x8_findBest_b159 X11 X41 X62 X78 X159 X186 Q x1 x2 x3 x4 s) : x8_findBest_b159 Y11 Y41 Y62 Y78 Y159 Y186 R x1 x2 x3 x4 s :=
  fun s20 e_s20 => have h := h s20 e_s20; fun s21 e_s21 => have h := h s21 e_s21; fun s22 e_s22 => have h := h s22 e_s22; hX62 _ _ _ _ h
theorem x8_findBest_m186 {X11 Y11 : Int → Int → Mem → Prop} {X41 Y41 : Int → Int → Int → Mem → Prop} {X62 Y62 : Int → Int → Int → Mem → Prop} {X78 Y78 : Int → Int → Int → Int → Mem → Prop} {X159 Y159 : Int → Int → Int → Int → Mem → Prop} {X186 Y186 : Int → Mem → Prop} {Q R : Int → Mem → Prop} (hX11 : ∀ x1 x2 s, X11 x1 x2 s → Y11 x1 x2 s) (hX41 : ∀ x1 x2 x3 s, X41 x1 x2 x3 s → Y41 x1 x2 x3 s) (hX62 : ∀ x1 x2 x3 s, X62 x1 x2 x3 s → Y62 x1 x2 x3 s) (hX78 : ∀ x1 x2 x3 x4 s, X78 x1 x2 x3 x4 s → Y78 x1 x2 x3 x4 s) (hX159 : ∀ x1 x2 x3 x4 s, X159 x1 x2 x3 x4 s → Y159 x1 x2 x3 x4 s) (hX186 : ∀ x3 s, X186 x3 s → Y186 x3 s) (hQ : ∀ r s, Q r s → R r s) {x3 : Int} {s : Mem} (h : x8_findBest_b186 X11 X41 X62 X78 X159 X186 Q x3 s) : x8_findBest_b186 Y11 Y41 Y62 Y78 Y159 Y186 R x3 s :=
  ⟨h.1, fun c => have h := h.2.1 c; hQ _ _ h, fun c => have h := h.2.2 c; ⟨h.1, have h := h.2; ⟨h.1, have h := h.2; fun s23 e_s23 => have h := h s23 e_s23; hX186 _ _ h⟩⟩⟩
def x8_findBest (p1 : Int) (s : Mem) (Q : Int → Mem → Prop) : Prop := ∀ (X11 : Int → Int → Mem → Prop) (X41 : Int → Int → Int → Mem → Prop) (X62 : Int → Int → Int → Mem → Prop) (X78 : Int → Int → Int → Int → Mem → Prop) (X159 : Int → Int → Int → Int → Mem → Prop) (X186 : Int → Mem → Prop), (∀ x1 x2 s, x8_findBest_b11 X11 X41 X62 X78 X159 X186 Q x1 x2 s → X11 x1 x2 s) → (∀ x1 x2 x3 s, x8_findBest_b41 X11 X41 X62 X78 X159 X186 Q x1 x2 x3 s → X41 x1 x2 x3 s) → (∀ x1 x2 x3 s, x8_findBest_b62 X11 X41 X62 X78 X159 X186 Q x1 x2 x3 s → X62 x1 x2 x3 s) → (∀ x1 x2 x3 x4 s, x8_findBest_b78 X11 X41 X62 X78 X159 X186 Q x1 x2 x3 x4 s → X78 x1 x2 x3 x4 s) → (∀ x1 x2 x3 x4 s, x8_findBest_b159 X11 X41 X62 X78 X159 X186 Q x1 x2 x3 x4 s → X159 x1 x2 x3 x4 s) → (∀ x3 s, x8_findBest_b186 X11 X41 X62 X78 X159 X186 Q x3 s → X186 x3 s) → x8_findBest_be X11 X41 X62 X78 X159 X186 Q p1 s
def x8_findBest_L11 (Q : Int → Mem → Prop) (x1 : Int) (x2 : Int) (s : Mem) : Prop := ∀ (X11 : Int → Int → Mem → Prop) (X41 : Int → Int → Int → Mem → Prop) (X62 : Int → Int → Int → Mem → Prop) (X78 : Int → Int → Int → Int → Mem → Prop) (X159 : Int → Int → Int → Int → Mem → Prop) (X186 : Int → Mem → Prop), (∀ x1 x2 s, x8_findBest_b11 X11 X41 X62 X78 X159 X186 Q x1 x2 s → X11 x1 x2 s) → (∀ x1 x2 x3 s, x8_findBest_b41 X11 X41 X62 X78 X159 X186 Q x1 x2 x3 s → X41 x1 x2 x3 s) → (∀ x1 x2 x3 s, x8_findBest_b62 X11 X41 X62 X78 X159 X186 Q x1 x2 x3 s → X62 x1 x2 x3 s) → (∀ x1 x2 x3 x4 s, x8_findBest_b78 X11 X41 X62 X78 X159 X186 Q x1 x2 x3 x4 s → X78 x1 x2 x3 x4 s) → (∀ x1 x2 x3 x4 s, x8_findBest_b159 X11 X41 X62 X78 X159 X186 Q x1 x2 x3 x4 s → X159 x1 x2 x3 x4 s) → (∀ x3 s, x8_findBest_b186 X11 X41 X62 X78 X159 X186 Q x3 s → X186 x3 s) → X11 x1 x2 s
def x8_findBest_L41 (Q : Int → Mem → Prop) (x1 : Int) (x2 : Int) (x3 : Int) (s : Mem) : Prop := ∀ (X11 : Int → Int → Mem → Prop) (X41 : Int → Int → Int → Mem → Prop) (X62 : Int → Int → Int → Mem → Prop) (X78 : Int → Int → Int → Int → Mem → Prop) (X159 : Int → Int → Int → Int → Mem → Prop) (X186 : Int → Mem → Prop), (∀ x1 x2 s, x8_findBest_b11 X11 X41 X62 X78 X159 X186 Q x1 x2 s → X11 x1 x2 s) → (∀ x1 x2 x3 s, x8_findBest_b41 X11 X41 X62 X78 X159 X186 Q x1 x2 x3 s → X41 x1 x2 x3 s) → (∀ x1 x2 x3 s, x8_findBest_b62 X11 X41 X62 X78 X159 X186 Q x1 x2 x3 s → X62 x1 x2 x3 s) → (∀ x1 x2 x3 x4 s, x8_findBest_b78 X11 X41 X62 X78 X159 X186 Q x1 x2 x3 x4 s → X78 x1 x2 x3 x4 s) → (∀ x1 x2 x3 x4 s, x8_findBest_b159 X11 X41 X62 X78 X159 X186 Q x1 x2 x3 x4 s → X159 x1 x2 x3 x4 s) → (∀ x3 s, x8_findBest_b186 X11 X41 X62 X78 X159 X186 Q x3 s → X186 x3 s) → X41 x1 x2 x3 s
def x8_findBest_L62 (Q : Int → Mem → Prop) (x1 : Int) (x2 : Int) (x3 : Int) (s : Mem) : Prop := ∀ (X11 : Int → Int → Mem → Prop) (X41 : Int → Int → Int → Mem → Prop) (X62 : Int → Int → Int → Mem → Prop) (X78 : Int → Int → Int → Int → Mem → Prop) (X159 : Int → Int → Int → Int → Mem → Prop) (X186 : Int → Mem → Prop), (∀ x1 x2 s, x8_findBest_b11 X11 X41 X62 X78 X159 X186 Q x1 x2 s → X11 x1 x2 s) → (∀ x1 x2 x3 s, x8_findBest_b41 X11 X41 X62 X78 X159 X186 Q x1 x2 x3 s → X41 x1 x2 x3 s) → (∀ x1 x2 x3 s, x8_findBest_b62 X11 X41 X62 X78 X159 X186 Q x1 x2 x3 s → X62 x1 x2 x3 s) → (∀ x1 x2 x3 x4 s, x8_findBest_b78 X11 X41 X62 X78 X159 X186 Q x1 x2 x3 x4 s → X78 x1 x2 x3 x4 s) → (∀ x1 x2 x3 x4 s, x8_findBest_b159 X11 X41 X62 X78 X159 X186 Q x1 x2 x3 x4 s → X159 x1 x2 x3 x4 s) → (∀ x3 s, x8_findBest_b186 X11 X41 X62 X78 X159 X186 Q x3 s → X186 x3 s) → X62 x1 x2 x3 s
def x8_findBest_L78 (Q : Int → Mem → Prop) (x1 : Int) (x2 : Int) (x3 : Int) (x4 : Int) (s : Mem) : Prop := ∀ (X11 : Int → Int → Mem → Prop) (X41 : Int → Int → Int → Mem → Prop) (X62 : Int → Int → Int → Mem → Prop) (X78 : Int → Int → Int → Int → Mem → Prop) (X159 : Int → Int → Int → Int → Mem → Prop) (X186 : Int → Mem → Prop), (∀ x1 x2 s, x8_findBest_b11 X11 X41 X62 X78 X159 X186 Q x1 x2 s → X11 x1 x2 s) → (∀ x1 x2 x3 s, x8_findBest_b41 X11 X41 X62 X78 X159 X186 Q x1 x2 x3 s → X41 x1 x2 x3 s) → (∀ x1 x2 x3 s, x8_findBest_b62 X11 X41 X62 X78 X159 X186 Q x1 x2 x3 s → X62 x1 x2 x3 s) → (∀ x1 x2 x3 x4 s, x8_findBest_b78 X11 X41 X62 X78 X159 X186 Q x1 x2 x3 x4 s → X78 x1 x2 x3 x4 s) → (∀ x1 x2 x3 x4 s, x8_findBest_b159 X11 X41 X62 X78 X159 X186 Q x1 x2 x3 x4 s → X159 x1 x2 x3 x4 s) → (∀ x3 s, x8_findBest_b186 X11 X41 X62 X78 X159 X186 Q x3 s → X186 x3 s) → X78 x1 x2 x3 x4 s
def x8_findBest_L159 (Q : Int → Mem → Prop) (x1 : Int) (x2 : Int) (x3 : Int) (x4 : Int) (s : Mem) : Prop := ∀ (X11 : Int → Int → Mem → Prop) (X41 : Int → Int → Int → Mem → Prop) (X62 : Int → Int → Int → Mem → Prop) (X78 : Int → Int → Int → Int → Mem → Prop) (X159 : Int → Int → Int → Int → Mem → Prop) (X186 : Int → Mem → Prop), (∀ x1 x2 s, x8_findBest_b11 X11 X41 X62 X78 X159 X186 Q x1 x2 s → X11 x1 x2 s) → (∀ x1 x2 x3 s, x8_findBest_b41 X11 X41 X62 X78 X159 X186 Q x1 x2 x3 s → X41 x1 x2 x3 s) → (∀ x1 x2 x3 s, x8_findBest_b62 X11 X41 X62 X78 X159 X186 Q x1 x2 x3 s → X62 x1 x2 x3 s) → (∀ x1 x2 x3 x4 s, x8_findBest_b78 X11 X41 X62 X78 X159 X186 Q x1 x2 x3 x4 s → X78 x1 x2 x3 x4 s) → (∀ x1 x2 x3 x4 s, x8_findBest_b159 X11 X41 X62 X78 X159 X186 Q x1 x2 x3 x4 s → X159 x1 x2 x3 x4 s) → (∀ x3 s, x8_findBest_b186 X11 X41 X62 X78 X159 X186 Q x3 s → X186 x3 s) → X159 x1 x2 x3 x4 s
def x8_findBest_L186 (Q : Int → Mem → Prop) (x3 : Int) (s : Mem) : Prop := ∀ (X11 : Int → Int → Mem → Prop) (X41 : Int → Int → Int → Mem → Prop) (X62 : Int → Int → Int → Mem → Prop) (X78 : Int → Int → Int → Int → Mem → Prop) (X159 : Int → Int → Int → Int → Mem → Prop) (X186 : Int → Mem → Prop), (∀ x1 x2 s, x8_findBest_b11 X11 X41 X62 X78 X159 X186 Q x1 x2 s → X11 x1 x2 s) → (∀ x1 x2 x3 s, x8_findBest_b41 X11 X41 X62 X78 X159 X186 Q x1 x2 x3 s → X41 x1 x2 x3 s) → (∀ x1 x2 x3 s, x8_findBest_b62 X11 X41 X62 X78 X159 X186 Q x1 x2 x3 s → X62 x1 x2 x3 s) → (∀ x1 x2 x3 x4 s, x8_findBest_b78 X11 X41 X62 X78 X159 X186 Q x1 x2 x3 x4 s → X78 x1 x2 x3 x4 s) → (∀ x1 x2 x3 x4 s, x8_findBest_b159 X11 X41 X62 X78 X159 X186 Q x1 x2 x3 x4 s → X159 x1 x2 x3 x4 s) → (∀ x3 s, x8_findBest_b186 X11 X41 X62 X78 X159 X186 Q x3 s → X186 x3 s) → X186 x3 s
theorem x8_findBest_i {Q : Int → Mem → Prop} {p1 : Int} {s : Mem} (h : x8_findBest_be (x8_findBest_L11 Q) (x8_findBest_L41 Q) (x8_findBest_L62 Q) (x8_findBest_L78 Q) (x8_findBest_L159 Q) (x8_findBest_L186 Q) Q p1 s) : x8_findBest p1 s Q := fun X11 X41 X62 X78 X159 X186 k11 k41 k62 k78 k159 k186 => x8_findBest_me (fun _ _ _ h => h X11 X41 X62 X78 X159 X186 k11 k41 k62 k78 k159 k186) (fun _ _ _ _ h => h X11 X41 X62 X78 X159 X186 k11 k41 k62 k78 k159 k186) (fun _ _ _ _ h => h X11 X41 X62 X78 X159 X186 k11 k41 k62 k78 k159 k186) (fun _ _ _ _ _ h => h X11 X41 X62 X78 X159 X186 k11 k41 k62 k78 k159 k186) (fun _ _ _ _ _ h => h X11 X41 X62 X78 X159 X186 k11 k41 k62 k78 k159 k186) (fun _ _ h => h X11 X41 X62 X78 X159 X186 k11 k41 k62 k78 k159 k186) (fun _ _ h => h) h
theorem x8_findBest_s11 {Q : Int → Mem → Prop} {x1 : Int} {x2 : Int} {s : Mem} (h : x8_findBest_b11 (x8_findBest_L11 Q) (x8_findBest_L41 Q) (x8_findBest_L62 Q) (x8_findBest_L78 Q) (x8_findBest_L159 Q) (x8_findBest_L186 Q) Q x1 x2 s) : x8_findBest_L11 Q x1 x2 s := fun X11 X41 X62 X78 X159 X186 k11 k41 k62 k78 k159 k186 => k11 _ _ _ (x8_findBest_m11 (fun _ _ _ h => h X11 X41 X62 X78 X159 X186 k11 k41 k62 k78 k159 k186) (fun _ _ _ _ h => h X11 X41 X62 X78 X159 X186 k11 k41 k62 k78 k159 k186) (fun _ _ _ _ h => h X11 X41 X62 X78 X159 X186 k11 k41 k62 k78 k159 k186) (fun _ _ _ _ _ h => h X11 X41 X62 X78 X159 X186 k11 k41 k62 k78 k159 k186) (fun _ _ _ _ _ h => h X11 X41 X62 X78 X159 X186 k11 k41 k62 k78 k159 k186) (fun _ _ h => h X11 X41 X62 X78 X159 X186 k11 k41 k62 k78 k159 k186) (fun _ _ h => h) h)
theorem x8_findBest_s41 {Q : Int → Mem → Prop} {x1 : Int} {x2 : Int} {x3 : Int} {s : Mem} (h : x8_findBest_b41 (x8_findBest_L11 Q) (x8_findBest_L41 Q) (x8_findBest_L62 Q) (x8_findBest_L78 Q) (x8_findBest_L159 Q) (x8_findBest_L186 Q) Q x1 x2 x3 s) : x8_findBest_L41 Q x1 x2 x3 s := fun X11 X41 X62 X78 X159 X186 k11 k41 k62 k78 k159 k186 => k41 _ _ _ _ (x8_findBest_m41 (fun _ _ _ h => h X11 X41 X62 X78 X159 X186 k11 k41 k62 k78 k159 k186) (fun _ _ _ _ h => h X11 X41 X62 X78 X159 X186 k11 k41 k62 k78 k159 k186) (fun _ _ _ _ h => h X11 X41 X62 X78 X159 X186 k11 k41 k62 k78 k159 k186) (fun _ _ _ _ _ h => h X11 X41 X62 X78 X159 X186 k11 k41 k62 k78 k159 k186) (fun _ _ _ _ _ h => h X11 X41 X62 X78 X159 X186 k11 k41 k62 k78 k159 k186) (fun _ _ h => h X11 X41 X62 X78 X159 X186 k11 k41 k62 k78 k159 k186) (fun _ _ h => h) h)
theorem x8_findBest_s62 {Q : Int → Mem → Prop} {x1 : Int} {x2 : Int} {x3 : Int} {s : Mem} (h : x8_findBest_b62 (x8_findBest_L11 Q) (x8_findBest_L41 Q) (x8_findBest_L62 Q) (x8_findBest_L78 Q) (x8_findBest_L159 Q) (x8_findBest_L186 Q) Q x1 x2 x3 s) : x8_findBest_L62 Q x1 x2 x3 s := fun X11 X41 X62 X78 X159 X186 k11 k41 k62 k78 k159 k186 => k62 _ _ _ _ (x8_findBest_m62 (fun _ _ _ h => h X11 X41 X62 X78 X159 X186 k11 k41 k62 k78 k159 k186) (fun _ _ _ _ h => h X11 X41 X62 X78 X159 X186 k11 k41 k62 k78 k159 k186) (fun _ _ _ _ h => h X11 X41 X62 X78 X159 X186 k11 k41 k62 k78 k159 k186) (fun _ _ _ _ _ h => h X11 X41 X62 X78 X159 X186 k11 k41 k62 k78 k159 k186) (fun _ _ _ _ _ h => h X11 X41 X62 X78 X159 X186 k11 k41 k62 k78 k159 k186) (fun _ _ h => h X11 X41 X62 X78 X159 X186 k11 k41 k62 k78 k159 k186) (fun _ _ h => h) h)
theorem x8_findBest_s78 {Q : Int → Mem → Prop} {x1 : Int} {x2 : Int} {x3 : Int} {x4 : Int} {s : Mem} (h : x8_findBest_b78 (x8_findBest_L11 Q) (x8_findBest_L41 Q) (x8_findBest_L62 Q) (x8_findBest_L78 Q) (x8_findBest_L159 Q) (x8_findBest_L186 Q) Q x1 x2 x3 x4 s) : x8_findBest_L78 Q x1 x2 x3 x4 s := fun X11 X41 X62 X78 X159 X186 k11 k41 k62 k78 k159 k186 => k78 _ _ _ _ _ (x8_findBest_m78 (fun _ _ _ h => h X11 X41 X62 X78 X159 X186 k11 k41 k62 k78 k159 k186) (fun _ _ _ _ h => h X11 X41 X62 X78 X159 X186 k11 k41 k62 k78 k159 k186) (fun _ _ _ _ h => h X11 X41 X62 X78 X159 X186 k11 k41 k62 k78 k159 k186) (fun _ _ _ _ _ h => h X11 X41 X62 X78 X159 X186 k11 k41 k62 k78 k159 k186) (fun _ _ _ _ _ h => h X11 X41 X62 X78 X159 X186 k11 k41 k62 k78 k159 k186) (fun _ _ h => h X11 X41 X62 X78 X159 X186 k11 k41 k62 k78 k159 k186) (fun _ _ h => h) h)
theorem x8_findBest_s159 {Q : Int → Mem → Prop} {x1 : Int} {x2 : Int} {x3 : Int} {x4 : Int} {s : Mem} (h : x8_findBest_b159 (x8_findBest_L11 Q) (x8_findBest_L41 Q) (x8_findBest_L62 Q) (x8_findBest_L78 Q) (x8_findBest_L159 Q) (x8_findBest_L186 Q) Q x1 x2 x3 x4 s) : x8_findBest_L159 Q x1 x2 x3 x4 s := fun X11 X41 X62 X78 X159 X186 k11 k41 k62 k78 k159 k186 => k159 _ _ _ _ _ (x8_findBest_m159 (fun _ _ _ h => h X11 X41 X62 X78 X159 X186 k11 k41 k62 k78 k159 k186) (fun _ _ _ _ h => h X11 X41 X62 X78 X159 X186 k11 k41 k62 k78 k159 k186) (fun _ _ _ _ h => h X11 X41 X62 X78 X159 X186 k11 k41 k62 k78 k159 k186) (fun _ _ _ _ _ h => h X11 X41 X62 X78 X159 X186 k11 k41 k62 k78 k159 k186) (fun _ _ _ _ _ h => h X11 X41 X62 X78 X159 X186 k11 k41 k62 k78 k159 k186) (fun _ _ h => h X11 X41 X62 X78 X159 X186 k11 k41 k62 k78 k159 k186) (fun _ _ h => h) h)
theorem x8_findBest_s186 {Q : Int → Mem → Prop} {x3 : Int} {s : Mem} (h : x8_findBest_b186 (x8_findBest_L11 Q) (x8_findBest_L41 Q) (x8_findBest_L62 Q) (x8_findBest_L78 Q) (x8_findBest_L159 Q) (x8_findBest_L186 Q) Q x3 s) : x8_findBest_L186 Q x3 s := fun X11 X41 X62 X78 X159 X186 k11 k41 k62 k78 k159 k186 => k186 _ _ (x8_findBest_m186 (fun _ _ _ h => h X11 X41 X62 X78 X159 X186 k11 k41 k62 k78 k159 k186) (fun _ _ _ _ h => h X11 X41 X62 X78 X159 X186 k11 k41 k62 k78 k159 k186) (fun _ _ _ _ h => h X11 X41 X62 X78 X159 X186 k11 k41 k62 k78 k159 k186) (fun _ _ _ _ _ h => h X11 X41 X62 X78 X159 X186 k11 k41 k62 k78 k159 k186) (fun _ _ _ _ _ h => h X11 X41 X62 X78 X159 X186 k11 k41 k62 k78 k159 k186) (fun _ _ h => h X11 X41 X62 X78 X159 X186 k11 k41 k62 k78 k159 k186) (fun _ _ h => h) h)
theorem x8_findBest_mono {Q R : Int → Mem → Prop} {p1 : Int} {s : Mem} (h : x8_findBest p1 s Q) (hQ : ∀ r s, Q r s → R r s) : x8_findBest p1 s R := fun X11 X41 X62 X78 X159 X186 k11 k41 k62 k78 k159 k186 => x8_findBest_me (fun _ _ _ h => h) (fun _ _ _ _ h => h) (fun _ _ _ _ h => h) (fun _ _ _ _ _ h => h) (fun _ _ _ _ _ h => h) (fun _ _ h => h) hQ (h X11 X41 X62 X78 X159 X186 (fun _ _ _ h => k11 _ _ _ (x8_findBest_m11 (fun _ _ _ h => h) (fun _ _ _ _ h => h) (fun _ _ _ _ h => h) (fun _ _ _ _ _ h => h) (fun _ _ _ _ _ h => h) (fun _ _ h => h) hQ h)) (fun _ _ _ _ h => k41 _ _ _ _ (x8_findBest_m41 (fun _ _ _ h => h) (fun _ _ _ _ h => h) (fun _ _ _ _ h => h) (fun _ _ _ _ _ h => h) (fun _ _ _ _ _ h => h) (fun _ _ h => h) hQ h)) (fun _ _ _ _ h => k62 _ _ _ _ (x8_findBest_m62 (fun _ _ _ h => h) (fun _ _ _ _ h => h) (fun _ _ _ _ h => h) (fun _ _ _ _ _ h => h) (fun _ _ _ _ _ h => h) (fun _ _ h => h) hQ h)) (fun _ _ _ _ _ h => k78 _ _ _ _ _ (x8_findBest_m78 (fun _ _ _ h => h) (fun _ _ _ _ h => h) (fun _ _ _ _ h => h) (fun _ _ _ _ _ h => h) (fun _ _ _ _ _ h => h) (fun _ _ h => h) hQ h)) (fun _ _ _ _ _ h => k159 _ _ _ _ _ (x8_findBest_m159 (fun _ _ _ h => h) (fun _ _ _ _ h => h) (fun _ _ _ _ h => h) (fun _ _ _ _ _ h => h) (fun _ _ _ _ _ h => h) (fun _ _ h => h) hQ h)) (fun _ _ h => k186 _ _ (x8_findBest_m186 (fun _ _ _ h => h) (fun _ _ _ _ h => h) (fun _ _ _ _ h => h) (fun _ _ _ _ _ h => h) (fun _ _ _ _ _ h => h) (fun _ _ h => h) hQ h)))
def x8_findBest_rm : Room := { frames := 7, cells := 0, slots := 0, locals := 167 }
theorem w_x8_findBest_203 : Cond.fieldLink RX8 203 "BoltRingModel" "bestRow" "I" ∈ wsX8_findBest := by decide +kernel
theorem w_x8_findBest_86 : Cond.fieldLink RX8 86 "BoltRingModel" "n" "I" ∈ wsX8_findBest := by decide +kernel
theorem w_x8_findBest_60 : Cond.fieldLink RX8 60 "BoltRingModel" "keptRow" "[I" ∈ wsX8_findBest := by decide +kernel
theorem w_x8_findBest_26 : Cond.fieldLink RX8 26 "BoltRingModel" "row" "[I" ∈ wsX8_findBest := by decide +kernel
theorem w_x8_findBest_206 : Cond.fieldLink RX8 206 "BoltRingModel" "bestPasses" "I" ∈ wsX8_findBest := by decide +kernel
theorem w_x8_findBest_188 : Cond.fieldLink RX8 188 "BoltRingModel" "drawnAll" "I" ∈ wsX8_findBest := by decide +kernel
theorem w_x8_findBest_209 : Cond.fieldLink RX8 209 "BoltRingModel" "bestDrawn" "I" ∈ wsX8_findBest := by decide +kernel
theorem w_x8_findBest_54 : Cond.fieldLink RX8 54 "BoltRingModel" "draft" "[I" ∈ wsX8_findBest := by decide +kernel
theorem in_x8_findBest_X8 : ∀ w ∈ wsX80, w ∈ wsX8_findBest := by decide +kernel
set_option maxHeartbeats 4000000 in
set_option maxRecDepth 100000 in
theorem x8_findBest_bd {κ : KT} {ad : Nat → Nat} {cA : Nat → ClassId} {D : va_G} {Q : State → Prop} {p1 : Int} {s : Mem} (C : CX κ (GB ad cA D) RX8 cX8_findBest 5 wsX8_findBest x8_findBest_rm none) (h : x8_findBest p1 s (RT κ (GB ad cA D) ocV Q)) : WM κ (GB ad cA D) 5 Q s 0 [(0, .ref (ad 0)), (1, vI p1)] [] := by
  obtain ⟨Z11, z11⟩ : ∃ Z : Int → Int → Mem → Prop, ∀ x1 x2 s, Z x1 x2 s ↔ WM κ (GB ad cA D) 5 Q s 11 [(0, .ref (ad 0)), (1, vI x1), (2, vI x2)] [] := ⟨fun x1 x2 s => WM κ (GB ad cA D) 5 Q s 11 [(0, .ref (ad 0)), (1, vI x1), (2, vI x2)] [], fun _ _ _ => Iff.rfl⟩
  obtain ⟨Z41, z41⟩ : ∃ Z : Int → Int → Int → Mem → Prop, ∀ x1 x2 x3 s, Z x1 x2 x3 s ↔ WM κ (GB ad cA D) 5 Q s 41 [(0, .ref (ad 0)), (1, vI x1), (2, vI x2), (3, vI x3)] [] := ⟨fun x1 x2 x3 s => WM κ (GB ad cA D) 5 Q s 41 [(0, .ref (ad 0)), (1, vI x1), (2, vI x2), (3, vI x3)] [], fun _ _ _ _ => Iff.rfl⟩
  obtain ⟨Z62, z62⟩ : ∃ Z : Int → Int → Int → Mem → Prop, ∀ x1 x2 x3 s, Z x1 x2 x3 s ↔ WM κ (GB ad cA D) 5 Q s 62 [(0, .ref (ad 0)), (1, vI x1), (2, vI x2), (3, vI x3)] [] := ⟨fun x1 x2 x3 s => WM κ (GB ad cA D) 5 Q s 62 [(0, .ref (ad 0)), (1, vI x1), (2, vI x2), (3, vI x3)] [], fun _ _ _ _ => Iff.rfl⟩
  obtain ⟨Z78, z78⟩ : ∃ Z : Int → Int → Int → Int → Mem → Prop, ∀ x1 x2 x3 x4 s, Z x1 x2 x3 x4 s ↔ WM κ (GB ad cA D) 5 Q s 78 [(0, .ref (ad 0)), (1, vI x1), (2, vI x2), (3, vI x3), (4, vI x4)] [] := ⟨fun x1 x2 x3 x4 s => WM κ (GB ad cA D) 5 Q s 78 [(0, .ref (ad 0)), (1, vI x1), (2, vI x2), (3, vI x3), (4, vI x4)] [], fun _ _ _ _ _ => Iff.rfl⟩
  obtain ⟨Z159, z159⟩ : ∃ Z : Int → Int → Int → Int → Mem → Prop, ∀ x1 x2 x3 x4 s, Z x1 x2 x3 x4 s ↔ WM κ (GB ad cA D) 5 Q s 159 [(0, .ref (ad 0)), (1, vI x1), (2, vI x2), (3, vI x3), (4, vI x4)] [] := ⟨fun x1 x2 x3 x4 s => WM κ (GB ad cA D) 5 Q s 159 [(0, .ref (ad 0)), (1, vI x1), (2, vI x2), (3, vI x3), (4, vI x4)] [], fun _ _ _ _ _ => Iff.rfl⟩
  obtain ⟨Z186, z186⟩ : ∃ Z : Int → Mem → Prop, ∀ x3 s, Z x3 s ↔ WM κ (GB ad cA D) 5 Q s 186 [(0, .ref (ad 0)), (3, vI x3)] [] := ⟨fun x3 s => WM κ (GB ad cA D) 5 Q s 186 [(0, .ref (ad 0)), (3, vI x3)] [], fun _ _ => Iff.rfl⟩
  refine (fun h => ?_) (h Z11 Z41 Z62 Z78 Z159 Z186 ?_ ?_ ?_ ?_ ?_ ?_)
  · refine r_aload_n C 0 dX8_findBest_0 rfl ?_
    refine r_iconst C dX8_findBest_1 ?_
    refine r_puti (j := 21) (jz := 21) C dX8_findBest_2 (shB_0) rfl rfl (by decide) in_x8_findBest_X8 tyX8 tyX8_ok nmX8 w_x8_findBest_203 rfl rfl (by decide +kernel) rfl (fun s1 e_s1 => ?_)
    have h := h s1 e_s1
    refine r_aload_n C 0 dX8_findBest_5 rfl ?_
    refine r_callV (As := []) (o := 0) (n := 0) C dX8_findBest_6 (x8_keep_ct κ.1.2.1 ad cA D s1) gX8_findBest_X8_keep rfl ⟨rfl, rfl⟩ (by decide +kernel) (by decide) (shB_0) rfl rfl rfl (Nat.le_of_ble_eq_true rfl) (fun _ => rfl) ?_
    refine x8_keep_mono h (fun _ s2 h => ?_)
    refine r_iconst C dX8_findBest_9 ?_
    refine r_istore_n (ls' := [(2, vI (0 : Int)), (0, .ref (ad 0)), (1, vI p1)]) C dX8_findBest_10 rfl (by decide) rfl ?_
    exact r_perm [1, 2, 0] rfl ((z11 _ _ _).1 h)
  · intro x1 x2 s h
    refine (z11 _ _ _).2 ?_
    refine r_iload_n C 2 dX8_findBest_11 rfl ?_
    refine r_aload_n C 0 dX8_findBest_12 rfl ?_
    refine r_get (j := 0) (jz := 0) (v := vI (s 0 (0 : Int))) C dX8_findBest_13 (shB_0) rfl rfl (by decide) in_x8_findBest_X8 w_x8_findBest_86 rfl rfl rfl ?_
    refine r_icmp_ge (tgt := 37) C dX8_findBest_16 (by decide) ⟨h.1, fun c4 => ?_, fun c4 => ?_⟩
    · have h := h.2.1 c4
      refine r_iconst C dX8_findBest_37 ?_
      refine r_istore_n (ls' := [(2, vI (1 : Int)), (0, .ref (ad 0)), (1, vI x1)]) C dX8_findBest_38 rfl (by decide) rfl ?_
      refine r_iconst C dX8_findBest_39 ?_
      refine r_istore_n (ls' := [(3, vI (0 : Int)), (2, vI (1 : Int)), (0, .ref (ad 0)), (1, vI x1)]) C dX8_findBest_40 rfl (by decide) rfl ?_
      exact r_perm [2, 3, 1, 0] rfl ((z41 _ _ _ _).1 h)
    · have h := h.2.2 c4
      refine r_aload_n C 0 dX8_findBest_19 rfl ?_
      refine r_get (j := 24) (jz := 24) (v := .ref (ad 17)) C dX8_findBest_20 (shB_0) rfl rfl (by decide) in_x8_findBest_X8 w_x8_findBest_60 rfl rfl rfl ?_
      refine r_iload_n C 2 dX8_findBest_23 rfl ?_
      refine r_aload_n C 0 dX8_findBest_24 rfl ?_
      refine r_get (j := 7) (jz := 7) (v := .ref (ad 6)) C dX8_findBest_25 (shB_0) rfl rfl (by decide) in_x8_findBest_X8 w_x8_findBest_26 rfl rfl rfl ?_
      refine r_iload_n C 2 dX8_findBest_28 rfl ?_
      refine r_iald (nz := 6) C dX8_findBest_29 (shB_6) rfl (by decide) ⟨h.1, ?_⟩
      have h := h.2
      refine r_iast (nz := 6) C dX8_findBest_30 (shB_17) rfl (by decide) ⟨h.1, fun s3 e_s3 => ?_⟩
      have h := h.2 s3 e_s3
      refine r_iinc (j := 2) (ls' := [(2, vI (x2 + (1 : Int))), (0, .ref (ad 0)), (1, vI x1)]) C dX8_findBest_31 rfl (by decide) rfl ?_
      refine r_goto (tgt := 11) C dX8_findBest_34 (by decide) ?_
      exact r_perm [1, 2, 0] rfl ((z11 _ _ _).1 h)
  · intro x1 x2 x3 s h
    refine (z41 _ _ _ _).2 ?_
    refine r_iload_n C 3 dX8_findBest_41 rfl ?_
    refine r_aload_n C 0 dX8_findBest_42 rfl ?_
    refine r_get (j := 0) (jz := 0) (v := vI (s 0 (0 : Int))) C dX8_findBest_43 (shB_0) rfl rfl (by decide) in_x8_findBest_X8 w_x8_findBest_86 rfl rfl rfl ?_
    refine r_icmp_ge (tgt := 60) C dX8_findBest_46 (by decide) ⟨h.1, fun c5 => ?_, fun c5 => ?_⟩
    · have h := h.2.1 c5
      refine r_iconst C dX8_findBest_60 ?_
      refine r_istore_n (ls' := [(3, vI (0 : Int)), (0, .ref (ad 0)), (1, vI x1), (2, vI x2)]) C dX8_findBest_61 rfl (by decide) rfl ?_
      exact r_perm [1, 2, 3, 0] rfl ((z62 _ _ _ _).1 h)
    · have h := h.2.2 c5
      refine r_iload_n C 2 dX8_findBest_49 rfl ?_
      refine r_bipush C dX8_findBest_50 (by decide) ?_
      refine r_imul C dX8_findBest_52 ?_
      refine r_istore_n (ls' := [(2, vI (x2 * (10 : Int))), (0, .ref (ad 0)), (1, vI x1), (3, vI x3)]) C dX8_findBest_53 rfl (by decide) rfl ?_
      refine r_iinc (j := 3) (ls' := [(3, vI (x3 + (1 : Int))), (2, vI (x2 * (10 : Int))), (0, .ref (ad 0)), (1, vI x1)]) C dX8_findBest_54 rfl (by decide) rfl ?_
      refine r_goto (tgt := 41) C dX8_findBest_57 (by decide) ?_
      exact r_perm [2, 3, 1, 0] rfl ((z41 _ _ _ _).1 h)
  · intro x1 x2 x3 s h
    refine (z62 _ _ _ _).2 ?_
    refine r_iload_n C 3 dX8_findBest_62 rfl ?_
    refine r_iload_n C 2 dX8_findBest_63 rfl ?_
    refine r_icmp_ge (tgt := 184) C dX8_findBest_64 (by decide) ⟨h.1, fun c9 => ?_, fun c9 => ?_⟩
    · have h := h.2.1 c9
      refine r_iconst C dX8_findBest_184 ?_
      refine r_istore_n (ls' := [(3, vI (0 : Int)), (0, .ref (ad 0)), (1, vI x1), (2, vI x2)]) C dX8_findBest_185 rfl (by decide) rfl ?_
      exact r_perm [1, 0] rfl ((z186 _ _).1 h)
    · have h := h.2.2 c9
      refine r_aload_n C 0 dX8_findBest_67 rfl ?_
      refine r_iload_n C 3 dX8_findBest_68 rfl ?_
      refine r_callV (As := [vI x3]) (o := 0) (n := 1) C dX8_findBest_69 (x8_isRow_ct κ.1.2.1 ad cA D x3 s) gX8_findBest_X8_isRow rfl ⟨rfl, rfl⟩ (by decide +kernel) (by decide) (shB_0) rfl rfl rfl (Nat.le_of_ble_eq_true rfl) (fun _ => rfl) ?_
      refine x8_isRow_mono h (fun r7 s6 h => ?_)
      refine r_if_eq (tgt := 178) C dX8_findBest_72 (by decide) ⟨h.1, fun c8 => ?_, fun c8 => ?_⟩
      · have h := h.2.1 c8
        refine r_iinc (j := 3) (ls' := [(3, vI (x3 + (1 : Int))), (0, .ref (ad 0)), (1, vI x1), (2, vI x2)]) C dX8_findBest_178 rfl (by decide) rfl ?_
        refine r_goto (tgt := 62) C dX8_findBest_181 (by decide) ?_
        exact r_perm [1, 2, 3, 0] rfl ((z62 _ _ _ _).1 h)
      · have h := h.2.2 c8
        refine r_iconst C dX8_findBest_75 ?_
        refine r_istore (ls' := [(4, vI (0 : Int)), (0, .ref (ad 0)), (1, vI x1), (2, vI x2), (3, vI x3)]) C dX8_findBest_76 (by decide) rfl ?_
        exact r_perm [1, 2, 3, 4, 0] rfl ((z78 _ _ _ _ _).1 h)
  · intro x1 x2 x3 x4 s h
    refine (z78 _ _ _ _ _).2 ?_
    refine r_iload C 4 dX8_findBest_78 rfl ?_
    refine r_aload_n C 0 dX8_findBest_80 rfl ?_
    refine r_get (j := 0) (jz := 0) (v := vI (s 0 (0 : Int))) C dX8_findBest_81 (shB_0) rfl rfl (by decide) in_x8_findBest_X8 w_x8_findBest_86 rfl rfl rfl ?_
    refine r_icmp_ge (tgt := 107) C dX8_findBest_84 (by decide) ⟨h.1, fun c19 => ?_, fun c19 => ?_⟩
    · have h := h.2.1 c19
      refine r_aload_n C 0 dX8_findBest_107 rfl ?_
      refine r_iload_n C 1 dX8_findBest_108 rfl ?_
      refine r_callV (As := [vI x1]) (o := 0) (n := 1) C dX8_findBest_109 (x8_passesOf_ct κ.1.2.1 ad cA D x1 s) gX8_findBest_X8_passesOf rfl ⟨rfl, rfl⟩ (by decide +kernel) (by decide) (shB_0) rfl rfl rfl (Nat.le_of_ble_eq_true rfl) (fun _ => rfl) ?_
      refine x8_passesOf_mono h (fun r11 s10 h => ?_)
      refine r_istore (ls' := [(4, vI r11), (0, .ref (ad 0)), (1, vI x1), (2, vI x2), (3, vI x3)]) C dX8_findBest_112 (by decide) rfl ?_
      refine r_aload_n C 1 dX8_findBest_114 rfl ?_
      refine r_callV (As := []) (o := 0) (n := 0) C dX8_findBest_115 (x8_back_ct κ.1.2.1 ad cA D s10) gX8_findBest_X8_back rfl ⟨rfl, rfl⟩ (by decide +kernel) (by decide) (shB_0) rfl rfl rfl (Nat.le_of_ble_eq_true rfl) (fun _ => rfl) ?_
      refine x8_back_mono h (fun _ s12 h => ?_)
      refine r_iload C 0 dX8_findBest_118 rfl ?_
      refine r_if_lt (tgt := 178) C dX8_findBest_120 (by decide) ⟨h.1, fun c17 => ?_, fun c17 => ?_⟩
      · have h := h.2.1 c17
        refine r_iinc (j := 4) (ls' := [(3, vI (x3 + (1 : Int))), (4, vI r11), (0, .ref (ad 0)), (1, vI x1), (2, vI x2)]) C dX8_findBest_178 rfl (by decide) rfl ?_
        refine r_goto (tgt := 62) C dX8_findBest_181 (by decide) ?_
        exact r_perm [2, 3, 4, 0] rfl ((z62 _ _ _ _).1 h)
      · have h := h.2.2 c17
        refine r_aload_n C 1 dX8_findBest_123 rfl ?_
        refine r_get (j := 21) (jz := 21) (v := vI (s12 0 (21 : Int))) C dX8_findBest_124 (shB_0) rfl rfl (by decide) in_x8_findBest_X8 w_x8_findBest_203 rfl rfl rfl ?_
        refine r_if_lt (tgt := 159) C dX8_findBest_127 (by decide) ⟨h.1, fun c16 => ?_, fun c16 => ?_⟩
        · have h := h.2.1 c16
          exact r_perm [1, 2, 3, 4, 0] rfl ((z159 _ _ _ _ _).1 h)
        · have h := h.2.2 c16
          refine r_iload C 0 dX8_findBest_130 rfl ?_
          refine r_aload_n C 1 dX8_findBest_132 rfl ?_
          refine r_get (j := 22) (jz := 22) (v := vI (s12 0 (22 : Int))) C dX8_findBest_133 (shB_0) rfl rfl (by decide) in_x8_findBest_X8 w_x8_findBest_206 rfl rfl rfl ?_
          refine r_icmp_lt (tgt := 159) C dX8_findBest_136 (by decide) ⟨h.1, fun c15 => ?_, fun c15 => ?_⟩
          · have h := h.2.1 c15
            exact r_perm [1, 2, 3, 4, 0] rfl ((z159 _ _ _ _ _).1 h)
          · have h := h.2.2 c15
            refine r_iload C 0 dX8_findBest_139 rfl ?_
            refine r_aload_n C 1 dX8_findBest_141 rfl ?_
            refine r_get (j := 22) (jz := 22) (v := vI (s12 0 (22 : Int))) C dX8_findBest_142 (shB_0) rfl rfl (by decide) in_x8_findBest_X8 w_x8_findBest_206 rfl rfl rfl ?_
            refine r_icmp_ne (tgt := 178) C dX8_findBest_145 (by decide) ⟨h.1, fun c14 => ?_, fun c14 => ?_⟩
            · have h := h.2.1 c14
              refine r_iinc (j := 4) (ls' := [(3, vI (x3 + (1 : Int))), (4, vI r11), (0, .ref (ad 0)), (1, vI x1), (2, vI x2)]) C dX8_findBest_178 rfl (by decide) rfl ?_
              refine r_goto (tgt := 62) C dX8_findBest_181 (by decide) ?_
              exact r_perm [2, 3, 4, 0] rfl ((z62 _ _ _ _).1 h)
            · have h := h.2.2 c14
              refine r_aload_n C 1 dX8_findBest_148 rfl ?_
              refine r_get (j := 19) (jz := 19) (v := vI (s12 0 (19 : Int))) C dX8_findBest_149 (shB_0) rfl rfl (by decide) in_x8_findBest_X8 w_x8_findBest_188 rfl rfl rfl ?_
              refine r_aload_n C 1 dX8_findBest_152 rfl ?_
              refine r_get (j := 23) (jz := 23) (v := vI (s12 0 (23 : Int))) C dX8_findBest_153 (shB_0) rfl rfl (by decide) in_x8_findBest_X8 w_x8_findBest_209 rfl rfl rfl ?_
              refine r_icmp_ge (tgt := 178) C dX8_findBest_156 (by decide) ⟨h.1, fun c13 => ?_, fun c13 => ?_⟩
              · have h := h.2.1 c13
                refine r_iinc (j := 4) (ls' := [(3, vI (x3 + (1 : Int))), (4, vI r11), (0, .ref (ad 0)), (1, vI x1), (2, vI x2)]) C dX8_findBest_178 rfl (by decide) rfl ?_
                refine r_goto (tgt := 62) C dX8_findBest_181 (by decide) ?_
                exact r_perm [2, 3, 4, 0] rfl ((z62 _ _ _ _).1 h)
              · have h := h.2.2 c13
                exact r_perm [1, 2, 3, 4, 0] rfl ((z159 _ _ _ _ _).1 h)
    · have h := h.2.2 c19
      refine r_aload_n C 0 dX8_findBest_87 rfl ?_
      refine r_get (j := 7) (jz := 7) (v := .ref (ad 6)) C dX8_findBest_88 (shB_0) rfl rfl (by decide) in_x8_findBest_X8 w_x8_findBest_26 rfl rfl rfl ?_
      refine r_iload C 4 dX8_findBest_91 rfl ?_
      refine r_aload_n C 0 dX8_findBest_93 rfl ?_
      refine r_get (j := 18) (jz := 18) (v := .ref (ad 15)) C dX8_findBest_94 (shB_0) rfl rfl (by decide) in_x8_findBest_X8 w_x8_findBest_54 rfl rfl rfl ?_
      refine r_iload C 4 dX8_findBest_97 rfl ?_
      refine r_iald (nz := 6) C dX8_findBest_99 (shB_15) rfl (by decide) ⟨h.1, ?_⟩
      have h := h.2
      refine r_iast (nz := 6) C dX8_findBest_100 (shB_6) rfl (by decide) ⟨h.1, fun s18 e_s18 => ?_⟩
      have h := h.2 s18 e_s18
      refine r_iinc (j := 4) (ls' := [(4, vI (x4 + (1 : Int))), (0, .ref (ad 0)), (1, vI x1), (2, vI x2), (3, vI x3)]) C dX8_findBest_101 rfl (by decide) rfl ?_
      refine r_goto (tgt := 78) C dX8_findBest_104 (by decide) ?_
      exact r_perm [1, 2, 3, 4, 0] rfl ((z78 _ _ _ _ _).1 h)
  · intro x1 x2 x3 x4 s h
    refine (z159 _ _ _ _ _).2 ?_
    refine r_aload_n C 0 dX8_findBest_159 rfl ?_
    refine r_iload_n C 3 dX8_findBest_160 rfl ?_
    refine r_puti (j := 21) (jz := 21) C dX8_findBest_161 (shB_0) rfl rfl (by decide) in_x8_findBest_X8 tyX8 tyX8_ok nmX8 w_x8_findBest_203 rfl rfl (by decide +kernel) rfl (fun s20 e_s20 => ?_)
    have h := h s20 e_s20
    refine r_aload_n C 0 dX8_findBest_164 rfl ?_
    refine r_iload C 4 dX8_findBest_165 rfl ?_
    refine r_puti (j := 22) (jz := 22) C dX8_findBest_167 (shB_0) rfl rfl (by decide) in_x8_findBest_X8 tyX8 tyX8_ok nmX8 w_x8_findBest_206 rfl rfl (by decide +kernel) rfl (fun s21 e_s21 => ?_)
    have h := h s21 e_s21
    refine r_aload_n C 0 dX8_findBest_170 rfl ?_
    refine r_aload_n C 0 dX8_findBest_171 rfl ?_
    refine r_get (j := 19) (jz := 19) (v := vI (s21 0 (19 : Int))) C dX8_findBest_172 (shB_0) rfl rfl (by decide) in_x8_findBest_X8 w_x8_findBest_188 rfl rfl rfl ?_
    refine r_puti (j := 23) (jz := 23) C dX8_findBest_175 (shB_0) rfl rfl (by decide) in_x8_findBest_X8 tyX8 tyX8_ok nmX8 w_x8_findBest_209 rfl rfl (by decide +kernel) rfl (fun s22 e_s22 => ?_)
    have h := h s22 e_s22
    refine r_iinc (j := 3) (ls' := [(3, vI (x3 + (1 : Int))), (0, .ref (ad 0)), (1, vI x1), (2, vI x2), (4, vI x4)]) C dX8_findBest_178 rfl (by decide) rfl ?_
    refine r_goto (tgt := 62) C dX8_findBest_181 (by decide) ?_
    exact r_perm [1, 2, 3, 0] rfl ((z62 _ _ _ _).1 h)
  · intro x3 s h
    refine (z186 _ _).2 ?_
    refine r_iload_n C 1 dX8_findBest_186 rfl ?_
    refine r_aload_n C 0 dX8_findBest_187 rfl ?_
    refine r_get (j := 0) (jz := 0) (v := vI (s 0 (0 : Int))) C dX8_findBest_188 (shB_0) rfl rfl (by decide) in_x8_findBest_X8 w_x8_findBest_86 rfl rfl rfl ?_
    refine r_icmp_ge (tgt := 212) C dX8_findBest_191 (by decide) ⟨h.1, fun c24 => ?_, fun c24 => ?_⟩
    · have h := h.2.1 c24
      exact r_return C dX8_findBest_212 h
    · have h := h.2.2 c24
      refine r_aload_n C 0 dX8_findBest_194 rfl ?_
      refine r_get (j := 7) (jz := 7) (v := .ref (ad 6)) C dX8_findBest_195 (shB_0) rfl rfl (by decide) in_x8_findBest_X8 w_x8_findBest_26 rfl rfl rfl ?_
      refine r_iload_n C 1 dX8_findBest_198 rfl ?_
      refine r_aload_n C 0 dX8_findBest_199 rfl ?_
      refine r_get (j := 24) (jz := 24) (v := .ref (ad 17)) C dX8_findBest_200 (shB_0) rfl rfl (by decide) in_x8_findBest_X8 w_x8_findBest_60 rfl rfl rfl ?_
      refine r_iload_n C 1 dX8_findBest_203 rfl ?_
      refine r_iald (nz := 6) C dX8_findBest_204 (shB_17) rfl (by decide) ⟨h.1, ?_⟩
      have h := h.2
      refine r_iast (nz := 6) C dX8_findBest_205 (shB_6) rfl (by decide) ⟨h.1, fun s23 e_s23 => ?_⟩
      have h := h.2 s23 e_s23
      refine r_iinc (j := 1) (ls' := [(3, vI (x3 + (1 : Int))), (0, .ref (ad 0))]) C dX8_findBest_206 rfl (by decide) rfl ?_
      refine r_goto (tgt := 186) C dX8_findBest_209 (by decide) ?_
      exact r_perm [1, 0] rfl ((z186 _ _).1 h)
theorem x8_findBest_ct (l : Launch) (ad : Nat → Nat) (cA : Nat → ClassId) (D : va_G) (p1 : Int) (s : Mem) : MG l yX8_findBest wsX8_findBest x8_findBest_rm ocV [.ref (ad 0), vI p1] (GB ad cA D) s (x8_findBest p1 s) :=
  m_met (own := RX8) (nL := 5) (by decide) rfl rfl (Nat.le_of_ble_eq_true rfl) rfl rfl rfl (fun κ hl C Q Pst hW hQ => x8_findBest_bd C (x8_findBest_mono hW hQ))
