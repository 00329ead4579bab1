def x3_fillSystem_be (X3 : Nat → Int → Int → Int → Mem → Prop) (X75 : Nat → Int → Int → Int → Int → Int → Mem → Prop) (X98 : Nat → Int → Int → Int → Int → Int → Mem → Prop) (Q : Int → Mem → Prop) (o : Nat) (p2 : Nat) (p3 : Int) (p4 : Int) (s : Mem) : Prop :=
  X3 p2 p3 p4 (0 : Int) s
def x3_fillSystem_b3 (o : Nat) (X3 : Nat → Int → Int → Int → Mem → Prop) (X75 : Nat → Int → Int → Int → Int → Int → Mem → Prop) (X98 : Nat → Int → Int → Int → Int → Int → Mem → Prop) (Q : Int → Mem → Prop) (x2 : Nat) (x3 : Int) (x4 : Int) (x5 : Int) (s : Mem) : Prop :=
  (InI x5 ∧ InI (s 1 (0 : Int))) ∧ ((s 1 (0 : Int)) ≤ x5 → Q (0 : Int) s) ∧ (x5 < (s 1 (0 : Int)) → (InI (s 1 (1 : Int))) ∧ (shA[x2]? = some (.inr (0, 6))) ∧ ((0 : Int) ≤ x5 ∧ x5 < 6) ∧ (InI (-(s x2 x5))) ∧ InI (andI (shrI x3 x5) (1 : Int)) ∧ ((andI (shrI x3 x5) (1 : Int)) = (0 : Int) → X75 x2 x3 x4 x5 ((2 : Int) * (s 1 (1 : Int))) (-(s x2 x5)) s) ∧ (¬ (andI (shrI x3 x5) (1 : Int)) = (0 : Int) → ((0 : Int) ≤ x5 ∧ x5 < 6) ∧ (InI (s 2 x5)) ∧ ∀ v1 : Int, v1 = (((2 : Int) * (s 1 (1 : Int))) + (s 2 x5)) → ((0 : Int) ≤ x5 ∧ x5 < 6) ∧ (InI (s 2 x5)) ∧ ((0 : Int) ≤ x5 ∧ x5 < 6) ∧ (InI (s 4 x5)) ∧ ∀ v2 : Int, v2 = ((-(s x2 x5)) + ((s 2 x5) * (s 4 x5))) → X75 x2 x3 x4 x5 v1 v2 s))
def x3_fillSystem_b75 (o : Nat) (X3 : Nat → Int → Int → Int → Mem → Prop) (X75 : Nat → Int → Int → Int → Int → Int → Mem → Prop) (X98 : Nat → Int → Int → Int → Int → Int → Mem → Prop) (Q : Int → Mem → Prop) (x2 : Nat) (x3 : Int) (x4 : Int) (x5 : Int) (x6 : Int) (x8 : Int) (s : Mem) : Prop :=
  InI (andI (shrI x4 x5) (1 : Int)) ∧ ((andI (shrI x4 x5) (1 : Int)) = (0 : Int) → X98 x2 x3 x4 x5 x6 x8 s) ∧ (¬ (andI (shrI x4 x5) (1 : Int)) = (0 : Int) → ((0 : Int) ≤ x5 ∧ x5 < 6) ∧ (InI (s 3 x5)) ∧ X98 x2 x3 x4 x5 (x6 + (s 3 x5)) x8 s)
def x3_fillSystem_b98 (o : Nat) (X3 : Nat → Int → Int → Int → Mem → Prop) (X75 : Nat → Int → Int → Int → Int → Int → Mem → Prop) (X98 : Nat → Int → Int → Int → Int → Int → Mem → Prop) (Q : Int → Mem → Prop) (x2 : Nat) (x3 : Int) (x4 : Int) (x5 : Int) (x6 : Int) (x8 : Int) (s : Mem) : Prop :=
  ((0 : Int) ≤ x5 ∧ x5 < 6) ∧ ∀ s6 : Mem, s6 = m_upd s (o + 2) x5 x6 → ((0 : Int) ≤ x5 ∧ x5 < 6) ∧ ∀ s7 : Mem, s7 = m_upd s6 (o + 3) x5 x8 → X3 x2 x3 x4 (x5 + (1 : Int)) s7
theorem x3_fillSystem_me {X3 Y3 : Nat → Int → Int → Int → Mem → Prop} {X75 Y75 : Nat → Int → Int → Int → Int → Int → Mem → Prop} {X98 Y98 : Nat → Int → Int → Int → Int → Int → Mem → Prop} {Q R : Int → Mem → Prop} (hX3 : ∀ x2 x3 x4 x5 s, X3 x2 x3 x4 x5 s → Y3 x2 x3 x4 x5 s) (hX75 : ∀ x2 x3 x4 x5 x6 x8 s, X75 x2 x3 x4 x5 x6 x8 s → Y75 x2 x3 x4 x5 x6 x8 s) (hX98 : ∀ x2 x3 x4 x5 x6 x8 s, X98 x2 x3 x4 x5 x6 x8 s → Y98 x2 x3 x4 x5 x6 x8 s) (hQ : ∀ r s, Q r s → R r s) {o : Nat} {p2 : Nat} {p3 : Int} {p4 : Int} {s : Mem} (h : x3_fillSystem_be X3 X75 X98 Q o p2 p3 p4 s) : x3_fillSystem_be Y3 Y75 Y98 R o p2 p3 p4 s :=
  hX3 _ _ _ _ _ h
theorem x3_fillSystem_m3 {o : Nat} {X3 Y3 : Nat → Int → Int → Int → Mem → Prop} {X75 Y75 : Nat → Int → Int → Int → Int → Int → Mem → Prop} {X98 Y98 : Nat → Int → Int → Int → Int → Int → Mem → Prop} {Q R : Int → Mem → Prop} (hX3 : ∀ x2 x3 x4 x5 s, X3 x2 x3 x4 x5 s → Y3 x2 x3 x4 x5 s) (hX75 : ∀ x2 x3 x4 x5 x6 x8 s, X75 x2 x3 x4 x5 x6 x8 s → Y75 x2 x3 x4 x5 x6 x8 s) (hX98 : ∀ x2 x3 x4 x5 x6 x8 s, X98 x2 x3 x4 x5 x6 x8 s → Y98 x2 x3 x4 x5 x6 x8 s) (hQ : ∀ r s, Q r s → R r s) {x2 : Nat} {x3 : Int} {x4 : Int} {x5 : Int} {s : Mem} (h : x3_fillSystem_b3 o X3 X75 X98 Q x2 x3 x4 x5 s) : x3_fillSystem_b3 o Y3 Y75 Y98 R x2 x3 x4 x5 s :=
  ⟨h.1, fun c => have h := h.2.1 c; hQ _ _ h, fun c => have h := h.2.2 c; ⟨h.1, have h := h.2; ⟨h.1, have h := h.2; ⟨h.1, have h := h.2; ⟨h.1, have h := h.2; ⟨h.1, fun c => have h := h.2.1 c; hX75 _ _ _ _ _ _ _ h, fun c => have h := h.2.2 c; ⟨h.1, have h := h.2; ⟨h.1, have h := h.2; fun v1 e_v1 => have h := h v1 e_v1; ⟨h.1, have h := h.2; ⟨h.1, have h := h.2; ⟨h.1, have h := h.2; ⟨h.1, have h := h.2; fun v2 e_v2 => have h := h v2 e_v2; hX75 _ _ _ _ _ _ _ h⟩⟩⟩⟩⟩⟩⟩⟩⟩⟩⟩⟩
theorem x3_fillSystem_m75 {o : Nat} {X3 Y3 : Nat → Int → Int → Int → Mem → Prop} {X75 Y75 : Nat → Int → Int → Int → Int → Int → Mem → Prop} {X98 Y98 : Nat → Int → Int → Int → Int → Int → Mem → Prop} {Q R : Int → Mem → Prop} (hX3 : ∀ x2 x3 x4 x5 s, X3 x2 x3 x4 x5 s → Y3 x2 x3 x4 x5 s) (hX75 : ∀ x2 x3 x4 x5 x6 x8 s, X75 x2 x3 x4 x5 x6 x8 s → Y75 x2 x3 x4 x5 x6 x8 s) (hX98 : ∀ x2 x3 x4 x5 x6 x8 s, X98 x2 x3 x4 x5 x6 x8 s → Y98 x2 x3 x4 x5 x6 x8 s) (hQ : ∀ r s, Q r s → R r s) {x2 : Nat} {x3 : Int} {x4 : Int} {x5 : Int} {x6 : Int} {x8 : Int} {s : Mem} (h : x3_fillSystem_b75 o X3 X75 X98 Q x2 x3 x4 x5 x6 x8 s) : x3_fillSystem_b75 o Y3 Y75 Y98 R x2 x3 x4 x5 x6 x8 s :=
  ⟨h.1, fun c => have h := h.2.1 c; hX98 _ _ _ _ _ _ _ h, fun c => have h := h.2.2 c; ⟨h.1, have h := h.2; ⟨h.1, have h := h.2; hX98 _ _ _ _ _ _ _ h⟩⟩⟩
theorem x3_fillSystem_m98 {o : Nat} {X3 Y3 : Nat → Int → Int → Int → Mem → Prop} {X75 Y75 : Nat → Int → Int → Int → Int → Int → Mem → Prop} {X98 Y98 : Nat → Int → Int → Int → Int → Int → Mem → Prop} {Q R : Int → Mem → Prop} (hX3 : ∀ x2 x3 x4 x5 s, X3 x2 x3 x4 x5 s → Y3 x2 x3 x4 x5 s) (hX75 : ∀ x2 x3 x4 x5 x6 x8 s, X75 x2 x3 x4 x5 x6 x8 s → Y75 x2 x3 x4 x5 x6 x8 s) (hX98 : ∀ x2 x3 x4 x5 x6 x8 s, X98 x2 x3 x4 x5 x6 x8 s → Y98 x2 x3 x4 x5 x6 x8 s) (hQ : ∀ r s, Q r s → R r s) {x2 : Nat} {x3 : Int} {x4 : Int} {x5 : Int} {x6 : Int} {x8 : Int} {s : Mem} (h : x3_fillSystem_b98 o X3 X75 X98 Q x2 x3 x4 x5 x6 x8 s) : x3_fillSystem_b98 o Y3 Y75 Y98 R x2 x3 x4 x5 x6 x8 s :=
  ⟨h.1, have h := h.2; fun s6 e_s6 => have h := h s6 e_s6; ⟨h.1, have h := h.2; fun s7 e_s7 => have h := h s7 e_s7; hX3 _ _ _ _ _ h⟩⟩
def x3_fillSystem (o : Nat) (p2 : Nat) (p3 : Int) (p4 : Int) (s : Mem) (Q : Int → Mem → Prop) : Prop := ∀ (X3 : Nat → Int → Int → Int → Mem → Prop) (X75 : Nat → Int → Int → Int → Int → Int → Mem → Prop) (X98 : Nat → Int → Int → Int → Int → Int → Mem → Prop), (∀ x2 x3 x4 x5 s, x3_fillSystem_b3 o X3 X75 X98 Q x2 x3 x4 x5 s → X3 x2 x3 x4 x5 s) → (∀ x2 x3 x4 x5 x6 x8 s, x3_fillSystem_b75 o X3 X75 X98 Q x2 x3 x4 x5 x6 x8 s → X75 x2 x3 x4 x5 x6 x8 s) → (∀ x2 x3 x4 x5 x6 x8 s, x3_fillSystem_b98 o X3 X75 X98 Q x2 x3 x4 x5 x6 x8 s → X98 x2 x3 x4 x5 x6 x8 s) → x3_fillSystem_be X3 X75 X98 Q o p2 p3 p4 s
def x3_fillSystem_L3 (o : Nat) (Q : Int → Mem → Prop) (x2 : Nat) (x3 : Int) (x4 : Int) (x5 : Int) (s : Mem) : Prop := ∀ (X3 : Nat → Int → Int → Int → Mem → Prop) (X75 : Nat → Int → Int → Int → Int → Int → Mem → Prop) (X98 : Nat → Int → Int → Int → Int → Int → Mem → Prop), (∀ x2 x3 x4 x5 s, x3_fillSystem_b3 o X3 X75 X98 Q x2 x3 x4 x5 s → X3 x2 x3 x4 x5 s) → (∀ x2 x3 x4 x5 x6 x8 s, x3_fillSystem_b75 o X3 X75 X98 Q x2 x3 x4 x5 x6 x8 s → X75 x2 x3 x4 x5 x6 x8 s) → (∀ x2 x3 x4 x5 x6 x8 s, x3_fillSystem_b98 o X3 X75 X98 Q x2 x3 x4 x5 x6 x8 s → X98 x2 x3 x4 x5 x6 x8 s) → X3 x2 x3 x4 x5 s
def x3_fillSystem_L75 (o : Nat) (Q : Int → Mem → Prop) (x2 : Nat) (x3 : Int) (x4 : Int) (x5 : Int) (x6 : Int) (x8 : Int) (s : Mem) : Prop := ∀ (X3 : Nat → Int → Int → Int → Mem → Prop) (X75 : Nat → Int → Int → Int → Int → Int → Mem → Prop) (X98 : Nat → Int → Int → Int → Int → Int → Mem → Prop), (∀ x2 x3 x4 x5 s, x3_fillSystem_b3 o X3 X75 X98 Q x2 x3 x4 x5 s → X3 x2 x3 x4 x5 s) → (∀ x2 x3 x4 x5 x6 x8 s, x3_fillSystem_b75 o X3 X75 X98 Q x2 x3 x4 x5 x6 x8 s → X75 x2 x3 x4 x5 x6 x8 s) → (∀ x2 x3 x4 x5 x6 x8 s, x3_fillSystem_b98 o X3 X75 X98 Q x2 x3 x4 x5 x6 x8 s → X98 x2 x3 x4 x5 x6 x8 s) → X75 x2 x3 x4 x5 x6 x8 s
def x3_fillSystem_L98 (o : Nat) (Q : Int → Mem → Prop) (x2 : Nat) (x3 : Int) (x4 : Int) (x5 : Int) (x6 : Int) (x8 : Int) (s : Mem) : Prop := ∀ (X3 : Nat → Int → Int → Int → Mem → Prop) (X75 : Nat → Int → Int → Int → Int → Int → Mem → Prop) (X98 : Nat → Int → Int → Int → Int → Int → Mem → Prop), (∀ x2 x3 x4 x5 s, x3_fillSystem_b3 o X3 X75 X98 Q x2 x3 x4 x5 s → X3 x2 x3 x4 x5 s) → (∀ x2 x3 x4 x5 x6 x8 s, x3_fillSystem_b75 o X3 X75 X98 Q x2 x3 x4 x5 x6 x8 s → X75 x2 x3 x4 x5 x6 x8 s) → (∀ x2 x3 x4 x5 x6 x8 s, x3_fillSystem_b98 o X3 X75 X98 Q x2 x3 x4 x5 x6 x8 s → X98 x2 x3 x4 x5 x6 x8 s) → X98 x2 x3 x4 x5 x6 x8 s
theorem x3_fillSystem_i {Q : Int → Mem → Prop} {o : Nat} {p2 : Nat} {p3 : Int} {p4 : Int} {s : Mem} (h : x3_fillSystem_be (x3_fillSystem_L3 o Q) (x3_fillSystem_L75 o Q) (x3_fillSystem_L98 o Q) Q o p2 p3 p4 s) : x3_fillSystem o p2 p3 p4 s Q := fun X3 X75 X98 k3 k75 k98 => x3_fillSystem_me (fun _ _ _ _ _ h => h X3 X75 X98 k3 k75 k98) (fun _ _ _ _ _ _ _ h => h X3 X75 X98 k3 k75 k98) (fun _ _ _ _ _ _ _ h => h X3 X75 X98 k3 k75 k98) (fun _ _ h => h) h
theorem x3_fillSystem_s3 {o : Nat} {Q : Int → Mem → Prop} {x2 : Nat} {x3 : Int} {x4 : Int} {x5 : Int} {s : Mem} (h : x3_fillSystem_b3 o (x3_fillSystem_L3 o Q) (x3_fillSystem_L75 o Q) (x3_fillSystem_L98 o Q) Q x2 x3 x4 x5 s) : x3_fillSystem_L3 o Q x2 x3 x4 x5 s := fun X3 X75 X98 k3 k75 k98 => k3 _ _ _ _ _ (x3_fillSystem_m3 (fun _ _ _ _ _ h => h X3 X75 X98 k3 k75 k98) (fun _ _ _ _ _ _ _ h => h X3 X75 X98 k3 k75 k98) (fun _ _ _ _ _ _ _ h => h X3 X75 X98 k3 k75 k98) (fun _ _ h => h) h)
theorem x3_fillSystem_s75 {o : Nat} {Q : Int → Mem → Prop} {x2 : Nat} {x3 : Int} {x4 : Int} {x5 : Int} {x6 : Int} {x8 : Int} {s : Mem} (h : x3_fillSystem_b75 o (x3_fillSystem_L3 o Q) (x3_fillSystem_L75 o Q) (x3_fillSystem_L98 o Q) Q x2 x3 x4 x5 x6 x8 s) : x3_fillSystem_L75 o Q x2 x3 x4 x5 x6 x8 s := fun X3 X75 X98 k3 k75 k98 => k75 _ _ _ _ _ _ _ (x3_fillSystem_m75 (fun _ _ _ _ _ h => h X3 X75 X98 k3 k75 k98) (fun _ _ _ _ _ _ _ h => h X3 X75 X98 k3 k75 k98) (fun _ _ _ _ _ _ _ h => h X3 X75 X98 k3 k75 k98) (fun _ _ h => h) h)
theorem x3_fillSystem_s98 {o : Nat} {Q : Int → Mem → Prop} {x2 : Nat} {x3 : Int} {x4 : Int} {x5 : Int} {x6 : Int} {x8 : Int} {s : Mem} (h : x3_fillSystem_b98 o (x3_fillSystem_L3 o Q) (x3_fillSystem_L75 o Q) (x3_fillSystem_L98 o Q) Q x2 x3 x4 x5 x6 x8 s) : x3_fillSystem_L98 o Q x2 x3 x4 x5 x6 x8 s := fun X3 X75 X98 k3 k75 k98 => k98 _ _ _ _ _ _ _ (x3_fillSystem_m98 (fun _ _ _ _ _ h => h X3 X75 X98 k3 k75 k98) (fun _ _ _ _ _ _ _ h => h X3 X75 X98 k3 k75 k98) (fun _ _ _ _ _ _ _ h => h X3 X75 X98 k3 k75 k98) (fun _ _ h => h) h)
theorem x3_fillSystem_mono {Q R : Int → Mem → Prop} {o : Nat} {p2 : Nat} {p3 : Int} {p4 : Int} {s : Mem} (h : x3_fillSystem o p2 p3 p4 s Q) (hQ : ∀ r s, Q r s → R r s) : x3_fillSystem o p2 p3 p4 s R := fun X3 X75 X98 k3 k75 k98 => x3_fillSystem_me (fun _ _ _ _ _ h => h) (fun _ _ _ _ _ _ _ h => h) (fun _ _ _ _ _ _ _ h => h) hQ (h X3 X75 X98 (fun _ _ _ _ _ h => k3 _ _ _ _ _ (x3_fillSystem_m3 (fun _ _ _ _ _ h => h) (fun _ _ _ _ _ _ _ h => h) (fun _ _ _ _ _ _ _ h => h) hQ h)) (fun _ _ _ _ _ _ _ h => k75 _ _ _ _ _ _ _ (x3_fillSystem_m75 (fun _ _ _ _ _ h => h) (fun _ _ _ _ _ _ _ h => h) (fun _ _ _ _ _ _ _ h => h) hQ h)) (fun _ _ _ _ _ _ _ h => k98 _ _ _ _ _ _ _ (x3_fillSystem_m98 (fun _ _ _ _ _ h => h) (fun _ _ _ _ _ _ _ h => h) (fun _ _ _ _ _ _ _ h => h) hQ h)))
def x3_fillSystem_rm : Room := { frames := 0, cells := 0, slots := 0, locals := 0 }
theorem w_x3_fillSystem_48 : Cond.fieldLink RX3 48 "BoltRing$Joint" "bolts" "I" ∈ wsX3_fillSystem := by decide +kernel
theorem w_x3_fillSystem_68 : Cond.constantLong RX3 68 (2) ∈ wsX3_fillSystem := by decide +kernel
theorem w_x3_fillSystem_51 : Cond.fieldLink RX3 51 "BoltRing$Joint" "rib" "I" ∈ wsX3_fillSystem := by decide +kernel
theorem w_x3_fillSystem_70 : Cond.fieldLink RX3 70 "BoltRing$Joint" "stiffness" "[I" ∈ wsX3_fillSystem := by decide +kernel
theorem w_x3_fillSystem_74 : Cond.fieldLink RX3 74 "BoltRing$Joint" "turns" "[I" ∈ wsX3_fillSystem := by decide +kernel
theorem w_x3_fillSystem_77 : Cond.fieldLink RX3 77 "BoltRing$Joint" "pads" "[I" ∈ wsX3_fillSystem := by decide +kernel
theorem w_x3_fillSystem_19 : Cond.fieldLink RX3 19 "BoltRing$Lifts" "diagonal" "[J" ∈ wsX3_fillSystem := by decide +kernel
theorem w_x3_fillSystem_22 : Cond.fieldLink RX3 22 "BoltRing$Lifts" "side" "[J" ∈ wsX3_fillSystem := by decide +kernel
theorem in_x3_fillSystem_X2 : ∀ w ∈ wsX20, w ∈ wsX3_fillSystem := by decide +kernel
theorem in_x3_fillSystem_X3 : ∀ w ∈ wsX30, w ∈ wsX3_fillSystem := by decide +kernel
set_option maxHeartbeats 4000000 in
set_option maxRecDepth 100000 in
theorem x3_fillSystem_bd {κ : KT} {ad : Nat → Nat} {cA : Nat → ClassId} {D : va_G} {Q : State → Prop} {o : Nat} {p2 : Nat} {p3 : Int} {p4 : Int} {s : Mem} (ho : LfA o) (C : CX κ (GA ad cA D) RX3 cX3_fillSystem 10 wsX3_fillSystem x3_fillSystem_rm none) (h : x3_fillSystem o p2 p3 p4 s (RT κ (GA ad cA D) ocV Q)) : WM κ (GA ad cA D) 10 Q s 0 [(0, .ref (ad o)), (1, .ref (ad 1)), (2, .ref (ad p2)), (3, vI p3), (4, vI p4)] [] := by
  obtain ⟨Z3, z3⟩ : ∃ Z : Nat → Int → Int → Int → Mem → Prop, ∀ x2 x3 x4 x5 s, Z x2 x3 x4 x5 s ↔ WM κ (GA ad cA D) 10 Q s 3 [(0, .ref (ad o)), (1, .ref (ad 1)), (2, .ref (ad x2)), (3, vI x3), (4, vI x4), (5, vI x5)] [] := ⟨fun x2 x3 x4 x5 s => WM κ (GA ad cA D) 10 Q s 3 [(0, .ref (ad o)), (1, .ref (ad 1)), (2, .ref (ad x2)), (3, vI x3), (4, vI x4), (5, vI x5)] [], fun _ _ _ _ _ => Iff.rfl⟩
  obtain ⟨Z75, z75⟩ : ∃ Z : Nat → Int → Int → Int → Int → Int → Mem → Prop, ∀ x2 x3 x4 x5 x6 x8 s, Z x2 x3 x4 x5 x6 x8 s ↔ WM κ (GA ad cA D) 10 Q s 75 [(0, .ref (ad o)), (1, .ref (ad 1)), (2, .ref (ad x2)), (3, vI x3), (4, vI x4), (5, vI x5), (6, vL x6), (8, vL x8)] [] := ⟨fun x2 x3 x4 x5 x6 x8 s => WM κ (GA ad cA D) 10 Q s 75 [(0, .ref (ad o)), (1, .ref (ad 1)), (2, .ref (ad x2)), (3, vI x3), (4, vI x4), (5, vI x5), (6, vL x6), (8, vL x8)] [], fun _ _ _ _ _ _ _ => Iff.rfl⟩
  obtain ⟨Z98, z98⟩ : ∃ Z : Nat → Int → Int → Int → Int → Int → Mem → Prop, ∀ x2 x3 x4 x5 x6 x8 s, Z x2 x3 x4 x5 x6 x8 s ↔ WM κ (GA ad cA D) 10 Q s 98 [(0, .ref (ad o)), (1, .ref (ad 1)), (2, .ref (ad x2)), (3, vI x3), (4, vI x4), (5, vI x5), (6, vL x6), (8, vL x8)] [] := ⟨fun x2 x3 x4 x5 x6 x8 s => WM κ (GA ad cA D) 10 Q s 98 [(0, .ref (ad o)), (1, .ref (ad 1)), (2, .ref (ad x2)), (3, vI x3), (4, vI x4), (5, vI x5), (6, vL x6), (8, vL x8)] [], fun _ _ _ _ _ _ _ => Iff.rfl⟩
  refine (fun h => ?_) (h Z3 Z75 Z98 ?_ ?_ ?_)
  · refine r_iconst C dX3_fillSystem_0 ?_
    refine r_istore (ls' := [(5, vI (0 : Int)), (0, .ref (ad o)), (1, .ref (ad 1)), (2, .ref (ad p2)), (3, vI p3), (4, vI p4)]) C dX3_fillSystem_1 (by decide) rfl ?_
    exact r_perm [1, 2, 3, 4, 5, 0] rfl ((z3 _ _ _ _ _).1 h)
  · intro x2 x3 x4 x5 s h
    refine (z3 _ _ _ _ _).2 ?_
    refine r_iload C 5 dX3_fillSystem_3 rfl ?_
    refine r_aload_n C 1 dX3_fillSystem_5 rfl ?_
    refine r_get (j := 0) (jz := 0) (v := vI (s 1 (0 : Int))) C dX3_fillSystem_6 (shA_1) rfl rfl (by decide) in_x3_fillSystem_X2 w_x3_fillSystem_48 rfl rfl rfl ?_
    refine r_icmp_ge (tgt := 122) C dX3_fillSystem_9 (by decide) ⟨h.1, fun c4 => ?_, fun c4 => ?_⟩
    · have h := h.2.1 c4
      exact r_return C dX3_fillSystem_122 h
    · have h := h.2.2 c4
      refine r_ldc2 (z := 2) C dX3_fillSystem_12 w_x3_fillSystem_68 rfl ?_
      refine r_aload_n C 1 dX3_fillSystem_15 rfl ?_
      refine r_get (j := 1) (jz := 1) (v := vI (s 1 (1 : Int))) C dX3_fillSystem_16 (shA_1) rfl rfl (by decide) in_x3_fillSystem_X2 w_x3_fillSystem_51 rfl rfl rfl ?_
      refine r_i2l C dX3_fillSystem_19 ⟨h.1, ?_⟩
      have h := h.2
      refine r_lmul C dX3_fillSystem_20 ?_
      refine r_lstore (ls' := [(6, vL ((2 : Int) * (s 1 (1 : Int)))), (0, .ref (ad o)), (1, .ref (ad 1)), (2, .ref (ad x2)), (3, vI x3), (4, vI x4), (5, vI x5)]) C dX3_fillSystem_21 (by decide) rfl ?_
      refine r_aload_n C 3 dX3_fillSystem_23 rfl ?_
      refine r_iload C 6 dX3_fillSystem_24 rfl ?_
      have hg := h.1
      have h := h.2
      refine r_iald (nz := 6) C dX3_fillSystem_26 (hg) rfl (by decide) ⟨h.1, ?_⟩
      have h := h.2
      refine r_ineg C dX3_fillSystem_27 ?_
      refine r_i2l C dX3_fillSystem_28 ⟨h.1, ?_⟩
      have h := h.2
      refine r_lstore (ls' := [(8, vL (-(s x2 x5))), (6, vL ((2 : Int) * (s 1 (1 : Int)))), (0, .ref (ad o)), (1, .ref (ad 1)), (2, .ref (ad x2)), (3, vI x3), (4, vI x4), (5, vI x5)]) C dX3_fillSystem_29 (by decide) rfl ?_
      refine r_iload_n C 5 dX3_fillSystem_31 rfl ?_
      refine r_iload C 7 dX3_fillSystem_32 rfl ?_
      refine r_ishr C dX3_fillSystem_34 ?_
      refine r_iconst C dX3_fillSystem_35 ?_
      refine r_iand C dX3_fillSystem_36 ?_
      refine r_if_eq (tgt := 75) C dX3_fillSystem_37 (by decide) ⟨h.1, fun c3 => ?_, fun c3 => ?_⟩
      · have h := h.2.1 c3
        exact r_perm [2, 3, 4, 5, 6, 7, 1, 0] rfl ((z75 _ _ _ _ _ _ _).1 h)
      · have h := h.2.2 c3
        refine r_lload C 1 dX3_fillSystem_40 rfl ?_
        refine r_aload_n C 3 dX3_fillSystem_42 rfl ?_
        refine r_get (j := 3) (jz := 3) (v := .ref (ad 2)) C dX3_fillSystem_43 (shA_1) rfl rfl (by decide) in_x3_fillSystem_X2 w_x3_fillSystem_70 rfl rfl rfl ?_
        refine r_iload C 7 dX3_fillSystem_46 rfl ?_
        refine r_iald (nz := 6) C dX3_fillSystem_48 (shA_2) rfl (by decide) ⟨h.1, ?_⟩
        have h := h.2
        refine r_i2l C dX3_fillSystem_49 ⟨h.1, ?_⟩
        have h := h.2
        refine r_ladd C dX3_fillSystem_50 ?_
        refine r_topL (fun v1 e_v1 => ?_)
        have h := h v1 e_v1
        refine r_lstore (ls' := [(6, vL v1), (8, vL (-(s x2 x5))), (0, .ref (ad o)), (1, .ref (ad 1)), (2, .ref (ad x2)), (3, vI x3), (4, vI x4), (5, vI x5)]) C dX3_fillSystem_51 (by decide) rfl ?_
        refine r_lload C 1 dX3_fillSystem_53 rfl ?_
        refine r_aload_n C 3 dX3_fillSystem_55 rfl ?_
        refine r_get (j := 3) (jz := 3) (v := .ref (ad 2)) C dX3_fillSystem_56 (shA_1) rfl rfl (by decide) in_x3_fillSystem_X2 w_x3_fillSystem_70 rfl rfl rfl ?_
        refine r_iload C 7 dX3_fillSystem_59 rfl ?_
        refine r_iald (nz := 6) C dX3_fillSystem_61 (shA_2) rfl (by decide) ⟨h.1, ?_⟩
        have h := h.2
        refine r_i2l C dX3_fillSystem_62 ⟨h.1, ?_⟩
        have h := h.2
        refine r_aload_n C 3 dX3_fillSystem_63 rfl ?_
        refine r_get (j := 5) (jz := 5) (v := .ref (ad 4)) C dX3_fillSystem_64 (shA_1) rfl rfl (by decide) in_x3_fillSystem_X2 w_x3_fillSystem_74 rfl rfl rfl ?_
        refine r_iload C 7 dX3_fillSystem_67 rfl ?_
        refine r_iald (nz := 6) C dX3_fillSystem_69 (shA_4) rfl (by decide) ⟨h.1, ?_⟩
        have h := h.2
        refine r_i2l C dX3_fillSystem_70 ⟨h.1, ?_⟩
        have h := h.2
        refine r_lmul C dX3_fillSystem_71 ?_
        refine r_ladd C dX3_fillSystem_72 ?_
        refine r_topL (fun v2 e_v2 => ?_)
        have h := h v2 e_v2
        refine r_lstore (ls' := [(8, vL v2), (6, vL v1), (0, .ref (ad o)), (1, .ref (ad 1)), (2, .ref (ad x2)), (3, vI x3), (4, vI x4), (5, vI x5)]) C dX3_fillSystem_73 (by decide) rfl ?_
        exact r_perm [2, 3, 4, 5, 6, 7, 1, 0] rfl ((z75 _ _ _ _ _ _ _).1 h)
  · intro x2 x3 x4 x5 x6 x8 s h
    refine (z75 _ _ _ _ _ _ _).2 ?_
    refine r_iload C 4 dX3_fillSystem_75 rfl ?_
    refine r_iload C 5 dX3_fillSystem_77 rfl ?_
    refine r_ishr C dX3_fillSystem_79 ?_
    refine r_iconst C dX3_fillSystem_80 ?_
    refine r_iand C dX3_fillSystem_81 ?_
    refine r_if_eq (tgt := 98) C dX3_fillSystem_82 (by decide) ⟨h.1, fun c5 => ?_, fun c5 => ?_⟩
    · have h := h.2.1 c5
      exact r_perm [0, 1, 2, 3, 4, 5, 6, 7] rfl ((z98 _ _ _ _ _ _ _).1 h)
    · have h := h.2.2 c5
      refine r_lload C 6 dX3_fillSystem_85 rfl ?_
      refine r_aload_n C 1 dX3_fillSystem_87 rfl ?_
      refine r_get (j := 4) (jz := 4) (v := .ref (ad 3)) C dX3_fillSystem_88 (shA_1) rfl rfl (by decide) in_x3_fillSystem_X2 w_x3_fillSystem_77 rfl rfl rfl ?_
      refine r_iload C 5 dX3_fillSystem_91 rfl ?_
      refine r_iald (nz := 6) C dX3_fillSystem_93 (shA_3) rfl (by decide) ⟨h.1, ?_⟩
      have h := h.2
      refine r_i2l C dX3_fillSystem_94 ⟨h.1, ?_⟩
      have h := h.2
      refine r_ladd C dX3_fillSystem_95 ?_
      refine r_lstore (ls' := [(6, vL (x6 + (s 3 x5))), (0, .ref (ad o)), (1, .ref (ad 1)), (2, .ref (ad x2)), (3, vI x3), (4, vI x4), (5, vI x5), (8, vL x8)]) C dX3_fillSystem_96 (by decide) rfl ?_
      exact r_perm [1, 2, 3, 4, 5, 6, 0, 7] rfl ((z98 _ _ _ _ _ _ _).1 h)
  · intro x2 x3 x4 x5 x6 x8 s h
    refine (z98 _ _ _ _ _ _ _).2 ?_
    refine r_aload_n C 0 dX3_fillSystem_98 rfl ?_
    refine r_get (j := 2) (jz := 2) (v := .ref (ad (o + 2))) C dX3_fillSystem_99 (lf_0 ho) rfl rfl (by decide) in_x3_fillSystem_X3 w_x3_fillSystem_19 rfl rfl rfl ?_
    refine r_iload C 5 dX3_fillSystem_102 rfl ?_
    refine r_lload C 6 dX3_fillSystem_104 rfl ?_
    refine r_last (nz := 6) C dX3_fillSystem_106 (lf_2 ho) rfl (by decide) ⟨h.1, fun s6 e_s6 => ?_⟩
    have h := h.2 s6 e_s6
    refine r_aload_n C 0 dX3_fillSystem_107 rfl ?_
    refine r_get (j := 3) (jz := 3) (v := .ref (ad (o + 3))) C dX3_fillSystem_108 (lf_0 ho) rfl rfl (by decide) in_x3_fillSystem_X3 w_x3_fillSystem_22 rfl rfl rfl ?_
    refine r_iload C 5 dX3_fillSystem_111 rfl ?_
    refine r_lload C 7 dX3_fillSystem_113 rfl ?_
    refine r_last (nz := 6) C dX3_fillSystem_115 (lf_3 ho) rfl (by decide) ⟨h.1, fun s7 e_s7 => ?_⟩
    have h := h.2 s7 e_s7
    refine r_iinc (j := 5) (ls' := [(5, vI (x5 + (1 : Int))), (0, .ref (ad o)), (1, .ref (ad 1)), (2, .ref (ad x2)), (3, vI x3), (4, vI x4), (6, vL x6), (8, vL x8)]) C dX3_fillSystem_116 rfl (by decide) rfl ?_
    refine r_goto (tgt := 3) C dX3_fillSystem_119 (by decide) ?_
    exact r_perm [1, 2, 3, 4, 5, 0] rfl ((z3 _ _ _ _ _).1 h)
theorem x3_fillSystem_ct (l : Launch) (ad : Nat → Nat) (cA : Nat → ClassId) (D : va_G) (o : Nat) (p2 : Nat) (p3 : Int) (p4 : Int) (s : Mem) (ho : LfA o) : MG l yX3_fillSystem wsX3_fillSystem x3_fillSystem_rm ocV [.ref (ad o), .ref (ad 1), .ref (ad p2), vI p3, vI p4] (GA ad cA D) s (x3_fillSystem o p2 p3 p4 s) :=
  m_met (own := RX3) (nL := 10) (by decide) rfl rfl (Nat.le_of_ble_eq_true rfl) rfl rfl rfl (fun κ hl C Q Pst hW hQ => x3_fillSystem_bd ho C (x3_fillSystem_mono hW hQ))

def x3_fillArcs_be (X9 : Int → Int → Int → Int → Mem → Prop) (X53 : Int → Int → Int → Int → Int → Int → Int → Mem → Prop) (X75 : Int → Int → Int → Int → Int → Int → Int → Mem → Prop) (X144 : Int → Int → Int → Mem → Prop) (Q : Int → Mem → Prop) (o : Nat) (p1 : Int) (p2 : Int) (s : Mem) : Prop :=
  (InI p2) ∧ (InI p2) ∧ X9 p1 p2 (p2 * p2) (0 : Int) s
def x3_fillArcs_b9 (o : Nat) (X9 : Int → Int → Int → Int → Mem → Prop) (X53 : Int → Int → Int → Int → Int → Int → Int → Mem → Prop) (X75 : Int → Int → Int → Int → Int → Int → Int → Mem → Prop) (X144 : Int → Int → Int → Mem → Prop) (Q : Int → Mem → Prop) (x1 : Int) (x2 : Int) (x3 : Int) (x5 : Int) (s : Mem) : Prop :=
  (InI x5 ∧ InI x1) ∧ (x1 ≤ x5 → ((0 : Int) ≤ (0 : Int) ∧ (0 : Int) < 7) ∧ ∀ s1 : Mem, s1 = m_upd s (o + 4) (0 : Int) (1 : Int) → X144 x1 x2 (1 : Int) s1) ∧ (x5 < x1 → ((0 : Int) ≤ ((6 : Int) * x5) ∧ ((6 : Int) * x5) < 36) ∧ ∀ s2 : Mem, s2 = m_upd s (o + 5) ((6 : Int) * x5) (1 : Int) → ((0 : Int) ≤ x5 ∧ x5 < 6) ∧ ((0 : Int) ≤ (((6 : Int) * x5) + (1 : Int)) ∧ (((6 : Int) * x5) + (1 : Int)) < 36) ∧ ∀ s3 : Mem, s3 = m_upd s2 (o + 5) (((6 : Int) * x5) + (1 : Int)) (s2 (o + 2) x5) → X53 x1 x2 x3 x5 ((6 : Int) * x5) x5 (2 : Int) s3)
def x3_fillArcs_b53 (o : Nat) (X9 : Int → Int → Int → Int → Mem → Prop) (X53 : Int → Int → Int → Int → Int → Int → Int → Mem → Prop) (X75 : Int → Int → Int → Int → Int → Int → Int → Mem → Prop) (X144 : Int → Int → Int → Mem → Prop) (Q : Int → Mem → Prop) (x1 : Int) (x2 : Int) (x3 : Int) (x5 : Int) (x6 : Int) (x7 : Int) (x8 : Int) (s : Mem) : Prop :=
  (InI x8 ∧ InI x1) ∧ (x1 ≤ x8 → X9 x1 x2 x3 (x5 + (1 : Int)) s) ∧ (x8 < x1 → (InI (x7 + (1 : Int)) ∧ InI x1) ∧ (x1 ≤ (x7 + (1 : Int)) → X75 x1 x2 x3 x5 x6 x8 (0 : Int) s) ∧ ((x7 + (1 : Int)) < x1 → X75 x1 x2 x3 x5 x6 x8 (x7 + (1 : Int)) s))
def x3_fillArcs_b75 (o : Nat) (X9 : Int → Int → Int → Int → Mem → Prop) (X53 : Int → Int → Int → Int → Int → Int → Int → Mem → Prop) (X75 : Int → Int → Int → Int → Int → Int → Int → Mem → Prop) (X144 : Int → Int → Int → Mem → Prop) (Q : Int → Mem → Prop) (x1 : Int) (x2 : Int) (x3 : Int) (x5 : Int) (x6 : Int) (x8 : Int) (t0 : Int) (s : Mem) : Prop :=
  ((0 : Int) ≤ t0 ∧ t0 < 6) ∧ ((0 : Int) ≤ ((x6 + x8) - (1 : Int)) ∧ ((x6 + x8) - (1 : Int)) < 36) ∧ ((0 : Int) ≤ ((x6 + x8) - (2 : Int)) ∧ ((x6 + x8) - (2 : Int)) < 36) ∧ ((0 : Int) ≤ (x6 + x8) ∧ (x6 + x8) < 36) ∧ ∀ s7 : Mem, s7 = m_upd s (o + 5) (x6 + x8) (((s (o + 2) t0) * (s (o + 5) ((x6 + x8) - (1 : Int)))) - (x3 * (s (o + 5) ((x6 + x8) - (2 : Int))))) → X53 x1 x2 x3 x5 x6 t0 (x8 + (1 : Int)) s7
def x3_fillArcs_b144 (o : Nat) (X9 : Int → Int → Int → Int → Mem → Prop) (X53 : Int → Int → Int → Int → Int → Int → Int → Mem → Prop) (X75 : Int → Int → Int → Int → Int → Int → Int → Mem → Prop) (X144 : Int → Int → Int → Mem → Prop) (Q : Int → Mem → Prop) (x1 : Int) (x2 : Int) (x5 : Int) (s : Mem) : Prop :=
  (InI x5 ∧ InI x1) ∧ (x1 < x5 → Q (0 : Int) s) ∧ (x5 ≤ x1 → ((0 : Int) ≤ (x5 - (1 : Int)) ∧ (x5 - (1 : Int)) < 7) ∧ (InI x2) ∧ ((0 : Int) ≤ x5 ∧ x5 < 7) ∧ ∀ s8 : Mem, s8 = m_upd s (o + 4) x5 ((s (o + 4) (x5 - (1 : Int))) * x2) → X144 x1 x2 (x5 + (1 : Int)) s8)
theorem x3_fillArcs_me {X9 Y9 : Int → Int → Int → Int → Mem → Prop} {X53 Y53 : Int → Int → Int → Int → Int → Int → Int → Mem → Prop} {X75 Y75 : Int → Int → Int → Int → Int → Int → Int → Mem → Prop} {X144 Y144 : Int → Int → Int → Mem → Prop} {Q R : Int → Mem → Prop} (hX9 : ∀ x1 x2 x3 x5 s, X9 x1 x2 x3 x5 s → Y9 x1 x2 x3 x5 s) (hX53 : ∀ x1 x2 x3 x5 x6 x7 x8 s, X53 x1 x2 x3 x5 x6 x7 x8 s → Y53 x1 x2 x3 x5 x6 x7 x8 s) (hX75 : ∀ x1 x2 x3 x5 x6 x8 t0 s, X75 x1 x2 x3 x5 x6 x8 t0 s → Y75 x1 x2 x3 x5 x6 x8 t0 s) (hX144 : ∀ x1 x2 x5 s, X144 x1 x2 x5 s → Y144 x1 x2 x5 s) (hQ : ∀ r s, Q r s → R r s) {o : Nat} {p1 : Int} {p2 : Int} {s : Mem} (h : x3_fillArcs_be X9 X53 X75 X144 Q o p1 p2 s) : x3_fillArcs_be Y9 Y53 Y75 Y144 R o p1 p2 s :=
  ⟨h.1, have h := h.2; ⟨h.1, have h := h.2; hX9 _ _ _ _ _ h⟩⟩
theorem x3_fillArcs_m9 {o : Nat} {X9 Y9 : Int → Int → Int → Int → Mem → Prop} {X53 Y53 : Int → Int → Int → Int → Int → Int → Int → Mem → Prop} {X75 Y75 : Int → Int → Int → Int → Int → Int → Int → Mem → Prop} {X144 Y144 : Int → Int → Int → Mem → Prop} {Q R : Int → Mem → Prop} (hX9 : ∀ x1 x2 x3 x5 s, X9 x1 x2 x3 x5 s → Y9 x1 x2 x3 x5 s) (hX53 : ∀ x1 x2 x3 x5 x6 x7 x8 s, X53 x1 x2 x3 x5 x6 x7 x8 s → Y53 x1 x2 x3 x5 x6 x7 x8 s) (hX75 : ∀ x1 x2 x3 x5 x6 x8 t0 s, X75 x1 x2 x3 x5 x6 x8 t0 s → Y75 x1 x2 x3 x5 x6 x8 t0 s) (hX144 : ∀ x1 x2 x5 s, X144 x1 x2 x5 s → Y144 x1 x2 x5 s) (hQ : ∀ r s, Q r s → R r s) {x1 : Int} {x2 : Int} {x3 : Int} {x5 : Int} {s : Mem} (h : x3_fillArcs_b9 o X9 X53 X75 X144 Q x1 x2 x3 x5 s) : x3_fillArcs_b9 o Y9 Y53 Y75 Y144 R x1 x2 x3 x5 s :=
  ⟨h.1, fun c => have h := h.2.1 c; ⟨h.1, have h := h.2; fun s1 e_s1 => have h := h s1 e_s1; hX144 _ _ _ _ h⟩, fun c => have h := h.2.2 c; ⟨h.1, have h := h.2; fun s2 e_s2 => have h := h s2 e_s2; ⟨h.1, have h := h.2; ⟨h.1, have h := h.2; fun s3 e_s3 => have h := h s3 e_s3; hX53 _ _ _ _ _ _ _ _ h⟩⟩⟩⟩
theorem x3_fillArcs_m53 {o : Nat} {X9 Y9 : Int → Int → Int → Int → Mem → Prop} {X53 Y53 : Int → Int → Int → Int → Int → Int → Int → Mem → Prop} {X75 Y75 : Int → Int → Int → Int → Int → Int → Int → Mem → Prop} {X144 Y144 : Int → Int → Int → Mem → Prop} {Q R : Int → Mem → Prop} (hX9 : ∀ x1 x2 x3 x5 s, X9 x1 x2 x3 x5 s → Y9 x1 x2 x3 x5 s) (hX53 : ∀ x1 x2 x3 x5 x6 x7 x8 s, X53 x1 x2 x3 x5 x6 x7 x8 s → Y53 x1 x2 x3 x5 x6 x7 x8 s) (hX75 : ∀ x1 x2 x3 x5 x6 x8 t0 s, X75 x1 x2 x3 x5 x6 x8 t0 s → Y75 x1 x2 x3 x5 x6 x8 t0 s) (hX144 : ∀ x1 x2 x5 s, X144 x1 x2 x5 s → Y144 x1 x2 x5 s) (hQ : ∀ r s, Q r s → R r s) {x1 : Int} {x2 : Int} {x3 : Int} {x5 : Int} {x6 : Int} {x7 : Int} {x8 : Int} {s : Mem} (h : x3_fillArcs_b53 o X9 X53 X75 X144 Q x1 x2 x3 x5 x6 x7 x8 s) : x3_fillArcs_b53 o Y9 Y53 Y75 Y144 R x1 x2 x3 x5 x6 x7 x8 s :=
  ⟨h.1, fun c => have h := h.2.1 c; hX9 _ _ _ _ _ h, fun c => have h := h.2.2 c; ⟨h.1, fun c => have h := h.2.1 c; hX75 _ _ _ _ _ _ _ _ h, fun c => have h := h.2.2 c; hX75 _ _ _ _ _ _ _ _ h⟩⟩
theorem x3_fillArcs_m75 {o : Nat} {X9 Y9 : Int → Int → Int → Int → Mem → Prop} {X53 Y53 : Int → Int → Int → Int → Int → Int → Int → Mem → Prop} {X75 Y75 : Int → Int → Int → Int → Int → Int → Int → Mem → Prop} {X144 Y144 : Int → Int → Int → Mem → Prop} {Q R : Int → Mem → Prop} (hX9 : ∀ x1 x2 x3 x5 s, X9 x1 x2 x3 x5 s → Y9 x1 x2 x3 x5 s) (hX53 : ∀ x1 x2 x3 x5 x6 x7 x8 s, X53 x1 x2 x3 x5 x6 x7 x8 s → Y53 x1 x2 x3 x5 x6 x7 x8 s) (hX75 : ∀ x1 x2 x3 x5 x6 x8 t0 s, X75 x1 x2 x3 x5 x6 x8 t0 s → Y75 x1 x2 x3 x5 x6 x8 t0 s) (hX144 : ∀ x1 x2 x5 s, X144 x1 x2 x5 s → Y144 x1 x2 x5 s) (hQ : ∀ r s, Q r s → R r s) {x1 : Int} {x2 : Int} {x3 : Int} {x5 : Int} {x6 : Int} {x8 : Int} {t0 : Int} {s : Mem} (h : x3_fillArcs_b75 o X9 X53 X75 X144 Q x1 x2 x3 x5 x6 x8 t0 s) : x3_fillArcs_b75 o Y9 Y53 Y75 Y144 R x1 x2 x3 x5 x6 x8 t0 s :=
  ⟨h.1, have h := h.2; ⟨h.1, have h := h.2; ⟨h.1, have h := h.2; ⟨h.1, have h := h.2; fun s7 e_s7 => have h := h s7 e_s7; hX53 _ _ _ _ _ _ _ _ h⟩⟩⟩⟩
theorem x3_fillArcs_m144 {o : Nat} {X9 Y9 : Int → Int → Int → Int → Mem → Prop} {X53 Y53 : Int → Int → Int → Int → Int → Int → Int → Mem → Prop} {X75 Y75 : Int → Int → Int → Int → Int → Int → Int → Mem → Prop} {X144 Y144 : Int → Int → Int → Mem → Prop} {Q R : Int → Mem → Prop} (hX9 : ∀ x1 x2 x3 x5 s, X9 x1 x2 x3 x5 s → Y9 x1 x2 x3 x5 s) (hX53 : ∀ x1 x2 x3 x5 x6 x7 x8 s, X53 x1 x2 x3 x5 x6 x7 x8 s → Y53 x1 x2 x3 x5 x6 x7 x8 s) (hX75 : ∀ x1 x2 x3 x5 x6 x8 t0 s, X75 x1 x2 x3 x5 x6 x8 t0 s → Y75 x1 x2 x3 x5 x6 x8 t0 s) (hX144 : ∀ x1 x2 x5 s, X144 x1 x2 x5 s → Y144 x1 x2 x5 s) (hQ : ∀ r s, Q r s → R r s) {x1 : Int} {x2 : Int} {x5 : Int} {s : Mem} (h : x3_fillArcs_b144 o X9 X53 X75 X144 Q x1 x2 x5 s) : x3_fillArcs_b144 o Y9 Y53 Y75 Y144 R x1 x2 x5 s :=
  ⟨h.1, fun c => have h := h.2.1 c; hQ _ _ h, fun c => have h := h.2.2 c; ⟨h.1, have h := h.2; ⟨h.1, have h := h.2; ⟨h.1, have h := h.2; fun s8 e_s8 => have h := h s8 e_s8; hX144 _ _ _ _ h⟩⟩⟩⟩
def x3_fillArcs (o : Nat) (p1 : Int) (p2 : Int) (s : Mem) (Q : Int → Mem → Prop) : Prop := ∀ (X9 : Int → Int → Int → Int → Mem → Prop) (X53 : Int → Int → Int → Int → Int → Int → Int → Mem → Prop) (X75 : Int → Int → Int → Int → Int → Int → Int → Mem → Prop) (X144 : Int → Int → Int → Mem → Prop), (∀ x1 x2 x3 x5 s, x3_fillArcs_b9 o X9 X53 X75 X144 Q x1 x2 x3 x5 s → X9 x1 x2 x3 x5 s) → (∀ x1 x2 x3 x5 x6 x7 x8 s, x3_fillArcs_b53 o X9 X53 X75 X144 Q x1 x2 x3 x5 x6 x7 x8 s → X53 x1 x2 x3 x5 x6 x7 x8 s) → (∀ x1 x2 x3 x5 x6 x8 t0 s, x3_fillArcs_b75 o X9 X53 X75 X144 Q x1 x2 x3 x5 x6 x8 t0 s → X75 x1 x2 x3 x5 x6 x8 t0 s) → (∀ x1 x2 x5 s, x3_fillArcs_b144 o X9 X53 X75 X144 Q x1 x2 x5 s → X144 x1 x2 x5 s) → x3_fillArcs_be X9 X53 X75 X144 Q o p1 p2 s
def x3_fillArcs_L9 (o : Nat) (Q : Int → Mem → Prop) (x1 : Int) (x2 : Int) (x3 : Int) (x5 : Int) (s : Mem) : Prop := ∀ (X9 : Int → Int → Int → Int → Mem → Prop) (X53 : Int → Int → Int → Int → Int → Int → Int → Mem → Prop) (X75 : Int → Int → Int → Int → Int → Int → Int → Mem → Prop) (X144 : Int → Int → Int → Mem → Prop), (∀ x1 x2 x3 x5 s, x3_fillArcs_b9 o X9 X53 X75 X144 Q x1 x2 x3 x5 s → X9 x1 x2 x3 x5 s) → (∀ x1 x2 x3 x5 x6 x7 x8 s, x3_fillArcs_b53 o X9 X53 X75 X144 Q x1 x2 x3 x5 x6 x7 x8 s → X53 x1 x2 x3 x5 x6 x7 x8 s) → (∀ x1 x2 x3 x5 x6 x8 t0 s, x3_fillArcs_b75 o X9 X53 X75 X144 Q x1 x2 x3 x5 x6 x8 t0 s → X75 x1 x2 x3 x5 x6 x8 t0 s) → (∀ x1 x2 x5 s, x3_fillArcs_b144 o X9 X53 X75 X144 Q x1 x2 x5 s → X144 x1 x2 x5 s) → X9 x1 x2 x3 x5 s
def x3_fillArcs_L53 (o : Nat) (Q : Int → Mem → Prop) (x1 : Int) (x2 : Int) (x3 : Int) (x5 : Int) (x6 : Int) (x7 : Int) (x8 : Int) (s : Mem) : Prop := ∀ (X9 : Int → Int → Int → Int → Mem → Prop) (X53 : Int → Int → Int → Int → Int → Int → Int → Mem → Prop) (X75 : Int → Int → Int → Int → Int → Int → Int → Mem → Prop) (X144 : Int → Int → Int → Mem → Prop), (∀ x1 x2 x3 x5 s, x3_fillArcs_b9 o X9 X53 X75 X144 Q x1 x2 x3 x5 s → X9 x1 x2 x3 x5 s) → (∀ x1 x2 x3 x5 x6 x7 x8 s, x3_fillArcs_b53 o X9 X53 X75 X144 Q x1 x2 x3 x5 x6 x7 x8 s → X53 x1 x2 x3 x5 x6 x7 x8 s) → (∀ x1 x2 x3 x5 x6 x8 t0 s, x3_fillArcs_b75 o X9 X53 X75 X144 Q x1 x2 x3 x5 x6 x8 t0 s → X75 x1 x2 x3 x5 x6 x8 t0 s) → (∀ x1 x2 x5 s, x3_fillArcs_b144 o X9 X53 X75 X144 Q x1 x2 x5 s → X144 x1 x2 x5 s) → X53 x1 x2 x3 x5 x6 x7 x8 s
def x3_fillArcs_L75 (o : Nat) (Q : Int → Mem → Prop) (x1 : Int) (x2 : Int) (x3 : Int) (x5 : Int) (x6 : Int) (x8 : Int) (t0 : Int) (s : Mem) : Prop := ∀ (X9 : Int → Int → Int → Int → Mem → Prop) (X53 : Int → Int → Int → Int → Int → Int → Int → Mem → Prop) (X75 : Int → Int → Int → Int → Int → Int → Int → Mem → Prop) (X144 : Int → Int → Int → Mem → Prop), (∀ x1 x2 x3 x5 s, x3_fillArcs_b9 o X9 X53 X75 X144 Q x1 x2 x3 x5 s → X9 x1 x2 x3 x5 s) → (∀ x1 x2 x3 x5 x6 x7 x8 s, x3_fillArcs_b53 o X9 X53 X75 X144 Q x1 x2 x3 x5 x6 x7 x8 s → X53 x1 x2 x3 x5 x6 x7 x8 s) → (∀ x1 x2 x3 x5 x6 x8 t0 s, x3_fillArcs_b75 o X9 X53 X75 X144 Q x1 x2 x3 x5 x6 x8 t0 s → X75 x1 x2 x3 x5 x6 x8 t0 s) → (∀ x1 x2 x5 s, x3_fillArcs_b144 o X9 X53 X75 X144 Q x1 x2 x5 s → X144 x1 x2 x5 s) → X75 x1 x2 x3 x5 x6 x8 t0 s
def x3_fillArcs_L144 (o : Nat) (Q : Int → Mem → Prop) (x1 : Int) (x2 : Int) (x5 : Int) (s : Mem) : Prop := ∀ (X9 : Int → Int → Int → Int → Mem → Prop) (X53 : Int → Int → Int → Int → Int → Int → Int → Mem → Prop) (X75 : Int → Int → Int → Int → Int → Int → Int → Mem → Prop) (X144 : Int → Int → Int → Mem → Prop), (∀ x1 x2 x3 x5 s, x3_fillArcs_b9 o X9 X53 X75 X144 Q x1 x2 x3 x5 s → X9 x1 x2 x3 x5 s) → (∀ x1 x2 x3 x5 x6 x7 x8 s, x3_fillArcs_b53 o X9 X53 X75 X144 Q x1 x2 x3 x5 x6 x7 x8 s → X53 x1 x2 x3 x5 x6 x7 x8 s) → (∀ x1 x2 x3 x5 x6 x8 t0 s, x3_fillArcs_b75 o X9 X53 X75 X144 Q x1 x2 x3 x5 x6 x8 t0 s → X75 x1 x2 x3 x5 x6 x8 t0 s) → (∀ x1 x2 x5 s, x3_fillArcs_b144 o X9 X53 X75 X144 Q x1 x2 x5 s → X144 x1 x2 x5 s) → X144 x1 x2 x5 s
theorem x3_fillArcs_i {Q : Int → Mem → Prop} {o : Nat} {p1 : Int} {p2 : Int} {s : Mem} (h : x3_fillArcs_be (x3_fillArcs_L9 o Q) (x3_fillArcs_L53 o Q) (x3_fillArcs_L75 o Q) (x3_fillArcs_L144 o Q) Q o p1 p2 s) : x3_fillArcs o p1 p2 s Q := fun X9 X53 X75 X144 k9 k53 k75 k144 => x3_fillArcs_me (fun _ _ _ _ _ h => h X9 X53 X75 X144 k9 k53 k75 k144) (fun _ _ _ _ _ _ _ _ h => h X9 X53 X75 X144 k9 k53 k75 k144) (fun _ _ _ _ _ _ _ _ h => h X9 X53 X75 X144 k9 k53 k75 k144) (fun _ _ _ _ h => h X9 X53 X75 X144 k9 k53 k75 k144) (fun _ _ h => h) h
theorem x3_fillArcs_s9 {o : Nat} {Q : Int → Mem → Prop} {x1 : Int} {x2 : Int} {x3 : Int} {x5 : Int} {s : Mem} (h : x3_fillArcs_b9 o (x3_fillArcs_L9 o Q) (x3_fillArcs_L53 o Q) (x3_fillArcs_L75 o Q) (x3_fillArcs_L144 o Q) Q x1 x2 x3 x5 s) : x3_fillArcs_L9 o Q x1 x2 x3 x5 s := fun X9 X53 X75 X144 k9 k53 k75 k144 => k9 _ _ _ _ _ (x3_fillArcs_m9 (fun _ _ _ _ _ h => h X9 X53 X75 X144 k9 k53 k75 k144) (fun _ _ _ _ _ _ _ _ h => h X9 X53 X75 X144 k9 k53 k75 k144) (fun _ _ _ _ _ _ _ _ h => h X9 X53 X75 X144 k9 k53 k75 k144) (fun _ _ _ _ h => h X9 X53 X75 X144 k9 k53 k75 k144) (fun _ _ h => h) h)
theorem x3_fillArcs_s53 {o : Nat} {Q : Int → Mem → Prop} {x1 : Int} {x2 : Int} {x3 : Int} {x5 : Int} {x6 : Int} {x7 : Int} {x8 : Int} {s : Mem} (h : x3_fillArcs_b53 o (x3_fillArcs_L9 o Q) (x3_fillArcs_L53 o Q) (x3_fillArcs_L75 o Q) (x3_fillArcs_L144 o Q) Q x1 x2 x3 x5 x6 x7 x8 s) : x3_fillArcs_L53 o Q x1 x2 x3 x5 x6 x7 x8 s := fun X9 X53 X75 X144 k9 k53 k75 k144 => k53 _ _ _ _ _ _ _ _ (x3_fillArcs_m53 (fun _ _ _ _ _ h => h X9 X53 X75 X144 k9 k53 k75 k144) (fun _ _ _ _ _ _ _ _ h => h X9 X53 X75 X144 k9 k53 k75 k144) (fun _ _ _ _ _ _ _ _ h => h X9 X53 X75 X144 k9 k53 k75 k144) (fun _ _ _ _ h => h X9 X53 X75 X144 k9 k53 k75 k144) (fun _ _ h => h) h)
theorem x3_fillArcs_s75 {o : Nat} {Q : Int → Mem → Prop} {x1 : Int} {x2 : Int} {x3 : Int} {x5 : Int} {x6 : Int} {x8 : Int} {t0 : Int} {s : Mem} (h : x3_fillArcs_b75 o (x3_fillArcs_L9 o Q) (x3_fillArcs_L53 o Q) (x3_fillArcs_L75 o Q) (x3_fillArcs_L144 o Q) Q x1 x2 x3 x5 x6 x8 t0 s) : x3_fillArcs_L75 o Q x1 x2 x3 x5 x6 x8 t0 s := fun X9 X53 X75 X144 k9 k53 k75 k144 => k75 _ _ _ _ _ _ _ _ (x3_fillArcs_m75 (fun _ _ _ _ _ h => h X9 X53 X75 X144 k9 k53 k75 k144) (fun _ _ _ _ _ _ _ _ h => h X9 X53 X75 X144 k9 k53 k75 k144) (fun _ _ _ _ _ _ _ _ h => h X9 X53 X75 X144 k9 k53 k75 k144) (fun _ _ _ _ h => h X9 X53 X75 X144 k9 k53 k75 k144) (fun _ _ h => h) h)
theorem x3_fillArcs_s144 {o : Nat} {Q : Int → Mem → Prop} {x1 : Int} {x2 : Int} {x5 : Int} {s : Mem} (h : x3_fillArcs_b144 o (x3_fillArcs_L9 o Q) (x3_fillArcs_L53 o Q) (x3_fillArcs_L75 o Q) (x3_fillArcs_L144 o Q) Q x1 x2 x5 s) : x3_fillArcs_L144 o Q x1 x2 x5 s := fun X9 X53 X75 X144 k9 k53 k75 k144 => k144 _ _ _ _ (x3_fillArcs_m144 (fun _ _ _ _ _ h => h X9 X53 X75 X144 k9 k53 k75 k144) (fun _ _ _ _ _ _ _ _ h => h X9 X53 X75 X144 k9 k53 k75 k144) (fun _ _ _ _ _ _ _ _ h => h X9 X53 X75 X144 k9 k53 k75 k144) (fun _ _ _ _ h => h X9 X53 X75 X144 k9 k53 k75 k144) (fun _ _ h => h) h)
theorem x3_fillArcs_mono {Q R : Int → Mem → Prop} {o : Nat} {p1 : Int} {p2 : Int} {s : Mem} (h : x3_fillArcs o p1 p2 s Q) (hQ : ∀ r s, Q r s → R r s) : x3_fillArcs o p1 p2 s R := fun X9 X53 X75 X144 k9 k53 k75 k144 => x3_fillArcs_me (fun _ _ _ _ _ h => h) (fun _ _ _ _ _ _ _ _ h => h) (fun _ _ _ _ _ _ _ _ h => h) (fun _ _ _ _ h => h) hQ (h X9 X53 X75 X144 (fun _ _ _ _ _ h => k9 _ _ _ _ _ (x3_fillArcs_m9 (fun _ _ _ _ _ h => h) (fun _ _ _ _ _ _ _ _ h => h) (fun _ _ _ _ _ _ _ _ h => h) (fun _ _ _ _ h => h) hQ h)) (fun _ _ _ _ _ _ _ _ h => k53 _ _ _ _ _ _ _ _ (x3_fillArcs_m53 (fun _ _ _ _ _ h => h) (fun _ _ _ _ _ _ _ _ h => h) (fun _ _ _ _ _ _ _ _ h => h) (fun _ _ _ _ h => h) hQ h)) (fun _ _ _ _ _ _ _ _ h => k75 _ _ _ _ _ _ _ _ (x3_fillArcs_m75 (fun _ _ _ _ _ h => h) (fun _ _ _ _ _ _ _ _ h => h) (fun _ _ _ _ _ _ _ _ h => h) (fun _ _ _ _ h => h) hQ h)) (fun _ _ _ _ h => k144 _ _ _ _ (x3_fillArcs_m144 (fun _ _ _ _ _ h => h) (fun _ _ _ _ _ _ _ _ h => h) (fun _ _ _ _ _ _ _ _ h => h) (fun _ _ _ _ h => h) hQ h)))
def x3_fillArcs_rm : Room := { frames := 0, cells := 0, slots := 0, locals := 0 }
theorem w_x3_fillArcs_25 : Cond.fieldLink RX3 25 "BoltRing$Lifts" "ribPowers" "[J" ∈ wsX3_fillArcs := by decide +kernel
theorem w_x3_fillArcs_28 : Cond.fieldLink RX3 28 "BoltRing$Lifts" "arcs" "[J" ∈ wsX3_fillArcs := by decide +kernel
theorem w_x3_fillArcs_19 : Cond.fieldLink RX3 19 "BoltRing$Lifts" "diagonal" "[J" ∈ wsX3_fillArcs := by decide +kernel
theorem in_x3_fillArcs_X3 : ∀ w ∈ wsX30, w ∈ wsX3_fillArcs := by decide +kernel
set_option maxHeartbeats 4000000 in
set_option maxRecDepth 100000 in
theorem x3_fillArcs_bd {κ : KT} {ad : Nat → Nat} {cA : Nat → ClassId} {D : va_G} {Q : State → Prop} {o : Nat} {p1 : Int} {p2 : Int} {s : Mem} (ho : LfA o) (C : CX κ (GA ad cA D) RX3 cX3_fillArcs 9 wsX3_fillArcs x3_fillArcs_rm none) (h : x3_fillArcs o p1 p2 s (RT κ (GA ad cA D) ocV Q)) : WM κ (GA ad cA D) 9 Q s 0 [(0, .ref (ad o)), (1, vI p1), (2, vI p2)] [] := by
  obtain ⟨Z9, z9⟩ : ∃ Z : Int → Int → Int → Int → Mem → Prop, ∀ x1 x2 x3 x5 s, Z x1 x2 x3 x5 s ↔ WM κ (GA ad cA D) 9 Q s 9 [(0, .ref (ad o)), (1, vI x1), (2, vI x2), (3, vL x3), (5, vI x5)] [] := ⟨fun x1 x2 x3 x5 s => WM κ (GA ad cA D) 9 Q s 9 [(0, .ref (ad o)), (1, vI x1), (2, vI x2), (3, vL x3), (5, vI x5)] [], fun _ _ _ _ _ => Iff.rfl⟩
  obtain ⟨Z53, z53⟩ : ∃ Z : Int → Int → Int → Int → Int → Int → Int → Mem → Prop, ∀ x1 x2 x3 x5 x6 x7 x8 s, Z x1 x2 x3 x5 x6 x7 x8 s ↔ WM κ (GA ad cA D) 9 Q s 53 [(0, .ref (ad o)), (1, vI x1), (2, vI x2), (3, vL x3), (5, vI x5), (6, vI x6), (7, vI x7), (8, vI x8)] [] := ⟨fun x1 x2 x3 x5 x6 x7 x8 s => WM κ (GA ad cA D) 9 Q s 53 [(0, .ref (ad o)), (1, vI x1), (2, vI x2), (3, vL x3), (5, vI x5), (6, vI x6), (7, vI x7), (8, vI x8)] [], fun _ _ _ _ _ _ _ _ => Iff.rfl⟩
  obtain ⟨Z75, z75⟩ : ∃ Z : Int → Int → Int → Int → Int → Int → Int → Mem → Prop, ∀ x1 x2 x3 x5 x6 x8 t0 s, Z x1 x2 x3 x5 x6 x8 t0 s ↔ WM κ (GA ad cA D) 9 Q s 75 [(0, .ref (ad o)), (1, vI x1), (2, vI x2), (3, vL x3), (5, vI x5), (6, vI x6), (8, vI x8)] [vI t0] := ⟨fun x1 x2 x3 x5 x6 x8 t0 s => WM κ (GA ad cA D) 9 Q s 75 [(0, .ref (ad o)), (1, vI x1), (2, vI x2), (3, vL x3), (5, vI x5), (6, vI x6), (8, vI x8)] [vI t0], fun _ _ _ _ _ _ _ _ => Iff.rfl⟩
  obtain ⟨Z144, z144⟩ : ∃ Z : Int → Int → Int → Mem → Prop, ∀ x1 x2 x5 s, Z x1 x2 x5 s ↔ WM κ (GA ad cA D) 9 Q s 144 [(0, .ref (ad o)), (1, vI x1), (2, vI x2), (5, vI x5)] [] := ⟨fun x1 x2 x5 s => WM κ (GA ad cA D) 9 Q s 144 [(0, .ref (ad o)), (1, vI x1), (2, vI x2), (5, vI x5)] [], fun _ _ _ _ => Iff.rfl⟩
  refine (fun h => ?_) (h Z9 Z53 Z75 Z144 ?_ ?_ ?_ ?_)
  · refine r_iload_n C 2 dX3_fillArcs_0 rfl ?_
    refine r_i2l C dX3_fillArcs_1 ⟨h.1, ?_⟩
    have h := h.2
    refine r_iload_n C 2 dX3_fillArcs_2 rfl ?_
    refine r_i2l C dX3_fillArcs_3 ⟨h.1, ?_⟩
    have h := h.2
    refine r_lmul C dX3_fillArcs_4 ?_
    refine r_lstore_n (ls' := [(3, vL (p2 * p2)), (0, .ref (ad o)), (1, vI p1), (2, vI p2)]) C dX3_fillArcs_5 rfl (by decide) rfl ?_
    refine r_iconst C dX3_fillArcs_6 ?_
    refine r_istore (ls' := [(5, vI (0 : Int)), (3, vL (p2 * p2)), (0, .ref (ad o)), (1, vI p1), (2, vI p2)]) C dX3_fillArcs_7 (by decide) rfl ?_
    exact r_perm [2, 3, 4, 1, 0] rfl ((z9 _ _ _ _ _).1 h)
  · intro x1 x2 x3 x5 s h
    refine (z9 _ _ _ _ _).2 ?_
    refine r_iload C 4 dX3_fillArcs_9 rfl ?_
    refine r_iload_n C 1 dX3_fillArcs_11 rfl ?_
    refine r_icmp_ge (tgt := 134) C dX3_fillArcs_12 (by decide) ⟨h.1, fun c4 => ?_, fun c4 => ?_⟩
    · have h := h.2.1 c4
      refine r_aload_n C 0 dX3_fillArcs_134 rfl ?_
      refine r_get (j := 4) (jz := 4) (v := .ref (ad (o + 4))) C dX3_fillArcs_135 (lf_0 ho) rfl rfl (by decide) in_x3_fillArcs_X3 w_x3_fillArcs_25 rfl rfl rfl ?_
      refine r_iconst C dX3_fillArcs_138 ?_
      refine r_lconst (z := 1) C dX3_fillArcs_139 rfl ?_
      refine r_last (nz := 7) C dX3_fillArcs_140 (lf_4 ho) rfl (by decide) ⟨h.1, fun s1 e_s1 => ?_⟩
      have h := h.2 s1 e_s1
      refine r_iconst C dX3_fillArcs_141 ?_
      refine r_istore (ls' := [(5, vI (1 : Int)), (0, .ref (ad o)), (1, vI x1), (2, vI x2), (3, vL x3)]) C dX3_fillArcs_142 (by decide) rfl ?_
      exact r_perm [1, 2, 3, 0] rfl ((z144 _ _ _ _).1 h)
    · have h := h.2.2 c4
      refine r_bipush C dX3_fillArcs_15 (by decide) ?_
      refine r_iload C 4 dX3_fillArcs_17 rfl ?_
      refine r_imul C dX3_fillArcs_19 ?_
      refine r_istore (ls' := [(6, vI ((6 : Int) * x5)), (0, .ref (ad o)), (1, vI x1), (2, vI x2), (3, vL x3), (5, vI x5)]) C dX3_fillArcs_20 (by decide) rfl ?_
      refine r_aload_n C 1 dX3_fillArcs_22 rfl ?_
      refine r_get (j := 5) (jz := 5) (v := .ref (ad (o + 5))) C dX3_fillArcs_23 (lf_0 ho) rfl rfl (by decide) in_x3_fillArcs_X3 w_x3_fillArcs_28 rfl rfl rfl ?_
      refine r_iload C 0 dX3_fillArcs_26 rfl ?_
      refine r_lconst (z := 1) C dX3_fillArcs_28 rfl ?_
      refine r_last (nz := 36) C dX3_fillArcs_29 (lf_5 ho) rfl (by decide) ⟨h.1, fun s2 e_s2 => ?_⟩
      have h := h.2 s2 e_s2
      refine r_aload_n C 1 dX3_fillArcs_30 rfl ?_
      refine r_get (j := 5) (jz := 5) (v := .ref (ad (o + 5))) C dX3_fillArcs_31 (lf_0 ho) rfl rfl (by decide) in_x3_fillArcs_X3 w_x3_fillArcs_28 rfl rfl rfl ?_
      refine r_iload C 0 dX3_fillArcs_34 rfl ?_
      refine r_iconst C dX3_fillArcs_36 ?_
      refine r_iadd C dX3_fillArcs_37 ?_
      refine r_aload_n C 1 dX3_fillArcs_38 rfl ?_
      refine r_get (j := 2) (jz := 2) (v := .ref (ad (o + 2))) C dX3_fillArcs_39 (lf_0 ho) rfl rfl (by decide) in_x3_fillArcs_X3 w_x3_fillArcs_19 rfl rfl rfl ?_
      refine r_iload C 5 dX3_fillArcs_42 rfl ?_
      refine r_lald (nz := 6) C dX3_fillArcs_44 (lf_2 ho) rfl (by decide) ⟨h.1, ?_⟩
      have h := h.2
      refine r_last (nz := 36) C dX3_fillArcs_45 (lf_5 ho) rfl (by decide) ⟨h.1, fun s3 e_s3 => ?_⟩
      have h := h.2 s3 e_s3
      refine r_iload C 5 dX3_fillArcs_46 rfl ?_
      refine r_istore (ls' := [(7, vI x5), (6, vI ((6 : Int) * x5)), (0, .ref (ad o)), (1, vI x1), (2, vI x2), (3, vL x3), (5, vI x5)]) C dX3_fillArcs_48 (by decide) rfl ?_
      refine r_iconst C dX3_fillArcs_50 ?_
      refine r_istore (ls' := [(8, vI (2 : Int)), (7, vI x5), (6, vI ((6 : Int) * x5)), (0, .ref (ad o)), (1, vI x1), (2, vI x2), (3, vL x3), (5, vI x5)]) C dX3_fillArcs_51 (by decide) rfl ?_
      exact r_perm [3, 4, 5, 6, 7, 2, 1, 0] rfl ((z53 _ _ _ _ _ _ _ _).1 h)
  · intro x1 x2 x3 x5 x6 x7 x8 s h
    refine (z53 _ _ _ _ _ _ _ _).2 ?_
    refine r_iload C 7 dX3_fillArcs_53 rfl ?_
    refine r_iload_n C 1 dX3_fillArcs_55 rfl ?_
    refine r_icmp_ge (tgt := 128) C dX3_fillArcs_56 (by decide) ⟨h.1, fun c6 => ?_, fun c6 => ?_⟩
    · have h := h.2.1 c6
      refine r_iinc (j := 4) (ls' := [(5, vI (x5 + (1 : Int))), (0, .ref (ad o)), (1, vI x1), (2, vI x2), (3, vL x3), (6, vI x6), (7, vI x7), (8, vI x8)]) C dX3_fillArcs_128 rfl (by decide) rfl ?_
      refine r_goto (tgt := 9) C dX3_fillArcs_131 (by decide) ?_
      exact r_perm [1, 2, 3, 4, 0] rfl ((z9 _ _ _ _ _).1 h)
    · have h := h.2.2 c6
      refine r_iload C 6 dX3_fillArcs_59 rfl ?_
      refine r_iconst C dX3_fillArcs_61 ?_
      refine r_iadd C dX3_fillArcs_62 ?_
      refine r_iload_n C 1 dX3_fillArcs_63 rfl ?_
      refine r_icmp_ge (tgt := 74) C dX3_fillArcs_64 (by decide) ⟨h.1, fun c5 => ?_, fun c5 => ?_⟩
      · have h := h.2.1 c5
        refine r_iconst C dX3_fillArcs_74 ?_
        exact r_perm [0, 1, 2, 3, 4, 5, 7] rfl ((z75 _ _ _ _ _ _ _ _).1 h)
      · have h := h.2.2 c5
        refine r_iload C 6 dX3_fillArcs_67 rfl ?_
        refine r_iconst C dX3_fillArcs_69 ?_
        refine r_iadd C dX3_fillArcs_70 ?_
        refine r_goto (tgt := 75) C dX3_fillArcs_71 (by decide) ?_
        exact r_perm [0, 1, 2, 3, 4, 5, 7] rfl ((z75 _ _ _ _ _ _ _ _).1 h)
  · intro x1 x2 x3 x5 x6 x8 t0 s h
    refine (z75 _ _ _ _ _ _ _ _).2 ?_
    refine r_istore (ls' := [(7, vI t0), (0, .ref (ad o)), (1, vI x1), (2, vI x2), (3, vL x3), (5, vI x5), (6, vI x6), (8, vI x8)]) C dX3_fillArcs_75 (by decide) rfl ?_
    refine r_aload_n C 1 dX3_fillArcs_77 rfl ?_
    refine r_get (j := 5) (jz := 5) (v := .ref (ad (o + 5))) C dX3_fillArcs_78 (lf_0 ho) rfl rfl (by decide) in_x3_fillArcs_X3 w_x3_fillArcs_28 rfl rfl rfl ?_
    refine r_iload C 6 dX3_fillArcs_81 rfl ?_
    refine r_iload C 7 dX3_fillArcs_83 rfl ?_
    refine r_iadd C dX3_fillArcs_85 ?_
    refine r_aload_n C 1 dX3_fillArcs_86 rfl ?_
    refine r_get (j := 2) (jz := 2) (v := .ref (ad (o + 2))) C dX3_fillArcs_87 (lf_0 ho) rfl rfl (by decide) in_x3_fillArcs_X3 w_x3_fillArcs_19 rfl rfl rfl ?_
    refine r_iload C 0 dX3_fillArcs_90 rfl ?_
    refine r_lald (nz := 6) C dX3_fillArcs_92 (lf_2 ho) rfl (by decide) ⟨h.1, ?_⟩
    have h := h.2
    refine r_aload_n C 1 dX3_fillArcs_93 rfl ?_
    refine r_get (j := 5) (jz := 5) (v := .ref (ad (o + 5))) C dX3_fillArcs_94 (lf_0 ho) rfl rfl (by decide) in_x3_fillArcs_X3 w_x3_fillArcs_28 rfl rfl rfl ?_
    refine r_iload C 6 dX3_fillArcs_97 rfl ?_
    refine r_iload C 7 dX3_fillArcs_99 rfl ?_
    refine r_iadd C dX3_fillArcs_101 ?_
    refine r_iconst C dX3_fillArcs_102 ?_
    refine r_isub C dX3_fillArcs_103 ?_
    refine r_lald (nz := 36) C dX3_fillArcs_104 (lf_5 ho) rfl (by decide) ⟨h.1, ?_⟩
    have h := h.2
    refine r_lmul C dX3_fillArcs_105 ?_
    refine r_lload_n C 4 dX3_fillArcs_106 rfl ?_
    refine r_aload_n C 1 dX3_fillArcs_107 rfl ?_
    refine r_get (j := 5) (jz := 5) (v := .ref (ad (o + 5))) C dX3_fillArcs_108 (lf_0 ho) rfl rfl (by decide) in_x3_fillArcs_X3 w_x3_fillArcs_28 rfl rfl rfl ?_
    refine r_iload C 6 dX3_fillArcs_111 rfl ?_
    refine r_iload C 7 dX3_fillArcs_113 rfl ?_
    refine r_iadd C dX3_fillArcs_115 ?_
    refine r_iconst C dX3_fillArcs_116 ?_
    refine r_isub C dX3_fillArcs_117 ?_
    refine r_lald (nz := 36) C dX3_fillArcs_118 (lf_5 ho) rfl (by decide) ⟨h.1, ?_⟩
    have h := h.2
    refine r_lmul C dX3_fillArcs_119 ?_
    refine r_lsub C dX3_fillArcs_120 ?_
    refine r_last (nz := 36) C dX3_fillArcs_121 (lf_5 ho) rfl (by decide) ⟨h.1, fun s7 e_s7 => ?_⟩
    have h := h.2 s7 e_s7
    refine r_iinc (j := 7) (ls' := [(8, vI (x8 + (1 : Int))), (7, vI t0), (0, .ref (ad o)), (1, vI x1), (2, vI x2), (3, vL x3), (5, vI x5), (6, vI x6)]) C dX3_fillArcs_122 rfl (by decide) rfl ?_
    refine r_goto (tgt := 53) C dX3_fillArcs_125 (by decide) ?_
    exact r_perm [2, 3, 4, 5, 6, 7, 1, 0] rfl ((z53 _ _ _ _ _ _ _ _).1 h)
  · intro x1 x2 x5 s h
    refine (z144 _ _ _ _).2 ?_
    refine r_iload C 3 dX3_fillArcs_144 rfl ?_
    refine r_iload_n C 1 dX3_fillArcs_146 rfl ?_
    refine r_icmp_gt (tgt := 175) C dX3_fillArcs_147 (by decide) ⟨h.1, fun c9 => ?_, fun c9 => ?_⟩
    · have h := h.2.1 c9
      exact r_return C dX3_fillArcs_175 h
    · have h := h.2.2 c9
      refine r_aload_n C 0 dX3_fillArcs_150 rfl ?_
      refine r_get (j := 4) (jz := 4) (v := .ref (ad (o + 4))) C dX3_fillArcs_151 (lf_0 ho) rfl rfl (by decide) in_x3_fillArcs_X3 w_x3_fillArcs_25 rfl rfl rfl ?_
      refine r_iload C 3 dX3_fillArcs_154 rfl ?_
      refine r_aload_n C 0 dX3_fillArcs_156 rfl ?_
      refine r_get (j := 4) (jz := 4) (v := .ref (ad (o + 4))) C dX3_fillArcs_157 (lf_0 ho) rfl rfl (by decide) in_x3_fillArcs_X3 w_x3_fillArcs_25 rfl rfl rfl ?_
      refine r_iload C 3 dX3_fillArcs_160 rfl ?_
      refine r_iconst C dX3_fillArcs_162 ?_
      refine r_isub C dX3_fillArcs_163 ?_
      refine r_lald (nz := 7) C dX3_fillArcs_164 (lf_4 ho) rfl (by decide) ⟨h.1, ?_⟩
      have h := h.2
      refine r_iload_n C 2 dX3_fillArcs_165 rfl ?_
      refine r_i2l C dX3_fillArcs_166 ⟨h.1, ?_⟩
      have h := h.2
      refine r_lmul C dX3_fillArcs_167 ?_
      refine r_last (nz := 7) C dX3_fillArcs_168 (lf_4 ho) rfl (by decide) ⟨h.1, fun s8 e_s8 => ?_⟩
      have h := h.2 s8 e_s8
      refine r_iinc (j := 3) (ls' := [(5, vI (x5 + (1 : Int))), (0, .ref (ad o)), (1, vI x1), (2, vI x2)]) C dX3_fillArcs_169 rfl (by decide) rfl ?_
      refine r_goto (tgt := 144) C dX3_fillArcs_172 (by decide) ?_
      exact r_perm [1, 2, 3, 0] rfl ((z144 _ _ _ _).1 h)
theorem x3_fillArcs_ct (l : Launch) (ad : Nat → Nat) (cA : Nat → ClassId) (D : va_G) (o : Nat) (p1 : Int) (p2 : Int) (s : Mem) (ho : LfA o) : MG l yX3_fillArcs wsX3_fillArcs x3_fillArcs_rm ocV [.ref (ad o), vI p1, vI p2] (GA ad cA D) s (x3_fillArcs o p1 p2 s) :=
  m_met (own := RX3) (nL := 9) (by decide) rfl rfl (Nat.le_of_ble_eq_true rfl) rfl rfl rfl (fun κ hl C Q Pst hW hQ => x3_fillArcs_bd ho C (x3_fillArcs_mono hW hQ))

def x3_solve_be (X67 : Int → Int → Mem → Prop) (X91 : Int → Int → Int → Int → Mem → Prop) (X122 : Int → Int → Int → Int → Int → Int → Mem → Prop) (X144 : Int → Int → Int → Int → Int → Int → Mem → Prop) (X164 : Int → Int → Int → Int → Int → Int → Int → Int → Mem → Prop) (Q : Int → Mem → Prop) (o : Nat) (p1 : Int) (p2 : Int) (s : Mem) : Prop :=
  ((0 : Int) ≤ (0 : Int) ∧ (0 : Int) < 6) ∧ ((0 : Int) ≤ (((6 : Int) + p1) - (1 : Int)) ∧ (((6 : Int) + p1) - (1 : Int)) < 36) ∧ ((0 : Int) ≤ p1 ∧ p1 < 7) ∧ (InI p2) ∧ (InI p2) ∧ ((0 : Int) ≤ (((6 : Int) + p1) - (2 : Int)) ∧ (((6 : Int) + p1) - (2 : Int)) < 36) ∧ ((0 : Int) ≤ (((12 : Int) + p1) - (2 : Int)) ∧ (((12 : Int) + p1) - (2 : Int)) < 36) ∧ ∀ s1 : Mem, s1 = m_upd s o (1 : Int) ((((s (o + 2) (0 : Int)) * (s (o + 5) (((6 : Int) + p1) - (1 : Int)))) - ((2 : Int) * (s (o + 4) p1))) - ((p2 * p2) * ((s (o + 5) (((6 : Int) + p1) - (2 : Int))) + (s (o + 5) (((12 : Int) + p1) - (2 : Int)))))) → X67 p1 (0 : Int) s1
def x3_solve_b67 (o : Nat) (X67 : Int → Int → Mem → Prop) (X91 : Int → Int → Int → Int → Mem → Prop) (X122 : Int → Int → Int → Int → Int → Int → Mem → Prop) (X144 : Int → Int → Int → Int → Int → Int → Mem → Prop) (X164 : Int → Int → Int → Int → Int → Int → Int → Int → Mem → Prop) (Q : Int → Mem → Prop) (x1 : Int) (x4 : Int) (s : Mem) : Prop :=
  (InI x4 ∧ InI x1) ∧ (x1 ≤ x4 → Q (0 : Int) s) ∧ (x4 < x1 → (InI (x4 + (1 : Int)) ∧ InI x1) ∧ (x1 ≤ (x4 + (1 : Int)) → X91 x1 x4 (0 : Int) (6 : Int) s) ∧ ((x4 + (1 : Int)) < x1 → X91 x1 x4 (x4 + (1 : Int)) (6 : Int) s))
def x3_solve_b91 (o : Nat) (X67 : Int → Int → Mem → Prop) (X91 : Int → Int → Int → Int → Mem → Prop) (X122 : Int → Int → Int → Int → Int → Int → Mem → Prop) (X144 : Int → Int → Int → Int → Int → Int → Mem → Prop) (X164 : Int → Int → Int → Int → Int → Int → Int → Int → Mem → Prop) (Q : Int → Mem → Prop) (x1 : Int) (x4 : Int) (t0 : Int) (t1 : Int) (s : Mem) : Prop :=
  ((0 : Int) ≤ x4 ∧ x4 < 6) ∧ ((0 : Int) ≤ (((t1 * t0) + x1) - (1 : Int)) ∧ (((t1 * t0) + x1) - (1 : Int)) < 36) ∧ ∀ v4 : Int, v4 = ((s (o + 3) x4) * (s (o + 5) (((t1 * t0) + x1) - (1 : Int)))) → X122 x1 x4 (t1 * t0) v4 x4 (1 : Int) s
def x3_solve_b122 (o : Nat) (X67 : Int → Int → Mem → Prop) (X91 : Int → Int → Int → Int → Mem → Prop) (X122 : Int → Int → Int → Int → Int → Int → Mem → Prop) (X144 : Int → Int → Int → Int → Int → Int → Mem → Prop) (X164 : Int → Int → Int → Int → Int → Int → Int → Int → Mem → Prop) (Q : Int → Mem → Prop) (x1 : Int) (x4 : Int) (x5 : Int) (x6 : Int) (x8 : Int) (x9 : Int) (s : Mem) : Prop :=
  (InI x9 ∧ InI x1) ∧ (x1 ≤ x9 → ((0 : Int) ≤ x4 ∧ x4 < 6) ∧ ∀ s5 : Mem, s5 = m_upd s (o + 1) x4 x6 → X67 x1 (x4 + (1 : Int)) s5) ∧ (x9 < x1 → (InI (x8 + (1 : Int)) ∧ InI x1) ∧ (x1 ≤ (x8 + (1 : Int)) → X144 x1 x4 x5 x6 x9 (0 : Int) s) ∧ ((x8 + (1 : Int)) < x1 → X144 x1 x4 x5 x6 x9 (x8 + (1 : Int)) s))
def x3_solve_b144 (o : Nat) (X67 : Int → Int → Mem → Prop) (X91 : Int → Int → Int → Int → Mem → Prop) (X122 : Int → Int → Int → Int → Int → Int → Mem → Prop) (X144 : Int → Int → Int → Int → Int → Int → Mem → Prop) (X164 : Int → Int → Int → Int → Int → Int → Int → Int → Mem → Prop) (Q : Int → Mem → Prop) (x1 : Int) (x4 : Int) (x5 : Int) (x6 : Int) (x9 : Int) (t0 : Int) (s : Mem) : Prop :=
  (InI (t0 + (1 : Int)) ∧ InI x1) ∧ (x1 ≤ (t0 + (1 : Int)) → X164 x1 x4 x5 x6 t0 x9 (0 : Int) (6 : Int) s) ∧ ((t0 + (1 : Int)) < x1 → X164 x1 x4 x5 x6 t0 x9 (t0 + (1 : Int)) (6 : Int) s)
def x3_solve_b164 (o : Nat) (X67 : Int → Int → Mem → Prop) (X91 : Int → Int → Int → Int → Mem → Prop) (X122 : Int → Int → Int → Int → Int → Int → Mem → Prop) (X144 : Int → Int → Int → Int → Int → Int → Mem → Prop) (X164 : Int → Int → Int → Int → Int → Int → Int → Int → Mem → Prop) (Q : Int → Mem → Prop) (x1 : Int) (x4 : Int) (x5 : Int) (x6 : Int) (x8 : Int) (x9 : Int) (t0 : Int) (t1 : Int) (s : Mem) : Prop :=
  ((0 : Int) ≤ x9 ∧ x9 < 7) ∧ ((0 : Int) ≤ ((((t1 * t0) + x1) - (1 : Int)) - x9) ∧ ((((t1 * t0) + x1) - (1 : Int)) - x9) < 36) ∧ ∀ v9 : Int, v9 = ((s (o + 4) x9) * (s (o + 5) ((((t1 * t0) + x1) - (1 : Int)) - x9))) → ((0 : Int) ≤ (x1 - x9) ∧ (x1 - x9) < 7) ∧ ((0 : Int) ≤ ((x5 + x9) - (1 : Int)) ∧ ((x5 + x9) - (1 : Int)) < 36) ∧ ∀ v10 : Int, v10 = ((s (o + 4) (x1 - x9)) * (s (o + 5) ((x5 + x9) - (1 : Int)))) → ((0 : Int) ≤ x8 ∧ x8 < 6) ∧ ∀ v11 : Int, v11 = (x6 + ((s (o + 3) x8) * (v9 + v10))) → X122 x1 x4 x5 v11 x8 (x9 + (1 : Int)) s
theorem x3_solve_me {X67 Y67 : Int → Int → Mem → Prop} {X91 Y91 : Int → Int → Int → Int → Mem → Prop} {X122 Y122 : Int → Int → Int → Int → Int → Int → Mem → Prop} {X144 Y144 : Int → Int → Int → Int → Int → Int → Mem → Prop} {X164 Y164 : Int → Int → Int → Int → Int → Int → Int → Int → Mem → Prop} {Q R : Int → Mem → Prop} (hX67 : ∀ x1 x4 s, X67 x1 x4 s → Y67 x1 x4 s) (hX91 : ∀ x1 x4 t0 t1 s, X91 x1 x4 t0 t1 s → Y91 x1 x4 t0 t1 s) (hX122 : ∀ x1 x4 x5 x6 x8 x9 s, X122 x1 x4 x5 x6 x8 x9 s → Y122 x1 x4 x5 x6 x8 x9 s) (hX144 : ∀ x1 x4 x5 x6 x9 t0 s, X144 x1 x4 x5 x6 x9 t0 s → Y144 x1 x4 x5 x6 x9 t0 s) (hX164 : ∀ x1 x4 x5 x6 x8 x9 t0 t1 s, X164 x1 x4 x5 x6 x8 x9 t0 t1 s → Y164 x1 x4 x5 x6 x8 x9 t0 t1 s) (hQ : ∀ r s, Q r s → R r s) {o : Nat} {p1 : Int} {p2 : Int} {s : Mem} (h : x3_solve_be X67 X91 X122 X144 X164 Q o p1 p2 s) : x3_solve_be Y67 Y91 Y122 Y144 Y164 R o p1 p2 s :=
  ⟨h.1, have h := h.2; ⟨h.1, have h := h.2; ⟨h.1, have h := h.2; ⟨h.1, have h := h.2; ⟨h.1, have h := h.2; ⟨h.1, have h := h.2; ⟨h.1, have h := h.2; fun s1 e_s1 => have h := h s1 e_s1; hX67 _ _ _ h⟩⟩⟩⟩⟩⟩⟩
theorem x3_solve_m67 {o : Nat} {X67 Y67 : Int → Int → Mem → Prop} {X91 Y91 : Int → Int → Int → Int → Mem → Prop} {X122 Y122 : Int → Int → Int → Int → Int → Int → Mem → Prop} {X144 Y144 : Int → Int → Int → Int → Int → Int → Mem → Prop} {X164 Y164 : Int → Int → Int → Int → Int → Int → Int → Int → Mem → Prop} {Q R : Int → Mem → Prop} (hX67 : ∀ x1 x4 s, X67 x1 x4 s → Y67 x1 x4 s) (hX91 : ∀ x1 x4 t0 t1 s, X91 x1 x4 t0 t1 s → Y91 x1 x4 t0 t1 s) (hX122 : ∀ x1 x4 x5 x6 x8 x9 s, X122 x1 x4 x5 x6 x8 x9 s → Y122 x1 x4 x5 x6 x8 x9 s) (hX144 : ∀ x1 x4 x5 x6 x9 t0 s, X144 x1 x4 x5 x6 x9 t0 s → Y144 x1 x4 x5 x6 x9 t0 s) (hX164 : ∀ x1 x4 x5 x6 x8 x9 t0 t1 s, X164 x1 x4 x5 x6 x8 x9 t0 t1 s → Y164 x1 x4 x5 x6 x8 x9 t0 t1 s) (hQ : ∀ r s, Q r s → R r s) {x1 : Int} {x4 : Int} {s : Mem} (h : x3_solve_b67 o X67 X91 X122 X144 X164 Q x1 x4 s) : x3_solve_b67 o Y67 Y91 Y122 Y144 Y164 R x1 x4 s :=
  ⟨h.1, fun c => have h := h.2.1 c; hQ _ _ h, fun c => have h := h.2.2 c; ⟨h.1, fun c => have h := h.2.1 c; hX91 _ _ _ _ _ h, fun c => have h := h.2.2 c; hX91 _ _ _ _ _ h⟩⟩
theorem x3_solve_m91 {o : Nat} {X67 Y67 : Int → Int → Mem → Prop} {X91 Y91 : Int → Int → Int → Int → Mem → Prop} {X122 Y122 : Int → Int → Int → Int → Int → Int → Mem → Prop} {X144 Y144 : Int → Int → Int → Int → Int → Int → Mem → Prop} {X164 Y164 : Int → Int → Int → Int → Int → Int → Int → Int → Mem → Prop} {Q R : Int → Mem → Prop} (hX67 : ∀ x1 x4 s, X67 x1 x4 s → Y67 x1 x4 s) (hX91 : ∀ x1 x4 t0 t1 s, X91 x1 x4 t0 t1 s → Y91 x1 x4 t0 t1 s) (hX122 : ∀ x1 x4 x5 x6 x8 x9 s, X122 x1 x4 x5 x6 x8 x9 s → Y122 x1 x4 x5 x6 x8 x9 s) (hX144 : ∀ x1 x4 x5 x6 x9 t0 s, X144 x1 x4 x5 x6 x9 t0 s → Y144 x1 x4 x5 x6 x9 t0 s) (hX164 : ∀ x1 x4 x5 x6 x8 x9 t0 t1 s, X164 x1 x4 x5 x6 x8 x9 t0 t1 s → Y164 x1 x4 x5 x6 x8 x9 t0 t1 s) (hQ : ∀ r s, Q r s → R r s) {x1 : Int} {x4 : Int} {t0 : Int} {t1 : Int} {s : Mem} (h : x3_solve_b91 o X67 X91 X122 X144 X164 Q x1 x4 t0 t1 s) : x3_solve_b91 o Y67 Y91 Y122 Y144 Y164 R x1 x4 t0 t1 s :=
  ⟨h.1, have h := h.2; ⟨h.1, have h := h.2; fun v4 e_v4 => have h := h v4 e_v4; hX122 _ _ _ _ _ _ _ h⟩⟩
theorem x3_solve_m122 {o : Nat} {X67 Y67 : Int → Int → Mem → Prop} {X91 Y91 : Int → Int → Int → Int → Mem → Prop} {X122 Y122 : Int → Int → Int → Int → Int → Int → Mem → Prop} {X144 Y144 : Int → Int → Int → Int → Int → Int → Mem → Prop} {X164 Y164 : Int → Int → Int → Int → Int → Int → Int → Int → Mem → Prop} {Q R : Int → Mem → Prop} (hX67 : ∀ x1 x4 s, X67 x1 x4 s → Y67 x1 x4 s) (hX91 : ∀ x1 x4 t0 t1 s, X91 x1 x4 t0 t1 s → Y91 x1 x4 t0 t1 s) (hX122 : ∀ x1 x4 x5 x6 x8 x9 s, X122 x1 x4 x5 x6 x8 x9 s → Y122 x1 x4 x5 x6 x8 x9 s) (hX144 : ∀ x1 x4 x5 x6 x9 t0 s, X144 x1 x4 x5 x6 x9 t0 s → Y144 x1 x4 x5 x6 x9 t0 s) (hX164 : ∀ x1 x4 x5 x6 x8 x9 t0 t1 s, X164 x1 x4 x5 x6 x8 x9 t0 t1 s → Y164 x1 x4 x5 x6 x8 x9 t0 t1 s) (hQ : ∀ r s, Q r s → R r s) {x1 : Int} {x4 : Int} {x5 : Int} {x6 : Int} {x8 : Int} {x9 : Int} {s : Mem} (h : x3_solve_b122 o X67 X91 X122 X144 X164 Q x1 x4 x5 x6 x8 x9 s) : x3_solve_b122 o Y67 Y91 Y122 Y144 Y164 R x1 x4 x5 x6 x8 x9 s :=
  ⟨h.1, fun c => have h := h.2.1 c; ⟨h.1, have h := h.2; fun s5 e_s5 => have h := h s5 e_s5; hX67 _ _ _ h⟩, fun c => have h := h.2.2 c; ⟨h.1, fun c => have h := h.2.1 c; hX144 _ _ _ _ _ _ _ h, fun c => have h := h.2.2 c; hX144 _ _ _ _ _ _ _ h⟩⟩
theorem x3_solve_m144 {o : Nat} {X67 Y67 : Int → Int → Mem → Prop} {X91 Y91 : Int → Int → Int → Int → Mem → Prop} {X122 Y122 : Int → Int → Int → Int → Int → Int → Mem → Prop} {X144 Y144 : Int → Int → Int → Int → Int → Int → Mem → Prop} {X164 Y164 : Int → Int → Int → Int → Int → Int → Int → Int → Mem → Prop} {Q R : Int → Mem → Prop} (hX67 : ∀ x1 x4 s, X67 x1 x4 s → Y67 x1 x4 s) (hX91 : ∀ x1 x4 t0 t1 s, X91 x1 x4 t0 t1 s → Y91 x1 x4 t0 t1 s) (hX122 : ∀ x1 x4 x5 x6 x8 x9 s, X122 x1 x4 x5 x6 x8 x9 s → Y122 x1 x4 x5 x6 x8 x9 s) (hX144 : ∀ x1 x4 x5 x6 x9 t0 s, X144 x1 x4 x5 x6 x9 t0 s → Y144 x1 x4 x5 x6 x9 t0 s) (hX164 : ∀ x1 x4 x5 x6 x8 x9 t0 t1 s, X164 x1 x4 x5 x6 x8 x9 t0 t1 s → Y164 x1 x4 x5 x6 x8 x9 t0 t1 s) (hQ : ∀ r s, Q r s → R r s) {x1 : Int} {x4 : Int} {x5 : Int} {x6 : Int} {x9 : Int} {t0 : Int} {s : Mem} (h : x3_solve_b144 o X67 X91 X122 X144 X164 Q x1 x4 x5 x6 x9 t0 s) : x3_solve_b144 o Y67 Y91 Y122 Y144 Y164 R x1 x4 x5 x6 x9 t0 s :=
  ⟨h.1, fun c => have h := h.2.1 c; hX164 _ _ _ _ _ _ _ _ _ h, fun c => have h := h.2.2 c; hX164 _ _ _ _ _ _ _ _ _ h⟩
theorem x3_solve_m164 {o : Nat} {X67 Y67 : Int → Int → Mem → Prop} {X91 Y91 : Int → Int → Int → Int → Mem → Prop} {X122 Y122 : Int → Int → Int → Int → Int → Int → Mem → Prop} {X144 Y144 : Int → Int → Int → Int → Int → Int → Mem → Prop} {X164 Y164 : Int → Int → Int → Int → Int → Int → Int → Int → Mem → Prop} {Q R : Int → Mem → Prop} (hX67 : ∀ x1 x4 s, X67 x1 x4 s → Y67 x1 x4 s) (hX91 : ∀ x1 x4 t0 t1 s, X91 x1 x4 t0 t1 s → Y91 x1 x4 t0 t1 s) (hX122 : ∀ x1 x4 x5 x6 x8 x9 s, X122 x1 x4 x5 x6 x8 x9 s → Y122 x1 x4 x5 x6 x8 x9 s) (hX144 : ∀ x1 x4 x5 x6 x9 t0 s, X144 x1 x4 x5 x6 x9 t0 s → Y144 x1 x4 x5 x6 x9 t0 s) (hX164 : ∀ x1 x4 x5 x6 x8 x9 t0 t1 s, X164 x1 x4 x5 x6 x8 x9 t0 t1 s → Y164 x1 x4 x5 x6 x8 x9 t0 t1 s) (hQ : ∀ r s, Q r s → R r s) {x1 : Int} {x4 : Int} {x5 : Int} {x6 : Int} {x8 : Int} {x9 : Int} {t0 : Int} {t1 : Int} {s : Mem} (h : x3_solve_b164 o X67 X91 X122 X144 X164 Q x1 x4 x5 x6 x8 x9 t0 t1 s) : x3_solve_b164 o Y67 Y91 Y122 Y144 Y164 R x1 x4 x5 x6 x8 x9 t0 t1 s :=
  ⟨h.1, have h := h.2; ⟨h.1, have h := h.2; fun v9 e_v9 => have h := h v9 e_v9; ⟨h.1, have h := h.2; ⟨h.1, have h := h.2; fun v10 e_v10 => have h := h v10 e_v10; ⟨h.1, have h := h.2; fun v11 e_v11 => have h := h v11 e_v11; hX122 _ _ _ _ _ _ _ h⟩⟩⟩⟩⟩
def x3_solve (o : Nat) (p1 : Int) (p2 : Int) (s : Mem) (Q : Int → Mem → Prop) : Prop := ∀ (X67 : Int → Int → Mem → Prop) (X91 : Int → Int → Int → Int → Mem → Prop) (X122 : Int → Int → Int → Int → Int → Int → Mem → Prop) (X144 : Int → Int → Int → Int → Int → Int → Mem → Prop) (X164 : Int → Int → Int → Int → Int → Int → Int → Int → Mem → Prop), (∀ x1 x4 s, x3_solve_b67 o X67 X91 X122 X144 X164 Q x1 x4 s → X67 x1 x4 s) → (∀ x1 x4 t0 t1 s, x3_solve_b91 o X67 X91 X122 X144 X164 Q x1 x4 t0 t1 s → X91 x1 x4 t0 t1 s) → (∀ x1 x4 x5 x6 x8 x9 s, x3_solve_b122 o X67 X91 X122 X144 X164 Q x1 x4 x5 x6 x8 x9 s → X122 x1 x4 x5 x6 x8 x9 s) → (∀ x1 x4 x5 x6 x9 t0 s, x3_solve_b144 o X67 X91 X122 X144 X164 Q x1 x4 x5 x6 x9 t0 s → X144 x1 x4 x5 x6 x9 t0 s) → (∀ x1 x4 x5 x6 x8 x9 t0 t1 s, x3_solve_b164 o X67 X91 X122 X144 X164 Q x1 x4 x5 x6 x8 x9 t0 t1 s → X164 x1 x4 x5 x6 x8 x9 t0 t1 s) → x3_solve_be X67 X91 X122 X144 X164 Q o p1 p2 s
def x3_solve_L67 (o : Nat) (Q : Int → Mem → Prop) (x1 : Int) (x4 : Int) (s : Mem) : Prop := ∀ (X67 : Int → Int → Mem → Prop) (X91 : Int → Int → Int → Int → Mem → Prop) (X122 : Int → Int → Int → Int → Int → Int → Mem → Prop) (X144 : Int → Int → Int → Int → Int → Int → Mem → Prop) (X164 : Int → Int → Int → Int → Int → Int → Int → Int → Mem → Prop), (∀ x1 x4 s, x3_solve_b67 o X67 X91 X122 X144 X164 Q x1 x4 s → X67 x1 x4 s) → (∀ x1 x4 t0 t1 s, x3_solve_b91 o X67 X91 X122 X144 X164 Q x1 x4 t0 t1 s → X91 x1 x4 t0 t1 s) → (∀ x1 x4 x5 x6 x8 x9 s, x3_solve_b122 o X67 X91 X122 X144 X164 Q x1 x4 x5 x6 x8 x9 s → X122 x1 x4 x5 x6 x8 x9 s) → (∀ x1 x4 x5 x6 x9 t0 s, x3_solve_b144 o X67 X91 X122 X144 X164 Q x1 x4 x5 x6 x9 t0 s → X144 x1 x4 x5 x6 x9 t0 s) → (∀ x1 x4 x5 x6 x8 x9 t0 t1 s, x3_solve_b164 o X67 X91 X122 X144 X164 Q x1 x4 x5 x6 x8 x9 t0 t1 s → X164 x1 x4 x5 x6 x8 x9 t0 t1 s) → X67 x1 x4 s
def x3_solve_L91 (o : Nat) (Q : Int → Mem → Prop) (x1 : Int) (x4 : Int) (t0 : Int) (t1 : Int) (s : Mem) : Prop := ∀ (X67 : Int → Int → Mem → Prop) (X91 : Int → Int → Int → Int → Mem → Prop) (X122 : Int → Int → Int → Int → Int → Int → Mem → Prop) (X144 : Int → Int → Int → Int → Int → Int → Mem → Prop) (X164 : Int → Int → Int → Int → Int → Int → Int → Int → Mem → Prop), (∀ x1 x4 s, x3_solve_b67 o X67 X91 X122 X144 X164 Q x1 x4 s → X67 x1 x4 s) → (∀ x1 x4 t0 t1 s, x3_solve_b91 o X67 X91 X122 X144 X164 Q x1 x4 t0 t1 s → X91 x1 x4 t0 t1 s) → (∀ x1 x4 x5 x6 x8 x9 s, x3_solve_b122 o X67 X91 X122 X144 X164 Q x1 x4 x5 x6 x8 x9 s → X122 x1 x4 x5 x6 x8 x9 s) → (∀ x1 x4 x5 x6 x9 t0 s, x3_solve_b144 o X67 X91 X122 X144 X164 Q x1 x4 x5 x6 x9 t0 s → X144 x1 x4 x5 x6 x9 t0 s) → (∀ x1 x4 x5 x6 x8 x9 t0 t1 s, x3_solve_b164 o X67 X91 X122 X144 X164 Q x1 x4 x5 x6 x8 x9 t0 t1 s → X164 x1 x4 x5 x6 x8 x9 t0 t1 s) → X91 x1 x4 t0 t1 s
def x3_solve_L122 (o : Nat) (Q : Int → Mem → Prop) (x1 : Int) (x4 : Int) (x5 : Int) (x6 : Int) (x8 : Int) (x9 : Int) (s : Mem) : Prop := ∀ (X67 : Int → Int → Mem → Prop) (X91 : Int → Int → Int → Int → Mem → Prop) (X122 : Int → Int → Int → Int → Int → Int → Mem → Prop) (X144 : Int → Int → Int → Int → Int → Int → Mem → Prop) (X164 : Int → Int → Int → Int → Int → Int → Int → Int → Mem → Prop), (∀ x1 x4 s, x3_solve_b67 o X67 X91 X122 X144 X164 Q x1 x4 s → X67 x1 x4 s) → (∀ x1 x4 t0 t1 s, x3_solve_b91 o X67 X91 X122 X144 X164 Q x1 x4 t0 t1 s → X91 x1 x4 t0 t1 s) → (∀ x1 x4 x5 x6 x8 x9 s, x3_solve_b122 o X67 X91 X122 X144 X164 Q x1 x4 x5 x6 x8 x9 s → X122 x1 x4 x5 x6 x8 x9 s) → (∀ x1 x4 x5 x6 x9 t0 s, x3_solve_b144 o X67 X91 X122 X144 X164 Q x1 x4 x5 x6 x9 t0 s → X144 x1 x4 x5 x6 x9 t0 s) → (∀ x1 x4 x5 x6 x8 x9 t0 t1 s, x3_solve_b164 o X67 X91 X122 X144 X164 Q x1 x4 x5 x6 x8 x9 t0 t1 s → X164 x1 x4 x5 x6 x8 x9 t0 t1 s) → X122 x1 x4 x5 x6 x8 x9 s
def x3_solve_L144 (o : Nat) (Q : Int → Mem → Prop) (x1 : Int) (x4 : Int) (x5 : Int) (x6 : Int) (x9 : Int) (t0 : Int) (s : Mem) : Prop := ∀ (X67 : Int → Int → Mem → Prop) (X91 : Int → Int → Int → Int → Mem → Prop) (X122 : Int → Int → Int → Int → Int → Int → Mem → Prop) (X144 : Int → Int → Int → Int → Int → Int → Mem → Prop) (X164 : Int → Int → Int → Int → Int → Int → Int → Int → Mem → Prop), (∀ x1 x4 s, x3_solve_b67 o X67 X91 X122 X144 X164 Q x1 x4 s → X67 x1 x4 s) → (∀ x1 x4 t0 t1 s, x3_solve_b91 o X67 X91 X122 X144 X164 Q x1 x4 t0 t1 s → X91 x1 x4 t0 t1 s) → (∀ x1 x4 x5 x6 x8 x9 s, x3_solve_b122 o X67 X91 X122 X144 X164 Q x1 x4 x5 x6 x8 x9 s → X122 x1 x4 x5 x6 x8 x9 s) → (∀ x1 x4 x5 x6 x9 t0 s, x3_solve_b144 o X67 X91 X122 X144 X164 Q x1 x4 x5 x6 x9 t0 s → X144 x1 x4 x5 x6 x9 t0 s) → (∀ x1 x4 x5 x6 x8 x9 t0 t1 s, x3_solve_b164 o X67 X91 X122 X144 X164 Q x1 x4 x5 x6 x8 x9 t0 t1 s → X164 x1 x4 x5 x6 x8 x9 t0 t1 s) → X144 x1 x4 x5 x6 x9 t0 s
def x3_solve_L164 (o : Nat) (Q : Int → Mem → Prop) (x1 : Int) (x4 : Int) (x5 : Int) (x6 : Int) (x8 : Int) (x9 : Int) (t0 : Int) (t1 : Int) (s : Mem) : Prop := ∀ (X67 : Int → Int → Mem → Prop) (X91 : Int → Int → Int → Int → Mem → Prop) (X122 : Int → Int → Int → Int → Int → Int → Mem → Prop) (X144 : Int → Int → Int → Int → Int → Int → Mem → Prop) (X164 : Int → Int → Int → Int → Int → Int → Int → Int → Mem → Prop), (∀ x1 x4 s, x3_solve_b67 o X67 X91 X122 X144 X164 Q x1 x4 s → X67 x1 x4 s) → (∀ x1 x4 t0 t1 s, x3_solve_b91 o X67 X91 X122 X144 X164 Q x1 x4 t0 t1 s → X91 x1 x4 t0 t1 s) → (∀ x1 x4 x5 x6 x8 x9 s, x3_solve_b122 o X67 X91 X122 X144 X164 Q x1 x4 x5 x6 x8 x9 s → X122 x1 x4 x5 x6 x8 x9 s) → (∀ x1 x4 x5 x6 x9 t0 s, x3_solve_b144 o X67 X91 X122 X144 X164 Q x1 x4 x5 x6 x9 t0 s → X144 x1 x4 x5 x6 x9 t0 s) → (∀ x1 x4 x5 x6 x8 x9 t0 t1 s, x3_solve_b164 o X67 X91 X122 X144 X164 Q x1 x4 x5 x6 x8 x9 t0 t1 s → X164 x1 x4 x5 x6 x8 x9 t0 t1 s) → X164 x1 x4 x5 x6 x8 x9 t0 t1 s
theorem x3_solve_i {Q : Int → Mem → Prop} {o : Nat} {p1 : Int} {p2 : Int} {s : Mem} (h : x3_solve_be (x3_solve_L67 o Q) (x3_solve_L91 o Q) (x3_solve_L122 o Q) (x3_solve_L144 o Q) (x3_solve_L164 o Q) Q o p1 p2 s) : x3_solve o p1 p2 s Q := fun X67 X91 X122 X144 X164 k67 k91 k122 k144 k164 => x3_solve_me (fun _ _ _ h => h X67 X91 X122 X144 X164 k67 k91 k122 k144 k164) (fun _ _ _ _ _ h => h X67 X91 X122 X144 X164 k67 k91 k122 k144 k164) (fun _ _ _ _ _ _ _ h => h X67 X91 X122 X144 X164 k67 k91 k122 k144 k164) (fun _ _ _ _ _ _ _ h => h X67 X91 X122 X144 X164 k67 k91 k122 k144 k164) (fun _ _ _ _ _ _ _ _ _ h => h X67 X91 X122 X144 X164 k67 k91 k122 k144 k164) (fun _ _ h => h) h
theorem x3_solve_s67 {o : Nat} {Q : Int → Mem → Prop} {x1 : Int} {x4 : Int} {s : Mem} (h : x3_solve_b67 o (x3_solve_L67 o Q) (x3_solve_L91 o Q) (x3_solve_L122 o Q) (x3_solve_L144 o Q) (x3_solve_L164 o Q) Q x1 x4 s) : x3_solve_L67 o Q x1 x4 s := fun X67 X91 X122 X144 X164 k67 k91 k122 k144 k164 => k67 _ _ _ (x3_solve_m67 (fun _ _ _ h => h X67 X91 X122 X144 X164 k67 k91 k122 k144 k164) (fun _ _ _ _ _ h => h X67 X91 X122 X144 X164 k67 k91 k122 k144 k164) (fun _ _ _ _ _ _ _ h => h X67 X91 X122 X144 X164 k67 k91 k122 k144 k164) (fun _ _ _ _ _ _ _ h => h X67 X91 X122 X144 X164 k67 k91 k122 k144 k164) (fun _ _ _ _ _ _ _ _ _ h => h X67 X91 X122 X144 X164 k67 k91 k122 k144 k164) (fun _ _ h => h) h)
theorem x3_solve_s91 {o : Nat} {Q : Int → Mem → Prop} {x1 : Int} {x4 : Int} {t0 : Int} {t1 : Int} {s : Mem} (h : x3_solve_b91 o (x3_solve_L67 o Q) (x3_solve_L91 o Q) (x3_solve_L122 o Q) (x3_solve_L144 o Q) (x3_solve_L164 o Q) Q x1 x4 t0 t1 s) : x3_solve_L91 o Q x1 x4 t0 t1 s := fun X67 X91 X122 X144 X164 k67 k91 k122 k144 k164 => k91 _ _ _ _ _ (x3_solve_m91 (fun _ _ _ h => h X67 X91 X122 X144 X164 k67 k91 k122 k144 k164) (fun _ _ _ _ _ h => h X67 X91 X122 X144 X164 k67 k91 k122 k144 k164) (fun _ _ _ _ _ _ _ h => h X67 X91 X122 X144 X164 k67 k91 k122 k144 k164) (fun _ _ _ _ _ _ _ h => h X67 X91 X122 X144 X164 k67 k91 k122 k144 k164) (fun _ _ _ _ _ _ _ _ _ h => h X67 X91 X122 X144 X164 k67 k91 k122 k144 k164) (fun _ _ h => h) h)
theorem x3_solve_s122 {o : Nat} {Q : Int → Mem → Prop} {x1 : Int} {x4 : Int} {x5 : Int} {x6 : Int} {x8 : Int} {x9 : Int} {s : Mem} (h : x3_solve_b122 o (x3_solve_L67 o Q) (x3_solve_L91 o Q) (x3_solve_L122 o Q) (x3_solve_L144 o Q) (x3_solve_L164 o Q) Q x1 x4 x5 x6 x8 x9 s) : x3_solve_L122 o Q x1 x4 x5 x6 x8 x9 s := fun X67 X91 X122 X144 X164 k67 k91 k122 k144 k164 => k122 _ _ _ _ _ _ _ (x3_solve_m122 (fun _ _ _ h => h X67 X91 X122 X144 X164 k67 k91 k122 k144 k164) (fun _ _ _ _ _ h => h X67 X91 X122 X144 X164 k67 k91 k122 k144 k164) (fun _ _ _ _ _ _ _ h => h X67 X91 X122 X144 X164 k67 k91 k122 k144 k164) (fun _ _ _ _ _ _ _ h => h X67 X91 X122 X144 X164 k67 k91 k122 k144 k164) (fun _ _ _ _ _ _ _ _ _ h => h X67 X91 X122 X144 X164 k67 k91 k122 k144 k164) (fun _ _ h => h) h)
theorem x3_solve_s144 {o : Nat} {Q : Int → Mem → Prop} {x1 : Int} {x4 : Int} {x5 : Int} {x6 : Int} {x9 : Int} {t0 : Int} {s : Mem} (h : x3_solve_b144 o (x3_solve_L67 o Q) (x3_solve_L91 o Q) (x3_solve_L122 o Q) (x3_solve_L144 o Q) (x3_solve_L164 o Q) Q x1 x4 x5 x6 x9 t0 s) : x3_solve_L144 o Q x1 x4 x5 x6 x9 t0 s := fun X67 X91 X122 X144 X164 k67 k91 k122 k144 k164 => k144 _ _ _ _ _ _ _ (x3_solve_m144 (fun _ _ _ h => h X67 X91 X122 X144 X164 k67 k91 k122 k144 k164) (fun _ _ _ _ _ h => h X67 X91 X122 X144 X164 k67 k91 k122 k144 k164) (fun _ _ _ _ _ _ _ h => h X67 X91 X122 X144 X164 k67 k91 k122 k144 k164) (fun _ _ _ _ _ _ _ h => h X67 X91 X122 X144 X164 k67 k91 k122 k144 k164) (fun _ _ _ _ _ _ _ _ _ h => h X67 X91 X122 X144 X164 k67 k91 k122 k144 k164) (fun _ _ h => h) h)
theorem x3_solve_s164 {o : Nat} {Q : Int → Mem → Prop} {x1 : Int} {x4 : Int} {x5 : Int} {x6 : Int} {x8 : Int} {x9 : Int} {t0 : Int} {t1 : Int} {s : Mem} (h : x3_solve_b164 o (x3_solve_L67 o Q) (x3_solve_L91 o Q) (x3_solve_L122 o Q) (x3_solve_L144 o Q) (x3_solve_L164 o Q) Q x1 x4 x5 x6 x8 x9 t0 t1 s) : x3_solve_L164 o Q x1 x4 x5 x6 x8 x9 t0 t1 s := fun X67 X91 X122 X144 X164 k67 k91 k122 k144 k164 => k164 _ _ _ _ _ _ _ _ _ (x3_solve_m164 (fun _ _ _ h => h X67 X91 X122 X144 X164 k67 k91 k122 k144 k164) (fun _ _ _ _ _ h => h X67 X91 X122 X144 X164 k67 k91 k122 k144 k164) (fun _ _ _ _ _ _ _ h => h X67 X91 X122 X144 X164 k67 k91 k122 k144 k164) (fun _ _ _ _ _ _ _ h => h X67 X91 X122 X144 X164 k67 k91 k122 k144 k164) (fun _ _ _ _ _ _ _ _ _ h => h X67 X91 X122 X144 X164 k67 k91 k122 k144 k164) (fun _ _ h => h) h)
theorem x3_solve_mono {Q R : Int → Mem → Prop} {o : Nat} {p1 : Int} {p2 : Int} {s : Mem} (h : x3_solve o p1 p2 s Q) (hQ : ∀ r s, Q r s → R r s) : x3_solve o p1 p2 s R := fun X67 X91 X122 X144 X164 k67 k91 k122 k144 k164 => x3_solve_me (fun _ _ _ h => h) (fun _ _ _ _ _ h => h) (fun _ _ _ _ _ _ _ h => h) (fun _ _ _ _ _ _ _ h => h) (fun _ _ _ _ _ _ _ _ _ h => h) hQ (h X67 X91 X122 X144 X164 (fun _ _ _ h => k67 _ _ _ (x3_solve_m67 (fun _ _ _ h => h) (fun _ _ _ _ _ h => h) (fun _ _ _ _ _ _ _ h => h) (fun _ _ _ _ _ _ _ h => h) (fun _ _ _ _ _ _ _ _ _ h => h) hQ h)) (fun _ _ _ _ _ h => k91 _ _ _ _ _ (x3_solve_m91 (fun _ _ _ h => h) (fun _ _ _ _ _ h => h) (fun _ _ _ _ _ _ _ h => h) (fun _ _ _ _ _ _ _ h => h) (fun _ _ _ _ _ _ _ _ _ h => h) hQ h)) (fun _ _ _ _ _ _ _ h => k122 _ _ _ _ _ _ _ (x3_solve_m122 (fun _ _ _ h => h) (fun _ _ _ _ _ h => h) (fun _ _ _ _ _ _ _ h => h) (fun _ _ _ _ _ _ _ h => h) (fun _ _ _ _ _ _ _ _ _ h => h) hQ h)) (fun _ _ _ _ _ _ _ h => k144 _ _ _ _ _ _ _ (x3_solve_m144 (fun _ _ _ h => h) (fun _ _ _ _ _ h => h) (fun _ _ _ _ _ _ _ h => h) (fun _ _ _ _ _ _ _ h => h) (fun _ _ _ _ _ _ _ _ _ h => h) hQ h)) (fun _ _ _ _ _ _ _ _ _ h => k164 _ _ _ _ _ _ _ _ _ (x3_solve_m164 (fun _ _ _ h => h) (fun _ _ _ _ _ h => h) (fun _ _ _ _ _ _ _ h => h) (fun _ _ _ _ _ _ _ h => h) (fun _ _ _ _ _ _ _ _ _ h => h) hQ h)))
def x3_solve_rm : Room := { frames := 0, cells := 0, slots := 0, locals := 0 }
theorem w_x3_solve_19 : Cond.fieldLink RX3 19 "BoltRing$Lifts" "diagonal" "[J" ∈ wsX3_solve := by decide +kernel
theorem w_x3_solve_28 : Cond.fieldLink RX3 28 "BoltRing$Lifts" "arcs" "[J" ∈ wsX3_solve := by decide +kernel
theorem w_x3_solve_68 : Cond.constantLong RX3 68 (2) ∈ wsX3_solve := by decide +kernel
theorem w_x3_solve_25 : Cond.fieldLink RX3 25 "BoltRing$Lifts" "ribPowers" "[J" ∈ wsX3_solve := by decide +kernel
theorem w_x3_solve_15 : Cond.fieldLink RX3 15 "BoltRing$Lifts" "lower" "J" ∈ wsX3_solve := by decide +kernel
theorem w_x3_solve_22 : Cond.fieldLink RX3 22 "BoltRing$Lifts" "side" "[J" ∈ wsX3_solve := by decide +kernel
theorem w_x3_solve_9 : Cond.fieldLink RX3 9 "BoltRing$Lifts" "upper" "[J" ∈ wsX3_solve := by decide +kernel
theorem in_x3_solve_X3 : ∀ w ∈ wsX30, w ∈ wsX3_solve := by decide +kernel
set_option maxHeartbeats 4000000 in
set_option maxRecDepth 100000 in
theorem x3_solve_bd {κ : KT} {ad : Nat → Nat} {cA : Nat → ClassId} {D : va_G} {Q : State → Prop} {o : Nat} {p1 : Int} {p2 : Int} {s : Mem} (ho : LfA o) (C : CX κ (GA ad cA D) RX3 cX3_solve 15 wsX3_solve x3_solve_rm none) (h : x3_solve o p1 p2 s (RT κ (GA ad cA D) ocV Q)) : WM κ (GA ad cA D) 15 Q s 0 [(0, .ref (ad o)), (1, vI p1), (2, vI p2)] [] := by
  obtain ⟨Z67, z67⟩ : ∃ Z : Int → Int → Mem → Prop, ∀ x1 x4 s, Z x1 x4 s ↔ WM κ (GA ad cA D) 15 Q s 67 [(0, .ref (ad o)), (1, vI x1), (4, vI x4)] [] := ⟨fun x1 x4 s => WM κ (GA ad cA D) 15 Q s 67 [(0, .ref (ad o)), (1, vI x1), (4, vI x4)] [], fun _ _ _ => Iff.rfl⟩
  obtain ⟨Z91, z91⟩ : ∃ Z : Int → Int → Int → Int → Mem → Prop, ∀ x1 x4 t0 t1 s, Z x1 x4 t0 t1 s ↔ WM κ (GA ad cA D) 15 Q s 91 [(0, .ref (ad o)), (1, vI x1), (4, vI x4)] [vI t0, vI t1] := ⟨fun x1 x4 t0 t1 s => WM κ (GA ad cA D) 15 Q s 91 [(0, .ref (ad o)), (1, vI x1), (4, vI x4)] [vI t0, vI t1], fun _ _ _ _ _ => Iff.rfl⟩
  obtain ⟨Z122, z122⟩ : ∃ Z : Int → Int → Int → Int → Int → Int → Mem → Prop, ∀ x1 x4 x5 x6 x8 x9 s, Z x1 x4 x5 x6 x8 x9 s ↔ WM κ (GA ad cA D) 15 Q s 122 [(0, .ref (ad o)), (1, vI x1), (4, vI x4), (5, vI x5), (6, vL x6), (8, vI x8), (9, vI x9)] [] := ⟨fun x1 x4 x5 x6 x8 x9 s => WM κ (GA ad cA D) 15 Q s 122 [(0, .ref (ad o)), (1, vI x1), (4, vI x4), (5, vI x5), (6, vL x6), (8, vI x8), (9, vI x9)] [], fun _ _ _ _ _ _ _ => Iff.rfl⟩
  obtain ⟨Z144, z144⟩ : ∃ Z : Int → Int → Int → Int → Int → Int → Mem → Prop, ∀ x1 x4 x5 x6 x9 t0 s, Z x1 x4 x5 x6 x9 t0 s ↔ WM κ (GA ad cA D) 15 Q s 144 [(0, .ref (ad o)), (1, vI x1), (4, vI x4), (5, vI x5), (6, vL x6), (9, vI x9)] [vI t0] := ⟨fun x1 x4 x5 x6 x9 t0 s => WM κ (GA ad cA D) 15 Q s 144 [(0, .ref (ad o)), (1, vI x1), (4, vI x4), (5, vI x5), (6, vL x6), (9, vI x9)] [vI t0], fun _ _ _ _ _ _ _ => Iff.rfl⟩
  obtain ⟨Z164, z164⟩ : ∃ Z : Int → Int → Int → Int → Int → Int → Int → Int → Mem → Prop, ∀ x1 x4 x5 x6 x8 x9 t0 t1 s, Z x1 x4 x5 x6 x8 x9 t0 t1 s ↔ WM κ (GA ad cA D) 15 Q s 164 [(0, .ref (ad o)), (1, vI x1), (4, vI x4), (5, vI x5), (6, vL x6), (8, vI x8), (9, vI x9)] [vI t0, vI t1] := ⟨fun x1 x4 x5 x6 x8 x9 t0 t1 s => WM κ (GA ad cA D) 15 Q s 164 [(0, .ref (ad o)), (1, vI x1), (4, vI x4), (5, vI x5), (6, vL x6), (8, vI x8), (9, vI x9)] [vI t0, vI t1], fun _ _ _ _ _ _ _ _ _ => Iff.rfl⟩
  refine (fun h => ?_) (h Z67 Z91 Z122 Z144 Z164 ?_ ?_ ?_ ?_ ?_)
  · refine r_bipush C dX3_solve_0 (by decide) ?_
    refine r_istore_n (ls' := [(3, vI (6 : Int)), (0, .ref (ad o)), (1, vI p1), (2, vI p2)]) C dX3_solve_2 rfl (by decide) rfl ?_
    refine r_aload_n C 1 dX3_solve_3 rfl ?_
    refine r_aload_n C 1 dX3_solve_4 rfl ?_
    refine r_get (j := 2) (jz := 2) (v := .ref (ad (o + 2))) C dX3_solve_5 (lf_0 ho) rfl rfl (by decide) in_x3_solve_X3 w_x3_solve_19 rfl rfl rfl ?_
    refine r_iconst C dX3_solve_8 ?_
    refine r_lald (nz := 6) C dX3_solve_9 (lf_2 ho) rfl (by decide) ⟨h.1, ?_⟩
    have h := h.2
    refine r_aload_n C 1 dX3_solve_10 rfl ?_
    refine r_get (j := 5) (jz := 5) (v := .ref (ad (o + 5))) C dX3_solve_11 (lf_0 ho) rfl rfl (by decide) in_x3_solve_X3 w_x3_solve_28 rfl rfl rfl ?_
    refine r_iload_n C 0 dX3_solve_14 rfl ?_
    refine r_iload_n C 2 dX3_solve_15 rfl ?_
    refine r_iadd C dX3_solve_16 ?_
    refine r_iconst C dX3_solve_17 ?_
    refine r_isub C dX3_solve_18 ?_
    refine r_lald (nz := 36) C dX3_solve_19 (lf_5 ho) rfl (by decide) ⟨h.1, ?_⟩
    have h := h.2
    refine r_lmul C dX3_solve_20 ?_
    refine r_ldc2 (z := 2) C dX3_solve_21 w_x3_solve_68 rfl ?_
    refine r_aload_n C 1 dX3_solve_24 rfl ?_
    refine r_get (j := 4) (jz := 4) (v := .ref (ad (o + 4))) C dX3_solve_25 (lf_0 ho) rfl rfl (by decide) in_x3_solve_X3 w_x3_solve_25 rfl rfl rfl ?_
    refine r_iload_n C 2 dX3_solve_28 rfl ?_
    refine r_lald (nz := 7) C dX3_solve_29 (lf_4 ho) rfl (by decide) ⟨h.1, ?_⟩
    have h := h.2
    refine r_lmul C dX3_solve_30 ?_
    refine r_lsub C dX3_solve_31 ?_
    refine r_iload_n C 3 dX3_solve_32 rfl ?_
    refine r_i2l C dX3_solve_33 ⟨h.1, ?_⟩
    have h := h.2
    refine r_iload_n C 3 dX3_solve_34 rfl ?_
    refine r_i2l C dX3_solve_35 ⟨h.1, ?_⟩
    have h := h.2
    refine r_lmul C dX3_solve_36 ?_
    refine r_aload_n C 1 dX3_solve_37 rfl ?_
    refine r_get (j := 5) (jz := 5) (v := .ref (ad (o + 5))) C dX3_solve_38 (lf_0 ho) rfl rfl (by decide) in_x3_solve_X3 w_x3_solve_28 rfl rfl rfl ?_
    refine r_iload_n C 0 dX3_solve_41 rfl ?_
    refine r_iload_n C 2 dX3_solve_42 rfl ?_
    refine r_iadd C dX3_solve_43 ?_
    refine r_iconst C dX3_solve_44 ?_
    refine r_isub C dX3_solve_45 ?_
    refine r_lald (nz := 36) C dX3_solve_46 (lf_5 ho) rfl (by decide) ⟨h.1, ?_⟩
    have h := h.2
    refine r_aload_n C 1 dX3_solve_47 rfl ?_
    refine r_get (j := 5) (jz := 5) (v := .ref (ad (o + 5))) C dX3_solve_48 (lf_0 ho) rfl rfl (by decide) in_x3_solve_X3 w_x3_solve_28 rfl rfl rfl ?_
    refine r_bipush C dX3_solve_51 (by decide) ?_
    refine r_iload_n C 2 dX3_solve_53 rfl ?_
    refine r_iadd C dX3_solve_54 ?_
    refine r_iconst C dX3_solve_55 ?_
    refine r_isub C dX3_solve_56 ?_
    refine r_lald (nz := 36) C dX3_solve_57 (lf_5 ho) rfl (by decide) ⟨h.1, ?_⟩
    have h := h.2
    refine r_ladd C dX3_solve_58 ?_
    refine r_lmul C dX3_solve_59 ?_
    refine r_lsub C dX3_solve_60 ?_
    refine r_putl (j := 1) (jz := 1) C dX3_solve_61 (lf_0 ho) rfl rfl (by decide) in_x3_solve_X3 tyX3 tyX3_ok nmX3 w_x3_solve_15 rfl rfl (by decide +kernel) rfl (fun s1 e_s1 => ?_)
    have h := h s1 e_s1
    refine r_iconst C dX3_solve_64 ?_
    refine r_istore (ls' := [(4, vI (0 : Int)), (3, vI (6 : Int)), (0, .ref (ad o)), (1, vI p1), (2, vI p2)]) C dX3_solve_65 (by decide) rfl ?_
    exact r_perm [2, 3, 0] rfl ((z67 _ _ _).1 h)
  · intro x1 x4 s h
    refine (z67 _ _ _).2 ?_
    refine r_iload C 2 dX3_solve_67 rfl ?_
    refine r_iload_n C 1 dX3_solve_69 rfl ?_
    refine r_icmp_ge (tgt := 254) C dX3_solve_70 (by decide) ⟨h.1, fun c3 => ?_, fun c3 => ?_⟩
    · have h := h.2.1 c3
      exact r_return C dX3_solve_254 h
    · have h := h.2.2 c3
      refine r_bipush C dX3_solve_73 (by decide) ?_
      refine r_iload C 2 dX3_solve_75 rfl ?_
      refine r_iconst C dX3_solve_77 ?_
      refine r_iadd C dX3_solve_78 ?_
      refine r_iload_n C 1 dX3_solve_79 rfl ?_
      refine r_icmp_ge (tgt := 90) C dX3_solve_80 (by decide) ⟨h.1, fun c2 => ?_, fun c2 => ?_⟩
      · have h := h.2.1 c2
        refine r_iconst C dX3_solve_90 ?_
        exact r_perm [0, 1, 2] rfl ((z91 _ _ _ _ _).1 h)
      · have h := h.2.2 c2
        refine r_iload C 2 dX3_solve_83 rfl ?_
        refine r_iconst C dX3_solve_85 ?_
        refine r_iadd C dX3_solve_86 ?_
        refine r_goto (tgt := 91) C dX3_solve_87 (by decide) ?_
        exact r_perm [0, 1, 2] rfl ((z91 _ _ _ _ _).1 h)
  · intro x1 x4 t0 t1 s h
    refine (z91 _ _ _ _ _).2 ?_
    refine r_imul C dX3_solve_91 ?_
    refine r_istore (ls' := [(5, vI (t1 * t0)), (0, .ref (ad o)), (1, vI x1), (4, vI x4)]) C dX3_solve_92 (by decide) rfl ?_
    refine r_aload_n C 1 dX3_solve_94 rfl ?_
    refine r_get (j := 3) (jz := 3) (v := .ref (ad (o + 3))) C dX3_solve_95 (lf_0 ho) rfl rfl (by decide) in_x3_solve_X3 w_x3_solve_22 rfl rfl rfl ?_
    refine r_iload C 3 dX3_solve_98 rfl ?_
    refine r_lald (nz := 6) C dX3_solve_100 (lf_3 ho) rfl (by decide) ⟨h.1, ?_⟩
    have h := h.2
    refine r_aload_n C 1 dX3_solve_101 rfl ?_
    refine r_get (j := 5) (jz := 5) (v := .ref (ad (o + 5))) C dX3_solve_102 (lf_0 ho) rfl rfl (by decide) in_x3_solve_X3 w_x3_solve_28 rfl rfl rfl ?_
    refine r_iload C 0 dX3_solve_105 rfl ?_
    refine r_iload_n C 2 dX3_solve_107 rfl ?_
    refine r_iadd C dX3_solve_108 ?_
    refine r_iconst C dX3_solve_109 ?_
    refine r_isub C dX3_solve_110 ?_
    refine r_lald (nz := 36) C dX3_solve_111 (lf_5 ho) rfl (by decide) ⟨h.1, ?_⟩
    have h := h.2
    refine r_lmul C dX3_solve_112 ?_
    refine r_topL (fun v4 e_v4 => ?_)
    have h := h v4 e_v4
    refine r_lstore (ls' := [(6, vL v4), (5, vI (t1 * t0)), (0, .ref (ad o)), (1, vI x1), (4, vI x4)]) C dX3_solve_113 (by decide) rfl ?_
    refine r_iload C 4 dX3_solve_115 rfl ?_
    refine r_istore (ls' := [(8, vI x4), (6, vL v4), (5, vI (t1 * t0)), (0, .ref (ad o)), (1, vI x1), (4, vI x4)]) C dX3_solve_117 (by decide) rfl ?_
    refine r_iconst C dX3_solve_119 ?_
    refine r_istore (ls' := [(9, vI (1 : Int)), (8, vI x4), (6, vL v4), (5, vI (t1 * t0)), (0, .ref (ad o)), (1, vI x1), (4, vI x4)]) C dX3_solve_120 (by decide) rfl ?_
    exact r_perm [4, 5, 6, 3, 2, 1, 0] rfl ((z122 _ _ _ _ _ _ _).1 h)
  · intro x1 x4 x5 x6 x8 x9 s h
    refine (z122 _ _ _ _ _ _ _).2 ?_
    refine r_iload C 6 dX3_solve_122 rfl ?_
    refine r_iload_n C 1 dX3_solve_124 rfl ?_
    refine r_icmp_ge (tgt := 239) C dX3_solve_125 (by decide) ⟨h.1, fun c7 => ?_, fun c7 => ?_⟩
    · have h := h.2.1 c7
      refine r_aload_n C 0 dX3_solve_239 rfl ?_
      refine r_get (j := 0) (jz := 0) (v := .ref (ad (o + 1))) C dX3_solve_240 (lf_0 ho) rfl rfl (by decide) in_x3_solve_X3 w_x3_solve_9 rfl rfl rfl ?_
      refine r_iload C 2 dX3_solve_243 rfl ?_
      refine r_lload C 4 dX3_solve_245 rfl ?_
      refine r_last (nz := 6) C dX3_solve_247 (lf_1 ho) rfl (by decide) ⟨h.1, fun s5 e_s5 => ?_⟩
      have h := h.2 s5 e_s5
      refine r_iinc (j := 2) (ls' := [(4, vI (x4 + (1 : Int))), (0, .ref (ad o)), (1, vI x1), (5, vI x5), (6, vL x6), (8, vI x8), (9, vI x9)]) C dX3_solve_248 rfl (by decide) rfl ?_
      refine r_goto (tgt := 67) C dX3_solve_251 (by decide) ?_
      exact r_perm [1, 2, 0] rfl ((z67 _ _ _).1 h)
    · have h := h.2.2 c7
      refine r_iload C 5 dX3_solve_128 rfl ?_
      refine r_iconst C dX3_solve_130 ?_
      refine r_iadd C dX3_solve_131 ?_
      refine r_iload_n C 1 dX3_solve_132 rfl ?_
      refine r_icmp_ge (tgt := 143) C dX3_solve_133 (by decide) ⟨h.1, fun c6 => ?_, fun c6 => ?_⟩
      · have h := h.2.1 c6
        refine r_iconst C dX3_solve_143 ?_
        exact r_perm [0, 1, 2, 3, 4, 6] rfl ((z144 _ _ _ _ _ _ _).1 h)
      · have h := h.2.2 c6
        refine r_iload C 5 dX3_solve_136 rfl ?_
        refine r_iconst C dX3_solve_138 ?_
        refine r_iadd C dX3_solve_139 ?_
        refine r_goto (tgt := 144) C dX3_solve_140 (by decide) ?_
        exact r_perm [0, 1, 2, 3, 4, 6] rfl ((z144 _ _ _ _ _ _ _).1 h)
  · intro x1 x4 x5 x6 x9 t0 s h
    refine (z144 _ _ _ _ _ _ _).2 ?_
    refine r_istore (ls' := [(8, vI t0), (0, .ref (ad o)), (1, vI x1), (4, vI x4), (5, vI x5), (6, vL x6), (9, vI x9)]) C dX3_solve_144 (by decide) rfl ?_
    refine r_bipush C dX3_solve_146 (by decide) ?_
    refine r_iload C 0 dX3_solve_148 rfl ?_
    refine r_iconst C dX3_solve_150 ?_
    refine r_iadd C dX3_solve_151 ?_
    refine r_iload_n C 2 dX3_solve_152 rfl ?_
    refine r_icmp_ge (tgt := 163) C dX3_solve_153 (by decide) ⟨h.1, fun c8 => ?_, fun c8 => ?_⟩
    · have h := h.2.1 c8
      refine r_iconst C dX3_solve_163 ?_
      exact r_perm [1, 2, 3, 4, 5, 0, 6] rfl ((z164 _ _ _ _ _ _ _ _ _).1 h)
    · have h := h.2.2 c8
      refine r_iload C 0 dX3_solve_156 rfl ?_
      refine r_iconst C dX3_solve_158 ?_
      refine r_iadd C dX3_solve_159 ?_
      refine r_goto (tgt := 164) C dX3_solve_160 (by decide) ?_
      exact r_perm [1, 2, 3, 4, 5, 0, 6] rfl ((z164 _ _ _ _ _ _ _ _ _).1 h)
  · intro x1 x4 x5 x6 x8 x9 t0 t1 s h
    refine (z164 _ _ _ _ _ _ _ _ _).2 ?_
    refine r_imul C dX3_solve_164 ?_
    refine r_istore (ls' := [(10, vI (t1 * t0)), (0, .ref (ad o)), (1, vI x1), (4, vI x4), (5, vI x5), (6, vL x6), (8, vI x8), (9, vI x9)]) C dX3_solve_165 (by decide) rfl ?_
    refine r_aload_n C 1 dX3_solve_167 rfl ?_
    refine r_get (j := 4) (jz := 4) (v := .ref (ad (o + 4))) C dX3_solve_168 (lf_0 ho) rfl rfl (by decide) in_x3_solve_X3 w_x3_solve_25 rfl rfl rfl ?_
    refine r_iload C 7 dX3_solve_171 rfl ?_
    refine r_lald (nz := 7) C dX3_solve_173 (lf_4 ho) rfl (by decide) ⟨h.1, ?_⟩
    have h := h.2
    refine r_aload_n C 1 dX3_solve_174 rfl ?_
    refine r_get (j := 5) (jz := 5) (v := .ref (ad (o + 5))) C dX3_solve_175 (lf_0 ho) rfl rfl (by decide) in_x3_solve_X3 w_x3_solve_28 rfl rfl rfl ?_
    refine r_iload C 0 dX3_solve_178 rfl ?_
    refine r_iload_n C 2 dX3_solve_180 rfl ?_
    refine r_iadd C dX3_solve_181 ?_
    refine r_iconst C dX3_solve_182 ?_
    refine r_isub C dX3_solve_183 ?_
    refine r_iload C 7 dX3_solve_184 rfl ?_
    refine r_isub C dX3_solve_186 ?_
    refine r_lald (nz := 36) C dX3_solve_187 (lf_5 ho) rfl (by decide) ⟨h.1, ?_⟩
    have h := h.2
    refine r_lmul C dX3_solve_188 ?_
    refine r_topL (fun v9 e_v9 => ?_)
    have h := h v9 e_v9
    refine r_lstore (ls' := [(11, vL v9), (10, vI (t1 * t0)), (0, .ref (ad o)), (1, vI x1), (4, vI x4), (5, vI x5), (6, vL x6), (8, vI x8), (9, vI x9)]) C dX3_solve_189 (by decide) rfl ?_
    refine r_aload_n C 2 dX3_solve_191 rfl ?_
    refine r_get (j := 4) (jz := 4) (v := .ref (ad (o + 4))) C dX3_solve_192 (lf_0 ho) rfl rfl (by decide) in_x3_solve_X3 w_x3_solve_25 rfl rfl rfl ?_
    refine r_iload_n C 3 dX3_solve_195 rfl ?_
    refine r_iload C 8 dX3_solve_196 rfl ?_
    refine r_isub C dX3_solve_198 ?_
    refine r_lald (nz := 7) C dX3_solve_199 (lf_4 ho) rfl (by decide) ⟨h.1, ?_⟩
    have h := h.2
    refine r_aload_n C 2 dX3_solve_200 rfl ?_
    refine r_get (j := 5) (jz := 5) (v := .ref (ad (o + 5))) C dX3_solve_201 (lf_0 ho) rfl rfl (by decide) in_x3_solve_X3 w_x3_solve_28 rfl rfl rfl ?_
    refine r_iload C 5 dX3_solve_204 rfl ?_
    refine r_iload C 8 dX3_solve_206 rfl ?_
    refine r_iadd C dX3_solve_208 ?_
    refine r_iconst C dX3_solve_209 ?_
    refine r_isub C dX3_solve_210 ?_
    refine r_lald (nz := 36) C dX3_solve_211 (lf_5 ho) rfl (by decide) ⟨h.1, ?_⟩
    have h := h.2
    refine r_lmul C dX3_solve_212 ?_
    refine r_topL (fun v10 e_v10 => ?_)
    have h := h v10 e_v10
    refine r_lstore (ls' := [(13, vL v10), (11, vL v9), (10, vI (t1 * t0)), (0, .ref (ad o)), (1, vI x1), (4, vI x4), (5, vI x5), (6, vL x6), (8, vI x8), (9, vI x9)]) C dX3_solve_213 (by decide) rfl ?_
    refine r_lload C 7 dX3_solve_215 rfl ?_
    refine r_aload_n C 3 dX3_solve_217 rfl ?_
    refine r_get (j := 3) (jz := 3) (v := .ref (ad (o + 3))) C dX3_solve_218 (lf_0 ho) rfl rfl (by decide) in_x3_solve_X3 w_x3_solve_22 rfl rfl rfl ?_
    refine r_iload C 8 dX3_solve_221 rfl ?_
    refine r_lald (nz := 6) C dX3_solve_223 (lf_3 ho) rfl (by decide) ⟨h.1, ?_⟩
    have h := h.2
    refine r_lload C 1 dX3_solve_224 rfl ?_
    refine r_lload C 0 dX3_solve_226 rfl ?_
    refine r_ladd C dX3_solve_228 ?_
    refine r_lmul C dX3_solve_229 ?_
    refine r_ladd C dX3_solve_230 ?_
    refine r_topL (fun v11 e_v11 => ?_)
    have h := h v11 e_v11
    refine r_lstore (ls' := [(6, vL v11), (13, vL v10), (11, vL v9), (10, vI (t1 * t0)), (0, .ref (ad o)), (1, vI x1), (4, vI x4), (5, vI x5), (8, vI x8), (9, vI x9)]) C dX3_solve_231 (by decide) rfl ?_
    refine r_iinc (j := 9) (ls' := [(9, vI (x9 + (1 : Int))), (6, vL v11), (13, vL v10), (11, vL v9), (10, vI (t1 * t0)), (0, .ref (ad o)), (1, vI x1), (4, vI x4), (5, vI x5), (8, vI x8)]) C dX3_solve_233 rfl (by decide) rfl ?_
    refine r_goto (tgt := 122) C dX3_solve_236 (by decide) ?_
    exact r_perm [5, 6, 7, 8, 1, 9, 0] rfl ((z122 _ _ _ _ _ _ _).1 h)
theorem x3_solve_ct (l : Launch) (ad : Nat → Nat) (cA : Nat → ClassId) (D : va_G) (o : Nat) (p1 : Int) (p2 : Int) (s : Mem) (ho : LfA o) : MG l yX3_solve wsX3_solve x3_solve_rm ocV [.ref (ad o), vI p1, vI p2] (GA ad cA D) s (x3_solve o p1 p2 s) :=
  m_met (own := RX3) (nL := 15) (by decide) rfl rfl (Nat.le_of_ble_eq_true rfl) rfl rfl rfl (fun κ hl C Q Pst hW hQ => x3_solve_bd ho C (x3_solve_mono hW hQ))

def x3_liftedSet_be (X4 : Int → Int → Mem → Prop) (Q : Int → Mem → Prop) (o : Nat) (s : Mem) : Prop :=
  X4 (0 : Int) (0 : Int) s
def x3_liftedSet_b4 (o : Nat) (X4 : Int → Int → Mem → Prop) (Q : Int → Mem → Prop) (x2 : Int) (x3 : Int) (s : Mem) : Prop :=
  (InI x3 ∧ InI (s 1 (0 : Int))) ∧ ((s 1 (0 : Int)) ≤ x3 → Q x2 s) ∧ (x3 < (s 1 (0 : Int)) → ((0 : Int) ≤ x3 ∧ x3 < 6) ∧ (InL (s (o + 1) x3) ∧ InL (0 : Int)) ∧ ((s (o + 1) x3) ≤ (0 : Int) → X4 x2 (x3 + (1 : Int)) s) ∧ ((0 : Int) < (s (o + 1) x3) → ∀ v1 : Int, v1 = (orI x2 (shlI (1 : Int) x3)) → X4 v1 (x3 + (1 : Int)) s))
theorem x3_liftedSet_me {X4 Y4 : Int → Int → Mem → Prop} {Q R : Int → Mem → Prop} (hX4 : ∀ x2 x3 s, X4 x2 x3 s → Y4 x2 x3 s) (hQ : ∀ r s, Q r s → R r s) {o : Nat} {s : Mem} (h : x3_liftedSet_be X4 Q o s) : x3_liftedSet_be Y4 R o s :=
  hX4 _ _ _ h
theorem x3_liftedSet_m4 {o : Nat} {X4 Y4 : Int → Int → Mem → Prop} {Q R : Int → Mem → Prop} (hX4 : ∀ x2 x3 s, X4 x2 x3 s → Y4 x2 x3 s) (hQ : ∀ r s, Q r s → R r s) {x2 : Int} {x3 : Int} {s : Mem} (h : x3_liftedSet_b4 o X4 Q x2 x3 s) : x3_liftedSet_b4 o Y4 R x2 x3 s :=
  ⟨h.1, fun c => have h := h.2.1 c; hQ _ _ h, fun c => have h := h.2.2 c; ⟨h.1, have h := h.2; ⟨h.1, fun c => have h := h.2.1 c; hX4 _ _ _ h, fun c => have h := h.2.2 c; fun v1 e_v1 => have h := h v1 e_v1; hX4 _ _ _ h⟩⟩⟩
def x3_liftedSet (o : Nat) (s : Mem) (Q : Int → Mem → Prop) : Prop := ∀ (X4 : Int → Int → Mem → Prop), (∀ x2 x3 s, x3_liftedSet_b4 o X4 Q x2 x3 s → X4 x2 x3 s) → x3_liftedSet_be X4 Q o s
def x3_liftedSet_L4 (o : Nat) (Q : Int → Mem → Prop) (x2 : Int) (x3 : Int) (s : Mem) : Prop := ∀ (X4 : Int → Int → Mem → Prop), (∀ x2 x3 s, x3_liftedSet_b4 o X4 Q x2 x3 s → X4 x2 x3 s) → X4 x2 x3 s
theorem x3_liftedSet_i {Q : Int → Mem → Prop} {o : Nat} {s : Mem} (h : x3_liftedSet_be (x3_liftedSet_L4 o Q) Q o s) : x3_liftedSet o s Q := fun X4 k4 => x3_liftedSet_me (fun _ _ _ h => h X4 k4) (fun _ _ h => h) h
theorem x3_liftedSet_s4 {o : Nat} {Q : Int → Mem → Prop} {x2 : Int} {x3 : Int} {s : Mem} (h : x3_liftedSet_b4 o (x3_liftedSet_L4 o Q) Q x2 x3 s) : x3_liftedSet_L4 o Q x2 x3 s := fun X4 k4 => k4 _ _ _ (x3_liftedSet_m4 (fun _ _ _ h => h X4 k4) (fun _ _ h => h) h)
theorem x3_liftedSet_mono {Q R : Int → Mem → Prop} {o : Nat} {s : Mem} (h : x3_liftedSet o s Q) (hQ : ∀ r s, Q r s → R r s) : x3_liftedSet o s R := fun X4 k4 => x3_liftedSet_me (fun _ _ _ h => h) hQ (h X4 (fun _ _ _ h => k4 _ _ _ (x3_liftedSet_m4 (fun _ _ _ h => h) hQ h)))
def x3_liftedSet_rm : Room := { frames := 0, cells := 0, slots := 0, locals := 0 }
theorem w_x3_liftedSet_48 : Cond.fieldLink RX3 48 "BoltRing$Joint" "bolts" "I" ∈ wsX3_liftedSet := by decide +kernel
theorem w_x3_liftedSet_9 : Cond.fieldLink RX3 9 "BoltRing$Lifts" "upper" "[J" ∈ wsX3_liftedSet := by decide +kernel
theorem in_x3_liftedSet_X2 : ∀ w ∈ wsX20, w ∈ wsX3_liftedSet := by decide +kernel
theorem in_x3_liftedSet_X3 : ∀ w ∈ wsX30, w ∈ wsX3_liftedSet := by decide +kernel
set_option maxHeartbeats 4000000 in
set_option maxRecDepth 100000 in
theorem x3_liftedSet_bd {κ : KT} {ad : Nat → Nat} {cA : Nat → ClassId} {D : va_G} {Q : State → Prop} {o : Nat} {s : Mem} (ho : LfA o) (C : CX κ (GA ad cA D) RX3 cX3_liftedSet 4 wsX3_liftedSet x3_liftedSet_rm (some .int)) (h : x3_liftedSet o s (RT κ (GA ad cA D) ocI Q)) : WM κ (GA ad cA D) 4 Q s 0 [(0, .ref (ad o)), (1, .ref (ad 1))] [] := by
  obtain ⟨Z4, z4⟩ : ∃ Z : Int → Int → Mem → Prop, ∀ x2 x3 s, Z x2 x3 s ↔ WM κ (GA ad cA D) 4 Q s 4 [(0, .ref (ad o)), (1, .ref (ad 1)), (2, vI x2), (3, vI x3)] [] := ⟨fun x2 x3 s => WM κ (GA ad cA D) 4 Q s 4 [(0, .ref (ad o)), (1, .ref (ad 1)), (2, vI x2), (3, vI x3)] [], fun _ _ _ => Iff.rfl⟩
  refine (fun h => ?_) (h Z4 ?_)
  · refine r_iconst C dX3_liftedSet_0 ?_
    refine r_istore_n (ls' := [(2, vI (0 : Int)), (0, .ref (ad o)), (1, .ref (ad 1))]) C dX3_liftedSet_1 rfl (by decide) rfl ?_
    refine r_iconst C dX3_liftedSet_2 ?_
    refine r_istore_n (ls' := [(3, vI (0 : Int)), (2, vI (0 : Int)), (0, .ref (ad o)), (1, .ref (ad 1))]) C dX3_liftedSet_3 rfl (by decide) rfl ?_
    exact r_perm [2, 3, 1, 0] rfl ((z4 _ _ _).1 h)
  · intro x2 x3 s h
    refine (z4 _ _ _).2 ?_
    refine r_iload_n C 3 dX3_liftedSet_4 rfl ?_
    refine r_aload_n C 1 dX3_liftedSet_5 rfl ?_
    refine r_get (j := 0) (jz := 0) (v := vI (s 1 (0 : Int))) C dX3_liftedSet_6 (shA_1) rfl rfl (by decide) in_x3_liftedSet_X2 w_x3_liftedSet_48 rfl rfl rfl ?_
    refine r_icmp_ge (tgt := 35) C dX3_liftedSet_9 (by decide) ⟨h.1, fun c3 => ?_, fun c3 => ?_⟩
    · have h := h.2.1 c3
      refine r_iload_n C 2 dX3_liftedSet_35 rfl ?_
      exact r_ireturn C dX3_liftedSet_36 h
    · have h := h.2.2 c3
      refine r_aload_n C 0 dX3_liftedSet_12 rfl ?_
      refine r_get (j := 0) (jz := 0) (v := .ref (ad (o + 1))) C dX3_liftedSet_13 (lf_0 ho) rfl rfl (by decide) in_x3_liftedSet_X3 w_x3_liftedSet_9 rfl rfl rfl ?_
      refine r_iload_n C 3 dX3_liftedSet_16 rfl ?_
      refine r_lald (nz := 6) C dX3_liftedSet_17 (lf_1 ho) rfl (by decide) ⟨h.1, ?_⟩
      have h := h.2
      refine r_lconst (z := 0) C dX3_liftedSet_18 rfl ?_
      refine r_lcmp_le (tgt := 29) C dX3_liftedSet_19 dX3_liftedSet_20 (by decide) ⟨h.1, fun c2 => ?_, fun c2 => ?_⟩
      · have h := h.2.1 c2
        refine r_iinc (j := 3) (ls' := [(3, vI (x3 + (1 : Int))), (0, .ref (ad o)), (1, .ref (ad 1)), (2, vI x2)]) C dX3_liftedSet_29 rfl (by decide) rfl ?_
        refine r_goto (tgt := 4) C dX3_liftedSet_32 (by decide) ?_
        exact r_perm [1, 2, 3, 0] rfl ((z4 _ _ _).1 h)
      · have h := h.2.2 c2
        refine r_iload_n C 2 dX3_liftedSet_23 rfl ?_
        refine r_iconst C dX3_liftedSet_24 ?_
        refine r_iload_n C 3 dX3_liftedSet_25 rfl ?_
        refine r_ishl C dX3_liftedSet_26 ?_
        refine r_ior C dX3_liftedSet_27 ?_
        refine r_topI (fun v1 e_v1 => ?_)
        have h := h v1 e_v1
        refine r_istore_n (ls' := [(2, vI v1), (0, .ref (ad o)), (1, .ref (ad 1)), (3, vI x3)]) C dX3_liftedSet_28 rfl (by decide) rfl ?_
        refine r_iinc (j := 3) (ls' := [(3, vI (x3 + (1 : Int))), (2, vI v1), (0, .ref (ad o)), (1, .ref (ad 1))]) C dX3_liftedSet_29 rfl (by decide) rfl ?_
        refine r_goto (tgt := 4) C dX3_liftedSet_32 (by decide) ?_
        exact r_perm [2, 3, 1, 0] rfl ((z4 _ _ _).1 h)
theorem x3_liftedSet_ct (l : Launch) (ad : Nat → Nat) (cA : Nat → ClassId) (D : va_G) (o : Nat) (s : Mem) (ho : LfA o) : MG l yX3_liftedSet wsX3_liftedSet x3_liftedSet_rm ocI [.ref (ad o), .ref (ad 1)] (GA ad cA D) s (x3_liftedSet o s) :=
  m_met (own := RX3) (nL := 4) (by decide) rfl rfl (Nat.le_of_ble_eq_true rfl) rfl rfl rfl (fun κ hl C Q Pst hW hQ => x3_liftedSet_bd ho C (x3_liftedSet_mono hW hQ))

def x3_aboveTurnsSet_be (X4 : Int → Int → Mem → Prop) (Q : Int → Mem → Prop) (o : Nat) (s : Mem) : Prop :=
  X4 (0 : Int) (0 : Int) s
def x3_aboveTurnsSet_b4 (o : Nat) (X4 : Int → Int → Mem → Prop) (Q : Int → Mem → Prop) (x2 : Int) (x3 : Int) (s : Mem) : Prop :=
  (InI x3 ∧ InI (s 1 (0 : Int))) ∧ ((s 1 (0 : Int)) ≤ x3 → Q x2 s) ∧ (x3 < (s 1 (0 : Int)) → ((0 : Int) ≤ x3 ∧ x3 < 6) ∧ ((0 : Int) ≤ x3 ∧ x3 < 6) ∧ (InI (s 4 x3)) ∧ (InL (s (o + 1) x3) ∧ InL ((s o (1 : Int)) * (s 4 x3))) ∧ ((s (o + 1) x3) ≤ ((s o (1 : Int)) * (s 4 x3)) → X4 x2 (x3 + (1 : Int)) s) ∧ (((s o (1 : Int)) * (s 4 x3)) < (s (o + 1) x3) → ∀ v1 : Int, v1 = (orI x2 (shlI (1 : Int) x3)) → X4 v1 (x3 + (1 : Int)) s))
theorem x3_aboveTurnsSet_me {X4 Y4 : Int → Int → Mem → Prop} {Q R : Int → Mem → Prop} (hX4 : ∀ x2 x3 s, X4 x2 x3 s → Y4 x2 x3 s) (hQ : ∀ r s, Q r s → R r s) {o : Nat} {s : Mem} (h : x3_aboveTurnsSet_be X4 Q o s) : x3_aboveTurnsSet_be Y4 R o s :=
  hX4 _ _ _ h
theorem x3_aboveTurnsSet_m4 {o : Nat} {X4 Y4 : Int → Int → Mem → Prop} {Q R : Int → Mem → Prop} (hX4 : ∀ x2 x3 s, X4 x2 x3 s → Y4 x2 x3 s) (hQ : ∀ r s, Q r s → R r s) {x2 : Int} {x3 : Int} {s : Mem} (h : x3_aboveTurnsSet_b4 o X4 Q x2 x3 s) : x3_aboveTurnsSet_b4 o Y4 R x2 x3 s :=
  ⟨h.1, fun c => have h := h.2.1 c; hQ _ _ h, fun c => have h := h.2.2 c; ⟨h.1, have h := h.2; ⟨h.1, have h := h.2; ⟨h.1, have h := h.2; ⟨h.1, fun c => have h := h.2.1 c; hX4 _ _ _ h, fun c => have h := h.2.2 c; fun v1 e_v1 => have h := h v1 e_v1; hX4 _ _ _ h⟩⟩⟩⟩⟩
def x3_aboveTurnsSet (o : Nat) (s : Mem) (Q : Int → Mem → Prop) : Prop := ∀ (X4 : Int → Int → Mem → Prop), (∀ x2 x3 s, x3_aboveTurnsSet_b4 o X4 Q x2 x3 s → X4 x2 x3 s) → x3_aboveTurnsSet_be X4 Q o s
def x3_aboveTurnsSet_L4 (o : Nat) (Q : Int → Mem → Prop) (x2 : Int) (x3 : Int) (s : Mem) : Prop := ∀ (X4 : Int → Int → Mem → Prop), (∀ x2 x3 s, x3_aboveTurnsSet_b4 o X4 Q x2 x3 s → X4 x2 x3 s) → X4 x2 x3 s
theorem x3_aboveTurnsSet_i {Q : Int → Mem → Prop} {o : Nat} {s : Mem} (h : x3_aboveTurnsSet_be (x3_aboveTurnsSet_L4 o Q) Q o s) : x3_aboveTurnsSet o s Q := fun X4 k4 => x3_aboveTurnsSet_me (fun _ _ _ h => h X4 k4) (fun _ _ h => h) h
theorem x3_aboveTurnsSet_s4 {o : Nat} {Q : Int → Mem → Prop} {x2 : Int} {x3 : Int} {s : Mem} (h : x3_aboveTurnsSet_b4 o (x3_aboveTurnsSet_L4 o Q) Q x2 x3 s) : x3_aboveTurnsSet_L4 o Q x2 x3 s := fun X4 k4 => k4 _ _ _ (x3_aboveTurnsSet_m4 (fun _ _ _ h => h X4 k4) (fun _ _ h => h) h)
theorem x3_aboveTurnsSet_mono {Q R : Int → Mem → Prop} {o : Nat} {s : Mem} (h : x3_aboveTurnsSet o s Q) (hQ : ∀ r s, Q r s → R r s) : x3_aboveTurnsSet o s R := fun X4 k4 => x3_aboveTurnsSet_me (fun _ _ _ h => h) hQ (h X4 (fun _ _ _ h => k4 _ _ _ (x3_aboveTurnsSet_m4 (fun _ _ _ h => h) hQ h)))
def x3_aboveTurnsSet_rm : Room := { frames := 0, cells := 0, slots := 0, locals := 0 }
theorem w_x3_aboveTurnsSet_48 : Cond.fieldLink RX3 48 "BoltRing$Joint" "bolts" "I" ∈ wsX3_aboveTurnsSet := by decide +kernel
theorem w_x3_aboveTurnsSet_9 : Cond.fieldLink RX3 9 "BoltRing$Lifts" "upper" "[J" ∈ wsX3_aboveTurnsSet := by decide +kernel
theorem w_x3_aboveTurnsSet_15 : Cond.fieldLink RX3 15 "BoltRing$Lifts" "lower" "J" ∈ wsX3_aboveTurnsSet := by decide +kernel
theorem w_x3_aboveTurnsSet_74 : Cond.fieldLink RX3 74 "BoltRing$Joint" "turns" "[I" ∈ wsX3_aboveTurnsSet := by decide +kernel
theorem in_x3_aboveTurnsSet_X2 : ∀ w ∈ wsX20, w ∈ wsX3_aboveTurnsSet := by decide +kernel
theorem in_x3_aboveTurnsSet_X3 : ∀ w ∈ wsX30, w ∈ wsX3_aboveTurnsSet := by decide +kernel
set_option maxHeartbeats 4000000 in
set_option maxRecDepth 100000 in
theorem x3_aboveTurnsSet_bd {κ : KT} {ad : Nat → Nat} {cA : Nat → ClassId} {D : va_G} {Q : State → Prop} {o : Nat} {s : Mem} (ho : LfA o) (C : CX κ (GA ad cA D) RX3 cX3_aboveTurnsSet 4 wsX3_aboveTurnsSet x3_aboveTurnsSet_rm (some .int)) (h : x3_aboveTurnsSet o s (RT κ (GA ad cA D) ocI Q)) : WM κ (GA ad cA D) 4 Q s 0 [(0, .ref (ad o)), (1, .ref (ad 1))] [] := by
  obtain ⟨Z4, z4⟩ : ∃ Z : Int → Int → Mem → Prop, ∀ x2 x3 s, Z x2 x3 s ↔ WM κ (GA ad cA D) 4 Q s 4 [(0, .ref (ad o)), (1, .ref (ad 1)), (2, vI x2), (3, vI x3)] [] := ⟨fun x2 x3 s => WM κ (GA ad cA D) 4 Q s 4 [(0, .ref (ad o)), (1, .ref (ad 1)), (2, vI x2), (3, vI x3)] [], fun _ _ _ => Iff.rfl⟩
  refine (fun h => ?_) (h Z4 ?_)
  · refine r_iconst C dX3_aboveTurnsSet_0 ?_
    refine r_istore_n (ls' := [(2, vI (0 : Int)), (0, .ref (ad o)), (1, .ref (ad 1))]) C dX3_aboveTurnsSet_1 rfl (by decide) rfl ?_
    refine r_iconst C dX3_aboveTurnsSet_2 ?_
    refine r_istore_n (ls' := [(3, vI (0 : Int)), (2, vI (0 : Int)), (0, .ref (ad o)), (1, .ref (ad 1))]) C dX3_aboveTurnsSet_3 rfl (by decide) rfl ?_
    exact r_perm [2, 3, 1, 0] rfl ((z4 _ _ _).1 h)
  · intro x2 x3 s h
    refine (z4 _ _ _).2 ?_
    refine r_iload_n C 3 dX3_aboveTurnsSet_4 rfl ?_
    refine r_aload_n C 1 dX3_aboveTurnsSet_5 rfl ?_
    refine r_get (j := 0) (jz := 0) (v := vI (s 1 (0 : Int))) C dX3_aboveTurnsSet_6 (shA_1) rfl rfl (by decide) in_x3_aboveTurnsSet_X2 w_x3_aboveTurnsSet_48 rfl rfl rfl ?_
    refine r_icmp_ge (tgt := 46) C dX3_aboveTurnsSet_9 (by decide) ⟨h.1, fun c3 => ?_, fun c3 => ?_⟩
    · have h := h.2.1 c3
      refine r_iload_n C 2 dX3_aboveTurnsSet_46 rfl ?_
      exact r_ireturn C dX3_aboveTurnsSet_47 h
    · have h := h.2.2 c3
      refine r_aload_n C 0 dX3_aboveTurnsSet_12 rfl ?_
      refine r_get (j := 0) (jz := 0) (v := .ref (ad (o + 1))) C dX3_aboveTurnsSet_13 (lf_0 ho) rfl rfl (by decide) in_x3_aboveTurnsSet_X3 w_x3_aboveTurnsSet_9 rfl rfl rfl ?_
      refine r_iload_n C 3 dX3_aboveTurnsSet_16 rfl ?_
      refine r_lald (nz := 6) C dX3_aboveTurnsSet_17 (lf_1 ho) rfl (by decide) ⟨h.1, ?_⟩
      have h := h.2
      refine r_aload_n C 0 dX3_aboveTurnsSet_18 rfl ?_
      refine r_get (j := 1) (jz := 1) (v := vL (s o (1 : Int))) C dX3_aboveTurnsSet_19 (lf_0 ho) rfl rfl (by decide) in_x3_aboveTurnsSet_X3 w_x3_aboveTurnsSet_15 rfl rfl rfl ?_
      refine r_aload_n C 1 dX3_aboveTurnsSet_22 rfl ?_
      refine r_get (j := 5) (jz := 5) (v := .ref (ad 4)) C dX3_aboveTurnsSet_23 (shA_1) rfl rfl (by decide) in_x3_aboveTurnsSet_X2 w_x3_aboveTurnsSet_74 rfl rfl rfl ?_
      refine r_iload_n C 3 dX3_aboveTurnsSet_26 rfl ?_
      refine r_iald (nz := 6) C dX3_aboveTurnsSet_27 (shA_4) rfl (by decide) ⟨h.1, ?_⟩
      have h := h.2
      refine r_i2l C dX3_aboveTurnsSet_28 ⟨h.1, ?_⟩
      have h := h.2
      refine r_lmul C dX3_aboveTurnsSet_29 ?_
      refine r_lcmp_le (tgt := 40) C dX3_aboveTurnsSet_30 dX3_aboveTurnsSet_31 (by decide) ⟨h.1, fun c2 => ?_, fun c2 => ?_⟩
      · have h := h.2.1 c2
        refine r_iinc (j := 3) (ls' := [(3, vI (x3 + (1 : Int))), (0, .ref (ad o)), (1, .ref (ad 1)), (2, vI x2)]) C dX3_aboveTurnsSet_40 rfl (by decide) rfl ?_
        refine r_goto (tgt := 4) C dX3_aboveTurnsSet_43 (by decide) ?_
        exact r_perm [1, 2, 3, 0] rfl ((z4 _ _ _).1 h)
      · have h := h.2.2 c2
        refine r_iload_n C 2 dX3_aboveTurnsSet_34 rfl ?_
        refine r_iconst C dX3_aboveTurnsSet_35 ?_
        refine r_iload_n C 3 dX3_aboveTurnsSet_36 rfl ?_
        refine r_ishl C dX3_aboveTurnsSet_37 ?_
        refine r_ior C dX3_aboveTurnsSet_38 ?_
        refine r_topI (fun v1 e_v1 => ?_)
        have h := h v1 e_v1
        refine r_istore_n (ls' := [(2, vI v1), (0, .ref (ad o)), (1, .ref (ad 1)), (3, vI x3)]) C dX3_aboveTurnsSet_39 rfl (by decide) rfl ?_
        refine r_iinc (j := 3) (ls' := [(3, vI (x3 + (1 : Int))), (2, vI v1), (0, .ref (ad o)), (1, .ref (ad 1))]) C dX3_aboveTurnsSet_40 rfl (by decide) rfl ?_
        refine r_goto (tgt := 4) C dX3_aboveTurnsSet_43 (by decide) ?_
        exact r_perm [2, 3, 1, 0] rfl ((z4 _ _ _).1 h)
theorem x3_aboveTurnsSet_ct (l : Launch) (ad : Nat → Nat) (cA : Nat → ClassId) (D : va_G) (o : Nat) (s : Mem) (ho : LfA o) : MG l yX3_aboveTurnsSet wsX3_aboveTurnsSet x3_aboveTurnsSet_rm ocI [.ref (ad o), .ref (ad 1)] (GA ad cA D) s (x3_aboveTurnsSet o s) :=
  m_met (own := RX3) (nL := 4) (by decide) rfl rfl (Nat.le_of_ble_eq_true rfl) rfl rfl rfl (fun κ hl C Q Pst hW hQ => x3_aboveTurnsSet_bd ho C (x3_aboveTurnsSet_mono hW hQ))

def x3_settleHolding_be (X37 : Nat → Int → Int → Int → Int → Int → Mem → Prop) (X72 : Nat → Int → Int → Int → Int → Int → Mem → Prop) (Q : Int → Mem → Prop) (o : Nat) (p2 : Nat) (p3 : Int) (p4 : Int) (s : Mem) : Prop :=
  x2_allSet s (fun r2 s1 => ∀ v3 : Int, v3 = (andI r2 (xorI (s1 1 (2 : Int)) (-1 : Int))) → (InI p3 ∧ InI (-1 : Int)) ∧ (p3 = (-1 : Int) → x2_allSet s1 (fun r5 s4 => X37 p2 p3 p4 v3 r5 (0 : Int) s4)) ∧ (¬ p3 = (-1 : Int) → ∀ v6 : Int, v6 = (andI v3 (xorI (shlI (1 : Int) p3) (-1 : Int))) → x2_allSet s1 (fun r8 s7 => X37 p2 p3 p4 v6 r8 (0 : Int) s7)))
def x3_settleHolding_b37 (o : Nat) (X37 : Nat → Int → Int → Int → Int → Int → Mem → Prop) (X72 : Nat → Int → Int → Int → Int → Int → Mem → Prop) (Q : Int → Mem → Prop) (x2 : Nat) (x3 : Int) (x4 : Int) (x5 : Int) (x6 : Int) (x7 : Int) (s : Mem) : Prop :=
  (InI x7 ∧ InI (200 : Int)) ∧ ((200 : Int) ≤ x7 → Q (0 : Int) s) ∧ (x7 < (200 : Int) → x3_fillSystem o x2 x5 x6 s (fun _ s10 => (InI x3 ∧ InI (-1 : Int)) ∧ (x3 = (-1 : Int) → X72 x2 x3 x4 x5 x6 x7 s10) ∧ (¬ x3 = (-1 : Int) → ((0 : Int) ≤ x3 ∧ x3 < 6) ∧ (InI x4) ∧ ((0 : Int) ≤ x3 ∧ x3 < 6) ∧ ∀ s11 : Mem, s11 = m_upd s10 (o + 3) x3 ((s10 (o + 3) x3) + x4) → X72 x2 x3 x4 x5 x6 x7 s11)))
def x3_settleHolding_b72 (o : Nat) (X37 : Nat → Int → Int → Int → Int → Int → Mem → Prop) (X72 : Nat → Int → Int → Int → Int → Int → Mem → Prop) (Q : Int → Mem → Prop) (x2 : Nat) (x3 : Int) (x4 : Int) (x5 : Int) (x6 : Int) (x7 : Int) (s : Mem) : Prop :=
  x3_fillArcs o (s 1 (0 : Int)) (s 1 (1 : Int)) s (fun _ s14 => x3_solve o (s14 1 (0 : Int)) (s14 1 (1 : Int)) s14 (fun _ s15 => x3_liftedSet o s15 (fun r17 s16 => x3_aboveTurnsSet o s16 (fun r19 s18 => (InI r17 ∧ InI x6) ∧ (r17 = x6 → InI (andI x5 r19) ∧ ((andI x5 r19) = (0 : Int) → Q (0 : Int) s18) ∧ (¬ (andI x5 r19) = (0 : Int) → ∀ v20 : Int, v20 = (andI x5 (xorI (andI x5 r19) (-1 : Int))) → X37 x2 x3 x4 v20 x6 (x7 + (1 : Int)) s18)) ∧ (¬ r17 = x6 → X37 x2 x3 x4 x5 r17 (x7 + (1 : Int)) s18)))))
theorem x3_settleHolding_me {X37 Y37 : Nat → Int → Int → Int → Int → Int → Mem → Prop} {X72 Y72 : Nat → Int → Int → Int → Int → Int → Mem → Prop} {Q R : Int → Mem → Prop} (hX37 : ∀ x2 x3 x4 x5 x6 x7 s, X37 x2 x3 x4 x5 x6 x7 s → Y37 x2 x3 x4 x5 x6 x7 s) (hX72 : ∀ x2 x3 x4 x5 x6 x7 s, X72 x2 x3 x4 x5 x6 x7 s → Y72 x2 x3 x4 x5 x6 x7 s) (hQ : ∀ r s, Q r s → R r s) {o : Nat} {p2 : Nat} {p3 : Int} {p4 : Int} {s : Mem} (h : x3_settleHolding_be X37 X72 Q o p2 p3 p4 s) : x3_settleHolding_be Y37 Y72 R o p2 p3 p4 s :=
  x2_allSet_mono h (fun r2 s1 h => fun v3 e_v3 => have h := h v3 e_v3; ⟨h.1, fun c => have h := h.2.1 c; x2_allSet_mono h (fun r5 s4 h => hX37 _ _ _ _ _ _ _ h), fun c => have h := h.2.2 c; fun v6 e_v6 => have h := h v6 e_v6; x2_allSet_mono h (fun r8 s7 h => hX37 _ _ _ _ _ _ _ h)⟩)
theorem x3_settleHolding_m37 {o : Nat} {X37 Y37 : Nat → Int → Int → Int → Int → Int → Mem → Prop} {X72 Y72 : Nat → Int → Int → Int → Int → Int → Mem → Prop} {Q R : Int → Mem → Prop} (hX37 : ∀ x2 x3 x4 x5 x6 x7 s, X37 x2 x3 x4 x5 x6 x7 s → Y37 x2 x3 x4 x5 x6 x7 s) (hX72 : ∀ x2 x3 x4 x5 x6 x7 s, X72 x2 x3 x4 x5 x6 x7 s → Y72 x2 x3 x4 x5 x6 x7 s) (hQ : ∀ r s, Q r s → R r s) {x2 : Nat} {x3 : Int} {x4 : Int} {x5 : Int} {x6 : Int} {x7 : Int} {s : Mem} (h : x3_settleHolding_b37 o X37 X72 Q x2 x3 x4 x5 x6 x7 s) : x3_settleHolding_b37 o Y37 Y72 R x2 x3 x4 x5 x6 x7 s :=
  ⟨h.1, fun c => have h := h.2.1 c; hQ _ _ h, fun c => have h := h.2.2 c; x3_fillSystem_mono h (fun _ s10 h => ⟨h.1, fun c => have h := h.2.1 c; hX72 _ _ _ _ _ _ _ h, fun c => have h := h.2.2 c; ⟨h.1, have h := h.2; ⟨h.1, have h := h.2; ⟨h.1, have h := h.2; fun s11 e_s11 => have h := h s11 e_s11; hX72 _ _ _ _ _ _ _ h⟩⟩⟩⟩)⟩
theorem x3_settleHolding_m72 {o : Nat} {X37 Y37 : Nat → Int → Int → Int → Int → Int → Mem → Prop} {X72 Y72 : Nat → Int → Int → Int → Int → Int → Mem → Prop} {Q R : Int → Mem → Prop} (hX37 : ∀ x2 x3 x4 x5 x6 x7 s, X37 x2 x3 x4 x5 x6 x7 s → Y37 x2 x3 x4 x5 x6 x7 s) (hX72 : ∀ x2 x3 x4 x5 x6 x7 s, X72 x2 x3 x4 x5 x6 x7 s → Y72 x2 x3 x4 x5 x6 x7 s) (hQ : ∀ r s, Q r s → R r s) {x2 : Nat} {x3 : Int} {x4 : Int} {x5 : Int} {x6 : Int} {x7 : Int} {s : Mem} (h : x3_settleHolding_b72 o X37 X72 Q x2 x3 x4 x5 x6 x7 s) : x3_settleHolding_b72 o Y37 Y72 R x2 x3 x4 x5 x6 x7 s :=
  x3_fillArcs_mono h (fun _ s14 h => x3_solve_mono h (fun _ s15 h => x3_liftedSet_mono h (fun r17 s16 h => x3_aboveTurnsSet_mono h (fun r19 s18 h => ⟨h.1, fun c => have h := h.2.1 c; ⟨h.1, fun c => have h := h.2.1 c; hQ _ _ h, fun c => have h := h.2.2 c; fun v20 e_v20 => have h := h v20 e_v20; hX37 _ _ _ _ _ _ _ h⟩, fun c => have h := h.2.2 c; hX37 _ _ _ _ _ _ _ h⟩))))
def x3_settleHolding (o : Nat) (p2 : Nat) (p3 : Int) (p4 : Int) (s : Mem) (Q : Int → Mem → Prop) : Prop := ∀ (X37 : Nat → Int → Int → Int → Int → Int → Mem → Prop) (X72 : Nat → Int → Int → Int → Int → Int → Mem → Prop), (∀ x2 x3 x4 x5 x6 x7 s, x3_settleHolding_b37 o X37 X72 Q x2 x3 x4 x5 x6 x7 s → X37 x2 x3 x4 x5 x6 x7 s) → (∀ x2 x3 x4 x5 x6 x7 s, x3_settleHolding_b72 o X37 X72 Q x2 x3 x4 x5 x6 x7 s → X72 x2 x3 x4 x5 x6 x7 s) → x3_settleHolding_be X37 X72 Q o p2 p3 p4 s
def x3_settleHolding_L37 (o : Nat) (Q : Int → Mem → Prop) (x2 : Nat) (x3 : Int) (x4 : Int) (x5 : Int) (x6 : Int) (x7 : Int) (s : Mem) : Prop := ∀ (X37 : Nat → Int → Int → Int → Int → Int → Mem → Prop) (X72 : Nat → Int → Int → Int → Int → Int → Mem → Prop), (∀ x2 x3 x4 x5 x6 x7 s, x3_settleHolding_b37 o X37 X72 Q x2 x3 x4 x5 x6 x7 s → X37 x2 x3 x4 x5 x6 x7 s) → (∀ x2 x3 x4 x5 x6 x7 s, x3_settleHolding_b72 o X37 X72 Q x2 x3 x4 x5 x6 x7 s → X72 x2 x3 x4 x5 x6 x7 s) → X37 x2 x3 x4 x5 x6 x7 s
def x3_settleHolding_L72 (o : Nat) (Q : Int → Mem → Prop) (x2 : Nat) (x3 : Int) (x4 : Int) (x5 : Int) (x6 : Int) (x7 : Int) (s : Mem) : Prop := ∀ (X37 : Nat → Int → Int → Int → Int → Int → Mem → Prop) (X72 : Nat → Int → Int → Int → Int → Int → Mem → Prop), (∀ x2 x3 x4 x5 x6 x7 s, x3_settleHolding_b37 o X37 X72 Q x2 x3 x4 x5 x6 x7 s → X37 x2 x3 x4 x5 x6 x7 s) → (∀ x2 x3 x4 x5 x6 x7 s, x3_settleHolding_b72 o X37 X72 Q x2 x3 x4 x5 x6 x7 s → X72 x2 x3 x4 x5 x6 x7 s) → X72 x2 x3 x4 x5 x6 x7 s
theorem x3_settleHolding_i {Q : Int → Mem → Prop} {o : Nat} {p2 : Nat} {p3 : Int} {p4 : Int} {s : Mem} (h : x3_settleHolding_be (x3_settleHolding_L37 o Q) (x3_settleHolding_L72 o Q) Q o p2 p3 p4 s) : x3_settleHolding o p2 p3 p4 s Q := fun X37 X72 k37 k72 => x3_settleHolding_me (fun _ _ _ _ _ _ _ h => h X37 X72 k37 k72) (fun _ _ _ _ _ _ _ h => h X37 X72 k37 k72) (fun _ _ h => h) h
theorem x3_settleHolding_s37 {o : Nat} {Q : Int → Mem → Prop} {x2 : Nat} {x3 : Int} {x4 : Int} {x5 : Int} {x6 : Int} {x7 : Int} {s : Mem} (h : x3_settleHolding_b37 o (x3_settleHolding_L37 o Q) (x3_settleHolding_L72 o Q) Q x2 x3 x4 x5 x6 x7 s) : x3_settleHolding_L37 o Q x2 x3 x4 x5 x6 x7 s := fun X37 X72 k37 k72 => k37 _ _ _ _ _ _ _ (x3_settleHolding_m37 (fun _ _ _ _ _ _ _ h => h X37 X72 k37 k72) (fun _ _ _ _ _ _ _ h => h X37 X72 k37 k72) (fun _ _ h => h) h)
theorem x3_settleHolding_s72 {o : Nat} {Q : Int → Mem → Prop} {x2 : Nat} {x3 : Int} {x4 : Int} {x5 : Int} {x6 : Int} {x7 : Int} {s : Mem} (h : x3_settleHolding_b72 o (x3_settleHolding_L37 o Q) (x3_settleHolding_L72 o Q) Q x2 x3 x4 x5 x6 x7 s) : x3_settleHolding_L72 o Q x2 x3 x4 x5 x6 x7 s := fun X37 X72 k37 k72 => k72 _ _ _ _ _ _ _ (x3_settleHolding_m72 (fun _ _ _ _ _ _ _ h => h X37 X72 k37 k72) (fun _ _ _ _ _ _ _ h => h X37 X72 k37 k72) (fun _ _ h => h) h)
theorem x3_settleHolding_mono {Q R : Int → Mem → Prop} {o : Nat} {p2 : Nat} {p3 : Int} {p4 : Int} {s : Mem} (h : x3_settleHolding o p2 p3 p4 s Q) (hQ : ∀ r s, Q r s → R r s) : x3_settleHolding o p2 p3 p4 s R := fun X37 X72 k37 k72 => x3_settleHolding_me (fun _ _ _ _ _ _ _ h => h) (fun _ _ _ _ _ _ _ h => h) hQ (h X37 X72 (fun _ _ _ _ _ _ _ h => k37 _ _ _ _ _ _ _ (x3_settleHolding_m37 (fun _ _ _ _ _ _ _ h => h) (fun _ _ _ _ _ _ _ h => h) hQ h)) (fun _ _ _ _ _ _ _ h => k72 _ _ _ _ _ _ _ (x3_settleHolding_m72 (fun _ _ _ _ _ _ _ h => h) (fun _ _ _ _ _ _ _ h => h) hQ h)))
def x3_settleHolding_rm : Room := { frames := 1, cells := 0, slots := 0, locals := 34 }
theorem w_x3_settleHolding_41 : Cond.fieldLink RX3 41 "BoltRing$Joint" "brokenSet" "I" ∈ wsX3_settleHolding := by decide +kernel
theorem w_x3_settleHolding_22 : Cond.fieldLink RX3 22 "BoltRing$Lifts" "side" "[J" ∈ wsX3_settleHolding := by decide +kernel
theorem w_x3_settleHolding_48 : Cond.fieldLink RX3 48 "BoltRing$Joint" "bolts" "I" ∈ wsX3_settleHolding := by decide +kernel
theorem w_x3_settleHolding_51 : Cond.fieldLink RX3 51 "BoltRing$Joint" "rib" "I" ∈ wsX3_settleHolding := by decide +kernel
theorem in_x3_settleHolding_X2 : ∀ w ∈ wsX20, w ∈ wsX3_settleHolding := by decide +kernel
theorem in_x3_settleHolding_X3 : ∀ w ∈ wsX30, w ∈ wsX3_settleHolding := by decide +kernel
set_option maxHeartbeats 4000000 in
set_option maxRecDepth 100000 in
theorem x3_settleHolding_bd {κ : KT} {ad : Nat → Nat} {cA : Nat → ClassId} {D : va_G} {Q : State → Prop} {o : Nat} {p2 : Nat} {p3 : Int} {p4 : Int} {s : Mem} (ho : LfA o) (C : CX κ (GA ad cA D) RX3 cX3_settleHolding 10 wsX3_settleHolding x3_settleHolding_rm none) (h : x3_settleHolding o p2 p3 p4 s (RT κ (GA ad cA D) ocV Q)) : WM κ (GA ad cA D) 10 Q s 0 [(0, .ref (ad o)), (1, .ref (ad 1)), (2, .ref (ad p2)), (3, vI p3), (4, vI p4)] [] := by
  obtain ⟨Z37, z37⟩ : ∃ Z : Nat → Int → Int → Int → Int → Int → Mem → Prop, ∀ x2 x3 x4 x5 x6 x7 s, Z x2 x3 x4 x5 x6 x7 s ↔ WM κ (GA ad cA D) 10 Q s 37 [(0, .ref (ad o)), (1, .ref (ad 1)), (2, .ref (ad x2)), (3, vI x3), (4, vI x4), (5, vI x5), (6, vI x6), (7, vI x7)] [] := ⟨fun x2 x3 x4 x5 x6 x7 s => WM κ (GA ad cA D) 10 Q s 37 [(0, .ref (ad o)), (1, .ref (ad 1)), (2, .ref (ad x2)), (3, vI x3), (4, vI x4), (5, vI x5), (6, vI x6), (7, vI x7)] [], fun _ _ _ _ _ _ _ => Iff.rfl⟩
  obtain ⟨Z72, z72⟩ : ∃ Z : Nat → Int → Int → Int → Int → Int → Mem → Prop, ∀ x2 x3 x4 x5 x6 x7 s, Z x2 x3 x4 x5 x6 x7 s ↔ WM κ (GA ad cA D) 10 Q s 72 [(0, .ref (ad o)), (1, .ref (ad 1)), (2, .ref (ad x2)), (3, vI x3), (4, vI x4), (5, vI x5), (6, vI x6), (7, vI x7)] [] := ⟨fun x2 x3 x4 x5 x6 x7 s => WM κ (GA ad cA D) 10 Q s 72 [(0, .ref (ad o)), (1, .ref (ad 1)), (2, .ref (ad x2)), (3, vI x3), (4, vI x4), (5, vI x5), (6, vI x6), (7, vI x7)] [], fun _ _ _ _ _ _ _ => Iff.rfl⟩
  refine (fun h => ?_) (h Z37 Z72 ?_ ?_)
  · refine r_aload_n C 1 dX3_settleHolding_0 rfl ?_
    refine r_callV (As := []) (o := 1) (n := 0) C dX3_settleHolding_1 (x2_allSet_ct κ.1.2.1 ad cA D s) gX3_settleHolding_X2_allSet rfl ⟨rfl, rfl⟩ (by decide +kernel) (by decide) (shA_1) rfl rfl rfl (Nat.le_of_ble_eq_true rfl) (fun _ => rfl) ?_
    refine x2_allSet_mono h (fun r2 s1 h => ?_)
    refine r_aload_n C 1 dX3_settleHolding_4 rfl ?_
    refine r_get (j := 2) (jz := 2) (v := vI (s1 1 (2 : Int))) C dX3_settleHolding_5 (shA_1) rfl rfl (by decide) in_x3_settleHolding_X2 w_x3_settleHolding_41 rfl rfl rfl ?_
    refine r_iconst C dX3_settleHolding_8 ?_
    refine r_ixor C dX3_settleHolding_9 ?_
    refine r_iand C dX3_settleHolding_10 ?_
    refine r_topI (fun v3 e_v3 => ?_)
    have h := h v3 e_v3
    refine r_istore (ls' := [(5, vI v3), (0, .ref (ad o)), (1, .ref (ad 1)), (2, .ref (ad p2)), (3, vI p3), (4, vI p4)]) C dX3_settleHolding_11 (by decide) rfl ?_
    refine r_iload_n C 4 dX3_settleHolding_13 rfl ?_
    refine r_iconst C dX3_settleHolding_14 ?_
    refine r_icmp_eq (tgt := 28) C dX3_settleHolding_15 (by decide) ⟨h.1, fun c9 => ?_, fun c9 => ?_⟩
    · have h := h.2.1 c9
      refine r_aload_n C 2 dX3_settleHolding_28 rfl ?_
      refine r_callV (As := []) (o := 1) (n := 0) C dX3_settleHolding_29 (x2_allSet_ct κ.1.2.1 ad cA D s1) gX3_settleHolding_X2_allSet rfl ⟨rfl, rfl⟩ (by decide +kernel) (by decide) (shA_1) rfl rfl rfl (Nat.le_of_ble_eq_true rfl) (fun _ => rfl) ?_
      refine x2_allSet_mono h (fun r5 s4 h => ?_)
      refine r_istore (ls' := [(6, vI r5), (5, vI v3), (0, .ref (ad o)), (1, .ref (ad 1)), (2, .ref (ad p2)), (3, vI p3), (4, vI p4)]) C dX3_settleHolding_32 (by decide) rfl ?_
      refine r_iconst C dX3_settleHolding_34 ?_
      refine r_istore (ls' := [(7, vI (0 : Int)), (6, vI r5), (5, vI v3), (0, .ref (ad o)), (1, .ref (ad 1)), (2, .ref (ad p2)), (3, vI p3), (4, vI p4)]) C dX3_settleHolding_35 (by decide) rfl ?_
      exact r_perm [3, 4, 5, 6, 7, 2, 1, 0] rfl ((z37 _ _ _ _ _ _ _).1 h)
    · have h := h.2.2 c9
      refine r_iload C 0 dX3_settleHolding_18 rfl ?_
      refine r_iconst C dX3_settleHolding_20 ?_
      refine r_iload_n C 4 dX3_settleHolding_21 rfl ?_
      refine r_ishl C dX3_settleHolding_22 ?_
      refine r_iconst C dX3_settleHolding_23 ?_
      refine r_ixor C dX3_settleHolding_24 ?_
      refine r_iand C dX3_settleHolding_25 ?_
      refine r_topI (fun v6 e_v6 => ?_)
      have h := h v6 e_v6
      refine r_istore (ls' := [(5, vI v6), (0, .ref (ad o)), (1, .ref (ad 1)), (2, .ref (ad p2)), (3, vI p3), (4, vI p4)]) C dX3_settleHolding_26 (by decide) rfl ?_
      refine r_aload_n C 2 dX3_settleHolding_28 rfl ?_
      refine r_callV (As := []) (o := 1) (n := 0) C dX3_settleHolding_29 (x2_allSet_ct κ.1.2.1 ad cA D s1) gX3_settleHolding_X2_allSet rfl ⟨rfl, rfl⟩ (by decide +kernel) (by decide) (shA_1) rfl rfl rfl (Nat.le_of_ble_eq_true rfl) (fun _ => rfl) ?_
      refine x2_allSet_mono h (fun r8 s7 h => ?_)
      refine r_istore (ls' := [(6, vI r8), (5, vI v6), (0, .ref (ad o)), (1, .ref (ad 1)), (2, .ref (ad p2)), (3, vI p3), (4, vI p4)]) C dX3_settleHolding_32 (by decide) rfl ?_
      refine r_iconst C dX3_settleHolding_34 ?_
      refine r_istore (ls' := [(7, vI (0 : Int)), (6, vI r8), (5, vI v6), (0, .ref (ad o)), (1, .ref (ad 1)), (2, .ref (ad p2)), (3, vI p3), (4, vI p4)]) C dX3_settleHolding_35 (by decide) rfl ?_
      exact r_perm [3, 4, 5, 6, 7, 2, 1, 0] rfl ((z37 _ _ _ _ _ _ _).1 h)
  · intro x2 x3 x4 x5 x6 x7 s h
    refine (z37 _ _ _ _ _ _ _).2 ?_
    refine r_iload C 7 dX3_settleHolding_37 rfl ?_
    refine r_sipush C dX3_settleHolding_39 (by decide) ?_
    refine r_icmp_ge (tgt := 151) C dX3_settleHolding_42 (by decide) ⟨h.1, fun c13 => ?_, fun c13 => ?_⟩
    · have h := h.2.1 c13
      exact r_return C dX3_settleHolding_151 h
    · have h := h.2.2 c13
      refine r_aload_n C 0 dX3_settleHolding_45 rfl ?_
      refine r_aload_n C 1 dX3_settleHolding_46 rfl ?_
      refine r_aload_n C 2 dX3_settleHolding_47 rfl ?_
      refine r_iload C 5 dX3_settleHolding_48 rfl ?_
      refine r_iload C 6 dX3_settleHolding_50 rfl ?_
      refine r_callV (As := [.ref (ad 1), .ref (ad x2), vI x5, vI x6]) (o := o) (n := 4) C dX3_settleHolding_52 (x3_fillSystem_ct κ.1.2.1 ad cA D o x2 x5 x6 s ho) gX3_settleHolding_X3_fillSystem rfl ⟨rfl, rfl⟩ (by decide +kernel) (by decide) (lf_0 ho) rfl rfl rfl (Nat.le_of_ble_eq_true rfl) (fun _ => rfl) ?_
      refine x3_fillSystem_mono h (fun _ s10 h => ?_)
      refine r_iload_n C 3 dX3_settleHolding_55 rfl ?_
      refine r_iconst C dX3_settleHolding_56 ?_
      refine r_icmp_eq (tgt := 72) C dX3_settleHolding_57 (by decide) ⟨h.1, fun c12 => ?_, fun c12 => ?_⟩
      · have h := h.2.1 c12
        exact r_perm [0, 1, 2, 3, 4, 5, 6, 7] rfl ((z72 _ _ _ _ _ _ _).1 h)
      · have h := h.2.2 c12
        refine r_aload_n C 0 dX3_settleHolding_60 rfl ?_
        refine r_get (j := 3) (jz := 3) (v := .ref (ad (o + 3))) C dX3_settleHolding_61 (lf_0 ho) rfl rfl (by decide) in_x3_settleHolding_X3 w_x3_settleHolding_22 rfl rfl rfl ?_
        refine r_iload_n C 3 dX3_settleHolding_64 rfl ?_
        refine r_dup2 C dX3_settleHolding_65 rfl rfl ?_
        refine r_lald (nz := 6) C dX3_settleHolding_66 (lf_3 ho) rfl (by decide) ⟨h.1, ?_⟩
        have h := h.2
        refine r_iload C 4 dX3_settleHolding_67 rfl ?_
        refine r_i2l C dX3_settleHolding_69 ⟨h.1, ?_⟩
        have h := h.2
        refine r_ladd C dX3_settleHolding_70 ?_
        refine r_last (nz := 6) C dX3_settleHolding_71 (lf_3 ho) rfl (by decide) ⟨h.1, fun s11 e_s11 => ?_⟩
        have h := h.2 s11 e_s11
        exact r_perm [0, 1, 2, 3, 4, 5, 6, 7] rfl ((z72 _ _ _ _ _ _ _).1 h)
  · intro x2 x3 x4 x5 x6 x7 s h
    refine (z72 _ _ _ _ _ _ _).2 ?_
    refine r_aload_n C 0 dX3_settleHolding_72 rfl ?_
    refine r_aload_n C 1 dX3_settleHolding_73 rfl ?_
    refine r_get (j := 0) (jz := 0) (v := vI (s 1 (0 : Int))) C dX3_settleHolding_74 (shA_1) rfl rfl (by decide) in_x3_settleHolding_X2 w_x3_settleHolding_48 rfl rfl rfl ?_
    refine r_aload_n C 1 dX3_settleHolding_77 rfl ?_
    refine r_get (j := 1) (jz := 1) (v := vI (s 1 (1 : Int))) C dX3_settleHolding_78 (shA_1) rfl rfl (by decide) in_x3_settleHolding_X2 w_x3_settleHolding_51 rfl rfl rfl ?_
    refine r_callV (As := [vI (s 1 (0 : Int)), vI (s 1 (1 : Int))]) (o := o) (n := 2) C dX3_settleHolding_81 (x3_fillArcs_ct κ.1.2.1 ad cA D o (s 1 (0 : Int)) (s 1 (1 : Int)) s ho) gX3_settleHolding_X3_fillArcs rfl ⟨rfl, rfl⟩ (by decide +kernel) (by decide) (lf_0 ho) rfl rfl rfl (Nat.le_of_ble_eq_true rfl) (fun _ => rfl) ?_
    refine x3_fillArcs_mono h (fun _ s14 h => ?_)
    refine r_aload_n C 0 dX3_settleHolding_84 rfl ?_
    refine r_aload_n C 1 dX3_settleHolding_85 rfl ?_
    refine r_get (j := 0) (jz := 0) (v := vI (s14 1 (0 : Int))) C dX3_settleHolding_86 (shA_1) rfl rfl (by decide) in_x3_settleHolding_X2 w_x3_settleHolding_48 rfl rfl rfl ?_
    refine r_aload_n C 1 dX3_settleHolding_89 rfl ?_
    refine r_get (j := 1) (jz := 1) (v := vI (s14 1 (1 : Int))) C dX3_settleHolding_90 (shA_1) rfl rfl (by decide) in_x3_settleHolding_X2 w_x3_settleHolding_51 rfl rfl rfl ?_
    refine r_callV (As := [vI (s14 1 (0 : Int)), vI (s14 1 (1 : Int))]) (o := o) (n := 2) C dX3_settleHolding_93 (x3_solve_ct κ.1.2.1 ad cA D o (s14 1 (0 : Int)) (s14 1 (1 : Int)) s14 ho) gX3_settleHolding_X3_solve rfl ⟨rfl, rfl⟩ (by decide +kernel) (by decide) (lf_0 ho) rfl rfl rfl (Nat.le_of_ble_eq_true rfl) (fun _ => rfl) ?_
    refine x3_solve_mono h (fun _ s15 h => ?_)
    refine r_aload_n C 0 dX3_settleHolding_96 rfl ?_
    refine r_aload_n C 1 dX3_settleHolding_97 rfl ?_
    refine r_callV (As := [.ref (ad 1)]) (o := o) (n := 1) C dX3_settleHolding_98 (x3_liftedSet_ct κ.1.2.1 ad cA D o s15 ho) gX3_settleHolding_X3_liftedSet rfl ⟨rfl, rfl⟩ (by decide +kernel) (by decide) (lf_0 ho) rfl rfl rfl (Nat.le_of_ble_eq_true rfl) (fun _ => rfl) ?_
    refine x3_liftedSet_mono h (fun r17 s16 h => ?_)
    refine r_istore (ls' := [(8, vI r17), (0, .ref (ad o)), (1, .ref (ad 1)), (2, .ref (ad x2)), (3, vI x3), (4, vI x4), (5, vI x5), (6, vI x6), (7, vI x7)]) C dX3_settleHolding_101 (by decide) rfl ?_
    refine r_iload C 6 dX3_settleHolding_103 rfl ?_
    refine r_aload_n C 1 dX3_settleHolding_105 rfl ?_
    refine r_aload_n C 2 dX3_settleHolding_106 rfl ?_
    refine r_callV (As := [.ref (ad 1)]) (o := o) (n := 1) C dX3_settleHolding_107 (x3_aboveTurnsSet_ct κ.1.2.1 ad cA D o s16 ho) gX3_settleHolding_X3_aboveTurnsSet rfl ⟨rfl, rfl⟩ (by decide +kernel) (by decide) (lf_0 ho) rfl rfl rfl (Nat.le_of_ble_eq_true rfl) (fun _ => rfl) ?_
    refine x3_aboveTurnsSet_mono h (fun r19 s18 h => ?_)
    refine r_iand C dX3_settleHolding_110 ?_
    refine r_istore (ls' := [(9, vI (andI x5 r19)), (8, vI r17), (0, .ref (ad o)), (1, .ref (ad 1)), (2, .ref (ad x2)), (3, vI x3), (4, vI x4), (5, vI x5), (6, vI x6), (7, vI x7)]) C dX3_settleHolding_111 (by decide) rfl ?_
    refine r_iload C 1 dX3_settleHolding_113 rfl ?_
    refine r_iload C 8 dX3_settleHolding_115 rfl ?_
    refine r_icmp_eq (tgt := 127) C dX3_settleHolding_117 (by decide) ⟨h.1, fun c22 => ?_, fun c22 => ?_⟩
    · have h := h.2.1 c22
      refine r_iload C 0 dX3_settleHolding_127 rfl ?_
      refine r_if_eq (tgt := 144) C dX3_settleHolding_129 (by decide) ⟨h.1, fun c21 => ?_, fun c21 => ?_⟩
      · have h := h.2.1 c21
        exact r_return C dX3_settleHolding_144 h
      · have h := h.2.2 c21
        refine r_iload C 7 dX3_settleHolding_132 rfl ?_
        refine r_iload C 0 dX3_settleHolding_134 rfl ?_
        refine r_iconst C dX3_settleHolding_136 ?_
        refine r_ixor C dX3_settleHolding_137 ?_
        refine r_iand C dX3_settleHolding_138 ?_
        refine r_topI (fun v20 e_v20 => ?_)
        have h := h v20 e_v20
        refine r_istore (ls' := [(5, vI v20), (9, vI (andI x5 r19)), (8, vI r17), (0, .ref (ad o)), (1, .ref (ad 1)), (2, .ref (ad x2)), (3, vI x3), (4, vI x4), (6, vI x6), (7, vI x7)]) C dX3_settleHolding_139 (by decide) rfl ?_
        refine r_goto (tgt := 145) C dX3_settleHolding_141 (by decide) ?_
        refine r_iinc (j := 9) (ls' := [(7, vI (x7 + (1 : Int))), (5, vI v20), (9, vI (andI x5 r19)), (8, vI r17), (0, .ref (ad o)), (1, .ref (ad 1)), (2, .ref (ad x2)), (3, vI x3), (4, vI x4), (6, vI x6)]) C dX3_settleHolding_145 rfl (by decide) rfl ?_
        refine r_goto (tgt := 37) C dX3_settleHolding_148 (by decide) ?_
        exact r_perm [4, 5, 6, 7, 8, 1, 9, 0] rfl ((z37 _ _ _ _ _ _ _).1 h)
    · have h := h.2.2 c22
      refine r_iload C 1 dX3_settleHolding_120 rfl ?_
      refine r_istore (ls' := [(6, vI r17), (9, vI (andI x5 r19)), (8, vI r17), (0, .ref (ad o)), (1, .ref (ad 1)), (2, .ref (ad x2)), (3, vI x3), (4, vI x4), (5, vI x5), (7, vI x7)]) C dX3_settleHolding_122 (by decide) rfl ?_
      refine r_goto (tgt := 145) C dX3_settleHolding_124 (by decide) ?_
      refine r_iinc (j := 9) (ls' := [(7, vI (x7 + (1 : Int))), (6, vI r17), (9, vI (andI x5 r19)), (8, vI r17), (0, .ref (ad o)), (1, .ref (ad 1)), (2, .ref (ad x2)), (3, vI x3), (4, vI x4), (5, vI x5)]) C dX3_settleHolding_145 rfl (by decide) rfl ?_
      refine r_goto (tgt := 37) C dX3_settleHolding_148 (by decide) ?_
      exact r_perm [4, 5, 6, 7, 8, 9, 1, 0] rfl ((z37 _ _ _ _ _ _ _).1 h)
theorem x3_settleHolding_ct (l : Launch) (ad : Nat → Nat) (cA : Nat → ClassId) (D : va_G) (o : Nat) (p2 : Nat) (p3 : Int) (p4 : Int) (s : Mem) (ho : LfA o) : MG l yX3_settleHolding wsX3_settleHolding x3_settleHolding_rm ocV [.ref (ad o), .ref (ad 1), .ref (ad p2), vI p3, vI p4] (GA ad cA D) s (x3_settleHolding o p2 p3 p4 s) :=
  m_met (own := RX3) (nL := 10) (by decide) rfl rfl (Nat.le_of_ble_eq_true rfl) rfl rfl rfl (fun κ hl C Q Pst hW hQ => x3_settleHolding_bd ho C (x3_settleHolding_mono hW hQ))

def x3_settle (o : Nat) (p2 : Nat) (s : Mem) (Q : Int → Mem → Prop) : Prop :=
  x3_settleHolding o p2 (-1 : Int) (0 : Int) s (fun _ s1 => Q (0 : Int) s1)
theorem x3_settle_mono {Q R : Int → Mem → Prop} {o : Nat} {p2 : Nat} {s : Mem} (h : x3_settle o p2 s Q) (hQ : ∀ r s, Q r s → R r s) : x3_settle o p2 s R :=
  x3_settleHolding_mono h (fun _ s1 h => hQ _ _ h)
def x3_settle_rm : Room := { frames := 2, cells := 0, slots := 0, locals := 63 }
set_option maxHeartbeats 4000000 in
set_option maxRecDepth 100000 in
theorem x3_settle_bd {κ : KT} {ad : Nat → Nat} {cA : Nat → ClassId} {D : va_G} {Q : State → Prop} {o : Nat} {p2 : Nat} {s : Mem} (ho : LfA o) (C : CX κ (GA ad cA D) RX3 cX3_settle 3 wsX3_settle x3_settle_rm none) (h : x3_settle o p2 s (RT κ (GA ad cA D) ocV Q)) : WM κ (GA ad cA D) 3 Q s 0 [(0, .ref (ad o)), (1, .ref (ad 1)), (2, .ref (ad p2))] [] := by
  refine r_aload_n C 0 dX3_settle_0 rfl ?_
  refine r_aload_n C 1 dX3_settle_1 rfl ?_
  refine r_aload_n C 2 dX3_settle_2 rfl ?_
  refine r_iconst C dX3_settle_3 ?_
  refine r_iconst C dX3_settle_4 ?_
  refine r_callV (As := [.ref (ad 1), .ref (ad p2), vI (-1 : Int), vI (0 : Int)]) (o := o) (n := 4) C dX3_settle_5 (x3_settleHolding_ct κ.1.2.1 ad cA D o p2 (-1 : Int) (0 : Int) s ho) gX3_settle_X3_settleHolding rfl ⟨rfl, rfl⟩ (by decide +kernel) (by decide) (lf_0 ho) rfl rfl rfl (Nat.le_of_ble_eq_true rfl) (fun _ => rfl) ?_
  refine x3_settleHolding_mono h (fun _ s1 h => ?_)
  exact r_return C dX3_settle_8 h
theorem x3_settle_ct (l : Launch) (ad : Nat → Nat) (cA : Nat → ClassId) (D : va_G) (o : Nat) (p2 : Nat) (s : Mem) (ho : LfA o) : MG l yX3_settle wsX3_settle x3_settle_rm ocV [.ref (ad o), .ref (ad 1), .ref (ad p2)] (GA ad cA D) s (x3_settle o p2 s) :=
  m_met (own := RX3) (nL := 3) (by decide) rfl rfl (Nat.le_of_ble_eq_true rfl) rfl rfl rfl (fun κ hl C Q Pst hW hQ => x3_settle_bd ho C (x3_settle_mono hW hQ))

def x3_pullUpper (o : Nat) (p2 : Int) (s : Mem) (Q : Int → Mem → Prop) : Prop :=
  x2_isBroken p2 s (fun r2 s1 => InI r2 ∧ (r2 = (0 : Int) → ((0 : Int) ≤ p2 ∧ p2 < 6) ∧ (InI (s1 2 p2)) ∧ ((0 : Int) ≤ p2 ∧ p2 < 6) ∧ (InI (s1 4 p2)) ∧ ((0 : Int) ≤ p2 ∧ p2 < 6) ∧ (InL (0 : Int) ∧ InL (((s1 o (1 : Int)) * (s1 4 p2)) - (s1 (o + 1) p2))) ∧ Q ((s1 2 p2) * (if (((s1 o (1 : Int)) * (s1 4 p2)) - (s1 (o + 1) p2)) < (0 : Int) then (0 : Int) else (((s1 o (1 : Int)) * (s1 4 p2)) - (s1 (o + 1) p2)))) s1) ∧ (¬ r2 = (0 : Int) → Q (0 : Int) s1))
theorem x3_pullUpper_mono {Q R : Int → Mem → Prop} {o : Nat} {p2 : Int} {s : Mem} (h : x3_pullUpper o p2 s Q) (hQ : ∀ r s, Q r s → R r s) : x3_pullUpper o p2 s R :=
  x2_isBroken_mono h (fun r2 s1 h => ⟨h.1, fun c => have h := h.2.1 c; ⟨h.1, have h := h.2; ⟨h.1, have h := h.2; ⟨h.1, have h := h.2; ⟨h.1, have h := h.2; ⟨h.1, have h := h.2; ⟨h.1, have h := h.2; hQ _ _ h⟩⟩⟩⟩⟩⟩, fun c => have h := h.2.2 c; hQ _ _ h⟩)
def x3_pullUpper_rm : Room := { frames := 1, cells := 0, slots := 0, locals := 60 }
theorem w_x3_pullUpper_70 : Cond.fieldLink RX3 70 "BoltRing$Joint" "stiffness" "[I" ∈ wsX3_pullUpper := by decide +kernel
theorem w_x3_pullUpper_15 : Cond.fieldLink RX3 15 "BoltRing$Lifts" "lower" "J" ∈ wsX3_pullUpper := by decide +kernel
theorem w_x3_pullUpper_74 : Cond.fieldLink RX3 74 "BoltRing$Joint" "turns" "[I" ∈ wsX3_pullUpper := by decide +kernel
theorem w_x3_pullUpper_9 : Cond.fieldLink RX3 9 "BoltRing$Lifts" "upper" "[J" ∈ wsX3_pullUpper := by decide +kernel
theorem w_x3_pullUpper_l84 : Cond.methodLink RX3 84 Lib.MathLoose.max_long.x ∈ wsX3_pullUpper := by decide +kernel
theorem w_x3_pullUpper_s84 : Cond.static Lib.MathLoose.max_long.x ∈ wsX3_pullUpper := by decide +kernel
theorem w_x3_pullUpper_im : Cond.initialized "java/lang/Math" ∈ wsX3_pullUpper := by decide +kernel
theorem w_x3_pullUpper_c84 : Cond.code Lib.MathLoose.max_long.x Lib.MathLoose.max_long.code 4 (some .long) ∈ wsX3_pullUpper := by decide +kernel
theorem in_x3_pullUpper_X2 : ∀ w ∈ wsX20, w ∈ wsX3_pullUpper := by decide +kernel
theorem in_x3_pullUpper_X3 : ∀ w ∈ wsX30, w ∈ wsX3_pullUpper := by decide +kernel
set_option maxHeartbeats 4000000 in
set_option maxRecDepth 100000 in
theorem x3_pullUpper_bd {κ : KT} {ad : Nat → Nat} {cA : Nat → ClassId} {D : va_G} {Q : State → Prop} {o : Nat} {p2 : Int} {s : Mem} (ho : LfA o) (C : CX κ (GA ad cA D) RX3 cX3_pullUpper 3 wsX3_pullUpper x3_pullUpper_rm (some .long)) (h : x3_pullUpper o p2 s (RT κ (GA ad cA D) ocL Q)) : WM κ (GA ad cA D) 3 Q s 0 [(0, .ref (ad o)), (1, .ref (ad 1)), (2, vI p2)] [] := by
  refine r_aload_n C 1 dX3_pullUpper_0 rfl ?_
  refine r_iload_n C 2 dX3_pullUpper_1 rfl ?_
  refine r_callV (As := [vI p2]) (o := 1) (n := 1) C dX3_pullUpper_2 (x2_isBroken_ct κ.1.2.1 ad cA D p2 s) gX3_pullUpper_X2_isBroken rfl ⟨rfl, rfl⟩ (by decide +kernel) (by decide) (shA_1) rfl rfl rfl (Nat.le_of_ble_eq_true rfl) (fun _ => rfl) ?_
  refine x2_isBroken_mono h (fun r2 s1 h => ?_)
  refine r_if_eq (tgt := 10) C dX3_pullUpper_5 (by decide) ⟨h.1, fun c3 => ?_, fun c3 => ?_⟩
  · have h := h.2.1 c3
    refine r_aload_n C 1 dX3_pullUpper_10 rfl ?_
    refine r_get (j := 3) (jz := 3) (v := .ref (ad 2)) C dX3_pullUpper_11 (shA_1) rfl rfl (by decide) in_x3_pullUpper_X2 w_x3_pullUpper_70 rfl rfl rfl ?_
    refine r_iload_n C 2 dX3_pullUpper_14 rfl ?_
    refine r_iald (nz := 6) C dX3_pullUpper_15 (shA_2) rfl (by decide) ⟨h.1, ?_⟩
    have h := h.2
    refine r_i2l C dX3_pullUpper_16 ⟨h.1, ?_⟩
    have h := h.2
    refine r_lconst (z := 0) C dX3_pullUpper_17 rfl ?_
    refine r_aload_n C 0 dX3_pullUpper_18 rfl ?_
    refine r_get (j := 1) (jz := 1) (v := vL (s1 o (1 : Int))) C dX3_pullUpper_19 (lf_0 ho) rfl rfl (by decide) in_x3_pullUpper_X3 w_x3_pullUpper_15 rfl rfl rfl ?_
    refine r_aload_n C 1 dX3_pullUpper_22 rfl ?_
    refine r_get (j := 5) (jz := 5) (v := .ref (ad 4)) C dX3_pullUpper_23 (shA_1) rfl rfl (by decide) in_x3_pullUpper_X2 w_x3_pullUpper_74 rfl rfl rfl ?_
    refine r_iload_n C 2 dX3_pullUpper_26 rfl ?_
    refine r_iald (nz := 6) C dX3_pullUpper_27 (shA_4) rfl (by decide) ⟨h.1, ?_⟩
    have h := h.2
    refine r_i2l C dX3_pullUpper_28 ⟨h.1, ?_⟩
    have h := h.2
    refine r_lmul C dX3_pullUpper_29 ?_
    refine r_aload_n C 0 dX3_pullUpper_30 rfl ?_
    refine r_get (j := 0) (jz := 0) (v := .ref (ad (o + 1))) C dX3_pullUpper_31 (lf_0 ho) rfl rfl (by decide) in_x3_pullUpper_X3 w_x3_pullUpper_9 rfl rfl rfl ?_
    refine r_iload_n C 2 dX3_pullUpper_34 rfl ?_
    refine r_lald (nz := 6) C dX3_pullUpper_35 (lf_1 ho) rfl (by decide) ⟨h.1, ?_⟩
    have h := h.2
    refine r_lsub C dX3_pullUpper_36 ?_
    refine r_maxL C dX3_pullUpper_37 w_x3_pullUpper_l84 w_x3_pullUpper_s84 w_x3_pullUpper_im w_x3_pullUpper_c84 (by decide) (Nat.le_of_ble_eq_true rfl) ⟨h.1, ?_⟩
    have h := h.2
    refine r_lmul C dX3_pullUpper_40 ?_
    exact r_lreturn C dX3_pullUpper_41 h
  · have h := h.2.2 c3
    refine r_lconst (z := 0) C dX3_pullUpper_8 rfl ?_
    exact r_lreturn C dX3_pullUpper_9 h
theorem x3_pullUpper_ct (l : Launch) (ad : Nat → Nat) (cA : Nat → ClassId) (D : va_G) (o : Nat) (p2 : Int) (s : Mem) (ho : LfA o) : MG l yX3_pullUpper wsX3_pullUpper x3_pullUpper_rm ocL [.ref (ad o), .ref (ad 1), vI p2] (GA ad cA D) s (x3_pullUpper o p2 s) :=
  m_met (own := RX3) (nL := 3) (by decide) rfl rfl (Nat.le_of_ble_eq_true rfl) rfl rfl rfl (fun κ hl C Q Pst hW hQ => x3_pullUpper_bd ho C (x3_pullUpper_mono hW hQ))

def x3_pressUpper (o : Nat) (p2 : Int) (s : Mem) (Q : Int → Mem → Prop) : Prop :=
  ((0 : Int) ≤ p2 ∧ p2 < 6) ∧ (InI (s 3 p2)) ∧ ((0 : Int) ≤ p2 ∧ p2 < 6) ∧ (InL (0 : Int) ∧ InL (s (o + 1) p2)) ∧ Q ((s 3 p2) * (if (s (o + 1) p2) < (0 : Int) then (0 : Int) else (s (o + 1) p2))) s
theorem x3_pressUpper_mono {Q R : Int → Mem → Prop} {o : Nat} {p2 : Int} {s : Mem} (h : x3_pressUpper o p2 s Q) (hQ : ∀ r s, Q r s → R r s) : x3_pressUpper o p2 s R :=
  ⟨h.1, have h := h.2; ⟨h.1, have h := h.2; ⟨h.1, have h := h.2; ⟨h.1, have h := h.2; hQ _ _ h⟩⟩⟩⟩
def x3_pressUpper_rm : Room := { frames := 1, cells := 0, slots := 0, locals := 60 }
theorem w_x3_pressUpper_77 : Cond.fieldLink RX3 77 "BoltRing$Joint" "pads" "[I" ∈ wsX3_pressUpper := by decide +kernel
theorem w_x3_pressUpper_9 : Cond.fieldLink RX3 9 "BoltRing$Lifts" "upper" "[J" ∈ wsX3_pressUpper := by decide +kernel
theorem w_x3_pressUpper_l84 : Cond.methodLink RX3 84 Lib.MathLoose.max_long.x ∈ wsX3_pressUpper := by decide +kernel
theorem w_x3_pressUpper_s84 : Cond.static Lib.MathLoose.max_long.x ∈ wsX3_pressUpper := by decide +kernel
theorem w_x3_pressUpper_im : Cond.initialized "java/lang/Math" ∈ wsX3_pressUpper := by decide +kernel
theorem w_x3_pressUpper_c84 : Cond.code Lib.MathLoose.max_long.x Lib.MathLoose.max_long.code 4 (some .long) ∈ wsX3_pressUpper := by decide +kernel
theorem in_x3_pressUpper_X2 : ∀ w ∈ wsX20, w ∈ wsX3_pressUpper := by decide +kernel
theorem in_x3_pressUpper_X3 : ∀ w ∈ wsX30, w ∈ wsX3_pressUpper := by decide +kernel
set_option maxHeartbeats 4000000 in
set_option maxRecDepth 100000 in
theorem x3_pressUpper_bd {κ : KT} {ad : Nat → Nat} {cA : Nat → ClassId} {D : va_G} {Q : State → Prop} {o : Nat} {p2 : Int} {s : Mem} (ho : LfA o) (C : CX κ (GA ad cA D) RX3 cX3_pressUpper 3 wsX3_pressUpper x3_pressUpper_rm (some .long)) (h : x3_pressUpper o p2 s (RT κ (GA ad cA D) ocL Q)) : WM κ (GA ad cA D) 3 Q s 0 [(0, .ref (ad o)), (1, .ref (ad 1)), (2, vI p2)] [] := by
  refine r_aload_n C 1 dX3_pressUpper_0 rfl ?_
  refine r_get (j := 4) (jz := 4) (v := .ref (ad 3)) C dX3_pressUpper_1 (shA_1) rfl rfl (by decide) in_x3_pressUpper_X2 w_x3_pressUpper_77 rfl rfl rfl ?_
  refine r_iload_n C 2 dX3_pressUpper_4 rfl ?_
  refine r_iald (nz := 6) C dX3_pressUpper_5 (shA_3) rfl (by decide) ⟨h.1, ?_⟩
  have h := h.2
  refine r_i2l C dX3_pressUpper_6 ⟨h.1, ?_⟩
  have h := h.2
  refine r_lconst (z := 0) C dX3_pressUpper_7 rfl ?_
  refine r_aload_n C 0 dX3_pressUpper_8 rfl ?_
  refine r_get (j := 0) (jz := 0) (v := .ref (ad (o + 1))) C dX3_pressUpper_9 (lf_0 ho) rfl rfl (by decide) in_x3_pressUpper_X3 w_x3_pressUpper_9 rfl rfl rfl ?_
  refine r_iload_n C 2 dX3_pressUpper_12 rfl ?_
  refine r_lald (nz := 6) C dX3_pressUpper_13 (lf_1 ho) rfl (by decide) ⟨h.1, ?_⟩
  have h := h.2
  refine r_maxL C dX3_pressUpper_14 w_x3_pressUpper_l84 w_x3_pressUpper_s84 w_x3_pressUpper_im w_x3_pressUpper_c84 (by decide) (Nat.le_of_ble_eq_true rfl) ⟨h.1, ?_⟩
  have h := h.2
  refine r_lmul C dX3_pressUpper_17 ?_
  exact r_lreturn C dX3_pressUpper_18 h
theorem x3_pressUpper_ct (l : Launch) (ad : Nat → Nat) (cA : Nat → ClassId) (D : va_G) (o : Nat) (p2 : Int) (s : Mem) (ho : LfA o) : MG l yX3_pressUpper wsX3_pressUpper x3_pressUpper_rm ocL [.ref (ad o), .ref (ad 1), vI p2] (GA ad cA D) s (x3_pressUpper o p2 s) :=
  m_met (own := RX3) (nL := 3) (by decide) rfl rfl (Nat.le_of_ble_eq_true rfl) rfl rfl rfl (fun κ hl C Q Pst hW hQ => x3_pressUpper_bd ho C (x3_pressUpper_mono hW hQ))

def x3_slackCount_be (X4 : Int → Int → Mem → Prop) (Q : Int → Mem → Prop) (o : Nat) (s : Mem) : Prop :=
  X4 (0 : Int) (0 : Int) s
def x3_slackCount_b4 (o : Nat) (X4 : Int → Int → Mem → Prop) (Q : Int → Mem → Prop) (x2 : Int) (x3 : Int) (s : Mem) : Prop :=
  (InI x3 ∧ InI (s 1 (0 : Int))) ∧ ((s 1 (0 : Int)) ≤ x3 → Q x2 s) ∧ (x3 < (s 1 (0 : Int)) → x3_pullUpper o x3 s (fun r2 s1 => (InL r2 ∧ InL (0 : Int)) ∧ (¬ r2 = (0 : Int) → x7_asNumber (0 : Int) s1 (fun r4 s3 => X4 (x2 + r4) (x3 + (1 : Int)) s3)) ∧ (r2 = (0 : Int) → x7_asNumber (1 : Int) s1 (fun r6 s5 => X4 (x2 + r6) (x3 + (1 : Int)) s5))))
theorem x3_slackCount_me {X4 Y4 : Int → Int → Mem → Prop} {Q R : Int → Mem → Prop} (hX4 : ∀ x2 x3 s, X4 x2 x3 s → Y4 x2 x3 s) (hQ : ∀ r s, Q r s → R r s) {o : Nat} {s : Mem} (h : x3_slackCount_be X4 Q o s) : x3_slackCount_be Y4 R o s :=
  hX4 _ _ _ h
theorem x3_slackCount_m4 {o : Nat} {X4 Y4 : Int → Int → Mem → Prop} {Q R : Int → Mem → Prop} (hX4 : ∀ x2 x3 s, X4 x2 x3 s → Y4 x2 x3 s) (hQ : ∀ r s, Q r s → R r s) {x2 : Int} {x3 : Int} {s : Mem} (h : x3_slackCount_b4 o X4 Q x2 x3 s) : x3_slackCount_b4 o Y4 R x2 x3 s :=
  ⟨h.1, fun c => have h := h.2.1 c; hQ _ _ h, fun c => have h := h.2.2 c; x3_pullUpper_mono h (fun r2 s1 h => ⟨h.1, fun c => have h := h.2.1 c; x7_asNumber_mono h (fun r4 s3 h => hX4 _ _ _ h), fun c => have h := h.2.2 c; x7_asNumber_mono h (fun r6 s5 h => hX4 _ _ _ h)⟩)⟩
def x3_slackCount (o : Nat) (s : Mem) (Q : Int → Mem → Prop) : Prop := ∀ (X4 : Int → Int → Mem → Prop), (∀ x2 x3 s, x3_slackCount_b4 o X4 Q x2 x3 s → X4 x2 x3 s) → x3_slackCount_be X4 Q o s
def x3_slackCount_L4 (o : Nat) (Q : Int → Mem → Prop) (x2 : Int) (x3 : Int) (s : Mem) : Prop := ∀ (X4 : Int → Int → Mem → Prop), (∀ x2 x3 s, x3_slackCount_b4 o X4 Q x2 x3 s → X4 x2 x3 s) → X4 x2 x3 s
theorem x3_slackCount_i {Q : Int → Mem → Prop} {o : Nat} {s : Mem} (h : x3_slackCount_be (x3_slackCount_L4 o Q) Q o s) : x3_slackCount o s Q := fun X4 k4 => x3_slackCount_me (fun _ _ _ h => h X4 k4) (fun _ _ h => h) h
theorem x3_slackCount_s4 {o : Nat} {Q : Int → Mem → Prop} {x2 : Int} {x3 : Int} {s : Mem} (h : x3_slackCount_b4 o (x3_slackCount_L4 o Q) Q x2 x3 s) : x3_slackCount_L4 o Q x2 x3 s := fun X4 k4 => k4 _ _ _ (x3_slackCount_m4 (fun _ _ _ h => h X4 k4) (fun _ _ h => h) h)
theorem x3_slackCount_mono {Q R : Int → Mem → Prop} {o : Nat} {s : Mem} (h : x3_slackCount o s Q) (hQ : ∀ r s, Q r s → R r s) : x3_slackCount o s R := fun X4 k4 => x3_slackCount_me (fun _ _ _ h => h) hQ (h X4 (fun _ _ _ h => k4 _ _ _ (x3_slackCount_m4 (fun _ _ _ h => h) hQ h)))
def x3_slackCount_rm : Room := { frames := 2, cells := 0, slots := 0, locals := 82 }
theorem w_x3_slackCount_48 : Cond.fieldLink RX3 48 "BoltRing$Joint" "bolts" "I" ∈ wsX3_slackCount := by decide +kernel
theorem w_x3_slackCount_s94 : Cond.static yX7_asNumber ∈ wsX3_slackCount := by decide +kernel
theorem w_x3_slackCount_iX7 : Cond.initialized RX7 ∈ wsX3_slackCount := by decide +kernel
theorem in_x3_slackCount_X2 : ∀ w ∈ wsX20, w ∈ wsX3_slackCount := by decide +kernel
set_option maxHeartbeats 4000000 in
set_option maxRecDepth 100000 in
theorem x3_slackCount_bd {κ : KT} {ad : Nat → Nat} {cA : Nat → ClassId} {D : va_G} {Q : State → Prop} {o : Nat} {s : Mem} (ho : LfA o) (C : CX κ (GA ad cA D) RX3 cX3_slackCount 4 wsX3_slackCount x3_slackCount_rm (some .int)) (h : x3_slackCount o s (RT κ (GA ad cA D) ocI Q)) : WM κ (GA ad cA D) 4 Q s 0 [(0, .ref (ad o)), (1, .ref (ad 1))] [] := by
  obtain ⟨Z4, z4⟩ : ∃ Z : Int → Int → Mem → Prop, ∀ x2 x3 s, Z x2 x3 s ↔ WM κ (GA ad cA D) 4 Q s 4 [(0, .ref (ad o)), (1, .ref (ad 1)), (2, vI x2), (3, vI x3)] [] := ⟨fun x2 x3 s => WM κ (GA ad cA D) 4 Q s 4 [(0, .ref (ad o)), (1, .ref (ad 1)), (2, vI x2), (3, vI x3)] [], fun _ _ _ => Iff.rfl⟩
  refine (fun h => ?_) (h Z4 ?_)
  · refine r_iconst C dX3_slackCount_0 ?_
    refine r_istore_n (ls' := [(2, vI (0 : Int)), (0, .ref (ad o)), (1, .ref (ad 1))]) C dX3_slackCount_1 rfl (by decide) rfl ?_
    refine r_iconst C dX3_slackCount_2 ?_
    refine r_istore_n (ls' := [(3, vI (0 : Int)), (2, vI (0 : Int)), (0, .ref (ad o)), (1, .ref (ad 1))]) C dX3_slackCount_3 rfl (by decide) rfl ?_
    exact r_perm [2, 3, 1, 0] rfl ((z4 _ _ _).1 h)
  · intro x2 x3 s h
    refine (z4 _ _ _).2 ?_
    refine r_iload_n C 3 dX3_slackCount_4 rfl ?_
    refine r_aload_n C 1 dX3_slackCount_5 rfl ?_
    refine r_get (j := 0) (jz := 0) (v := vI (s 1 (0 : Int))) C dX3_slackCount_6 (shA_1) rfl rfl (by decide) in_x3_slackCount_X2 w_x3_slackCount_48 rfl rfl rfl ?_
    refine r_icmp_ge (tgt := 40) C dX3_slackCount_9 (by decide) ⟨h.1, fun c8 => ?_, fun c8 => ?_⟩
    · have h := h.2.1 c8
      refine r_iload_n C 2 dX3_slackCount_40 rfl ?_
      exact r_ireturn C dX3_slackCount_41 h
    · have h := h.2.2 c8
      refine r_iload_n C 2 dX3_slackCount_12 rfl ?_
      refine r_aload_n C 0 dX3_slackCount_13 rfl ?_
      refine r_aload_n C 1 dX3_slackCount_14 rfl ?_
      refine r_iload_n C 3 dX3_slackCount_15 rfl ?_
      refine r_callV (As := [.ref (ad 1), vI x3]) (o := o) (n := 2) C dX3_slackCount_16 (x3_pullUpper_ct κ.1.2.1 ad cA D o x3 s ho) gX3_slackCount_X3_pullUpper rfl ⟨rfl, rfl⟩ (by decide +kernel) (by decide) (lf_0 ho) rfl rfl rfl (Nat.le_of_ble_eq_true rfl) (fun _ => rfl) ?_
      refine x3_pullUpper_mono h (fun r2 s1 h => ?_)
      refine r_lconst (z := 0) C dX3_slackCount_19 rfl ?_
      refine r_lcmp_ne (tgt := 28) C dX3_slackCount_20 dX3_slackCount_21 (by decide) ⟨h.1, fun c7 => ?_, fun c7 => ?_⟩
      · have h := h.2.1 c7
        refine r_iconst C dX3_slackCount_28 ?_
        refine r_callSN (As := [vI (0 : Int)]) (n := 1) C dX3_slackCount_29 (x7_asNumber_ct κ.1.2.1 ad cA D (0 : Int) s1) C.e.1.2 w_x3_slackCount_s94 w_x3_slackCount_iX7 gX3_slackCount_X7_asNumber_n94 rfl ⟨rfl, rfl⟩ (by decide +kernel) (by decide) rfl rfl (Nat.le_of_ble_eq_true rfl) (fun _ => rfl) ?_
        refine x7_asNumber_mono h (fun r4 s3 h => ?_)
        refine r_iadd C dX3_slackCount_32 ?_
        refine r_istore_n (ls' := [(2, vI (x2 + r4)), (0, .ref (ad o)), (1, .ref (ad 1)), (3, vI x3)]) C dX3_slackCount_33 rfl (by decide) rfl ?_
        refine r_iinc (j := 3) (ls' := [(3, vI (x3 + (1 : Int))), (2, vI (x2 + r4)), (0, .ref (ad o)), (1, .ref (ad 1))]) C dX3_slackCount_34 rfl (by decide) rfl ?_
        refine r_goto (tgt := 4) C dX3_slackCount_37 (by decide) ?_
        exact r_perm [2, 3, 1, 0] rfl ((z4 _ _ _).1 h)
      · have h := h.2.2 c7
        refine r_iconst C dX3_slackCount_24 ?_
        refine r_goto (tgt := 29) C dX3_slackCount_25 (by decide) ?_
        refine r_callSN (As := [vI (1 : Int)]) (n := 1) C dX3_slackCount_29 (x7_asNumber_ct κ.1.2.1 ad cA D (1 : Int) s1) C.e.1.2 w_x3_slackCount_s94 w_x3_slackCount_iX7 gX3_slackCount_X7_asNumber_n94 rfl ⟨rfl, rfl⟩ (by decide +kernel) (by decide) rfl rfl (Nat.le_of_ble_eq_true rfl) (fun _ => rfl) ?_
        refine x7_asNumber_mono h (fun r6 s5 h => ?_)
        refine r_iadd C dX3_slackCount_32 ?_
        refine r_istore_n (ls' := [(2, vI (x2 + r6)), (0, .ref (ad o)), (1, .ref (ad 1)), (3, vI x3)]) C dX3_slackCount_33 rfl (by decide) rfl ?_
        refine r_iinc (j := 3) (ls' := [(3, vI (x3 + (1 : Int))), (2, vI (x2 + r6)), (0, .ref (ad o)), (1, .ref (ad 1))]) C dX3_slackCount_34 rfl (by decide) rfl ?_
        refine r_goto (tgt := 4) C dX3_slackCount_37 (by decide) ?_
        exact r_perm [2, 3, 1, 0] rfl ((z4 _ _ _).1 h)
theorem x3_slackCount_ct (l : Launch) (ad : Nat → Nat) (cA : Nat → ClassId) (D : va_G) (o : Nat) (s : Mem) (ho : LfA o) : MG l yX3_slackCount wsX3_slackCount x3_slackCount_rm ocI [.ref (ad o), .ref (ad 1)] (GA ad cA D) s (x3_slackCount o s) :=
  m_met (own := RX3) (nL := 4) (by decide) rfl rfl (Nat.le_of_ble_eq_true rfl) rfl rfl rfl (fun κ hl C Q Pst hW hQ => x3_slackCount_bd ho C (x3_slackCount_mono hW hQ))

def x3_openCount_be (X4 : Int → Int → Mem → Prop) (Q : Int → Mem → Prop) (o : Nat) (s : Mem) : Prop :=
  X4 (0 : Int) (0 : Int) s
def x3_openCount_b4 (o : Nat) (X4 : Int → Int → Mem → Prop) (Q : Int → Mem → Prop) (x2 : Int) (x3 : Int) (s : Mem) : Prop :=
  (InI x3 ∧ InI (s 1 (0 : Int))) ∧ ((s 1 (0 : Int)) ≤ x3 → Q x2 s) ∧ (x3 < (s 1 (0 : Int)) → x3_pressUpper o x3 s (fun r2 s1 => (InL r2 ∧ InL (0 : Int)) ∧ (¬ r2 = (0 : Int) → x7_asNumber (0 : Int) s1 (fun r4 s3 => X4 (x2 + r4) (x3 + (1 : Int)) s3)) ∧ (r2 = (0 : Int) → x7_asNumber (1 : Int) s1 (fun r6 s5 => X4 (x2 + r6) (x3 + (1 : Int)) s5))))
theorem x3_openCount_me {X4 Y4 : Int → Int → Mem → Prop} {Q R : Int → Mem → Prop} (hX4 : ∀ x2 x3 s, X4 x2 x3 s → Y4 x2 x3 s) (hQ : ∀ r s, Q r s → R r s) {o : Nat} {s : Mem} (h : x3_openCount_be X4 Q o s) : x3_openCount_be Y4 R o s :=
  hX4 _ _ _ h
theorem x3_openCount_m4 {o : Nat} {X4 Y4 : Int → Int → Mem → Prop} {Q R : Int → Mem → Prop} (hX4 : ∀ x2 x3 s, X4 x2 x3 s → Y4 x2 x3 s) (hQ : ∀ r s, Q r s → R r s) {x2 : Int} {x3 : Int} {s : Mem} (h : x3_openCount_b4 o X4 Q x2 x3 s) : x3_openCount_b4 o Y4 R x2 x3 s :=
  ⟨h.1, fun c => have h := h.2.1 c; hQ _ _ h, fun c => have h := h.2.2 c; x3_pressUpper_mono h (fun r2 s1 h => ⟨h.1, fun c => have h := h.2.1 c; x7_asNumber_mono h (fun r4 s3 h => hX4 _ _ _ h), fun c => have h := h.2.2 c; x7_asNumber_mono h (fun r6 s5 h => hX4 _ _ _ h)⟩)⟩
def x3_openCount (o : Nat) (s : Mem) (Q : Int → Mem → Prop) : Prop := ∀ (X4 : Int → Int → Mem → Prop), (∀ x2 x3 s, x3_openCount_b4 o X4 Q x2 x3 s → X4 x2 x3 s) → x3_openCount_be X4 Q o s
def x3_openCount_L4 (o : Nat) (Q : Int → Mem → Prop) (x2 : Int) (x3 : Int) (s : Mem) : Prop := ∀ (X4 : Int → Int → Mem → Prop), (∀ x2 x3 s, x3_openCount_b4 o X4 Q x2 x3 s → X4 x2 x3 s) → X4 x2 x3 s
theorem x3_openCount_i {Q : Int → Mem → Prop} {o : Nat} {s : Mem} (h : x3_openCount_be (x3_openCount_L4 o Q) Q o s) : x3_openCount o s Q := fun X4 k4 => x3_openCount_me (fun _ _ _ h => h X4 k4) (fun _ _ h => h) h
theorem x3_openCount_s4 {o : Nat} {Q : Int → Mem → Prop} {x2 : Int} {x3 : Int} {s : Mem} (h : x3_openCount_b4 o (x3_openCount_L4 o Q) Q x2 x3 s) : x3_openCount_L4 o Q x2 x3 s := fun X4 k4 => k4 _ _ _ (x3_openCount_m4 (fun _ _ _ h => h X4 k4) (fun _ _ h => h) h)
theorem x3_openCount_mono {Q R : Int → Mem → Prop} {o : Nat} {s : Mem} (h : x3_openCount o s Q) (hQ : ∀ r s, Q r s → R r s) : x3_openCount o s R := fun X4 k4 => x3_openCount_me (fun _ _ _ h => h) hQ (h X4 (fun _ _ _ h => k4 _ _ _ (x3_openCount_m4 (fun _ _ _ h => h) hQ h)))
def x3_openCount_rm : Room := { frames := 2, cells := 0, slots := 0, locals := 82 }
theorem w_x3_openCount_48 : Cond.fieldLink RX3 48 "BoltRing$Joint" "bolts" "I" ∈ wsX3_openCount := by decide +kernel
theorem w_x3_openCount_s94 : Cond.static yX7_asNumber ∈ wsX3_openCount := by decide +kernel
theorem w_x3_openCount_iX7 : Cond.initialized RX7 ∈ wsX3_openCount := by decide +kernel
theorem in_x3_openCount_X2 : ∀ w ∈ wsX20, w ∈ wsX3_openCount := by decide +kernel
set_option maxHeartbeats 4000000 in
set_option maxRecDepth 100000 in
theorem x3_openCount_bd {κ : KT} {ad : Nat → Nat} {cA : Nat → ClassId} {D : va_G} {Q : State → Prop} {o : Nat} {s : Mem} (ho : LfA o) (C : CX κ (GA ad cA D) RX3 cX3_openCount 4 wsX3_openCount x3_openCount_rm (some .int)) (h : x3_openCount o s (RT κ (GA ad cA D) ocI Q)) : WM κ (GA ad cA D) 4 Q s 0 [(0, .ref (ad o)), (1, .ref (ad 1))] [] := by
  obtain ⟨Z4, z4⟩ : ∃ Z : Int → Int → Mem → Prop, ∀ x2 x3 s, Z x2 x3 s ↔ WM κ (GA ad cA D) 4 Q s 4 [(0, .ref (ad o)), (1, .ref (ad 1)), (2, vI x2), (3, vI x3)] [] := ⟨fun x2 x3 s => WM κ (GA ad cA D) 4 Q s 4 [(0, .ref (ad o)), (1, .ref (ad 1)), (2, vI x2), (3, vI x3)] [], fun _ _ _ => Iff.rfl⟩
  refine (fun h => ?_) (h Z4 ?_)
  · refine r_iconst C dX3_openCount_0 ?_
    refine r_istore_n (ls' := [(2, vI (0 : Int)), (0, .ref (ad o)), (1, .ref (ad 1))]) C dX3_openCount_1 rfl (by decide) rfl ?_
    refine r_iconst C dX3_openCount_2 ?_
    refine r_istore_n (ls' := [(3, vI (0 : Int)), (2, vI (0 : Int)), (0, .ref (ad o)), (1, .ref (ad 1))]) C dX3_openCount_3 rfl (by decide) rfl ?_
    exact r_perm [2, 3, 1, 0] rfl ((z4 _ _ _).1 h)
  · intro x2 x3 s h
    refine (z4 _ _ _).2 ?_
    refine r_iload_n C 3 dX3_openCount_4 rfl ?_
    refine r_aload_n C 1 dX3_openCount_5 rfl ?_
    refine r_get (j := 0) (jz := 0) (v := vI (s 1 (0 : Int))) C dX3_openCount_6 (shA_1) rfl rfl (by decide) in_x3_openCount_X2 w_x3_openCount_48 rfl rfl rfl ?_
    refine r_icmp_ge (tgt := 40) C dX3_openCount_9 (by decide) ⟨h.1, fun c8 => ?_, fun c8 => ?_⟩
    · have h := h.2.1 c8
      refine r_iload_n C 2 dX3_openCount_40 rfl ?_
      exact r_ireturn C dX3_openCount_41 h
    · have h := h.2.2 c8
      refine r_iload_n C 2 dX3_openCount_12 rfl ?_
      refine r_aload_n C 0 dX3_openCount_13 rfl ?_
      refine r_aload_n C 1 dX3_openCount_14 rfl ?_
      refine r_iload_n C 3 dX3_openCount_15 rfl ?_
      refine r_callV (As := [.ref (ad 1), vI x3]) (o := o) (n := 2) C dX3_openCount_16 (x3_pressUpper_ct κ.1.2.1 ad cA D o x3 s ho) gX3_openCount_X3_pressUpper rfl ⟨rfl, rfl⟩ (by decide +kernel) (by decide) (lf_0 ho) rfl rfl rfl (Nat.le_of_ble_eq_true rfl) (fun _ => rfl) ?_
      refine x3_pressUpper_mono h (fun r2 s1 h => ?_)
      refine r_lconst (z := 0) C dX3_openCount_19 rfl ?_
      refine r_lcmp_ne (tgt := 28) C dX3_openCount_20 dX3_openCount_21 (by decide) ⟨h.1, fun c7 => ?_, fun c7 => ?_⟩
      · have h := h.2.1 c7
        refine r_iconst C dX3_openCount_28 ?_
        refine r_callSN (As := [vI (0 : Int)]) (n := 1) C dX3_openCount_29 (x7_asNumber_ct κ.1.2.1 ad cA D (0 : Int) s1) C.e.1.2 w_x3_openCount_s94 w_x3_openCount_iX7 gX3_openCount_X7_asNumber_n94 rfl ⟨rfl, rfl⟩ (by decide +kernel) (by decide) rfl rfl (Nat.le_of_ble_eq_true rfl) (fun _ => rfl) ?_
        refine x7_asNumber_mono h (fun r4 s3 h => ?_)
        refine r_iadd C dX3_openCount_32 ?_
        refine r_istore_n (ls' := [(2, vI (x2 + r4)), (0, .ref (ad o)), (1, .ref (ad 1)), (3, vI x3)]) C dX3_openCount_33 rfl (by decide) rfl ?_
        refine r_iinc (j := 3) (ls' := [(3, vI (x3 + (1 : Int))), (2, vI (x2 + r4)), (0, .ref (ad o)), (1, .ref (ad 1))]) C dX3_openCount_34 rfl (by decide) rfl ?_
        refine r_goto (tgt := 4) C dX3_openCount_37 (by decide) ?_
        exact r_perm [2, 3, 1, 0] rfl ((z4 _ _ _).1 h)
      · have h := h.2.2 c7
        refine r_iconst C dX3_openCount_24 ?_
        refine r_goto (tgt := 29) C dX3_openCount_25 (by decide) ?_
        refine r_callSN (As := [vI (1 : Int)]) (n := 1) C dX3_openCount_29 (x7_asNumber_ct κ.1.2.1 ad cA D (1 : Int) s1) C.e.1.2 w_x3_openCount_s94 w_x3_openCount_iX7 gX3_openCount_X7_asNumber_n94 rfl ⟨rfl, rfl⟩ (by decide +kernel) (by decide) rfl rfl (Nat.le_of_ble_eq_true rfl) (fun _ => rfl) ?_
        refine x7_asNumber_mono h (fun r6 s5 h => ?_)
        refine r_iadd C dX3_openCount_32 ?_
        refine r_istore_n (ls' := [(2, vI (x2 + r6)), (0, .ref (ad o)), (1, .ref (ad 1)), (3, vI x3)]) C dX3_openCount_33 rfl (by decide) rfl ?_
        refine r_iinc (j := 3) (ls' := [(3, vI (x3 + (1 : Int))), (2, vI (x2 + r6)), (0, .ref (ad o)), (1, .ref (ad 1))]) C dX3_openCount_34 rfl (by decide) rfl ?_
        refine r_goto (tgt := 4) C dX3_openCount_37 (by decide) ?_
        exact r_perm [2, 3, 1, 0] rfl ((z4 _ _ _).1 h)
theorem x3_openCount_ct (l : Launch) (ad : Nat → Nat) (cA : Nat → ClassId) (D : va_G) (o : Nat) (s : Mem) (ho : LfA o) : MG l yX3_openCount wsX3_openCount x3_openCount_rm ocI [.ref (ad o), .ref (ad 1)] (GA ad cA D) s (x3_openCount o s) :=
  m_met (own := RX3) (nL := 4) (by decide) rfl rfl (Nat.le_of_ble_eq_true rfl) rfl rfl rfl (fun κ hl C Q Pst hW hQ => x3_openCount_bd ho C (x3_openCount_mono hW hQ))
