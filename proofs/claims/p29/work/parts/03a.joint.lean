def x2_begin_be (X17 : Int → Mem → Prop) (Q : Int → Mem → Prop) (p1 : Int) (p2 : Int) (s : Mem) : Prop :=
  ∀ s1 : Mem, s1 = m_upd s 1 (0 : Int) p1 → ∀ s2 : Mem, s2 = m_upd s1 1 (1 : Int) p2 → ∀ s3 : Mem, s3 = m_upd s2 1 (2 : Int) (0 : Int) → X17 (0 : Int) s3
def x2_begin_b17 (X17 : Int → Mem → Prop) (Q : Int → Mem → Prop) (x3 : Int) (s : Mem) : Prop :=
  (InI x3 ∧ InI (6 : Int)) ∧ ((6 : Int) ≤ x3 → Q (0 : Int) s) ∧ (x3 < (6 : Int) → ((0 : Int) ≤ x3 ∧ x3 < 6) ∧ ∀ s4 : Mem, s4 = m_upd s 2 x3 (5 : Int) → ((0 : Int) ≤ x3 ∧ x3 < 6) ∧ ∀ s5 : Mem, s5 = m_upd s4 3 x3 (3 : Int) → ((0 : Int) ≤ x3 ∧ x3 < 6) ∧ ∀ s6 : Mem, s6 = m_upd s5 4 x3 (0 : Int) → ((0 : Int) ≤ x3 ∧ x3 < 6) ∧ ∀ s7 : Mem, s7 = m_upd s6 5 x3 (0 : Int) → ((0 : Int) ≤ x3 ∧ x3 < 6) ∧ ∀ s8 : Mem, s8 = m_upd s7 6 x3 x3 → X17 (x3 + (1 : Int)) s8)
theorem x2_begin_me {X17 Y17 : Int → Mem → Prop} {Q R : Int → Mem → Prop} (hX17 : ∀ x3 s, X17 x3 s → Y17 x3 s) (hQ : ∀ r s, Q r s → R r s) {p1 : Int} {p2 : Int} {s : Mem} (h : x2_begin_be X17 Q p1 p2 s) : x2_begin_be Y17 R p1 p2 s :=
  fun s1 e_s1 => have h := h s1 e_s1; fun s2 e_s2 => have h := h s2 e_s2; fun s3 e_s3 => have h := h s3 e_s3; hX17 _ _ h
theorem x2_begin_m17 {X17 Y17 : Int → Mem → Prop} {Q R : Int → Mem → Prop} (hX17 : ∀ x3 s, X17 x3 s → Y17 x3 s) (hQ : ∀ r s, Q r s → R r s) {x3 : Int} {s : Mem} (h : x2_begin_b17 X17 Q x3 s) : x2_begin_b17 Y17 R x3 s :=
  ⟨h.1, fun c => have h := h.2.1 c; hQ _ _ h, fun c => have h := h.2.2 c; ⟨h.1, have h := h.2; fun s4 e_s4 => have h := h s4 e_s4; ⟨h.1, have h := h.2; fun s5 e_s5 => have h := h s5 e_s5; ⟨h.1, have h := h.2; fun s6 e_s6 => have h := h s6 e_s6; ⟨h.1, have h := h.2; fun s7 e_s7 => have h := h s7 e_s7; ⟨h.1, have h := h.2; fun s8 e_s8 => have h := h s8 e_s8; hX17 _ _ h⟩⟩⟩⟩⟩⟩
def x2_begin (p1 : Int) (p2 : Int) (s : Mem) (Q : Int → Mem → Prop) : Prop := ∀ (X17 : Int → Mem → Prop), (∀ x3 s, x2_begin_b17 X17 Q x3 s → X17 x3 s) → x2_begin_be X17 Q p1 p2 s
def x2_begin_L17 (Q : Int → Mem → Prop) (x3 : Int) (s : Mem) : Prop := ∀ (X17 : Int → Mem → Prop), (∀ x3 s, x2_begin_b17 X17 Q x3 s → X17 x3 s) → X17 x3 s
theorem x2_begin_i {Q : Int → Mem → Prop} {p1 : Int} {p2 : Int} {s : Mem} (h : x2_begin_be (x2_begin_L17 Q) Q p1 p2 s) : x2_begin p1 p2 s Q := fun X17 k17 => x2_begin_me (fun _ _ h => h X17 k17) (fun _ _ h => h) h
theorem x2_begin_s17 {Q : Int → Mem → Prop} {x3 : Int} {s : Mem} (h : x2_begin_b17 (x2_begin_L17 Q) Q x3 s) : x2_begin_L17 Q x3 s := fun X17 k17 => k17 _ _ (x2_begin_m17 (fun _ _ h => h X17 k17) (fun _ _ h => h) h)
theorem x2_begin_mono {Q R : Int → Mem → Prop} {p1 : Int} {p2 : Int} {s : Mem} (h : x2_begin p1 p2 s Q) (hQ : ∀ r s, Q r s → R r s) : x2_begin p1 p2 s R := fun X17 k17 => x2_begin_me (fun _ _ h => h) hQ (h X17 (fun _ _ h => k17 _ _ (x2_begin_m17 (fun _ _ h => h) hQ h)))
def x2_begin_rm : Room := { frames := 0, cells := 0, slots := 0, locals := 0 }
theorem w_x2_begin_27 : Cond.fieldLink RX2 27 "BoltRing$Joint" "bolts" "I" ∈ wsX2_begin := by decide +kernel
theorem w_x2_begin_31 : Cond.fieldLink RX2 31 "BoltRing$Joint" "rib" "I" ∈ wsX2_begin := by decide +kernel
theorem w_x2_begin_34 : Cond.fieldLink RX2 34 "BoltRing$Joint" "brokenSet" "I" ∈ wsX2_begin := by decide +kernel
theorem w_x2_begin_9 : Cond.fieldLink RX2 9 "BoltRing$Joint" "stiffness" "[I" ∈ wsX2_begin := by decide +kernel
theorem w_x2_begin_15 : Cond.fieldLink RX2 15 "BoltRing$Joint" "pads" "[I" ∈ wsX2_begin := by decide +kernel
theorem w_x2_begin_18 : Cond.fieldLink RX2 18 "BoltRing$Joint" "turns" "[I" ∈ wsX2_begin := by decide +kernel
theorem w_x2_begin_21 : Cond.fieldLink RX2 21 "BoltRing$Joint" "loads" "[I" ∈ wsX2_begin := by decide +kernel
theorem w_x2_begin_24 : Cond.fieldLink RX2 24 "BoltRing$Joint" "order" "[I" ∈ wsX2_begin := by decide +kernel
theorem in_x2_begin_X2 : ∀ w ∈ wsX20, w ∈ wsX2_begin := by decide +kernel
set_option maxHeartbeats 4000000 in
set_option maxRecDepth 100000 in
theorem x2_begin_bd {κ : KT} {ad : Nat → Nat} {cA : Nat → ClassId} {D : va_G} {Q : State → Prop} {p1 : Int} {p2 : Int} {s : Mem} (C : CX κ (GA ad cA D) RX2 cX2_begin 4 wsX2_begin x2_begin_rm none) (h : x2_begin p1 p2 s (RT κ (GA ad cA D) ocV Q)) : WM κ (GA ad cA D) 4 Q s 0 [(0, .ref (ad 1)), (1, vI p1), (2, vI p2)] [] := by
  obtain ⟨Z17, z17⟩ : ∃ Z : Int → Mem → Prop, ∀ x3 s, Z x3 s ↔ WM κ (GA ad cA D) 4 Q s 17 [(0, .ref (ad 1)), (3, vI x3)] [] := ⟨fun x3 s => WM κ (GA ad cA D) 4 Q s 17 [(0, .ref (ad 1)), (3, vI x3)] [], fun _ _ => Iff.rfl⟩
  refine (fun h => ?_) (h Z17 ?_)
  · refine r_aload_n C 0 dX2_begin_0 rfl ?_
    refine r_iload_n C 1 dX2_begin_1 rfl ?_
    refine r_puti (j := 0) (jz := 0) C dX2_begin_2 (shA_1) rfl rfl (by decide) in_x2_begin_X2 tyX2 tyX2_ok nmX2 w_x2_begin_27 rfl rfl (by decide +kernel) rfl (fun s1 e_s1 => ?_)
    have h := h s1 e_s1
    refine r_aload_n C 0 dX2_begin_5 rfl ?_
    refine r_iload_n C 2 dX2_begin_6 rfl ?_
    refine r_puti (j := 1) (jz := 1) C dX2_begin_7 (shA_1) rfl rfl (by decide) in_x2_begin_X2 tyX2 tyX2_ok nmX2 w_x2_begin_31 rfl rfl (by decide +kernel) rfl (fun s2 e_s2 => ?_)
    have h := h s2 e_s2
    refine r_aload_n C 0 dX2_begin_10 rfl ?_
    refine r_iconst C dX2_begin_11 ?_
    refine r_puti (j := 2) (jz := 2) C dX2_begin_12 (shA_1) rfl rfl (by decide) in_x2_begin_X2 tyX2 tyX2_ok nmX2 w_x2_begin_34 rfl rfl (by decide +kernel) rfl (fun s3 e_s3 => ?_)
    have h := h s3 e_s3
    refine r_iconst C dX2_begin_15 ?_
    refine r_istore_n (ls' := [(3, vI (0 : Int)), (0, .ref (ad 1)), (1, vI p1), (2, vI p2)]) C dX2_begin_16 rfl (by decide) rfl ?_
    exact r_perm [1, 0] rfl ((z17 _ _).1 h)
  · intro x3 s h
    refine (z17 _ _).2 ?_
    refine r_iload_n C 1 dX2_begin_17 rfl ?_
    refine r_bipush C dX2_begin_18 (by decide) ?_
    refine r_icmp_ge (tgt := 64) C dX2_begin_20 (by decide) ⟨h.1, fun c9 => ?_, fun c9 => ?_⟩
    · have h := h.2.1 c9
      exact r_return C dX2_begin_64 h
    · have h := h.2.2 c9
      refine r_aload_n C 0 dX2_begin_23 rfl ?_
      refine r_get (j := 3) (jz := 3) (v := .ref (ad 2)) C dX2_begin_24 (shA_1) rfl rfl (by decide) in_x2_begin_X2 w_x2_begin_9 rfl rfl rfl ?_
      refine r_iload_n C 1 dX2_begin_27 rfl ?_
      refine r_iconst C dX2_begin_28 ?_
      refine r_iast (nz := 6) C dX2_begin_29 (shA_2) rfl (by decide) ⟨h.1, fun s4 e_s4 => ?_⟩
      have h := h.2 s4 e_s4
      refine r_aload_n C 0 dX2_begin_30 rfl ?_
      refine r_get (j := 4) (jz := 4) (v := .ref (ad 3)) C dX2_begin_31 (shA_1) rfl rfl (by decide) in_x2_begin_X2 w_x2_begin_15 rfl rfl rfl ?_
      refine r_iload_n C 1 dX2_begin_34 rfl ?_
      refine r_iconst C dX2_begin_35 ?_
      refine r_iast (nz := 6) C dX2_begin_36 (shA_3) rfl (by decide) ⟨h.1, fun s5 e_s5 => ?_⟩
      have h := h.2 s5 e_s5
      refine r_aload_n C 0 dX2_begin_37 rfl ?_
      refine r_get (j := 5) (jz := 5) (v := .ref (ad 4)) C dX2_begin_38 (shA_1) rfl rfl (by decide) in_x2_begin_X2 w_x2_begin_18 rfl rfl rfl ?_
      refine r_iload_n C 1 dX2_begin_41 rfl ?_
      refine r_iconst C dX2_begin_42 ?_
      refine r_iast (nz := 6) C dX2_begin_43 (shA_4) rfl (by decide) ⟨h.1, fun s6 e_s6 => ?_⟩
      have h := h.2 s6 e_s6
      refine r_aload_n C 0 dX2_begin_44 rfl ?_
      refine r_get (j := 6) (jz := 6) (v := .ref (ad 5)) C dX2_begin_45 (shA_1) rfl rfl (by decide) in_x2_begin_X2 w_x2_begin_21 rfl rfl rfl ?_
      refine r_iload_n C 1 dX2_begin_48 rfl ?_
      refine r_iconst C dX2_begin_49 ?_
      refine r_iast (nz := 6) C dX2_begin_50 (shA_5) rfl (by decide) ⟨h.1, fun s7 e_s7 => ?_⟩
      have h := h.2 s7 e_s7
      refine r_aload_n C 0 dX2_begin_51 rfl ?_
      refine r_get (j := 7) (jz := 7) (v := .ref (ad 6)) C dX2_begin_52 (shA_1) rfl rfl (by decide) in_x2_begin_X2 w_x2_begin_24 rfl rfl rfl ?_
      refine r_iload_n C 1 dX2_begin_55 rfl ?_
      refine r_iload_n C 1 dX2_begin_56 rfl ?_
      refine r_iast (nz := 6) C dX2_begin_57 (shA_6) rfl (by decide) ⟨h.1, fun s8 e_s8 => ?_⟩
      have h := h.2 s8 e_s8
      refine r_iinc (j := 1) (ls' := [(3, vI (x3 + (1 : Int))), (0, .ref (ad 1))]) C dX2_begin_58 rfl (by decide) rfl ?_
      refine r_goto (tgt := 17) C dX2_begin_61 (by decide) ?_
      exact r_perm [1, 0] rfl ((z17 _ _).1 h)
theorem x2_begin_ct (l : Launch) (ad : Nat → Nat) (cA : Nat → ClassId) (D : va_G) (p1 : Int) (p2 : Int) (s : Mem) : MG l yX2_begin wsX2_begin x2_begin_rm ocV [.ref (ad 1), vI p1, vI p2] (GA ad cA D) s (x2_begin p1 p2 s) :=
  m_met (own := RX2) (nL := 4) (by decide) rfl rfl (Nat.le_of_ble_eq_true rfl) rfl rfl rfl (fun κ hl C Q Pst hW hQ => x2_begin_bd C (x2_begin_mono hW hQ))

def x2_has (p1 : Int) (s : Mem) (Q : Int → Mem → Prop) : Prop :=
  InI p1 ∧ (p1 < (0 : Int) → ((0 : Int) ≤ (0 : Int) ∧ (0 : Int) ≤ 1) ∧ Q (0 : Int) s) ∧ ((0 : Int) ≤ p1 → (InI p1 ∧ InI (s 1 (0 : Int))) ∧ ((s 1 (0 : Int)) ≤ p1 → ((0 : Int) ≤ (0 : Int) ∧ (0 : Int) ≤ 1) ∧ Q (0 : Int) s) ∧ (p1 < (s 1 (0 : Int)) → ((0 : Int) ≤ (1 : Int) ∧ (1 : Int) ≤ 1) ∧ Q (1 : Int) s))
theorem x2_has_mono {Q R : Int → Mem → Prop} {p1 : Int} {s : Mem} (h : x2_has p1 s Q) (hQ : ∀ r s, Q r s → R r s) : x2_has p1 s R :=
  ⟨h.1, fun c => have h := h.2.1 c; ⟨h.1, hQ _ _ h.2⟩, fun c => have h := h.2.2 c; ⟨h.1, fun c => have h := h.2.1 c; ⟨h.1, hQ _ _ h.2⟩, fun c => have h := h.2.2 c; ⟨h.1, hQ _ _ h.2⟩⟩⟩
def x2_has_rm : Room := { frames := 0, cells := 0, slots := 0, locals := 0 }
theorem w_x2_has_27 : Cond.fieldLink RX2 27 "BoltRing$Joint" "bolts" "I" ∈ wsX2_has := by decide +kernel
theorem in_x2_has_X2 : ∀ w ∈ wsX20, w ∈ wsX2_has := by decide +kernel
set_option maxHeartbeats 4000000 in
set_option maxRecDepth 100000 in
theorem x2_has_bd {κ : KT} {ad : Nat → Nat} {cA : Nat → ClassId} {D : va_G} {Q : State → Prop} {p1 : Int} {s : Mem} (C : CX κ (GA ad cA D) RX2 cX2_has 2 wsX2_has x2_has_rm (some .boolean)) (h : x2_has p1 s (RT κ (GA ad cA D) ocI Q)) : WM κ (GA ad cA D) 2 Q s 0 [(0, .ref (ad 1)), (1, vI p1)] [] := by
  refine r_iload_n C 1 dX2_has_0 rfl ?_
  refine r_if_lt (tgt := 16) C dX2_has_1 (by decide) ⟨h.1, fun c2 => ?_, fun c2 => ?_⟩
  · have h := h.2.1 c2
    refine r_iconst C dX2_has_16 ?_
    exact r_zreturn C dX2_has_17 h
  · have h := h.2.2 c2
    refine r_iload_n C 1 dX2_has_4 rfl ?_
    refine r_aload_n C 0 dX2_has_5 rfl ?_
    refine r_get (j := 0) (jz := 0) (v := vI (s 1 (0 : Int))) C dX2_has_6 (shA_1) rfl rfl (by decide) in_x2_has_X2 w_x2_has_27 rfl rfl rfl ?_
    refine r_icmp_ge (tgt := 16) C dX2_has_9 (by decide) ⟨h.1, fun c1 => ?_, fun c1 => ?_⟩
    · have h := h.2.1 c1
      refine r_iconst C dX2_has_16 ?_
      exact r_zreturn C dX2_has_17 h
    · have h := h.2.2 c1
      refine r_iconst C dX2_has_12 ?_
      refine r_goto (tgt := 17) C dX2_has_13 (by decide) ?_
      exact r_zreturn C dX2_has_17 h
theorem x2_has_ct (l : Launch) (ad : Nat → Nat) (cA : Nat → ClassId) (D : va_G) (p1 : Int) (s : Mem) : MG l yX2_has wsX2_has x2_has_rm ocI [.ref (ad 1), vI p1] (GA ad cA D) s (x2_has p1 s) :=
  m_met (own := RX2) (nL := 2) (by decide) rfl rfl (Nat.le_of_ble_eq_true rfl) rfl rfl rfl (fun κ hl C Q Pst hW hQ => x2_has_bd C (x2_has_mono hW hQ))

def x2_valuesOf (p1 : Int) (s : Mem) (Q : Int → Mem → Prop) : Prop :=
  InI p1 ∧ ((p1 = 0) → Q ((2 : Nat) : Int) s) ∧ ((p1 = 1) → Q ((3 : Nat) : Int) s) ∧ ((p1 = 2) → Q ((4 : Nat) : Int) s) ∧ ((p1 < 0 ∨ 2 < p1) → Q ((5 : Nat) : Int) s)
theorem x2_valuesOf_mono {Q R : Int → Mem → Prop} {p1 : Int} {s : Mem} (h : x2_valuesOf p1 s Q) (hQ : ∀ r s, Q r s → R r s) : x2_valuesOf p1 s R :=
  ⟨h.1, fun c => have h := h.2.1 c; hQ _ _ h, fun c => have h := h.2.2.1 c; hQ _ _ h, fun c => have h := h.2.2.2.1 c; hQ _ _ h, fun c => have h := h.2.2.2.2 c; hQ _ _ h⟩
def x2_valuesOf_rm : Room := { frames := 0, cells := 0, slots := 0, locals := 0 }
theorem w_x2_valuesOf_9 : Cond.fieldLink RX2 9 "BoltRing$Joint" "stiffness" "[I" ∈ wsX2_valuesOf := by decide +kernel
theorem w_x2_valuesOf_15 : Cond.fieldLink RX2 15 "BoltRing$Joint" "pads" "[I" ∈ wsX2_valuesOf := by decide +kernel
theorem w_x2_valuesOf_18 : Cond.fieldLink RX2 18 "BoltRing$Joint" "turns" "[I" ∈ wsX2_valuesOf := by decide +kernel
theorem w_x2_valuesOf_21 : Cond.fieldLink RX2 21 "BoltRing$Joint" "loads" "[I" ∈ wsX2_valuesOf := by decide +kernel
theorem in_x2_valuesOf_X2 : ∀ w ∈ wsX20, w ∈ wsX2_valuesOf := by decide +kernel
set_option maxHeartbeats 4000000 in
set_option maxRecDepth 100000 in
theorem x2_valuesOf_bd {κ : KT} {ad : Nat → Nat} {cA : Nat → ClassId} {D : va_G} {Q : State → Prop} {p1 : Int} {s : Mem} (C : CX κ (GA ad cA D) RX2 cX2_valuesOf 2 wsX2_valuesOf x2_valuesOf_rm (some (.array .int))) (h : x2_valuesOf p1 s (RT κ (GA ad cA D) (ocR ad) Q)) : WM κ (GA ad cA D) 2 Q s 0 [(0, .ref (ad 1)), (1, vI p1)] [] := by
  refine r_iload_n C 1 dX2_valuesOf_0 rfl ?_
  have hI := h.1
  by_cases c1 : p1 = 0
  · have h := h.2.1 c1
    refine r_tsIn (tgt := 28) C 0 dX2_valuesOf_1 rfl (by decide) c1 hI (by decide) ?_
    refine r_aload_n C 0 dX2_valuesOf_28 rfl ?_
    refine r_get (j := 3) (jz := 3) (v := .ref (ad 2)) C dX2_valuesOf_29 (shA_1) rfl rfl (by decide) in_x2_valuesOf_X2 w_x2_valuesOf_9 rfl rfl rfl ?_
    exact r_areturn C dX2_valuesOf_32 (Or.inr ⟨_, rfl⟩) (Int.toNat_natCast _) h
  by_cases c1 : p1 = 1
  · have h := h.2.2.1 c1
    refine r_tsIn (tgt := 33) C 1 dX2_valuesOf_1 rfl (by decide) c1 hI (by decide) ?_
    refine r_aload_n C 0 dX2_valuesOf_33 rfl ?_
    refine r_get (j := 4) (jz := 4) (v := .ref (ad 3)) C dX2_valuesOf_34 (shA_1) rfl rfl (by decide) in_x2_valuesOf_X2 w_x2_valuesOf_15 rfl rfl rfl ?_
    exact r_areturn C dX2_valuesOf_37 (Or.inr ⟨_, rfl⟩) (Int.toNat_natCast _) h
  by_cases c1 : p1 = 2
  · have h := h.2.2.2.1 c1
    refine r_tsIn (tgt := 38) C 2 dX2_valuesOf_1 rfl (by decide) c1 hI (by decide) ?_
    refine r_aload_n C 0 dX2_valuesOf_38 rfl ?_
    refine r_get (j := 5) (jz := 5) (v := .ref (ad 4)) C dX2_valuesOf_39 (shA_1) rfl rfl (by decide) in_x2_valuesOf_X2 w_x2_valuesOf_18 rfl rfl rfl ?_
    exact r_areturn C dX2_valuesOf_42 (Or.inr ⟨_, rfl⟩) (Int.toNat_natCast _) h
  have c1d : p1 < 0 ∨ 2 < p1 := by omega
  have h := h.2.2.2.2 c1d
  refine r_tsOut (tgt := 43) C dX2_valuesOf_1 c1d hI (by decide) ?_
  refine r_aload_n C 0 dX2_valuesOf_43 rfl ?_
  refine r_get (j := 6) (jz := 6) (v := .ref (ad 5)) C dX2_valuesOf_44 (shA_1) rfl rfl (by decide) in_x2_valuesOf_X2 w_x2_valuesOf_21 rfl rfl rfl ?_
  exact r_areturn C dX2_valuesOf_47 (Or.inr ⟨_, rfl⟩) (Int.toNat_natCast _) h
theorem x2_valuesOf_ct (l : Launch) (ad : Nat → Nat) (cA : Nat → ClassId) (D : va_G) (p1 : Int) (s : Mem) : MG l yX2_valuesOf wsX2_valuesOf x2_valuesOf_rm (ocR ad) [.ref (ad 1), vI p1] (GA ad cA D) s (x2_valuesOf p1 s) :=
  m_met (own := RX2) (nL := 2) (by decide) rfl rfl (Nat.le_of_ble_eq_true rfl) rfl rfl rfl (fun κ hl C Q Pst hW hQ => x2_valuesOf_bd C (x2_valuesOf_mono hW hQ))

def x2_isBroken (p1 : Int) (s : Mem) (Q : Int → Mem → Prop) : Prop :=
  InI (andI (shrI (s 1 (2 : Int)) p1) (1 : Int)) ∧ ((andI (shrI (s 1 (2 : Int)) p1) (1 : Int)) = (0 : Int) → ((0 : Int) ≤ (0 : Int) ∧ (0 : Int) ≤ 1) ∧ Q (0 : Int) s) ∧ (¬ (andI (shrI (s 1 (2 : Int)) p1) (1 : Int)) = (0 : Int) → ((0 : Int) ≤ (1 : Int) ∧ (1 : Int) ≤ 1) ∧ Q (1 : Int) s)
theorem x2_isBroken_mono {Q R : Int → Mem → Prop} {p1 : Int} {s : Mem} (h : x2_isBroken p1 s Q) (hQ : ∀ r s, Q r s → R r s) : x2_isBroken p1 s R :=
  ⟨h.1, fun c => have h := h.2.1 c; ⟨h.1, hQ _ _ h.2⟩, fun c => have h := h.2.2 c; ⟨h.1, hQ _ _ h.2⟩⟩
def x2_isBroken_rm : Room := { frames := 0, cells := 0, slots := 0, locals := 0 }
theorem w_x2_isBroken_34 : Cond.fieldLink RX2 34 "BoltRing$Joint" "brokenSet" "I" ∈ wsX2_isBroken := by decide +kernel
theorem in_x2_isBroken_X2 : ∀ w ∈ wsX20, w ∈ wsX2_isBroken := by decide +kernel
set_option maxHeartbeats 4000000 in
set_option maxRecDepth 100000 in
theorem x2_isBroken_bd {κ : KT} {ad : Nat → Nat} {cA : Nat → ClassId} {D : va_G} {Q : State → Prop} {p1 : Int} {s : Mem} (C : CX κ (GA ad cA D) RX2 cX2_isBroken 2 wsX2_isBroken x2_isBroken_rm (some .boolean)) (h : x2_isBroken p1 s (RT κ (GA ad cA D) ocI Q)) : WM κ (GA ad cA D) 2 Q s 0 [(0, .ref (ad 1)), (1, vI p1)] [] := by
  refine r_aload_n C 0 dX2_isBroken_0 rfl ?_
  refine r_get (j := 2) (jz := 2) (v := vI (s 1 (2 : Int))) C dX2_isBroken_1 (shA_1) rfl rfl (by decide) in_x2_isBroken_X2 w_x2_isBroken_34 rfl rfl rfl ?_
  refine r_iload_n C 1 dX2_isBroken_4 rfl ?_
  refine r_ishr C dX2_isBroken_5 ?_
  refine r_iconst C dX2_isBroken_6 ?_
  refine r_iand C dX2_isBroken_7 ?_
  refine r_if_eq (tgt := 15) C dX2_isBroken_8 (by decide) ⟨h.1, fun c1 => ?_, fun c1 => ?_⟩
  · have h := h.2.1 c1
    refine r_iconst C dX2_isBroken_15 ?_
    exact r_zreturn C dX2_isBroken_16 h
  · have h := h.2.2 c1
    refine r_iconst C dX2_isBroken_11 ?_
    refine r_goto (tgt := 16) C dX2_isBroken_12 (by decide) ?_
    exact r_zreturn C dX2_isBroken_16 h
theorem x2_isBroken_ct (l : Launch) (ad : Nat → Nat) (cA : Nat → ClassId) (D : va_G) (p1 : Int) (s : Mem) : MG l yX2_isBroken wsX2_isBroken x2_isBroken_rm ocI [.ref (ad 1), vI p1] (GA ad cA D) s (x2_isBroken p1 s) :=
  m_met (own := RX2) (nL := 2) (by decide) rfl rfl (Nat.le_of_ble_eq_true rfl) rfl rfl rfl (fun κ hl C Q Pst hW hQ => x2_isBroken_bd C (x2_isBroken_mono hW hQ))

def j6_bitCount_0f7a4 (p0 : Int) (s : Mem) (Q : Int → Mem → Prop) : Prop :=
  ∀ v1 : Int, v1 = (p0 - (andI (ushrI p0 (1 : Int)) (1431655765 : Int))) → ∀ v2 : Int, v2 = ((andI v1 (858993459 : Int)) + (andI (ushrI v1 (2 : Int)) (858993459 : Int))) → ∀ v3 : Int, v3 = (andI (v2 + (ushrI v2 (4 : Int))) (252645135 : Int)) → ∀ v4 : Int, v4 = (v3 + (ushrI v3 (8 : Int))) → ∀ v5 : Int, v5 = (v4 + (ushrI v4 (16 : Int))) → Q (andI v5 (63 : Int)) s
theorem j6_bitCount_0f7a4_mono {Q R : Int → Mem → Prop} {p0 : Int} {s : Mem} (h : j6_bitCount_0f7a4 p0 s Q) (hQ : ∀ r s, Q r s → R r s) : j6_bitCount_0f7a4 p0 s R :=
  fun v1 e_v1 => have h := h v1 e_v1; fun v2 e_v2 => have h := h v2 e_v2; fun v3 e_v3 => have h := h v3 e_v3; fun v4 e_v4 => have h := h v4 e_v4; fun v5 e_v5 => have h := h v5 e_v5; hQ _ _ h
def j6_bitCount_0f7a4_rm : Room := { frames := 0, cells := 0, slots := 0, locals := 0 }
theorem w_j6_bitCount_0f7a4_265 : Cond.constant RJ6 265 (1431655765) ∈ wsJ6_bitCount_0f7a4 := by decide +kernel
theorem w_j6_bitCount_0f7a4_266 : Cond.constant RJ6 266 (858993459) ∈ wsJ6_bitCount_0f7a4 := by decide +kernel
theorem w_j6_bitCount_0f7a4_267 : Cond.constant RJ6 267 (252645135) ∈ wsJ6_bitCount_0f7a4 := by decide +kernel
set_option maxHeartbeats 4000000 in
set_option maxRecDepth 100000 in
theorem j6_bitCount_0f7a4_bd {κ : KT} {ad : Nat → Nat} {cA : Nat → ClassId} {D : va_G} {Q : State → Prop} {p0 : Int} {s : Mem} (C : CX κ (GA ad cA D) RJ6 cJ6_bitCount_0f7a4 1 wsJ6_bitCount_0f7a4 j6_bitCount_0f7a4_rm (some .int)) (h : j6_bitCount_0f7a4 p0 s (RT κ (GA ad cA D) ocI Q)) : WM κ (GA ad cA D) 1 Q s 0 [(0, vI p0)] [] := by
  refine r_iload_n C 0 dJ6_bitCount_0f7a4_0 rfl ?_
  refine r_iload_n C 0 dJ6_bitCount_0f7a4_1 rfl ?_
  refine r_iconst C dJ6_bitCount_0f7a4_2 ?_
  refine r_iushr C dJ6_bitCount_0f7a4_3 ?_
  refine r_ldcw (z := 1431655765) C dJ6_bitCount_0f7a4_4 w_j6_bitCount_0f7a4_265 rfl ?_
  refine r_iand C dJ6_bitCount_0f7a4_7 ?_
  refine r_isub C dJ6_bitCount_0f7a4_8 ?_
  refine r_topI (fun v1 e_v1 => ?_)
  have h := h v1 e_v1
  refine r_istore_n (ls' := [(0, vI v1)]) C dJ6_bitCount_0f7a4_9 rfl (by decide) rfl ?_
  refine r_iload_n C 0 dJ6_bitCount_0f7a4_10 rfl ?_
  refine r_ldcw (z := 858993459) C dJ6_bitCount_0f7a4_11 w_j6_bitCount_0f7a4_266 rfl ?_
  refine r_iand C dJ6_bitCount_0f7a4_14 ?_
  refine r_iload_n C 0 dJ6_bitCount_0f7a4_15 rfl ?_
  refine r_iconst C dJ6_bitCount_0f7a4_16 ?_
  refine r_iushr C dJ6_bitCount_0f7a4_17 ?_
  refine r_ldcw (z := 858993459) C dJ6_bitCount_0f7a4_18 w_j6_bitCount_0f7a4_266 rfl ?_
  refine r_iand C dJ6_bitCount_0f7a4_21 ?_
  refine r_iadd C dJ6_bitCount_0f7a4_22 ?_
  refine r_topI (fun v2 e_v2 => ?_)
  have h := h v2 e_v2
  refine r_istore_n (ls' := [(0, vI v2)]) C dJ6_bitCount_0f7a4_23 rfl (by decide) rfl ?_
  refine r_iload_n C 0 dJ6_bitCount_0f7a4_24 rfl ?_
  refine r_iload_n C 0 dJ6_bitCount_0f7a4_25 rfl ?_
  refine r_iconst C dJ6_bitCount_0f7a4_26 ?_
  refine r_iushr C dJ6_bitCount_0f7a4_27 ?_
  refine r_iadd C dJ6_bitCount_0f7a4_28 ?_
  refine r_ldcw (z := 252645135) C dJ6_bitCount_0f7a4_29 w_j6_bitCount_0f7a4_267 rfl ?_
  refine r_iand C dJ6_bitCount_0f7a4_32 ?_
  refine r_topI (fun v3 e_v3 => ?_)
  have h := h v3 e_v3
  refine r_istore_n (ls' := [(0, vI v3)]) C dJ6_bitCount_0f7a4_33 rfl (by decide) rfl ?_
  refine r_iload_n C 0 dJ6_bitCount_0f7a4_34 rfl ?_
  refine r_iload_n C 0 dJ6_bitCount_0f7a4_35 rfl ?_
  refine r_bipush C dJ6_bitCount_0f7a4_36 (by decide) ?_
  refine r_iushr C dJ6_bitCount_0f7a4_38 ?_
  refine r_iadd C dJ6_bitCount_0f7a4_39 ?_
  refine r_topI (fun v4 e_v4 => ?_)
  have h := h v4 e_v4
  refine r_istore_n (ls' := [(0, vI v4)]) C dJ6_bitCount_0f7a4_40 rfl (by decide) rfl ?_
  refine r_iload_n C 0 dJ6_bitCount_0f7a4_41 rfl ?_
  refine r_iload_n C 0 dJ6_bitCount_0f7a4_42 rfl ?_
  refine r_bipush C dJ6_bitCount_0f7a4_43 (by decide) ?_
  refine r_iushr C dJ6_bitCount_0f7a4_45 ?_
  refine r_iadd C dJ6_bitCount_0f7a4_46 ?_
  refine r_topI (fun v5 e_v5 => ?_)
  have h := h v5 e_v5
  refine r_istore_n (ls' := [(0, vI v5)]) C dJ6_bitCount_0f7a4_47 rfl (by decide) rfl ?_
  refine r_iload_n C 0 dJ6_bitCount_0f7a4_48 rfl ?_
  refine r_bipush C dJ6_bitCount_0f7a4_49 (by decide) ?_
  refine r_iand C dJ6_bitCount_0f7a4_51 ?_
  exact r_ireturn C dJ6_bitCount_0f7a4_52 h
theorem j6_bitCount_0f7a4_ct (l : Launch) (ad : Nat → Nat) (cA : Nat → ClassId) (D : va_G) (p0 : Int) (s : Mem) : MG l yJ6_bitCount_0f7a4 wsJ6_bitCount_0f7a4 j6_bitCount_0f7a4_rm ocI [vI p0] (GA ad cA D) s (j6_bitCount_0f7a4 p0 s) :=
  m_met (own := RJ6) (nL := 1) (by decide) rfl rfl (Nat.le_of_ble_eq_true rfl) rfl rfl rfl (fun κ hl C Q Pst hW hQ => j6_bitCount_0f7a4_bd C (j6_bitCount_0f7a4_mono hW hQ))

def x2_wholeCount  (s : Mem) (Q : Int → Mem → Prop) : Prop :=
  j6_bitCount_0f7a4 (s 1 (2 : Int)) s (fun r2 s1 => Q ((s 1 (0 : Int)) - r2) s1)
theorem x2_wholeCount_mono {Q R : Int → Mem → Prop}  {s : Mem} (h : x2_wholeCount  s Q) (hQ : ∀ r s, Q r s → R r s) : x2_wholeCount  s R :=
  j6_bitCount_0f7a4_mono h (fun r2 s1 h => hQ _ _ h)
def x2_wholeCount_rm : Room := { frames := 1, cells := 0, slots := 0, locals := 20 }
theorem w_x2_wholeCount_27 : Cond.fieldLink RX2 27 "BoltRing$Joint" "bolts" "I" ∈ wsX2_wholeCount := by decide +kernel
theorem w_x2_wholeCount_34 : Cond.fieldLink RX2 34 "BoltRing$Joint" "brokenSet" "I" ∈ wsX2_wholeCount := by decide +kernel
theorem in_x2_wholeCount_X2 : ∀ w ∈ wsX20, w ∈ wsX2_wholeCount := by decide +kernel
set_option maxHeartbeats 4000000 in
set_option maxRecDepth 100000 in
theorem x2_wholeCount_bd {κ : KT} {ad : Nat → Nat} {cA : Nat → ClassId} {D : va_G} {Q : State → Prop}  {s : Mem} (C : CX κ (GA ad cA D) RX2 cX2_wholeCount 1 wsX2_wholeCount x2_wholeCount_rm (some .int)) (h : x2_wholeCount  s (RT κ (GA ad cA D) ocI Q)) : WM κ (GA ad cA D) 1 Q s 0 [(0, .ref (ad 1))] [] := by
  refine r_aload_n C 0 dX2_wholeCount_0 rfl ?_
  refine r_get (j := 0) (jz := 0) (v := vI (s 1 (0 : Int))) C dX2_wholeCount_1 (shA_1) rfl rfl (by decide) in_x2_wholeCount_X2 w_x2_wholeCount_27 rfl rfl rfl ?_
  refine r_aload_n C 0 dX2_wholeCount_4 rfl ?_
  refine r_get (j := 2) (jz := 2) (v := vI (s 1 (2 : Int))) C dX2_wholeCount_5 (shA_1) rfl rfl (by decide) in_x2_wholeCount_X2 w_x2_wholeCount_34 rfl rfl rfl ?_
  refine r_callS (As := [vI (s 1 (2 : Int))]) (n := 1) C dX2_wholeCount_8 (j6_bitCount_0f7a4_ct κ.1.2.1 ad cA D (s 1 (2 : Int)) s) gX2_wholeCount_J6_bitCount_0f7a4 rfl ⟨rfl, rfl⟩ (by decide +kernel) (by decide) rfl rfl (Nat.le_of_ble_eq_true rfl) (fun _ => rfl) ?_
  refine j6_bitCount_0f7a4_mono h (fun r2 s1 h => ?_)
  refine r_isub C dX2_wholeCount_11 ?_
  exact r_ireturn C dX2_wholeCount_12 h
theorem x2_wholeCount_ct (l : Launch) (ad : Nat → Nat) (cA : Nat → ClassId) (D : va_G)  (s : Mem) : MG l yX2_wholeCount wsX2_wholeCount x2_wholeCount_rm ocI [.ref (ad 1)] (GA ad cA D) s (x2_wholeCount  s) :=
  m_met (own := RX2) (nL := 1) (by decide) rfl rfl (Nat.le_of_ble_eq_true rfl) rfl rfl rfl (fun κ hl C Q Pst hW hQ => x2_wholeCount_bd C (x2_wholeCount_mono hW hQ))

def x2_markBroken (p1 : Int) (p2 : Int) (s : Mem) (Q : Int → Mem → Prop) : Prop :=
  InI p2 ∧ (p2 = (0 : Int) → ∀ s1 : Mem, s1 = m_upd s 1 (2 : Int) (andI (s 1 (2 : Int)) (xorI (shlI (1 : Int) p1) (-1 : Int))) → Q (0 : Int) s1) ∧ (¬ p2 = (0 : Int) → ∀ s2 : Mem, s2 = m_upd s 1 (2 : Int) (orI (s 1 (2 : Int)) (shlI (1 : Int) p1)) → Q (0 : Int) s2)
theorem x2_markBroken_mono {Q R : Int → Mem → Prop} {p1 : Int} {p2 : Int} {s : Mem} (h : x2_markBroken p1 p2 s Q) (hQ : ∀ r s, Q r s → R r s) : x2_markBroken p1 p2 s R :=
  ⟨h.1, fun c => have h := h.2.1 c; fun s1 e_s1 => have h := h s1 e_s1; hQ _ _ h, fun c => have h := h.2.2 c; fun s2 e_s2 => have h := h s2 e_s2; hQ _ _ h⟩
def x2_markBroken_rm : Room := { frames := 0, cells := 0, slots := 0, locals := 0 }
theorem w_x2_markBroken_34 : Cond.fieldLink RX2 34 "BoltRing$Joint" "brokenSet" "I" ∈ wsX2_markBroken := by decide +kernel
theorem in_x2_markBroken_X2 : ∀ w ∈ wsX20, w ∈ wsX2_markBroken := by decide +kernel
set_option maxHeartbeats 4000000 in
set_option maxRecDepth 100000 in
theorem x2_markBroken_bd {κ : KT} {ad : Nat → Nat} {cA : Nat → ClassId} {D : va_G} {Q : State → Prop} {p1 : Int} {p2 : Int} {s : Mem} (C : CX κ (GA ad cA D) RX2 cX2_markBroken 3 wsX2_markBroken x2_markBroken_rm none) (h : x2_markBroken p1 p2 s (RT κ (GA ad cA D) ocV Q)) : WM κ (GA ad cA D) 3 Q s 0 [(0, .ref (ad 1)), (1, vI p1), (2, vI p2)] [] := by
  refine r_aload_n C 0 dX2_markBroken_0 rfl ?_
  refine r_iload_n C 2 dX2_markBroken_1 rfl ?_
  refine r_if_eq (tgt := 16) C dX2_markBroken_2 (by decide) ⟨h.1, fun c3 => ?_, fun c3 => ?_⟩
  · have h := h.2.1 c3
    refine r_aload_n C 0 dX2_markBroken_16 rfl ?_
    refine r_get (j := 2) (jz := 2) (v := vI (s 1 (2 : Int))) C dX2_markBroken_17 (shA_1) rfl rfl (by decide) in_x2_markBroken_X2 w_x2_markBroken_34 rfl rfl rfl ?_
    refine r_iconst C dX2_markBroken_20 ?_
    refine r_iload_n C 1 dX2_markBroken_21 rfl ?_
    refine r_ishl C dX2_markBroken_22 ?_
    refine r_iconst C dX2_markBroken_23 ?_
    refine r_ixor C dX2_markBroken_24 ?_
    refine r_iand C dX2_markBroken_25 ?_
    refine r_puti (j := 2) (jz := 2) C dX2_markBroken_26 (shA_1) rfl rfl (by decide) in_x2_markBroken_X2 tyX2 tyX2_ok nmX2 w_x2_markBroken_34 rfl rfl (by decide +kernel) rfl (fun s1 e_s1 => ?_)
    have h := h s1 e_s1
    exact r_return C dX2_markBroken_29 h
  · have h := h.2.2 c3
    refine r_aload_n C 0 dX2_markBroken_5 rfl ?_
    refine r_get (j := 2) (jz := 2) (v := vI (s 1 (2 : Int))) C dX2_markBroken_6 (shA_1) rfl rfl (by decide) in_x2_markBroken_X2 w_x2_markBroken_34 rfl rfl rfl ?_
    refine r_iconst C dX2_markBroken_9 ?_
    refine r_iload_n C 1 dX2_markBroken_10 rfl ?_
    refine r_ishl C dX2_markBroken_11 ?_
    refine r_ior C dX2_markBroken_12 ?_
    refine r_goto (tgt := 26) C dX2_markBroken_13 (by decide) ?_
    refine r_puti (j := 2) (jz := 2) C dX2_markBroken_26 (shA_1) rfl rfl (by decide) in_x2_markBroken_X2 tyX2 tyX2_ok nmX2 w_x2_markBroken_34 rfl rfl (by decide +kernel) rfl (fun s2 e_s2 => ?_)
    have h := h s2 e_s2
    exact r_return C dX2_markBroken_29 h
theorem x2_markBroken_ct (l : Launch) (ad : Nat → Nat) (cA : Nat → ClassId) (D : va_G) (p1 : Int) (p2 : Int) (s : Mem) : MG l yX2_markBroken wsX2_markBroken x2_markBroken_rm ocV [.ref (ad 1), vI p1, vI p2] (GA ad cA D) s (x2_markBroken p1 p2 s) :=
  m_met (own := RX2) (nL := 3) (by decide) rfl rfl (Nat.le_of_ble_eq_true rfl) rfl rfl rfl (fun κ hl C Q Pst hW hQ => x2_markBroken_bd C (x2_markBroken_mono hW hQ))

def x2_allSet  (s : Mem) (Q : Int → Mem → Prop) : Prop :=
  Q ((shlI (1 : Int) (s 1 (0 : Int))) - (1 : Int)) s
theorem x2_allSet_mono {Q R : Int → Mem → Prop}  {s : Mem} (h : x2_allSet  s Q) (hQ : ∀ r s, Q r s → R r s) : x2_allSet  s R :=
  hQ _ _ h
def x2_allSet_rm : Room := { frames := 0, cells := 0, slots := 0, locals := 0 }
theorem w_x2_allSet_27 : Cond.fieldLink RX2 27 "BoltRing$Joint" "bolts" "I" ∈ wsX2_allSet := by decide +kernel
theorem in_x2_allSet_X2 : ∀ w ∈ wsX20, w ∈ wsX2_allSet := by decide +kernel
set_option maxHeartbeats 4000000 in
set_option maxRecDepth 100000 in
theorem x2_allSet_bd {κ : KT} {ad : Nat → Nat} {cA : Nat → ClassId} {D : va_G} {Q : State → Prop}  {s : Mem} (C : CX κ (GA ad cA D) RX2 cX2_allSet 1 wsX2_allSet x2_allSet_rm (some .int)) (h : x2_allSet  s (RT κ (GA ad cA D) ocI Q)) : WM κ (GA ad cA D) 1 Q s 0 [(0, .ref (ad 1))] [] := by
  refine r_iconst C dX2_allSet_0 ?_
  refine r_aload_n C 0 dX2_allSet_1 rfl ?_
  refine r_get (j := 0) (jz := 0) (v := vI (s 1 (0 : Int))) C dX2_allSet_2 (shA_1) rfl rfl (by decide) in_x2_allSet_X2 w_x2_allSet_27 rfl rfl rfl ?_
  refine r_ishl C dX2_allSet_5 ?_
  refine r_iconst C dX2_allSet_6 ?_
  refine r_isub C dX2_allSet_7 ?_
  exact r_ireturn C dX2_allSet_8 h
theorem x2_allSet_ct (l : Launch) (ad : Nat → Nat) (cA : Nat → ClassId) (D : va_G)  (s : Mem) : MG l yX2_allSet wsX2_allSet x2_allSet_rm ocI [.ref (ad 1)] (GA ad cA D) s (x2_allSet  s) :=
  m_met (own := RX2) (nL := 1) (by decide) rfl rfl (Nat.le_of_ble_eq_true rfl) rfl rfl rfl (fun κ hl C Q Pst hW hQ => x2_allSet_bd C (x2_allSet_mono hW hQ))

def x2_placeInRow_be (X2 : Int → Int → Mem → Prop) (Q : Int → Mem → Prop) (p1 : Int) (s : Mem) : Prop :=
  X2 p1 (0 : Int) s
def x2_placeInRow_b2 (X2 : Int → Int → Mem → Prop) (Q : Int → Mem → Prop) (x1 : Int) (x2 : Int) (s : Mem) : Prop :=
  (InI x2 ∧ InI ((s 1 (0 : Int)) - (1 : Int))) ∧ (((s 1 (0 : Int)) - (1 : Int)) ≤ x2 → Q x2 s) ∧ (x2 < ((s 1 (0 : Int)) - (1 : Int)) → ((0 : Int) ≤ x2 ∧ x2 < 6) ∧ (InI (s 6 x2) ∧ InI x1) ∧ ((s 6 x2) = x1 → Q x2 s) ∧ (¬ (s 6 x2) = x1 → X2 x1 (x2 + (1 : Int)) s))
theorem x2_placeInRow_me {X2 Y2 : Int → Int → Mem → Prop} {Q R : Int → Mem → Prop} (hX2 : ∀ x1 x2 s, X2 x1 x2 s → Y2 x1 x2 s) (hQ : ∀ r s, Q r s → R r s) {p1 : Int} {s : Mem} (h : x2_placeInRow_be X2 Q p1 s) : x2_placeInRow_be Y2 R p1 s :=
  hX2 _ _ _ h
theorem x2_placeInRow_m2 {X2 Y2 : Int → Int → Mem → Prop} {Q R : Int → Mem → Prop} (hX2 : ∀ x1 x2 s, X2 x1 x2 s → Y2 x1 x2 s) (hQ : ∀ r s, Q r s → R r s) {x1 : Int} {x2 : Int} {s : Mem} (h : x2_placeInRow_b2 X2 Q x1 x2 s) : x2_placeInRow_b2 Y2 R x1 x2 s :=
  ⟨h.1, fun c => have h := h.2.1 c; hQ _ _ h, fun c => have h := h.2.2 c; ⟨h.1, have h := h.2; ⟨h.1, fun c => have h := h.2.1 c; hQ _ _ h, fun c => have h := h.2.2 c; hX2 _ _ _ h⟩⟩⟩
def x2_placeInRow (p1 : Int) (s : Mem) (Q : Int → Mem → Prop) : Prop := ∀ (X2 : Int → Int → Mem → Prop), (∀ x1 x2 s, x2_placeInRow_b2 X2 Q x1 x2 s → X2 x1 x2 s) → x2_placeInRow_be X2 Q p1 s
def x2_placeInRow_L2 (Q : Int → Mem → Prop) (x1 : Int) (x2 : Int) (s : Mem) : Prop := ∀ (X2 : Int → Int → Mem → Prop), (∀ x1 x2 s, x2_placeInRow_b2 X2 Q x1 x2 s → X2 x1 x2 s) → X2 x1 x2 s
theorem x2_placeInRow_i {Q : Int → Mem → Prop} {p1 : Int} {s : Mem} (h : x2_placeInRow_be (x2_placeInRow_L2 Q) Q p1 s) : x2_placeInRow p1 s Q := fun X2 k2 => x2_placeInRow_me (fun _ _ _ h => h X2 k2) (fun _ _ h => h) h
theorem x2_placeInRow_s2 {Q : Int → Mem → Prop} {x1 : Int} {x2 : Int} {s : Mem} (h : x2_placeInRow_b2 (x2_placeInRow_L2 Q) Q x1 x2 s) : x2_placeInRow_L2 Q x1 x2 s := fun X2 k2 => k2 _ _ _ (x2_placeInRow_m2 (fun _ _ _ h => h X2 k2) (fun _ _ h => h) h)
theorem x2_placeInRow_mono {Q R : Int → Mem → Prop} {p1 : Int} {s : Mem} (h : x2_placeInRow p1 s Q) (hQ : ∀ r s, Q r s → R r s) : x2_placeInRow p1 s R := fun X2 k2 => x2_placeInRow_me (fun _ _ _ h => h) hQ (h X2 (fun _ _ _ h => k2 _ _ _ (x2_placeInRow_m2 (fun _ _ _ h => h) hQ h)))
def x2_placeInRow_rm : Room := { frames := 0, cells := 0, slots := 0, locals := 0 }
theorem w_x2_placeInRow_27 : Cond.fieldLink RX2 27 "BoltRing$Joint" "bolts" "I" ∈ wsX2_placeInRow := by decide +kernel
theorem w_x2_placeInRow_24 : Cond.fieldLink RX2 24 "BoltRing$Joint" "order" "[I" ∈ wsX2_placeInRow := by decide +kernel
theorem in_x2_placeInRow_X2 : ∀ w ∈ wsX20, w ∈ wsX2_placeInRow := by decide +kernel
set_option maxHeartbeats 4000000 in
set_option maxRecDepth 100000 in
theorem x2_placeInRow_bd {κ : KT} {ad : Nat → Nat} {cA : Nat → ClassId} {D : va_G} {Q : State → Prop} {p1 : Int} {s : Mem} (C : CX κ (GA ad cA D) RX2 cX2_placeInRow 3 wsX2_placeInRow x2_placeInRow_rm (some .int)) (h : x2_placeInRow p1 s (RT κ (GA ad cA D) ocI Q)) : WM κ (GA ad cA D) 3 Q s 0 [(0, .ref (ad 1)), (1, vI p1)] [] := by
  obtain ⟨Z2, z2⟩ : ∃ Z : Int → Int → Mem → Prop, ∀ x1 x2 s, Z x1 x2 s ↔ WM κ (GA ad cA D) 3 Q s 2 [(0, .ref (ad 1)), (1, vI x1), (2, vI x2)] [] := ⟨fun x1 x2 s => WM κ (GA ad cA D) 3 Q s 2 [(0, .ref (ad 1)), (1, vI x1), (2, vI x2)] [], fun _ _ _ => Iff.rfl⟩
  refine (fun h => ?_) (h Z2 ?_)
  · refine r_iconst C dX2_placeInRow_0 ?_
    refine r_istore_n (ls' := [(2, vI (0 : Int)), (0, .ref (ad 1)), (1, vI p1)]) C dX2_placeInRow_1 rfl (by decide) rfl ?_
    exact r_perm [1, 2, 0] rfl ((z2 _ _ _).1 h)
  · intro x1 x2 s h
    refine (z2 _ _ _).2 ?_
    refine r_iload_n C 2 dX2_placeInRow_2 rfl ?_
    refine r_aload_n C 0 dX2_placeInRow_3 rfl ?_
    refine r_get (j := 0) (jz := 0) (v := vI (s 1 (0 : Int))) C dX2_placeInRow_4 (shA_1) rfl rfl (by decide) in_x2_placeInRow_X2 w_x2_placeInRow_27 rfl rfl rfl ?_
    refine r_iconst C dX2_placeInRow_7 ?_
    refine r_isub C dX2_placeInRow_8 ?_
    refine r_icmp_ge (tgt := 28) C dX2_placeInRow_9 (by decide) ⟨h.1, fun c2 => ?_, fun c2 => ?_⟩
    · have h := h.2.1 c2
      refine r_iload_n C 2 dX2_placeInRow_28 rfl ?_
      exact r_ireturn C dX2_placeInRow_29 h
    · have h := h.2.2 c2
      refine r_aload_n C 0 dX2_placeInRow_12 rfl ?_
      refine r_get (j := 7) (jz := 7) (v := .ref (ad 6)) C dX2_placeInRow_13 (shA_1) rfl rfl (by decide) in_x2_placeInRow_X2 w_x2_placeInRow_24 rfl rfl rfl ?_
      refine r_iload_n C 2 dX2_placeInRow_16 rfl ?_
      refine r_iald (nz := 6) C dX2_placeInRow_17 (shA_6) rfl (by decide) ⟨h.1, ?_⟩
      have h := h.2
      refine r_iload_n C 1 dX2_placeInRow_18 rfl ?_
      refine r_icmp_eq (tgt := 28) C dX2_placeInRow_19 (by decide) ⟨h.1, fun c1 => ?_, fun c1 => ?_⟩
      · have h := h.2.1 c1
        refine r_iload_n C 2 dX2_placeInRow_28 rfl ?_
        exact r_ireturn C dX2_placeInRow_29 h
      · have h := h.2.2 c1
        refine r_iinc (j := 2) (ls' := [(2, vI (x2 + (1 : Int))), (0, .ref (ad 1)), (1, vI x1)]) C dX2_placeInRow_22 rfl (by decide) rfl ?_
        refine r_goto (tgt := 2) C dX2_placeInRow_25 (by decide) ?_
        exact r_perm [1, 2, 0] rfl ((z2 _ _ _).1 h)
theorem x2_placeInRow_ct (l : Launch) (ad : Nat → Nat) (cA : Nat → ClassId) (D : va_G) (p1 : Int) (s : Mem) : MG l yX2_placeInRow wsX2_placeInRow x2_placeInRow_rm ocI [.ref (ad 1), vI p1] (GA ad cA D) s (x2_placeInRow p1 s) :=
  m_met (own := RX2) (nL := 3) (by decide) rfl rfl (Nat.le_of_ble_eq_true rfl) rfl rfl rfl (fun κ hl C Q Pst hW hQ => x2_placeInRow_bd C (x2_placeInRow_mono hW hQ))

def x2_sumOf_be (X4 : Nat → Int → Int → Mem → Prop) (Q : Int → Mem → Prop) (p1 : Nat) (s : Mem) : Prop :=
  X4 p1 (0 : Int) (0 : Int) s
def x2_sumOf_b4 (X4 : Nat → Int → Int → Mem → Prop) (Q : Int → Mem → Prop) (x1 : Nat) (x2 : Int) (x3 : Int) (s : Mem) : Prop :=
  (InI x3 ∧ InI (s 1 (0 : Int))) ∧ ((s 1 (0 : Int)) ≤ x3 → Q x2 s) ∧ (x3 < (s 1 (0 : Int)) → (shA[x1]? = some (.inr (0, 6))) ∧ ((0 : Int) ≤ x3 ∧ x3 < 6) ∧ X4 x1 (x2 + (s x1 x3)) (x3 + (1 : Int)) s)
theorem x2_sumOf_me {X4 Y4 : Nat → Int → Int → Mem → Prop} {Q R : Int → Mem → Prop} (hX4 : ∀ x1 x2 x3 s, X4 x1 x2 x3 s → Y4 x1 x2 x3 s) (hQ : ∀ r s, Q r s → R r s) {p1 : Nat} {s : Mem} (h : x2_sumOf_be X4 Q p1 s) : x2_sumOf_be Y4 R p1 s :=
  hX4 _ _ _ _ h
theorem x2_sumOf_m4 {X4 Y4 : Nat → Int → Int → Mem → Prop} {Q R : Int → Mem → Prop} (hX4 : ∀ x1 x2 x3 s, X4 x1 x2 x3 s → Y4 x1 x2 x3 s) (hQ : ∀ r s, Q r s → R r s) {x1 : Nat} {x2 : Int} {x3 : Int} {s : Mem} (h : x2_sumOf_b4 X4 Q x1 x2 x3 s) : x2_sumOf_b4 Y4 R x1 x2 x3 s :=
  ⟨h.1, fun c => have h := h.2.1 c; hQ _ _ h, fun c => have h := h.2.2 c; ⟨h.1, have h := h.2; ⟨h.1, have h := h.2; hX4 _ _ _ _ h⟩⟩⟩
def x2_sumOf (p1 : Nat) (s : Mem) (Q : Int → Mem → Prop) : Prop := ∀ (X4 : Nat → Int → Int → Mem → Prop), (∀ x1 x2 x3 s, x2_sumOf_b4 X4 Q x1 x2 x3 s → X4 x1 x2 x3 s) → x2_sumOf_be X4 Q p1 s
def x2_sumOf_L4 (Q : Int → Mem → Prop) (x1 : Nat) (x2 : Int) (x3 : Int) (s : Mem) : Prop := ∀ (X4 : Nat → Int → Int → Mem → Prop), (∀ x1 x2 x3 s, x2_sumOf_b4 X4 Q x1 x2 x3 s → X4 x1 x2 x3 s) → X4 x1 x2 x3 s
theorem x2_sumOf_i {Q : Int → Mem → Prop} {p1 : Nat} {s : Mem} (h : x2_sumOf_be (x2_sumOf_L4 Q) Q p1 s) : x2_sumOf p1 s Q := fun X4 k4 => x2_sumOf_me (fun _ _ _ _ h => h X4 k4) (fun _ _ h => h) h
theorem x2_sumOf_s4 {Q : Int → Mem → Prop} {x1 : Nat} {x2 : Int} {x3 : Int} {s : Mem} (h : x2_sumOf_b4 (x2_sumOf_L4 Q) Q x1 x2 x3 s) : x2_sumOf_L4 Q x1 x2 x3 s := fun X4 k4 => k4 _ _ _ _ (x2_sumOf_m4 (fun _ _ _ _ h => h X4 k4) (fun _ _ h => h) h)
theorem x2_sumOf_mono {Q R : Int → Mem → Prop} {p1 : Nat} {s : Mem} (h : x2_sumOf p1 s Q) (hQ : ∀ r s, Q r s → R r s) : x2_sumOf p1 s R := fun X4 k4 => x2_sumOf_me (fun _ _ _ _ h => h) hQ (h X4 (fun _ _ _ _ h => k4 _ _ _ _ (x2_sumOf_m4 (fun _ _ _ _ h => h) hQ h)))
def x2_sumOf_rm : Room := { frames := 0, cells := 0, slots := 0, locals := 0 }
theorem w_x2_sumOf_27 : Cond.fieldLink RX2 27 "BoltRing$Joint" "bolts" "I" ∈ wsX2_sumOf := by decide +kernel
theorem in_x2_sumOf_X2 : ∀ w ∈ wsX20, w ∈ wsX2_sumOf := by decide +kernel
set_option maxHeartbeats 4000000 in
set_option maxRecDepth 100000 in
theorem x2_sumOf_bd {κ : KT} {ad : Nat → Nat} {cA : Nat → ClassId} {D : va_G} {Q : State → Prop} {p1 : Nat} {s : Mem} (C : CX κ (GA ad cA D) RX2 cX2_sumOf 4 wsX2_sumOf x2_sumOf_rm (some .int)) (h : x2_sumOf p1 s (RT κ (GA ad cA D) ocI Q)) : WM κ (GA ad cA D) 4 Q s 0 [(0, .ref (ad 1)), (1, .ref (ad p1))] [] := by
  obtain ⟨Z4, z4⟩ : ∃ Z : Nat → Int → Int → Mem → Prop, ∀ x1 x2 x3 s, Z x1 x2 x3 s ↔ WM κ (GA ad cA D) 4 Q s 4 [(0, .ref (ad 1)), (1, .ref (ad x1)), (2, vI x2), (3, vI x3)] [] := ⟨fun x1 x2 x3 s => WM κ (GA ad cA D) 4 Q s 4 [(0, .ref (ad 1)), (1, .ref (ad x1)), (2, vI x2), (3, vI x3)] [], fun _ _ _ _ => Iff.rfl⟩
  refine (fun h => ?_) (h Z4 ?_)
  · refine r_iconst C dX2_sumOf_0 ?_
    refine r_istore_n (ls' := [(2, vI (0 : Int)), (0, .ref (ad 1)), (1, .ref (ad p1))]) C dX2_sumOf_1 rfl (by decide) rfl ?_
    refine r_iconst C dX2_sumOf_2 ?_
    refine r_istore_n (ls' := [(3, vI (0 : Int)), (2, vI (0 : Int)), (0, .ref (ad 1)), (1, .ref (ad p1))]) C dX2_sumOf_3 rfl (by decide) rfl ?_
    exact r_perm [2, 3, 1, 0] rfl ((z4 _ _ _ _).1 h)
  · intro x1 x2 x3 s h
    refine (z4 _ _ _ _).2 ?_
    refine r_iload_n C 3 dX2_sumOf_4 rfl ?_
    refine r_aload_n C 0 dX2_sumOf_5 rfl ?_
    refine r_get (j := 0) (jz := 0) (v := vI (s 1 (0 : Int))) C dX2_sumOf_6 (shA_1) rfl rfl (by decide) in_x2_sumOf_X2 w_x2_sumOf_27 rfl rfl rfl ?_
    refine r_icmp_ge (tgt := 24) C dX2_sumOf_9 (by decide) ⟨h.1, fun c1 => ?_, fun c1 => ?_⟩
    · have h := h.2.1 c1
      refine r_iload_n C 2 dX2_sumOf_24 rfl ?_
      exact r_ireturn C dX2_sumOf_25 h
    · have h := h.2.2 c1
      refine r_iload_n C 2 dX2_sumOf_12 rfl ?_
      refine r_aload_n C 1 dX2_sumOf_13 rfl ?_
      refine r_iload_n C 3 dX2_sumOf_14 rfl ?_
      have hg := h.1
      have h := h.2
      refine r_iald (nz := 6) C dX2_sumOf_15 (hg) rfl (by decide) ⟨h.1, ?_⟩
      have h := h.2
      refine r_iadd C dX2_sumOf_16 ?_
      refine r_istore_n (ls' := [(2, vI (x2 + (s x1 x3))), (0, .ref (ad 1)), (1, .ref (ad x1)), (3, vI x3)]) C dX2_sumOf_17 rfl (by decide) rfl ?_
      refine r_iinc (j := 3) (ls' := [(3, vI (x3 + (1 : Int))), (2, vI (x2 + (s x1 x3))), (0, .ref (ad 1)), (1, .ref (ad x1))]) C dX2_sumOf_18 rfl (by decide) rfl ?_
      refine r_goto (tgt := 4) C dX2_sumOf_21 (by decide) ?_
      exact r_perm [2, 3, 1, 0] rfl ((z4 _ _ _ _).1 h)
theorem x2_sumOf_ct (l : Launch) (ad : Nat → Nat) (cA : Nat → ClassId) (D : va_G) (p1 : Nat) (s : Mem) : MG l yX2_sumOf wsX2_sumOf x2_sumOf_rm ocI [.ref (ad 1), .ref (ad p1)] (GA ad cA D) s (x2_sumOf p1 s) :=
  m_met (own := RX2) (nL := 4) (by decide) rfl rfl (Nat.le_of_ble_eq_true rfl) rfl rfl rfl (fun κ hl C Q Pst hW hQ => x2_sumOf_bd C (x2_sumOf_mono hW hQ))

def x2_isRow_be (X13 : Int → Int → Int → Mem → Prop) (Q : Int → Mem → Prop) (p1 : Int) (s : Mem) : Prop :=
  InI p1 ∧ ((0 : Int) ≤ p1 → X13 (0 : Int) p1 (0 : Int) s) ∧ (p1 < (0 : Int) → ((0 : Int) ≤ (0 : Int) ∧ (0 : Int) ≤ 1) ∧ Q (0 : Int) s)
def x2_isRow_b13 (X13 : Int → Int → Int → Mem → Prop) (Q : Int → Mem → Prop) (x2 : Int) (x3 : Int) (x4 : Int) (s : Mem) : Prop :=
  (InI x4 ∧ InI (s 1 (0 : Int))) ∧ ((s 1 (0 : Int)) ≤ x4 → InI x3 ∧ (¬ x3 = (0 : Int) → ((0 : Int) ≤ (0 : Int) ∧ (0 : Int) ≤ 1) ∧ Q (0 : Int) s) ∧ (x3 = (0 : Int) → x2_allSet s (fun r3 s2 => (InI x2 ∧ InI r3) ∧ (¬ x2 = r3 → ((0 : Int) ≤ (0 : Int) ∧ (0 : Int) ≤ 1) ∧ Q (0 : Int) s2) ∧ (x2 = r3 → ((0 : Int) ≤ (1 : Int) ∧ (1 : Int) ≤ 1) ∧ Q (1 : Int) s2)))) ∧ (x4 < (s 1 (0 : Int)) → (InI x3 ∧ InI (10 : Int) ∧ ¬ (10 : Int) = 0) ∧ (InI (Int.tmod x3 (10 : Int)) ∧ InI (s 1 (0 : Int))) ∧ ((Int.tmod x3 (10 : Int)) < (s 1 (0 : Int)) → ∀ v6 : Int, v6 = (orI x2 (shlI (1 : Int) (Int.tmod x3 (10 : Int)))) → (InI x3 ∧ InI (10 : Int) ∧ ¬ (10 : Int) = 0) ∧ X13 v6 (Int.tdiv x3 (10 : Int)) (x4 + (1 : Int)) s) ∧ ((s 1 (0 : Int)) ≤ (Int.tmod x3 (10 : Int)) → ((0 : Int) ≤ (0 : Int) ∧ (0 : Int) ≤ 1) ∧ Q (0 : Int) s))
theorem x2_isRow_me {X13 Y13 : Int → Int → Int → Mem → Prop} {Q R : Int → Mem → Prop} (hX13 : ∀ x2 x3 x4 s, X13 x2 x3 x4 s → Y13 x2 x3 x4 s) (hQ : ∀ r s, Q r s → R r s) {p1 : Int} {s : Mem} (h : x2_isRow_be X13 Q p1 s) : x2_isRow_be Y13 R p1 s :=
  ⟨h.1, fun c => have h := h.2.1 c; hX13 _ _ _ _ h, fun c => have h := h.2.2 c; ⟨h.1, hQ _ _ h.2⟩⟩
theorem x2_isRow_m13 {X13 Y13 : Int → Int → Int → Mem → Prop} {Q R : Int → Mem → Prop} (hX13 : ∀ x2 x3 x4 s, X13 x2 x3 x4 s → Y13 x2 x3 x4 s) (hQ : ∀ r s, Q r s → R r s) {x2 : Int} {x3 : Int} {x4 : Int} {s : Mem} (h : x2_isRow_b13 X13 Q x2 x3 x4 s) : x2_isRow_b13 Y13 R x2 x3 x4 s :=
  ⟨h.1, fun c => have h := h.2.1 c; ⟨h.1, fun c => have h := h.2.1 c; ⟨h.1, hQ _ _ h.2⟩, fun c => have h := h.2.2 c; x2_allSet_mono h (fun r3 s2 h => ⟨h.1, fun c => have h := h.2.1 c; ⟨h.1, hQ _ _ h.2⟩, fun c => have h := h.2.2 c; ⟨h.1, hQ _ _ h.2⟩⟩)⟩, fun c => have h := h.2.2 c; ⟨h.1, have h := h.2; ⟨h.1, fun c => have h := h.2.1 c; fun v6 e_v6 => have h := h v6 e_v6; ⟨h.1, have h := h.2; hX13 _ _ _ _ h⟩, fun c => have h := h.2.2 c; ⟨h.1, hQ _ _ h.2⟩⟩⟩⟩
def x2_isRow (p1 : Int) (s : Mem) (Q : Int → Mem → Prop) : Prop := ∀ (X13 : Int → Int → Int → Mem → Prop), (∀ x2 x3 x4 s, x2_isRow_b13 X13 Q x2 x3 x4 s → X13 x2 x3 x4 s) → x2_isRow_be X13 Q p1 s
def x2_isRow_L13 (Q : Int → Mem → Prop) (x2 : Int) (x3 : Int) (x4 : Int) (s : Mem) : Prop := ∀ (X13 : Int → Int → Int → Mem → Prop), (∀ x2 x3 x4 s, x2_isRow_b13 X13 Q x2 x3 x4 s → X13 x2 x3 x4 s) → X13 x2 x3 x4 s
theorem x2_isRow_i {Q : Int → Mem → Prop} {p1 : Int} {s : Mem} (h : x2_isRow_be (x2_isRow_L13 Q) Q p1 s) : x2_isRow p1 s Q := fun X13 k13 => x2_isRow_me (fun _ _ _ _ h => h X13 k13) (fun _ _ h => h) h
theorem x2_isRow_s13 {Q : Int → Mem → Prop} {x2 : Int} {x3 : Int} {x4 : Int} {s : Mem} (h : x2_isRow_b13 (x2_isRow_L13 Q) Q x2 x3 x4 s) : x2_isRow_L13 Q x2 x3 x4 s := fun X13 k13 => k13 _ _ _ _ (x2_isRow_m13 (fun _ _ _ _ h => h X13 k13) (fun _ _ h => h) h)
theorem x2_isRow_mono {Q R : Int → Mem → Prop} {p1 : Int} {s : Mem} (h : x2_isRow p1 s Q) (hQ : ∀ r s, Q r s → R r s) : x2_isRow p1 s R := fun X13 k13 => x2_isRow_me (fun _ _ _ _ h => h) hQ (h X13 (fun _ _ _ _ h => k13 _ _ _ _ (x2_isRow_m13 (fun _ _ _ _ h => h) hQ h)))
def x2_isRow_rm : Room := { frames := 1, cells := 0, slots := 0, locals := 20 }
theorem w_x2_isRow_27 : Cond.fieldLink RX2 27 "BoltRing$Joint" "bolts" "I" ∈ wsX2_isRow := by decide +kernel
theorem in_x2_isRow_X2 : ∀ w ∈ wsX20, w ∈ wsX2_isRow := by decide +kernel
set_option maxHeartbeats 4000000 in
set_option maxRecDepth 100000 in
theorem x2_isRow_bd {κ : KT} {ad : Nat → Nat} {cA : Nat → ClassId} {D : va_G} {Q : State → Prop} {p1 : Int} {s : Mem} (C : CX κ (GA ad cA D) RX2 cX2_isRow 6 wsX2_isRow x2_isRow_rm (some .boolean)) (h : x2_isRow p1 s (RT κ (GA ad cA D) ocI Q)) : WM κ (GA ad cA D) 6 Q s 0 [(0, .ref (ad 1)), (1, vI p1)] [] := by
  obtain ⟨Z13, z13⟩ : ∃ Z : Int → Int → Int → Mem → Prop, ∀ x2 x3 x4 s, Z x2 x3 x4 s ↔ WM κ (GA ad cA D) 6 Q s 13 [(0, .ref (ad 1)), (2, vI x2), (3, vI x3), (4, vI x4)] [] := ⟨fun x2 x3 x4 s => WM κ (GA ad cA D) 6 Q s 13 [(0, .ref (ad 1)), (2, vI x2), (3, vI x3), (4, vI x4)] [], fun _ _ _ _ => Iff.rfl⟩
  refine (fun h => ?_) (h Z13 ?_)
  · refine r_iload_n C 1 dX2_isRow_0 rfl ?_
    refine r_if_ge (tgt := 6) C dX2_isRow_1 (by decide) ⟨h.1, fun c1 => ?_, fun c1 => ?_⟩
    · have h := h.2.1 c1
      refine r_iconst C dX2_isRow_6 ?_
      refine r_istore_n (ls' := [(2, vI (0 : Int)), (0, .ref (ad 1)), (1, vI p1)]) C dX2_isRow_7 rfl (by decide) rfl ?_
      refine r_iload_n C 2 dX2_isRow_8 rfl ?_
      refine r_istore_n (ls' := [(3, vI p1), (2, vI (0 : Int)), (0, .ref (ad 1)), (1, vI p1)]) C dX2_isRow_9 rfl (by decide) rfl ?_
      refine r_iconst C dX2_isRow_10 ?_
      refine r_istore (ls' := [(4, vI (0 : Int)), (3, vI p1), (2, vI (0 : Int)), (0, .ref (ad 1)), (1, vI p1)]) C dX2_isRow_11 (by decide) rfl ?_
      exact r_perm [3, 2, 1, 0] rfl ((z13 _ _ _ _).1 h)
    · have h := h.2.2 c1
      refine r_iconst C dX2_isRow_4 ?_
      exact r_zreturn C dX2_isRow_5 h
  · intro x2 x3 x4 s h
    refine (z13 _ _ _ _).2 ?_
    refine r_iload C 3 dX2_isRow_13 rfl ?_
    refine r_aload_n C 0 dX2_isRow_15 rfl ?_
    refine r_get (j := 0) (jz := 0) (v := vI (s 1 (0 : Int))) C dX2_isRow_16 (shA_1) rfl rfl (by decide) in_x2_isRow_X2 w_x2_isRow_27 rfl rfl rfl ?_
    refine r_icmp_ge (tgt := 57) C dX2_isRow_19 (by decide) ⟨h.1, fun c8 => ?_, fun c8 => ?_⟩
    · have h := h.2.1 c8
      refine r_iload_n C 2 dX2_isRow_57 rfl ?_
      refine r_if_ne (tgt := 73) C dX2_isRow_58 (by decide) ⟨h.1, fun c5 => ?_, fun c5 => ?_⟩
      · have h := h.2.1 c5
        refine r_iconst C dX2_isRow_73 ?_
        exact r_zreturn C dX2_isRow_74 h
      · have h := h.2.2 c5
        refine r_iload_n C 1 dX2_isRow_61 rfl ?_
        refine r_aload_n C 0 dX2_isRow_62 rfl ?_
        refine r_callV (As := []) (o := 1) (n := 0) C dX2_isRow_63 (x2_allSet_ct κ.1.2.1 ad cA D s) gX2_isRow_X2_allSet rfl ⟨rfl, rfl⟩ (by decide +kernel) (by decide) (shA_1) rfl rfl rfl (Nat.le_of_ble_eq_true rfl) (fun _ => rfl) ?_
        refine x2_allSet_mono h (fun r3 s2 h => ?_)
        refine r_icmp_ne (tgt := 73) C dX2_isRow_66 (by decide) ⟨h.1, fun c4 => ?_, fun c4 => ?_⟩
        · have h := h.2.1 c4
          refine r_iconst C dX2_isRow_73 ?_
          exact r_zreturn C dX2_isRow_74 h
        · have h := h.2.2 c4
          refine r_iconst C dX2_isRow_69 ?_
          refine r_goto (tgt := 74) C dX2_isRow_70 (by decide) ?_
          exact r_zreturn C dX2_isRow_74 h
    · have h := h.2.2 c8
      refine r_iload_n C 2 dX2_isRow_22 rfl ?_
      refine r_bipush C dX2_isRow_23 (by decide) ?_
      refine r_irem C dX2_isRow_25 ⟨h.1, ?_⟩
      have h := h.2
      refine r_istore (ls' := [(5, vI (Int.tmod x3 (10 : Int))), (0, .ref (ad 1)), (2, vI x2), (3, vI x3), (4, vI x4)]) C dX2_isRow_26 (by decide) rfl ?_
      refine r_iload C 0 dX2_isRow_28 rfl ?_
      refine r_aload_n C 1 dX2_isRow_30 rfl ?_
      refine r_get (j := 0) (jz := 0) (v := vI (s 1 (0 : Int))) C dX2_isRow_31 (shA_1) rfl rfl (by decide) in_x2_isRow_X2 w_x2_isRow_27 rfl rfl rfl ?_
      refine r_icmp_lt (tgt := 39) C dX2_isRow_34 (by decide) ⟨h.1, fun c7 => ?_, fun c7 => ?_⟩
      · have h := h.2.1 c7
        refine r_iload_n C 2 dX2_isRow_39 rfl ?_
        refine r_iconst C dX2_isRow_40 ?_
        refine r_iload C 0 dX2_isRow_41 rfl ?_
        refine r_ishl C dX2_isRow_43 ?_
        refine r_ior C dX2_isRow_44 ?_
        refine r_topI (fun v6 e_v6 => ?_)
        have h := h v6 e_v6
        refine r_istore_n (ls' := [(2, vI v6), (5, vI (Int.tmod x3 (10 : Int))), (0, .ref (ad 1)), (3, vI x3), (4, vI x4)]) C dX2_isRow_45 rfl (by decide) rfl ?_
        refine r_iload_n C 3 dX2_isRow_46 rfl ?_
        refine r_bipush C dX2_isRow_47 (by decide) ?_
        refine r_idiv C dX2_isRow_49 ⟨h.1, ?_⟩
        have h := h.2
        refine r_istore_n (ls' := [(3, vI (Int.tdiv x3 (10 : Int))), (2, vI v6), (5, vI (Int.tmod x3 (10 : Int))), (0, .ref (ad 1)), (4, vI x4)]) C dX2_isRow_50 rfl (by decide) rfl ?_
        refine r_iinc (j := 4) (ls' := [(4, vI (x4 + (1 : Int))), (3, vI (Int.tdiv x3 (10 : Int))), (2, vI v6), (5, vI (Int.tmod x3 (10 : Int))), (0, .ref (ad 1))]) C dX2_isRow_51 rfl (by decide) rfl ?_
        refine r_goto (tgt := 13) C dX2_isRow_54 (by decide) ?_
        exact r_perm [4, 2, 1, 0] rfl ((z13 _ _ _ _).1 h)
      · have h := h.2.2 c7
        refine r_iconst C dX2_isRow_37 ?_
        exact r_zreturn C dX2_isRow_38 h
theorem x2_isRow_ct (l : Launch) (ad : Nat → Nat) (cA : Nat → ClassId) (D : va_G) (p1 : Int) (s : Mem) : MG l yX2_isRow wsX2_isRow x2_isRow_rm ocI [.ref (ad 1), vI p1] (GA ad cA D) s (x2_isRow p1 s) :=
  m_met (own := RX2) (nL := 6) (by decide) rfl rfl (Nat.le_of_ble_eq_true rfl) rfl rfl rfl (fun κ hl C Q Pst hW hQ => x2_isRow_bd C (x2_isRow_mono hW hQ))

def x2_takeRow_be (X19 : Int → Int → Mem → Prop) (Q : Int → Mem → Prop) (p1 : Int) (s : Mem) : Prop :=
  x2_isRow p1 s (fun r2 s1 => InI r2 ∧ (¬ r2 = (0 : Int) → X19 p1 ((s1 1 (0 : Int)) - (1 : Int)) s1) ∧ (r2 = (0 : Int) → ((0 : Int) ≤ (0 : Int) ∧ (0 : Int) ≤ 1) ∧ Q (0 : Int) s1))
def x2_takeRow_b19 (X19 : Int → Int → Mem → Prop) (Q : Int → Mem → Prop) (x2 : Int) (x3 : Int) (s : Mem) : Prop :=
  InI x3 ∧ (x3 < (0 : Int) → ((0 : Int) ≤ (1 : Int) ∧ (1 : Int) ≤ 1) ∧ Q (1 : Int) s) ∧ ((0 : Int) ≤ x3 → (InI x2 ∧ InI (10 : Int) ∧ ¬ (10 : Int) = 0) ∧ ((0 : Int) ≤ x3 ∧ x3 < 6) ∧ ∀ s4 : Mem, s4 = m_upd s 6 x3 (Int.tmod x2 (10 : Int)) → (InI x2 ∧ InI (10 : Int) ∧ ¬ (10 : Int) = 0) ∧ X19 (Int.tdiv x2 (10 : Int)) (x3 + (-1 : Int)) s4)
theorem x2_takeRow_me {X19 Y19 : Int → Int → Mem → Prop} {Q R : Int → Mem → Prop} (hX19 : ∀ x2 x3 s, X19 x2 x3 s → Y19 x2 x3 s) (hQ : ∀ r s, Q r s → R r s) {p1 : Int} {s : Mem} (h : x2_takeRow_be X19 Q p1 s) : x2_takeRow_be Y19 R p1 s :=
  x2_isRow_mono h (fun r2 s1 h => ⟨h.1, fun c => have h := h.2.1 c; hX19 _ _ _ h, fun c => have h := h.2.2 c; ⟨h.1, hQ _ _ h.2⟩⟩)
theorem x2_takeRow_m19 {X19 Y19 : Int → Int → Mem → Prop} {Q R : Int → Mem → Prop} (hX19 : ∀ x2 x3 s, X19 x2 x3 s → Y19 x2 x3 s) (hQ : ∀ r s, Q r s → R r s) {x2 : Int} {x3 : Int} {s : Mem} (h : x2_takeRow_b19 X19 Q x2 x3 s) : x2_takeRow_b19 Y19 R x2 x3 s :=
  ⟨h.1, fun c => have h := h.2.1 c; ⟨h.1, hQ _ _ h.2⟩, fun c => have h := h.2.2 c; ⟨h.1, have h := h.2; ⟨h.1, have h := h.2; fun s4 e_s4 => have h := h s4 e_s4; ⟨h.1, have h := h.2; hX19 _ _ _ h⟩⟩⟩⟩
def x2_takeRow (p1 : Int) (s : Mem) (Q : Int → Mem → Prop) : Prop := ∀ (X19 : Int → Int → Mem → Prop), (∀ x2 x3 s, x2_takeRow_b19 X19 Q x2 x3 s → X19 x2 x3 s) → x2_takeRow_be X19 Q p1 s
def x2_takeRow_L19 (Q : Int → Mem → Prop) (x2 : Int) (x3 : Int) (s : Mem) : Prop := ∀ (X19 : Int → Int → Mem → Prop), (∀ x2 x3 s, x2_takeRow_b19 X19 Q x2 x3 s → X19 x2 x3 s) → X19 x2 x3 s
theorem x2_takeRow_i {Q : Int → Mem → Prop} {p1 : Int} {s : Mem} (h : x2_takeRow_be (x2_takeRow_L19 Q) Q p1 s) : x2_takeRow p1 s Q := fun X19 k19 => x2_takeRow_me (fun _ _ _ h => h X19 k19) (fun _ _ h => h) h
theorem x2_takeRow_s19 {Q : Int → Mem → Prop} {x2 : Int} {x3 : Int} {s : Mem} (h : x2_takeRow_b19 (x2_takeRow_L19 Q) Q x2 x3 s) : x2_takeRow_L19 Q x2 x3 s := fun X19 k19 => k19 _ _ _ (x2_takeRow_m19 (fun _ _ _ h => h X19 k19) (fun _ _ h => h) h)
theorem x2_takeRow_mono {Q R : Int → Mem → Prop} {p1 : Int} {s : Mem} (h : x2_takeRow p1 s Q) (hQ : ∀ r s, Q r s → R r s) : x2_takeRow p1 s R := fun X19 k19 => x2_takeRow_me (fun _ _ _ h => h) hQ (h X19 (fun _ _ _ h => k19 _ _ _ (x2_takeRow_m19 (fun _ _ _ h => h) hQ h)))
def x2_takeRow_rm : Room := { frames := 2, cells := 0, slots := 0, locals := 45 }
theorem w_x2_takeRow_27 : Cond.fieldLink RX2 27 "BoltRing$Joint" "bolts" "I" ∈ wsX2_takeRow := by decide +kernel
theorem w_x2_takeRow_24 : Cond.fieldLink RX2 24 "BoltRing$Joint" "order" "[I" ∈ wsX2_takeRow := by decide +kernel
theorem in_x2_takeRow_X2 : ∀ w ∈ wsX20, w ∈ wsX2_takeRow := by decide +kernel
set_option maxHeartbeats 4000000 in
set_option maxRecDepth 100000 in
theorem x2_takeRow_bd {κ : KT} {ad : Nat → Nat} {cA : Nat → ClassId} {D : va_G} {Q : State → Prop} {p1 : Int} {s : Mem} (C : CX κ (GA ad cA D) RX2 cX2_takeRow 4 wsX2_takeRow x2_takeRow_rm (some .boolean)) (h : x2_takeRow p1 s (RT κ (GA ad cA D) ocI Q)) : WM κ (GA ad cA D) 4 Q s 0 [(0, .ref (ad 1)), (1, vI p1)] [] := by
  obtain ⟨Z19, z19⟩ : ∃ Z : Int → Int → Mem → Prop, ∀ x2 x3 s, Z x2 x3 s ↔ WM κ (GA ad cA D) 4 Q s 19 [(0, .ref (ad 1)), (2, vI x2), (3, vI x3)] [] := ⟨fun x2 x3 s => WM κ (GA ad cA D) 4 Q s 19 [(0, .ref (ad 1)), (2, vI x2), (3, vI x3)] [], fun _ _ _ => Iff.rfl⟩
  refine (fun h => ?_) (h Z19 ?_)
  · refine r_aload_n C 0 dX2_takeRow_0 rfl ?_
    refine r_iload_n C 1 dX2_takeRow_1 rfl ?_
    refine r_callV (As := [vI p1]) (o := 1) (n := 1) C dX2_takeRow_2 (x2_isRow_ct κ.1.2.1 ad cA D p1 s) gX2_takeRow_X2_isRow rfl ⟨rfl, rfl⟩ (by decide +kernel) (by decide) (shA_1) rfl rfl rfl (Nat.le_of_ble_eq_true rfl) (fun _ => rfl) ?_
    refine x2_isRow_mono h (fun r2 s1 h => ?_)
    refine r_if_ne (tgt := 10) C dX2_takeRow_5 (by decide) ⟨h.1, fun c3 => ?_, fun c3 => ?_⟩
    · have h := h.2.1 c3
      refine r_iload_n C 1 dX2_takeRow_10 rfl ?_
      refine r_istore_n (ls' := [(2, vI p1), (0, .ref (ad 1)), (1, vI p1)]) C dX2_takeRow_11 rfl (by decide) rfl ?_
      refine r_aload_n C 1 dX2_takeRow_12 rfl ?_
      refine r_get (j := 0) (jz := 0) (v := vI (s1 1 (0 : Int))) C dX2_takeRow_13 (shA_1) rfl rfl (by decide) in_x2_takeRow_X2 w_x2_takeRow_27 rfl rfl rfl ?_
      refine r_iconst C dX2_takeRow_16 ?_
      refine r_isub C dX2_takeRow_17 ?_
      refine r_istore_n (ls' := [(3, vI ((s1 1 (0 : Int)) - (1 : Int))), (2, vI p1), (0, .ref (ad 1)), (1, vI p1)]) C dX2_takeRow_18 rfl (by decide) rfl ?_
      exact r_perm [2, 1, 0] rfl ((z19 _ _ _).1 h)
    · have h := h.2.2 c3
      refine r_iconst C dX2_takeRow_8 ?_
      exact r_zreturn C dX2_takeRow_9 h
  · intro x2 x3 s h
    refine (z19 _ _ _).2 ?_
    refine r_iload_n C 2 dX2_takeRow_19 rfl ?_
    refine r_if_lt (tgt := 44) C dX2_takeRow_20 (by decide) ⟨h.1, fun c5 => ?_, fun c5 => ?_⟩
    · have h := h.2.1 c5
      refine r_iconst C dX2_takeRow_44 ?_
      exact r_zreturn C dX2_takeRow_45 h
    · have h := h.2.2 c5
      refine r_aload_n C 0 dX2_takeRow_23 rfl ?_
      refine r_get (j := 7) (jz := 7) (v := .ref (ad 6)) C dX2_takeRow_24 (shA_1) rfl rfl (by decide) in_x2_takeRow_X2 w_x2_takeRow_24 rfl rfl rfl ?_
      refine r_iload_n C 2 dX2_takeRow_27 rfl ?_
      refine r_iload_n C 1 dX2_takeRow_28 rfl ?_
      refine r_bipush C dX2_takeRow_29 (by decide) ?_
      refine r_irem C dX2_takeRow_31 ⟨h.1, ?_⟩
      have h := h.2
      refine r_iast (nz := 6) C dX2_takeRow_32 (shA_6) rfl (by decide) ⟨h.1, fun s4 e_s4 => ?_⟩
      have h := h.2 s4 e_s4
      refine r_iload_n C 1 dX2_takeRow_33 rfl ?_
      refine r_bipush C dX2_takeRow_34 (by decide) ?_
      refine r_idiv C dX2_takeRow_36 ⟨h.1, ?_⟩
      have h := h.2
      refine r_istore_n (ls' := [(2, vI (Int.tdiv x2 (10 : Int))), (0, .ref (ad 1)), (3, vI x3)]) C dX2_takeRow_37 rfl (by decide) rfl ?_
      refine r_iinc (j := 2) (ls' := [(3, vI (x3 + (-1 : Int))), (2, vI (Int.tdiv x2 (10 : Int))), (0, .ref (ad 1))]) C dX2_takeRow_38 rfl (by decide) rfl ?_
      refine r_goto (tgt := 19) C dX2_takeRow_41 (by decide) ?_
      exact r_perm [2, 1, 0] rfl ((z19 _ _ _).1 h)
theorem x2_takeRow_ct (l : Launch) (ad : Nat → Nat) (cA : Nat → ClassId) (D : va_G) (p1 : Int) (s : Mem) : MG l yX2_takeRow wsX2_takeRow x2_takeRow_rm ocI [.ref (ad 1), vI p1] (GA ad cA D) s (x2_takeRow p1 s) :=
  m_met (own := RX2) (nL := 4) (by decide) rfl rfl (Nat.le_of_ble_eq_true rfl) rfl rfl rfl (fun κ hl C Q Pst hW hQ => x2_takeRow_bd C (x2_takeRow_mono hW hQ))
