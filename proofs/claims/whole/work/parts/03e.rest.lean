def x4_weigh (p1 : Int) (p2 : Int) (p3 : Int) (s : Mem) (Q : Int → Mem → Prop) : Prop :=
  ((0 : Int) ≤ (0 : Int) ∧ (0 : Int) < 3) ∧ ∀ s1 : Mem, s1 = m_upd s 32 (0 : Int) p1 → ((0 : Int) ≤ (1 : Int) ∧ (1 : Int) < 3) ∧ ∀ s2 : Mem, s2 = m_upd s1 32 (1 : Int) p2 → ((0 : Int) ≤ (2 : Int) ∧ (2 : Int) < 3) ∧ ∀ s3 : Mem, s3 = m_upd s2 32 (2 : Int) p3 → Q (0 : Int) s3
theorem x4_weigh_mono {Q R : Int → Mem → Prop} {p1 : Int} {p2 : Int} {p3 : Int} {s : Mem} (h : x4_weigh p1 p2 p3 s Q) (hQ : ∀ r s, Q r s → R r s) : x4_weigh p1 p2 p3 s R :=
  ⟨h.1, have h := h.2; fun s1 e_s1 => have h := h s1 e_s1; ⟨h.1, have h := h.2; fun s2 e_s2 => have h := h s2 e_s2; ⟨h.1, have h := h.2; fun s3 e_s3 => have h := h s3 e_s3; hQ _ _ h⟩⟩⟩
def x4_weigh_rm : Room := { frames := 0, cells := 0, slots := 0, locals := 0 }
theorem w_x4_weigh_9 : Cond.fieldLink RX4 9 "BoltRing$Misses" "weights" "[I" ∈ wsX4_weigh := by decide +kernel
theorem in_x4_weigh_X4 : ∀ w ∈ wsX40, w ∈ wsX4_weigh := by decide +kernel
set_option maxHeartbeats 4000000 in
set_option maxRecDepth 100000 in
theorem x4_weigh_bd {κ : KT} {ad : Nat → Nat} {cA : Nat → ClassId} {D : va_G} {Q : State → Prop} {p1 : Int} {p2 : Int} {p3 : Int} {s : Mem} (C : CX κ (GA ad cA D) RX4 cX4_weigh 4 wsX4_weigh x4_weigh_rm none) (h : x4_weigh p1 p2 p3 s (RT κ (GA ad cA D) ocV Q)) : WM κ (GA ad cA D) 4 Q s 0 [(0, .ref (ad 31)), (1, vI p1), (2, vI p2), (3, vI p3)] [] := by
  refine r_aload_n C 0 dX4_weigh_0 rfl ?_
  refine r_get (j := 0) (jz := 0) (v := .ref (ad 32)) C dX4_weigh_1 (shA_31) rfl rfl (by decide) in_x4_weigh_X4 w_x4_weigh_9 rfl rfl rfl ?_
  refine r_iconst C dX4_weigh_4 ?_
  refine r_iload_n C 1 dX4_weigh_5 rfl ?_
  refine r_iast (nz := 3) C dX4_weigh_6 (shA_32) rfl (by decide) ⟨h.1, fun s1 e_s1 => ?_⟩
  have h := h.2 s1 e_s1
  refine r_aload_n C 0 dX4_weigh_7 rfl ?_
  refine r_get (j := 0) (jz := 0) (v := .ref (ad 32)) C dX4_weigh_8 (shA_31) rfl rfl (by decide) in_x4_weigh_X4 w_x4_weigh_9 rfl rfl rfl ?_
  refine r_iconst C dX4_weigh_11 ?_
  refine r_iload_n C 2 dX4_weigh_12 rfl ?_
  refine r_iast (nz := 3) C dX4_weigh_13 (shA_32) rfl (by decide) ⟨h.1, fun s2 e_s2 => ?_⟩
  have h := h.2 s2 e_s2
  refine r_aload_n C 0 dX4_weigh_14 rfl ?_
  refine r_get (j := 0) (jz := 0) (v := .ref (ad 32)) C dX4_weigh_15 (shA_31) rfl rfl (by decide) in_x4_weigh_X4 w_x4_weigh_9 rfl rfl rfl ?_
  refine r_iconst C dX4_weigh_18 ?_
  refine r_iload_n C 3 dX4_weigh_19 rfl ?_
  refine r_iast (nz := 3) C dX4_weigh_20 (shA_32) rfl (by decide) ⟨h.1, fun s3 e_s3 => ?_⟩
  have h := h.2 s3 e_s3
  exact r_return C dX4_weigh_21 h
theorem x4_weigh_ct (l : Launch) (ad : Nat → Nat) (cA : Nat → ClassId) (D : va_G) (p1 : Int) (p2 : Int) (p3 : Int) (s : Mem) : MG l yX4_weigh wsX4_weigh x4_weigh_rm ocV [.ref (ad 31), vI p1, vI p2, vI p3] (GA ad cA D) s (x4_weigh p1 p2 p3 s) :=
  m_met (own := RX4) (nL := 4) (by decide) rfl rfl (Nat.le_of_ble_eq_true rfl) rfl rfl rfl (fun κ hl C Q Pst hW hQ => x4_weigh_bd C (x4_weigh_mono hW hQ))

def x4_begin  (s : Mem) (Q : Int → Mem → Prop) : Prop :=
  x4_weigh (1 : Int) (2 : Int) (1 : Int) s (fun _ s1 => Q (0 : Int) s1)
theorem x4_begin_mono {Q R : Int → Mem → Prop}  {s : Mem} (h : x4_begin  s Q) (hQ : ∀ r s, Q r s → R r s) : x4_begin  s R :=
  x4_weigh_mono h (fun _ s1 h => hQ _ _ h)
def x4_begin_rm : Room := { frames := 1, cells := 0, slots := 0, locals := 23 }
set_option maxHeartbeats 4000000 in
set_option maxRecDepth 100000 in
theorem x4_begin_bd {κ : KT} {ad : Nat → Nat} {cA : Nat → ClassId} {D : va_G} {Q : State → Prop}  {s : Mem} (C : CX κ (GA ad cA D) RX4 cX4_begin 1 wsX4_begin x4_begin_rm none) (h : x4_begin  s (RT κ (GA ad cA D) ocV Q)) : WM κ (GA ad cA D) 1 Q s 0 [(0, .ref (ad 31))] [] := by
  refine r_aload_n C 0 dX4_begin_0 rfl ?_
  refine r_iconst C dX4_begin_1 ?_
  refine r_iconst C dX4_begin_2 ?_
  refine r_iconst C dX4_begin_3 ?_
  refine r_callV (As := [vI (1 : Int), vI (2 : Int), vI (1 : Int)]) (o := 31) (n := 3) C dX4_begin_4 (x4_weigh_ct κ.1.2.1 ad cA D (1 : Int) (2 : Int) (1 : Int) s) gX4_begin_X4_weigh rfl ⟨rfl, rfl⟩ (by decide +kernel) (by decide) (shA_31) rfl rfl rfl (Nat.le_of_ble_eq_true rfl) (fun _ => rfl) ?_
  refine x4_weigh_mono h (fun _ s1 h => ?_)
  exact r_return C dX4_begin_7 h
theorem x4_begin_ct (l : Launch) (ad : Nat → Nat) (cA : Nat → ClassId) (D : va_G)  (s : Mem) : MG l yX4_begin wsX4_begin x4_begin_rm ocV [.ref (ad 31)] (GA ad cA D) s (x4_begin  s) :=
  m_met (own := RX4) (nL := 1) (by decide) rfl rfl (Nat.le_of_ble_eq_true rfl) rfl rfl rfl (fun κ hl C Q Pst hW hQ => x4_begin_bd C (x4_begin_mono hW hQ))

def x0_open_be (X2 : Int → Mem → Prop) (Q : Int → Mem → Prop)  (s : Mem) : Prop :=
  X2 (0 : Int) s
def x0_open_b2 (X2 : Int → Mem → Prop) (Q : Int → Mem → Prop) (x1 : Int) (s : Mem) : Prop :=
  (InI x1 ∧ InI (6 : Int)) ∧ ((6 : Int) ≤ x1 → ∀ s1 : Mem, s1 = m_upd s 23 (0 : Int) ((s 23 (0 : Int)) + (1 : Int)) → Q ((s1 23 (0 : Int)) - (1 : Int)) s1) ∧ (x1 < (6 : Int) → ((0 : Int) ≤ (s 23 (0 : Int)) ∧ (s 23 (0 : Int)) < 6) ∧ (shA[(25 + Int.toNat (s 23 (0 : Int)))]? = some (.inr (0, 6))) ∧ ((0 : Int) ≤ x1 ∧ x1 < 6) ∧ ∀ s2 : Mem, s2 = m_upd s (25 + Int.toNat (s 23 (0 : Int))) x1 (0 : Int) → X2 (x1 + (1 : Int)) s2)
theorem x0_open_me {X2 Y2 : Int → Mem → Prop} {Q R : Int → Mem → Prop} (hX2 : ∀ x1 s, X2 x1 s → Y2 x1 s) (hQ : ∀ r s, Q r s → R r s)  {s : Mem} (h : x0_open_be X2 Q  s) : x0_open_be Y2 R  s :=
  hX2 _ _ h
theorem x0_open_m2 {X2 Y2 : Int → Mem → Prop} {Q R : Int → Mem → Prop} (hX2 : ∀ x1 s, X2 x1 s → Y2 x1 s) (hQ : ∀ r s, Q r s → R r s) {x1 : Int} {s : Mem} (h : x0_open_b2 X2 Q x1 s) : x0_open_b2 Y2 R x1 s :=
  ⟨h.1, fun c => have h := h.2.1 c; fun s1 e_s1 => have h := h s1 e_s1; hQ _ _ h, fun c => have h := h.2.2 c; ⟨h.1, have h := h.2; ⟨h.1, have h := h.2; ⟨h.1, have h := h.2; fun s2 e_s2 => have h := h s2 e_s2; hX2 _ _ h⟩⟩⟩⟩
def x0_open  (s : Mem) (Q : Int → Mem → Prop) : Prop := ∀ (X2 : Int → Mem → Prop), (∀ x1 s, x0_open_b2 X2 Q x1 s → X2 x1 s) → x0_open_be X2 Q  s
def x0_open_L2 (Q : Int → Mem → Prop) (x1 : Int) (s : Mem) : Prop := ∀ (X2 : Int → Mem → Prop), (∀ x1 s, x0_open_b2 X2 Q x1 s → X2 x1 s) → X2 x1 s
theorem x0_open_i {Q : Int → Mem → Prop}  {s : Mem} (h : x0_open_be (x0_open_L2 Q) Q  s) : x0_open  s Q := fun X2 k2 => x0_open_me (fun _ _ h => h X2 k2) (fun _ _ h => h) h
theorem x0_open_s2 {Q : Int → Mem → Prop} {x1 : Int} {s : Mem} (h : x0_open_b2 (x0_open_L2 Q) Q x1 s) : x0_open_L2 Q x1 s := fun X2 k2 => k2 _ _ (x0_open_m2 (fun _ _ h => h X2 k2) (fun _ _ h => h) h)
theorem x0_open_mono {Q R : Int → Mem → Prop}  {s : Mem} (h : x0_open  s Q) (hQ : ∀ r s, Q r s → R r s) : x0_open  s R := fun X2 k2 => x0_open_me (fun _ _ h => h) hQ (h X2 (fun _ _ h => k2 _ _ (x0_open_m2 (fun _ _ h => h) hQ h)))
def x0_open_rm : Room := { frames := 0, cells := 0, slots := 0, locals := 0 }
theorem w_x0_open_20 : Cond.fieldLink RX0 20 "BoltRing$Cases" "count" "I" ∈ wsX0_open := by decide +kernel
theorem w_x0_open_13 : Cond.fieldLink RX0 13 "BoltRing$Cases" "loads" "[[I" ∈ wsX0_open := by decide +kernel
theorem in_x0_open_X0 : ∀ w ∈ wsX00, w ∈ wsX0_open := by decide +kernel
set_option maxHeartbeats 4000000 in
set_option maxRecDepth 100000 in
theorem x0_open_bd {κ : KT} {ad : Nat → Nat} {cA : Nat → ClassId} {D : va_G} {Q : State → Prop}  {s : Mem} (C : CX κ (GA ad cA D) RX0 cX0_open 2 wsX0_open x0_open_rm (some .int)) (h : x0_open  s (RT κ (GA ad cA D) ocI Q)) : WM κ (GA ad cA D) 2 Q s 0 [(0, .ref (ad 23))] [] := by
  obtain ⟨Z2, z2⟩ : ∃ Z : Int → Mem → Prop, ∀ x1 s, Z x1 s ↔ WM κ (GA ad cA D) 2 Q s 2 [(0, .ref (ad 23)), (1, vI x1)] [] := ⟨fun x1 s => WM κ (GA ad cA D) 2 Q s 2 [(0, .ref (ad 23)), (1, vI x1)] [], fun _ _ => Iff.rfl⟩
  refine (fun h => ?_) (h Z2 ?_)
  · refine r_iconst C dX0_open_0 ?_
    refine r_istore_n (ls' := [(1, vI (0 : Int)), (0, .ref (ad 23))]) C dX0_open_1 rfl (by decide) rfl ?_
    exact r_perm [1, 0] rfl ((z2 _ _).1 h)
  · intro x1 s h
    refine (z2 _ _).2 ?_
    refine r_iload_n C 1 dX0_open_2 rfl ?_
    refine r_bipush C dX0_open_3 (by decide) ?_
    refine r_icmp_ge (tgt := 26) C dX0_open_5 (by decide) ⟨h.1, fun c3 => ?_, fun c3 => ?_⟩
    · have h := h.2.1 c3
      refine r_aload_n C 0 dX0_open_26 rfl ?_
      refine r_dup C dX0_open_27 rfl ?_
      refine r_get (j := 0) (jz := 0) (v := vI (s 23 (0 : Int))) C dX0_open_28 (shA_23) rfl rfl (by decide) in_x0_open_X0 w_x0_open_20 rfl rfl rfl ?_
      refine r_iconst C dX0_open_31 ?_
      refine r_iadd C dX0_open_32 ?_
      refine r_puti (j := 0) (jz := 0) C dX0_open_33 (shA_23) rfl rfl (by decide) in_x0_open_X0 tyX0 tyX0_ok nmX0 w_x0_open_20 rfl rfl (by decide +kernel) rfl (fun s1 e_s1 => ?_)
      have h := h s1 e_s1
      refine r_aload_n C 0 dX0_open_36 rfl ?_
      refine r_get (j := 0) (jz := 0) (v := vI (s1 23 (0 : Int))) C dX0_open_37 (shA_23) rfl rfl (by decide) in_x0_open_X0 w_x0_open_20 rfl rfl rfl ?_
      refine r_iconst C dX0_open_40 ?_
      refine r_isub C dX0_open_41 ?_
      exact r_ireturn C dX0_open_42 h
    · have h := h.2.2 c3
      refine r_aload_n C 0 dX0_open_8 rfl ?_
      refine r_get (j := 1) (jz := 1) (v := .ref (ad 24)) C dX0_open_9 (shA_23) rfl rfl (by decide) in_x0_open_X0 w_x0_open_13 rfl rfl rfl ?_
      refine r_aload_n C 0 dX0_open_12 rfl ?_
      refine r_get (j := 0) (jz := 0) (v := vI (s 23 (0 : Int))) C dX0_open_13 (shA_23) rfl rfl (by decide) in_x0_open_X0 w_x0_open_20 rfl rfl rfl ?_
      refine r_aaload (b := 25) (nz := 6) C dX0_open_16 (shA_24) rfl (by decide) ⟨h.1, ?_⟩
      have h := h.2
      refine r_iload_n C 1 dX0_open_17 rfl ?_
      refine r_iconst C dX0_open_18 ?_
      have hg := h.1
      have h := h.2
      refine r_iast (nz := 6) C dX0_open_19 (hg) rfl (by decide) ⟨h.1, fun s2 e_s2 => ?_⟩
      have h := h.2 s2 e_s2
      refine r_iinc (j := 1) (ls' := [(1, vI (x1 + (1 : Int))), (0, .ref (ad 23))]) C dX0_open_20 rfl (by decide) rfl ?_
      refine r_goto (tgt := 2) C dX0_open_23 (by decide) ?_
      exact r_perm [1, 0] rfl ((z2 _ _).1 h)
theorem x0_open_ct (l : Launch) (ad : Nat → Nat) (cA : Nat → ClassId) (D : va_G)  (s : Mem) : MG l yX0_open wsX0_open x0_open_rm ocI [.ref (ad 23)] (GA ad cA D) s (x0_open  s) :=
  m_met (own := RX0) (nL := 2) (by decide) rfl rfl (Nat.le_of_ble_eq_true rfl) rfl rfl rfl (fun κ hl C Q Pst hW hQ => x0_open_bd C (x0_open_mono hW hQ))

def x0_has (p1 : Int) (s : Mem) (Q : Int → Mem → Prop) : Prop :=
  InI p1 ∧ (p1 < (0 : Int) → ((0 : Int) ≤ (0 : Int) ∧ (0 : Int) ≤ 1) ∧ Q (0 : Int) s) ∧ ((0 : Int) ≤ p1 → (InI p1 ∧ InI (s 23 (0 : Int))) ∧ ((s 23 (0 : Int)) ≤ p1 → ((0 : Int) ≤ (0 : Int) ∧ (0 : Int) ≤ 1) ∧ Q (0 : Int) s) ∧ (p1 < (s 23 (0 : Int)) → ((0 : Int) ≤ (1 : Int) ∧ (1 : Int) ≤ 1) ∧ Q (1 : Int) s))
theorem x0_has_mono {Q R : Int → Mem → Prop} {p1 : Int} {s : Mem} (h : x0_has p1 s Q) (hQ : ∀ r s, Q r s → R r s) : x0_has p1 s R :=
  ⟨h.1, fun c => have h := h.2.1 c; ⟨h.1, hQ _ _ h.2⟩, fun c => have h := h.2.2 c; ⟨h.1, fun c => have h := h.2.1 c; ⟨h.1, hQ _ _ h.2⟩, fun c => have h := h.2.2 c; ⟨h.1, hQ _ _ h.2⟩⟩⟩
def x0_has_rm : Room := { frames := 0, cells := 0, slots := 0, locals := 0 }
theorem w_x0_has_20 : Cond.fieldLink RX0 20 "BoltRing$Cases" "count" "I" ∈ wsX0_has := by decide +kernel
theorem in_x0_has_X0 : ∀ w ∈ wsX00, w ∈ wsX0_has := by decide +kernel
set_option maxHeartbeats 4000000 in
set_option maxRecDepth 100000 in
theorem x0_has_bd {κ : KT} {ad : Nat → Nat} {cA : Nat → ClassId} {D : va_G} {Q : State → Prop} {p1 : Int} {s : Mem} (C : CX κ (GA ad cA D) RX0 cX0_has 2 wsX0_has x0_has_rm (some .boolean)) (h : x0_has p1 s (RT κ (GA ad cA D) ocI Q)) : WM κ (GA ad cA D) 2 Q s 0 [(0, .ref (ad 23)), (1, vI p1)] [] := by
  refine r_iload_n C 1 dX0_has_0 rfl ?_
  refine r_if_lt (tgt := 16) C dX0_has_1 (by decide) ⟨h.1, fun c2 => ?_, fun c2 => ?_⟩
  · have h := h.2.1 c2
    refine r_iconst C dX0_has_16 ?_
    exact r_zreturn C dX0_has_17 h
  · have h := h.2.2 c2
    refine r_iload_n C 1 dX0_has_4 rfl ?_
    refine r_aload_n C 0 dX0_has_5 rfl ?_
    refine r_get (j := 0) (jz := 0) (v := vI (s 23 (0 : Int))) C dX0_has_6 (shA_23) rfl rfl (by decide) in_x0_has_X0 w_x0_has_20 rfl rfl rfl ?_
    refine r_icmp_ge (tgt := 16) C dX0_has_9 (by decide) ⟨h.1, fun c1 => ?_, fun c1 => ?_⟩
    · have h := h.2.1 c1
      refine r_iconst C dX0_has_16 ?_
      exact r_zreturn C dX0_has_17 h
    · have h := h.2.2 c1
      refine r_iconst C dX0_has_12 ?_
      refine r_goto (tgt := 17) C dX0_has_13 (by decide) ?_
      exact r_zreturn C dX0_has_17 h
theorem x0_has_ct (l : Launch) (ad : Nat → Nat) (cA : Nat → ClassId) (D : va_G) (p1 : Int) (s : Mem) : MG l yX0_has wsX0_has x0_has_rm ocI [.ref (ad 23), vI p1] (GA ad cA D) s (x0_has p1 s) :=
  m_met (own := RX0) (nL := 2) (by decide) rfl rfl (Nat.le_of_ble_eq_true rfl) rfl rfl rfl (fun κ hl C Q Pst hW hQ => x0_has_bd C (x0_has_mono hW hQ))

def x0_loadsOf (p1 : Int) (s : Mem) (Q : Int → Mem → Prop) : Prop :=
  x0_has p1 s (fun r2 s1 => InI r2 ∧ (r2 = (0 : Int) → Q ((5 : Nat) : Int) s1) ∧ (¬ r2 = (0 : Int) → ((0 : Int) ≤ p1 ∧ p1 < 6) ∧ Q (((25 + Int.toNat p1) : Nat) : Int) s1))
theorem x0_loadsOf_mono {Q R : Int → Mem → Prop} {p1 : Int} {s : Mem} (h : x0_loadsOf p1 s Q) (hQ : ∀ r s, Q r s → R r s) : x0_loadsOf p1 s R :=
  x0_has_mono h (fun r2 s1 h => ⟨h.1, fun c => have h := h.2.1 c; hQ _ _ h, fun c => have h := h.2.2 c; ⟨h.1, have h := h.2; hQ _ _ h⟩⟩)
def x0_loadsOf_rm : Room := { frames := 1, cells := 0, slots := 0, locals := 21 }
theorem w_x0_loadsOf_28 : Cond.fieldLink RX0 28 "BoltRing$Joint" "loads" "[I" ∈ wsX0_loadsOf := by decide +kernel
theorem w_x0_loadsOf_13 : Cond.fieldLink RX0 13 "BoltRing$Cases" "loads" "[[I" ∈ wsX0_loadsOf := by decide +kernel
theorem in_x0_loadsOf_X0 : ∀ w ∈ wsX00, w ∈ wsX0_loadsOf := by decide +kernel
theorem in_x0_loadsOf_X2 : ∀ w ∈ wsX20, w ∈ wsX0_loadsOf := by decide +kernel
set_option maxHeartbeats 4000000 in
set_option maxRecDepth 100000 in
theorem x0_loadsOf_bd {κ : KT} {ad : Nat → Nat} {cA : Nat → ClassId} {D : va_G} {Q : State → Prop} {p1 : Int} {s : Mem} (C : CX κ (GA ad cA D) RX0 cX0_loadsOf 3 wsX0_loadsOf x0_loadsOf_rm (some (.array .int))) (h : x0_loadsOf p1 s (RT κ (GA ad cA D) (ocR ad) Q)) : WM κ (GA ad cA D) 3 Q s 0 [(0, .ref (ad 23)), (1, vI p1), (2, .ref (ad 1))] [] := by
  refine r_aload_n C 0 dX0_loadsOf_0 rfl ?_
  refine r_iload_n C 1 dX0_loadsOf_1 rfl ?_
  refine r_callV (As := [vI p1]) (o := 23) (n := 1) C dX0_loadsOf_2 (x0_has_ct κ.1.2.1 ad cA D p1 s) gX0_loadsOf_X0_has rfl ⟨rfl, rfl⟩ (by decide +kernel) (by decide) (shA_23) rfl rfl rfl (Nat.le_of_ble_eq_true rfl) (fun _ => rfl) ?_
  refine x0_has_mono h (fun r2 s1 h => ?_)
  refine r_if_eq (tgt := 17) C dX0_loadsOf_5 (by decide) ⟨h.1, fun c3 => ?_, fun c3 => ?_⟩
  · have h := h.2.1 c3
    refine r_aload_n C 2 dX0_loadsOf_17 rfl ?_
    refine r_get (j := 6) (jz := 6) (v := .ref (ad 5)) C dX0_loadsOf_18 (shA_1) rfl rfl (by decide) in_x0_loadsOf_X2 w_x0_loadsOf_28 rfl rfl rfl ?_
    exact r_areturn C dX0_loadsOf_21 (Or.inr ⟨_, rfl⟩) (Int.toNat_natCast _) h
  · have h := h.2.2 c3
    refine r_aload_n C 0 dX0_loadsOf_8 rfl ?_
    refine r_get (j := 1) (jz := 1) (v := .ref (ad 24)) C dX0_loadsOf_9 (shA_23) rfl rfl (by decide) in_x0_loadsOf_X0 w_x0_loadsOf_13 rfl rfl rfl ?_
    refine r_iload_n C 1 dX0_loadsOf_12 rfl ?_
    refine r_aaload (b := 25) (nz := 6) C dX0_loadsOf_13 (shA_24) rfl (by decide) ⟨h.1, ?_⟩
    have h := h.2
    refine r_goto (tgt := 21) C dX0_loadsOf_14 (by decide) ?_
    exact r_areturn C dX0_loadsOf_21 (Or.inr ⟨_, rfl⟩) (Int.toNat_natCast _) h
theorem x0_loadsOf_ct (l : Launch) (ad : Nat → Nat) (cA : Nat → ClassId) (D : va_G) (p1 : Int) (s : Mem) : MG l yX0_loadsOf wsX0_loadsOf x0_loadsOf_rm (ocR ad) [.ref (ad 23), vI p1, .ref (ad 1)] (GA ad cA D) s (x0_loadsOf p1 s) :=
  m_met (own := RX0) (nL := 3) (by decide) rfl rfl (Nat.le_of_ble_eq_true rfl) rfl rfl rfl (fun κ hl C Q Pst hW hQ => x0_loadsOf_bd C (x0_loadsOf_mono hW hQ))

def x0_leaksMost_be (X38 : Int → Mem → Prop) (Q : Int → Mem → Prop) (p3 : Int) (s : Mem) : Prop :=
  x3_leakPlace 7 s (fun r2 s1 => x3_pressUpper 7 r2 s1 (fun r4 s3 => InI p3 ∧ (¬ p3 = (0 : Int) → X38 r4 s3) ∧ (p3 = (0 : Int) → x7_compareFractions r4 (s3 7 (1 : Int)) (s3 23 (2 : Int)) (s3 23 (3 : Int)) s3 (fun r6 s5 => InI r6 ∧ (r6 < (0 : Int) → X38 r4 s5) ∧ ((0 : Int) ≤ r6 → ((0 : Int) ≤ (0 : Int) ∧ (0 : Int) ≤ 1) ∧ Q (0 : Int) s5)))))
def x0_leaksMost_b38 (X38 : Int → Mem → Prop) (Q : Int → Mem → Prop) (x4 : Int) (s : Mem) : Prop :=
  ∀ s9 : Mem, s9 = m_upd s 23 (2 : Int) x4 → ∀ s10 : Mem, s10 = m_upd s9 23 (3 : Int) (s9 7 (1 : Int)) → ((0 : Int) ≤ (1 : Int) ∧ (1 : Int) ≤ 1) ∧ Q (1 : Int) s10
theorem x0_leaksMost_me {X38 Y38 : Int → Mem → Prop} {Q R : Int → Mem → Prop} (hX38 : ∀ x4 s, X38 x4 s → Y38 x4 s) (hQ : ∀ r s, Q r s → R r s) {p3 : Int} {s : Mem} (h : x0_leaksMost_be X38 Q p3 s) : x0_leaksMost_be Y38 R p3 s :=
  x3_leakPlace_mono h (fun r2 s1 h => x3_pressUpper_mono h (fun r4 s3 h => ⟨h.1, fun c => have h := h.2.1 c; hX38 _ _ h, fun c => have h := h.2.2 c; x7_compareFractions_mono h (fun r6 s5 h => ⟨h.1, fun c => have h := h.2.1 c; hX38 _ _ h, fun c => have h := h.2.2 c; ⟨h.1, hQ _ _ h.2⟩⟩)⟩))
theorem x0_leaksMost_m38 {X38 Y38 : Int → Mem → Prop} {Q R : Int → Mem → Prop} (hX38 : ∀ x4 s, X38 x4 s → Y38 x4 s) (hQ : ∀ r s, Q r s → R r s) {x4 : Int} {s : Mem} (h : x0_leaksMost_b38 X38 Q x4 s) : x0_leaksMost_b38 Y38 R x4 s :=
  fun s9 e_s9 => have h := h s9 e_s9; fun s10 e_s10 => have h := h s10 e_s10; ⟨h.1, hQ _ _ h.2⟩
def x0_leaksMost (p3 : Int) (s : Mem) (Q : Int → Mem → Prop) : Prop := ∀ (X38 : Int → Mem → Prop), (∀ x4 s, x0_leaksMost_b38 X38 Q x4 s → X38 x4 s) → x0_leaksMost_be X38 Q p3 s
def x0_leaksMost_L38 (Q : Int → Mem → Prop) (x4 : Int) (s : Mem) : Prop := ∀ (X38 : Int → Mem → Prop), (∀ x4 s, x0_leaksMost_b38 X38 Q x4 s → X38 x4 s) → X38 x4 s
theorem x0_leaksMost_i {Q : Int → Mem → Prop} {p3 : Int} {s : Mem} (h : x0_leaksMost_be (x0_leaksMost_L38 Q) Q p3 s) : x0_leaksMost p3 s Q := fun X38 k38 => x0_leaksMost_me (fun _ _ h => h X38 k38) (fun _ _ h => h) h
theorem x0_leaksMost_s38 {Q : Int → Mem → Prop} {x4 : Int} {s : Mem} (h : x0_leaksMost_b38 (x0_leaksMost_L38 Q) Q x4 s) : x0_leaksMost_L38 Q x4 s := fun X38 k38 => k38 _ _ (x0_leaksMost_m38 (fun _ _ h => h X38 k38) (fun _ _ h => h) h)
theorem x0_leaksMost_mono {Q R : Int → Mem → Prop} {p3 : Int} {s : Mem} (h : x0_leaksMost p3 s Q) (hQ : ∀ r s, Q r s → R r s) : x0_leaksMost p3 s R := fun X38 k38 => x0_leaksMost_me (fun _ _ h => h) hQ (h X38 (fun _ _ h => k38 _ _ (x0_leaksMost_m38 (fun _ _ h => h) hQ h)))
def x0_leaksMost_rm : Room := { frames := 3, cells := 0, slots := 0, locals := 105 }
theorem w_x0_leaksMost_69 : Cond.fieldLink RX0 69 "BoltRing$Lifts" "lower" "J" ∈ wsX0_leaksMost := by decide +kernel
theorem w_x0_leaksMost_72 : Cond.fieldLink RX0 72 "BoltRing$Cases" "leastUpper" "J" ∈ wsX0_leaksMost := by decide +kernel
theorem w_x0_leaksMost_16 : Cond.fieldLink RX0 16 "BoltRing$Cases" "leastLower" "J" ∈ wsX0_leaksMost := by decide +kernel
theorem w_x0_leaksMost_s75 : Cond.static yX7_compareFractions ∈ wsX0_leaksMost := by decide +kernel
theorem w_x0_leaksMost_iX7 : Cond.initialized RX7 ∈ wsX0_leaksMost := by decide +kernel
theorem in_x0_leaksMost_X0 : ∀ w ∈ wsX00, w ∈ wsX0_leaksMost := by decide +kernel
theorem in_x0_leaksMost_X3 : ∀ w ∈ wsX30, w ∈ wsX0_leaksMost := by decide +kernel
set_option maxHeartbeats 4000000 in
set_option maxRecDepth 100000 in
theorem x0_leaksMost_bd {κ : KT} {ad : Nat → Nat} {cA : Nat → ClassId} {D : va_G} {Q : State → Prop} {p3 : Int} {s : Mem} (C : CX κ (GA ad cA D) RX0 cX0_leaksMost 6 wsX0_leaksMost x0_leaksMost_rm (some .boolean)) (h : x0_leaksMost p3 s (RT κ (GA ad cA D) ocI Q)) : WM κ (GA ad cA D) 6 Q s 0 [(0, .ref (ad 23)), (1, .ref (ad 1)), (2, .ref (ad 7)), (3, vI p3)] [] := by
  obtain ⟨Z38, z38⟩ : ∃ Z : Int → Mem → Prop, ∀ x4 s, Z x4 s ↔ WM κ (GA ad cA D) 6 Q s 38 [(0, .ref (ad 23)), (2, .ref (ad 7)), (4, vL x4)] [] := ⟨fun x4 s => WM κ (GA ad cA D) 6 Q s 38 [(0, .ref (ad 23)), (2, .ref (ad 7)), (4, vL x4)] [], fun _ _ => Iff.rfl⟩
  refine (fun h => ?_) (h Z38 ?_)
  · refine r_aload_n C 2 dX0_leaksMost_0 rfl ?_
    refine r_aload_n C 1 dX0_leaksMost_1 rfl ?_
    refine r_aload_n C 2 dX0_leaksMost_2 rfl ?_
    refine r_aload_n C 1 dX0_leaksMost_3 rfl ?_
    refine r_callV (As := [.ref (ad 1)]) (o := 7) (n := 1) C dX0_leaksMost_4 (x3_leakPlace_ct κ.1.2.1 ad cA D 7 s (Or.inl rfl)) gX0_leaksMost_X3_leakPlace rfl ⟨rfl, rfl⟩ (by decide +kernel) (by decide) (shA_7) rfl rfl rfl (Nat.le_of_ble_eq_true rfl) (fun _ => rfl) ?_
    refine x3_leakPlace_mono h (fun r2 s1 h => ?_)
    refine r_callV (As := [.ref (ad 1), vI r2]) (o := 7) (n := 2) C dX0_leaksMost_7 (x3_pressUpper_ct κ.1.2.1 ad cA D 7 r2 s1 (Or.inl rfl)) gX0_leaksMost_X3_pressUpper rfl ⟨rfl, rfl⟩ (by decide +kernel) (by decide) (shA_7) rfl rfl rfl (Nat.le_of_ble_eq_true rfl) (fun _ => rfl) ?_
    refine x3_pressUpper_mono h (fun r4 s3 h => ?_)
    refine r_lstore (ls' := [(4, vL r4), (0, .ref (ad 23)), (1, .ref (ad 1)), (2, .ref (ad 7)), (3, vI p3)]) C dX0_leaksMost_10 (by decide) rfl ?_
    refine r_iload_n C 4 dX0_leaksMost_12 rfl ?_
    refine r_if_ne (tgt := 38) C dX0_leaksMost_13 (by decide) ⟨h.1, fun c8 => ?_, fun c8 => ?_⟩
    · have h := h.2.1 c8
      exact r_perm [1, 3, 0] rfl ((z38 _ _).1 h)
    · have h := h.2.2 c8
      refine r_lload C 0 dX0_leaksMost_16 rfl ?_
      refine r_aload_n C 3 dX0_leaksMost_18 rfl ?_
      refine r_get (j := 1) (jz := 1) (v := vL (s3 7 (1 : Int))) C dX0_leaksMost_19 (shA_7) rfl rfl (by decide) in_x0_leaksMost_X3 w_x0_leaksMost_69 rfl rfl rfl ?_
      refine r_aload_n C 1 dX0_leaksMost_22 rfl ?_
      refine r_get (j := 2) (jz := 2) (v := vL (s3 23 (2 : Int))) C dX0_leaksMost_23 (shA_23) rfl rfl (by decide) in_x0_leaksMost_X0 w_x0_leaksMost_72 rfl rfl rfl ?_
      refine r_aload_n C 1 dX0_leaksMost_26 rfl ?_
      refine r_get (j := 3) (jz := 3) (v := vL (s3 23 (3 : Int))) C dX0_leaksMost_27 (shA_23) rfl rfl (by decide) in_x0_leaksMost_X0 w_x0_leaksMost_16 rfl rfl rfl ?_
      refine r_callSN (As := [vL r4, vL (s3 7 (1 : Int)), vL (s3 23 (2 : Int)), vL (s3 23 (3 : Int))]) (n := 4) C dX0_leaksMost_30 (x7_compareFractions_ct κ.1.2.1 ad cA D r4 (s3 7 (1 : Int)) (s3 23 (2 : Int)) (s3 23 (3 : Int)) s3) C.e.1.1 w_x0_leaksMost_s75 w_x0_leaksMost_iX7 gX0_leaksMost_X7_compareFractions_n75 rfl ⟨rfl, rfl⟩ (by decide +kernel) (by decide) rfl rfl (Nat.le_of_ble_eq_true rfl) (fun _ => rfl) ?_
      refine x7_compareFractions_mono h (fun r6 s5 h => ?_)
      refine r_if_lt (tgt := 38) C dX0_leaksMost_33 (by decide) ⟨h.1, fun c7 => ?_, fun c7 => ?_⟩
      · have h := h.2.1 c7
        exact r_perm [1, 3, 0] rfl ((z38 _ _).1 h)
      · have h := h.2.2 c7
        refine r_iconst C dX0_leaksMost_36 ?_
        exact r_zreturn C dX0_leaksMost_37 h
  · intro x4 s h
    refine (z38 _ _).2 ?_
    refine r_aload_n C 0 dX0_leaksMost_38 rfl ?_
    refine r_lload C 2 dX0_leaksMost_39 rfl ?_
    refine r_putl (j := 2) (jz := 2) C dX0_leaksMost_41 (shA_23) rfl rfl (by decide) in_x0_leaksMost_X0 tyX0 tyX0_ok nmX0 w_x0_leaksMost_72 rfl rfl (by decide +kernel) rfl (fun s9 e_s9 => ?_)
    have h := h s9 e_s9
    refine r_aload_n C 0 dX0_leaksMost_44 rfl ?_
    refine r_aload_n C 1 dX0_leaksMost_45 rfl ?_
    refine r_get (j := 1) (jz := 1) (v := vL (s9 7 (1 : Int))) C dX0_leaksMost_46 (shA_7) rfl rfl (by decide) in_x0_leaksMost_X3 w_x0_leaksMost_69 rfl rfl rfl ?_
    refine r_putl (j := 3) (jz := 3) C dX0_leaksMost_49 (shA_23) rfl rfl (by decide) in_x0_leaksMost_X0 tyX0 tyX0_ok nmX0 w_x0_leaksMost_16 rfl rfl (by decide +kernel) rfl (fun s10 e_s10 => ?_)
    have h := h s10 e_s10
    refine r_iconst C dX0_leaksMost_52 ?_
    exact r_zreturn C dX0_leaksMost_53 h
theorem x0_leaksMost_ct (l : Launch) (ad : Nat → Nat) (cA : Nat → ClassId) (D : va_G) (p3 : Int) (s : Mem) : MG l yX0_leaksMost wsX0_leaksMost x0_leaksMost_rm ocI [.ref (ad 23), .ref (ad 1), .ref (ad 7), vI p3] (GA ad cA D) s (x0_leaksMost p3 s) :=
  m_met (own := RX0) (nL := 6) (by decide) rfl rfl (Nat.le_of_ble_eq_true rfl) rfl rfl rfl (fun κ hl C Q Pst hW hQ => x0_leaksMost_bd C (x0_leaksMost_mono hW hQ))

def x0_findWorst_be (X5 : Int → Int → Mem → Prop) (X40 : Int → Int → Int → Mem → Prop) (Q : Int → Mem → Prop)  (s : Mem) : Prop :=
  X5 (-1 : Int) (-1 : Int) s
def x0_findWorst_b5 (X5 : Int → Int → Mem → Prop) (X40 : Int → Int → Int → Mem → Prop) (Q : Int → Mem → Prop) (x3 : Int) (x4 : Int) (s : Mem) : Prop :=
  (InI x4 ∧ InI (s 23 (0 : Int))) ∧ ((s 23 (0 : Int)) ≤ x4 → Q x3 s) ∧ (x4 < (s 23 (0 : Int)) → x0_loadsOf x4 s (fun r2 s1 => x3_settle 7 (Int.toNat r2) s1 (fun _ s3 => (InI x4 ∧ InI (-1 : Int)) ∧ (¬ x4 = (-1 : Int) → X40 x3 x4 (0 : Int) s3) ∧ (x4 = (-1 : Int) → X40 x3 x4 (1 : Int) s3))))
def x0_findWorst_b40 (X5 : Int → Int → Mem → Prop) (X40 : Int → Int → Int → Mem → Prop) (Q : Int → Mem → Prop) (x3 : Int) (x4 : Int) (t0 : Int) (s : Mem) : Prop :=
  x0_leaksMost t0 s (fun r7 s6 => InI r7 ∧ (r7 = (0 : Int) → X5 x3 (x4 + (1 : Int)) s6) ∧ (¬ r7 = (0 : Int) → X5 x4 (x4 + (1 : Int)) s6))
theorem x0_findWorst_me {X5 Y5 : Int → Int → Mem → Prop} {X40 Y40 : Int → Int → Int → Mem → Prop} {Q R : Int → Mem → Prop} (hX5 : ∀ x3 x4 s, X5 x3 x4 s → Y5 x3 x4 s) (hX40 : ∀ x3 x4 t0 s, X40 x3 x4 t0 s → Y40 x3 x4 t0 s) (hQ : ∀ r s, Q r s → R r s)  {s : Mem} (h : x0_findWorst_be X5 X40 Q  s) : x0_findWorst_be Y5 Y40 R  s :=
  hX5 _ _ _ h
theorem x0_findWorst_m5 {X5 Y5 : Int → Int → Mem → Prop} {X40 Y40 : Int → Int → Int → Mem → Prop} {Q R : Int → Mem → Prop} (hX5 : ∀ x3 x4 s, X5 x3 x4 s → Y5 x3 x4 s) (hX40 : ∀ x3 x4 t0 s, X40 x3 x4 t0 s → Y40 x3 x4 t0 s) (hQ : ∀ r s, Q r s → R r s) {x3 : Int} {x4 : Int} {s : Mem} (h : x0_findWorst_b5 X5 X40 Q x3 x4 s) : x0_findWorst_b5 Y5 Y40 R x3 x4 s :=
  ⟨h.1, fun c => have h := h.2.1 c; hQ _ _ h, fun c => have h := h.2.2 c; x0_loadsOf_mono h (fun r2 s1 h => x3_settle_mono h (fun _ s3 h => ⟨h.1, fun c => have h := h.2.1 c; hX40 _ _ _ _ h, fun c => have h := h.2.2 c; hX40 _ _ _ _ h⟩))⟩
theorem x0_findWorst_m40 {X5 Y5 : Int → Int → Mem → Prop} {X40 Y40 : Int → Int → Int → Mem → Prop} {Q R : Int → Mem → Prop} (hX5 : ∀ x3 x4 s, X5 x3 x4 s → Y5 x3 x4 s) (hX40 : ∀ x3 x4 t0 s, X40 x3 x4 t0 s → Y40 x3 x4 t0 s) (hQ : ∀ r s, Q r s → R r s) {x3 : Int} {x4 : Int} {t0 : Int} {s : Mem} (h : x0_findWorst_b40 X5 X40 Q x3 x4 t0 s) : x0_findWorst_b40 Y5 Y40 R x3 x4 t0 s :=
  x0_leaksMost_mono h (fun r7 s6 h => ⟨h.1, fun c => have h := h.2.1 c; hX5 _ _ _ h, fun c => have h := h.2.2 c; hX5 _ _ _ h⟩)
def x0_findWorst  (s : Mem) (Q : Int → Mem → Prop) : Prop := ∀ (X5 : Int → Int → Mem → Prop) (X40 : Int → Int → Int → Mem → Prop), (∀ x3 x4 s, x0_findWorst_b5 X5 X40 Q x3 x4 s → X5 x3 x4 s) → (∀ x3 x4 t0 s, x0_findWorst_b40 X5 X40 Q x3 x4 t0 s → X40 x3 x4 t0 s) → x0_findWorst_be X5 X40 Q  s
def x0_findWorst_L5 (Q : Int → Mem → Prop) (x3 : Int) (x4 : Int) (s : Mem) : Prop := ∀ (X5 : Int → Int → Mem → Prop) (X40 : Int → Int → Int → Mem → Prop), (∀ x3 x4 s, x0_findWorst_b5 X5 X40 Q x3 x4 s → X5 x3 x4 s) → (∀ x3 x4 t0 s, x0_findWorst_b40 X5 X40 Q x3 x4 t0 s → X40 x3 x4 t0 s) → X5 x3 x4 s
def x0_findWorst_L40 (Q : Int → Mem → Prop) (x3 : Int) (x4 : Int) (t0 : Int) (s : Mem) : Prop := ∀ (X5 : Int → Int → Mem → Prop) (X40 : Int → Int → Int → Mem → Prop), (∀ x3 x4 s, x0_findWorst_b5 X5 X40 Q x3 x4 s → X5 x3 x4 s) → (∀ x3 x4 t0 s, x0_findWorst_b40 X5 X40 Q x3 x4 t0 s → X40 x3 x4 t0 s) → X40 x3 x4 t0 s
theorem x0_findWorst_i {Q : Int → Mem → Prop}  {s : Mem} (h : x0_findWorst_be (x0_findWorst_L5 Q) (x0_findWorst_L40 Q) Q  s) : x0_findWorst  s Q := fun X5 X40 k5 k40 => x0_findWorst_me (fun _ _ _ h => h X5 X40 k5 k40) (fun _ _ _ _ h => h X5 X40 k5 k40) (fun _ _ h => h) h
theorem x0_findWorst_s5 {Q : Int → Mem → Prop} {x3 : Int} {x4 : Int} {s : Mem} (h : x0_findWorst_b5 (x0_findWorst_L5 Q) (x0_findWorst_L40 Q) Q x3 x4 s) : x0_findWorst_L5 Q x3 x4 s := fun X5 X40 k5 k40 => k5 _ _ _ (x0_findWorst_m5 (fun _ _ _ h => h X5 X40 k5 k40) (fun _ _ _ _ h => h X5 X40 k5 k40) (fun _ _ h => h) h)
theorem x0_findWorst_s40 {Q : Int → Mem → Prop} {x3 : Int} {x4 : Int} {t0 : Int} {s : Mem} (h : x0_findWorst_b40 (x0_findWorst_L5 Q) (x0_findWorst_L40 Q) Q x3 x4 t0 s) : x0_findWorst_L40 Q x3 x4 t0 s := fun X5 X40 k5 k40 => k40 _ _ _ _ (x0_findWorst_m40 (fun _ _ _ h => h X5 X40 k5 k40) (fun _ _ _ _ h => h X5 X40 k5 k40) (fun _ _ h => h) h)
theorem x0_findWorst_mono {Q R : Int → Mem → Prop}  {s : Mem} (h : x0_findWorst  s Q) (hQ : ∀ r s, Q r s → R r s) : x0_findWorst  s R := fun X5 X40 k5 k40 => x0_findWorst_me (fun _ _ _ h => h) (fun _ _ _ _ h => h) hQ (h X5 X40 (fun _ _ _ h => k5 _ _ _ (x0_findWorst_m5 (fun _ _ _ h => h) (fun _ _ _ _ h => h) hQ h)) (fun _ _ _ _ h => k40 _ _ _ _ (x0_findWorst_m40 (fun _ _ _ h => h) (fun _ _ _ _ h => h) hQ h)))
def x0_findWorst_rm : Room := { frames := 4, cells := 0, slots := 0, locals := 130 }
theorem w_x0_findWorst_20 : Cond.fieldLink RX0 20 "BoltRing$Cases" "count" "I" ∈ wsX0_findWorst := by decide +kernel
theorem in_x0_findWorst_X0 : ∀ w ∈ wsX00, w ∈ wsX0_findWorst := by decide +kernel
set_option maxHeartbeats 4000000 in
set_option maxRecDepth 100000 in
theorem x0_findWorst_bd {κ : KT} {ad : Nat → Nat} {cA : Nat → ClassId} {D : va_G} {Q : State → Prop}  {s : Mem} (C : CX κ (GA ad cA D) RX0 cX0_findWorst 5 wsX0_findWorst x0_findWorst_rm (some .int)) (h : x0_findWorst  s (RT κ (GA ad cA D) ocI Q)) : WM κ (GA ad cA D) 5 Q s 0 [(0, .ref (ad 23)), (1, .ref (ad 1)), (2, .ref (ad 7))] [] := by
  obtain ⟨Z5, z5⟩ : ∃ Z : Int → Int → Mem → Prop, ∀ x3 x4 s, Z x3 x4 s ↔ WM κ (GA ad cA D) 5 Q s 5 [(0, .ref (ad 23)), (1, .ref (ad 1)), (2, .ref (ad 7)), (3, vI x3), (4, vI x4)] [] := ⟨fun x3 x4 s => WM κ (GA ad cA D) 5 Q s 5 [(0, .ref (ad 23)), (1, .ref (ad 1)), (2, .ref (ad 7)), (3, vI x3), (4, vI x4)] [], fun _ _ _ => Iff.rfl⟩
  obtain ⟨Z40, z40⟩ : ∃ Z : Int → Int → Int → Mem → Prop, ∀ x3 x4 t0 s, Z x3 x4 t0 s ↔ WM κ (GA ad cA D) 5 Q s 40 [(0, .ref (ad 23)), (1, .ref (ad 1)), (2, .ref (ad 7)), (3, vI x3), (4, vI x4)] [vI t0, .ref (ad 7), .ref (ad 1), .ref (ad 23)] := ⟨fun x3 x4 t0 s => WM κ (GA ad cA D) 5 Q s 40 [(0, .ref (ad 23)), (1, .ref (ad 1)), (2, .ref (ad 7)), (3, vI x3), (4, vI x4)] [vI t0, .ref (ad 7), .ref (ad 1), .ref (ad 23)], fun _ _ _ _ => Iff.rfl⟩
  refine (fun h => ?_) (h Z5 Z40 ?_ ?_)
  · refine r_iconst C dX0_findWorst_0 ?_
    refine r_istore_n (ls' := [(3, vI (-1 : Int)), (0, .ref (ad 23)), (1, .ref (ad 1)), (2, .ref (ad 7))]) C dX0_findWorst_1 rfl (by decide) rfl ?_
    refine r_iconst C dX0_findWorst_2 ?_
    refine r_istore (ls' := [(4, vI (-1 : Int)), (3, vI (-1 : Int)), (0, .ref (ad 23)), (1, .ref (ad 1)), (2, .ref (ad 7))]) C dX0_findWorst_3 (by decide) rfl ?_
    exact r_perm [2, 3, 4, 1, 0] rfl ((z5 _ _ _).1 h)
  · intro x3 x4 s h
    refine (z5 _ _ _).2 ?_
    refine r_iload C 4 dX0_findWorst_5 rfl ?_
    refine r_aload_n C 0 dX0_findWorst_7 rfl ?_
    refine r_get (j := 0) (jz := 0) (v := vI (s 23 (0 : Int))) C dX0_findWorst_8 (shA_23) rfl rfl (by decide) in_x0_findWorst_X0 w_x0_findWorst_20 rfl rfl rfl ?_
    refine r_icmp_ge (tgt := 55) C dX0_findWorst_11 (by decide) ⟨h.1, fun c5 => ?_, fun c5 => ?_⟩
    · have h := h.2.1 c5
      refine r_iload_n C 3 dX0_findWorst_55 rfl ?_
      exact r_ireturn C dX0_findWorst_56 h
    · have h := h.2.2 c5
      refine r_aload_n C 2 dX0_findWorst_14 rfl ?_
      refine r_aload_n C 1 dX0_findWorst_15 rfl ?_
      refine r_aload_n C 0 dX0_findWorst_16 rfl ?_
      refine r_iload C 4 dX0_findWorst_17 rfl ?_
      refine r_aload_n C 1 dX0_findWorst_19 rfl ?_
      refine r_callV (As := [vI x4, .ref (ad 1)]) (o := 23) (n := 2) C dX0_findWorst_20 (x0_loadsOf_ct κ.1.2.1 ad cA D x4 s) gX0_findWorst_X0_loadsOf rfl ⟨rfl, rfl⟩ (by decide +kernel) (by decide) (shA_23) rfl rfl rfl (Nat.le_of_ble_eq_true rfl) (fun _ => rfl) ?_
      refine x0_loadsOf_mono h (fun r2 s1 h => ?_)
      refine r_callV (As := [.ref (ad 1), .ref (ad (Int.toNat r2))]) (o := 7) (n := 2) C dX0_findWorst_23 (x3_settle_ct κ.1.2.1 ad cA D 7 (Int.toNat r2) s1 (Or.inl rfl)) gX0_findWorst_X3_settle rfl ⟨rfl, rfl⟩ (by decide +kernel) (by decide) (shA_7) rfl rfl rfl (Nat.le_of_ble_eq_true rfl) (fun _ => rfl) ?_
      refine x3_settle_mono h (fun _ s3 h => ?_)
      refine r_aload_n C 0 dX0_findWorst_26 rfl ?_
      refine r_aload_n C 1 dX0_findWorst_27 rfl ?_
      refine r_aload_n C 2 dX0_findWorst_28 rfl ?_
      refine r_iload C 4 dX0_findWorst_29 rfl ?_
      refine r_iconst C dX0_findWorst_31 ?_
      refine r_icmp_ne (tgt := 39) C dX0_findWorst_32 (by decide) ⟨h.1, fun c4 => ?_, fun c4 => ?_⟩
      · have h := h.2.1 c4
        refine r_iconst C dX0_findWorst_39 ?_
        exact r_perm [0, 1, 2, 3, 4] rfl ((z40 _ _ _ _).1 h)
      · have h := h.2.2 c4
        refine r_iconst C dX0_findWorst_35 ?_
        refine r_goto (tgt := 40) C dX0_findWorst_36 (by decide) ?_
        exact r_perm [0, 1, 2, 3, 4] rfl ((z40 _ _ _ _).1 h)
  · intro x3 x4 t0 s h
    refine (z40 _ _ _ _).2 ?_
    refine r_callV (As := [.ref (ad 1), .ref (ad 7), vI t0]) (o := 23) (n := 3) C dX0_findWorst_40 (x0_leaksMost_ct κ.1.2.1 ad cA D t0 s) gX0_findWorst_X0_leaksMost rfl ⟨rfl, rfl⟩ (by decide +kernel) (by decide) (shA_23) rfl rfl rfl (Nat.le_of_ble_eq_true rfl) (fun _ => rfl) ?_
    refine x0_leaksMost_mono h (fun r7 s6 h => ?_)
    refine r_if_eq (tgt := 49) C dX0_findWorst_43 (by decide) ⟨h.1, fun c8 => ?_, fun c8 => ?_⟩
    · have h := h.2.1 c8
      refine r_iinc (j := 4) (ls' := [(4, vI (x4 + (1 : Int))), (0, .ref (ad 23)), (1, .ref (ad 1)), (2, .ref (ad 7)), (3, vI x3)]) C dX0_findWorst_49 rfl (by decide) rfl ?_
      refine r_goto (tgt := 5) C dX0_findWorst_52 (by decide) ?_
      exact r_perm [1, 2, 3, 4, 0] rfl ((z5 _ _ _).1 h)
    · have h := h.2.2 c8
      refine r_iload C 4 dX0_findWorst_46 rfl ?_
      refine r_istore_n (ls' := [(3, vI x4), (0, .ref (ad 23)), (1, .ref (ad 1)), (2, .ref (ad 7)), (4, vI x4)]) C dX0_findWorst_48 rfl (by decide) rfl ?_
      refine r_iinc (j := 4) (ls' := [(4, vI (x4 + (1 : Int))), (3, vI x4), (0, .ref (ad 23)), (1, .ref (ad 1)), (2, .ref (ad 7))]) C dX0_findWorst_49 rfl (by decide) rfl ?_
      refine r_goto (tgt := 5) C dX0_findWorst_52 (by decide) ?_
      exact r_perm [2, 3, 4, 1, 0] rfl ((z5 _ _ _).1 h)
theorem x0_findWorst_ct (l : Launch) (ad : Nat → Nat) (cA : Nat → ClassId) (D : va_G)  (s : Mem) : MG l yX0_findWorst wsX0_findWorst x0_findWorst_rm ocI [.ref (ad 23), .ref (ad 1), .ref (ad 7)] (GA ad cA D) s (x0_findWorst  s) :=
  m_met (own := RX0) (nL := 5) (by decide) rfl rfl (Nat.le_of_ble_eq_true rfl) rfl rfl rfl (fun κ hl C Q Pst hW hQ => x0_findWorst_bd C (x0_findWorst_mono hW hQ))

def x0_findWeakest_be (X5 : Int → Int → Mem → Prop) (X70 : Int → Int → Int → Mem → Prop) (Q : Int → Mem → Prop)  (s : Mem) : Prop :=
  X5 (-1 : Int) (0 : Int) s
def x0_findWeakest_b5 (X5 : Int → Int → Mem → Prop) (X70 : Int → Int → Int → Mem → Prop) (Q : Int → Mem → Prop) (x3 : Int) (x4 : Int) (s : Mem) : Prop :=
  (InI x4 ∧ InI (s 1 (0 : Int))) ∧ ((s 1 (0 : Int)) ≤ x4 → Q x3 s) ∧ (x4 < (s 1 (0 : Int)) → x2_wholeCount s (fun r2 s1 => (InI r2 ∧ InI (1 : Int)) ∧ (r2 ≤ (1 : Int) → Q x3 s1) ∧ ((1 : Int) < r2 → x2_isBroken x4 s1 (fun r4 s3 => InI r4 ∧ (r4 = (0 : Int) → x2_markBroken x4 (1 : Int) s3 (fun _ s5 => x3_settle 7 5 s5 (fun _ s6 => x2_markBroken x4 (0 : Int) s6 (fun _ s7 => (InI x3 ∧ InI (-1 : Int)) ∧ (¬ x3 = (-1 : Int) → X70 x3 x4 (0 : Int) s7) ∧ (x3 = (-1 : Int) → X70 x3 x4 (1 : Int) s7))))) ∧ (¬ r4 = (0 : Int) → X5 x3 (x4 + (1 : Int)) s3)))))
def x0_findWeakest_b70 (X5 : Int → Int → Mem → Prop) (X70 : Int → Int → Int → Mem → Prop) (Q : Int → Mem → Prop) (x3 : Int) (x4 : Int) (t0 : Int) (s : Mem) : Prop :=
  x0_leaksMost t0 s (fun r13 s12 => InI r13 ∧ (r13 = (0 : Int) → X5 x3 (x4 + (1 : Int)) s12) ∧ (¬ r13 = (0 : Int) → X5 x4 (x4 + (1 : Int)) s12))
theorem x0_findWeakest_me {X5 Y5 : Int → Int → Mem → Prop} {X70 Y70 : Int → Int → Int → Mem → Prop} {Q R : Int → Mem → Prop} (hX5 : ∀ x3 x4 s, X5 x3 x4 s → Y5 x3 x4 s) (hX70 : ∀ x3 x4 t0 s, X70 x3 x4 t0 s → Y70 x3 x4 t0 s) (hQ : ∀ r s, Q r s → R r s)  {s : Mem} (h : x0_findWeakest_be X5 X70 Q  s) : x0_findWeakest_be Y5 Y70 R  s :=
  hX5 _ _ _ h
theorem x0_findWeakest_m5 {X5 Y5 : Int → Int → Mem → Prop} {X70 Y70 : Int → Int → Int → Mem → Prop} {Q R : Int → Mem → Prop} (hX5 : ∀ x3 x4 s, X5 x3 x4 s → Y5 x3 x4 s) (hX70 : ∀ x3 x4 t0 s, X70 x3 x4 t0 s → Y70 x3 x4 t0 s) (hQ : ∀ r s, Q r s → R r s) {x3 : Int} {x4 : Int} {s : Mem} (h : x0_findWeakest_b5 X5 X70 Q x3 x4 s) : x0_findWeakest_b5 Y5 Y70 R x3 x4 s :=
  ⟨h.1, fun c => have h := h.2.1 c; hQ _ _ h, fun c => have h := h.2.2 c; x2_wholeCount_mono h (fun r2 s1 h => ⟨h.1, fun c => have h := h.2.1 c; hQ _ _ h, fun c => have h := h.2.2 c; x2_isBroken_mono h (fun r4 s3 h => ⟨h.1, fun c => have h := h.2.1 c; x2_markBroken_mono h (fun _ s5 h => x3_settle_mono h (fun _ s6 h => x2_markBroken_mono h (fun _ s7 h => ⟨h.1, fun c => have h := h.2.1 c; hX70 _ _ _ _ h, fun c => have h := h.2.2 c; hX70 _ _ _ _ h⟩))), fun c => have h := h.2.2 c; hX5 _ _ _ h⟩)⟩)⟩
theorem x0_findWeakest_m70 {X5 Y5 : Int → Int → Mem → Prop} {X70 Y70 : Int → Int → Int → Mem → Prop} {Q R : Int → Mem → Prop} (hX5 : ∀ x3 x4 s, X5 x3 x4 s → Y5 x3 x4 s) (hX70 : ∀ x3 x4 t0 s, X70 x3 x4 t0 s → Y70 x3 x4 t0 s) (hQ : ∀ r s, Q r s → R r s) {x3 : Int} {x4 : Int} {t0 : Int} {s : Mem} (h : x0_findWeakest_b70 X5 X70 Q x3 x4 t0 s) : x0_findWeakest_b70 Y5 Y70 R x3 x4 t0 s :=
  x0_leaksMost_mono h (fun r13 s12 h => ⟨h.1, fun c => have h := h.2.1 c; hX5 _ _ _ h, fun c => have h := h.2.2 c; hX5 _ _ _ h⟩)
def x0_findWeakest  (s : Mem) (Q : Int → Mem → Prop) : Prop := ∀ (X5 : Int → Int → Mem → Prop) (X70 : Int → Int → Int → Mem → Prop), (∀ x3 x4 s, x0_findWeakest_b5 X5 X70 Q x3 x4 s → X5 x3 x4 s) → (∀ x3 x4 t0 s, x0_findWeakest_b70 X5 X70 Q x3 x4 t0 s → X70 x3 x4 t0 s) → x0_findWeakest_be X5 X70 Q  s
def x0_findWeakest_L5 (Q : Int → Mem → Prop) (x3 : Int) (x4 : Int) (s : Mem) : Prop := ∀ (X5 : Int → Int → Mem → Prop) (X70 : Int → Int → Int → Mem → Prop), (∀ x3 x4 s, x0_findWeakest_b5 X5 X70 Q x3 x4 s → X5 x3 x4 s) → (∀ x3 x4 t0 s, x0_findWeakest_b70 X5 X70 Q x3 x4 t0 s → X70 x3 x4 t0 s) → X5 x3 x4 s
def x0_findWeakest_L70 (Q : Int → Mem → Prop) (x3 : Int) (x4 : Int) (t0 : Int) (s : Mem) : Prop := ∀ (X5 : Int → Int → Mem → Prop) (X70 : Int → Int → Int → Mem → Prop), (∀ x3 x4 s, x0_findWeakest_b5 X5 X70 Q x3 x4 s → X5 x3 x4 s) → (∀ x3 x4 t0 s, x0_findWeakest_b70 X5 X70 Q x3 x4 t0 s → X70 x3 x4 t0 s) → X70 x3 x4 t0 s
theorem x0_findWeakest_i {Q : Int → Mem → Prop}  {s : Mem} (h : x0_findWeakest_be (x0_findWeakest_L5 Q) (x0_findWeakest_L70 Q) Q  s) : x0_findWeakest  s Q := fun X5 X70 k5 k70 => x0_findWeakest_me (fun _ _ _ h => h X5 X70 k5 k70) (fun _ _ _ _ h => h X5 X70 k5 k70) (fun _ _ h => h) h
theorem x0_findWeakest_s5 {Q : Int → Mem → Prop} {x3 : Int} {x4 : Int} {s : Mem} (h : x0_findWeakest_b5 (x0_findWeakest_L5 Q) (x0_findWeakest_L70 Q) Q x3 x4 s) : x0_findWeakest_L5 Q x3 x4 s := fun X5 X70 k5 k70 => k5 _ _ _ (x0_findWeakest_m5 (fun _ _ _ h => h X5 X70 k5 k70) (fun _ _ _ _ h => h X5 X70 k5 k70) (fun _ _ h => h) h)
theorem x0_findWeakest_s70 {Q : Int → Mem → Prop} {x3 : Int} {x4 : Int} {t0 : Int} {s : Mem} (h : x0_findWeakest_b70 (x0_findWeakest_L5 Q) (x0_findWeakest_L70 Q) Q x3 x4 t0 s) : x0_findWeakest_L70 Q x3 x4 t0 s := fun X5 X70 k5 k70 => k70 _ _ _ _ (x0_findWeakest_m70 (fun _ _ _ h => h X5 X70 k5 k70) (fun _ _ _ _ h => h X5 X70 k5 k70) (fun _ _ h => h) h)
theorem x0_findWeakest_mono {Q R : Int → Mem → Prop}  {s : Mem} (h : x0_findWeakest  s Q) (hQ : ∀ r s, Q r s → R r s) : x0_findWeakest  s R := fun X5 X70 k5 k70 => x0_findWeakest_me (fun _ _ _ h => h) (fun _ _ _ _ h => h) hQ (h X5 X70 (fun _ _ _ h => k5 _ _ _ (x0_findWeakest_m5 (fun _ _ _ h => h) (fun _ _ _ _ h => h) hQ h)) (fun _ _ _ _ h => k70 _ _ _ _ (x0_findWeakest_m70 (fun _ _ _ h => h) (fun _ _ _ _ h => h) hQ h)))
def x0_findWeakest_rm : Room := { frames := 4, cells := 0, slots := 0, locals := 130 }
theorem w_x0_findWeakest_47 : Cond.fieldLink RX0 47 "BoltRing$Joint" "bolts" "I" ∈ wsX0_findWeakest := by decide +kernel
theorem w_x0_findWeakest_28 : Cond.fieldLink RX0 28 "BoltRing$Joint" "loads" "[I" ∈ wsX0_findWeakest := by decide +kernel
theorem in_x0_findWeakest_X2 : ∀ w ∈ wsX20, w ∈ wsX0_findWeakest := by decide +kernel
set_option maxHeartbeats 4000000 in
set_option maxRecDepth 100000 in
theorem x0_findWeakest_bd {κ : KT} {ad : Nat → Nat} {cA : Nat → ClassId} {D : va_G} {Q : State → Prop}  {s : Mem} (C : CX κ (GA ad cA D) RX0 cX0_findWeakest 5 wsX0_findWeakest x0_findWeakest_rm (some .int)) (h : x0_findWeakest  s (RT κ (GA ad cA D) ocI Q)) : WM κ (GA ad cA D) 5 Q s 0 [(0, .ref (ad 23)), (1, .ref (ad 1)), (2, .ref (ad 7))] [] := by
  obtain ⟨Z5, z5⟩ : ∃ Z : Int → Int → Mem → Prop, ∀ x3 x4 s, Z x3 x4 s ↔ WM κ (GA ad cA D) 5 Q s 5 [(0, .ref (ad 23)), (1, .ref (ad 1)), (2, .ref (ad 7)), (3, vI x3), (4, vI x4)] [] := ⟨fun x3 x4 s => WM κ (GA ad cA D) 5 Q s 5 [(0, .ref (ad 23)), (1, .ref (ad 1)), (2, .ref (ad 7)), (3, vI x3), (4, vI x4)] [], fun _ _ _ => Iff.rfl⟩
  obtain ⟨Z70, z70⟩ : ∃ Z : Int → Int → Int → Mem → Prop, ∀ x3 x4 t0 s, Z x3 x4 t0 s ↔ WM κ (GA ad cA D) 5 Q s 70 [(0, .ref (ad 23)), (1, .ref (ad 1)), (2, .ref (ad 7)), (3, vI x3), (4, vI x4)] [vI t0, .ref (ad 7), .ref (ad 1), .ref (ad 23)] := ⟨fun x3 x4 t0 s => WM κ (GA ad cA D) 5 Q s 70 [(0, .ref (ad 23)), (1, .ref (ad 1)), (2, .ref (ad 7)), (3, vI x3), (4, vI x4)] [vI t0, .ref (ad 7), .ref (ad 1), .ref (ad 23)], fun _ _ _ _ => Iff.rfl⟩
  refine (fun h => ?_) (h Z5 Z70 ?_ ?_)
  · refine r_iconst C dX0_findWeakest_0 ?_
    refine r_istore_n (ls' := [(3, vI (-1 : Int)), (0, .ref (ad 23)), (1, .ref (ad 1)), (2, .ref (ad 7))]) C dX0_findWeakest_1 rfl (by decide) rfl ?_
    refine r_iconst C dX0_findWeakest_2 ?_
    refine r_istore (ls' := [(4, vI (0 : Int)), (3, vI (-1 : Int)), (0, .ref (ad 23)), (1, .ref (ad 1)), (2, .ref (ad 7))]) C dX0_findWeakest_3 (by decide) rfl ?_
    exact r_perm [2, 3, 4, 1, 0] rfl ((z5 _ _ _).1 h)
  · intro x3 x4 s h
    refine (z5 _ _ _).2 ?_
    refine r_iload C 4 dX0_findWeakest_5 rfl ?_
    refine r_aload_n C 1 dX0_findWeakest_7 rfl ?_
    refine r_get (j := 0) (jz := 0) (v := vI (s 1 (0 : Int))) C dX0_findWeakest_8 (shA_1) rfl rfl (by decide) in_x0_findWeakest_X2 w_x0_findWeakest_47 rfl rfl rfl ?_
    refine r_icmp_ge (tgt := 85) C dX0_findWeakest_11 (by decide) ⟨h.1, fun c11 => ?_, fun c11 => ?_⟩
    · have h := h.2.1 c11
      refine r_iload_n C 3 dX0_findWeakest_85 rfl ?_
      exact r_ireturn C dX0_findWeakest_86 h
    · have h := h.2.2 c11
      refine r_aload_n C 1 dX0_findWeakest_14 rfl ?_
      refine r_callV (As := []) (o := 1) (n := 0) C dX0_findWeakest_15 (x2_wholeCount_ct κ.1.2.1 ad cA D s) gX0_findWeakest_X2_wholeCount rfl ⟨rfl, rfl⟩ (by decide +kernel) (by decide) (shA_1) rfl rfl rfl (Nat.le_of_ble_eq_true rfl) (fun _ => rfl) ?_
      refine x2_wholeCount_mono h (fun r2 s1 h => ?_)
      refine r_iconst C dX0_findWeakest_18 ?_
      refine r_icmp_le (tgt := 85) C dX0_findWeakest_19 (by decide) ⟨h.1, fun c10 => ?_, fun c10 => ?_⟩
      · have h := h.2.1 c10
        refine r_iload_n C 3 dX0_findWeakest_85 rfl ?_
        exact r_ireturn C dX0_findWeakest_86 h
      · have h := h.2.2 c10
        refine r_aload_n C 1 dX0_findWeakest_22 rfl ?_
        refine r_iload C 4 dX0_findWeakest_23 rfl ?_
        refine r_callV (As := [vI x4]) (o := 1) (n := 1) C dX0_findWeakest_25 (x2_isBroken_ct κ.1.2.1 ad cA D x4 s1) gX0_findWeakest_X2_isBroken rfl ⟨rfl, rfl⟩ (by decide +kernel) (by decide) (shA_1) rfl rfl rfl (Nat.le_of_ble_eq_true rfl) (fun _ => rfl) ?_
        refine x2_isBroken_mono h (fun r4 s3 h => ?_)
        refine r_if_eq (tgt := 34) C dX0_findWeakest_28 (by decide) ⟨h.1, fun c9 => ?_, fun c9 => ?_⟩
        · have h := h.2.1 c9
          refine r_aload_n C 1 dX0_findWeakest_34 rfl ?_
          refine r_iload C 4 dX0_findWeakest_35 rfl ?_
          refine r_iconst C dX0_findWeakest_37 ?_
          refine r_callV (As := [vI x4, vI (1 : Int)]) (o := 1) (n := 2) C dX0_findWeakest_38 (x2_markBroken_ct κ.1.2.1 ad cA D x4 (1 : Int) s3) gX0_findWeakest_X2_markBroken rfl ⟨rfl, rfl⟩ (by decide +kernel) (by decide) (shA_1) rfl rfl rfl (Nat.le_of_ble_eq_true rfl) (fun _ => rfl) ?_
          refine x2_markBroken_mono h (fun _ s5 h => ?_)
          refine r_aload_n C 2 dX0_findWeakest_41 rfl ?_
          refine r_aload_n C 1 dX0_findWeakest_42 rfl ?_
          refine r_aload_n C 1 dX0_findWeakest_43 rfl ?_
          refine r_get (j := 6) (jz := 6) (v := .ref (ad 5)) C dX0_findWeakest_44 (shA_1) rfl rfl (by decide) in_x0_findWeakest_X2 w_x0_findWeakest_28 rfl rfl rfl ?_
          refine r_callV (As := [.ref (ad 1), .ref (ad 5)]) (o := 7) (n := 2) C dX0_findWeakest_47 (x3_settle_ct κ.1.2.1 ad cA D 7 5 s5 (Or.inl rfl)) gX0_findWeakest_X3_settle rfl ⟨rfl, rfl⟩ (by decide +kernel) (by decide) (shA_7) rfl rfl rfl (Nat.le_of_ble_eq_true rfl) (fun _ => rfl) ?_
          refine x3_settle_mono h (fun _ s6 h => ?_)
          refine r_aload_n C 1 dX0_findWeakest_50 rfl ?_
          refine r_iload C 4 dX0_findWeakest_51 rfl ?_
          refine r_iconst C dX0_findWeakest_53 ?_
          refine r_callV (As := [vI x4, vI (0 : Int)]) (o := 1) (n := 2) C dX0_findWeakest_54 (x2_markBroken_ct κ.1.2.1 ad cA D x4 (0 : Int) s6) gX0_findWeakest_X2_markBroken rfl ⟨rfl, rfl⟩ (by decide +kernel) (by decide) (shA_1) rfl rfl rfl (Nat.le_of_ble_eq_true rfl) (fun _ => rfl) ?_
          refine x2_markBroken_mono h (fun _ s7 h => ?_)
          refine r_aload_n C 0 dX0_findWeakest_57 rfl ?_
          refine r_aload_n C 1 dX0_findWeakest_58 rfl ?_
          refine r_aload_n C 2 dX0_findWeakest_59 rfl ?_
          refine r_iload_n C 3 dX0_findWeakest_60 rfl ?_
          refine r_iconst C dX0_findWeakest_61 ?_
          refine r_icmp_ne (tgt := 69) C dX0_findWeakest_62 (by decide) ⟨h.1, fun c8 => ?_, fun c8 => ?_⟩
          · have h := h.2.1 c8
            refine r_iconst C dX0_findWeakest_69 ?_
            exact r_perm [0, 1, 2, 3, 4] rfl ((z70 _ _ _ _).1 h)
          · have h := h.2.2 c8
            refine r_iconst C dX0_findWeakest_65 ?_
            refine r_goto (tgt := 70) C dX0_findWeakest_66 (by decide) ?_
            exact r_perm [0, 1, 2, 3, 4] rfl ((z70 _ _ _ _).1 h)
        · have h := h.2.2 c9
          refine r_goto (tgt := 79) C dX0_findWeakest_31 (by decide) ?_
          refine r_iinc (j := 4) (ls' := [(4, vI (x4 + (1 : Int))), (0, .ref (ad 23)), (1, .ref (ad 1)), (2, .ref (ad 7)), (3, vI x3)]) C dX0_findWeakest_79 rfl (by decide) rfl ?_
          refine r_goto (tgt := 5) C dX0_findWeakest_82 (by decide) ?_
          exact r_perm [1, 2, 3, 4, 0] rfl ((z5 _ _ _).1 h)
  · intro x3 x4 t0 s h
    refine (z70 _ _ _ _).2 ?_
    refine r_callV (As := [.ref (ad 1), .ref (ad 7), vI t0]) (o := 23) (n := 3) C dX0_findWeakest_70 (x0_leaksMost_ct κ.1.2.1 ad cA D t0 s) gX0_findWeakest_X0_leaksMost rfl ⟨rfl, rfl⟩ (by decide +kernel) (by decide) (shA_23) rfl rfl rfl (Nat.le_of_ble_eq_true rfl) (fun _ => rfl) ?_
    refine x0_leaksMost_mono h (fun r13 s12 h => ?_)
    refine r_if_eq (tgt := 79) C dX0_findWeakest_73 (by decide) ⟨h.1, fun c14 => ?_, fun c14 => ?_⟩
    · have h := h.2.1 c14
      refine r_iinc (j := 4) (ls' := [(4, vI (x4 + (1 : Int))), (0, .ref (ad 23)), (1, .ref (ad 1)), (2, .ref (ad 7)), (3, vI x3)]) C dX0_findWeakest_79 rfl (by decide) rfl ?_
      refine r_goto (tgt := 5) C dX0_findWeakest_82 (by decide) ?_
      exact r_perm [1, 2, 3, 4, 0] rfl ((z5 _ _ _).1 h)
    · have h := h.2.2 c14
      refine r_iload C 4 dX0_findWeakest_76 rfl ?_
      refine r_istore_n (ls' := [(3, vI x4), (0, .ref (ad 23)), (1, .ref (ad 1)), (2, .ref (ad 7)), (4, vI x4)]) C dX0_findWeakest_78 rfl (by decide) rfl ?_
      refine r_iinc (j := 4) (ls' := [(4, vI (x4 + (1 : Int))), (3, vI x4), (0, .ref (ad 23)), (1, .ref (ad 1)), (2, .ref (ad 7))]) C dX0_findWeakest_79 rfl (by decide) rfl ?_
      refine r_goto (tgt := 5) C dX0_findWeakest_82 (by decide) ?_
      exact r_perm [2, 3, 4, 1, 0] rfl ((z5 _ _ _).1 h)
theorem x0_findWeakest_ct (l : Launch) (ad : Nat → Nat) (cA : Nat → ClassId) (D : va_G)  (s : Mem) : MG l yX0_findWeakest wsX0_findWeakest x0_findWeakest_rm ocI [.ref (ad 23), .ref (ad 1), .ref (ad 7)] (GA ad cA D) s (x0_findWeakest  s) :=
  m_met (own := RX0) (nL := 5) (by decide) rfl rfl (Nat.le_of_ble_eq_true rfl) rfl rfl rfl (fun κ hl C Q Pst hW hQ => x0_findWeakest_bd C (x0_findWeakest_mono hW hQ))

def x4_miss_be (X8 : Int → Int → Int → Mem → Prop) (Q : Int → Mem → Prop) (p2 : Int) (s : Mem) : Prop :=
  X8 (1 : Int) p2 (0 : Int) s
def x4_miss_b8 (X8 : Int → Int → Int → Mem → Prop) (Q : Int → Mem → Prop) (x3 : Int) (x5 : Int) (x6 : Int) (s : Mem) : Prop :=
  (InI x6 ∧ InI (s 1 (0 : Int))) ∧ ((s 1 (0 : Int)) ≤ x6 → Q x3 s) ∧ (x6 < (s 1 (0 : Int)) → x2_isBroken x6 s (fun r2 s1 => InI r2 ∧ (¬ r2 = (0 : Int) → X8 x3 x5 (x6 + (1 : Int)) s1) ∧ (r2 = (0 : Int) → (InI x5 ∧ InI (3 : Int) ∧ ¬ (3 : Int) = 0) ∧ (InI x5 ∧ InI (3 : Int) ∧ ¬ (3 : Int) = 0) ∧ ((0 : Int) ≤ (Int.tmod x5 (3 : Int)) ∧ (Int.tmod x5 (3 : Int)) < 3) ∧ (InI (s1 32 (Int.tmod x5 (3 : Int)))) ∧ ∀ v3 : Int, v3 = (x3 * (s1 32 (Int.tmod x5 (3 : Int)))) → ((0 : Int) ≤ x6 ∧ x6 < 6) ∧ (InI (0 : Int) ∧ InI (((s1 33 x6) + (Int.tmod x5 (3 : Int))) - (1 : Int))) ∧ ((0 : Int) ≤ x6 ∧ x6 < 6) ∧ ∀ s4 : Mem, s4 = m_upd s1 4 x6 (if (0 : Int) < (((s1 33 x6) + (Int.tmod x5 (3 : Int))) - (1 : Int)) then (((s1 33 x6) + (Int.tmod x5 (3 : Int))) - (1 : Int)) else (0 : Int)) → X8 v3 (Int.tdiv x5 (3 : Int)) (x6 + (1 : Int)) s4)))
theorem x4_miss_me {X8 Y8 : Int → Int → Int → Mem → Prop} {Q R : Int → Mem → Prop} (hX8 : ∀ x3 x5 x6 s, X8 x3 x5 x6 s → Y8 x3 x5 x6 s) (hQ : ∀ r s, Q r s → R r s) {p2 : Int} {s : Mem} (h : x4_miss_be X8 Q p2 s) : x4_miss_be Y8 R p2 s :=
  hX8 _ _ _ _ h
theorem x4_miss_m8 {X8 Y8 : Int → Int → Int → Mem → Prop} {Q R : Int → Mem → Prop} (hX8 : ∀ x3 x5 x6 s, X8 x3 x5 x6 s → Y8 x3 x5 x6 s) (hQ : ∀ r s, Q r s → R r s) {x3 : Int} {x5 : Int} {x6 : Int} {s : Mem} (h : x4_miss_b8 X8 Q x3 x5 x6 s) : x4_miss_b8 Y8 R x3 x5 x6 s :=
  ⟨h.1, fun c => have h := h.2.1 c; hQ _ _ h, fun c => have h := h.2.2 c; x2_isBroken_mono h (fun r2 s1 h => ⟨h.1, fun c => have h := h.2.1 c; hX8 _ _ _ _ h, fun c => have h := h.2.2 c; ⟨h.1, have h := h.2; ⟨h.1, have h := h.2; ⟨h.1, have h := h.2; ⟨h.1, have h := h.2; fun v3 e_v3 => have h := h v3 e_v3; ⟨h.1, have h := h.2; ⟨h.1, have h := h.2; ⟨h.1, have h := h.2; fun s4 e_s4 => have h := h s4 e_s4; hX8 _ _ _ _ h⟩⟩⟩⟩⟩⟩⟩⟩)⟩
def x4_miss (p2 : Int) (s : Mem) (Q : Int → Mem → Prop) : Prop := ∀ (X8 : Int → Int → Int → Mem → Prop), (∀ x3 x5 x6 s, x4_miss_b8 X8 Q x3 x5 x6 s → X8 x3 x5 x6 s) → x4_miss_be X8 Q p2 s
def x4_miss_L8 (Q : Int → Mem → Prop) (x3 : Int) (x5 : Int) (x6 : Int) (s : Mem) : Prop := ∀ (X8 : Int → Int → Int → Mem → Prop), (∀ x3 x5 x6 s, x4_miss_b8 X8 Q x3 x5 x6 s → X8 x3 x5 x6 s) → X8 x3 x5 x6 s
theorem x4_miss_i {Q : Int → Mem → Prop} {p2 : Int} {s : Mem} (h : x4_miss_be (x4_miss_L8 Q) Q p2 s) : x4_miss p2 s Q := fun X8 k8 => x4_miss_me (fun _ _ _ _ h => h X8 k8) (fun _ _ h => h) h
theorem x4_miss_s8 {Q : Int → Mem → Prop} {x3 : Int} {x5 : Int} {x6 : Int} {s : Mem} (h : x4_miss_b8 (x4_miss_L8 Q) Q x3 x5 x6 s) : x4_miss_L8 Q x3 x5 x6 s := fun X8 k8 => k8 _ _ _ _ (x4_miss_m8 (fun _ _ _ _ h => h X8 k8) (fun _ _ h => h) h)
theorem x4_miss_mono {Q R : Int → Mem → Prop} {p2 : Int} {s : Mem} (h : x4_miss p2 s Q) (hQ : ∀ r s, Q r s → R r s) : x4_miss p2 s R := fun X8 k8 => x4_miss_me (fun _ _ _ _ h => h) hQ (h X8 (fun _ _ _ _ h => k8 _ _ _ _ (x4_miss_m8 (fun _ _ _ _ h => h) hQ h)))
def x4_miss_rm : Room := { frames := 1, cells := 0, slots := 0, locals := 60 }
theorem w_x4_miss_45 : Cond.fieldLink RX4 45 "BoltRing$Joint" "bolts" "I" ∈ wsX4_miss := by decide +kernel
theorem w_x4_miss_9 : Cond.fieldLink RX4 9 "BoltRing$Misses" "weights" "[I" ∈ wsX4_miss := by decide +kernel
theorem w_x4_miss_28 : Cond.fieldLink RX4 28 "BoltRing$Joint" "turns" "[I" ∈ wsX4_miss := by decide +kernel
theorem w_x4_miss_15 : Cond.fieldLink RX4 15 "BoltRing$Misses" "meant" "[I" ∈ wsX4_miss := by decide +kernel
theorem w_x4_miss_l53 : Cond.methodLink RX4 53 Lib.Math.max.name ∈ wsX4_miss := by decide +kernel
theorem w_x4_miss_s53 : Cond.static Lib.Math.max.name ∈ wsX4_miss := by decide +kernel
theorem w_x4_miss_im : Cond.initialized "java/lang/Math" ∈ wsX4_miss := by decide +kernel
theorem w_x4_miss_c53 : Cond.code Lib.Math.max.name Lib.Math.max.code 2 (some .int) ∈ wsX4_miss := by decide +kernel
theorem in_x4_miss_X2 : ∀ w ∈ wsX20, w ∈ wsX4_miss := by decide +kernel
theorem in_x4_miss_X4 : ∀ w ∈ wsX40, w ∈ wsX4_miss := by decide +kernel
set_option maxHeartbeats 4000000 in
set_option maxRecDepth 100000 in
theorem x4_miss_bd {κ : KT} {ad : Nat → Nat} {cA : Nat → ClassId} {D : va_G} {Q : State → Prop} {p2 : Int} {s : Mem} (C : CX κ (GA ad cA D) RX4 cX4_miss 8 wsX4_miss x4_miss_rm (some .long)) (h : x4_miss p2 s (RT κ (GA ad cA D) ocL Q)) : WM κ (GA ad cA D) 8 Q s 0 [(0, .ref (ad 31)), (1, .ref (ad 1)), (2, vI p2)] [] := by
  obtain ⟨Z8, z8⟩ : ∃ Z : Int → Int → Int → Mem → Prop, ∀ x3 x5 x6 s, Z x3 x5 x6 s ↔ WM κ (GA ad cA D) 8 Q s 8 [(0, .ref (ad 31)), (1, .ref (ad 1)), (3, vL x3), (5, vI x5), (6, vI x6)] [] := ⟨fun x3 x5 x6 s => WM κ (GA ad cA D) 8 Q s 8 [(0, .ref (ad 31)), (1, .ref (ad 1)), (3, vL x3), (5, vI x5), (6, vI x6)] [], fun _ _ _ _ => Iff.rfl⟩
  refine (fun h => ?_) (h Z8 ?_)
  · refine r_lconst (z := 1) C dX4_miss_0 rfl ?_
    refine r_lstore_n (ls' := [(3, vL (1 : Int)), (0, .ref (ad 31)), (1, .ref (ad 1)), (2, vI p2)]) C dX4_miss_1 rfl (by decide) rfl ?_
    refine r_iload_n C 3 dX4_miss_2 rfl ?_
    refine r_istore (ls' := [(5, vI p2), (3, vL (1 : Int)), (0, .ref (ad 31)), (1, .ref (ad 1)), (2, vI p2)]) C dX4_miss_3 (by decide) rfl ?_
    refine r_iconst C dX4_miss_5 ?_
    refine r_istore (ls' := [(6, vI (0 : Int)), (5, vI p2), (3, vL (1 : Int)), (0, .ref (ad 31)), (1, .ref (ad 1)), (2, vI p2)]) C dX4_miss_6 (by decide) rfl ?_
    exact r_perm [3, 4, 2, 1, 0] rfl ((z8 _ _ _ _).1 h)
  · intro x3 x5 x6 s h
    refine (z8 _ _ _ _).2 ?_
    refine r_iload C 4 dX4_miss_8 rfl ?_
    refine r_aload_n C 1 dX4_miss_10 rfl ?_
    refine r_get (j := 0) (jz := 0) (v := vI (s 1 (0 : Int))) C dX4_miss_11 (shA_1) rfl rfl (by decide) in_x4_miss_X2 w_x4_miss_45 rfl rfl rfl ?_
    refine r_icmp_ge (tgt := 78) C dX4_miss_14 (by decide) ⟨h.1, fun c6 => ?_, fun c6 => ?_⟩
    · have h := h.2.1 c6
      refine r_lload_n C 2 dX4_miss_78 rfl ?_
      exact r_lreturn C dX4_miss_79 h
    · have h := h.2.2 c6
      refine r_aload_n C 1 dX4_miss_17 rfl ?_
      refine r_iload C 4 dX4_miss_18 rfl ?_
      refine r_callV (As := [vI x6]) (o := 1) (n := 1) C dX4_miss_20 (x2_isBroken_ct κ.1.2.1 ad cA D x6 s) gX4_miss_X2_isBroken rfl ⟨rfl, rfl⟩ (by decide +kernel) (by decide) (shA_1) rfl rfl rfl (Nat.le_of_ble_eq_true rfl) (fun _ => rfl) ?_
      refine x2_isBroken_mono h (fun r2 s1 h => ?_)
      refine r_if_ne (tgt := 72) C dX4_miss_23 (by decide) ⟨h.1, fun c5 => ?_, fun c5 => ?_⟩
      · have h := h.2.1 c5
        refine r_iinc (j := 4) (ls' := [(6, vI (x6 + (1 : Int))), (0, .ref (ad 31)), (1, .ref (ad 1)), (3, vL x3), (5, vI x5)]) C dX4_miss_72 rfl (by decide) rfl ?_
        refine r_goto (tgt := 8) C dX4_miss_75 (by decide) ?_
        exact r_perm [1, 2, 3, 4, 0] rfl ((z8 _ _ _ _).1 h)
      · have h := h.2.2 c5
        refine r_iload C 3 dX4_miss_26 rfl ?_
        refine r_iconst C dX4_miss_28 ?_
        refine r_irem C dX4_miss_29 ⟨h.1, ?_⟩
        have h := h.2
        refine r_istore (ls' := [(7, vI (Int.tmod x5 (3 : Int))), (0, .ref (ad 31)), (1, .ref (ad 1)), (3, vL x3), (5, vI x5), (6, vI x6)]) C dX4_miss_30 (by decide) rfl ?_
        refine r_iload C 4 dX4_miss_32 rfl ?_
        refine r_iconst C dX4_miss_34 ?_
        refine r_idiv C dX4_miss_35 ⟨h.1, ?_⟩
        have h := h.2
        refine r_istore (ls' := [(5, vI (Int.tdiv x5 (3 : Int))), (7, vI (Int.tmod x5 (3 : Int))), (0, .ref (ad 31)), (1, .ref (ad 1)), (3, vL x3), (6, vI x6)]) C dX4_miss_36 (by decide) rfl ?_
        refine r_lload_n C 4 dX4_miss_38 rfl ?_
        refine r_aload_n C 2 dX4_miss_39 rfl ?_
        refine r_get (j := 0) (jz := 0) (v := .ref (ad 32)) C dX4_miss_40 (shA_31) rfl rfl (by decide) in_x4_miss_X4 w_x4_miss_9 rfl rfl rfl ?_
        refine r_iload C 1 dX4_miss_43 rfl ?_
        refine r_iald (nz := 3) C dX4_miss_45 (shA_32) rfl (by decide) ⟨h.1, ?_⟩
        have h := h.2
        refine r_i2l C dX4_miss_46 ⟨h.1, ?_⟩
        have h := h.2
        refine r_lmul C dX4_miss_47 ?_
        refine r_topL (fun v3 e_v3 => ?_)
        have h := h v3 e_v3
        refine r_lstore_n (ls' := [(3, vL v3), (5, vI (Int.tdiv x5 (3 : Int))), (7, vI (Int.tmod x5 (3 : Int))), (0, .ref (ad 31)), (1, .ref (ad 1)), (6, vI x6)]) C dX4_miss_48 rfl (by decide) rfl ?_
        refine r_aload_n C 4 dX4_miss_49 rfl ?_
        refine r_get (j := 5) (jz := 5) (v := .ref (ad 4)) C dX4_miss_50 (shA_1) rfl rfl (by decide) in_x4_miss_X2 w_x4_miss_28 rfl rfl rfl ?_
        refine r_iload C 5 dX4_miss_53 rfl ?_
        refine r_iconst C dX4_miss_55 ?_
        refine r_aload_n C 3 dX4_miss_56 rfl ?_
        refine r_get (j := 1) (jz := 1) (v := .ref (ad 33)) C dX4_miss_57 (shA_31) rfl rfl (by decide) in_x4_miss_X4 w_x4_miss_15 rfl rfl rfl ?_
        refine r_iload C 5 dX4_miss_60 rfl ?_
        refine r_iald (nz := 6) C dX4_miss_62 (shA_33) rfl (by decide) ⟨h.1, ?_⟩
        have h := h.2
        refine r_iload C 2 dX4_miss_63 rfl ?_
        refine r_iadd C dX4_miss_65 ?_
        refine r_iconst C dX4_miss_66 ?_
        refine r_isub C dX4_miss_67 ?_
        refine r_maxI C dX4_miss_68 w_x4_miss_l53 w_x4_miss_s53 w_x4_miss_im w_x4_miss_c53 (by decide) (Nat.le_of_ble_eq_true rfl) ⟨h.1, ?_⟩
        have h := h.2
        refine r_iast (nz := 6) C dX4_miss_71 (shA_4) rfl (by decide) ⟨h.1, fun s4 e_s4 => ?_⟩
        have h := h.2 s4 e_s4
        refine r_iinc (j := 5) (ls' := [(6, vI (x6 + (1 : Int))), (3, vL v3), (5, vI (Int.tdiv x5 (3 : Int))), (7, vI (Int.tmod x5 (3 : Int))), (0, .ref (ad 31)), (1, .ref (ad 1))]) C dX4_miss_72 rfl (by decide) rfl ?_
        refine r_goto (tgt := 8) C dX4_miss_75 (by decide) ?_
        exact r_perm [4, 5, 1, 2, 0] rfl ((z8 _ _ _ _).1 h)
theorem x4_miss_ct (l : Launch) (ad : Nat → Nat) (cA : Nat → ClassId) (D : va_G) (p2 : Int) (s : Mem) : MG l yX4_miss wsX4_miss x4_miss_rm ocL [.ref (ad 31), .ref (ad 1), vI p2] (GA ad cA D) s (x4_miss p2 s) :=
  m_met (own := RX4) (nL := 8) (by decide) rfl rfl (Nat.le_of_ble_eq_true rfl) rfl rfl rfl (fun κ hl C Q Pst hW hQ => x4_miss_bd C (x4_miss_mono hW hQ))

def x4_allLie_be (X12 : Int → Int → Int → Mem → Prop) (Q : Int → Mem → Prop) (p2 : Int) (p3 : Int) (s : Mem) : Prop :=
  x3_settle 7 5 s (fun _ s1 => X12 p2 p3 (0 : Int) s1)
def x4_allLie_b12 (X12 : Int → Int → Int → Mem → Prop) (Q : Int → Mem → Prop) (x2 : Int) (x3 : Int) (x4 : Int) (s : Mem) : Prop :=
  (InI x4 ∧ InI (s 1 (0 : Int))) ∧ ((s 1 (0 : Int)) ≤ x4 → ((0 : Int) ≤ (1 : Int) ∧ (1 : Int) ≤ 1) ∧ Q (1 : Int) s) ∧ (x4 < (s 1 (0 : Int)) → x2_isBroken x4 s (fun r3 s2 => InI r3 ∧ (¬ r3 = (0 : Int) → X12 x2 x3 (x4 + (1 : Int)) s2) ∧ (r3 = (0 : Int) → x3_pullLies 7 x4 x2 x3 s2 (fun r5 s4 => InI r5 ∧ (¬ r5 = (0 : Int) → X12 x2 x3 (x4 + (1 : Int)) s4) ∧ (r5 = (0 : Int) → ((0 : Int) ≤ (0 : Int) ∧ (0 : Int) ≤ 1) ∧ Q (0 : Int) s4)))))
theorem x4_allLie_me {X12 Y12 : Int → Int → Int → Mem → Prop} {Q R : Int → Mem → Prop} (hX12 : ∀ x2 x3 x4 s, X12 x2 x3 x4 s → Y12 x2 x3 x4 s) (hQ : ∀ r s, Q r s → R r s) {p2 : Int} {p3 : Int} {s : Mem} (h : x4_allLie_be X12 Q p2 p3 s) : x4_allLie_be Y12 R p2 p3 s :=
  x3_settle_mono h (fun _ s1 h => hX12 _ _ _ _ h)
theorem x4_allLie_m12 {X12 Y12 : Int → Int → Int → Mem → Prop} {Q R : Int → Mem → Prop} (hX12 : ∀ x2 x3 x4 s, X12 x2 x3 x4 s → Y12 x2 x3 x4 s) (hQ : ∀ r s, Q r s → R r s) {x2 : Int} {x3 : Int} {x4 : Int} {s : Mem} (h : x4_allLie_b12 X12 Q x2 x3 x4 s) : x4_allLie_b12 Y12 R x2 x3 x4 s :=
  ⟨h.1, fun c => have h := h.2.1 c; ⟨h.1, hQ _ _ h.2⟩, fun c => have h := h.2.2 c; x2_isBroken_mono h (fun r3 s2 h => ⟨h.1, fun c => have h := h.2.1 c; hX12 _ _ _ _ h, fun c => have h := h.2.2 c; x3_pullLies_mono h (fun r5 s4 h => ⟨h.1, fun c => have h := h.2.1 c; hX12 _ _ _ _ h, fun c => have h := h.2.2 c; ⟨h.1, hQ _ _ h.2⟩⟩)⟩)⟩
def x4_allLie (p2 : Int) (p3 : Int) (s : Mem) (Q : Int → Mem → Prop) : Prop := ∀ (X12 : Int → Int → Int → Mem → Prop), (∀ x2 x3 x4 s, x4_allLie_b12 X12 Q x2 x3 x4 s → X12 x2 x3 x4 s) → x4_allLie_be X12 Q p2 p3 s
def x4_allLie_L12 (Q : Int → Mem → Prop) (x2 : Int) (x3 : Int) (x4 : Int) (s : Mem) : Prop := ∀ (X12 : Int → Int → Int → Mem → Prop), (∀ x2 x3 x4 s, x4_allLie_b12 X12 Q x2 x3 x4 s → X12 x2 x3 x4 s) → X12 x2 x3 x4 s
theorem x4_allLie_i {Q : Int → Mem → Prop} {p2 : Int} {p3 : Int} {s : Mem} (h : x4_allLie_be (x4_allLie_L12 Q) Q p2 p3 s) : x4_allLie p2 p3 s Q := fun X12 k12 => x4_allLie_me (fun _ _ _ _ h => h X12 k12) (fun _ _ h => h) h
theorem x4_allLie_s12 {Q : Int → Mem → Prop} {x2 : Int} {x3 : Int} {x4 : Int} {s : Mem} (h : x4_allLie_b12 (x4_allLie_L12 Q) Q x2 x3 x4 s) : x4_allLie_L12 Q x2 x3 x4 s := fun X12 k12 => k12 _ _ _ _ (x4_allLie_m12 (fun _ _ _ _ h => h X12 k12) (fun _ _ h => h) h)
theorem x4_allLie_mono {Q R : Int → Mem → Prop} {p2 : Int} {p3 : Int} {s : Mem} (h : x4_allLie p2 p3 s Q) (hQ : ∀ r s, Q r s → R r s) : x4_allLie p2 p3 s R := fun X12 k12 => x4_allLie_me (fun _ _ _ _ h => h) hQ (h X12 (fun _ _ _ _ h => k12 _ _ _ _ (x4_allLie_m12 (fun _ _ _ _ h => h) hQ h)))
def x4_allLie_rm : Room := { frames := 3, cells := 0, slots := 0, locals := 108 }
theorem w_x4_allLie_59 : Cond.fieldLink RX4 59 "BoltRing$Joint" "loads" "[I" ∈ wsX4_allLie := by decide +kernel
theorem w_x4_allLie_45 : Cond.fieldLink RX4 45 "BoltRing$Joint" "bolts" "I" ∈ wsX4_allLie := by decide +kernel
theorem in_x4_allLie_X2 : ∀ w ∈ wsX20, w ∈ wsX4_allLie := by decide +kernel
set_option maxHeartbeats 4000000 in
set_option maxRecDepth 100000 in
theorem x4_allLie_bd {κ : KT} {ad : Nat → Nat} {cA : Nat → ClassId} {D : va_G} {Q : State → Prop} {p2 : Int} {p3 : Int} {s : Mem} (C : CX κ (GA ad cA D) RX4 cX4_allLie 5 wsX4_allLie x4_allLie_rm (some .boolean)) (h : x4_allLie p2 p3 s (RT κ (GA ad cA D) ocI Q)) : WM κ (GA ad cA D) 5 Q s 0 [(0, .ref (ad 1)), (1, .ref (ad 7)), (2, vI p2), (3, vI p3)] [] := by
  obtain ⟨Z12, z12⟩ : ∃ Z : Int → Int → Int → Mem → Prop, ∀ x2 x3 x4 s, Z x2 x3 x4 s ↔ WM κ (GA ad cA D) 5 Q s 12 [(0, .ref (ad 1)), (1, .ref (ad 7)), (2, vI x2), (3, vI x3), (4, vI x4)] [] := ⟨fun x2 x3 x4 s => WM κ (GA ad cA D) 5 Q s 12 [(0, .ref (ad 1)), (1, .ref (ad 7)), (2, vI x2), (3, vI x3), (4, vI x4)] [], fun _ _ _ _ => Iff.rfl⟩
  refine (fun h => ?_) (h Z12 ?_)
  · refine r_aload_n C 1 dX4_allLie_0 rfl ?_
    refine r_aload_n C 0 dX4_allLie_1 rfl ?_
    refine r_aload_n C 0 dX4_allLie_2 rfl ?_
    refine r_get (j := 6) (jz := 6) (v := .ref (ad 5)) C dX4_allLie_3 (shA_1) rfl rfl (by decide) in_x4_allLie_X2 w_x4_allLie_59 rfl rfl rfl ?_
    refine r_callV (As := [.ref (ad 1), .ref (ad 5)]) (o := 7) (n := 2) C dX4_allLie_6 (x3_settle_ct κ.1.2.1 ad cA D 7 5 s (Or.inl rfl)) gX4_allLie_X3_settle rfl ⟨rfl, rfl⟩ (by decide +kernel) (by decide) (shA_7) rfl rfl rfl (Nat.le_of_ble_eq_true rfl) (fun _ => rfl) ?_
    refine x3_settle_mono h (fun _ s1 h => ?_)
    refine r_iconst C dX4_allLie_9 ?_
    refine r_istore (ls' := [(4, vI (0 : Int)), (0, .ref (ad 1)), (1, .ref (ad 7)), (2, vI p2), (3, vI p3)]) C dX4_allLie_10 (by decide) rfl ?_
    exact r_perm [1, 2, 3, 4, 0] rfl ((z12 _ _ _ _).1 h)
  · intro x2 x3 x4 s h
    refine (z12 _ _ _ _).2 ?_
    refine r_iload C 4 dX4_allLie_12 rfl ?_
    refine r_aload_n C 0 dX4_allLie_14 rfl ?_
    refine r_get (j := 0) (jz := 0) (v := vI (s 1 (0 : Int))) C dX4_allLie_15 (shA_1) rfl rfl (by decide) in_x4_allLie_X2 w_x4_allLie_45 rfl rfl rfl ?_
    refine r_icmp_ge (tgt := 50) C dX4_allLie_18 (by decide) ⟨h.1, fun c8 => ?_, fun c8 => ?_⟩
    · have h := h.2.1 c8
      refine r_iconst C dX4_allLie_50 ?_
      exact r_zreturn C dX4_allLie_51 h
    · have h := h.2.2 c8
      refine r_aload_n C 0 dX4_allLie_21 rfl ?_
      refine r_iload C 4 dX4_allLie_22 rfl ?_
      refine r_callV (As := [vI x4]) (o := 1) (n := 1) C dX4_allLie_24 (x2_isBroken_ct κ.1.2.1 ad cA D x4 s) gX4_allLie_X2_isBroken rfl ⟨rfl, rfl⟩ (by decide +kernel) (by decide) (shA_1) rfl rfl rfl (Nat.le_of_ble_eq_true rfl) (fun _ => rfl) ?_
      refine x2_isBroken_mono h (fun r3 s2 h => ?_)
      refine r_if_ne (tgt := 44) C dX4_allLie_27 (by decide) ⟨h.1, fun c7 => ?_, fun c7 => ?_⟩
      · have h := h.2.1 c7
        refine r_iinc (j := 4) (ls' := [(4, vI (x4 + (1 : Int))), (0, .ref (ad 1)), (1, .ref (ad 7)), (2, vI x2), (3, vI x3)]) C dX4_allLie_44 rfl (by decide) rfl ?_
        refine r_goto (tgt := 12) C dX4_allLie_47 (by decide) ?_
        exact r_perm [1, 2, 3, 4, 0] rfl ((z12 _ _ _ _).1 h)
      · have h := h.2.2 c7
        refine r_aload_n C 1 dX4_allLie_30 rfl ?_
        refine r_aload_n C 0 dX4_allLie_31 rfl ?_
        refine r_iload C 4 dX4_allLie_32 rfl ?_
        refine r_iload_n C 2 dX4_allLie_34 rfl ?_
        refine r_iload_n C 3 dX4_allLie_35 rfl ?_
        refine r_callV (As := [.ref (ad 1), vI x4, vI x2, vI x3]) (o := 7) (n := 4) C dX4_allLie_36 (x3_pullLies_ct κ.1.2.1 ad cA D 7 x4 x2 x3 s2 (Or.inl rfl)) gX4_allLie_X3_pullLies rfl ⟨rfl, rfl⟩ (by decide +kernel) (by decide) (shA_7) rfl rfl rfl (Nat.le_of_ble_eq_true rfl) (fun _ => rfl) ?_
        refine x3_pullLies_mono h (fun r5 s4 h => ?_)
        refine r_if_ne (tgt := 44) C dX4_allLie_39 (by decide) ⟨h.1, fun c6 => ?_, fun c6 => ?_⟩
        · have h := h.2.1 c6
          refine r_iinc (j := 4) (ls' := [(4, vI (x4 + (1 : Int))), (0, .ref (ad 1)), (1, .ref (ad 7)), (2, vI x2), (3, vI x3)]) C dX4_allLie_44 rfl (by decide) rfl ?_
          refine r_goto (tgt := 12) C dX4_allLie_47 (by decide) ?_
          exact r_perm [1, 2, 3, 4, 0] rfl ((z12 _ _ _ _).1 h)
        · have h := h.2.2 c6
          refine r_iconst C dX4_allLie_42 ?_
          exact r_zreturn C dX4_allLie_43 h
theorem x4_allLie_ct (l : Launch) (ad : Nat → Nat) (cA : Nat → ClassId) (D : va_G) (p2 : Int) (p3 : Int) (s : Mem) : MG l yX4_allLie wsX4_allLie x4_allLie_rm ocI [.ref (ad 1), .ref (ad 7), vI p2, vI p3] (GA ad cA D) s (x4_allLie p2 p3 s) :=
  m_met (own := RX4) (nL := 5) (by decide) rfl rfl (Nat.le_of_ble_eq_true rfl) rfl rfl rfl (fun κ hl C Q Pst hW hQ => x4_allLie_bd C (x4_allLie_mono hW hQ))

def x4_favourable_be (X24 : Int → Int → Int → Int → Mem → Prop) (X47 : Int → Int → Int → Int → Int → Mem → Prop) (Q : Int → Mem → Prop) (p3 : Int) (p4 : Int) (s : Mem) : Prop :=
  ((0 ≤ (0 : Int) ∧ 0 ≤ (0 : Int) ∧ 0 ≤ (6 : Int)) ∧ (0 : Int) + (6 : Int) ≤ 6 ∧ (0 : Int) + (6 : Int) ≤ 6) ∧ ∀ s1 : Mem, s1 = m_cpy s 4 33 (0 : Int) (0 : Int) (6 : Int) → x2_wholeCount s1 (fun r3 s2 => X24 p3 p4 (1 : Int) r3 s2)
def x4_favourable_b24 (X24 : Int → Int → Int → Int → Mem → Prop) (X47 : Int → Int → Int → Int → Int → Mem → Prop) (Q : Int → Mem → Prop) (x3 : Int) (x4 : Int) (x5 : Int) (x6 : Int) (s : Mem) : Prop :=
  InI x6 ∧ (x6 ≤ (0 : Int) → X47 x3 x4 x5 (0 : Int) (0 : Int) s) ∧ ((0 : Int) < x6 → X24 x3 x4 (x5 * (3 : Int)) (x6 + (-1 : Int)) s)
def x4_favourable_b47 (X24 : Int → Int → Int → Int → Mem → Prop) (X47 : Int → Int → Int → Int → Int → Mem → Prop) (Q : Int → Mem → Prop) (x3 : Int) (x4 : Int) (x5 : Int) (x6 : Int) (x8 : Int) (s : Mem) : Prop :=
  (InI x8 ∧ InI x5) ∧ (x5 ≤ x8 → ((0 ≤ (0 : Int) ∧ 0 ≤ (0 : Int) ∧ 0 ≤ (6 : Int)) ∧ (0 : Int) + (6 : Int) ≤ 6 ∧ (0 : Int) + (6 : Int) ≤ 6) ∧ ∀ s5 : Mem, s5 = m_cpy s 33 4 (0 : Int) (0 : Int) (6 : Int) → Q x6 s5) ∧ (x8 < x5 → x4_miss x8 s (fun r7 s6 => (InL r7 ∧ InL (0 : Int)) ∧ (r7 ≤ (0 : Int) → X47 x3 x4 x5 x6 (x8 + (1 : Int)) s6) ∧ ((0 : Int) < r7 → x4_allLie x3 x4 s6 (fun r9 s8 => InI r9 ∧ (r9 = (0 : Int) → X47 x3 x4 x5 x6 (x8 + (1 : Int)) s8) ∧ (¬ r9 = (0 : Int) → X47 x3 x4 x5 (x6 + r7) (x8 + (1 : Int)) s8)))))
theorem x4_favourable_me {X24 Y24 : Int → Int → Int → Int → Mem → Prop} {X47 Y47 : Int → Int → Int → Int → Int → Mem → Prop} {Q R : Int → Mem → Prop} (hX24 : ∀ x3 x4 x5 x6 s, X24 x3 x4 x5 x6 s → Y24 x3 x4 x5 x6 s) (hX47 : ∀ x3 x4 x5 x6 x8 s, X47 x3 x4 x5 x6 x8 s → Y47 x3 x4 x5 x6 x8 s) (hQ : ∀ r s, Q r s → R r s) {p3 : Int} {p4 : Int} {s : Mem} (h : x4_favourable_be X24 X47 Q p3 p4 s) : x4_favourable_be Y24 Y47 R p3 p4 s :=
  ⟨h.1, have h := h.2; fun s1 e_s1 => have h := h s1 e_s1; x2_wholeCount_mono h (fun r3 s2 h => hX24 _ _ _ _ _ h)⟩
theorem x4_favourable_m24 {X24 Y24 : Int → Int → Int → Int → Mem → Prop} {X47 Y47 : Int → Int → Int → Int → Int → Mem → Prop} {Q R : Int → Mem → Prop} (hX24 : ∀ x3 x4 x5 x6 s, X24 x3 x4 x5 x6 s → Y24 x3 x4 x5 x6 s) (hX47 : ∀ x3 x4 x5 x6 x8 s, X47 x3 x4 x5 x6 x8 s → Y47 x3 x4 x5 x6 x8 s) (hQ : ∀ r s, Q r s → R r s) {x3 : Int} {x4 : Int} {x5 : Int} {x6 : Int} {s : Mem} (h : x4_favourable_b24 X24 X47 Q x3 x4 x5 x6 s) : x4_favourable_b24 Y24 Y47 R x3 x4 x5 x6 s :=
  ⟨h.1, fun c => have h := h.2.1 c; hX47 _ _ _ _ _ _ h, fun c => have h := h.2.2 c; hX24 _ _ _ _ _ h⟩
theorem x4_favourable_m47 {X24 Y24 : Int → Int → Int → Int → Mem → Prop} {X47 Y47 : Int → Int → Int → Int → Int → Mem → Prop} {Q R : Int → Mem → Prop} (hX24 : ∀ x3 x4 x5 x6 s, X24 x3 x4 x5 x6 s → Y24 x3 x4 x5 x6 s) (hX47 : ∀ x3 x4 x5 x6 x8 s, X47 x3 x4 x5 x6 x8 s → Y47 x3 x4 x5 x6 x8 s) (hQ : ∀ r s, Q r s → R r s) {x3 : Int} {x4 : Int} {x5 : Int} {x6 : Int} {x8 : Int} {s : Mem} (h : x4_favourable_b47 X24 X47 Q x3 x4 x5 x6 x8 s) : x4_favourable_b47 Y24 Y47 R x3 x4 x5 x6 x8 s :=
  ⟨h.1, fun c => have h := h.2.1 c; ⟨h.1, have h := h.2; fun s5 e_s5 => have h := h s5 e_s5; hQ _ _ h⟩, fun c => have h := h.2.2 c; x4_miss_mono h (fun r7 s6 h => ⟨h.1, fun c => have h := h.2.1 c; hX47 _ _ _ _ _ _ h, fun c => have h := h.2.2 c; x4_allLie_mono h (fun r9 s8 h => ⟨h.1, fun c => have h := h.2.1 c; hX47 _ _ _ _ _ _ h, fun c => have h := h.2.2 c; hX47 _ _ _ _ _ _ h⟩)⟩)⟩
def x4_favourable (p3 : Int) (p4 : Int) (s : Mem) (Q : Int → Mem → Prop) : Prop := ∀ (X24 : Int → Int → Int → Int → Mem → Prop) (X47 : Int → Int → Int → Int → Int → Mem → Prop), (∀ x3 x4 x5 x6 s, x4_favourable_b24 X24 X47 Q x3 x4 x5 x6 s → X24 x3 x4 x5 x6 s) → (∀ x3 x4 x5 x6 x8 s, x4_favourable_b47 X24 X47 Q x3 x4 x5 x6 x8 s → X47 x3 x4 x5 x6 x8 s) → x4_favourable_be X24 X47 Q p3 p4 s
def x4_favourable_L24 (Q : Int → Mem → Prop) (x3 : Int) (x4 : Int) (x5 : Int) (x6 : Int) (s : Mem) : Prop := ∀ (X24 : Int → Int → Int → Int → Mem → Prop) (X47 : Int → Int → Int → Int → Int → Mem → Prop), (∀ x3 x4 x5 x6 s, x4_favourable_b24 X24 X47 Q x3 x4 x5 x6 s → X24 x3 x4 x5 x6 s) → (∀ x3 x4 x5 x6 x8 s, x4_favourable_b47 X24 X47 Q x3 x4 x5 x6 x8 s → X47 x3 x4 x5 x6 x8 s) → X24 x3 x4 x5 x6 s
def x4_favourable_L47 (Q : Int → Mem → Prop) (x3 : Int) (x4 : Int) (x5 : Int) (x6 : Int) (x8 : Int) (s : Mem) : Prop := ∀ (X24 : Int → Int → Int → Int → Mem → Prop) (X47 : Int → Int → Int → Int → Int → Mem → Prop), (∀ x3 x4 x5 x6 s, x4_favourable_b24 X24 X47 Q x3 x4 x5 x6 s → X24 x3 x4 x5 x6 s) → (∀ x3 x4 x5 x6 x8 s, x4_favourable_b47 X24 X47 Q x3 x4 x5 x6 x8 s → X47 x3 x4 x5 x6 x8 s) → X47 x3 x4 x5 x6 x8 s
theorem x4_favourable_i {Q : Int → Mem → Prop} {p3 : Int} {p4 : Int} {s : Mem} (h : x4_favourable_be (x4_favourable_L24 Q) (x4_favourable_L47 Q) Q p3 p4 s) : x4_favourable p3 p4 s Q := fun X24 X47 k24 k47 => x4_favourable_me (fun _ _ _ _ _ h => h X24 X47 k24 k47) (fun _ _ _ _ _ _ h => h X24 X47 k24 k47) (fun _ _ h => h) h
theorem x4_favourable_s24 {Q : Int → Mem → Prop} {x3 : Int} {x4 : Int} {x5 : Int} {x6 : Int} {s : Mem} (h : x4_favourable_b24 (x4_favourable_L24 Q) (x4_favourable_L47 Q) Q x3 x4 x5 x6 s) : x4_favourable_L24 Q x3 x4 x5 x6 s := fun X24 X47 k24 k47 => k24 _ _ _ _ _ (x4_favourable_m24 (fun _ _ _ _ _ h => h X24 X47 k24 k47) (fun _ _ _ _ _ _ h => h X24 X47 k24 k47) (fun _ _ h => h) h)
theorem x4_favourable_s47 {Q : Int → Mem → Prop} {x3 : Int} {x4 : Int} {x5 : Int} {x6 : Int} {x8 : Int} {s : Mem} (h : x4_favourable_b47 (x4_favourable_L24 Q) (x4_favourable_L47 Q) Q x3 x4 x5 x6 x8 s) : x4_favourable_L47 Q x3 x4 x5 x6 x8 s := fun X24 X47 k24 k47 => k47 _ _ _ _ _ _ (x4_favourable_m47 (fun _ _ _ _ _ h => h X24 X47 k24 k47) (fun _ _ _ _ _ _ h => h X24 X47 k24 k47) (fun _ _ h => h) h)
theorem x4_favourable_mono {Q R : Int → Mem → Prop} {p3 : Int} {p4 : Int} {s : Mem} (h : x4_favourable p3 p4 s Q) (hQ : ∀ r s, Q r s → R r s) : x4_favourable p3 p4 s R := fun X24 X47 k24 k47 => x4_favourable_me (fun _ _ _ _ _ h => h) (fun _ _ _ _ _ _ h => h) hQ (h X24 X47 (fun _ _ _ _ _ h => k24 _ _ _ _ _ (x4_favourable_m24 (fun _ _ _ _ _ h => h) (fun _ _ _ _ _ _ h => h) hQ h)) (fun _ _ _ _ _ _ h => k47 _ _ _ _ _ _ (x4_favourable_m47 (fun _ _ _ _ _ h => h) (fun _ _ _ _ _ _ h => h) hQ h)))
def x4_favourable_rm : Room := { frames := 4, cells := 0, slots := 0, locals := 132 }
theorem w_x4_favourable_28 : Cond.fieldLink RX4 28 "BoltRing$Joint" "turns" "[I" ∈ wsX4_favourable := by decide +kernel
theorem w_x4_favourable_15 : Cond.fieldLink RX4 15 "BoltRing$Misses" "meant" "[I" ∈ wsX4_favourable := by decide +kernel
theorem w_x4_favourable_l31 : Cond.methodLink RX4 31 arraycopyName ∈ wsX4_favourable := by decide +kernel
theorem w_x4_favourable_ac1 : Cond.native arraycopyName ∈ wsX4_favourable := by decide +kernel
theorem w_x4_favourable_ac2 : Cond.static arraycopyName ∈ wsX4_favourable := by decide +kernel
theorem w_x4_favourable_ac3 : Cond.initialized "java/lang/System" ∈ wsX4_favourable := by decide +kernel
theorem in_x4_favourable_X2 : ∀ w ∈ wsX20, w ∈ wsX4_favourable := by decide +kernel
theorem in_x4_favourable_X4 : ∀ w ∈ wsX40, w ∈ wsX4_favourable := by decide +kernel
set_option maxHeartbeats 4000000 in
set_option maxRecDepth 100000 in
theorem x4_favourable_bd {κ : KT} {ad : Nat → Nat} {cA : Nat → ClassId} {D : va_G} {Q : State → Prop} {p3 : Int} {p4 : Int} {s : Mem} (C : CX κ (GA ad cA D) RX4 cX4_favourable 11 wsX4_favourable x4_favourable_rm (some .long)) (h : x4_favourable p3 p4 s (RT κ (GA ad cA D) ocL Q)) : WM κ (GA ad cA D) 11 Q s 0 [(0, .ref (ad 31)), (1, .ref (ad 1)), (2, .ref (ad 7)), (3, vI p3), (4, vI p4)] [] := by
  obtain ⟨Z24, z24⟩ : ∃ Z : Int → Int → Int → Int → Mem → Prop, ∀ x3 x4 x5 x6 s, Z x3 x4 x5 x6 s ↔ WM κ (GA ad cA D) 11 Q s 24 [(0, .ref (ad 31)), (1, .ref (ad 1)), (2, .ref (ad 7)), (3, vI x3), (4, vI x4), (5, vI x5), (6, vI x6)] [] := ⟨fun x3 x4 x5 x6 s => WM κ (GA ad cA D) 11 Q s 24 [(0, .ref (ad 31)), (1, .ref (ad 1)), (2, .ref (ad 7)), (3, vI x3), (4, vI x4), (5, vI x5), (6, vI x6)] [], fun _ _ _ _ _ => Iff.rfl⟩
  obtain ⟨Z47, z47⟩ : ∃ Z : Int → Int → Int → Int → Int → Mem → Prop, ∀ x3 x4 x5 x6 x8 s, Z x3 x4 x5 x6 x8 s ↔ WM κ (GA ad cA D) 11 Q s 47 [(0, .ref (ad 31)), (1, .ref (ad 1)), (2, .ref (ad 7)), (3, vI x3), (4, vI x4), (5, vI x5), (6, vL x6), (8, vI x8)] [] := ⟨fun x3 x4 x5 x6 x8 s => WM κ (GA ad cA D) 11 Q s 47 [(0, .ref (ad 31)), (1, .ref (ad 1)), (2, .ref (ad 7)), (3, vI x3), (4, vI x4), (5, vI x5), (6, vL x6), (8, vI x8)] [], fun _ _ _ _ _ _ => Iff.rfl⟩
  refine (fun h => ?_) (h Z24 Z47 ?_ ?_)
  · refine r_aload_n C 1 dX4_favourable_0 rfl ?_
    refine r_get (j := 5) (jz := 5) (v := .ref (ad 4)) C dX4_favourable_1 (shA_1) rfl rfl (by decide) in_x4_favourable_X2 w_x4_favourable_28 rfl rfl rfl ?_
    refine r_iconst C dX4_favourable_4 ?_
    refine r_aload_n C 0 dX4_favourable_5 rfl ?_
    refine r_get (j := 1) (jz := 1) (v := .ref (ad 33)) C dX4_favourable_6 (shA_31) rfl rfl (by decide) in_x4_favourable_X4 w_x4_favourable_15 rfl rfl rfl ?_
    refine r_iconst C dX4_favourable_9 ?_
    refine r_bipush C dX4_favourable_10 (by decide) ?_
    refine r_copyi (n0z := 6) (n1z := 6) C dX4_favourable_12 w_x4_favourable_l31 w_x4_favourable_ac1 w_x4_favourable_ac2 w_x4_favourable_ac3 (shA_4) (shA_33) rfl rfl (by decide) (by decide) (by decide) (Nat.le_of_ble_eq_true rfl) ⟨h.1, fun s1 e_s1 => ?_⟩
    have h := h.2 s1 e_s1
    refine r_iconst C dX4_favourable_15 ?_
    refine r_istore (ls' := [(5, vI (1 : Int)), (0, .ref (ad 31)), (1, .ref (ad 1)), (2, .ref (ad 7)), (3, vI p3), (4, vI p4)]) C dX4_favourable_16 (by decide) rfl ?_
    refine r_aload_n C 2 dX4_favourable_18 rfl ?_
    refine r_callV (As := []) (o := 1) (n := 0) C dX4_favourable_19 (x2_wholeCount_ct κ.1.2.1 ad cA D s1) gX4_favourable_X2_wholeCount rfl ⟨rfl, rfl⟩ (by decide +kernel) (by decide) (shA_1) rfl rfl rfl (Nat.le_of_ble_eq_true rfl) (fun _ => rfl) ?_
    refine x2_wholeCount_mono h (fun r3 s2 h => ?_)
    refine r_istore (ls' := [(6, vI r3), (5, vI (1 : Int)), (0, .ref (ad 31)), (1, .ref (ad 1)), (2, .ref (ad 7)), (3, vI p3), (4, vI p4)]) C dX4_favourable_22 (by decide) rfl ?_
    exact r_perm [2, 3, 4, 5, 6, 1, 0] rfl ((z24 _ _ _ _ _).1 h)
  · intro x3 x4 x5 x6 s h
    refine (z24 _ _ _ _ _).2 ?_
    refine r_iload C 6 dX4_favourable_24 rfl ?_
    refine r_if_le (tgt := 41) C dX4_favourable_26 (by decide) ⟨h.1, fun c4 => ?_, fun c4 => ?_⟩
    · have h := h.2.1 c4
      refine r_lconst (z := 0) C dX4_favourable_41 rfl ?_
      refine r_lstore (ls' := [(6, vL (0 : Int)), (0, .ref (ad 31)), (1, .ref (ad 1)), (2, .ref (ad 7)), (3, vI x3), (4, vI x4), (5, vI x5)]) C dX4_favourable_42 (by decide) rfl ?_
      refine r_iconst C dX4_favourable_44 ?_
      refine r_istore (ls' := [(8, vI (0 : Int)), (6, vL (0 : Int)), (0, .ref (ad 31)), (1, .ref (ad 1)), (2, .ref (ad 7)), (3, vI x3), (4, vI x4), (5, vI x5)]) C dX4_favourable_45 (by decide) rfl ?_
      exact r_perm [2, 3, 4, 5, 6, 7, 1, 0] rfl ((z47 _ _ _ _ _ _).1 h)
    · have h := h.2.2 c4
      refine r_iload C 5 dX4_favourable_29 rfl ?_
      refine r_iconst C dX4_favourable_31 ?_
      refine r_imul C dX4_favourable_32 ?_
      refine r_istore (ls' := [(5, vI (x5 * (3 : Int))), (0, .ref (ad 31)), (1, .ref (ad 1)), (2, .ref (ad 7)), (3, vI x3), (4, vI x4), (6, vI x6)]) C dX4_favourable_33 (by decide) rfl ?_
      refine r_iinc (j := 6) (ls' := [(6, vI (x6 + (-1 : Int))), (5, vI (x5 * (3 : Int))), (0, .ref (ad 31)), (1, .ref (ad 1)), (2, .ref (ad 7)), (3, vI x3), (4, vI x4)]) C dX4_favourable_35 rfl (by decide) rfl ?_
      refine r_goto (tgt := 24) C dX4_favourable_38 (by decide) ?_
      exact r_perm [2, 3, 4, 5, 6, 1, 0] rfl ((z24 _ _ _ _ _).1 h)
  · intro x3 x4 x5 x6 x8 s h
    refine (z47 _ _ _ _ _ _).2 ?_
    refine r_iload C 7 dX4_favourable_47 rfl ?_
    refine r_iload C 5 dX4_favourable_49 rfl ?_
    refine r_icmp_ge (tgt := 94) C dX4_favourable_51 (by decide) ⟨h.1, fun c12 => ?_, fun c12 => ?_⟩
    · have h := h.2.1 c12
      refine r_aload_n C 0 dX4_favourable_94 rfl ?_
      refine r_get (j := 1) (jz := 1) (v := .ref (ad 33)) C dX4_favourable_95 (shA_31) rfl rfl (by decide) in_x4_favourable_X4 w_x4_favourable_15 rfl rfl rfl ?_
      refine r_iconst C dX4_favourable_98 ?_
      refine r_aload_n C 1 dX4_favourable_99 rfl ?_
      refine r_get (j := 5) (jz := 5) (v := .ref (ad 4)) C dX4_favourable_100 (shA_1) rfl rfl (by decide) in_x4_favourable_X2 w_x4_favourable_28 rfl rfl rfl ?_
      refine r_iconst C dX4_favourable_103 ?_
      refine r_bipush C dX4_favourable_104 (by decide) ?_
      refine r_copyi (n0z := 6) (n1z := 6) C dX4_favourable_106 w_x4_favourable_l31 w_x4_favourable_ac1 w_x4_favourable_ac2 w_x4_favourable_ac3 (shA_33) (shA_4) rfl rfl (by decide) (by decide) (by decide) (Nat.le_of_ble_eq_true rfl) ⟨h.1, fun s5 e_s5 => ?_⟩
      have h := h.2 s5 e_s5
      refine r_lload C 6 dX4_favourable_109 rfl ?_
      exact r_lreturn C dX4_favourable_111 h
    · have h := h.2.2 c12
      refine r_aload_n C 0 dX4_favourable_54 rfl ?_
      refine r_aload_n C 1 dX4_favourable_55 rfl ?_
      refine r_iload C 7 dX4_favourable_56 rfl ?_
      refine r_callV (As := [.ref (ad 1), vI x8]) (o := 31) (n := 2) C dX4_favourable_58 (x4_miss_ct κ.1.2.1 ad cA D x8 s) gX4_favourable_X4_miss rfl ⟨rfl, rfl⟩ (by decide +kernel) (by decide) (shA_31) rfl rfl rfl (Nat.le_of_ble_eq_true rfl) (fun _ => rfl) ?_
      refine x4_miss_mono h (fun r7 s6 h => ?_)
      refine r_lstore (ls' := [(9, vL r7), (0, .ref (ad 31)), (1, .ref (ad 1)), (2, .ref (ad 7)), (3, vI x3), (4, vI x4), (5, vI x5), (6, vL x6), (8, vI x8)]) C dX4_favourable_61 (by decide) rfl ?_
      refine r_lload C 0 dX4_favourable_63 rfl ?_
      refine r_lconst (z := 0) C dX4_favourable_65 rfl ?_
      refine r_lcmp_le (tgt := 88) C dX4_favourable_66 dX4_favourable_67 (by decide) ⟨h.1, fun c11 => ?_, fun c11 => ?_⟩
      · have h := h.2.1 c11
        refine r_iinc (j := 8) (ls' := [(8, vI (x8 + (1 : Int))), (9, vL r7), (0, .ref (ad 31)), (1, .ref (ad 1)), (2, .ref (ad 7)), (3, vI x3), (4, vI x4), (5, vI x5), (6, vL x6)]) C dX4_favourable_88 rfl (by decide) rfl ?_
        refine r_goto (tgt := 47) C dX4_favourable_91 (by decide) ?_
        exact r_perm [2, 3, 4, 5, 6, 7, 8, 0] rfl ((z47 _ _ _ _ _ _).1 h)
      · have h := h.2.2 c11
        refine r_aload_n C 2 dX4_favourable_70 rfl ?_
        refine r_aload_n C 3 dX4_favourable_71 rfl ?_
        refine r_iload_n C 4 dX4_favourable_72 rfl ?_
        refine r_iload C 5 dX4_favourable_73 rfl ?_
        refine r_callS (As := [.ref (ad 1), .ref (ad 7), vI x3, vI x4]) (n := 4) C dX4_favourable_75 (x4_allLie_ct κ.1.2.1 ad cA D x3 x4 s6) gX4_favourable_X4_allLie rfl ⟨rfl, rfl⟩ (by decide +kernel) (by decide) rfl rfl (Nat.le_of_ble_eq_true rfl) (fun _ => rfl) ?_
        refine x4_allLie_mono h (fun r9 s8 h => ?_)
        refine r_if_eq (tgt := 88) C dX4_favourable_78 (by decide) ⟨h.1, fun c10 => ?_, fun c10 => ?_⟩
        · have h := h.2.1 c10
          refine r_iinc (j := 8) (ls' := [(8, vI (x8 + (1 : Int))), (9, vL r7), (0, .ref (ad 31)), (1, .ref (ad 1)), (2, .ref (ad 7)), (3, vI x3), (4, vI x4), (5, vI x5), (6, vL x6)]) C dX4_favourable_88 rfl (by decide) rfl ?_
          refine r_goto (tgt := 47) C dX4_favourable_91 (by decide) ?_
          exact r_perm [2, 3, 4, 5, 6, 7, 8, 0] rfl ((z47 _ _ _ _ _ _).1 h)
        · have h := h.2.2 c10
          refine r_lload C 7 dX4_favourable_81 rfl ?_
          refine r_lload C 0 dX4_favourable_83 rfl ?_
          refine r_ladd C dX4_favourable_85 ?_
          refine r_lstore (ls' := [(6, vL (x6 + r7)), (9, vL r7), (0, .ref (ad 31)), (1, .ref (ad 1)), (2, .ref (ad 7)), (3, vI x3), (4, vI x4), (5, vI x5), (8, vI x8)]) C dX4_favourable_86 (by decide) rfl ?_
          refine r_iinc (j := 8) (ls' := [(8, vI (x8 + (1 : Int))), (6, vL (x6 + r7)), (9, vL r7), (0, .ref (ad 31)), (1, .ref (ad 1)), (2, .ref (ad 7)), (3, vI x3), (4, vI x4), (5, vI x5)]) C dX4_favourable_88 rfl (by decide) rfl ?_
          refine r_goto (tgt := 47) C dX4_favourable_91 (by decide) ?_
          exact r_perm [3, 4, 5, 6, 7, 8, 1, 0] rfl ((z47 _ _ _ _ _ _).1 h)
theorem x4_favourable_ct (l : Launch) (ad : Nat → Nat) (cA : Nat → ClassId) (D : va_G) (p3 : Int) (p4 : Int) (s : Mem) : MG l yX4_favourable wsX4_favourable x4_favourable_rm ocL [.ref (ad 31), .ref (ad 1), .ref (ad 7), vI p3, vI p4] (GA ad cA D) s (x4_favourable p3 p4 s) :=
  m_met (own := RX4) (nL := 11) (by decide) rfl rfl (Nat.le_of_ble_eq_true rfl) rfl rfl rfl (fun κ hl C Q Pst hW hQ => x4_favourable_bd C (x4_favourable_mono hW hQ))

def x4_all_be (X8 : Int → Int → Mem → Prop) (Q : Int → Mem → Prop)  (s : Mem) : Prop :=
  x2_wholeCount s (fun r2 s1 => X8 (1 : Int) r2 s1)
def x4_all_b8 (X8 : Int → Int → Mem → Prop) (Q : Int → Mem → Prop) (x2 : Int) (x4 : Int) (s : Mem) : Prop :=
  InI x4 ∧ (x4 ≤ (0 : Int) → Q x2 s) ∧ ((0 : Int) < x4 → ((0 : Int) ≤ (0 : Int) ∧ (0 : Int) < 3) ∧ ((0 : Int) ≤ (1 : Int) ∧ (1 : Int) < 3) ∧ ((0 : Int) ≤ (2 : Int) ∧ (2 : Int) < 3) ∧ (InI (((s 32 (0 : Int)) + (s 32 (1 : Int))) + (s 32 (2 : Int)))) ∧ ∀ v3 : Int, v3 = (x2 * (((s 32 (0 : Int)) + (s 32 (1 : Int))) + (s 32 (2 : Int)))) → X8 v3 (x4 + (-1 : Int)) s)
theorem x4_all_me {X8 Y8 : Int → Int → Mem → Prop} {Q R : Int → Mem → Prop} (hX8 : ∀ x2 x4 s, X8 x2 x4 s → Y8 x2 x4 s) (hQ : ∀ r s, Q r s → R r s)  {s : Mem} (h : x4_all_be X8 Q  s) : x4_all_be Y8 R  s :=
  x2_wholeCount_mono h (fun r2 s1 h => hX8 _ _ _ h)
theorem x4_all_m8 {X8 Y8 : Int → Int → Mem → Prop} {Q R : Int → Mem → Prop} (hX8 : ∀ x2 x4 s, X8 x2 x4 s → Y8 x2 x4 s) (hQ : ∀ r s, Q r s → R r s) {x2 : Int} {x4 : Int} {s : Mem} (h : x4_all_b8 X8 Q x2 x4 s) : x4_all_b8 Y8 R x2 x4 s :=
  ⟨h.1, fun c => have h := h.2.1 c; hQ _ _ h, fun c => have h := h.2.2 c; ⟨h.1, have h := h.2; ⟨h.1, have h := h.2; ⟨h.1, have h := h.2; ⟨h.1, have h := h.2; fun v3 e_v3 => have h := h v3 e_v3; hX8 _ _ _ h⟩⟩⟩⟩⟩
def x4_all  (s : Mem) (Q : Int → Mem → Prop) : Prop := ∀ (X8 : Int → Int → Mem → Prop), (∀ x2 x4 s, x4_all_b8 X8 Q x2 x4 s → X8 x2 x4 s) → x4_all_be X8 Q  s
def x4_all_L8 (Q : Int → Mem → Prop) (x2 : Int) (x4 : Int) (s : Mem) : Prop := ∀ (X8 : Int → Int → Mem → Prop), (∀ x2 x4 s, x4_all_b8 X8 Q x2 x4 s → X8 x2 x4 s) → X8 x2 x4 s
theorem x4_all_i {Q : Int → Mem → Prop}  {s : Mem} (h : x4_all_be (x4_all_L8 Q) Q  s) : x4_all  s Q := fun X8 k8 => x4_all_me (fun _ _ _ h => h X8 k8) (fun _ _ h => h) h
theorem x4_all_s8 {Q : Int → Mem → Prop} {x2 : Int} {x4 : Int} {s : Mem} (h : x4_all_b8 (x4_all_L8 Q) Q x2 x4 s) : x4_all_L8 Q x2 x4 s := fun X8 k8 => k8 _ _ _ (x4_all_m8 (fun _ _ _ h => h X8 k8) (fun _ _ h => h) h)
theorem x4_all_mono {Q R : Int → Mem → Prop}  {s : Mem} (h : x4_all  s Q) (hQ : ∀ r s, Q r s → R r s) : x4_all  s R := fun X8 k8 => x4_all_me (fun _ _ _ h => h) hQ (h X8 (fun _ _ _ h => k8 _ _ _ (x4_all_m8 (fun _ _ _ h => h) hQ h)))
def x4_all_rm : Room := { frames := 2, cells := 0, slots := 0, locals := 40 }
theorem w_x4_all_9 : Cond.fieldLink RX4 9 "BoltRing$Misses" "weights" "[I" ∈ wsX4_all := by decide +kernel
theorem in_x4_all_X4 : ∀ w ∈ wsX40, w ∈ wsX4_all := by decide +kernel
set_option maxHeartbeats 4000000 in
set_option maxRecDepth 100000 in
theorem x4_all_bd {κ : KT} {ad : Nat → Nat} {cA : Nat → ClassId} {D : va_G} {Q : State → Prop}  {s : Mem} (C : CX κ (GA ad cA D) RX4 cX4_all 5 wsX4_all x4_all_rm (some .long)) (h : x4_all  s (RT κ (GA ad cA D) ocL Q)) : WM κ (GA ad cA D) 5 Q s 0 [(0, .ref (ad 31)), (1, .ref (ad 1))] [] := by
  obtain ⟨Z8, z8⟩ : ∃ Z : Int → Int → Mem → Prop, ∀ x2 x4 s, Z x2 x4 s ↔ WM κ (GA ad cA D) 5 Q s 8 [(0, .ref (ad 31)), (2, vL x2), (4, vI x4)] [] := ⟨fun x2 x4 s => WM κ (GA ad cA D) 5 Q s 8 [(0, .ref (ad 31)), (2, vL x2), (4, vI x4)] [], fun _ _ _ => Iff.rfl⟩
  refine (fun h => ?_) (h Z8 ?_)
  · refine r_lconst (z := 1) C dX4_all_0 rfl ?_
    refine r_lstore_n (ls' := [(2, vL (1 : Int)), (0, .ref (ad 31)), (1, .ref (ad 1))]) C dX4_all_1 rfl (by decide) rfl ?_
    refine r_aload_n C 2 dX4_all_2 rfl ?_
    refine r_callV (As := []) (o := 1) (n := 0) C dX4_all_3 (x2_wholeCount_ct κ.1.2.1 ad cA D s) gX4_all_X2_wholeCount rfl ⟨rfl, rfl⟩ (by decide +kernel) (by decide) (shA_1) rfl rfl rfl (Nat.le_of_ble_eq_true rfl) (fun _ => rfl) ?_
    refine x2_wholeCount_mono h (fun r2 s1 h => ?_)
    refine r_istore (ls' := [(4, vI r2), (2, vL (1 : Int)), (0, .ref (ad 31)), (1, .ref (ad 1))]) C dX4_all_6 (by decide) rfl ?_
    exact r_perm [2, 1, 0] rfl ((z8 _ _ _).1 h)
  · intro x2 x4 s h
    refine (z8 _ _ _).2 ?_
    refine r_iload C 2 dX4_all_8 rfl ?_
    refine r_if_le (tgt := 43) C dX4_all_10 (by decide) ⟨h.1, fun c4 => ?_, fun c4 => ?_⟩
    · have h := h.2.1 c4
      refine r_lload_n C 1 dX4_all_43 rfl ?_
      exact r_lreturn C dX4_all_44 h
    · have h := h.2.2 c4
      refine r_lload_n C 1 dX4_all_13 rfl ?_
      refine r_aload_n C 0 dX4_all_14 rfl ?_
      refine r_get (j := 0) (jz := 0) (v := .ref (ad 32)) C dX4_all_15 (shA_31) rfl rfl (by decide) in_x4_all_X4 w_x4_all_9 rfl rfl rfl ?_
      refine r_iconst C dX4_all_18 ?_
      refine r_iald (nz := 3) C dX4_all_19 (shA_32) rfl (by decide) ⟨h.1, ?_⟩
      have h := h.2
      refine r_aload_n C 0 dX4_all_20 rfl ?_
      refine r_get (j := 0) (jz := 0) (v := .ref (ad 32)) C dX4_all_21 (shA_31) rfl rfl (by decide) in_x4_all_X4 w_x4_all_9 rfl rfl rfl ?_
      refine r_iconst C dX4_all_24 ?_
      refine r_iald (nz := 3) C dX4_all_25 (shA_32) rfl (by decide) ⟨h.1, ?_⟩
      have h := h.2
      refine r_iadd C dX4_all_26 ?_
      refine r_aload_n C 0 dX4_all_27 rfl ?_
      refine r_get (j := 0) (jz := 0) (v := .ref (ad 32)) C dX4_all_28 (shA_31) rfl rfl (by decide) in_x4_all_X4 w_x4_all_9 rfl rfl rfl ?_
      refine r_iconst C dX4_all_31 ?_
      refine r_iald (nz := 3) C dX4_all_32 (shA_32) rfl (by decide) ⟨h.1, ?_⟩
      have h := h.2
      refine r_iadd C dX4_all_33 ?_
      refine r_i2l C dX4_all_34 ⟨h.1, ?_⟩
      have h := h.2
      refine r_lmul C dX4_all_35 ?_
      refine r_topL (fun v3 e_v3 => ?_)
      have h := h v3 e_v3
      refine r_lstore_n (ls' := [(2, vL v3), (0, .ref (ad 31)), (4, vI x4)]) C dX4_all_36 rfl (by decide) rfl ?_
      refine r_iinc (j := 2) (ls' := [(4, vI (x4 + (-1 : Int))), (2, vL v3), (0, .ref (ad 31))]) C dX4_all_37 rfl (by decide) rfl ?_
      refine r_goto (tgt := 8) C dX4_all_40 (by decide) ?_
      exact r_perm [2, 1, 0] rfl ((z8 _ _ _).1 h)
theorem x4_all_ct (l : Launch) (ad : Nat → Nat) (cA : Nat → ClassId) (D : va_G)  (s : Mem) : MG l yX4_all wsX4_all x4_all_rm ocL [.ref (ad 31), .ref (ad 1)] (GA ad cA D) s (x4_all  s) :=
  m_met (own := RX4) (nL := 5) (by decide) rfl rfl (Nat.le_of_ble_eq_true rfl) rfl rfl rfl (fun κ hl C Q Pst hW hQ => x4_all_bd C (x4_all_mono hW hQ))

def x6_take (p1 : Int) (p2 : Int) (p3 : Int) (s : Mem) (Q : Int → Mem → Prop) : Prop :=
  ∀ s1 : Mem, s1 = m_upd s 34 (0 : Int) (orI (s 34 (0 : Int)) (shlI (1 : Int) p1)) → ((0 : Int) ≤ p1 ∧ p1 < 6) ∧ ∀ s2 : Mem, s2 = m_upd s1 35 p1 p2 → ((0 : Int) ≤ p1 ∧ p1 < 6) ∧ ∀ s3 : Mem, s3 = m_upd s2 36 p1 p3 → Q (0 : Int) s3
theorem x6_take_mono {Q R : Int → Mem → Prop} {p1 : Int} {p2 : Int} {p3 : Int} {s : Mem} (h : x6_take p1 p2 p3 s Q) (hQ : ∀ r s, Q r s → R r s) : x6_take p1 p2 p3 s R :=
  fun s1 e_s1 => have h := h s1 e_s1; ⟨h.1, have h := h.2; fun s2 e_s2 => have h := h s2 e_s2; ⟨h.1, have h := h.2; fun s3 e_s3 => have h := h s3 e_s3; hQ _ _ h⟩⟩
def x6_take_rm : Room := { frames := 0, cells := 0, slots := 0, locals := 0 }
theorem w_x6_take_18 : Cond.fieldLink RX6 18 "BoltRing$Readings" "told" "I" ∈ wsX6_take := by decide +kernel
theorem w_x6_take_9 : Cond.fieldLink RX6 9 "BoltRing$Readings" "lows" "[I" ∈ wsX6_take := by decide +kernel
theorem w_x6_take_15 : Cond.fieldLink RX6 15 "BoltRing$Readings" "highs" "[I" ∈ wsX6_take := by decide +kernel
theorem in_x6_take_X6 : ∀ w ∈ wsX60, w ∈ wsX6_take := by decide +kernel
set_option maxHeartbeats 4000000 in
set_option maxRecDepth 100000 in
theorem x6_take_bd {κ : KT} {ad : Nat → Nat} {cA : Nat → ClassId} {D : va_G} {Q : State → Prop} {p1 : Int} {p2 : Int} {p3 : Int} {s : Mem} (C : CX κ (GA ad cA D) RX6 cX6_take 4 wsX6_take x6_take_rm none) (h : x6_take p1 p2 p3 s (RT κ (GA ad cA D) ocV Q)) : WM κ (GA ad cA D) 4 Q s 0 [(0, .ref (ad 34)), (1, vI p1), (2, vI p2), (3, vI p3)] [] := by
  refine r_aload_n C 0 dX6_take_0 rfl ?_
  refine r_dup C dX6_take_1 rfl ?_
  refine r_get (j := 0) (jz := 0) (v := vI (s 34 (0 : Int))) C dX6_take_2 (shA_34) rfl rfl (by decide) in_x6_take_X6 w_x6_take_18 rfl rfl rfl ?_
  refine r_iconst C dX6_take_5 ?_
  refine r_iload_n C 1 dX6_take_6 rfl ?_
  refine r_ishl C dX6_take_7 ?_
  refine r_ior C dX6_take_8 ?_
  refine r_puti (j := 0) (jz := 0) C dX6_take_9 (shA_34) rfl rfl (by decide) in_x6_take_X6 tyX6 tyX6_ok nmX6 w_x6_take_18 rfl rfl (by decide +kernel) rfl (fun s1 e_s1 => ?_)
  have h := h s1 e_s1
  refine r_aload_n C 0 dX6_take_12 rfl ?_
  refine r_get (j := 1) (jz := 1) (v := .ref (ad 35)) C dX6_take_13 (shA_34) rfl rfl (by decide) in_x6_take_X6 w_x6_take_9 rfl rfl rfl ?_
  refine r_iload_n C 1 dX6_take_16 rfl ?_
  refine r_iload_n C 2 dX6_take_17 rfl ?_
  refine r_iast (nz := 6) C dX6_take_18 (shA_35) rfl (by decide) ⟨h.1, fun s2 e_s2 => ?_⟩
  have h := h.2 s2 e_s2
  refine r_aload_n C 0 dX6_take_19 rfl ?_
  refine r_get (j := 2) (jz := 2) (v := .ref (ad 36)) C dX6_take_20 (shA_34) rfl rfl (by decide) in_x6_take_X6 w_x6_take_15 rfl rfl rfl ?_
  refine r_iload_n C 1 dX6_take_23 rfl ?_
  refine r_iload_n C 3 dX6_take_24 rfl ?_
  refine r_iast (nz := 6) C dX6_take_25 (shA_36) rfl (by decide) ⟨h.1, fun s3 e_s3 => ?_⟩
  have h := h.2 s3 e_s3
  exact r_return C dX6_take_26 h
theorem x6_take_ct (l : Launch) (ad : Nat → Nat) (cA : Nat → ClassId) (D : va_G) (p1 : Int) (p2 : Int) (p3 : Int) (s : Mem) : MG l yX6_take wsX6_take x6_take_rm ocV [.ref (ad 34), vI p1, vI p2, vI p3] (GA ad cA D) s (x6_take p1 p2 p3 s) :=
  m_met (own := RX6) (nL := 4) (by decide) rfl rfl (Nat.le_of_ble_eq_true rfl) rfl rfl rfl (fun κ hl C Q Pst hW hQ => x6_take_bd C (x6_take_mono hW hQ))

def x6_agree_be (X11 : Int → Mem → Prop) (Q : Int → Mem → Prop)  (s : Mem) : Prop :=
  x3_settle 7 5 s (fun _ s1 => X11 (0 : Int) s1)
def x6_agree_b11 (X11 : Int → Mem → Prop) (Q : Int → Mem → Prop) (x3 : Int) (s : Mem) : Prop :=
  (InI x3 ∧ InI (s 1 (0 : Int))) ∧ ((s 1 (0 : Int)) ≤ x3 → ((0 : Int) ≤ (1 : Int) ∧ (1 : Int) ≤ 1) ∧ Q (1 : Int) s) ∧ (x3 < (s 1 (0 : Int)) → InI (andI (shrI (s 34 (0 : Int)) x3) (1 : Int)) ∧ ((andI (shrI (s 34 (0 : Int)) x3) (1 : Int)) = (0 : Int) → X11 (x3 + (1 : Int)) s) ∧ (¬ (andI (shrI (s 34 (0 : Int)) x3) (1 : Int)) = (0 : Int) → ((0 : Int) ≤ x3 ∧ x3 < 6) ∧ ((0 : Int) ≤ x3 ∧ x3 < 6) ∧ x3_pullLies 7 x3 (s 35 x3) (s 36 x3) s (fun r3 s2 => InI r3 ∧ (¬ r3 = (0 : Int) → X11 (x3 + (1 : Int)) s2) ∧ (r3 = (0 : Int) → ((0 : Int) ≤ (0 : Int) ∧ (0 : Int) ≤ 1) ∧ Q (0 : Int) s2))))
theorem x6_agree_me {X11 Y11 : Int → Mem → Prop} {Q R : Int → Mem → Prop} (hX11 : ∀ x3 s, X11 x3 s → Y11 x3 s) (hQ : ∀ r s, Q r s → R r s)  {s : Mem} (h : x6_agree_be X11 Q  s) : x6_agree_be Y11 R  s :=
  x3_settle_mono h (fun _ s1 h => hX11 _ _ h)
theorem x6_agree_m11 {X11 Y11 : Int → Mem → Prop} {Q R : Int → Mem → Prop} (hX11 : ∀ x3 s, X11 x3 s → Y11 x3 s) (hQ : ∀ r s, Q r s → R r s) {x3 : Int} {s : Mem} (h : x6_agree_b11 X11 Q x3 s) : x6_agree_b11 Y11 R x3 s :=
  ⟨h.1, fun c => have h := h.2.1 c; ⟨h.1, hQ _ _ h.2⟩, fun c => have h := h.2.2 c; ⟨h.1, fun c => have h := h.2.1 c; hX11 _ _ h, fun c => have h := h.2.2 c; ⟨h.1, have h := h.2; ⟨h.1, have h := h.2; x3_pullLies_mono h (fun r3 s2 h => ⟨h.1, fun c => have h := h.2.1 c; hX11 _ _ h, fun c => have h := h.2.2 c; ⟨h.1, hQ _ _ h.2⟩⟩)⟩⟩⟩⟩
def x6_agree  (s : Mem) (Q : Int → Mem → Prop) : Prop := ∀ (X11 : Int → Mem → Prop), (∀ x3 s, x6_agree_b11 X11 Q x3 s → X11 x3 s) → x6_agree_be X11 Q  s
def x6_agree_L11 (Q : Int → Mem → Prop) (x3 : Int) (s : Mem) : Prop := ∀ (X11 : Int → Mem → Prop), (∀ x3 s, x6_agree_b11 X11 Q x3 s → X11 x3 s) → X11 x3 s
theorem x6_agree_i {Q : Int → Mem → Prop}  {s : Mem} (h : x6_agree_be (x6_agree_L11 Q) Q  s) : x6_agree  s Q := fun X11 k11 => x6_agree_me (fun _ _ h => h X11 k11) (fun _ _ h => h) h
theorem x6_agree_s11 {Q : Int → Mem → Prop} {x3 : Int} {s : Mem} (h : x6_agree_b11 (x6_agree_L11 Q) Q x3 s) : x6_agree_L11 Q x3 s := fun X11 k11 => k11 _ _ (x6_agree_m11 (fun _ _ h => h X11 k11) (fun _ _ h => h) h)
theorem x6_agree_mono {Q R : Int → Mem → Prop}  {s : Mem} (h : x6_agree  s Q) (hQ : ∀ r s, Q r s → R r s) : x6_agree  s R := fun X11 k11 => x6_agree_me (fun _ _ h => h) hQ (h X11 (fun _ _ h => k11 _ _ (x6_agree_m11 (fun _ _ h => h) hQ h)))
def x6_agree_rm : Room := { frames := 3, cells := 0, slots := 0, locals := 108 }
theorem w_x6_agree_22 : Cond.fieldLink RX6 22 "BoltRing$Joint" "loads" "[I" ∈ wsX6_agree := by decide +kernel
theorem w_x6_agree_33 : Cond.fieldLink RX6 33 "BoltRing$Joint" "bolts" "I" ∈ wsX6_agree := by decide +kernel
theorem w_x6_agree_18 : Cond.fieldLink RX6 18 "BoltRing$Readings" "told" "I" ∈ wsX6_agree := by decide +kernel
theorem w_x6_agree_9 : Cond.fieldLink RX6 9 "BoltRing$Readings" "lows" "[I" ∈ wsX6_agree := by decide +kernel
theorem w_x6_agree_15 : Cond.fieldLink RX6 15 "BoltRing$Readings" "highs" "[I" ∈ wsX6_agree := by decide +kernel
theorem in_x6_agree_X2 : ∀ w ∈ wsX20, w ∈ wsX6_agree := by decide +kernel
theorem in_x6_agree_X6 : ∀ w ∈ wsX60, w ∈ wsX6_agree := by decide +kernel
set_option maxHeartbeats 4000000 in
set_option maxRecDepth 100000 in
theorem x6_agree_bd {κ : KT} {ad : Nat → Nat} {cA : Nat → ClassId} {D : va_G} {Q : State → Prop}  {s : Mem} (C : CX κ (GA ad cA D) RX6 cX6_agree 4 wsX6_agree x6_agree_rm (some .boolean)) (h : x6_agree  s (RT κ (GA ad cA D) ocI Q)) : WM κ (GA ad cA D) 4 Q s 0 [(0, .ref (ad 34)), (1, .ref (ad 1)), (2, .ref (ad 7))] [] := by
  obtain ⟨Z11, z11⟩ : ∃ Z : Int → Mem → Prop, ∀ x3 s, Z x3 s ↔ WM κ (GA ad cA D) 4 Q s 11 [(0, .ref (ad 34)), (1, .ref (ad 1)), (2, .ref (ad 7)), (3, vI x3)] [] := ⟨fun x3 s => WM κ (GA ad cA D) 4 Q s 11 [(0, .ref (ad 34)), (1, .ref (ad 1)), (2, .ref (ad 7)), (3, vI x3)] [], fun _ _ => Iff.rfl⟩
  refine (fun h => ?_) (h Z11 ?_)
  · refine r_aload_n C 2 dX6_agree_0 rfl ?_
    refine r_aload_n C 1 dX6_agree_1 rfl ?_
    refine r_aload_n C 1 dX6_agree_2 rfl ?_
    refine r_get (j := 6) (jz := 6) (v := .ref (ad 5)) C dX6_agree_3 (shA_1) rfl rfl (by decide) in_x6_agree_X2 w_x6_agree_22 rfl rfl rfl ?_
    refine r_callV (As := [.ref (ad 1), .ref (ad 5)]) (o := 7) (n := 2) C dX6_agree_6 (x3_settle_ct κ.1.2.1 ad cA D 7 5 s (Or.inl rfl)) gX6_agree_X3_settle rfl ⟨rfl, rfl⟩ (by decide +kernel) (by decide) (shA_7) rfl rfl rfl (Nat.le_of_ble_eq_true rfl) (fun _ => rfl) ?_
    refine x3_settle_mono h (fun _ s1 h => ?_)
    refine r_iconst C dX6_agree_9 ?_
    refine r_istore_n (ls' := [(3, vI (0 : Int)), (0, .ref (ad 34)), (1, .ref (ad 1)), (2, .ref (ad 7))]) C dX6_agree_10 rfl (by decide) rfl ?_
    exact r_perm [1, 2, 3, 0] rfl ((z11 _ _).1 h)
  · intro x3 s h
    refine (z11 _ _).2 ?_
    refine r_iload_n C 3 dX6_agree_11 rfl ?_
    refine r_aload_n C 1 dX6_agree_12 rfl ?_
    refine r_get (j := 0) (jz := 0) (v := vI (s 1 (0 : Int))) C dX6_agree_13 (shA_1) rfl rfl (by decide) in_x6_agree_X2 w_x6_agree_33 rfl rfl rfl ?_
    refine r_icmp_ge (tgt := 59) C dX6_agree_16 (by decide) ⟨h.1, fun c6 => ?_, fun c6 => ?_⟩
    · have h := h.2.1 c6
      refine r_iconst C dX6_agree_59 ?_
      exact r_zreturn C dX6_agree_60 h
    · have h := h.2.2 c6
      refine r_aload_n C 0 dX6_agree_19 rfl ?_
      refine r_get (j := 0) (jz := 0) (v := vI (s 34 (0 : Int))) C dX6_agree_20 (shA_34) rfl rfl (by decide) in_x6_agree_X6 w_x6_agree_18 rfl rfl rfl ?_
      refine r_iload_n C 3 dX6_agree_23 rfl ?_
      refine r_ishr C dX6_agree_24 ?_
      refine r_iconst C dX6_agree_25 ?_
      refine r_iand C dX6_agree_26 ?_
      refine r_if_eq (tgt := 53) C dX6_agree_27 (by decide) ⟨h.1, fun c5 => ?_, fun c5 => ?_⟩
      · have h := h.2.1 c5
        refine r_iinc (j := 3) (ls' := [(3, vI (x3 + (1 : Int))), (0, .ref (ad 34)), (1, .ref (ad 1)), (2, .ref (ad 7))]) C dX6_agree_53 rfl (by decide) rfl ?_
        refine r_goto (tgt := 11) C dX6_agree_56 (by decide) ?_
        exact r_perm [1, 2, 3, 0] rfl ((z11 _ _).1 h)
      · have h := h.2.2 c5
        refine r_aload_n C 2 dX6_agree_30 rfl ?_
        refine r_aload_n C 1 dX6_agree_31 rfl ?_
        refine r_iload_n C 3 dX6_agree_32 rfl ?_
        refine r_aload_n C 0 dX6_agree_33 rfl ?_
        refine r_get (j := 1) (jz := 1) (v := .ref (ad 35)) C dX6_agree_34 (shA_34) rfl rfl (by decide) in_x6_agree_X6 w_x6_agree_9 rfl rfl rfl ?_
        refine r_iload_n C 3 dX6_agree_37 rfl ?_
        refine r_iald (nz := 6) C dX6_agree_38 (shA_35) rfl (by decide) ⟨h.1, ?_⟩
        have h := h.2
        refine r_aload_n C 0 dX6_agree_39 rfl ?_
        refine r_get (j := 2) (jz := 2) (v := .ref (ad 36)) C dX6_agree_40 (shA_34) rfl rfl (by decide) in_x6_agree_X6 w_x6_agree_15 rfl rfl rfl ?_
        refine r_iload_n C 3 dX6_agree_43 rfl ?_
        refine r_iald (nz := 6) C dX6_agree_44 (shA_36) rfl (by decide) ⟨h.1, ?_⟩
        have h := h.2
        refine r_callV (As := [.ref (ad 1), vI x3, vI (s 35 x3), vI (s 36 x3)]) (o := 7) (n := 4) C dX6_agree_45 (x3_pullLies_ct κ.1.2.1 ad cA D 7 x3 (s 35 x3) (s 36 x3) s (Or.inl rfl)) gX6_agree_X3_pullLies rfl ⟨rfl, rfl⟩ (by decide +kernel) (by decide) (shA_7) rfl rfl rfl (Nat.le_of_ble_eq_true rfl) (fun _ => rfl) ?_
        refine x3_pullLies_mono h (fun r3 s2 h => ?_)
        refine r_if_ne (tgt := 53) C dX6_agree_48 (by decide) ⟨h.1, fun c4 => ?_, fun c4 => ?_⟩
        · have h := h.2.1 c4
          refine r_iinc (j := 3) (ls' := [(3, vI (x3 + (1 : Int))), (0, .ref (ad 34)), (1, .ref (ad 1)), (2, .ref (ad 7))]) C dX6_agree_53 rfl (by decide) rfl ?_
          refine r_goto (tgt := 11) C dX6_agree_56 (by decide) ?_
          exact r_perm [1, 2, 3, 0] rfl ((z11 _ _).1 h)
        · have h := h.2.2 c4
          refine r_iconst C dX6_agree_51 ?_
          exact r_zreturn C dX6_agree_52 h
theorem x6_agree_ct (l : Launch) (ad : Nat → Nat) (cA : Nat → ClassId) (D : va_G)  (s : Mem) : MG l yX6_agree wsX6_agree x6_agree_rm ocI [.ref (ad 34), .ref (ad 1), .ref (ad 7)] (GA ad cA D) s (x6_agree  s) :=
  m_met (own := RX6) (nL := 4) (by decide) rfl rfl (Nat.le_of_ble_eq_true rfl) rfl rfl rfl (fun κ hl C Q Pst hW hQ => x6_agree_bd C (x6_agree_mono hW hQ))

def x6_explains (p3 : Int) (p4 : Int) (s : Mem) (Q : Int → Mem → Prop) : Prop :=
  ((0 : Int) ≤ p3 ∧ p3 < 6) ∧ InI p4 ∧ (p4 = (0 : Int) → ((0 : Int) ≤ (0 : Int) ∧ (0 : Int) ≤ 1) ∧ Q (0 : Int) s) ∧ (¬ p4 = (0 : Int) → x2_isBroken p3 s (fun r2 s1 => InI r2 ∧ (¬ r2 = (0 : Int) → ((0 : Int) ≤ (0 : Int) ∧ (0 : Int) ≤ 1) ∧ Q (0 : Int) s1) ∧ (r2 = (0 : Int) → x7_within ((s 4 p3) + p4) (0 : Int) (200 : Int) s1 (fun r4 s3 => InI r4 ∧ (¬ r4 = (0 : Int) → ((0 : Int) ≤ p3 ∧ p3 < 6) ∧ ∀ s5 : Mem, s5 = m_upd s3 4 p3 ((s 4 p3) + p4) → x6_agree s5 (fun r7 s6 => ((0 : Int) ≤ p3 ∧ p3 < 6) ∧ ∀ s8 : Mem, s8 = m_upd s6 4 p3 (s 4 p3) → ((0 : Int) ≤ r7 ∧ r7 ≤ 1) ∧ Q r7 s8)) ∧ (r4 = (0 : Int) → ((0 : Int) ≤ (0 : Int) ∧ (0 : Int) ≤ 1) ∧ Q (0 : Int) s3)))))
theorem x6_explains_mono {Q R : Int → Mem → Prop} {p3 : Int} {p4 : Int} {s : Mem} (h : x6_explains p3 p4 s Q) (hQ : ∀ r s, Q r s → R r s) : x6_explains p3 p4 s R :=
  ⟨h.1, have h := h.2; ⟨h.1, fun c => have h := h.2.1 c; ⟨h.1, hQ _ _ h.2⟩, fun c => have h := h.2.2 c; x2_isBroken_mono h (fun r2 s1 h => ⟨h.1, fun c => have h := h.2.1 c; ⟨h.1, hQ _ _ h.2⟩, fun c => have h := h.2.2 c; x7_within_mono h (fun r4 s3 h => ⟨h.1, fun c => have h := h.2.1 c; ⟨h.1, have h := h.2; fun s5 e_s5 => have h := h s5 e_s5; x6_agree_mono h (fun r7 s6 h => ⟨h.1, have h := h.2; fun s8 e_s8 => have h := h s8 e_s8; ⟨h.1, hQ _ _ h.2⟩⟩)⟩, fun c => have h := h.2.2 c; ⟨h.1, hQ _ _ h.2⟩⟩)⟩)⟩⟩
def x6_explains_rm : Room := { frames := 4, cells := 0, slots := 0, locals := 131 }
theorem w_x6_explains_44 : Cond.fieldLink RX6 44 "BoltRing$Joint" "turns" "[I" ∈ wsX6_explains := by decide +kernel
theorem w_x6_explains_s51 : Cond.static yX7_within ∈ wsX6_explains := by decide +kernel
theorem w_x6_explains_iX7 : Cond.initialized RX7 ∈ wsX6_explains := by decide +kernel
theorem in_x6_explains_X2 : ∀ w ∈ wsX20, w ∈ wsX6_explains := by decide +kernel
set_option maxHeartbeats 4000000 in
set_option maxRecDepth 100000 in
theorem x6_explains_bd {κ : KT} {ad : Nat → Nat} {cA : Nat → ClassId} {D : va_G} {Q : State → Prop} {p3 : Int} {p4 : Int} {s : Mem} (C : CX κ (GA ad cA D) RX6 cX6_explains 7 wsX6_explains x6_explains_rm (some .boolean)) (h : x6_explains p3 p4 s (RT κ (GA ad cA D) ocI Q)) : WM κ (GA ad cA D) 7 Q s 0 [(0, .ref (ad 34)), (1, .ref (ad 1)), (2, .ref (ad 7)), (3, vI p3), (4, vI p4)] [] := by
  refine r_aload_n C 1 dX6_explains_0 rfl ?_
  refine r_get (j := 5) (jz := 5) (v := .ref (ad 4)) C dX6_explains_1 (shA_1) rfl rfl (by decide) in_x6_explains_X2 w_x6_explains_44 rfl rfl rfl ?_
  refine r_iload_n C 3 dX6_explains_4 rfl ?_
  refine r_iald (nz := 6) C dX6_explains_5 (shA_4) rfl (by decide) ⟨h.1, ?_⟩
  have h := h.2
  refine r_istore (ls' := [(5, vI (s 4 p3)), (0, .ref (ad 34)), (1, .ref (ad 1)), (2, .ref (ad 7)), (3, vI p3), (4, vI p4)]) C dX6_explains_6 (by decide) rfl ?_
  refine r_iload C 5 dX6_explains_8 rfl ?_
  refine r_if_eq (tgt := 36) C dX6_explains_10 (by decide) ⟨h.1, fun c11 => ?_, fun c11 => ?_⟩
  · have h := h.2.1 c11
    refine r_iconst C dX6_explains_36 ?_
    exact r_zreturn C dX6_explains_37 h
  · have h := h.2.2 c11
    refine r_aload_n C 2 dX6_explains_13 rfl ?_
    refine r_iload_n C 4 dX6_explains_14 rfl ?_
    refine r_callV (As := [vI p3]) (o := 1) (n := 1) C dX6_explains_15 (x2_isBroken_ct κ.1.2.1 ad cA D p3 s) gX6_explains_X2_isBroken rfl ⟨rfl, rfl⟩ (by decide +kernel) (by decide) (shA_1) rfl rfl rfl (Nat.le_of_ble_eq_true rfl) (fun _ => rfl) ?_
    refine x2_isBroken_mono h (fun r2 s1 h => ?_)
    refine r_if_ne (tgt := 36) C dX6_explains_18 (by decide) ⟨h.1, fun c10 => ?_, fun c10 => ?_⟩
    · have h := h.2.1 c10
      refine r_iconst C dX6_explains_36 ?_
      exact r_zreturn C dX6_explains_37 h
    · have h := h.2.2 c10
      refine r_iload C 0 dX6_explains_21 rfl ?_
      refine r_iload C 5 dX6_explains_23 rfl ?_
      refine r_iadd C dX6_explains_25 ?_
      refine r_iconst C dX6_explains_26 ?_
      refine r_sipush C dX6_explains_27 (by decide) ?_
      refine r_callSN (As := [vI ((s 4 p3) + p4), vI (0 : Int), vI (200 : Int)]) (n := 3) C dX6_explains_30 (x7_within_ct κ.1.2.1 ad cA D ((s 4 p3) + p4) (0 : Int) (200 : Int) s1) C.e.1.2.2.2.2 w_x6_explains_s51 w_x6_explains_iX7 gX6_explains_X7_within_n51 rfl ⟨rfl, rfl⟩ (by decide +kernel) (by decide) rfl rfl (Nat.le_of_ble_eq_true rfl) (fun _ => rfl) ?_
      refine x7_within_mono h (fun r4 s3 h => ?_)
      refine r_if_ne (tgt := 38) C dX6_explains_33 (by decide) ⟨h.1, fun c9 => ?_, fun c9 => ?_⟩
      · have h := h.2.1 c9
        refine r_aload_n C 2 dX6_explains_38 rfl ?_
        refine r_get (j := 5) (jz := 5) (v := .ref (ad 4)) C dX6_explains_39 (shA_1) rfl rfl (by decide) in_x6_explains_X2 w_x6_explains_44 rfl rfl rfl ?_
        refine r_iload_n C 4 dX6_explains_42 rfl ?_
        refine r_iload C 0 dX6_explains_43 rfl ?_
        refine r_iload C 5 dX6_explains_45 rfl ?_
        refine r_iadd C dX6_explains_47 ?_
        refine r_iast (nz := 6) C dX6_explains_48 (shA_4) rfl (by decide) ⟨h.1, fun s5 e_s5 => ?_⟩
        have h := h.2 s5 e_s5
        refine r_aload_n C 1 dX6_explains_49 rfl ?_
        refine r_aload_n C 2 dX6_explains_50 rfl ?_
        refine r_aload_n C 3 dX6_explains_51 rfl ?_
        refine r_callV (As := [.ref (ad 1), .ref (ad 7)]) (o := 34) (n := 2) C dX6_explains_52 (x6_agree_ct κ.1.2.1 ad cA D s5) gX6_explains_X6_agree rfl ⟨rfl, rfl⟩ (by decide +kernel) (by decide) (shA_34) rfl rfl rfl (Nat.le_of_ble_eq_true rfl) (fun _ => rfl) ?_
        refine x6_agree_mono h (fun r7 s6 h => ?_)
        refine r_istore (ls' := [(6, vI r7), (5, vI (s 4 p3)), (0, .ref (ad 34)), (1, .ref (ad 1)), (2, .ref (ad 7)), (3, vI p3), (4, vI p4)]) C dX6_explains_55 (by decide) rfl ?_
        refine r_aload_n C 3 dX6_explains_57 rfl ?_
        refine r_get (j := 5) (jz := 5) (v := .ref (ad 4)) C dX6_explains_58 (shA_1) rfl rfl (by decide) in_x6_explains_X2 w_x6_explains_44 rfl rfl rfl ?_
        refine r_iload_n C 5 dX6_explains_61 rfl ?_
        refine r_iload C 1 dX6_explains_62 rfl ?_
        refine r_iast (nz := 6) C dX6_explains_64 (shA_4) rfl (by decide) ⟨h.1, fun s8 e_s8 => ?_⟩
        have h := h.2 s8 e_s8
        refine r_iload C 0 dX6_explains_65 rfl ?_
        exact r_zreturn C dX6_explains_67 h
      · have h := h.2.2 c9
        refine r_iconst C dX6_explains_36 ?_
        exact r_zreturn C dX6_explains_37 h
theorem x6_explains_ct (l : Launch) (ad : Nat → Nat) (cA : Nat → ClassId) (D : va_G) (p3 : Int) (p4 : Int) (s : Mem) : MG l yX6_explains wsX6_explains x6_explains_rm ocI [.ref (ad 34), .ref (ad 1), .ref (ad 7), vI p3, vI p4] (GA ad cA D) s (x6_explains p3 p4 s) :=
  m_met (own := RX6) (nL := 7) (by decide) rfl rfl (Nat.le_of_ble_eq_true rfl) rfl rfl rfl (fun κ hl C Q Pst hW hQ => x6_explains_bd C (x6_explains_mono hW hQ))

def x6_suspectAt_be (X6 : Int → Int → Int → Mem → Prop) (X19 : Int → Int → Int → Int → Mem → Prop) (Q : Int → Mem → Prop) (p3 : Int) (s : Mem) : Prop :=
  X6 p3 (0 : Int) (0 : Int) s
def x6_suspectAt_b6 (X6 : Int → Int → Int → Mem → Prop) (X19 : Int → Int → Int → Int → Mem → Prop) (Q : Int → Mem → Prop) (x3 : Int) (x4 : Int) (x5 : Int) (s : Mem) : Prop :=
  (InI x5 ∧ InI (s 1 (0 : Int))) ∧ ((s 1 (0 : Int)) ≤ x5 → (InI x3 ∧ InI (-1 : Int)) ∧ (¬ x3 = (-1 : Int) → Q (-1 : Int) s) ∧ (x3 = (-1 : Int) → Q x4 s)) ∧ (x5 < (s 1 (0 : Int)) → X19 x3 x4 x5 (-3 : Int) s)
def x6_suspectAt_b19 (X6 : Int → Int → Int → Mem → Prop) (X19 : Int → Int → Int → Int → Mem → Prop) (Q : Int → Mem → Prop) (x3 : Int) (x4 : Int) (x5 : Int) (x6 : Int) (s : Mem) : Prop :=
  (InI x6 ∧ InI (3 : Int)) ∧ ((3 : Int) < x6 → X6 x3 x4 (x5 + (1 : Int)) s) ∧ (x6 ≤ (3 : Int) → x6_explains x5 x6 s (fun r4 s3 => InI r4 ∧ (¬ r4 = (0 : Int) → (InI x4 ∧ InI x3) ∧ (¬ x4 = x3 → X19 x3 (x4 + (1 : Int)) x5 (x6 + (1 : Int)) s3) ∧ (x4 = x3 → Q ((((10 : Int) * x5) + x6) + (3 : Int)) s3)) ∧ (r4 = (0 : Int) → X19 x3 x4 x5 (x6 + (1 : Int)) s3)))
theorem x6_suspectAt_me {X6 Y6 : Int → Int → Int → Mem → Prop} {X19 Y19 : Int → Int → Int → Int → Mem → Prop} {Q R : Int → Mem → Prop} (hX6 : ∀ x3 x4 x5 s, X6 x3 x4 x5 s → Y6 x3 x4 x5 s) (hX19 : ∀ x3 x4 x5 x6 s, X19 x3 x4 x5 x6 s → Y19 x3 x4 x5 x6 s) (hQ : ∀ r s, Q r s → R r s) {p3 : Int} {s : Mem} (h : x6_suspectAt_be X6 X19 Q p3 s) : x6_suspectAt_be Y6 Y19 R p3 s :=
  hX6 _ _ _ _ h
theorem x6_suspectAt_m6 {X6 Y6 : Int → Int → Int → Mem → Prop} {X19 Y19 : Int → Int → Int → Int → Mem → Prop} {Q R : Int → Mem → Prop} (hX6 : ∀ x3 x4 x5 s, X6 x3 x4 x5 s → Y6 x3 x4 x5 s) (hX19 : ∀ x3 x4 x5 x6 s, X19 x3 x4 x5 x6 s → Y19 x3 x4 x5 x6 s) (hQ : ∀ r s, Q r s → R r s) {x3 : Int} {x4 : Int} {x5 : Int} {s : Mem} (h : x6_suspectAt_b6 X6 X19 Q x3 x4 x5 s) : x6_suspectAt_b6 Y6 Y19 R x3 x4 x5 s :=
  ⟨h.1, fun c => have h := h.2.1 c; ⟨h.1, fun c => have h := h.2.1 c; hQ _ _ h, fun c => have h := h.2.2 c; hQ _ _ h⟩, fun c => have h := h.2.2 c; hX19 _ _ _ _ _ h⟩
theorem x6_suspectAt_m19 {X6 Y6 : Int → Int → Int → Mem → Prop} {X19 Y19 : Int → Int → Int → Int → Mem → Prop} {Q R : Int → Mem → Prop} (hX6 : ∀ x3 x4 x5 s, X6 x3 x4 x5 s → Y6 x3 x4 x5 s) (hX19 : ∀ x3 x4 x5 x6 s, X19 x3 x4 x5 x6 s → Y19 x3 x4 x5 x6 s) (hQ : ∀ r s, Q r s → R r s) {x3 : Int} {x4 : Int} {x5 : Int} {x6 : Int} {s : Mem} (h : x6_suspectAt_b19 X6 X19 Q x3 x4 x5 x6 s) : x6_suspectAt_b19 Y6 Y19 R x3 x4 x5 x6 s :=
  ⟨h.1, fun c => have h := h.2.1 c; hX6 _ _ _ _ h, fun c => have h := h.2.2 c; x6_explains_mono h (fun r4 s3 h => ⟨h.1, fun c => have h := h.2.1 c; ⟨h.1, fun c => have h := h.2.1 c; hX19 _ _ _ _ _ h, fun c => have h := h.2.2 c; hQ _ _ h⟩, fun c => have h := h.2.2 c; hX19 _ _ _ _ _ h⟩)⟩
def x6_suspectAt (p3 : Int) (s : Mem) (Q : Int → Mem → Prop) : Prop := ∀ (X6 : Int → Int → Int → Mem → Prop) (X19 : Int → Int → Int → Int → Mem → Prop), (∀ x3 x4 x5 s, x6_suspectAt_b6 X6 X19 Q x3 x4 x5 s → X6 x3 x4 x5 s) → (∀ x3 x4 x5 x6 s, x6_suspectAt_b19 X6 X19 Q x3 x4 x5 x6 s → X19 x3 x4 x5 x6 s) → x6_suspectAt_be X6 X19 Q p3 s
def x6_suspectAt_L6 (Q : Int → Mem → Prop) (x3 : Int) (x4 : Int) (x5 : Int) (s : Mem) : Prop := ∀ (X6 : Int → Int → Int → Mem → Prop) (X19 : Int → Int → Int → Int → Mem → Prop), (∀ x3 x4 x5 s, x6_suspectAt_b6 X6 X19 Q x3 x4 x5 s → X6 x3 x4 x5 s) → (∀ x3 x4 x5 x6 s, x6_suspectAt_b19 X6 X19 Q x3 x4 x5 x6 s → X19 x3 x4 x5 x6 s) → X6 x3 x4 x5 s
def x6_suspectAt_L19 (Q : Int → Mem → Prop) (x3 : Int) (x4 : Int) (x5 : Int) (x6 : Int) (s : Mem) : Prop := ∀ (X6 : Int → Int → Int → Mem → Prop) (X19 : Int → Int → Int → Int → Mem → Prop), (∀ x3 x4 x5 s, x6_suspectAt_b6 X6 X19 Q x3 x4 x5 s → X6 x3 x4 x5 s) → (∀ x3 x4 x5 x6 s, x6_suspectAt_b19 X6 X19 Q x3 x4 x5 x6 s → X19 x3 x4 x5 x6 s) → X19 x3 x4 x5 x6 s
theorem x6_suspectAt_i {Q : Int → Mem → Prop} {p3 : Int} {s : Mem} (h : x6_suspectAt_be (x6_suspectAt_L6 Q) (x6_suspectAt_L19 Q) Q p3 s) : x6_suspectAt p3 s Q := fun X6 X19 k6 k19 => x6_suspectAt_me (fun _ _ _ _ h => h X6 X19 k6 k19) (fun _ _ _ _ _ h => h X6 X19 k6 k19) (fun _ _ h => h) h
theorem x6_suspectAt_s6 {Q : Int → Mem → Prop} {x3 : Int} {x4 : Int} {x5 : Int} {s : Mem} (h : x6_suspectAt_b6 (x6_suspectAt_L6 Q) (x6_suspectAt_L19 Q) Q x3 x4 x5 s) : x6_suspectAt_L6 Q x3 x4 x5 s := fun X6 X19 k6 k19 => k6 _ _ _ _ (x6_suspectAt_m6 (fun _ _ _ _ h => h X6 X19 k6 k19) (fun _ _ _ _ _ h => h X6 X19 k6 k19) (fun _ _ h => h) h)
theorem x6_suspectAt_s19 {Q : Int → Mem → Prop} {x3 : Int} {x4 : Int} {x5 : Int} {x6 : Int} {s : Mem} (h : x6_suspectAt_b19 (x6_suspectAt_L6 Q) (x6_suspectAt_L19 Q) Q x3 x4 x5 x6 s) : x6_suspectAt_L19 Q x3 x4 x5 x6 s := fun X6 X19 k6 k19 => k19 _ _ _ _ _ (x6_suspectAt_m19 (fun _ _ _ _ h => h X6 X19 k6 k19) (fun _ _ _ _ _ h => h X6 X19 k6 k19) (fun _ _ h => h) h)
theorem x6_suspectAt_mono {Q R : Int → Mem → Prop} {p3 : Int} {s : Mem} (h : x6_suspectAt p3 s Q) (hQ : ∀ r s, Q r s → R r s) : x6_suspectAt p3 s R := fun X6 X19 k6 k19 => x6_suspectAt_me (fun _ _ _ _ h => h) (fun _ _ _ _ _ h => h) hQ (h X6 X19 (fun _ _ _ _ h => k6 _ _ _ _ (x6_suspectAt_m6 (fun _ _ _ _ h => h) (fun _ _ _ _ _ h => h) hQ h)) (fun _ _ _ _ _ h => k19 _ _ _ _ _ (x6_suspectAt_m19 (fun _ _ _ _ h => h) (fun _ _ _ _ _ h => h) hQ h)))
def x6_suspectAt_rm : Room := { frames := 5, cells := 0, slots := 0, locals := 157 }
theorem w_x6_suspectAt_33 : Cond.fieldLink RX6 33 "BoltRing$Joint" "bolts" "I" ∈ wsX6_suspectAt := by decide +kernel
theorem in_x6_suspectAt_X2 : ∀ w ∈ wsX20, w ∈ wsX6_suspectAt := by decide +kernel
set_option maxHeartbeats 4000000 in
set_option maxRecDepth 100000 in
theorem x6_suspectAt_bd {κ : KT} {ad : Nat → Nat} {cA : Nat → ClassId} {D : va_G} {Q : State → Prop} {p3 : Int} {s : Mem} (C : CX κ (GA ad cA D) RX6 cX6_suspectAt 7 wsX6_suspectAt x6_suspectAt_rm (some .int)) (h : x6_suspectAt p3 s (RT κ (GA ad cA D) ocI Q)) : WM κ (GA ad cA D) 7 Q s 0 [(0, .ref (ad 34)), (1, .ref (ad 1)), (2, .ref (ad 7)), (3, vI p3)] [] := by
  obtain ⟨Z6, z6⟩ : ∃ Z : Int → Int → Int → Mem → Prop, ∀ x3 x4 x5 s, Z x3 x4 x5 s ↔ WM κ (GA ad cA D) 7 Q s 6 [(0, .ref (ad 34)), (1, .ref (ad 1)), (2, .ref (ad 7)), (3, vI x3), (4, vI x4), (5, vI x5)] [] := ⟨fun x3 x4 x5 s => WM κ (GA ad cA D) 7 Q s 6 [(0, .ref (ad 34)), (1, .ref (ad 1)), (2, .ref (ad 7)), (3, vI x3), (4, vI x4), (5, vI x5)] [], fun _ _ _ _ => Iff.rfl⟩
  obtain ⟨Z19, z19⟩ : ∃ Z : Int → Int → Int → Int → Mem → Prop, ∀ x3 x4 x5 x6 s, Z x3 x4 x5 x6 s ↔ WM κ (GA ad cA D) 7 Q s 19 [(0, .ref (ad 34)), (1, .ref (ad 1)), (2, .ref (ad 7)), (3, vI x3), (4, vI x4), (5, vI x5), (6, vI x6)] [] := ⟨fun x3 x4 x5 x6 s => WM κ (GA ad cA D) 7 Q s 19 [(0, .ref (ad 34)), (1, .ref (ad 1)), (2, .ref (ad 7)), (3, vI x3), (4, vI x4), (5, vI x5), (6, vI x6)] [], fun _ _ _ _ _ => Iff.rfl⟩
  refine (fun h => ?_) (h Z6 Z19 ?_ ?_)
  · refine r_iconst C dX6_suspectAt_0 ?_
    refine r_istore (ls' := [(4, vI (0 : Int)), (0, .ref (ad 34)), (1, .ref (ad 1)), (2, .ref (ad 7)), (3, vI p3)]) C dX6_suspectAt_1 (by decide) rfl ?_
    refine r_iconst C dX6_suspectAt_3 ?_
    refine r_istore (ls' := [(5, vI (0 : Int)), (4, vI (0 : Int)), (0, .ref (ad 34)), (1, .ref (ad 1)), (2, .ref (ad 7)), (3, vI p3)]) C dX6_suspectAt_4 (by decide) rfl ?_
    exact r_perm [2, 3, 4, 5, 1, 0] rfl ((z6 _ _ _ _).1 h)
  · intro x3 x4 x5 s h
    refine (z6 _ _ _ _).2 ?_
    refine r_iload C 5 dX6_suspectAt_6 rfl ?_
    refine r_aload_n C 1 dX6_suspectAt_8 rfl ?_
    refine r_get (j := 0) (jz := 0) (v := vI (s 1 (0 : Int))) C dX6_suspectAt_9 (shA_1) rfl rfl (by decide) in_x6_suspectAt_X2 w_x6_suspectAt_33 rfl rfl rfl ?_
    refine r_icmp_ge (tgt := 73) C dX6_suspectAt_12 (by decide) ⟨h.1, fun c2 => ?_, fun c2 => ?_⟩
    · have h := h.2.1 c2
      refine r_iload_n C 3 dX6_suspectAt_73 rfl ?_
      refine r_iconst C dX6_suspectAt_74 ?_
      refine r_icmp_ne (tgt := 83) C dX6_suspectAt_75 (by decide) ⟨h.1, fun c1 => ?_, fun c1 => ?_⟩
      · have h := h.2.1 c1
        refine r_iconst C dX6_suspectAt_83 ?_
        exact r_ireturn C dX6_suspectAt_84 h
      · have h := h.2.2 c1
        refine r_iload C 4 dX6_suspectAt_78 rfl ?_
        refine r_goto (tgt := 84) C dX6_suspectAt_80 (by decide) ?_
        exact r_ireturn C dX6_suspectAt_84 h
    · have h := h.2.2 c2
      refine r_bipush C dX6_suspectAt_15 (by decide) ?_
      refine r_istore (ls' := [(6, vI (-3 : Int)), (0, .ref (ad 34)), (1, .ref (ad 1)), (2, .ref (ad 7)), (3, vI x3), (4, vI x4), (5, vI x5)]) C dX6_suspectAt_17 (by decide) rfl ?_
      exact r_perm [1, 2, 3, 4, 5, 6, 0] rfl ((z19 _ _ _ _ _).1 h)
  · intro x3 x4 x5 x6 s h
    refine (z19 _ _ _ _ _).2 ?_
    refine r_iload C 6 dX6_suspectAt_19 rfl ?_
    refine r_iconst C dX6_suspectAt_21 ?_
    refine r_icmp_gt (tgt := 67) C dX6_suspectAt_22 (by decide) ⟨h.1, fun c7 => ?_, fun c7 => ?_⟩
    · have h := h.2.1 c7
      refine r_iinc (j := 5) (ls' := [(5, vI (x5 + (1 : Int))), (0, .ref (ad 34)), (1, .ref (ad 1)), (2, .ref (ad 7)), (3, vI x3), (4, vI x4), (6, vI x6)]) C dX6_suspectAt_67 rfl (by decide) rfl ?_
      refine r_goto (tgt := 6) C dX6_suspectAt_70 (by decide) ?_
      exact r_perm [1, 2, 3, 4, 5, 0] rfl ((z6 _ _ _ _).1 h)
    · have h := h.2.2 c7
      refine r_aload_n C 0 dX6_suspectAt_25 rfl ?_
      refine r_aload_n C 1 dX6_suspectAt_26 rfl ?_
      refine r_aload_n C 2 dX6_suspectAt_27 rfl ?_
      refine r_iload C 5 dX6_suspectAt_28 rfl ?_
      refine r_iload C 6 dX6_suspectAt_30 rfl ?_
      refine r_callV (As := [.ref (ad 1), .ref (ad 7), vI x5, vI x6]) (o := 34) (n := 4) C dX6_suspectAt_32 (x6_explains_ct κ.1.2.1 ad cA D x5 x6 s) gX6_suspectAt_X6_explains rfl ⟨rfl, rfl⟩ (by decide +kernel) (by decide) (shA_34) rfl rfl rfl (Nat.le_of_ble_eq_true rfl) (fun _ => rfl) ?_
      refine x6_explains_mono h (fun r4 s3 h => ?_)
      refine r_if_ne (tgt := 41) C dX6_suspectAt_35 (by decide) ⟨h.1, fun c6 => ?_, fun c6 => ?_⟩
      · have h := h.2.1 c6
        refine r_iload C 4 dX6_suspectAt_41 rfl ?_
        refine r_iload_n C 3 dX6_suspectAt_43 rfl ?_
        refine r_icmp_ne (tgt := 58) C dX6_suspectAt_44 (by decide) ⟨h.1, fun c5 => ?_, fun c5 => ?_⟩
        · have h := h.2.1 c5
          refine r_iinc (j := 4) (ls' := [(4, vI (x4 + (1 : Int))), (0, .ref (ad 34)), (1, .ref (ad 1)), (2, .ref (ad 7)), (3, vI x3), (5, vI x5), (6, vI x6)]) C dX6_suspectAt_58 rfl (by decide) rfl ?_
          refine r_iinc (j := 6) (ls' := [(6, vI (x6 + (1 : Int))), (4, vI (x4 + (1 : Int))), (0, .ref (ad 34)), (1, .ref (ad 1)), (2, .ref (ad 7)), (3, vI x3), (5, vI x5)]) C dX6_suspectAt_61 rfl (by decide) rfl ?_
          refine r_goto (tgt := 19) C dX6_suspectAt_64 (by decide) ?_
          exact r_perm [2, 3, 4, 5, 1, 6, 0] rfl ((z19 _ _ _ _ _).1 h)
        · have h := h.2.2 c5
          refine r_bipush C dX6_suspectAt_47 (by decide) ?_
          refine r_iload C 5 dX6_suspectAt_49 rfl ?_
          refine r_imul C dX6_suspectAt_51 ?_
          refine r_iload C 6 dX6_suspectAt_52 rfl ?_
          refine r_iadd C dX6_suspectAt_54 ?_
          refine r_iconst C dX6_suspectAt_55 ?_
          refine r_iadd C dX6_suspectAt_56 ?_
          exact r_ireturn C dX6_suspectAt_57 h
      · have h := h.2.2 c6
        refine r_goto (tgt := 61) C dX6_suspectAt_38 (by decide) ?_
        refine r_iinc (j := 6) (ls' := [(6, vI (x6 + (1 : Int))), (0, .ref (ad 34)), (1, .ref (ad 1)), (2, .ref (ad 7)), (3, vI x3), (4, vI x4), (5, vI x5)]) C dX6_suspectAt_61 rfl (by decide) rfl ?_
        refine r_goto (tgt := 19) C dX6_suspectAt_64 (by decide) ?_
        exact r_perm [1, 2, 3, 4, 5, 6, 0] rfl ((z19 _ _ _ _ _).1 h)
theorem x6_suspectAt_ct (l : Launch) (ad : Nat → Nat) (cA : Nat → ClassId) (D : va_G) (p3 : Int) (s : Mem) : MG l yX6_suspectAt wsX6_suspectAt x6_suspectAt_rm ocI [.ref (ad 34), .ref (ad 1), .ref (ad 7), vI p3] (GA ad cA D) s (x6_suspectAt p3 s) :=
  m_met (own := RX6) (nL := 7) (by decide) rfl rfl (Nat.le_of_ble_eq_true rfl) rfl rfl rfl (fun κ hl C Q Pst hW hQ => x6_suspectAt_bd C (x6_suspectAt_mono hW hQ))
