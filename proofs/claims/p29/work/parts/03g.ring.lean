def x7_joint (p1 : Int) (p2 : Int) (s : Mem) (Q : Int → Mem → Prop) : Prop :=
  x7_within p1 (3 : Int) (6 : Int) s (fun r2 s1 => InI r2 ∧ (r2 = (0 : Int) → Q (-100002 : Int) s1) ∧ (¬ r2 = (0 : Int) → x7_within p2 (1 : Int) (9 : Int) s1 (fun r4 s3 => InI r4 ∧ (¬ r4 = (0 : Int) → x2_begin p1 p2 s3 (fun _ s5 => ∀ s6 : Mem, s6 = m_upd s5 23 (0 : Int) (0 : Int) → x4_begin s6 (fun _ s7 => ∀ s8 : Mem, s8 = m_upd s7 34 (0 : Int) (0 : Int) → Q p1 s8))) ∧ (r4 = (0 : Int) → Q (-100002 : Int) s3))))
theorem x7_joint_mono {Q R : Int → Mem → Prop} {p1 : Int} {p2 : Int} {s : Mem} (h : x7_joint p1 p2 s Q) (hQ : ∀ r s, Q r s → R r s) : x7_joint p1 p2 s R :=
  x7_within_mono h (fun r2 s1 h => ⟨h.1, fun c => have h := h.2.1 c; hQ _ _ h, fun c => have h := h.2.2 c; x7_within_mono h (fun r4 s3 h => ⟨h.1, fun c => have h := h.2.1 c; x2_begin_mono h (fun _ s5 h => fun s6 e_s6 => have h := h s6 e_s6; x4_begin_mono h (fun _ s7 h => fun s8 e_s8 => have h := h s8 e_s8; hQ _ _ h)), fun c => have h := h.2.2 c; hQ _ _ h⟩)⟩)
def x7_joint_rm : Room := { frames := 2, cells := 0, slots := 0, locals := 43 }
theorem w_x7_joint_66 : Cond.constant RX7 66 (-100002) ∈ wsX7_joint := by decide +kernel
theorem w_x7_joint_10 : Cond.fieldLink RX7 10 "BoltRing" "ring" "LBoltRing$Joint;" ∈ wsX7_joint := by decide +kernel
theorem w_x7_joint_33 : Cond.fieldLink RX7 33 "BoltRing" "cases" "LBoltRing$Cases;" ∈ wsX7_joint := by decide +kernel
theorem w_x7_joint_67 : Cond.fieldLink RX7 67 "BoltRing$Cases" "count" "I" ∈ wsX7_joint := by decide +kernel
theorem w_x7_joint_40 : Cond.fieldLink RX7 40 "BoltRing" "misses" "LBoltRing$Misses;" ∈ wsX7_joint := by decide +kernel
theorem w_x7_joint_47 : Cond.fieldLink RX7 47 "BoltRing" "readings" "LBoltRing$Readings;" ∈ wsX7_joint := by decide +kernel
theorem w_x7_joint_73 : Cond.fieldLink RX7 73 "BoltRing$Readings" "told" "I" ∈ wsX7_joint := by decide +kernel
theorem in_x7_joint_X0 : ∀ w ∈ wsX00, w ∈ wsX7_joint := by decide +kernel
theorem in_x7_joint_X6 : ∀ w ∈ wsX60, w ∈ wsX7_joint := by decide +kernel
theorem in_x7_joint_X7 : ∀ w ∈ wsX70, w ∈ wsX7_joint := by decide +kernel
set_option maxHeartbeats 4000000 in
set_option maxRecDepth 100000 in
theorem x7_joint_bd {κ : KT} {ad : Nat → Nat} {cA : Nat → ClassId} {D : va_G} {Q : State → Prop} {p1 : Int} {p2 : Int} {s : Mem} (C : CX κ (GA ad cA D) RX7 cX7_joint 3 wsX7_joint x7_joint_rm (some .int)) (h : x7_joint p1 p2 s (RT κ (GA ad cA D) ocI Q)) : WM κ (GA ad cA D) 3 Q s 0 [(0, .ref (ad 0)), (1, vI p1), (2, vI p2)] [] := by
  refine r_iload_n C 1 dX7_joint_0 rfl ?_
  refine r_iconst C dX7_joint_1 ?_
  refine r_bipush C dX7_joint_2 (by decide) ?_
  refine r_callS (As := [vI p1, vI (3 : Int), vI (6 : Int)]) (n := 3) C dX7_joint_4 (x7_within_ct κ.1.2.1 ad cA D p1 (3 : Int) (6 : Int) s) gX7_joint_X7_within rfl ⟨rfl, rfl⟩ (by decide +kernel) (by decide) rfl rfl (Nat.le_of_ble_eq_true rfl) (fun _ => rfl) ?_
  refine x7_within_mono h (fun r2 s1 h => ?_)
  refine r_if_eq (tgt := 20) C dX7_joint_7 (by decide) ⟨h.1, fun c10 => ?_, fun c10 => ?_⟩
  · have h := h.2.1 c10
    refine r_ldc (z := -100002) C dX7_joint_20 w_x7_joint_66 rfl ?_
    exact r_ireturn C dX7_joint_22 h
  · have h := h.2.2 c10
    refine r_iload_n C 2 dX7_joint_10 rfl ?_
    refine r_iconst C dX7_joint_11 ?_
    refine r_bipush C dX7_joint_12 (by decide) ?_
    refine r_callS (As := [vI p2, vI (1 : Int), vI (9 : Int)]) (n := 3) C dX7_joint_14 (x7_within_ct κ.1.2.1 ad cA D p2 (1 : Int) (9 : Int) s1) gX7_joint_X7_within rfl ⟨rfl, rfl⟩ (by decide +kernel) (by decide) rfl rfl (Nat.le_of_ble_eq_true rfl) (fun _ => rfl) ?_
    refine x7_within_mono h (fun r4 s3 h => ?_)
    refine r_if_ne (tgt := 23) C dX7_joint_17 (by decide) ⟨h.1, fun c9 => ?_, fun c9 => ?_⟩
    · have h := h.2.1 c9
      refine r_aload_n C 0 dX7_joint_23 rfl ?_
      refine r_get (j := 0) (jz := 0) (v := .ref (ad 1)) C dX7_joint_24 (shA_0) rfl rfl (by decide) in_x7_joint_X7 w_x7_joint_10 rfl rfl rfl ?_
      refine r_iload_n C 1 dX7_joint_27 rfl ?_
      refine r_iload_n C 2 dX7_joint_28 rfl ?_
      refine r_callV (As := [vI p1, vI p2]) (o := 1) (n := 2) C dX7_joint_29 (x2_begin_ct κ.1.2.1 ad cA D p1 p2 s3) gX7_joint_X2_begin rfl ⟨rfl, rfl⟩ (by decide +kernel) (by decide) (shA_1) rfl rfl rfl (Nat.le_of_ble_eq_true rfl) (fun _ => rfl) ?_
      refine x2_begin_mono h (fun _ s5 h => ?_)
      refine r_aload_n C 0 dX7_joint_32 rfl ?_
      refine r_get (j := 3) (jz := 3) (v := .ref (ad 23)) C dX7_joint_33 (shA_0) rfl rfl (by decide) in_x7_joint_X7 w_x7_joint_33 rfl rfl rfl ?_
      refine r_iconst C dX7_joint_36 ?_
      refine r_puti (j := 0) (jz := 0) C dX7_joint_37 (shA_23) rfl rfl (by decide) in_x7_joint_X0 tyX0 tyX0_ok nmX0 w_x7_joint_67 rfl rfl (by decide +kernel) rfl (fun s6 e_s6 => ?_)
      have h := h s6 e_s6
      refine r_aload_n C 0 dX7_joint_40 rfl ?_
      refine r_get (j := 4) (jz := 4) (v := .ref (ad 31)) C dX7_joint_41 (shA_0) rfl rfl (by decide) in_x7_joint_X7 w_x7_joint_40 rfl rfl rfl ?_
      refine r_callV (As := []) (o := 31) (n := 0) C dX7_joint_44 (x4_begin_ct κ.1.2.1 ad cA D s6) gX7_joint_X4_begin rfl ⟨rfl, rfl⟩ (by decide +kernel) (by decide) (shA_31) rfl rfl rfl (Nat.le_of_ble_eq_true rfl) (fun _ => rfl) ?_
      refine x4_begin_mono h (fun _ s7 h => ?_)
      refine r_aload_n C 0 dX7_joint_47 rfl ?_
      refine r_get (j := 5) (jz := 5) (v := .ref (ad 34)) C dX7_joint_48 (shA_0) rfl rfl (by decide) in_x7_joint_X7 w_x7_joint_47 rfl rfl rfl ?_
      refine r_iconst C dX7_joint_51 ?_
      refine r_puti (j := 0) (jz := 0) C dX7_joint_52 (shA_34) rfl rfl (by decide) in_x7_joint_X6 tyX6 tyX6_ok nmX6 w_x7_joint_73 rfl rfl (by decide +kernel) rfl (fun s8 e_s8 => ?_)
      have h := h s8 e_s8
      refine r_iload_n C 1 dX7_joint_55 rfl ?_
      exact r_ireturn C dX7_joint_56 h
    · have h := h.2.2 c9
      refine r_ldc (z := -100002) C dX7_joint_20 w_x7_joint_66 rfl ?_
      exact r_ireturn C dX7_joint_22 h
theorem x7_joint_ct (l : Launch) (ad : Nat → Nat) (cA : Nat → ClassId) (D : va_G) (p1 : Int) (p2 : Int) (s : Mem) : MG l yX7_joint wsX7_joint x7_joint_rm ocI [.ref (ad 0), vI p1, vI p2] (GA ad cA D) s (x7_joint p1 p2 s) :=
  m_met (own := RX7) (nL := 3) (by decide) rfl rfl (Nat.le_of_ble_eq_true rfl) rfl rfl rfl (fun κ hl C Q Pst hW hQ => x7_joint_bd C (x7_joint_mono hW hQ))

def x7_set (p1 : Int) (p2 : Int) (p3 : Int) (s : Mem) (Q : Int → Mem → Prop) : Prop :=
  x2_has p1 s (fun r2 s1 => InI r2 ∧ (¬ r2 = (0 : Int) → x7_within p2 (0 : Int) (3 : Int) s1 (fun r4 s3 => InI r4 ∧ (r4 = (0 : Int) → Q (-100002 : Int) s3) ∧ (¬ r4 = (0 : Int) → x7_leastOf p2 s3 (fun r6 s5 => x7_mostOf p2 s5 (fun r8 s7 => x7_within p3 r6 r8 s7 (fun r10 s9 => InI r10 ∧ (¬ r10 = (0 : Int) → x2_valuesOf p2 s9 (fun r12 s11 => (shA[(Int.toNat r12)]? = some (.inr (0, 6))) ∧ ((0 : Int) ≤ p1 ∧ p1 < 6) ∧ (shA[(Int.toNat r12)]? = some (.inr (0, 6))) ∧ ((0 : Int) ≤ p1 ∧ p1 < 6) ∧ ∀ s13 : Mem, s13 = m_upd s11 (Int.toNat r12) p1 p3 → Q (s11 (Int.toNat r12) p1) s13)) ∧ (r10 = (0 : Int) → Q (-100002 : Int) s9))))))) ∧ (r2 = (0 : Int) → Q (-100001 : Int) s1))
theorem x7_set_mono {Q R : Int → Mem → Prop} {p1 : Int} {p2 : Int} {p3 : Int} {s : Mem} (h : x7_set p1 p2 p3 s Q) (hQ : ∀ r s, Q r s → R r s) : x7_set p1 p2 p3 s R :=
  x2_has_mono h (fun r2 s1 h => ⟨h.1, fun c => have h := h.2.1 c; x7_within_mono h (fun r4 s3 h => ⟨h.1, fun c => have h := h.2.1 c; hQ _ _ h, fun c => have h := h.2.2 c; x7_leastOf_mono h (fun r6 s5 h => x7_mostOf_mono h (fun r8 s7 h => x7_within_mono h (fun r10 s9 h => ⟨h.1, fun c => have h := h.2.1 c; x2_valuesOf_mono h (fun r12 s11 h => ⟨h.1, have h := h.2; ⟨h.1, have h := h.2; ⟨h.1, have h := h.2; ⟨h.1, have h := h.2; fun s13 e_s13 => have h := h s13 e_s13; hQ _ _ h⟩⟩⟩⟩), fun c => have h := h.2.2 c; hQ _ _ h⟩)))⟩), fun c => have h := h.2.2 c; hQ _ _ h⟩)
def x7_set_rm : Room := { frames := 1, cells := 0, slots := 0, locals := 22 }
theorem w_x7_set_10 : Cond.fieldLink RX7 10 "BoltRing" "ring" "LBoltRing$Joint;" ∈ wsX7_set := by decide +kernel
theorem w_x7_set_66 : Cond.constant RX7 66 (-100002) ∈ wsX7_set := by decide +kernel
theorem w_x7_set_80 : Cond.constant RX7 80 (-100001) ∈ wsX7_set := by decide +kernel
theorem in_x7_set_X7 : ∀ w ∈ wsX70, w ∈ wsX7_set := by decide +kernel
set_option maxHeartbeats 4000000 in
set_option maxRecDepth 100000 in
theorem x7_set_bd {κ : KT} {ad : Nat → Nat} {cA : Nat → ClassId} {D : va_G} {Q : State → Prop} {p1 : Int} {p2 : Int} {p3 : Int} {s : Mem} (C : CX κ (GA ad cA D) RX7 cX7_set 6 wsX7_set x7_set_rm (some .int)) (h : x7_set p1 p2 p3 s (RT κ (GA ad cA D) ocI Q)) : WM κ (GA ad cA D) 6 Q s 0 [(0, .ref (ad 0)), (1, vI p1), (2, vI p2), (3, vI p3)] [] := by
  refine r_aload_n C 0 dX7_set_0 rfl ?_
  refine r_get (j := 0) (jz := 0) (v := .ref (ad 1)) C dX7_set_1 (shA_0) rfl rfl (by decide) in_x7_set_X7 w_x7_set_10 rfl rfl rfl ?_
  refine r_iload_n C 1 dX7_set_4 rfl ?_
  refine r_callV (As := [vI p1]) (o := 1) (n := 1) C dX7_set_5 (x2_has_ct κ.1.2.1 ad cA D p1 s) gX7_set_X2_has rfl ⟨rfl, rfl⟩ (by decide +kernel) (by decide) (shA_1) rfl rfl rfl (Nat.le_of_ble_eq_true rfl) (fun _ => rfl) ?_
  refine x2_has_mono h (fun r2 s1 h => ?_)
  refine r_if_ne (tgt := 14) C dX7_set_8 (by decide) ⟨h.1, fun c16 => ?_, fun c16 => ?_⟩
  · have h := h.2.1 c16
    refine r_iload_n C 2 dX7_set_14 rfl ?_
    refine r_iconst C dX7_set_15 ?_
    refine r_iconst C dX7_set_16 ?_
    refine r_callS (As := [vI p2, vI (0 : Int), vI (3 : Int)]) (n := 3) C dX7_set_17 (x7_within_ct κ.1.2.1 ad cA D p2 (0 : Int) (3 : Int) s1) gX7_set_X7_within rfl ⟨rfl, rfl⟩ (by decide +kernel) (by decide) rfl rfl (Nat.le_of_ble_eq_true rfl) (fun _ => rfl) ?_
    refine x7_within_mono h (fun r4 s3 h => ?_)
    refine r_if_eq (tgt := 38) C dX7_set_20 (by decide) ⟨h.1, fun c15 => ?_, fun c15 => ?_⟩
    · have h := h.2.1 c15
      refine r_ldc (z := -100002) C dX7_set_38 w_x7_set_66 rfl ?_
      exact r_ireturn C dX7_set_40 h
    · have h := h.2.2 c15
      refine r_iload_n C 3 dX7_set_23 rfl ?_
      refine r_iload_n C 2 dX7_set_24 rfl ?_
      refine r_callS (As := [vI p2]) (n := 1) C dX7_set_25 (x7_leastOf_ct κ.1.2.1 ad cA D p2 s3) gX7_set_X7_leastOf rfl ⟨rfl, rfl⟩ (by decide +kernel) (by decide) rfl rfl (Nat.le_of_ble_eq_true rfl) (fun _ => rfl) ?_
      refine x7_leastOf_mono h (fun r6 s5 h => ?_)
      refine r_iload_n C 2 dX7_set_28 rfl ?_
      refine r_callS (As := [vI p2]) (n := 1) C dX7_set_29 (x7_mostOf_ct κ.1.2.1 ad cA D p2 s5) gX7_set_X7_mostOf rfl ⟨rfl, rfl⟩ (by decide +kernel) (by decide) rfl rfl (Nat.le_of_ble_eq_true rfl) (fun _ => rfl) ?_
      refine x7_mostOf_mono h (fun r8 s7 h => ?_)
      refine r_callS (As := [vI p3, vI r6, vI r8]) (n := 3) C dX7_set_32 (x7_within_ct κ.1.2.1 ad cA D p3 r6 r8 s7) gX7_set_X7_within rfl ⟨rfl, rfl⟩ (by decide +kernel) (by decide) rfl rfl (Nat.le_of_ble_eq_true rfl) (fun _ => rfl) ?_
      refine x7_within_mono h (fun r10 s9 h => ?_)
      refine r_if_ne (tgt := 41) C dX7_set_35 (by decide) ⟨h.1, fun c14 => ?_, fun c14 => ?_⟩
      · have h := h.2.1 c14
        refine r_aload_n C 0 dX7_set_41 rfl ?_
        refine r_get (j := 0) (jz := 0) (v := .ref (ad 1)) C dX7_set_42 (shA_0) rfl rfl (by decide) in_x7_set_X7 w_x7_set_10 rfl rfl rfl ?_
        refine r_iload_n C 2 dX7_set_45 rfl ?_
        refine r_callV (As := [vI p2]) (o := 1) (n := 1) C dX7_set_46 (x2_valuesOf_ct κ.1.2.1 ad cA D p2 s9) gX7_set_X2_valuesOf rfl ⟨rfl, rfl⟩ (by decide +kernel) (by decide) (shA_1) rfl rfl rfl (Nat.le_of_ble_eq_true rfl) (fun _ => rfl) ?_
        refine x2_valuesOf_mono h (fun r12 s11 h => ?_)
        refine r_astore (ls' := [(4, .ref (ad (Int.toNat r12))), (0, .ref (ad 0)), (1, vI p1), (2, vI p2), (3, vI p3)]) C dX7_set_49 (by decide) rfl ?_
        refine r_aload C 0 dX7_set_51 rfl ?_
        refine r_iload_n C 2 dX7_set_53 rfl ?_
        have hg := h.1
        have h := h.2
        refine r_iald (nz := 6) C dX7_set_54 (hg) rfl (by decide) ⟨h.1, ?_⟩
        have h := h.2
        refine r_istore (ls' := [(5, vI (s11 (Int.toNat r12) p1)), (4, .ref (ad (Int.toNat r12))), (0, .ref (ad 0)), (1, vI p1), (2, vI p2), (3, vI p3)]) C dX7_set_55 (by decide) rfl ?_
        refine r_aload C 1 dX7_set_57 rfl ?_
        refine r_iload_n C 3 dX7_set_59 rfl ?_
        refine r_iload_n C 5 dX7_set_60 rfl ?_
        have hg := h.1
        have h := h.2
        refine r_iast (nz := 6) C dX7_set_61 (hg) rfl (by decide) ⟨h.1, fun s13 e_s13 => ?_⟩
        have h := h.2 s13 e_s13
        refine r_iload C 0 dX7_set_62 rfl ?_
        exact r_ireturn C dX7_set_64 h
      · have h := h.2.2 c14
        refine r_ldc (z := -100002) C dX7_set_38 w_x7_set_66 rfl ?_
        exact r_ireturn C dX7_set_40 h
  · have h := h.2.2 c16
    refine r_ldc (z := -100001) C dX7_set_11 w_x7_set_80 rfl ?_
    exact r_ireturn C dX7_set_13 h
theorem x7_set_ct (l : Launch) (ad : Nat → Nat) (cA : Nat → ClassId) (D : va_G) (p1 : Int) (p2 : Int) (p3 : Int) (s : Mem) : MG l yX7_set wsX7_set x7_set_rm ocI [.ref (ad 0), vI p1, vI p2, vI p3] (GA ad cA D) s (x7_set p1 p2 p3 s) :=
  m_met (own := RX7) (nL := 6) (by decide) rfl rfl (Nat.le_of_ble_eq_true rfl) rfl rfl rfl (fun κ hl C Q Pst hW hQ => x7_set_bd C (x7_set_mono hW hQ))

def x7_broken_be (X45 : Int → Int → Int → Mem → Prop) (Q : Int → Mem → Prop) (p1 : Int) (p2 : Int) (s : Mem) : Prop :=
  x2_has p1 s (fun r2 s1 => InI r2 ∧ (¬ r2 = (0 : Int) → x2_isBroken p1 s1 (fun r4 s3 => InI p2 ∧ (p2 = (0 : Int) → X45 p1 p2 r4 s3) ∧ (¬ p2 = (0 : Int) → InI r4 ∧ (¬ r4 = (0 : Int) → X45 p1 p2 r4 s3) ∧ (r4 = (0 : Int) → x2_wholeCount s3 (fun r6 s5 => (InI r6 ∧ InI (1 : Int)) ∧ (¬ r6 = (1 : Int) → X45 p1 p2 r4 s5) ∧ (r6 = (1 : Int) → Q (-100003 : Int) s5)))))) ∧ (r2 = (0 : Int) → Q (-100001 : Int) s1))
def x7_broken_b45 (X45 : Int → Int → Int → Mem → Prop) (Q : Int → Mem → Prop) (x1 : Int) (x2 : Int) (x3 : Int) (s : Mem) : Prop :=
  x2_markBroken x1 x2 s (fun _ s11 => x7_asNumber x3 s11 (fun r13 s12 => Q r13 s12))
theorem x7_broken_me {X45 Y45 : Int → Int → Int → Mem → Prop} {Q R : Int → Mem → Prop} (hX45 : ∀ x1 x2 x3 s, X45 x1 x2 x3 s → Y45 x1 x2 x3 s) (hQ : ∀ r s, Q r s → R r s) {p1 : Int} {p2 : Int} {s : Mem} (h : x7_broken_be X45 Q p1 p2 s) : x7_broken_be Y45 R p1 p2 s :=
  x2_has_mono h (fun r2 s1 h => ⟨h.1, fun c => have h := h.2.1 c; x2_isBroken_mono h (fun r4 s3 h => ⟨h.1, fun c => have h := h.2.1 c; hX45 _ _ _ _ h, fun c => have h := h.2.2 c; ⟨h.1, fun c => have h := h.2.1 c; hX45 _ _ _ _ h, fun c => have h := h.2.2 c; x2_wholeCount_mono h (fun r6 s5 h => ⟨h.1, fun c => have h := h.2.1 c; hX45 _ _ _ _ h, fun c => have h := h.2.2 c; hQ _ _ h⟩)⟩⟩), fun c => have h := h.2.2 c; hQ _ _ h⟩)
theorem x7_broken_m45 {X45 Y45 : Int → Int → Int → Mem → Prop} {Q R : Int → Mem → Prop} (hX45 : ∀ x1 x2 x3 s, X45 x1 x2 x3 s → Y45 x1 x2 x3 s) (hQ : ∀ r s, Q r s → R r s) {x1 : Int} {x2 : Int} {x3 : Int} {s : Mem} (h : x7_broken_b45 X45 Q x1 x2 x3 s) : x7_broken_b45 Y45 R x1 x2 x3 s :=
  x2_markBroken_mono h (fun _ s11 h => x7_asNumber_mono h (fun r13 s12 h => hQ _ _ h))
def x7_broken (p1 : Int) (p2 : Int) (s : Mem) (Q : Int → Mem → Prop) : Prop := ∀ (X45 : Int → Int → Int → Mem → Prop), (∀ x1 x2 x3 s, x7_broken_b45 X45 Q x1 x2 x3 s → X45 x1 x2 x3 s) → x7_broken_be X45 Q p1 p2 s
def x7_broken_L45 (Q : Int → Mem → Prop) (x1 : Int) (x2 : Int) (x3 : Int) (s : Mem) : Prop := ∀ (X45 : Int → Int → Int → Mem → Prop), (∀ x1 x2 x3 s, x7_broken_b45 X45 Q x1 x2 x3 s → X45 x1 x2 x3 s) → X45 x1 x2 x3 s
theorem x7_broken_i {Q : Int → Mem → Prop} {p1 : Int} {p2 : Int} {s : Mem} (h : x7_broken_be (x7_broken_L45 Q) Q p1 p2 s) : x7_broken p1 p2 s Q := fun X45 k45 => x7_broken_me (fun _ _ _ _ h => h X45 k45) (fun _ _ h => h) h
theorem x7_broken_s45 {Q : Int → Mem → Prop} {x1 : Int} {x2 : Int} {x3 : Int} {s : Mem} (h : x7_broken_b45 (x7_broken_L45 Q) Q x1 x2 x3 s) : x7_broken_L45 Q x1 x2 x3 s := fun X45 k45 => k45 _ _ _ _ (x7_broken_m45 (fun _ _ _ _ h => h X45 k45) (fun _ _ h => h) h)
theorem x7_broken_mono {Q R : Int → Mem → Prop} {p1 : Int} {p2 : Int} {s : Mem} (h : x7_broken p1 p2 s Q) (hQ : ∀ r s, Q r s → R r s) : x7_broken p1 p2 s R := fun X45 k45 => x7_broken_me (fun _ _ _ _ h => h) hQ (h X45 (fun _ _ _ _ h => k45 _ _ _ _ (x7_broken_m45 (fun _ _ _ _ h => h) hQ h)))
def x7_broken_rm : Room := { frames := 2, cells := 0, slots := 0, locals := 40 }
theorem w_x7_broken_10 : Cond.fieldLink RX7 10 "BoltRing" "ring" "LBoltRing$Joint;" ∈ wsX7_broken := by decide +kernel
theorem w_x7_broken_99 : Cond.constant RX7 99 (-100003) ∈ wsX7_broken := by decide +kernel
theorem w_x7_broken_80 : Cond.constant RX7 80 (-100001) ∈ wsX7_broken := by decide +kernel
theorem in_x7_broken_X7 : ∀ w ∈ wsX70, w ∈ wsX7_broken := by decide +kernel
set_option maxHeartbeats 4000000 in
set_option maxRecDepth 100000 in
theorem x7_broken_bd {κ : KT} {ad : Nat → Nat} {cA : Nat → ClassId} {D : va_G} {Q : State → Prop} {p1 : Int} {p2 : Int} {s : Mem} (C : CX κ (GA ad cA D) RX7 cX7_broken 4 wsX7_broken x7_broken_rm (some .int)) (h : x7_broken p1 p2 s (RT κ (GA ad cA D) ocI Q)) : WM κ (GA ad cA D) 4 Q s 0 [(0, .ref (ad 0)), (1, vI p1), (2, vI p2)] [] := by
  obtain ⟨Z45, z45⟩ : ∃ Z : Int → Int → Int → Mem → Prop, ∀ x1 x2 x3 s, Z x1 x2 x3 s ↔ WM κ (GA ad cA D) 4 Q s 45 [(0, .ref (ad 0)), (1, vI x1), (2, vI x2), (3, vI x3)] [] := ⟨fun x1 x2 x3 s => WM κ (GA ad cA D) 4 Q s 45 [(0, .ref (ad 0)), (1, vI x1), (2, vI x2), (3, vI x3)] [], fun _ _ _ _ => Iff.rfl⟩
  refine (fun h => ?_) (h Z45 ?_)
  · refine r_aload_n C 0 dX7_broken_0 rfl ?_
    refine r_get (j := 0) (jz := 0) (v := .ref (ad 1)) C dX7_broken_1 (shA_0) rfl rfl (by decide) in_x7_broken_X7 w_x7_broken_10 rfl rfl rfl ?_
    refine r_iload_n C 1 dX7_broken_4 rfl ?_
    refine r_callV (As := [vI p1]) (o := 1) (n := 1) C dX7_broken_5 (x2_has_ct κ.1.2.1 ad cA D p1 s) gX7_broken_X2_has rfl ⟨rfl, rfl⟩ (by decide +kernel) (by decide) (shA_1) rfl rfl rfl (Nat.le_of_ble_eq_true rfl) (fun _ => rfl) ?_
    refine x2_has_mono h (fun r2 s1 h => ?_)
    refine r_if_ne (tgt := 14) C dX7_broken_8 (by decide) ⟨h.1, fun c10 => ?_, fun c10 => ?_⟩
    · have h := h.2.1 c10
      refine r_aload_n C 0 dX7_broken_14 rfl ?_
      refine r_get (j := 0) (jz := 0) (v := .ref (ad 1)) C dX7_broken_15 (shA_0) rfl rfl (by decide) in_x7_broken_X7 w_x7_broken_10 rfl rfl rfl ?_
      refine r_iload_n C 1 dX7_broken_18 rfl ?_
      refine r_callV (As := [vI p1]) (o := 1) (n := 1) C dX7_broken_19 (x2_isBroken_ct κ.1.2.1 ad cA D p1 s1) gX7_broken_X2_isBroken rfl ⟨rfl, rfl⟩ (by decide +kernel) (by decide) (shA_1) rfl rfl rfl (Nat.le_of_ble_eq_true rfl) (fun _ => rfl) ?_
      refine x2_isBroken_mono h (fun r4 s3 h => ?_)
      refine r_istore_n (ls' := [(3, vI r4), (0, .ref (ad 0)), (1, vI p1), (2, vI p2)]) C dX7_broken_22 rfl (by decide) rfl ?_
      refine r_iload_n C 3 dX7_broken_23 rfl ?_
      refine r_if_eq (tgt := 45) C dX7_broken_24 (by decide) ⟨h.1, fun c9 => ?_, fun c9 => ?_⟩
      · have h := h.2.1 c9
        exact r_perm [1, 2, 3, 0] rfl ((z45 _ _ _ _).1 h)
      · have h := h.2.2 c9
        refine r_iload_n C 0 dX7_broken_27 rfl ?_
        refine r_if_ne (tgt := 45) C dX7_broken_28 (by decide) ⟨h.1, fun c8 => ?_, fun c8 => ?_⟩
        · have h := h.2.1 c8
          exact r_perm [1, 2, 3, 0] rfl ((z45 _ _ _ _).1 h)
        · have h := h.2.2 c8
          refine r_aload_n C 1 dX7_broken_31 rfl ?_
          refine r_get (j := 0) (jz := 0) (v := .ref (ad 1)) C dX7_broken_32 (shA_0) rfl rfl (by decide) in_x7_broken_X7 w_x7_broken_10 rfl rfl rfl ?_
          refine r_callV (As := []) (o := 1) (n := 0) C dX7_broken_35 (x2_wholeCount_ct κ.1.2.1 ad cA D s3) gX7_broken_X2_wholeCount rfl ⟨rfl, rfl⟩ (by decide +kernel) (by decide) (shA_1) rfl rfl rfl (Nat.le_of_ble_eq_true rfl) (fun _ => rfl) ?_
          refine x2_wholeCount_mono h (fun r6 s5 h => ?_)
          refine r_iconst C dX7_broken_38 ?_
          refine r_icmp_ne (tgt := 45) C dX7_broken_39 (by decide) ⟨h.1, fun c7 => ?_, fun c7 => ?_⟩
          · have h := h.2.1 c7
            exact r_perm [1, 2, 3, 0] rfl ((z45 _ _ _ _).1 h)
          · have h := h.2.2 c7
            refine r_ldc (z := -100003) C dX7_broken_42 w_x7_broken_99 rfl ?_
            exact r_ireturn C dX7_broken_44 h
    · have h := h.2.2 c10
      refine r_ldc (z := -100001) C dX7_broken_11 w_x7_broken_80 rfl ?_
      exact r_ireturn C dX7_broken_13 h
  · intro x1 x2 x3 s h
    refine (z45 _ _ _ _).2 ?_
    refine r_aload_n C 0 dX7_broken_45 rfl ?_
    refine r_get (j := 0) (jz := 0) (v := .ref (ad 1)) C dX7_broken_46 (shA_0) rfl rfl (by decide) in_x7_broken_X7 w_x7_broken_10 rfl rfl rfl ?_
    refine r_iload_n C 1 dX7_broken_49 rfl ?_
    refine r_iload_n C 2 dX7_broken_50 rfl ?_
    refine r_callV (As := [vI x1, vI x2]) (o := 1) (n := 2) C dX7_broken_51 (x2_markBroken_ct κ.1.2.1 ad cA D x1 x2 s) gX7_broken_X2_markBroken rfl ⟨rfl, rfl⟩ (by decide +kernel) (by decide) (shA_1) rfl rfl rfl (Nat.le_of_ble_eq_true rfl) (fun _ => rfl) ?_
    refine x2_markBroken_mono h (fun _ s11 h => ?_)
    refine r_iload_n C 3 dX7_broken_54 rfl ?_
    refine r_callS (As := [vI x3]) (n := 1) C dX7_broken_55 (x7_asNumber_ct κ.1.2.1 ad cA D x3 s11) gX7_broken_X7_asNumber rfl ⟨rfl, rfl⟩ (by decide +kernel) (by decide) rfl rfl (Nat.le_of_ble_eq_true rfl) (fun _ => rfl) ?_
    refine x7_asNumber_mono h (fun r13 s12 h => ?_)
    exact r_ireturn C dX7_broken_58 h
theorem x7_broken_ct (l : Launch) (ad : Nat → Nat) (cA : Nat → ClassId) (D : va_G) (p1 : Int) (p2 : Int) (s : Mem) : MG l yX7_broken wsX7_broken x7_broken_rm ocI [.ref (ad 0), vI p1, vI p2] (GA ad cA D) s (x7_broken p1 p2 s) :=
  m_met (own := RX7) (nL := 4) (by decide) rfl rfl (Nat.le_of_ble_eq_true rfl) rfl rfl rfl (fun κ hl C Q Pst hW hQ => x7_broken_bd C (x7_broken_mono hW hQ))

def x7_told (p1 : Int) (p2 : Int) (s : Mem) (Q : Int → Mem → Prop) : Prop :=
  x2_has p1 s (fun r2 s1 => InI r2 ∧ (¬ r2 = (0 : Int) → InI p2 ∧ ((p2 = 0 ∨ p2 = 1 ∨ p2 = 2 ∨ p2 = 3) → x2_valuesOf p2 s1 (fun r5 s4 => (shA[(Int.toNat r5)]? = some (.inr (0, 6))) ∧ ((0 : Int) ≤ p1 ∧ p1 < 6) ∧ Q (s4 (Int.toNat r5) p1) s4)) ∧ ((p2 = 4) → x2_isBroken p1 s1 (fun r7 s6 => x7_asNumber r7 s6 (fun r9 s8 => Q r9 s8))) ∧ ((p2 = 5) → x3_settle 7 5 s1 (fun _ s10 => x3_pullUpper 7 p1 s10 (fun r12 s11 => (InL r12 ∧ InL (0 : Int)) ∧ (¬ r12 = (0 : Int) → x7_asNumber (0 : Int) s11 (fun r14 s13 => Q r14 s13)) ∧ (r12 = (0 : Int) → x7_asNumber (1 : Int) s11 (fun r16 s15 => Q r16 s15))))) ∧ ((p2 = 6) → x3_settle 7 5 s1 (fun _ s18 => x3_pressUpper 7 p1 s18 (fun r20 s19 => (InL r20 ∧ InL (0 : Int)) ∧ (¬ r20 = (0 : Int) → x7_asNumber (0 : Int) s19 (fun r22 s21 => Q r22 s21)) ∧ (r20 = (0 : Int) → x7_asNumber (1 : Int) s19 (fun r24 s23 => Q r24 s23))))) ∧ ((p2 = 7) → x2_placeInRow p1 s1 (fun r27 s26 => Q r27 s26)) ∧ ((p2 < 0 ∨ 7 < p2) → Q (-100002 : Int) s1)) ∧ (r2 = (0 : Int) → Q (-100001 : Int) s1))
theorem x7_told_mono {Q R : Int → Mem → Prop} {p1 : Int} {p2 : Int} {s : Mem} (h : x7_told p1 p2 s Q) (hQ : ∀ r s, Q r s → R r s) : x7_told p1 p2 s R :=
  x2_has_mono h (fun r2 s1 h => ⟨h.1, fun c => have h := h.2.1 c; ⟨h.1, fun c => have h := h.2.1 c; x2_valuesOf_mono h (fun r5 s4 h => ⟨h.1, have h := h.2; ⟨h.1, have h := h.2; hQ _ _ h⟩⟩), fun c => have h := h.2.2.1 c; x2_isBroken_mono h (fun r7 s6 h => x7_asNumber_mono h (fun r9 s8 h => hQ _ _ h)), fun c => have h := h.2.2.2.1 c; x3_settle_mono h (fun _ s10 h => x3_pullUpper_mono h (fun r12 s11 h => ⟨h.1, fun c => have h := h.2.1 c; x7_asNumber_mono h (fun r14 s13 h => hQ _ _ h), fun c => have h := h.2.2 c; x7_asNumber_mono h (fun r16 s15 h => hQ _ _ h)⟩)), fun c => have h := h.2.2.2.2.1 c; x3_settle_mono h (fun _ s18 h => x3_pressUpper_mono h (fun r20 s19 h => ⟨h.1, fun c => have h := h.2.1 c; x7_asNumber_mono h (fun r22 s21 h => hQ _ _ h), fun c => have h := h.2.2 c; x7_asNumber_mono h (fun r24 s23 h => hQ _ _ h)⟩)), fun c => have h := h.2.2.2.2.2.1 c; x2_placeInRow_mono h (fun r27 s26 h => hQ _ _ h), fun c => have h := h.2.2.2.2.2.2 c; hQ _ _ h⟩, fun c => have h := h.2.2 c; hQ _ _ h⟩)
def x7_told_rm : Room := { frames := 3, cells := 0, slots := 0, locals := 85 }
theorem w_x7_told_10 : Cond.fieldLink RX7 10 "BoltRing" "ring" "LBoltRing$Joint;" ∈ wsX7_told := by decide +kernel
theorem w_x7_told_19 : Cond.fieldLink RX7 19 "BoltRing" "lifts" "LBoltRing$Lifts;" ∈ wsX7_told := by decide +kernel
theorem w_x7_told_108 : Cond.fieldLink RX7 108 "BoltRing$Joint" "loads" "[I" ∈ wsX7_told := by decide +kernel
theorem w_x7_told_66 : Cond.constant RX7 66 (-100002) ∈ wsX7_told := by decide +kernel
theorem w_x7_told_80 : Cond.constant RX7 80 (-100001) ∈ wsX7_told := by decide +kernel
theorem in_x7_told_X2 : ∀ w ∈ wsX20, w ∈ wsX7_told := by decide +kernel
theorem in_x7_told_X7 : ∀ w ∈ wsX70, w ∈ wsX7_told := by decide +kernel
set_option maxHeartbeats 4000000 in
set_option maxRecDepth 100000 in
theorem x7_told_bd {κ : KT} {ad : Nat → Nat} {cA : Nat → ClassId} {D : va_G} {Q : State → Prop} {p1 : Int} {p2 : Int} {s : Mem} (C : CX κ (GA ad cA D) RX7 cX7_told 3 wsX7_told x7_told_rm (some .int)) (h : x7_told p1 p2 s (RT κ (GA ad cA D) ocI Q)) : WM κ (GA ad cA D) 3 Q s 0 [(0, .ref (ad 0)), (1, vI p1), (2, vI p2)] [] := by
  refine r_aload_n C 0 dX7_told_0 rfl ?_
  refine r_get (j := 0) (jz := 0) (v := .ref (ad 1)) C dX7_told_1 (shA_0) rfl rfl (by decide) in_x7_told_X7 w_x7_told_10 rfl rfl rfl ?_
  refine r_iload_n C 1 dX7_told_4 rfl ?_
  refine r_callV (As := [vI p1]) (o := 1) (n := 1) C dX7_told_5 (x2_has_ct κ.1.2.1 ad cA D p1 s) gX7_told_X2_has rfl ⟨rfl, rfl⟩ (by decide +kernel) (by decide) (shA_1) rfl rfl rfl (Nat.le_of_ble_eq_true rfl) (fun _ => rfl) ?_
  refine x2_has_mono h (fun r2 s1 h => ?_)
  refine r_if_ne (tgt := 14) C dX7_told_8 (by decide) ⟨h.1, fun c28 => ?_, fun c28 => ?_⟩
  · have h := h.2.1 c28
    refine r_iload_n C 2 dX7_told_14 rfl ?_
    have hI := h.1
    by_cases c3 : p2 = 0 ∨ p2 = 1 ∨ p2 = 2 ∨ p2 = 3
    · have h := h.2.1 c3
      refine r_tsAny (tgt := 60) C dX7_told_15 (j := Int.toNat (p2 - (0))) ?_ (by omega) (by omega) hI ?_
      · rcases c3 with c3 | c3 | c3 | c3 <;> (rw [c3]; exact ⟨_, rfl, by decide⟩)
      · refine r_aload_n C 0 dX7_told_60 rfl ?_
        refine r_get (j := 0) (jz := 0) (v := .ref (ad 1)) C dX7_told_61 (shA_0) rfl rfl (by decide) in_x7_told_X7 w_x7_told_10 rfl rfl rfl ?_
        refine r_iload_n C 2 dX7_told_64 rfl ?_
        refine r_callV (As := [vI p2]) (o := 1) (n := 1) C dX7_told_65 (x2_valuesOf_ct κ.1.2.1 ad cA D p2 s1) gX7_told_X2_valuesOf rfl ⟨rfl, rfl⟩ (by decide +kernel) (by decide) (shA_1) rfl rfl rfl (Nat.le_of_ble_eq_true rfl) (fun _ => rfl) ?_
        refine x2_valuesOf_mono h (fun r5 s4 h => ?_)
        refine r_iload_n C 1 dX7_told_68 rfl ?_
        have hg := h.1
        have h := h.2
        refine r_iald (nz := 6) C dX7_told_69 (hg) rfl (by decide) ⟨h.1, ?_⟩
        have h := h.2
        exact r_ireturn C dX7_told_70 h
    by_cases c3 : p2 = 4
    · have h := h.2.2.1 c3
      refine r_tsIn (tgt := 71) C 4 dX7_told_15 rfl (by decide) c3 hI (by decide) ?_
      refine r_aload_n C 0 dX7_told_71 rfl ?_
      refine r_get (j := 0) (jz := 0) (v := .ref (ad 1)) C dX7_told_72 (shA_0) rfl rfl (by decide) in_x7_told_X7 w_x7_told_10 rfl rfl rfl ?_
      refine r_iload_n C 1 dX7_told_75 rfl ?_
      refine r_callV (As := [vI p1]) (o := 1) (n := 1) C dX7_told_76 (x2_isBroken_ct κ.1.2.1 ad cA D p1 s1) gX7_told_X2_isBroken rfl ⟨rfl, rfl⟩ (by decide +kernel) (by decide) (shA_1) rfl rfl rfl (Nat.le_of_ble_eq_true rfl) (fun _ => rfl) ?_
      refine x2_isBroken_mono h (fun r7 s6 h => ?_)
      refine r_callS (As := [vI r7]) (n := 1) C dX7_told_79 (x7_asNumber_ct κ.1.2.1 ad cA D r7 s6) gX7_told_X7_asNumber rfl ⟨rfl, rfl⟩ (by decide +kernel) (by decide) rfl rfl (Nat.le_of_ble_eq_true rfl) (fun _ => rfl) ?_
      refine x7_asNumber_mono h (fun r9 s8 h => ?_)
      exact r_ireturn C dX7_told_82 h
    by_cases c3 : p2 = 5
    · have h := h.2.2.2.1 c3
      refine r_tsIn (tgt := 83) C 5 dX7_told_15 rfl (by decide) c3 hI (by decide) ?_
      refine r_aload_n C 0 dX7_told_83 rfl ?_
      refine r_get (j := 1) (jz := 1) (v := .ref (ad 7)) C dX7_told_84 (shA_0) rfl rfl (by decide) in_x7_told_X7 w_x7_told_19 rfl rfl rfl ?_
      refine r_aload_n C 0 dX7_told_87 rfl ?_
      refine r_get (j := 0) (jz := 0) (v := .ref (ad 1)) C dX7_told_88 (shA_0) rfl rfl (by decide) in_x7_told_X7 w_x7_told_10 rfl rfl rfl ?_
      refine r_aload_n C 0 dX7_told_91 rfl ?_
      refine r_get (j := 0) (jz := 0) (v := .ref (ad 1)) C dX7_told_92 (shA_0) rfl rfl (by decide) in_x7_told_X7 w_x7_told_10 rfl rfl rfl ?_
      refine r_get (j := 6) (jz := 6) (v := .ref (ad 5)) C dX7_told_95 (shA_1) rfl rfl (by decide) in_x7_told_X2 w_x7_told_108 rfl rfl rfl ?_
      refine r_callV (As := [.ref (ad 1), .ref (ad 5)]) (o := 7) (n := 2) C dX7_told_98 (x3_settle_ct κ.1.2.1 ad cA D 7 5 s1 (Or.inl rfl)) gX7_told_X3_settle rfl ⟨rfl, rfl⟩ (by decide +kernel) (by decide) (shA_7) rfl rfl rfl (Nat.le_of_ble_eq_true rfl) (fun _ => rfl) ?_
      refine x3_settle_mono h (fun _ s10 h => ?_)
      refine r_aload_n C 0 dX7_told_101 rfl ?_
      refine r_get (j := 1) (jz := 1) (v := .ref (ad 7)) C dX7_told_102 (shA_0) rfl rfl (by decide) in_x7_told_X7 w_x7_told_19 rfl rfl rfl ?_
      refine r_aload_n C 0 dX7_told_105 rfl ?_
      refine r_get (j := 0) (jz := 0) (v := .ref (ad 1)) C dX7_told_106 (shA_0) rfl rfl (by decide) in_x7_told_X7 w_x7_told_10 rfl rfl rfl ?_
      refine r_iload_n C 1 dX7_told_109 rfl ?_
      refine r_callV (As := [.ref (ad 1), vI p1]) (o := 7) (n := 2) C dX7_told_110 (x3_pullUpper_ct κ.1.2.1 ad cA D 7 p1 s10 (Or.inl rfl)) gX7_told_X3_pullUpper rfl ⟨rfl, rfl⟩ (by decide +kernel) (by decide) (shA_7) rfl rfl rfl (Nat.le_of_ble_eq_true rfl) (fun _ => rfl) ?_
      refine x3_pullUpper_mono h (fun r12 s11 h => ?_)
      refine r_lconst (z := 0) C dX7_told_113 rfl ?_
      refine r_lcmp_ne (tgt := 122) C dX7_told_114 dX7_told_115 (by decide) ⟨h.1, fun c17 => ?_, fun c17 => ?_⟩
      · have h := h.2.1 c17
        refine r_iconst C dX7_told_122 ?_
        refine r_callS (As := [vI (0 : Int)]) (n := 1) C dX7_told_123 (x7_asNumber_ct κ.1.2.1 ad cA D (0 : Int) s11) gX7_told_X7_asNumber rfl ⟨rfl, rfl⟩ (by decide +kernel) (by decide) rfl rfl (Nat.le_of_ble_eq_true rfl) (fun _ => rfl) ?_
        refine x7_asNumber_mono h (fun r14 s13 h => ?_)
        exact r_ireturn C dX7_told_126 h
      · have h := h.2.2 c17
        refine r_iconst C dX7_told_118 ?_
        refine r_goto (tgt := 123) C dX7_told_119 (by decide) ?_
        refine r_callS (As := [vI (1 : Int)]) (n := 1) C dX7_told_123 (x7_asNumber_ct κ.1.2.1 ad cA D (1 : Int) s11) gX7_told_X7_asNumber rfl ⟨rfl, rfl⟩ (by decide +kernel) (by decide) rfl rfl (Nat.le_of_ble_eq_true rfl) (fun _ => rfl) ?_
        refine x7_asNumber_mono h (fun r16 s15 h => ?_)
        exact r_ireturn C dX7_told_126 h
    by_cases c3 : p2 = 6
    · have h := h.2.2.2.2.1 c3
      refine r_tsIn (tgt := 127) C 6 dX7_told_15 rfl (by decide) c3 hI (by decide) ?_
      refine r_aload_n C 0 dX7_told_127 rfl ?_
      refine r_get (j := 1) (jz := 1) (v := .ref (ad 7)) C dX7_told_128 (shA_0) rfl rfl (by decide) in_x7_told_X7 w_x7_told_19 rfl rfl rfl ?_
      refine r_aload_n C 0 dX7_told_131 rfl ?_
      refine r_get (j := 0) (jz := 0) (v := .ref (ad 1)) C dX7_told_132 (shA_0) rfl rfl (by decide) in_x7_told_X7 w_x7_told_10 rfl rfl rfl ?_
      refine r_aload_n C 0 dX7_told_135 rfl ?_
      refine r_get (j := 0) (jz := 0) (v := .ref (ad 1)) C dX7_told_136 (shA_0) rfl rfl (by decide) in_x7_told_X7 w_x7_told_10 rfl rfl rfl ?_
      refine r_get (j := 6) (jz := 6) (v := .ref (ad 5)) C dX7_told_139 (shA_1) rfl rfl (by decide) in_x7_told_X2 w_x7_told_108 rfl rfl rfl ?_
      refine r_callV (As := [.ref (ad 1), .ref (ad 5)]) (o := 7) (n := 2) C dX7_told_142 (x3_settle_ct κ.1.2.1 ad cA D 7 5 s1 (Or.inl rfl)) gX7_told_X3_settle rfl ⟨rfl, rfl⟩ (by decide +kernel) (by decide) (shA_7) rfl rfl rfl (Nat.le_of_ble_eq_true rfl) (fun _ => rfl) ?_
      refine x3_settle_mono h (fun _ s18 h => ?_)
      refine r_aload_n C 0 dX7_told_145 rfl ?_
      refine r_get (j := 1) (jz := 1) (v := .ref (ad 7)) C dX7_told_146 (shA_0) rfl rfl (by decide) in_x7_told_X7 w_x7_told_19 rfl rfl rfl ?_
      refine r_aload_n C 0 dX7_told_149 rfl ?_
      refine r_get (j := 0) (jz := 0) (v := .ref (ad 1)) C dX7_told_150 (shA_0) rfl rfl (by decide) in_x7_told_X7 w_x7_told_10 rfl rfl rfl ?_
      refine r_iload_n C 1 dX7_told_153 rfl ?_
      refine r_callV (As := [.ref (ad 1), vI p1]) (o := 7) (n := 2) C dX7_told_154 (x3_pressUpper_ct κ.1.2.1 ad cA D 7 p1 s18 (Or.inl rfl)) gX7_told_X3_pressUpper rfl ⟨rfl, rfl⟩ (by decide +kernel) (by decide) (shA_7) rfl rfl rfl (Nat.le_of_ble_eq_true rfl) (fun _ => rfl) ?_
      refine x3_pressUpper_mono h (fun r20 s19 h => ?_)
      refine r_lconst (z := 0) C dX7_told_157 rfl ?_
      refine r_lcmp_ne (tgt := 166) C dX7_told_158 dX7_told_159 (by decide) ⟨h.1, fun c25 => ?_, fun c25 => ?_⟩
      · have h := h.2.1 c25
        refine r_iconst C dX7_told_166 ?_
        refine r_callS (As := [vI (0 : Int)]) (n := 1) C dX7_told_167 (x7_asNumber_ct κ.1.2.1 ad cA D (0 : Int) s19) gX7_told_X7_asNumber rfl ⟨rfl, rfl⟩ (by decide +kernel) (by decide) rfl rfl (Nat.le_of_ble_eq_true rfl) (fun _ => rfl) ?_
        refine x7_asNumber_mono h (fun r22 s21 h => ?_)
        exact r_ireturn C dX7_told_170 h
      · have h := h.2.2 c25
        refine r_iconst C dX7_told_162 ?_
        refine r_goto (tgt := 167) C dX7_told_163 (by decide) ?_
        refine r_callS (As := [vI (1 : Int)]) (n := 1) C dX7_told_167 (x7_asNumber_ct κ.1.2.1 ad cA D (1 : Int) s19) gX7_told_X7_asNumber rfl ⟨rfl, rfl⟩ (by decide +kernel) (by decide) rfl rfl (Nat.le_of_ble_eq_true rfl) (fun _ => rfl) ?_
        refine x7_asNumber_mono h (fun r24 s23 h => ?_)
        exact r_ireturn C dX7_told_170 h
    by_cases c3 : p2 = 7
    · have h := h.2.2.2.2.2.1 c3
      refine r_tsIn (tgt := 171) C 7 dX7_told_15 rfl (by decide) c3 hI (by decide) ?_
      refine r_aload_n C 0 dX7_told_171 rfl ?_
      refine r_get (j := 0) (jz := 0) (v := .ref (ad 1)) C dX7_told_172 (shA_0) rfl rfl (by decide) in_x7_told_X7 w_x7_told_10 rfl rfl rfl ?_
      refine r_iload_n C 1 dX7_told_175 rfl ?_
      refine r_callV (As := [vI p1]) (o := 1) (n := 1) C dX7_told_176 (x2_placeInRow_ct κ.1.2.1 ad cA D p1 s1) gX7_told_X2_placeInRow rfl ⟨rfl, rfl⟩ (by decide +kernel) (by decide) (shA_1) rfl rfl rfl (Nat.le_of_ble_eq_true rfl) (fun _ => rfl) ?_
      refine x2_placeInRow_mono h (fun r27 s26 h => ?_)
      exact r_ireturn C dX7_told_179 h
    have c3d : p2 < 0 ∨ 7 < p2 := by omega
    have h := h.2.2.2.2.2.2 c3d
    refine r_tsOut (tgt := 180) C dX7_told_15 c3d hI (by decide) ?_
    refine r_ldc (z := -100002) C dX7_told_180 w_x7_told_66 rfl ?_
    exact r_ireturn C dX7_told_182 h
  · have h := h.2.2 c28
    refine r_ldc (z := -100001) C dX7_told_11 w_x7_told_80 rfl ?_
    exact r_ireturn C dX7_told_13 h
theorem x7_told_ct (l : Launch) (ad : Nat → Nat) (cA : Nat → ClassId) (D : va_G) (p1 : Int) (p2 : Int) (s : Mem) : MG l yX7_told wsX7_told x7_told_rm ocI [.ref (ad 0), vI p1, vI p2] (GA ad cA D) s (x7_told p1 p2 s) :=
  m_met (own := RX7) (nL := 3) (by decide) rfl rfl (Nat.le_of_ble_eq_true rfl) rfl rfl rfl (fun κ hl C Q Pst hW hQ => x7_told_bd C (x7_told_mono hW hQ))

def x7_count (p1 : Int) (s : Mem) (Q : Int → Mem → Prop) : Prop :=
  InI p1 ∧ ((p1 = 0) → Q (s 1 (0 : Int)) s) ∧ ((p1 = 1) → j6_bitCount_0f7a4 (s 1 (2 : Int)) s (fun r3 s2 => Q r3 s2)) ∧ ((p1 = 2) → x3_settle 7 5 s (fun _ s4 => x3_slackCount 7 s4 (fun r6 s5 => Q r6 s5))) ∧ ((p1 = 3) → x3_settle 7 5 s (fun _ s7 => x3_openCount 7 s7 (fun r9 s8 => Q r9 s8))) ∧ ((p1 = 4) → x2_sumOf 4 s (fun r11 s10 => Q r11 s10)) ∧ ((p1 = 5) → Q (s 23 (0 : Int)) s) ∧ ((p1 = 6) → j6_bitCount_0f7a4 (s 34 (0 : Int)) s (fun r13 s12 => Q r13 s12)) ∧ ((p1 = 7) → Q (s 37 (0 : Int)) s) ∧ ((p1 = 8) → Q (s 0 (7 : Int)) s) ∧ ((p1 < 0 ∨ 8 < p1) → Q (-100002 : Int) s)
theorem x7_count_mono {Q R : Int → Mem → Prop} {p1 : Int} {s : Mem} (h : x7_count p1 s Q) (hQ : ∀ r s, Q r s → R r s) : x7_count p1 s R :=
  ⟨h.1, fun c => have h := h.2.1 c; hQ _ _ h, fun c => have h := h.2.2.1 c; j6_bitCount_0f7a4_mono h (fun r3 s2 h => hQ _ _ h), fun c => have h := h.2.2.2.1 c; x3_settle_mono h (fun _ s4 h => x3_slackCount_mono h (fun r6 s5 h => hQ _ _ h)), fun c => have h := h.2.2.2.2.1 c; x3_settle_mono h (fun _ s7 h => x3_openCount_mono h (fun r9 s8 h => hQ _ _ h)), fun c => have h := h.2.2.2.2.2.1 c; x2_sumOf_mono h (fun r11 s10 h => hQ _ _ h), fun c => have h := h.2.2.2.2.2.2.1 c; hQ _ _ h, fun c => have h := h.2.2.2.2.2.2.2.1 c; j6_bitCount_0f7a4_mono h (fun r13 s12 h => hQ _ _ h), fun c => have h := h.2.2.2.2.2.2.2.2.1 c; hQ _ _ h, fun c => have h := h.2.2.2.2.2.2.2.2.2.1 c; hQ _ _ h, fun c => have h := h.2.2.2.2.2.2.2.2.2.2 c; hQ _ _ h⟩
def x7_count_rm : Room := { frames := 3, cells := 0, slots := 0, locals := 105 }
theorem w_x7_count_10 : Cond.fieldLink RX7 10 "BoltRing" "ring" "LBoltRing$Joint;" ∈ wsX7_count := by decide +kernel
theorem w_x7_count_142 : Cond.fieldLink RX7 142 "BoltRing$Joint" "bolts" "I" ∈ wsX7_count := by decide +kernel
theorem w_x7_count_145 : Cond.fieldLink RX7 145 "BoltRing$Joint" "brokenSet" "I" ∈ wsX7_count := by decide +kernel
theorem w_x7_count_19 : Cond.fieldLink RX7 19 "BoltRing" "lifts" "LBoltRing$Lifts;" ∈ wsX7_count := by decide +kernel
theorem w_x7_count_108 : Cond.fieldLink RX7 108 "BoltRing$Joint" "loads" "[I" ∈ wsX7_count := by decide +kernel
theorem w_x7_count_160 : Cond.fieldLink RX7 160 "BoltRing$Joint" "turns" "[I" ∈ wsX7_count := by decide +kernel
theorem w_x7_count_33 : Cond.fieldLink RX7 33 "BoltRing" "cases" "LBoltRing$Cases;" ∈ wsX7_count := by decide +kernel
theorem w_x7_count_67 : Cond.fieldLink RX7 67 "BoltRing$Cases" "count" "I" ∈ wsX7_count := by decide +kernel
theorem w_x7_count_47 : Cond.fieldLink RX7 47 "BoltRing" "readings" "LBoltRing$Readings;" ∈ wsX7_count := by decide +kernel
theorem w_x7_count_73 : Cond.fieldLink RX7 73 "BoltRing$Readings" "told" "I" ∈ wsX7_count := by decide +kernel
theorem w_x7_count_54 : Cond.fieldLink RX7 54 "BoltRing" "orders" "LBoltRing$Orders;" ∈ wsX7_count := by decide +kernel
theorem w_x7_count_167 : Cond.fieldLink RX7 167 "BoltRing$Orders" "length" "I" ∈ wsX7_count := by decide +kernel
theorem w_x7_count_170 : Cond.fieldLink RX7 170 "BoltRing" "clausesDone" "I" ∈ wsX7_count := by decide +kernel
theorem w_x7_count_66 : Cond.constant RX7 66 (-100002) ∈ wsX7_count := by decide +kernel
theorem in_x7_count_X0 : ∀ w ∈ wsX00, w ∈ wsX7_count := by decide +kernel
theorem in_x7_count_X2 : ∀ w ∈ wsX20, w ∈ wsX7_count := by decide +kernel
theorem in_x7_count_X5 : ∀ w ∈ wsX50, w ∈ wsX7_count := by decide +kernel
theorem in_x7_count_X6 : ∀ w ∈ wsX60, w ∈ wsX7_count := by decide +kernel
theorem in_x7_count_X7 : ∀ w ∈ wsX70, w ∈ wsX7_count := by decide +kernel
set_option maxHeartbeats 4000000 in
set_option maxRecDepth 100000 in
theorem x7_count_bd {κ : KT} {ad : Nat → Nat} {cA : Nat → ClassId} {D : va_G} {Q : State → Prop} {p1 : Int} {s : Mem} (C : CX κ (GA ad cA D) RX7 cX7_count 2 wsX7_count x7_count_rm (some .int)) (h : x7_count p1 s (RT κ (GA ad cA D) ocI Q)) : WM κ (GA ad cA D) 2 Q s 0 [(0, .ref (ad 0)), (1, vI p1)] [] := by
  refine r_iload_n C 1 dX7_count_0 rfl ?_
  have hI := h.1
  by_cases c1 : p1 = 0
  · have h := h.2.1 c1
    refine r_tsIn (tgt := 52) C 0 dX7_count_1 rfl (by decide) c1 hI (by decide) ?_
    refine r_aload_n C 0 dX7_count_52 rfl ?_
    refine r_get (j := 0) (jz := 0) (v := .ref (ad 1)) C dX7_count_53 (shA_0) rfl rfl (by decide) in_x7_count_X7 w_x7_count_10 rfl rfl rfl ?_
    refine r_get (j := 0) (jz := 0) (v := vI (s 1 (0 : Int))) C dX7_count_56 (shA_1) rfl rfl (by decide) in_x7_count_X2 w_x7_count_142 rfl rfl rfl ?_
    exact r_ireturn C dX7_count_59 h
  by_cases c1 : p1 = 1
  · have h := h.2.2.1 c1
    refine r_tsIn (tgt := 60) C 1 dX7_count_1 rfl (by decide) c1 hI (by decide) ?_
    refine r_aload_n C 0 dX7_count_60 rfl ?_
    refine r_get (j := 0) (jz := 0) (v := .ref (ad 1)) C dX7_count_61 (shA_0) rfl rfl (by decide) in_x7_count_X7 w_x7_count_10 rfl rfl rfl ?_
    refine r_get (j := 2) (jz := 2) (v := vI (s 1 (2 : Int))) C dX7_count_64 (shA_1) rfl rfl (by decide) in_x7_count_X2 w_x7_count_145 rfl rfl rfl ?_
    refine r_callS (As := [vI (s 1 (2 : Int))]) (n := 1) C dX7_count_67 (j6_bitCount_0f7a4_ct κ.1.2.1 ad cA D (s 1 (2 : Int)) s) gX7_count_J6_bitCount_0f7a4 rfl ⟨rfl, rfl⟩ (by decide +kernel) (by decide) rfl rfl (Nat.le_of_ble_eq_true rfl) (fun _ => rfl) ?_
    refine j6_bitCount_0f7a4_mono h (fun r3 s2 h => ?_)
    exact r_ireturn C dX7_count_70 h
  by_cases c1 : p1 = 2
  · have h := h.2.2.2.1 c1
    refine r_tsIn (tgt := 71) C 2 dX7_count_1 rfl (by decide) c1 hI (by decide) ?_
    refine r_aload_n C 0 dX7_count_71 rfl ?_
    refine r_get (j := 1) (jz := 1) (v := .ref (ad 7)) C dX7_count_72 (shA_0) rfl rfl (by decide) in_x7_count_X7 w_x7_count_19 rfl rfl rfl ?_
    refine r_aload_n C 0 dX7_count_75 rfl ?_
    refine r_get (j := 0) (jz := 0) (v := .ref (ad 1)) C dX7_count_76 (shA_0) rfl rfl (by decide) in_x7_count_X7 w_x7_count_10 rfl rfl rfl ?_
    refine r_aload_n C 0 dX7_count_79 rfl ?_
    refine r_get (j := 0) (jz := 0) (v := .ref (ad 1)) C dX7_count_80 (shA_0) rfl rfl (by decide) in_x7_count_X7 w_x7_count_10 rfl rfl rfl ?_
    refine r_get (j := 6) (jz := 6) (v := .ref (ad 5)) C dX7_count_83 (shA_1) rfl rfl (by decide) in_x7_count_X2 w_x7_count_108 rfl rfl rfl ?_
    refine r_callV (As := [.ref (ad 1), .ref (ad 5)]) (o := 7) (n := 2) C dX7_count_86 (x3_settle_ct κ.1.2.1 ad cA D 7 5 s (Or.inl rfl)) gX7_count_X3_settle rfl ⟨rfl, rfl⟩ (by decide +kernel) (by decide) (shA_7) rfl rfl rfl (Nat.le_of_ble_eq_true rfl) (fun _ => rfl) ?_
    refine x3_settle_mono h (fun _ s4 h => ?_)
    refine r_aload_n C 0 dX7_count_89 rfl ?_
    refine r_get (j := 1) (jz := 1) (v := .ref (ad 7)) C dX7_count_90 (shA_0) rfl rfl (by decide) in_x7_count_X7 w_x7_count_19 rfl rfl rfl ?_
    refine r_aload_n C 0 dX7_count_93 rfl ?_
    refine r_get (j := 0) (jz := 0) (v := .ref (ad 1)) C dX7_count_94 (shA_0) rfl rfl (by decide) in_x7_count_X7 w_x7_count_10 rfl rfl rfl ?_
    refine r_callV (As := [.ref (ad 1)]) (o := 7) (n := 1) C dX7_count_97 (x3_slackCount_ct κ.1.2.1 ad cA D 7 s4 (Or.inl rfl)) gX7_count_X3_slackCount rfl ⟨rfl, rfl⟩ (by decide +kernel) (by decide) (shA_7) rfl rfl rfl (Nat.le_of_ble_eq_true rfl) (fun _ => rfl) ?_
    refine x3_slackCount_mono h (fun r6 s5 h => ?_)
    exact r_ireturn C dX7_count_100 h
  by_cases c1 : p1 = 3
  · have h := h.2.2.2.2.1 c1
    refine r_tsIn (tgt := 101) C 3 dX7_count_1 rfl (by decide) c1 hI (by decide) ?_
    refine r_aload_n C 0 dX7_count_101 rfl ?_
    refine r_get (j := 1) (jz := 1) (v := .ref (ad 7)) C dX7_count_102 (shA_0) rfl rfl (by decide) in_x7_count_X7 w_x7_count_19 rfl rfl rfl ?_
    refine r_aload_n C 0 dX7_count_105 rfl ?_
    refine r_get (j := 0) (jz := 0) (v := .ref (ad 1)) C dX7_count_106 (shA_0) rfl rfl (by decide) in_x7_count_X7 w_x7_count_10 rfl rfl rfl ?_
    refine r_aload_n C 0 dX7_count_109 rfl ?_
    refine r_get (j := 0) (jz := 0) (v := .ref (ad 1)) C dX7_count_110 (shA_0) rfl rfl (by decide) in_x7_count_X7 w_x7_count_10 rfl rfl rfl ?_
    refine r_get (j := 6) (jz := 6) (v := .ref (ad 5)) C dX7_count_113 (shA_1) rfl rfl (by decide) in_x7_count_X2 w_x7_count_108 rfl rfl rfl ?_
    refine r_callV (As := [.ref (ad 1), .ref (ad 5)]) (o := 7) (n := 2) C dX7_count_116 (x3_settle_ct κ.1.2.1 ad cA D 7 5 s (Or.inl rfl)) gX7_count_X3_settle rfl ⟨rfl, rfl⟩ (by decide +kernel) (by decide) (shA_7) rfl rfl rfl (Nat.le_of_ble_eq_true rfl) (fun _ => rfl) ?_
    refine x3_settle_mono h (fun _ s7 h => ?_)
    refine r_aload_n C 0 dX7_count_119 rfl ?_
    refine r_get (j := 1) (jz := 1) (v := .ref (ad 7)) C dX7_count_120 (shA_0) rfl rfl (by decide) in_x7_count_X7 w_x7_count_19 rfl rfl rfl ?_
    refine r_aload_n C 0 dX7_count_123 rfl ?_
    refine r_get (j := 0) (jz := 0) (v := .ref (ad 1)) C dX7_count_124 (shA_0) rfl rfl (by decide) in_x7_count_X7 w_x7_count_10 rfl rfl rfl ?_
    refine r_callV (As := [.ref (ad 1)]) (o := 7) (n := 1) C dX7_count_127 (x3_openCount_ct κ.1.2.1 ad cA D 7 s7 (Or.inl rfl)) gX7_count_X3_openCount rfl ⟨rfl, rfl⟩ (by decide +kernel) (by decide) (shA_7) rfl rfl rfl (Nat.le_of_ble_eq_true rfl) (fun _ => rfl) ?_
    refine x3_openCount_mono h (fun r9 s8 h => ?_)
    exact r_ireturn C dX7_count_130 h
  by_cases c1 : p1 = 4
  · have h := h.2.2.2.2.2.1 c1
    refine r_tsIn (tgt := 131) C 4 dX7_count_1 rfl (by decide) c1 hI (by decide) ?_
    refine r_aload_n C 0 dX7_count_131 rfl ?_
    refine r_get (j := 0) (jz := 0) (v := .ref (ad 1)) C dX7_count_132 (shA_0) rfl rfl (by decide) in_x7_count_X7 w_x7_count_10 rfl rfl rfl ?_
    refine r_aload_n C 0 dX7_count_135 rfl ?_
    refine r_get (j := 0) (jz := 0) (v := .ref (ad 1)) C dX7_count_136 (shA_0) rfl rfl (by decide) in_x7_count_X7 w_x7_count_10 rfl rfl rfl ?_
    refine r_get (j := 5) (jz := 5) (v := .ref (ad 4)) C dX7_count_139 (shA_1) rfl rfl (by decide) in_x7_count_X2 w_x7_count_160 rfl rfl rfl ?_
    refine r_callV (As := [.ref (ad 4)]) (o := 1) (n := 1) C dX7_count_142 (x2_sumOf_ct κ.1.2.1 ad cA D 4 s) gX7_count_X2_sumOf rfl ⟨rfl, rfl⟩ (by decide +kernel) (by decide) (shA_1) rfl rfl rfl (Nat.le_of_ble_eq_true rfl) (fun _ => rfl) ?_
    refine x2_sumOf_mono h (fun r11 s10 h => ?_)
    exact r_ireturn C dX7_count_145 h
  by_cases c1 : p1 = 5
  · have h := h.2.2.2.2.2.2.1 c1
    refine r_tsIn (tgt := 146) C 5 dX7_count_1 rfl (by decide) c1 hI (by decide) ?_
    refine r_aload_n C 0 dX7_count_146 rfl ?_
    refine r_get (j := 3) (jz := 3) (v := .ref (ad 23)) C dX7_count_147 (shA_0) rfl rfl (by decide) in_x7_count_X7 w_x7_count_33 rfl rfl rfl ?_
    refine r_get (j := 0) (jz := 0) (v := vI (s 23 (0 : Int))) C dX7_count_150 (shA_23) rfl rfl (by decide) in_x7_count_X0 w_x7_count_67 rfl rfl rfl ?_
    exact r_ireturn C dX7_count_153 h
  by_cases c1 : p1 = 6
  · have h := h.2.2.2.2.2.2.2.1 c1
    refine r_tsIn (tgt := 154) C 6 dX7_count_1 rfl (by decide) c1 hI (by decide) ?_
    refine r_aload_n C 0 dX7_count_154 rfl ?_
    refine r_get (j := 5) (jz := 5) (v := .ref (ad 34)) C dX7_count_155 (shA_0) rfl rfl (by decide) in_x7_count_X7 w_x7_count_47 rfl rfl rfl ?_
    refine r_get (j := 0) (jz := 0) (v := vI (s 34 (0 : Int))) C dX7_count_158 (shA_34) rfl rfl (by decide) in_x7_count_X6 w_x7_count_73 rfl rfl rfl ?_
    refine r_callS (As := [vI (s 34 (0 : Int))]) (n := 1) C dX7_count_161 (j6_bitCount_0f7a4_ct κ.1.2.1 ad cA D (s 34 (0 : Int)) s) gX7_count_J6_bitCount_0f7a4 rfl ⟨rfl, rfl⟩ (by decide +kernel) (by decide) rfl rfl (Nat.le_of_ble_eq_true rfl) (fun _ => rfl) ?_
    refine j6_bitCount_0f7a4_mono h (fun r13 s12 h => ?_)
    exact r_ireturn C dX7_count_164 h
  by_cases c1 : p1 = 7
  · have h := h.2.2.2.2.2.2.2.2.1 c1
    refine r_tsIn (tgt := 165) C 7 dX7_count_1 rfl (by decide) c1 hI (by decide) ?_
    refine r_aload_n C 0 dX7_count_165 rfl ?_
    refine r_get (j := 6) (jz := 6) (v := .ref (ad 37)) C dX7_count_166 (shA_0) rfl rfl (by decide) in_x7_count_X7 w_x7_count_54 rfl rfl rfl ?_
    refine r_get (j := 0) (jz := 0) (v := vI (s 37 (0 : Int))) C dX7_count_169 (shA_37) rfl rfl (by decide) in_x7_count_X5 w_x7_count_167 rfl rfl rfl ?_
    exact r_ireturn C dX7_count_172 h
  by_cases c1 : p1 = 8
  · have h := h.2.2.2.2.2.2.2.2.2.1 c1
    refine r_tsIn (tgt := 173) C 8 dX7_count_1 rfl (by decide) c1 hI (by decide) ?_
    refine r_aload_n C 0 dX7_count_173 rfl ?_
    refine r_get (j := 7) (jz := 7) (v := vI (s 0 (7 : Int))) C dX7_count_174 (shA_0) rfl rfl (by decide) in_x7_count_X7 w_x7_count_170 rfl rfl rfl ?_
    exact r_ireturn C dX7_count_177 h
  have c1d : p1 < 0 ∨ 8 < p1 := by omega
  have h := h.2.2.2.2.2.2.2.2.2.2 c1d
  refine r_tsOut (tgt := 178) C dX7_count_1 c1d hI (by decide) ?_
  refine r_ldc (z := -100002) C dX7_count_178 w_x7_count_66 rfl ?_
  exact r_ireturn C dX7_count_180 h
theorem x7_count_ct (l : Launch) (ad : Nat → Nat) (cA : Nat → ClassId) (D : va_G) (p1 : Int) (s : Mem) : MG l yX7_count wsX7_count x7_count_rm ocI [.ref (ad 0), vI p1] (GA ad cA D) s (x7_count p1 s) :=
  m_met (own := RX7) (nL := 2) (by decide) rfl rfl (Nat.le_of_ble_eq_true rfl) rfl rfl rfl (fun κ hl C Q Pst hW hQ => x7_count_bd C (x7_count_mono hW hQ))

def x7_row (p1 : Int) (s : Mem) (Q : Int → Mem → Prop) : Prop :=
  x2_takeRow p1 s (fun r2 s1 => InI r2 ∧ (r2 = (0 : Int) → Q (-100002 : Int) s1) ∧ (¬ r2 = (0 : Int) → Q (1 : Int) s1))
theorem x7_row_mono {Q R : Int → Mem → Prop} {p1 : Int} {s : Mem} (h : x7_row p1 s Q) (hQ : ∀ r s, Q r s → R r s) : x7_row p1 s R :=
  x2_takeRow_mono h (fun r2 s1 h => ⟨h.1, fun c => have h := h.2.1 c; hQ _ _ h, fun c => have h := h.2.2 c; hQ _ _ h⟩)
def x7_row_rm : Room := { frames := 3, cells := 0, slots := 0, locals := 68 }
theorem w_x7_row_10 : Cond.fieldLink RX7 10 "BoltRing" "ring" "LBoltRing$Joint;" ∈ wsX7_row := by decide +kernel
theorem w_x7_row_66 : Cond.constant RX7 66 (-100002) ∈ wsX7_row := by decide +kernel
theorem in_x7_row_X7 : ∀ w ∈ wsX70, w ∈ wsX7_row := by decide +kernel
set_option maxHeartbeats 4000000 in
set_option maxRecDepth 100000 in
theorem x7_row_bd {κ : KT} {ad : Nat → Nat} {cA : Nat → ClassId} {D : va_G} {Q : State → Prop} {p1 : Int} {s : Mem} (C : CX κ (GA ad cA D) RX7 cX7_row 2 wsX7_row x7_row_rm (some .int)) (h : x7_row p1 s (RT κ (GA ad cA D) ocI Q)) : WM κ (GA ad cA D) 2 Q s 0 [(0, .ref (ad 0)), (1, vI p1)] [] := by
  refine r_aload_n C 0 dX7_row_0 rfl ?_
  refine r_get (j := 0) (jz := 0) (v := .ref (ad 1)) C dX7_row_1 (shA_0) rfl rfl (by decide) in_x7_row_X7 w_x7_row_10 rfl rfl rfl ?_
  refine r_iload_n C 1 dX7_row_4 rfl ?_
  refine r_callV (As := [vI p1]) (o := 1) (n := 1) C dX7_row_5 (x2_takeRow_ct κ.1.2.1 ad cA D p1 s) gX7_row_X2_takeRow rfl ⟨rfl, rfl⟩ (by decide +kernel) (by decide) (shA_1) rfl rfl rfl (Nat.le_of_ble_eq_true rfl) (fun _ => rfl) ?_
  refine x2_takeRow_mono h (fun r2 s1 h => ?_)
  refine r_if_eq (tgt := 15) C dX7_row_8 (by decide) ⟨h.1, fun c3 => ?_, fun c3 => ?_⟩
  · have h := h.2.1 c3
    refine r_ldc (z := -100002) C dX7_row_15 w_x7_row_66 rfl ?_
    exact r_ireturn C dX7_row_17 h
  · have h := h.2.2 c3
    refine r_iconst C dX7_row_11 ?_
    refine r_goto (tgt := 17) C dX7_row_12 (by decide) ?_
    exact r_ireturn C dX7_row_17 h
theorem x7_row_ct (l : Launch) (ad : Nat → Nat) (cA : Nat → ClassId) (D : va_G) (p1 : Int) (s : Mem) : MG l yX7_row wsX7_row x7_row_rm ocI [.ref (ad 0), vI p1] (GA ad cA D) s (x7_row p1 s) :=
  m_met (own := RX7) (nL := 2) (by decide) rfl rfl (Nat.le_of_ble_eq_true rfl) rfl rfl rfl (fun κ hl C Q Pst hW hQ => x7_row_bd C (x7_row_mono hW hQ))

def x7_passes (p1 : Int) (s : Mem) (Q : Int → Mem → Prop) : Prop :=
  x7_within p1 (1 : Int) (900 : Int) s (fun r2 s1 => InI r2 ∧ (¬ r2 = (0 : Int) → x1_keepTurns s1 (fun _ s3 => x1_goRounds 6 p1 (20 : Int) s3 (fun r5 s4 => (InI r5 ∧ InI (-1 : Int)) ∧ (¬ r5 = (-1 : Int) → Q r5 s4) ∧ (r5 = (-1 : Int) → x1_putTurnsBack s4 (fun _ s6 => Q (-100003 : Int) s6))))) ∧ (r2 = (0 : Int) → Q (-100002 : Int) s1))
theorem x7_passes_mono {Q R : Int → Mem → Prop} {p1 : Int} {s : Mem} (h : x7_passes p1 s Q) (hQ : ∀ r s, Q r s → R r s) : x7_passes p1 s R :=
  x7_within_mono h (fun r2 s1 h => ⟨h.1, fun c => have h := h.2.1 c; x1_keepTurns_mono h (fun _ s3 h => x1_goRounds_mono h (fun r5 s4 h => ⟨h.1, fun c => have h := h.2.1 c; hQ _ _ h, fun c => have h := h.2.2 c; x1_putTurnsBack_mono h (fun _ s6 h => hQ _ _ h)⟩)), fun c => have h := h.2.2 c; hQ _ _ h⟩)
def x7_passes_rm : Room := { frames := 5, cells := 0, slots := 0, locals := 144 }
theorem w_x7_passes_26 : Cond.fieldLink RX7 26 "BoltRing" "drawing" "LBoltRing$Drawing;" ∈ wsX7_passes := by decide +kernel
theorem w_x7_passes_10 : Cond.fieldLink RX7 10 "BoltRing" "ring" "LBoltRing$Joint;" ∈ wsX7_passes := by decide +kernel
theorem w_x7_passes_180 : Cond.fieldLink RX7 180 "BoltRing$Joint" "order" "[I" ∈ wsX7_passes := by decide +kernel
theorem w_x7_passes_99 : Cond.constant RX7 99 (-100003) ∈ wsX7_passes := by decide +kernel
theorem w_x7_passes_66 : Cond.constant RX7 66 (-100002) ∈ wsX7_passes := by decide +kernel
theorem in_x7_passes_X2 : ∀ w ∈ wsX20, w ∈ wsX7_passes := by decide +kernel
theorem in_x7_passes_X7 : ∀ w ∈ wsX70, w ∈ wsX7_passes := by decide +kernel
set_option maxHeartbeats 4000000 in
set_option maxRecDepth 100000 in
theorem x7_passes_bd {κ : KT} {ad : Nat → Nat} {cA : Nat → ClassId} {D : va_G} {Q : State → Prop} {p1 : Int} {s : Mem} (C : CX κ (GA ad cA D) RX7 cX7_passes 3 wsX7_passes x7_passes_rm (some .int)) (h : x7_passes p1 s (RT κ (GA ad cA D) ocI Q)) : WM κ (GA ad cA D) 3 Q s 0 [(0, .ref (ad 0)), (1, vI p1)] [] := by
  refine r_iload_n C 1 dX7_passes_0 rfl ?_
  refine r_iconst C dX7_passes_1 ?_
  refine r_sipush C dX7_passes_2 (by decide) ?_
  refine r_callS (As := [vI p1, vI (1 : Int), vI (900 : Int)]) (n := 3) C dX7_passes_5 (x7_within_ct κ.1.2.1 ad cA D p1 (1 : Int) (900 : Int) s) gX7_passes_X7_within rfl ⟨rfl, rfl⟩ (by decide +kernel) (by decide) rfl rfl (Nat.le_of_ble_eq_true rfl) (fun _ => rfl) ?_
  refine x7_within_mono h (fun r2 s1 h => ?_)
  refine r_if_ne (tgt := 14) C dX7_passes_8 (by decide) ⟨h.1, fun c8 => ?_, fun c8 => ?_⟩
  · have h := h.2.1 c8
    refine r_aload_n C 0 dX7_passes_14 rfl ?_
    refine r_get (j := 2) (jz := 2) (v := .ref (ad 13)) C dX7_passes_15 (shA_0) rfl rfl (by decide) in_x7_passes_X7 w_x7_passes_26 rfl rfl rfl ?_
    refine r_aload_n C 0 dX7_passes_18 rfl ?_
    refine r_get (j := 0) (jz := 0) (v := .ref (ad 1)) C dX7_passes_19 (shA_0) rfl rfl (by decide) in_x7_passes_X7 w_x7_passes_10 rfl rfl rfl ?_
    refine r_callV (As := [.ref (ad 1)]) (o := 13) (n := 1) C dX7_passes_22 (x1_keepTurns_ct κ.1.2.1 ad cA D s1) gX7_passes_X1_keepTurns rfl ⟨rfl, rfl⟩ (by decide +kernel) (by decide) (shA_13) rfl rfl rfl (Nat.le_of_ble_eq_true rfl) (fun _ => rfl) ?_
    refine x1_keepTurns_mono h (fun _ s3 h => ?_)
    refine r_aload_n C 0 dX7_passes_25 rfl ?_
    refine r_get (j := 2) (jz := 2) (v := .ref (ad 13)) C dX7_passes_26 (shA_0) rfl rfl (by decide) in_x7_passes_X7 w_x7_passes_26 rfl rfl rfl ?_
    refine r_aload_n C 0 dX7_passes_29 rfl ?_
    refine r_get (j := 0) (jz := 0) (v := .ref (ad 1)) C dX7_passes_30 (shA_0) rfl rfl (by decide) in_x7_passes_X7 w_x7_passes_10 rfl rfl rfl ?_
    refine r_aload_n C 0 dX7_passes_33 rfl ?_
    refine r_get (j := 0) (jz := 0) (v := .ref (ad 1)) C dX7_passes_34 (shA_0) rfl rfl (by decide) in_x7_passes_X7 w_x7_passes_10 rfl rfl rfl ?_
    refine r_get (j := 7) (jz := 7) (v := .ref (ad 6)) C dX7_passes_37 (shA_1) rfl rfl (by decide) in_x7_passes_X2 w_x7_passes_180 rfl rfl rfl ?_
    refine r_iload_n C 1 dX7_passes_40 rfl ?_
    refine r_bipush C dX7_passes_41 (by decide) ?_
    refine r_callV (As := [.ref (ad 1), .ref (ad 6), vI p1, vI (20 : Int)]) (o := 13) (n := 4) C dX7_passes_43 (x1_goRounds_ct κ.1.2.1 ad cA D 6 p1 (20 : Int) s3) gX7_passes_X1_goRounds rfl ⟨rfl, rfl⟩ (by decide +kernel) (by decide) (shA_13) rfl rfl rfl (Nat.le_of_ble_eq_true rfl) (fun _ => rfl) ?_
    refine x1_goRounds_mono h (fun r5 s4 h => ?_)
    refine r_istore_n (ls' := [(2, vI r5), (0, .ref (ad 0)), (1, vI p1)]) C dX7_passes_46 rfl (by decide) rfl ?_
    refine r_iload_n C 0 dX7_passes_47 rfl ?_
    refine r_iconst C dX7_passes_48 ?_
    refine r_icmp_ne (tgt := 66) C dX7_passes_49 (by decide) ⟨h.1, fun c7 => ?_, fun c7 => ?_⟩
    · have h := h.2.1 c7
      refine r_iload_n C 0 dX7_passes_66 rfl ?_
      exact r_ireturn C dX7_passes_67 h
    · have h := h.2.2 c7
      refine r_aload_n C 1 dX7_passes_52 rfl ?_
      refine r_get (j := 2) (jz := 2) (v := .ref (ad 13)) C dX7_passes_53 (shA_0) rfl rfl (by decide) in_x7_passes_X7 w_x7_passes_26 rfl rfl rfl ?_
      refine r_aload_n C 1 dX7_passes_56 rfl ?_
      refine r_get (j := 0) (jz := 0) (v := .ref (ad 1)) C dX7_passes_57 (shA_0) rfl rfl (by decide) in_x7_passes_X7 w_x7_passes_10 rfl rfl rfl ?_
      refine r_callV (As := [.ref (ad 1)]) (o := 13) (n := 1) C dX7_passes_60 (x1_putTurnsBack_ct κ.1.2.1 ad cA D s4) gX7_passes_X1_putTurnsBack rfl ⟨rfl, rfl⟩ (by decide +kernel) (by decide) (shA_13) rfl rfl rfl (Nat.le_of_ble_eq_true rfl) (fun _ => rfl) ?_
      refine x1_putTurnsBack_mono h (fun _ s6 h => ?_)
      refine r_ldc (z := -100003) C dX7_passes_63 w_x7_passes_99 rfl ?_
      exact r_ireturn C dX7_passes_65 h
  · have h := h.2.2 c8
    refine r_ldc (z := -100002) C dX7_passes_11 w_x7_passes_66 rfl ?_
    exact r_ireturn C dX7_passes_13 h
theorem x7_passes_ct (l : Launch) (ad : Nat → Nat) (cA : Nat → ClassId) (D : va_G) (p1 : Int) (s : Mem) : MG l yX7_passes wsX7_passes x7_passes_rm ocI [.ref (ad 0), vI p1] (GA ad cA D) s (x7_passes p1 s) :=
  m_met (own := RX7) (nL := 3) (by decide) rfl rfl (Nat.le_of_ble_eq_true rfl) rfl rfl rfl (fun κ hl C Q Pst hW hQ => x7_passes_bd C (x7_passes_mono hW hQ))

def x7_best (p1 : Int) (p2 : Int) (s : Mem) (Q : Int → Mem → Prop) : Prop :=
  x7_within p1 (1 : Int) (900 : Int) s (fun r2 s1 => InI r2 ∧ (r2 = (0 : Int) → Q (-100002 : Int) s1) ∧ (¬ r2 = (0 : Int) → x7_within p2 (0 : Int) (2 : Int) s1 (fun r4 s3 => InI r4 ∧ (¬ r4 = (0 : Int) → (InI (s3 1 (0 : Int)) ∧ InI (6 : Int)) ∧ (¬ (s3 1 (0 : Int)) = (6 : Int) → x1_findBestRow p1 s3 (fun _ s5 => (InI (s5 13 (0 : Int)) ∧ InI (-1 : Int)) ∧ (¬ (s5 13 (0 : Int)) = (-1 : Int) → InI p2 ∧ (¬ p2 = (0 : Int) → (InI p2 ∧ InI (1 : Int)) ∧ (¬ p2 = (1 : Int) → Q (s5 13 (1 : Int)) s5) ∧ (p2 = (1 : Int) → Q (s5 13 (0 : Int)) s5)) ∧ (p2 = (0 : Int) → Q (s5 13 (2 : Int)) s5)) ∧ ((s5 13 (0 : Int)) = (-1 : Int) → Q (-100003 : Int) s5))) ∧ ((s3 1 (0 : Int)) = (6 : Int) → Q (-100005 : Int) s3)) ∧ (r4 = (0 : Int) → Q (-100002 : Int) s3))))
theorem x7_best_mono {Q R : Int → Mem → Prop} {p1 : Int} {p2 : Int} {s : Mem} (h : x7_best p1 p2 s Q) (hQ : ∀ r s, Q r s → R r s) : x7_best p1 p2 s R :=
  x7_within_mono h (fun r2 s1 h => ⟨h.1, fun c => have h := h.2.1 c; hQ _ _ h, fun c => have h := h.2.2 c; x7_within_mono h (fun r4 s3 h => ⟨h.1, fun c => have h := h.2.1 c; ⟨h.1, fun c => have h := h.2.1 c; x1_findBestRow_mono h (fun _ s5 h => ⟨h.1, fun c => have h := h.2.1 c; ⟨h.1, fun c => have h := h.2.1 c; ⟨h.1, fun c => have h := h.2.1 c; hQ _ _ h, fun c => have h := h.2.2 c; hQ _ _ h⟩, fun c => have h := h.2.2 c; hQ _ _ h⟩, fun c => have h := h.2.2 c; hQ _ _ h⟩), fun c => have h := h.2.2 c; hQ _ _ h⟩, fun c => have h := h.2.2 c; hQ _ _ h⟩)⟩)
def x7_best_rm : Room := { frames := 6, cells := 0, slots := 0, locals := 171 }
theorem w_x7_best_66 : Cond.constant RX7 66 (-100002) ∈ wsX7_best := by decide +kernel
theorem w_x7_best_10 : Cond.fieldLink RX7 10 "BoltRing" "ring" "LBoltRing$Joint;" ∈ wsX7_best := by decide +kernel
theorem w_x7_best_142 : Cond.fieldLink RX7 142 "BoltRing$Joint" "bolts" "I" ∈ wsX7_best := by decide +kernel
theorem w_x7_best_26 : Cond.fieldLink RX7 26 "BoltRing" "drawing" "LBoltRing$Drawing;" ∈ wsX7_best := by decide +kernel
theorem w_x7_best_203 : Cond.fieldLink RX7 203 "BoltRing$Drawing" "bestPasses" "I" ∈ wsX7_best := by decide +kernel
theorem w_x7_best_209 : Cond.fieldLink RX7 209 "BoltRing$Drawing" "bestDrawn" "I" ∈ wsX7_best := by decide +kernel
theorem w_x7_best_206 : Cond.fieldLink RX7 206 "BoltRing$Drawing" "bestFigures" "I" ∈ wsX7_best := by decide +kernel
theorem w_x7_best_99 : Cond.constant RX7 99 (-100003) ∈ wsX7_best := by decide +kernel
theorem w_x7_best_198 : Cond.constant RX7 198 (-100005) ∈ wsX7_best := by decide +kernel
theorem in_x7_best_X1 : ∀ w ∈ wsX10, w ∈ wsX7_best := by decide +kernel
theorem in_x7_best_X2 : ∀ w ∈ wsX20, w ∈ wsX7_best := by decide +kernel
theorem in_x7_best_X7 : ∀ w ∈ wsX70, w ∈ wsX7_best := by decide +kernel
set_option maxHeartbeats 4000000 in
set_option maxRecDepth 100000 in
theorem x7_best_bd {κ : KT} {ad : Nat → Nat} {cA : Nat → ClassId} {D : va_G} {Q : State → Prop} {p1 : Int} {p2 : Int} {s : Mem} (C : CX κ (GA ad cA D) RX7 cX7_best 3 wsX7_best x7_best_rm (some .int)) (h : x7_best p1 p2 s (RT κ (GA ad cA D) ocI Q)) : WM κ (GA ad cA D) 3 Q s 0 [(0, .ref (ad 0)), (1, vI p1), (2, vI p2)] [] := by
  refine r_iload_n C 1 dX7_best_0 rfl ?_
  refine r_iconst C dX7_best_1 ?_
  refine r_sipush C dX7_best_2 (by decide) ?_
  refine r_callS (As := [vI p1, vI (1 : Int), vI (900 : Int)]) (n := 3) C dX7_best_5 (x7_within_ct κ.1.2.1 ad cA D p1 (1 : Int) (900 : Int) s) gX7_best_X7_within rfl ⟨rfl, rfl⟩ (by decide +kernel) (by decide) rfl rfl (Nat.le_of_ble_eq_true rfl) (fun _ => rfl) ?_
  refine x7_within_mono h (fun r2 s1 h => ?_)
  refine r_if_eq (tgt := 20) C dX7_best_8 (by decide) ⟨h.1, fun c11 => ?_, fun c11 => ?_⟩
  · have h := h.2.1 c11
    refine r_ldc (z := -100002) C dX7_best_20 w_x7_best_66 rfl ?_
    exact r_ireturn C dX7_best_22 h
  · have h := h.2.2 c11
    refine r_iload_n C 2 dX7_best_11 rfl ?_
    refine r_iconst C dX7_best_12 ?_
    refine r_iconst C dX7_best_13 ?_
    refine r_callS (As := [vI p2, vI (0 : Int), vI (2 : Int)]) (n := 3) C dX7_best_14 (x7_within_ct κ.1.2.1 ad cA D p2 (0 : Int) (2 : Int) s1) gX7_best_X7_within rfl ⟨rfl, rfl⟩ (by decide +kernel) (by decide) rfl rfl (Nat.le_of_ble_eq_true rfl) (fun _ => rfl) ?_
    refine x7_within_mono h (fun r4 s3 h => ?_)
    refine r_if_ne (tgt := 23) C dX7_best_17 (by decide) ⟨h.1, fun c10 => ?_, fun c10 => ?_⟩
    · have h := h.2.1 c10
      refine r_aload_n C 0 dX7_best_23 rfl ?_
      refine r_get (j := 0) (jz := 0) (v := .ref (ad 1)) C dX7_best_24 (shA_0) rfl rfl (by decide) in_x7_best_X7 w_x7_best_10 rfl rfl rfl ?_
      refine r_get (j := 0) (jz := 0) (v := vI (s3 1 (0 : Int))) C dX7_best_27 (shA_1) rfl rfl (by decide) in_x7_best_X2 w_x7_best_142 rfl rfl rfl ?_
      refine r_bipush C dX7_best_30 (by decide) ?_
      refine r_icmp_ne (tgt := 38) C dX7_best_32 (by decide) ⟨h.1, fun c9 => ?_, fun c9 => ?_⟩
      · have h := h.2.1 c9
        refine r_aload_n C 0 dX7_best_38 rfl ?_
        refine r_get (j := 2) (jz := 2) (v := .ref (ad 13)) C dX7_best_39 (shA_0) rfl rfl (by decide) in_x7_best_X7 w_x7_best_26 rfl rfl rfl ?_
        refine r_aload_n C 0 dX7_best_42 rfl ?_
        refine r_get (j := 0) (jz := 0) (v := .ref (ad 1)) C dX7_best_43 (shA_0) rfl rfl (by decide) in_x7_best_X7 w_x7_best_10 rfl rfl rfl ?_
        refine r_iload_n C 1 dX7_best_46 rfl ?_
        refine r_callV (As := [.ref (ad 1), vI p1]) (o := 13) (n := 2) C dX7_best_47 (x1_findBestRow_ct κ.1.2.1 ad cA D p1 s3) gX7_best_X1_findBestRow rfl ⟨rfl, rfl⟩ (by decide +kernel) (by decide) (shA_13) rfl rfl rfl (Nat.le_of_ble_eq_true rfl) (fun _ => rfl) ?_
        refine x1_findBestRow_mono h (fun _ s5 h => ?_)
        refine r_aload_n C 0 dX7_best_50 rfl ?_
        refine r_get (j := 2) (jz := 2) (v := .ref (ad 13)) C dX7_best_51 (shA_0) rfl rfl (by decide) in_x7_best_X7 w_x7_best_26 rfl rfl rfl ?_
        refine r_get (j := 0) (jz := 0) (v := vI (s5 13 (0 : Int))) C dX7_best_54 (shA_13) rfl rfl (by decide) in_x7_best_X1 w_x7_best_203 rfl rfl rfl ?_
        refine r_iconst C dX7_best_57 ?_
        refine r_icmp_ne (tgt := 64) C dX7_best_58 (by decide) ⟨h.1, fun c8 => ?_, fun c8 => ?_⟩
        · have h := h.2.1 c8
          refine r_iload_n C 2 dX7_best_64 rfl ?_
          refine r_if_ne (tgt := 76) C dX7_best_65 (by decide) ⟨h.1, fun c7 => ?_, fun c7 => ?_⟩
          · have h := h.2.1 c7
            refine r_iload_n C 2 dX7_best_76 rfl ?_
            refine r_iconst C dX7_best_77 ?_
            refine r_icmp_ne (tgt := 91) C dX7_best_78 (by decide) ⟨h.1, fun c6 => ?_, fun c6 => ?_⟩
            · have h := h.2.1 c6
              refine r_aload_n C 0 dX7_best_91 rfl ?_
              refine r_get (j := 2) (jz := 2) (v := .ref (ad 13)) C dX7_best_92 (shA_0) rfl rfl (by decide) in_x7_best_X7 w_x7_best_26 rfl rfl rfl ?_
              refine r_get (j := 1) (jz := 1) (v := vI (s5 13 (1 : Int))) C dX7_best_95 (shA_13) rfl rfl (by decide) in_x7_best_X1 w_x7_best_209 rfl rfl rfl ?_
              exact r_ireturn C dX7_best_98 h
            · have h := h.2.2 c6
              refine r_aload_n C 0 dX7_best_81 rfl ?_
              refine r_get (j := 2) (jz := 2) (v := .ref (ad 13)) C dX7_best_82 (shA_0) rfl rfl (by decide) in_x7_best_X7 w_x7_best_26 rfl rfl rfl ?_
              refine r_get (j := 0) (jz := 0) (v := vI (s5 13 (0 : Int))) C dX7_best_85 (shA_13) rfl rfl (by decide) in_x7_best_X1 w_x7_best_203 rfl rfl rfl ?_
              refine r_goto (tgt := 98) C dX7_best_88 (by decide) ?_
              exact r_ireturn C dX7_best_98 h
          · have h := h.2.2 c7
            refine r_aload_n C 0 dX7_best_68 rfl ?_
            refine r_get (j := 2) (jz := 2) (v := .ref (ad 13)) C dX7_best_69 (shA_0) rfl rfl (by decide) in_x7_best_X7 w_x7_best_26 rfl rfl rfl ?_
            refine r_get (j := 2) (jz := 2) (v := vI (s5 13 (2 : Int))) C dX7_best_72 (shA_13) rfl rfl (by decide) in_x7_best_X1 w_x7_best_206 rfl rfl rfl ?_
            exact r_ireturn C dX7_best_75 h
        · have h := h.2.2 c8
          refine r_ldc (z := -100003) C dX7_best_61 w_x7_best_99 rfl ?_
          exact r_ireturn C dX7_best_63 h
      · have h := h.2.2 c9
        refine r_ldc (z := -100005) C dX7_best_35 w_x7_best_198 rfl ?_
        exact r_ireturn C dX7_best_37 h
    · have h := h.2.2 c10
      refine r_ldc (z := -100002) C dX7_best_20 w_x7_best_66 rfl ?_
      exact r_ireturn C dX7_best_22 h
theorem x7_best_ct (l : Launch) (ad : Nat → Nat) (cA : Nat → ClassId) (D : va_G) (p1 : Int) (p2 : Int) (s : Mem) : MG l yX7_best wsX7_best x7_best_rm ocI [.ref (ad 0), vI p1, vI p2] (GA ad cA D) s (x7_best p1 p2 s) :=
  m_met (own := RX7) (nL := 3) (by decide) rfl rfl (Nat.le_of_ble_eq_true rfl) rfl rfl rfl (fun κ hl C Q Pst hW hQ => x7_best_bd C (x7_best_mono hW hQ))

def x7_even_be (X19 : Int → Int → Mem → Prop) (X88 : Int → Int → Mem → Prop) (Q : Int → Mem → Prop) (p1 : Int) (p2 : Int) (s : Mem) : Prop :=
  (InI p2 ∧ InI (-1 : Int)) ∧ (p2 = (-1 : Int) → X19 p1 p2 s) ∧ (¬ p2 = (-1 : Int) → x2_has p2 s (fun r2 s1 => InI r2 ∧ (¬ r2 = (0 : Int) → X19 p1 p2 s1) ∧ (r2 = (0 : Int) → Q (-100001 : Int) s1)))
def x7_even_b19 (X19 : Int → Int → Mem → Prop) (X88 : Int → Int → Mem → Prop) (Q : Int → Mem → Prop) (x1 : Int) (x2 : Int) (s : Mem) : Prop :=
  x7_within x1 (1 : Int) (900 : Int) s (fun r6 s5 => InI r6 ∧ (¬ r6 = (0 : Int) → x1_keepTurns s5 (fun _ s7 => x1_drawEvenFromNothing x1 s7 (fun r9 s8 => (InI x2 ∧ InI (-1 : Int)) ∧ (¬ x2 = (-1 : Int) → ((0 : Int) ≤ x2 ∧ x2 < 6) ∧ X88 r9 (s8 4 x2) s8) ∧ (x2 = (-1 : Int) → x2_sumOf 4 s8 (fun r11 s10 => X88 r9 r11 s10))))) ∧ (r6 = (0 : Int) → Q (-100002 : Int) s5))
def x7_even_b88 (X19 : Int → Int → Mem → Prop) (X88 : Int → Int → Mem → Prop) (Q : Int → Mem → Prop) (x3 : Int) (t0 : Int) (s : Mem) : Prop :=
  x1_putTurnsBack s (fun _ s14 => InI x3 ∧ (x3 = (0 : Int) → Q (-100003 : Int) s14) ∧ (¬ x3 = (0 : Int) → Q t0 s14))
theorem x7_even_me {X19 Y19 : Int → Int → Mem → Prop} {X88 Y88 : Int → Int → Mem → Prop} {Q R : Int → Mem → Prop} (hX19 : ∀ x1 x2 s, X19 x1 x2 s → Y19 x1 x2 s) (hX88 : ∀ x3 t0 s, X88 x3 t0 s → Y88 x3 t0 s) (hQ : ∀ r s, Q r s → R r s) {p1 : Int} {p2 : Int} {s : Mem} (h : x7_even_be X19 X88 Q p1 p2 s) : x7_even_be Y19 Y88 R p1 p2 s :=
  ⟨h.1, fun c => have h := h.2.1 c; hX19 _ _ _ h, fun c => have h := h.2.2 c; x2_has_mono h (fun r2 s1 h => ⟨h.1, fun c => have h := h.2.1 c; hX19 _ _ _ h, fun c => have h := h.2.2 c; hQ _ _ h⟩)⟩
theorem x7_even_m19 {X19 Y19 : Int → Int → Mem → Prop} {X88 Y88 : Int → Int → Mem → Prop} {Q R : Int → Mem → Prop} (hX19 : ∀ x1 x2 s, X19 x1 x2 s → Y19 x1 x2 s) (hX88 : ∀ x3 t0 s, X88 x3 t0 s → Y88 x3 t0 s) (hQ : ∀ r s, Q r s → R r s) {x1 : Int} {x2 : Int} {s : Mem} (h : x7_even_b19 X19 X88 Q x1 x2 s) : x7_even_b19 Y19 Y88 R x1 x2 s :=
  x7_within_mono h (fun r6 s5 h => ⟨h.1, fun c => have h := h.2.1 c; x1_keepTurns_mono h (fun _ s7 h => x1_drawEvenFromNothing_mono h (fun r9 s8 h => ⟨h.1, fun c => have h := h.2.1 c; ⟨h.1, have h := h.2; hX88 _ _ _ h⟩, fun c => have h := h.2.2 c; x2_sumOf_mono h (fun r11 s10 h => hX88 _ _ _ h)⟩)), fun c => have h := h.2.2 c; hQ _ _ h⟩)
theorem x7_even_m88 {X19 Y19 : Int → Int → Mem → Prop} {X88 Y88 : Int → Int → Mem → Prop} {Q R : Int → Mem → Prop} (hX19 : ∀ x1 x2 s, X19 x1 x2 s → Y19 x1 x2 s) (hX88 : ∀ x3 t0 s, X88 x3 t0 s → Y88 x3 t0 s) (hQ : ∀ r s, Q r s → R r s) {x3 : Int} {t0 : Int} {s : Mem} (h : x7_even_b88 X19 X88 Q x3 t0 s) : x7_even_b88 Y19 Y88 R x3 t0 s :=
  x1_putTurnsBack_mono h (fun _ s14 h => ⟨h.1, fun c => have h := h.2.1 c; hQ _ _ h, fun c => have h := h.2.2 c; hQ _ _ h⟩)
def x7_even (p1 : Int) (p2 : Int) (s : Mem) (Q : Int → Mem → Prop) : Prop := ∀ (X19 : Int → Int → Mem → Prop) (X88 : Int → Int → Mem → Prop), (∀ x1 x2 s, x7_even_b19 X19 X88 Q x1 x2 s → X19 x1 x2 s) → (∀ x3 t0 s, x7_even_b88 X19 X88 Q x3 t0 s → X88 x3 t0 s) → x7_even_be X19 X88 Q p1 p2 s
def x7_even_L19 (Q : Int → Mem → Prop) (x1 : Int) (x2 : Int) (s : Mem) : Prop := ∀ (X19 : Int → Int → Mem → Prop) (X88 : Int → Int → Mem → Prop), (∀ x1 x2 s, x7_even_b19 X19 X88 Q x1 x2 s → X19 x1 x2 s) → (∀ x3 t0 s, x7_even_b88 X19 X88 Q x3 t0 s → X88 x3 t0 s) → X19 x1 x2 s
def x7_even_L88 (Q : Int → Mem → Prop) (x3 : Int) (t0 : Int) (s : Mem) : Prop := ∀ (X19 : Int → Int → Mem → Prop) (X88 : Int → Int → Mem → Prop), (∀ x1 x2 s, x7_even_b19 X19 X88 Q x1 x2 s → X19 x1 x2 s) → (∀ x3 t0 s, x7_even_b88 X19 X88 Q x3 t0 s → X88 x3 t0 s) → X88 x3 t0 s
theorem x7_even_i {Q : Int → Mem → Prop} {p1 : Int} {p2 : Int} {s : Mem} (h : x7_even_be (x7_even_L19 Q) (x7_even_L88 Q) Q p1 p2 s) : x7_even p1 p2 s Q := fun X19 X88 k19 k88 => x7_even_me (fun _ _ _ h => h X19 X88 k19 k88) (fun _ _ _ h => h X19 X88 k19 k88) (fun _ _ h => h) h
theorem x7_even_s19 {Q : Int → Mem → Prop} {x1 : Int} {x2 : Int} {s : Mem} (h : x7_even_b19 (x7_even_L19 Q) (x7_even_L88 Q) Q x1 x2 s) : x7_even_L19 Q x1 x2 s := fun X19 X88 k19 k88 => k19 _ _ _ (x7_even_m19 (fun _ _ _ h => h X19 X88 k19 k88) (fun _ _ _ h => h X19 X88 k19 k88) (fun _ _ h => h) h)
theorem x7_even_s88 {Q : Int → Mem → Prop} {x3 : Int} {t0 : Int} {s : Mem} (h : x7_even_b88 (x7_even_L19 Q) (x7_even_L88 Q) Q x3 t0 s) : x7_even_L88 Q x3 t0 s := fun X19 X88 k19 k88 => k88 _ _ _ (x7_even_m88 (fun _ _ _ h => h X19 X88 k19 k88) (fun _ _ _ h => h X19 X88 k19 k88) (fun _ _ h => h) h)
theorem x7_even_mono {Q R : Int → Mem → Prop} {p1 : Int} {p2 : Int} {s : Mem} (h : x7_even p1 p2 s Q) (hQ : ∀ r s, Q r s → R r s) : x7_even p1 p2 s R := fun X19 X88 k19 k88 => x7_even_me (fun _ _ _ h => h) (fun _ _ _ h => h) hQ (h X19 X88 (fun _ _ _ h => k19 _ _ _ (x7_even_m19 (fun _ _ _ h => h) (fun _ _ _ h => h) hQ h)) (fun _ _ _ h => k88 _ _ _ (x7_even_m88 (fun _ _ _ h => h) (fun _ _ _ h => h) hQ h)))
def x7_even_rm : Room := { frames := 5, cells := 0, slots := 0, locals := 143 }
theorem w_x7_even_10 : Cond.fieldLink RX7 10 "BoltRing" "ring" "LBoltRing$Joint;" ∈ wsX7_even := by decide +kernel
theorem w_x7_even_80 : Cond.constant RX7 80 (-100001) ∈ wsX7_even := by decide +kernel
theorem w_x7_even_26 : Cond.fieldLink RX7 26 "BoltRing" "drawing" "LBoltRing$Drawing;" ∈ wsX7_even := by decide +kernel
theorem w_x7_even_160 : Cond.fieldLink RX7 160 "BoltRing$Joint" "turns" "[I" ∈ wsX7_even := by decide +kernel
theorem w_x7_even_66 : Cond.constant RX7 66 (-100002) ∈ wsX7_even := by decide +kernel
theorem w_x7_even_99 : Cond.constant RX7 99 (-100003) ∈ wsX7_even := by decide +kernel
theorem in_x7_even_X2 : ∀ w ∈ wsX20, w ∈ wsX7_even := by decide +kernel
theorem in_x7_even_X7 : ∀ w ∈ wsX70, w ∈ wsX7_even := by decide +kernel
set_option maxHeartbeats 4000000 in
set_option maxRecDepth 100000 in
theorem x7_even_bd {κ : KT} {ad : Nat → Nat} {cA : Nat → ClassId} {D : va_G} {Q : State → Prop} {p1 : Int} {p2 : Int} {s : Mem} (C : CX κ (GA ad cA D) RX7 cX7_even 5 wsX7_even x7_even_rm (some .int)) (h : x7_even p1 p2 s (RT κ (GA ad cA D) ocI Q)) : WM κ (GA ad cA D) 5 Q s 0 [(0, .ref (ad 0)), (1, vI p1), (2, vI p2)] [] := by
  obtain ⟨Z19, z19⟩ : ∃ Z : Int → Int → Mem → Prop, ∀ x1 x2 s, Z x1 x2 s ↔ WM κ (GA ad cA D) 5 Q s 19 [(0, .ref (ad 0)), (1, vI x1), (2, vI x2)] [] := ⟨fun x1 x2 s => WM κ (GA ad cA D) 5 Q s 19 [(0, .ref (ad 0)), (1, vI x1), (2, vI x2)] [], fun _ _ _ => Iff.rfl⟩
  obtain ⟨Z88, z88⟩ : ∃ Z : Int → Int → Mem → Prop, ∀ x3 t0 s, Z x3 t0 s ↔ WM κ (GA ad cA D) 5 Q s 88 [(0, .ref (ad 0)), (3, vI x3)] [vI t0] := ⟨fun x3 t0 s => WM κ (GA ad cA D) 5 Q s 88 [(0, .ref (ad 0)), (3, vI x3)] [vI t0], fun _ _ _ => Iff.rfl⟩
  refine (fun h => ?_) (h Z19 Z88 ?_ ?_)
  · refine r_iload_n C 2 dX7_even_0 rfl ?_
    refine r_iconst C dX7_even_1 ?_
    refine r_icmp_eq (tgt := 19) C dX7_even_2 (by decide) ⟨h.1, fun c4 => ?_, fun c4 => ?_⟩
    · have h := h.2.1 c4
      exact r_perm [0, 1, 2] rfl ((z19 _ _ _).1 h)
    · have h := h.2.2 c4
      refine r_aload_n C 0 dX7_even_5 rfl ?_
      refine r_get (j := 0) (jz := 0) (v := .ref (ad 1)) C dX7_even_6 (shA_0) rfl rfl (by decide) in_x7_even_X7 w_x7_even_10 rfl rfl rfl ?_
      refine r_iload_n C 2 dX7_even_9 rfl ?_
      refine r_callV (As := [vI p2]) (o := 1) (n := 1) C dX7_even_10 (x2_has_ct κ.1.2.1 ad cA D p2 s) gX7_even_X2_has rfl ⟨rfl, rfl⟩ (by decide +kernel) (by decide) (shA_1) rfl rfl rfl (Nat.le_of_ble_eq_true rfl) (fun _ => rfl) ?_
      refine x2_has_mono h (fun r2 s1 h => ?_)
      refine r_if_ne (tgt := 19) C dX7_even_13 (by decide) ⟨h.1, fun c3 => ?_, fun c3 => ?_⟩
      · have h := h.2.1 c3
        exact r_perm [0, 1, 2] rfl ((z19 _ _ _).1 h)
      · have h := h.2.2 c3
        refine r_ldc (z := -100001) C dX7_even_16 w_x7_even_80 rfl ?_
        exact r_ireturn C dX7_even_18 h
  · intro x1 x2 s h
    refine (z19 _ _ _).2 ?_
    refine r_iload_n C 1 dX7_even_19 rfl ?_
    refine r_iconst C dX7_even_20 ?_
    refine r_sipush C dX7_even_21 (by decide) ?_
    refine r_callS (As := [vI x1, vI (1 : Int), vI (900 : Int)]) (n := 3) C dX7_even_24 (x7_within_ct κ.1.2.1 ad cA D x1 (1 : Int) (900 : Int) s) gX7_even_X7_within rfl ⟨rfl, rfl⟩ (by decide +kernel) (by decide) rfl rfl (Nat.le_of_ble_eq_true rfl) (fun _ => rfl) ?_
    refine x7_within_mono h (fun r6 s5 h => ?_)
    refine r_if_ne (tgt := 33) C dX7_even_27 (by decide) ⟨h.1, fun c13 => ?_, fun c13 => ?_⟩
    · have h := h.2.1 c13
      refine r_aload_n C 0 dX7_even_33 rfl ?_
      refine r_get (j := 2) (jz := 2) (v := .ref (ad 13)) C dX7_even_34 (shA_0) rfl rfl (by decide) in_x7_even_X7 w_x7_even_26 rfl rfl rfl ?_
      refine r_aload_n C 0 dX7_even_37 rfl ?_
      refine r_get (j := 0) (jz := 0) (v := .ref (ad 1)) C dX7_even_38 (shA_0) rfl rfl (by decide) in_x7_even_X7 w_x7_even_10 rfl rfl rfl ?_
      refine r_callV (As := [.ref (ad 1)]) (o := 13) (n := 1) C dX7_even_41 (x1_keepTurns_ct κ.1.2.1 ad cA D s5) gX7_even_X1_keepTurns rfl ⟨rfl, rfl⟩ (by decide +kernel) (by decide) (shA_13) rfl rfl rfl (Nat.le_of_ble_eq_true rfl) (fun _ => rfl) ?_
      refine x1_keepTurns_mono h (fun _ s7 h => ?_)
      refine r_aload_n C 0 dX7_even_44 rfl ?_
      refine r_get (j := 2) (jz := 2) (v := .ref (ad 13)) C dX7_even_45 (shA_0) rfl rfl (by decide) in_x7_even_X7 w_x7_even_26 rfl rfl rfl ?_
      refine r_aload_n C 0 dX7_even_48 rfl ?_
      refine r_get (j := 0) (jz := 0) (v := .ref (ad 1)) C dX7_even_49 (shA_0) rfl rfl (by decide) in_x7_even_X7 w_x7_even_10 rfl rfl rfl ?_
      refine r_iload_n C 1 dX7_even_52 rfl ?_
      refine r_callV (As := [.ref (ad 1), vI x1]) (o := 13) (n := 2) C dX7_even_53 (x1_drawEvenFromNothing_ct κ.1.2.1 ad cA D x1 s7) gX7_even_X1_drawEvenFromNothing rfl ⟨rfl, rfl⟩ (by decide +kernel) (by decide) (shA_13) rfl rfl rfl (Nat.le_of_ble_eq_true rfl) (fun _ => rfl) ?_
      refine x1_drawEvenFromNothing_mono h (fun r9 s8 h => ?_)
      refine r_istore_n (ls' := [(3, vI r9), (0, .ref (ad 0)), (1, vI x1), (2, vI x2)]) C dX7_even_56 rfl (by decide) rfl ?_
      refine r_iload_n C 3 dX7_even_57 rfl ?_
      refine r_iconst C dX7_even_58 ?_
      refine r_icmp_ne (tgt := 79) C dX7_even_59 (by decide) ⟨h.1, fun c12 => ?_, fun c12 => ?_⟩
      · have h := h.2.1 c12
        refine r_aload_n C 1 dX7_even_79 rfl ?_
        refine r_get (j := 0) (jz := 0) (v := .ref (ad 1)) C dX7_even_80 (shA_0) rfl rfl (by decide) in_x7_even_X7 w_x7_even_10 rfl rfl rfl ?_
        refine r_get (j := 5) (jz := 5) (v := .ref (ad 4)) C dX7_even_83 (shA_1) rfl rfl (by decide) in_x7_even_X2 w_x7_even_160 rfl rfl rfl ?_
        refine r_iload_n C 3 dX7_even_86 rfl ?_
        refine r_iald (nz := 6) C dX7_even_87 (shA_4) rfl (by decide) ⟨h.1, ?_⟩
        have h := h.2
        exact r_perm [1, 0] rfl ((z88 _ _ _).1 h)
      · have h := h.2.2 c12
        refine r_aload_n C 1 dX7_even_62 rfl ?_
        refine r_get (j := 0) (jz := 0) (v := .ref (ad 1)) C dX7_even_63 (shA_0) rfl rfl (by decide) in_x7_even_X7 w_x7_even_10 rfl rfl rfl ?_
        refine r_aload_n C 1 dX7_even_66 rfl ?_
        refine r_get (j := 0) (jz := 0) (v := .ref (ad 1)) C dX7_even_67 (shA_0) rfl rfl (by decide) in_x7_even_X7 w_x7_even_10 rfl rfl rfl ?_
        refine r_get (j := 5) (jz := 5) (v := .ref (ad 4)) C dX7_even_70 (shA_1) rfl rfl (by decide) in_x7_even_X2 w_x7_even_160 rfl rfl rfl ?_
        refine r_callV (As := [.ref (ad 4)]) (o := 1) (n := 1) C dX7_even_73 (x2_sumOf_ct κ.1.2.1 ad cA D 4 s8) gX7_even_X2_sumOf rfl ⟨rfl, rfl⟩ (by decide +kernel) (by decide) (shA_1) rfl rfl rfl (Nat.le_of_ble_eq_true rfl) (fun _ => rfl) ?_
        refine x2_sumOf_mono h (fun r11 s10 h => ?_)
        refine r_goto (tgt := 88) C dX7_even_76 (by decide) ?_
        exact r_perm [1, 0] rfl ((z88 _ _ _).1 h)
    · have h := h.2.2 c13
      refine r_ldc (z := -100002) C dX7_even_30 w_x7_even_66 rfl ?_
      exact r_ireturn C dX7_even_32 h
  · intro x3 t0 s h
    refine (z88 _ _ _).2 ?_
    refine r_istore (ls' := [(4, vI t0), (0, .ref (ad 0)), (3, vI x3)]) C dX7_even_88 (by decide) rfl ?_
    refine r_aload_n C 1 dX7_even_90 rfl ?_
    refine r_get (j := 2) (jz := 2) (v := .ref (ad 13)) C dX7_even_91 (shA_0) rfl rfl (by decide) in_x7_even_X7 w_x7_even_26 rfl rfl rfl ?_
    refine r_aload_n C 1 dX7_even_94 rfl ?_
    refine r_get (j := 0) (jz := 0) (v := .ref (ad 1)) C dX7_even_95 (shA_0) rfl rfl (by decide) in_x7_even_X7 w_x7_even_10 rfl rfl rfl ?_
    refine r_callV (As := [.ref (ad 1)]) (o := 13) (n := 1) C dX7_even_98 (x1_putTurnsBack_ct κ.1.2.1 ad cA D s) gX7_even_X1_putTurnsBack rfl ⟨rfl, rfl⟩ (by decide +kernel) (by decide) (shA_13) rfl rfl rfl (Nat.le_of_ble_eq_true rfl) (fun _ => rfl) ?_
    refine x1_putTurnsBack_mono h (fun _ s14 h => ?_)
    refine r_iload_n C 2 dX7_even_101 rfl ?_
    refine r_if_eq (tgt := 110) C dX7_even_102 (by decide) ⟨h.1, fun c15 => ?_, fun c15 => ?_⟩
    · have h := h.2.1 c15
      refine r_ldc (z := -100003) C dX7_even_110 w_x7_even_99 rfl ?_
      exact r_ireturn C dX7_even_112 h
    · have h := h.2.2 c15
      refine r_iload C 0 dX7_even_105 rfl ?_
      refine r_goto (tgt := 112) C dX7_even_107 (by decide) ?_
      exact r_ireturn C dX7_even_112 h
theorem x7_even_ct (l : Launch) (ad : Nat → Nat) (cA : Nat → ClassId) (D : va_G) (p1 : Int) (p2 : Int) (s : Mem) : MG l yX7_even wsX7_even x7_even_rm ocI [.ref (ad 0), vI p1, vI p2] (GA ad cA D) s (x7_even p1 p2 s) :=
  m_met (own := RX7) (nL := 5) (by decide) rfl rfl (Nat.le_of_ble_eq_true rfl) rfl rfl rfl (fun κ hl C Q Pst hW hQ => x7_even_bd C (x7_even_mono hW hQ))
