def x7_joint (p1 : Int) (p2 : Int) (s : Mem) (Q : Int → Mem → Prop) : Prop :=
  x7_within p1 (3 : Int) (6 : Int) s (fun r2 s1 => InI r2 ∧ (r2 = (0 : Int) → Q (-100002 : Int) s1) ∧ (¬ r2 = (0 : Int) → x7_within p2 (1 : Int) (9 : Int) s1 (fun r4 s3 => InI r4 ∧ (¬ r4 = (0 : Int) → x2_begin p1 p2 s3 (fun _ s5 => ∀ s6 : Mem, s6 = m_upd s5 23 (0 : Int) (0 : Int) → x4_begin s6 (fun _ s7 => ∀ s8 : Mem, s8 = m_upd s7 34 (0 : Int) (0 : Int) → Q p1 s8))) ∧ (r4 = (0 : Int) → Q (-100002 : Int) s3))))
theorem x7_joint_mono {Q R : Int → Mem → Prop} {p1 : Int} {p2 : Int} {s : Mem} (h : x7_joint p1 p2 s Q) (hQ : ∀ r s, Q r s → R r s) : x7_joint p1 p2 s R :=
  x7_within_mono h (fun r2 s1 h => ⟨h.1, fun c => have h := h.2.1 c; hQ _ _ h, fun c => have h := h.2.2 c; x7_within_mono h (fun r4 s3 h => ⟨h.1, fun c => have h := h.2.1 c; x2_begin_mono h (fun _ s5 h => fun s6 e_s6 => have h := h s6 e_s6; x4_begin_mono h (fun _ s7 h => fun s8 e_s8 => have h := h s8 e_s8; hQ _ _ h)), fun c => have h := h.2.2 c; hQ _ _ h⟩)⟩)
def x7_joint_rm : Room := { frames := 2, cells := 0, slots := 0, locals := 43 }
theorem w_x7_joint_66 : Cond.constant RX7 66 (-100002) ∈ wsX7_joint := by decide +kernel
theorem w_x7_joint_10 : Cond.fieldLink RX7 10 "BoltRing" "ring" "LBoltRing$Joint;" ∈ wsX7_joint := by decide +kernel
theorem w_x7_joint_33 : Cond.fieldLink RX7 33 "BoltRing" "cases" "LBoltRing$Cases;" ∈ wsX7_joint := by decide +kernel
theorem w_x7_joint_67 : Cond.fieldLink RX7 67 "BoltRing$Cases" "count" "I" ∈ wsX7_joint := by decide +kernel
theorem w_x7_joint_40 : Cond.fieldLink RX7 40 "BoltRing" "misses" "LBoltRing$Misses;" ∈ wsX7_joint := by decide +kernel
theorem w_x7_joint_47 : Cond.fieldLink RX7 47 "BoltRing" "readings" "LBoltRing$Readings;" ∈ wsX7_joint := by decide +kernel
theorem w_x7_joint_73 : Cond.fieldLink RX7 73 "BoltRing$Readings" "told" "I" ∈ wsX7_joint := by decide +kernel
theorem in_x7_joint_X0 : ∀ w ∈ wsX00, w ∈ wsX7_joint := by decide +kernel
theorem in_x7_joint_X6 : ∀ w ∈ wsX60, w ∈ wsX7_joint := by decide +kernel
theorem in_x7_joint_X7 : ∀ w ∈ wsX70, w ∈ wsX7_joint := by decide +kernel
set_option maxHeartbeats 4000000 in
set_option maxRecDepth 100000 in
theorem x7_joint_bd {κ : KT} {ad : Nat → Nat} {cA : Nat → ClassId} {D : va_G} {Q : State → Prop} {p1 : Int} {p2 : Int} {s : Mem} (C : CX κ (GA ad cA D) RX7 cX7_joint 3 wsX7_joint x7_joint_rm (some .int)) (h : x7_joint p1 p2 s (RT κ (GA ad cA D) ocI Q)) : WM κ (GA ad cA D) 3 Q s 0 [(0, .ref (ad 0)), (1, vI p1), (2, vI p2)] [] := by
  refine r_iload_n C 1 dX7_joint_0 rfl ?_
  refine r_iconst C dX7_joint_1 ?_
  refine r_bipush C dX7_joint_2 (by decide) ?_
  refine r_callS (As := [vI p1, vI (3 : Int), vI (6 : Int)]) (n := 3) C dX7_joint_4 (x7_within_ct κ.1.2.1 ad cA D p1 (3 : Int) (6 : Int) s) gX7_joint_X7_within rfl ⟨rfl, rfl⟩ (by decide +kernel) (by decide) rfl rfl (Nat.le_of_ble_eq_true rfl) (fun _ => rfl) ?_
  refine x7_within_mono h (fun r2 s1 h => ?_)
  refine r_if_eq (tgt := 20) C dX7_joint_7 (by decide) ⟨h.1, fun c10 => ?_, fun c10 => ?_⟩
  · have h := h.2.1 c10
    refine r_ldc (z := -100002) C dX7_joint_20 w_x7_joint_66 rfl ?_
    exact r_ireturn C dX7_joint_22 h
  · have h := h.2.2 c10
    refine r_iload_n C 2 dX7_joint_10 rfl ?_
    refine r_iconst C dX7_joint_11 ?_
    refine r_bipush C dX7_joint_12 (by decide) ?_
    refine r_callS (As := [vI p2, vI (1 : Int), vI (9 : Int)]) (n := 3) C dX7_joint_14 (x7_within_ct κ.1.2.1 ad cA D p2 (1 : Int) (9 : Int) s1) gX7_joint_X7_within rfl ⟨rfl, rfl⟩ (by decide +kernel) (by decide) rfl rfl (Nat.le_of_ble_eq_true rfl) (fun _ => rfl) ?_
    refine x7_within_mono h (fun r4 s3 h => ?_)
    refine r_if_ne (tgt := 23) C dX7_joint_17 (by decide) ⟨h.1, fun c9 => ?_, fun c9 => ?_⟩
    · have h := h.2.1 c9
      refine r_aload_n C 0 dX7_joint_23 rfl ?_
      refine r_get (j := 0) (jz := 0) (v := .ref (ad 1)) C dX7_joint_24 (shA_0) rfl rfl (by decide) in_x7_joint_X7 w_x7_joint_10 rfl rfl rfl ?_
      refine r_iload_n C 1 dX7_joint_27 rfl ?_
      refine r_iload_n C 2 dX7_joint_28 rfl ?_
      refine r_callV (As := [vI p1, vI p2]) (o := 1) (n := 2) C dX7_joint_29 (x2_begin_ct κ.1.2.1 ad cA D p1 p2 s3) gX7_joint_X2_begin rfl ⟨rfl, rfl⟩ (by decide +kernel) (by decide) (shA_1) rfl rfl rfl (Nat.le_of_ble_eq_true rfl) (fun _ => rfl) ?_
      refine x2_begin_mono h (fun _ s5 h => ?_)
      refine r_aload_n C 0 dX7_joint_32 rfl ?_
      refine r_get (j := 3) (jz := 3) (v := .ref (ad 23)) C dX7_joint_33 (shA_0) rfl rfl (by decide) in_x7_joint_X7 w_x7_joint_33 rfl rfl rfl ?_
      refine r_iconst C dX7_joint_36 ?_
      refine r_puti (j := 0) (jz := 0) C dX7_joint_37 (shA_23) rfl rfl (by decide) in_x7_joint_X0 tyX0 tyX0_ok nmX0 w_x7_joint_67 rfl rfl (by decide +kernel) rfl (fun s6 e_s6 => ?_)
      have h := h s6 e_s6
      refine r_aload_n C 0 dX7_joint_40 rfl ?_
      refine r_get (j := 4) (jz := 4) (v := .ref (ad 31)) C dX7_joint_41 (shA_0) rfl rfl (by decide) in_x7_joint_X7 w_x7_joint_40 rfl rfl rfl ?_
      refine r_callV (As := []) (o := 31) (n := 0) C dX7_joint_44 (x4_begin_ct κ.1.2.1 ad cA D s6) gX7_joint_X4_begin rfl ⟨rfl, rfl⟩ (by decide +kernel) (by decide) (shA_31) rfl rfl rfl (Nat.le_of_ble_eq_true rfl) (fun _ => rfl) ?_
      refine x4_begin_mono h (fun _ s7 h => ?_)
      refine r_aload_n C 0 dX7_joint_47 rfl ?_
      refine r_get (j := 5) (jz := 5) (v := .ref (ad 34)) C dX7_joint_48 (shA_0) rfl rfl (by decide) in_x7_joint_X7 w_x7_joint_47 rfl rfl rfl ?_
      refine r_iconst C dX7_joint_51 ?_
      refine r_puti (j := 0) (jz := 0) C dX7_joint_52 (shA_34) rfl rfl (by decide) in_x7_joint_X6 tyX6 tyX6_ok nmX6 w_x7_joint_73 rfl rfl (by decide +kernel) rfl (fun s8 e_s8 => ?_)
      have h := h s8 e_s8
      refine r_iload_n C 1 dX7_joint_55 rfl ?_
      exact r_ireturn C dX7_joint_56 h
    · have h := h.2.2 c9
      refine r_ldc (z := -100002) C dX7_joint_20 w_x7_joint_66 rfl ?_
      exact r_ireturn C dX7_joint_22 h
theorem x7_joint_ct (l : Launch) (ad : Nat → Nat) (cA : Nat → ClassId) (D : va_G) (p1 : Int) (p2 : Int) (s : Mem) : MG l yX7_joint wsX7_joint x7_joint_rm ocI [.ref (ad 0), vI p1, vI p2] (GA ad cA D) s (x7_joint p1 p2 s) :=
  m_met (own := RX7) (nL := 3) (by decide) rfl rfl (Nat.le_of_ble_eq_true rfl) rfl rfl rfl (fun κ hl C Q Pst hW hQ => x7_joint_bd C (x7_joint_mono hW hQ))

def x7_set (p1 : Int) (p2 : Int) (p3 : Int) (s : Mem) (Q : Int → Mem → Prop) : Prop :=
  x2_has p1 s (fun r2 s1 => InI r2 ∧ (¬ r2 = (0 : Int) → x7_within p2 (0 : Int) (3 : Int) s1 (fun r4 s3 => InI r4 ∧ (r4 = (0 : Int) → Q (-100002 : Int) s3) ∧ (¬ r4 = (0 : Int) → x7_leastOf p2 s3 (fun r6 s5 => x7_mostOf p2 s5 (fun r8 s7 => x7_within p3 r6 r8 s7 (fun r10 s9 => InI r10 ∧ (¬ r10 = (0 : Int) → x2_valuesOf p2 s9 (fun r12 s11 => (shA[(Int.toNat r12)]? = some (.inr (0, 6))) ∧ ((0 : Int) ≤ p1 ∧ p1 < 6) ∧ (shA[(Int.toNat r12)]? = some (.inr (0, 6))) ∧ ((0 : Int) ≤ p1 ∧ p1 < 6) ∧ ∀ s13 : Mem, s13 = m_upd s11 (Int.toNat r12) p1 p3 → Q (s11 (Int.toNat r12) p1) s13)) ∧ (r10 = (0 : Int) → Q (-100002 : Int) s9))))))) ∧ (r2 = (0 : Int) → Q (-100001 : Int) s1))
theorem x7_set_mono {Q R : Int → Mem → Prop} {p1 : Int} {p2 : Int} {p3 : Int} {s : Mem} (h : x7_set p1 p2 p3 s Q) (hQ : ∀ r s, Q r s → R r s) : x7_set p1 p2 p3 s R :=
  x2_has_mono h (fun r2 s1 h => ⟨h.1, fun c => have h := h.2.1 c; x7_within_mono h (fun r4 s3 h => ⟨h.1, fun c => have h := h.2.1 c; hQ _ _ h, fun c => have h := h.2.2 c; x7_leastOf_mono h (fun r6 s5 h => x7_mostOf_mono h (fun r8 s7 h => x7_within_mono h (fun r10 s9 h => ⟨h.1, fun c => have h := h.2.1 c; x2_valuesOf_mono h (fun r12 s11 h => ⟨h.1, have h := h.2; ⟨h.1, have h := h.2; ⟨h.1, have h := h.2; ⟨h.1, have h := h.2; fun s13 e_s13 => have h := h s13 e_s13; hQ _ _ h⟩⟩⟩⟩), fun c => have h := h.2.2 c; hQ _ _ h⟩)))⟩), fun c => have h := h.2.2 c; hQ _ _ h⟩)
def x7_set_rm : Room := { frames := 1, cells := 0, slots := 0, locals := 22 }
theorem w_x7_set_10 : Cond.fieldLink RX7 10 "BoltRing" "ring" "LBoltRing$Joint;" ∈ wsX7_set := by decide +kernel
theorem w_x7_set_66 : Cond.constant RX7 66 (-100002) ∈ wsX7_set := by decide +kernel
theorem w_x7_set_80 : Cond.constant RX7 80 (-100001) ∈ wsX7_set := by decide +kernel
theorem in_x7_set_X7 : ∀ w ∈ wsX70, w ∈ wsX7_set := by decide +kernel
set_option maxHeartbeats 4000000 in
set_option maxRecDepth 100000 in
theorem x7_set_bd {κ : KT} {ad : Nat → Nat} {cA : Nat → ClassId} {D : va_G} {Q : State → Prop} {p1 : Int} {p2 : Int} {p3 : Int} {s : Mem} (C : CX κ (GA ad cA D) RX7 cX7_set 6 wsX7_set x7_set_rm (some .int)) (h : x7_set p1 p2 p3 s (RT κ (GA ad cA D) ocI Q)) : WM κ (GA ad cA D) 6 Q s 0 [(0, .ref (ad 0)), (1, vI p1), (2, vI p2), (3, vI p3)] [] := by
  refine r_aload_n C 0 dX7_set_0 rfl ?_
  refine r_get (j := 0) (jz := 0) (v := .ref (ad 1)) C dX7_set_1 (shA_0) rfl rfl (by decide) in_x7_set_X7 w_x7_set_10 rfl rfl rfl ?_
  refine r_iload_n C 1 dX7_set_4 rfl ?_
  refine r_callV (As := [vI p1]) (o := 1) (n := 1) C dX7_set_5 (x2_has_ct κ.1.2.1 ad cA D p1 s) gX7_set_X2_has rfl ⟨rfl, rfl⟩ (by decide +kernel) (by decide) (shA_1) rfl rfl rfl (Nat.le_of_ble_eq_true rfl) (fun _ => rfl) ?_
  refine x2_has_mono h (fun r2 s1 h => ?_)
  refine r_if_ne (tgt := 14) C dX7_set_8 (by decide) ⟨h.1, fun c16 => ?_, fun c16 => ?_⟩
  · have h := h.2.1 c16
    refine r_iload_n C 2 dX7_set_14 rfl ?_
    refine r_iconst C dX7_set_15 ?_
    refine r_iconst C dX7_set_16 ?_
    refine r_callS (As := [vI p2, vI (0 : Int), vI (3 : Int)]) (n := 3) C dX7_set_17 (x7_within_ct κ.1.2.1 ad cA D p2 (0 : Int) (3 : Int) s1) gX7_set_X7_within rfl ⟨rfl, rfl⟩ (by decide +kernel) (by decide) rfl rfl (Nat.le_of_ble_eq_true rfl) (fun _ => rfl) ?_
    refine x7_within_mono h (fun r4 s3 h => ?_)
    refine r_if_eq (tgt := 38) C dX7_set_20 (by decide) ⟨h.1, fun c15 => ?_, fun c15 => ?_⟩
    · have h := h.2.1 c15
      refine r_ldc (z := -100002) C dX7_set_38 w_x7_set_66 rfl ?_
      exact r_ireturn C dX7_set_40 h
    · have h := h.2.2 c15
      refine r_iload_n C 3 dX7_set_23 rfl ?_
      refine r_iload_n C 2 dX7_set_24 rfl ?_
      refine r_callS (As := [vI p2]) (n := 1) C dX7_set_25 (x7_leastOf_ct κ.1.2.1 ad cA D p2 s3) gX7_set_X7_leastOf rfl ⟨rfl, rfl⟩ (by decide +kernel) (by decide) rfl rfl (Nat.le_of_ble_eq_true rfl) (fun _ => rfl) ?_
      refine x7_leastOf_mono h (fun r6 s5 h => ?_)
      refine r_iload_n C 2 dX7_set_28 rfl ?_
      refine r_callS (As := [vI p2]) (n := 1) C dX7_set_29 (x7_mostOf_ct κ.1.2.1 ad cA D p2 s5) gX7_set_X7_mostOf rfl ⟨rfl, rfl⟩ (by decide +kernel) (by decide) rfl rfl (Nat.le_of_ble_eq_true rfl) (fun _ => rfl) ?_
      refine x7_mostOf_mono h (fun r8 s7 h => ?_)
      refine r_callS (As := [vI p3, vI r6, vI r8]) (n := 3) C dX7_set_32 (x7_within_ct κ.1.2.1 ad cA D p3 r6 r8 s7) gX7_set_X7_within rfl ⟨rfl, rfl⟩ (by decide +kernel) (by decide) rfl rfl (Nat.le_of_ble_eq_true rfl) (fun _ => rfl) ?_
      refine x7_within_mono h (fun r10 s9 h => ?_)
      refine r_if_ne (tgt := 41) C dX7_set_35 (by decide) ⟨h.1, fun c14 => ?_, fun c14 => ?_⟩
      · have h := h.2.1 c14
        refine r_aload_n C 0 dX7_set_41 rfl ?_
        refine r_get (j := 0) (jz := 0) (v := .ref (ad 1)) C dX7_set_42 (shA_0) rfl rfl (by decide) in_x7_set_X7 w_x7_set_10 rfl rfl rfl ?_
        refine r_iload_n C 2 dX7_set_45 rfl ?_
        refine r_callV (As := [vI p2]) (o := 1) (n := 1) C dX7_set_46 (x2_valuesOf_ct κ.1.2.1 ad cA D p2 s9) gX7_set_X2_valuesOf rfl ⟨rfl, rfl⟩ (by decide +kernel) (by decide) (shA_1) rfl rfl rfl (Nat.le_of_ble_eq_true rfl) (fun _ => rfl) ?_
        refine x2_valuesOf_mono h (fun r12 s11 h => ?_)
        refine r_astore (ls' := [(4, .ref (ad (Int.toNat r12))), (0, .ref (ad 0)), (1, vI p1), (2, vI p2), (3, vI p3)]) C dX7_set_49 (by decide) rfl ?_
        refine r_aload C 0 dX7_set_51 rfl ?_
        refine r_iload_n C 2 dX7_set_53 rfl ?_
        have hg := h.1
        have h := h.2
        refine r_iald (nz := 6) C dX7_set_54 (hg) rfl (by decide) ⟨h.1, ?_⟩
        have h := h.2
        refine r_istore (ls' := [(5, vI (s11 (Int.toNat r12) p1)), (4, .ref (ad (Int.toNat r12))), (0, .ref (ad 0)), (1, vI p1), (2, vI p2), (3, vI p3)]) C dX7_set_55 (by decide) rfl ?_
        refine r_aload C 1 dX7_set_57 rfl ?_
        refine r_iload_n C 3 dX7_set_59 rfl ?_
        refine r_iload_n C 5 dX7_set_60 rfl ?_
        have hg := h.1
        have h := h.2
        refine r_iast (nz := 6) C dX7_set_61 (hg) rfl (by decide) ⟨h.1, fun s13 e_s13 => ?_⟩
        have h := h.2 s13 e_s13
        refine r_iload C 0 dX7_set_62 rfl ?_
        exact r_ireturn C dX7_set_64 h
      · have h := h.2.2 c14
        refine r_ldc (z := -100002) C dX7_set_38 w_x7_set_66 rfl ?_
        exact r_ireturn C dX7_set_40 h
  · have h := h.2.2 c16
    refine r_ldc (z := -100001) C dX7_set_11 w_x7_set_80 rfl ?_
    exact r_ireturn C dX7_set_13 h
theorem x7_set_ct (l : Launch) (ad : Nat → Nat) (cA : Nat → ClassId) (D : va_G) (p1 : Int) (p2 : Int) (p3 : Int) (s : Mem) : MG l yX7_set wsX7_set x7_set_rm ocI [.ref (ad 0), vI p1, vI p2, vI p3] (GA ad cA D) s (x7_set p1 p2 p3 s) :=
  m_met (own := RX7) (nL := 6) (by decide) rfl rfl (Nat.le_of_ble_eq_true rfl) rfl rfl rfl (fun κ hl C Q Pst hW hQ => x7_set_bd C (x7_set_mono hW hQ))

def x7_broken_be (X45 : Int → Int → Int → Mem → Prop) (Q : Int → Mem → Prop) (p1 : Int) (p2 : Int) (s : Mem) : Prop :=
  x2_has p1 s (fun r2 s1 => InI r2 ∧ (¬ r2 = (0 : Int) → x2_isBroken p1 s1 (fun r4 s3 => InI p2 ∧ (p2 = (0 : Int) → X45 p1 p2 r4 s3) ∧ (¬ p2 = (0 : Int) → InI r4 ∧ (¬ r4 = (0 : Int) → X45 p1 p2 r4 s3) ∧ (r4 = (0 : Int) → x2_wholeCount s3 (fun r6 s5 => (InI r6 ∧ InI (1 : Int)) ∧ (¬ r6 = (1 : Int) → X45 p1 p2 r4 s5) ∧ (r6 = (1 : Int) → Q (-100003 : Int) s5)))))) ∧ (r2 = (0 : Int) → Q (-100001 : Int) s1))
def x7_broken_b45 (X45 : Int → Int → Int → Mem → Prop) (Q : Int → Mem → Prop) (x1 : Int) (x2 : Int) (x3 : Int) (s : Mem) : Prop :=
  x2_markBroken x1 x2 s (fun _ s11 => x7_asNumber x3 s11 (fun r13 s12 => Q r13 s12))
theorem x7_broken_me {X45 Y45 : Int → Int → Int → Mem → Prop} {Q R : Int → Mem → Prop} (hX45 : ∀ x1 x2 x3 s, X45 x1 x2 x3 s → Y45 x1 x2 x3 s) (hQ : ∀ r s, Q r s → R r s) {p1 : Int} {p2 : Int} {s : Mem} (h : x7_broken_be X45 Q p1 p2 s) : x7_broken_be Y45 R p1 p2 s :=
  x2_has_mono h (fun r2 s1 h => ⟨h.1, fun c => have h := h.2.1 c; x2_isBroken_mono h (fun r4 s3 h => ⟨h.1, fun c => have h := h.2.1 c; hX45 _ _ _ _ h, fun c => have h := h.2.2 c; ⟨h.1, fun c => have h := h.2.1 c; hX45 _ _ _ _ h, fun c => have h := h.2.2 c; x2_wholeCount_mono h (fun r6 s5 h => ⟨h.1, fun c => have h := h.2.1 c; hX45 _ _ _ _ h, fun c => have h := h.2.2 c; hQ _ _ h⟩)⟩⟩), fun c => have h := h.2.2 c; hQ _ _ h⟩)
theorem x7_broken_m45 {X45 Y45 : Int → Int → Int → Mem → Prop} {Q R : Int → Mem → Prop} (hX45 : ∀ x1 x2 x3 s, X45 x1 x2 x3 s → Y45 x1 x2 x3 s) (hQ : ∀ r s, Q r s → R r s) {x1 : Int} {x2 : Int} {x3 : Int} {s : Mem} (h : x7_broken_b45 X45 Q x1 x2 x3 s) : x7_broken_b45 Y45 R x1 x2 x3 s :=
  x2_markBroken_mono h (fun _ s11 h => x7_asNumber_mono h (fun r13 s12 h => hQ _ _ h))
def x7_broken (p1 : Int) (p2 : Int) (s : Mem) (Q : Int → Mem → Prop) : Prop := ∀ (X45 : Int → Int → Int → Mem → Prop), (∀ x1 x2 x3 s, x7_broken_b45 X45 Q x1 x2 x3 s → X45 x1 x2 x3 s) → x7_broken_be X45 Q p1 p2 s
def x7_broken_L45 (Q : Int → Mem → Prop) (x1 : Int) (x2 : Int) (x3 : Int) (s : Mem) : Prop := ∀ (X45 : Int → Int → Int → Mem → Prop), (∀ x1 x2 x3 s, x7_broken_b45 X45 Q x1 x2 x3 s → X45 x1 x2 x3 s) → X45 x1 x2 x3 s
theorem x7_broken_i {Q : Int → Mem → Prop} {p1 : Int} {p2 : Int} {s : Mem} (h : x7_broken_be (x7_broken_L45 Q) Q p1 p2 s) : x7_broken p1 p2 s Q := fun X45 k45 => x7_broken_me (fun _ _ _ _ h => h X45 k45) (fun _ _ h => h) h
theorem x7_broken_s45 {Q : Int → Mem → Prop} {x1 : Int} {x2 : Int} {x3 : Int} {s : Mem} (h : x7_broken_b45 (x7_broken_L45 Q) Q x1 x2 x3 s) : x7_broken_L45 Q x1 x2 x3 s := fun X45 k45 => k45 _ _ _ _ (x7_broken_m45 (fun _ _ _ _ h => h X45 k45) (fun _ _ h => h) h)
theorem x7_broken_mono {Q R : Int → Mem → Prop} {p1 : Int} {p2 : Int} {s : Mem} (h : x7_broken p1 p2 s Q) (hQ : ∀ r s, Q r s → R r s) : x7_broken p1 p2 s R := fun X45 k45 => x7_broken_me (fun _ _ _ _ h => h) hQ (h X45 (fun _ _ _ _ h => k45 _ _ _ _ (x7_broken_m45 (fun _ _ _ _ h => h) hQ h)))
def x7_broken_rm : Room := { frames := 2, cells := 0, slots := 0, locals := 40 }
theorem w_x7_broken_10 : Cond.fieldLink RX7 10 "BoltRing" "ring" "LBoltRing$Joint;" ∈ wsX7_broken := by decide +kernel
theorem w_x7_broken_99 : Cond.constant RX7 99 (-100003) ∈ wsX7_broken := by decide +kernel
theorem w_x7_broken_80 : Cond.constant RX7 80 (-100001) ∈ wsX7_broken := by decide +kernel
theorem in_x7_broken_X7 : ∀ w ∈ wsX70, w ∈ wsX7_broken := by decide +kernel
set_option maxHeartbeats 4000000 in
set_option maxRecDepth 100000 in
theorem x7_broken_bd {κ : KT} {ad : Nat → Nat} {cA : Nat → ClassId} {D : va_G} {Q : State → Prop} {p1 : Int} {p2 : Int} {s : Mem} (C : CX κ (GA ad cA D) RX7 cX7_broken 4 wsX7_broken x7_broken_rm (some .int)) (h : x7_broken p1 p2 s (RT κ (GA ad cA D) ocI Q)) : WM κ (GA ad cA D) 4 Q s 0 [(0, .ref (ad 0)), (1, vI p1), (2, vI p2)] [] := by
  obtain ⟨Z45, z45⟩ : ∃ Z : Int → Int → Int → Mem → Prop, ∀ x1 x2 x3 s, Z x1 x2 x3 s ↔ WM κ (GA ad cA D) 4 Q s 45 [(0, .ref (ad 0)), (1, vI x1), (2, vI x2), (3, vI x3)] [] := ⟨fun x1 x2 x3 s => WM κ (GA ad cA D) 4 Q s 45 [(0, .ref (ad 0)), (1, vI x1), (2, vI x2), (3, vI x3)] [], fun _ _ _ _ => Iff.rfl⟩
  refine (fun h => ?_) (h Z45 ?_)
  · refine r_aload_n C 0 dX7_broken_0 rfl ?_
    refine r_get (j := 0) (jz := 0) (v := .ref (ad 1)) C dX7_broken_1 (shA_0) rfl rfl (by decide) in_x7_broken_X7 w_x7_broken_10 rfl rfl rfl ?_
    refine r_iload_n C 1 dX7_broken_4 rfl ?_
    refine r_callV (As := [vI p1]) (o := 1) (n := 1) C dX7_broken_5 (x2_has_ct κ.1.2.1 ad cA D p1 s) gX7_broken_X2_has rfl ⟨rfl, rfl⟩ (by decide +kernel) (by decide) (shA_1) rfl rfl rfl (Nat.le_of_ble_eq_true rfl) (fun _ => rfl) ?_
    refine x2_has_mono h (fun r2 s1 h => ?_)
    refine r_if_ne (tgt := 14) C dX7_broken_8 (by decide) ⟨h.1, fun c10 => ?_, fun c10 => ?_⟩
    · have h := h.2.1 c10
      refine r_aload_n C 0 dX7_broken_14 rfl ?_
      refine r_get (j := 0) (jz := 0) (v := .ref (ad 1)) C dX7_broken_15 (shA_0) rfl rfl (by decide) in_x7_broken_X7 w_x7_broken_10 rfl rfl rfl ?_
      refine r_iload_n C 1 dX7_broken_18 rfl ?_
      refine r_callV (As := [vI p1]) (o := 1) (n := 1) C dX7_broken_19 (x2_isBroken_ct κ.1.2.1 ad cA D p1 s1) gX7_broken_X2_isBroken rfl ⟨rfl, rfl⟩ (by decide +kernel) (by decide) (shA_1) rfl rfl rfl (Nat.le_of_ble_eq_true rfl) (fun _ => rfl) ?_
      refine x2_isBroken_mono h (fun r4 s3 h => ?_)
      refine r_istore_n (ls' := [(3, vI r4), (0, .ref (ad 0)), (1, vI p1), (2, vI p2)]) C dX7_broken_22 rfl (by decide) rfl ?_
      refine r_iload_n C 3 dX7_broken_23 rfl ?_
      refine r_if_eq (tgt := 45) C dX7_broken_24 (by decide) ⟨h.1, fun c9 => ?_, fun c9 => ?_⟩
      · have h := h.2.1 c9
        exact r_perm [1, 2, 3, 0] rfl ((z45 _ _ _ _).1 h)
      · have h := h.2.2 c9
        refine r_iload_n C 0 dX7_broken_27 rfl ?_
        refine r_if_ne (tgt := 45) C dX7_broken_28 (by decide) ⟨h.1, fun c8 => ?_, fun c8 => ?_⟩
        · have h := h.2.1 c8
          exact r_perm [1, 2, 3, 0] rfl ((z45 _ _ _ _).1 h)
        · have h := h.2.2 c8
          refine r_aload_n C 1 dX7_broken_31 rfl ?_
          refine r_get (j := 0) (jz := 0) (v := .ref (ad 1)) C dX7_broken_32 (shA_0) rfl rfl (by decide) in_x7_broken_X7 w_x7_broken_10 rfl rfl rfl ?_
          refine r_callV (As := []) (o := 1) (n := 0) C dX7_broken_35 (x2_wholeCount_ct κ.1.2.1 ad cA D s3) gX7_broken_X2_wholeCount rfl ⟨rfl, rfl⟩ (by decide +kernel) (by decide) (shA_1) rfl rfl rfl (Nat.le_of_ble_eq_true rfl) (fun _ => rfl) ?_
          refine x2_wholeCount_mono h (fun r6 s5 h => ?_)
          refine r_iconst C dX7_broken_38 ?_
          refine r_icmp_ne (tgt := 45) C dX7_broken_39 (by decide) ⟨h.1, fun c7 => ?_, fun c7 => ?_⟩
          · have h := h.2.1 c7
            exact r_perm [1, 2, 3, 0] rfl ((z45 _ _ _ _).1 h)
          · have h := h.2.2 c7
            refine r_ldc (z := -100003) C dX7_broken_42 w_x7_broken_99 rfl ?_
            exact r_ireturn C dX7_broken_44 h
    · have h := h.2.2 c10
      refine r_ldc (z := -100001) C dX7_broken_11 w_x7_broken_80 rfl ?_
      exact r_ireturn C dX7_broken_13 h
  · intro x1 x2 x3 s h
    refine (z45 _ _ _ _).2 ?_
    refine r_aload_n C 0 dX7_broken_45 rfl ?_
    refine r_get (j := 0) (jz := 0) (v := .ref (ad 1)) C dX7_broken_46 (shA_0) rfl rfl (by decide) in_x7_broken_X7 w_x7_broken_10 rfl rfl rfl ?_
    refine r_iload_n C 1 dX7_broken_49 rfl ?_
    refine r_iload_n C 2 dX7_broken_50 rfl ?_
    refine r_callV (As := [vI x1, vI x2]) (o := 1) (n := 2) C dX7_broken_51 (x2_markBroken_ct κ.1.2.1 ad cA D x1 x2 s) gX7_broken_X2_markBroken rfl ⟨rfl, rfl⟩ (by decide +kernel) (by decide) (shA_1) rfl rfl rfl (Nat.le_of_ble_eq_true rfl) (fun _ => rfl) ?_
    refine x2_markBroken_mono h (fun _ s11 h => ?_)
    refine r_iload_n C 3 dX7_broken_54 rfl ?_
    refine r_callS (As := [vI x3]) (n := 1) C dX7_broken_55 (x7_asNumber_ct κ.1.2.1 ad cA D x3 s11) gX7_broken_X7_asNumber rfl ⟨rfl, rfl⟩ (by decide +kernel) (by decide) rfl rfl (Nat.le_of_ble_eq_true rfl) (fun _ => rfl) ?_
    refine x7_asNumber_mono h (fun r13 s12 h => ?_)
    exact r_ireturn C dX7_broken_58 h
theorem x7_broken_ct (l : Launch) (ad : Nat → Nat) (cA : Nat → ClassId) (D : va_G) (p1 : Int) (p2 : Int) (s : Mem) : MG l yX7_broken wsX7_broken x7_broken_rm ocI [.ref (ad 0), vI p1, vI p2] (GA ad cA D) s (x7_broken p1 p2 s) :=
  m_met (own := RX7) (nL := 4) (by decide) rfl rfl (Nat.le_of_ble_eq_true rfl) rfl rfl rfl (fun κ hl C Q Pst hW hQ => x7_broken_bd C (x7_broken_mono hW hQ))

def x7_told (p1 : Int) (p2 : Int) (s : Mem) (Q : Int → Mem → Prop) : Prop :=
  x2_has p1 s (fun r2 s1 => InI r2 ∧ (¬ r2 = (0 : Int) → InI p2 ∧ ((p2 = 0 ∨ p2 = 1 ∨ p2 = 2 ∨ p2 = 3) → x2_valuesOf p2 s1 (fun r5 s4 => (shA[(Int.toNat r5)]? = some (.inr (0, 6))) ∧ ((0 : Int) ≤ p1 ∧ p1 < 6) ∧ Q (s4 (Int.toNat r5) p1) s4)) ∧ ((p2 = 4) → x2_isBroken p1 s1 (fun r7 s6 => x7_asNumber r7 s6 (fun r9 s8 => Q r9 s8))) ∧ ((p2 = 5) → x3_settle 7 5 s1 (fun _ s10 => x3_pullUpper 7 p1 s10 (fun r12 s11 => (InL r12 ∧ InL (0 : Int)) ∧ (¬ r12 = (0 : Int) → x7_asNumber (0 : Int) s11 (fun r14 s13 => Q r14 s13)) ∧ (r12 = (0 : Int) → x7_asNumber (1 : Int) s11 (fun r16 s15 => Q r16 s15))))) ∧ ((p2 = 6) → x3_settle 7 5 s1 (fun _ s18 => x3_pressUpper 7 p1 s18 (fun r20 s19 => (InL r20 ∧ InL (0 : Int)) ∧ (¬ r20 = (0 : Int) → x7_asNumber (0 : Int) s19 (fun r22 s21 => Q r22 s21)) ∧ (r20 = (0 : Int) → x7_asNumber (1 : Int) s19 (fun r24 s23 => Q r24 s23))))) ∧ ((p2 = 7) → x2_placeInRow p1 s1 (fun r27 s26 => Q r27 s26)) ∧ ((p2 < 0 ∨ 7 < p2) → Q (-100002 : Int) s1)) ∧ (r2 = (0 : Int) → Q (-100001 : Int) s1))
theorem x7_told_mono {Q R : Int → Mem → Prop} {p1 : Int} {p2 : Int} {s : Mem} (h : x7_told p1 p2 s Q) (hQ : ∀ r s, Q r s → R r s) : x7_told p1 p2 s R :=
  x2_has_mono h (fun r2 s1 h => ⟨h.1, fun c => have h := h.2.1 c; ⟨h.1, fun c => have h := h.2.1 c; x2_valuesOf_mono h (fun r5 s4 h => ⟨h.1, have h := h.2; ⟨h.1, have h := h.2; hQ _ _ h⟩⟩), fun c => have h := h.2.2.1 c; x2_isBroken_mono h (fun r7 s6 h => x7_asNumber_mono h (fun r9 s8 h => hQ _ _ h)), fun c => have h := h.2.2.2.1 c; x3_settle_mono h (fun _ s10 h => x3_pullUpper_mono h (fun r12 s11 h => ⟨h.1, fun c => have h := h.2.1 c; x7_asNumber_mono h (fun r14 s13 h => hQ _ _ h), fun c => have h := h.2.2 c; x7_asNumber_mono h (fun r16 s15 h => hQ _ _ h)⟩)), fun c => have h := h.2.2.2.2.1 c; x3_settle_mono h (fun _ s18 h => x3_pressUpper_mono h (fun r20 s19 h => ⟨h.1, fun c => have h := h.2.1 c; x7_asNumber_mono h (fun r22 s21 h => hQ _ _ h), fun c => have h := h.2.2 c; x7_asNumber_mono h (fun r24 s23 h => hQ _ _ h)⟩)), fun c => have h := h.2.2.2.2.2.1 c; x2_placeInRow_mono h (fun r27 s26 h => hQ _ _ h), fun c => have h := h.2.2.2.2.2.2 c; hQ _ _ h⟩, fun c => have h := h.2.2 c; hQ _ _ h⟩)
def x7_told_rm : Room := { frames := 3, cells := 0, slots := 0, locals := 85 }
theorem w_x7_told_10 : Cond.fieldLink RX7 10 "BoltRing" "ring" "LBoltRing$Joint;" ∈ wsX7_told := by decide +kernel
theorem w_x7_told_19 : Cond.fieldLink RX7 19 "BoltRing" "lifts" "LBoltRing$Lifts;" ∈ wsX7_told := by decide +kernel
theorem w_x7_told_108 : Cond.fieldLink RX7 108 "BoltRing$Joint" "loads" "[I" ∈ wsX7_told := by decide +kernel
theorem w_x7_told_66 : Cond.constant RX7 66 (-100002) ∈ wsX7_told := by decide +kernel
theorem w_x7_told_80 : Cond.constant RX7 80 (-100001) ∈ wsX7_told := by decide +kernel
theorem in_x7_told_X2 : ∀ w ∈ wsX20, w ∈ wsX7_told := by decide +kernel
theorem in_x7_told_X7 : ∀ w ∈ wsX70, w ∈ wsX7_told := by decide +kernel
set_option maxHeartbeats 4000000 in
set_option maxRecDepth 100000 in
theorem x7_told_bd {κ : KT} {ad : Nat → Nat} {cA : Nat → ClassId} {D : va_G} {Q : State → Prop} {p1 : Int} {p2 : Int} {s : Mem} (C : CX κ (GA ad cA D) RX7 cX7_told 3 wsX7_told x7_told_rm (some .int)) (h : x7_told p1 p2 s (RT κ (GA ad cA D) ocI Q)) : WM κ (GA ad cA D) 3 Q s 0 [(0, .ref (ad 0)), (1, vI p1), (2, vI p2)] [] := by
  refine r_aload_n C 0 dX7_told_0 rfl ?_
  refine r_get (j := 0) (jz := 0) (v := .ref (ad 1)) C dX7_told_1 (shA_0) rfl rfl (by decide) in_x7_told_X7 w_x7_told_10 rfl rfl rfl ?_
  refine r_iload_n C 1 dX7_told_4 rfl ?_
  refine r_callV (As := [vI p1]) (o := 1) (n := 1) C dX7_told_5 (x2_has_ct κ.1.2.1 ad cA D p1 s) gX7_told_X2_has rfl ⟨rfl, rfl⟩ (by decide +kernel) (by decide) (shA_1) rfl rfl rfl (Nat.le_of_ble_eq_true rfl) (fun _ => rfl) ?_
  refine x2_has_mono h (fun r2 s1 h => ?_)
  refine r_if_ne (tgt := 14) C dX7_told_8 (by decide) ⟨h.1, fun c28 => ?_, fun c28 => ?_⟩
  · have h := h.2.1 c28
    refine r_iload_n C 2 dX7_told_14 rfl ?_
    have hI := h.1
    by_cases c3 : p2 = 0 ∨ p2 = 1 ∨ p2 = 2 ∨ p2 = 3
    · have h := h.2.1 c3
      refine r_tsAny (tgt := 60) C dX7_told_15 (j := Int.toNat (p2 - (0))) ?_ (by omega) (by omega) hI ?_
      · rcases c3 with c3 | c3 | c3 | c3 <;> (rw [c3]; exact ⟨_, rfl, by decide⟩)
      · refine r_aload_n C 0 dX7_told_60 rfl ?_
        refine r_get (j := 0) (jz := 0) (v := .ref (ad 1)) C dX7_told_61 (shA_0) rfl rfl (by decide) in_x7_told_X7 w_x7_told_10 rfl rfl rfl ?_
        refine r_iload_n C 2 dX7_told_64 rfl ?_
        refine r_callV (As := [vI p2]) (o := 1) (n := 1) C dX7_told_65 (x2_valuesOf_ct κ.1.2.1 ad cA D p2 s1) gX7_told_X2_valuesOf rfl ⟨rfl, rfl⟩ (by decide +kernel) (by decide) (shA_1) rfl rfl rfl (Nat.le_of_ble_eq_true rfl) (fun _ => rfl) ?_
        refine x2_valuesOf_mono h (fun r5 s4 h => ?_)
        refine r_iload_n C 1 dX7_told_68 rfl ?_
        have hg := h.1
        have h := h.2
        refine r_iald (nz := 6) C dX7_told_69 (hg) rfl (by decide) ⟨h.1, ?_⟩
        have h := h.2
        exact r_ireturn C dX7_told_70 h
    by_cases c3 : p2 = 4
    · have h := h.2.2.1 c3
      refine r_tsIn (tgt := 71) C 4 dX7_told_15 rfl (by decide) c3 hI (by decide) ?_
      refine r_aload_n C 0 dX7_told_71 rfl ?_
      refine r_get (j := 0) (jz := 0) (v := .ref (ad 1)) C dX7_told_72 (shA_0) rfl rfl (by decide) in_x7_told_X7 w_x7_told_10 rfl rfl rfl ?_
      refine r_iload_n C 1 dX7_told_75 rfl ?_
      refine r_callV (As := [vI p1]) (o := 1) (n := 1) C dX7_told_76 (x2_isBroken_ct κ.1.2.1 ad cA D p1 s1) gX7_told_X2_isBroken rfl ⟨rfl, rfl⟩ (by decide +kernel) (by decide) (shA_1) rfl rfl rfl (Nat.le_of_ble_eq_true rfl) (fun _ => rfl) ?_
      refine x2_isBroken_mono h (fun r7 s6 h => ?_)
      refine r_callS (As := [vI r7]) (n := 1) C dX7_told_79 (x7_asNumber_ct κ.1.2.1 ad cA D r7 s6) gX7_told_X7_asNumber rfl ⟨rfl, rfl⟩ (by decide +kernel) (by decide) rfl rfl (Nat.le_of_ble_eq_true rfl) (fun _ => rfl) ?_
      refine x7_asNumber_mono h (fun r9 s8 h => ?_)
      exact r_ireturn C dX7_told_82 h
    by_cases c3 : p2 = 5
    · have h := h.2.2.2.1 c3
      refine r_tsIn (tgt := 83) C 5 dX7_told_15 rfl (by decide) c3 hI (by decide) ?_
      refine r_aload_n C 0 dX7_told_83 rfl ?_
      refine r_get (j := 1) (jz := 1) (v := .ref (ad 7)) C dX7_told_84 (shA_0) rfl rfl (by decide) in_x7_told_X7 w_x7_told_19 rfl rfl rfl ?_
      refine r_aload_n C 0 dX7_told_87 rfl ?_
      refine r_get (j := 0) (jz := 0) (v := .ref (ad 1)) C dX7_told_88 (shA_0) rfl rfl (by decide) in_x7_told_X7 w_x7_told_10 rfl rfl rfl ?_
      refine r_aload_n C 0 dX7_told_91 rfl ?_
      refine r_get (j := 0) (jz := 0) (v := .ref (ad 1)) C dX7_told_92 (shA_0) rfl rfl (by decide) in_x7_told_X7 w_x7_told_10 rfl rfl rfl ?_
      refine r_get (j := 6) (jz := 6) (v := .ref (ad 5)) C dX7_told_95 (shA_1) rfl rfl (by decide) in_x7_told_X2 w_x7_told_108 rfl rfl rfl ?_
      refine r_callV (As := [.ref (ad 1), .ref (ad 5)]) (o := 7) (n := 2) C dX7_told_98 (x3_settle_ct κ.1.2.1 ad cA D 7 5 s1 (Or.inl rfl)) gX7_told_X3_settle rfl ⟨rfl, rfl⟩ (by decide +kernel) (by decide) (shA_7) rfl rfl rfl (Nat.le_of_ble_eq_true rfl) (fun _ => rfl) ?_
      refine x3_settle_mono h (fun _ s10 h => ?_)
      refine r_aload_n C 0 dX7_told_101 rfl ?_
      refine r_get (j := 1) (jz := 1) (v := .ref (ad 7)) C dX7_told_102 (shA_0) rfl rfl (by decide) in_x7_told_X7 w_x7_told_19 rfl rfl rfl ?_
      refine r_aload_n C 0 dX7_told_105 rfl ?_
      refine r_get (j := 0) (jz := 0) (v := .ref (ad 1)) C dX7_told_106 (shA_0) rfl rfl (by decide) in_x7_told_X7 w_x7_told_10 rfl rfl rfl ?_
      refine r_iload_n C 1 dX7_told_109 rfl ?_
      refine r_callV (As := [.ref (ad 1), vI p1]) (o := 7) (n := 2) C dX7_told_110 (x3_pullUpper_ct κ.1.2.1 ad cA D 7 p1 s10 (Or.inl rfl)) gX7_told_X3_pullUpper rfl ⟨rfl, rfl⟩ (by decide +kernel) (by decide) (shA_7) rfl rfl rfl (Nat.le_of_ble_eq_true rfl) (fun _ => rfl) ?_
      refine x3_pullUpper_mono h (fun r12 s11 h => ?_)
      refine r_lconst (z := 0) C dX7_told_113 rfl ?_
      refine r_lcmp_ne (tgt := 122) C dX7_told_114 dX7_told_115 (by decide) ⟨h.1, fun c17 => ?_, fun c17 => ?_⟩
      · have h := h.2.1 c17
        refine r_iconst C dX7_told_122 ?_
        refine r_callS (As := [vI (0 : Int)]) (n := 1) C dX7_told_123 (x7_asNumber_ct κ.1.2.1 ad cA D (0 : Int) s11) gX7_told_X7_asNumber rfl ⟨rfl, rfl⟩ (by decide +kernel) (by decide) rfl rfl (Nat.le_of_ble_eq_true rfl) (fun _ => rfl) ?_
        refine x7_asNumber_mono h (fun r14 s13 h => ?_)
        exact r_ireturn C dX7_told_126 h
      · have h := h.2.2 c17
        refine r_iconst C dX7_told_118 ?_
        refine r_goto (tgt := 123) C dX7_told_119 (by decide) ?_
        refine r_callS (As := [vI (1 : Int)]) (n := 1) C dX7_told_123 (x7_asNumber_ct κ.1.2.1 ad cA D (1 : Int) s11) gX7_told_X7_asNumber rfl ⟨rfl, rfl⟩ (by decide +kernel) (by decide) rfl rfl (Nat.le_of_ble_eq_true rfl) (fun _ => rfl) ?_
        refine x7_asNumber_mono h (fun r16 s15 h => ?_)
        exact r_ireturn C dX7_told_126 h
    by_cases c3 : p2 = 6
    · have h := h.2.2.2.2.1 c3
      refine r_tsIn (tgt := 127) C 6 dX7_told_15 rfl (by decide) c3 hI (by decide) ?_
      refine r_aload_n C 0 dX7_told_127 rfl ?_
      refine r_get (j := 1) (jz := 1) (v := .ref (ad 7)) C dX7_told_128 (shA_0) rfl rfl (by decide) in_x7_told_X7 w_x7_told_19 rfl rfl rfl ?_
      refine r_aload_n C 0 dX7_told_131 rfl ?_
      refine r_get (j := 0) (jz := 0) (v := .ref (ad 1)) C dX7_told_132 (shA_0) rfl rfl (by decide) in_x7_told_X7 w_x7_told_10 rfl rfl rfl ?_
      refine r_aload_n C 0 dX7_told_135 rfl ?_
      refine r_get (j := 0) (jz := 0) (v := .ref (ad 1)) C dX7_told_136 (shA_0) rfl rfl (by decide) in_x7_told_X7 w_x7_told_10 rfl rfl rfl ?_
      refine r_get (j := 6) (jz := 6) (v := .ref (ad 5)) C dX7_told_139 (shA_1) rfl rfl (by decide) in_x7_told_X2 w_x7_told_108 rfl rfl rfl ?_
      refine r_callV (As := [.ref (ad 1), .ref (ad 5)]) (o := 7) (n := 2) C dX7_told_142 (x3_settle_ct κ.1.2.1 ad cA D 7 5 s1 (Or.inl rfl)) gX7_told_X3_settle rfl ⟨rfl, rfl⟩ (by decide +kernel) (by decide) (shA_7) rfl rfl rfl (Nat.le_of_ble_eq_true rfl) (fun _ => rfl) ?_
      refine x3_settle_mono h (fun _ s18 h => ?_)
      refine r_aload_n C 0 dX7_told_145 rfl ?_
      refine r_get (j := 1) (jz := 1) (v := .ref (ad 7)) C dX7_told_146 (shA_0) rfl rfl (by decide) in_x7_told_X7 w_x7_told_19 rfl rfl rfl ?_
      refine r_aload_n C 0 dX7_told_149 rfl ?_
      refine r_get (j := 0) (jz := 0) (v := .ref (ad 1)) C dX7_told_150 (shA_0) rfl rfl (by decide) in_x7_told_X7 w_x7_told_10 rfl rfl rfl ?_
      refine r_iload_n C 1 dX7_told_153 rfl ?_
      refine r_callV (As := [.ref (ad 1), vI p1]) (o := 7) (n := 2) C dX7_told_154 (x3_pressUpper_ct κ.1.2.1 ad cA D 7 p1 s18 (Or.inl rfl)) gX7_told_X3_pressUpper rfl ⟨rfl, rfl⟩ (by decide +kernel) (by decide) (shA_7) rfl rfl rfl (Nat.le_of_ble_eq_true rfl) (fun _ => rfl) ?_
      refine x3_pressUpper_mono h (fun r20 s19 h => ?_)
      refine r_lconst (z := 0) C dX7_told_157 rfl ?_
      refine r_lcmp_ne (tgt := 166) C dX7_told_158 dX7_told_159 (by decide) ⟨h.1, fun c25 => ?_, fun c25 => ?_⟩
      · have h := h.2.1 c25
        refine r_iconst C dX7_told_166 ?_
        refine r_callS (As := [vI (0 : Int)]) (n := 1) C dX7_told_167 (x7_asNumber_ct κ.1.2.1 ad cA D (0 : Int) s19) gX7_told_X7_asNumber rfl ⟨rfl, rfl⟩ (by decide +kernel) (by decide) rfl rfl (Nat.le_of_ble_eq_true rfl) (fun _ => rfl) ?_
        refine x7_asNumber_mono h (fun r22 s21 h => ?_)
        exact r_ireturn C dX7_told_170 h
      · have h := h.2.2 c25
        refine r_iconst C dX7_told_162 ?_
        refine r_goto (tgt := 167) C dX7_told_163 (by decide) ?_
        refine r_callS (As := [vI (1 : Int)]) (n := 1) C dX7_told_167 (x7_asNumber_ct κ.1.2.1 ad cA D (1 : Int) s19) gX7_told_X7_asNumber rfl ⟨rfl, rfl⟩ (by decide +kernel) (by decide) rfl rfl (Nat.le_of_ble_eq_true rfl) (fun _ => rfl) ?_
        refine x7_asNumber_mono h (fun r24 s23 h => ?_)
        exact r_ireturn C dX7_told_170 h
    by_cases c3 : p2 = 7
    · have h := h.2.2.2.2.2.1 c3
      refine r_tsIn (tgt := 171) C 7 dX7_told_15 rfl (by decide) c3 hI (by decide) ?_
      refine r_aload_n C 0 dX7_told_171 rfl ?_
      refine r_get (j := 0) (jz := 0) (v := .ref (ad 1)) C dX7_told_172 (shA_0) rfl rfl (by decide) in_x7_told_X7 w_x7_told_10 rfl rfl rfl ?_
      refine r_iload_n C 1 dX7_told_175 rfl ?_
      refine r_callV (As := [vI p1]) (o := 1) (n := 1) C dX7_told_176 (x2_placeInRow_ct κ.1.2.1 ad cA D p1 s1) gX7_told_X2_placeInRow rfl ⟨rfl, rfl⟩ (by decide +kernel) (by decide) (shA_1) rfl rfl rfl (Nat.le_of_ble_eq_true rfl) (fun _ => rfl) ?_
      refine x2_placeInRow_mono h (fun r27 s26 h => ?_)
      exact r_ireturn C dX7_told_179 h
    have c3d : p2 < 0 ∨ 7 < p2 := by omega
    have h := h.2.2.2.2.2.2 c3d
    refine r_tsOut (tgt := 180) C dX7_told_15 c3d hI (by decide) ?_
    refine r_ldc (z := -100002) C dX7_told_180 w_x7_told_66 rfl ?_
    exact r_ireturn C dX7_told_182 h
  · have h := h.2.2 c28
    refine r_ldc (z := -100001) C dX7_told_11 w_x7_told_80 rfl ?_
    exact r_ireturn C dX7_told_13 h
theorem x7_told_ct (l : Launch) (ad : Nat → Nat) (cA : Nat → ClassId) (D : va_G) (p1 : Int) (p2 : Int) (s : Mem) : MG l yX7_told wsX7_told x7_told_rm ocI [.ref (ad 0), vI p1, vI p2] (GA ad cA D) s (x7_told p1 p2 s) :=
  m_met (own := RX7) (nL := 3) (by decide) rfl rfl (Nat.le_of_ble_eq_true rfl) rfl rfl rfl (fun κ hl C Q Pst hW hQ => x7_told_bd C (x7_told_mono hW hQ))

def x7_force_be (X106 : Int → Int → Mem → Prop) (Q : Int → Mem → Prop) (p1 : Int) (p2 : Int) (p3 : Int) (s : Mem) : Prop :=
  x2_has p1 s (fun r2 s1 => InI r2 ∧ (¬ r2 = (0 : Int) → x7_within p2 (0 : Int) (2 : Int) s1 (fun r4 s3 => InI r4 ∧ (r4 = (0 : Int) → Q (-100002 : Int) s3) ∧ (¬ r4 = (0 : Int) → x7_within p3 (0 : Int) (1 : Int) s3 (fun r6 s5 => InI r6 ∧ (¬ r6 = (0 : Int) → x3_settle 7 5 s5 (fun _ s7 => ((0 : Int) ≤ p1 ∧ p1 < 6) ∧ InI p2 ∧ (¬ p2 = (0 : Int) → (InI p2 ∧ InI (1 : Int)) ∧ (¬ p2 = (1 : Int) → X106 p3 (s7 8 p1) s7) ∧ (p2 = (1 : Int) → x3_pressUpper 7 p1 s7 (fun r9 s8 => X106 p3 r9 s8))) ∧ (p2 = (0 : Int) → x3_pullUpper 7 p1 s7 (fun r12 s11 => X106 p3 r12 s11)))) ∧ (r6 = (0 : Int) → Q (-100002 : Int) s5))))) ∧ (r2 = (0 : Int) → Q (-100001 : Int) s1))
def x7_force_b106 (X106 : Int → Int → Mem → Prop) (Q : Int → Mem → Prop) (x3 : Int) (x4 : Int) (s : Mem) : Prop :=
  x7_leastTerm x4 (s 7 (1 : Int)) x3 s (fun r18 s17 => Q r18 s17)
theorem x7_force_me {X106 Y106 : Int → Int → Mem → Prop} {Q R : Int → Mem → Prop} (hX106 : ∀ x3 x4 s, X106 x3 x4 s → Y106 x3 x4 s) (hQ : ∀ r s, Q r s → R r s) {p1 : Int} {p2 : Int} {p3 : Int} {s : Mem} (h : x7_force_be X106 Q p1 p2 p3 s) : x7_force_be Y106 R p1 p2 p3 s :=
  x2_has_mono h (fun r2 s1 h => ⟨h.1, fun c => have h := h.2.1 c; x7_within_mono h (fun r4 s3 h => ⟨h.1, fun c => have h := h.2.1 c; hQ _ _ h, fun c => have h := h.2.2 c; x7_within_mono h (fun r6 s5 h => ⟨h.1, fun c => have h := h.2.1 c; x3_settle_mono h (fun _ s7 h => ⟨h.1, have h := h.2; ⟨h.1, fun c => have h := h.2.1 c; ⟨h.1, fun c => have h := h.2.1 c; hX106 _ _ _ h, fun c => have h := h.2.2 c; x3_pressUpper_mono h (fun r9 s8 h => hX106 _ _ _ h)⟩, fun c => have h := h.2.2 c; x3_pullUpper_mono h (fun r12 s11 h => hX106 _ _ _ h)⟩⟩), fun c => have h := h.2.2 c; hQ _ _ h⟩)⟩), fun c => have h := h.2.2 c; hQ _ _ h⟩)
theorem x7_force_m106 {X106 Y106 : Int → Int → Mem → Prop} {Q R : Int → Mem → Prop} (hX106 : ∀ x3 x4 s, X106 x3 x4 s → Y106 x3 x4 s) (hQ : ∀ r s, Q r s → R r s) {x3 : Int} {x4 : Int} {s : Mem} (h : x7_force_b106 X106 Q x3 x4 s) : x7_force_b106 Y106 R x3 x4 s :=
  x7_leastTerm_mono h (fun r18 s17 h => hQ _ _ h)
def x7_force (p1 : Int) (p2 : Int) (p3 : Int) (s : Mem) (Q : Int → Mem → Prop) : Prop := ∀ (X106 : Int → Int → Mem → Prop), (∀ x3 x4 s, x7_force_b106 X106 Q x3 x4 s → X106 x3 x4 s) → x7_force_be X106 Q p1 p2 p3 s
def x7_force_L106 (Q : Int → Mem → Prop) (x3 : Int) (x4 : Int) (s : Mem) : Prop := ∀ (X106 : Int → Int → Mem → Prop), (∀ x3 x4 s, x7_force_b106 X106 Q x3 x4 s → X106 x3 x4 s) → X106 x3 x4 s
theorem x7_force_i {Q : Int → Mem → Prop} {p1 : Int} {p2 : Int} {p3 : Int} {s : Mem} (h : x7_force_be (x7_force_L106 Q) Q p1 p2 p3 s) : x7_force p1 p2 p3 s Q := fun X106 k106 => x7_force_me (fun _ _ _ h => h X106 k106) (fun _ _ h => h) h
theorem x7_force_s106 {Q : Int → Mem → Prop} {x3 : Int} {x4 : Int} {s : Mem} (h : x7_force_b106 (x7_force_L106 Q) Q x3 x4 s) : x7_force_L106 Q x3 x4 s := fun X106 k106 => k106 _ _ _ (x7_force_m106 (fun _ _ _ h => h X106 k106) (fun _ _ h => h) h)
theorem x7_force_mono {Q R : Int → Mem → Prop} {p1 : Int} {p2 : Int} {p3 : Int} {s : Mem} (h : x7_force p1 p2 p3 s Q) (hQ : ∀ r s, Q r s → R r s) : x7_force p1 p2 p3 s R := fun X106 k106 => x7_force_me (fun _ _ _ h => h) hQ (h X106 (fun _ _ _ h => k106 _ _ _ (x7_force_m106 (fun _ _ _ h => h) hQ h)))
def x7_force_rm : Room := { frames := 3, cells := 0, slots := 0, locals := 88 }
theorem w_x7_force_10 : Cond.fieldLink RX7 10 "BoltRing" "ring" "LBoltRing$Joint;" ∈ wsX7_force := by decide +kernel
theorem w_x7_force_128 : Cond.constantLong RX7 128 (-100002) ∈ wsX7_force := by decide +kernel
theorem w_x7_force_19 : Cond.fieldLink RX7 19 "BoltRing" "lifts" "LBoltRing$Lifts;" ∈ wsX7_force := by decide +kernel
theorem w_x7_force_108 : Cond.fieldLink RX7 108 "BoltRing$Joint" "loads" "[I" ∈ wsX7_force := by decide +kernel
theorem w_x7_force_130 : Cond.fieldLink RX7 130 "BoltRing$Lifts" "upper" "[J" ∈ wsX7_force := by decide +kernel
theorem w_x7_force_126 : Cond.constantLong RX7 126 (-100001) ∈ wsX7_force := by decide +kernel
theorem w_x7_force_134 : Cond.fieldLink RX7 134 "BoltRing$Lifts" "lower" "J" ∈ wsX7_force := by decide +kernel
theorem in_x7_force_X2 : ∀ w ∈ wsX20, w ∈ wsX7_force := by decide +kernel
theorem in_x7_force_X3 : ∀ w ∈ wsX30, w ∈ wsX7_force := by decide +kernel
theorem in_x7_force_X7 : ∀ w ∈ wsX70, w ∈ wsX7_force := by decide +kernel
set_option maxHeartbeats 4000000 in
set_option maxRecDepth 100000 in
theorem x7_force_bd {κ : KT} {ad : Nat → Nat} {cA : Nat → ClassId} {D : va_G} {Q : State → Prop} {p1 : Int} {p2 : Int} {p3 : Int} {s : Mem} (C : CX κ (GA ad cA D) RX7 cX7_force 6 wsX7_force x7_force_rm (some .long)) (h : x7_force p1 p2 p3 s (RT κ (GA ad cA D) ocL Q)) : WM κ (GA ad cA D) 6 Q s 0 [(0, .ref (ad 0)), (1, vI p1), (2, vI p2), (3, vI p3)] [] := by
  obtain ⟨Z106, z106⟩ : ∃ Z : Int → Int → Mem → Prop, ∀ x3 x4 s, Z x3 x4 s ↔ WM κ (GA ad cA D) 6 Q s 106 [(0, .ref (ad 0)), (3, vI x3), (4, vL x4)] [] := ⟨fun x3 x4 s => WM κ (GA ad cA D) 6 Q s 106 [(0, .ref (ad 0)), (3, vI x3), (4, vL x4)] [], fun _ _ _ => Iff.rfl⟩
  refine (fun h => ?_) (h Z106 ?_)
  · refine r_aload_n C 0 dX7_force_0 rfl ?_
    refine r_get (j := 0) (jz := 0) (v := .ref (ad 1)) C dX7_force_1 (shA_0) rfl rfl (by decide) in_x7_force_X7 w_x7_force_10 rfl rfl rfl ?_
    refine r_iload_n C 1 dX7_force_4 rfl ?_
    refine r_callV (As := [vI p1]) (o := 1) (n := 1) C dX7_force_5 (x2_has_ct κ.1.2.1 ad cA D p1 s) gX7_force_X2_has rfl ⟨rfl, rfl⟩ (by decide +kernel) (by decide) (shA_1) rfl rfl rfl (Nat.le_of_ble_eq_true rfl) (fun _ => rfl) ?_
    refine x2_has_mono h (fun r2 s1 h => ?_)
    refine r_if_ne (tgt := 15) C dX7_force_8 (by decide) ⟨h.1, fun c16 => ?_, fun c16 => ?_⟩
    · have h := h.2.1 c16
      refine r_iload_n C 2 dX7_force_15 rfl ?_
      refine r_iconst C dX7_force_16 ?_
      refine r_iconst C dX7_force_17 ?_
      refine r_callS (As := [vI p2, vI (0 : Int), vI (2 : Int)]) (n := 3) C dX7_force_18 (x7_within_ct κ.1.2.1 ad cA D p2 (0 : Int) (2 : Int) s1) gX7_force_X7_within rfl ⟨rfl, rfl⟩ (by decide +kernel) (by decide) rfl rfl (Nat.le_of_ble_eq_true rfl) (fun _ => rfl) ?_
      refine x7_within_mono h (fun r4 s3 h => ?_)
      refine r_if_eq (tgt := 33) C dX7_force_21 (by decide) ⟨h.1, fun c15 => ?_, fun c15 => ?_⟩
      · have h := h.2.1 c15
        refine r_ldc2 (z := -100002) C dX7_force_33 w_x7_force_128 rfl ?_
        exact r_lreturn C dX7_force_36 h
      · have h := h.2.2 c15
        refine r_iload_n C 3 dX7_force_24 rfl ?_
        refine r_iconst C dX7_force_25 ?_
        refine r_iconst C dX7_force_26 ?_
        refine r_callS (As := [vI p3, vI (0 : Int), vI (1 : Int)]) (n := 3) C dX7_force_27 (x7_within_ct κ.1.2.1 ad cA D p3 (0 : Int) (1 : Int) s3) gX7_force_X7_within rfl ⟨rfl, rfl⟩ (by decide +kernel) (by decide) rfl rfl (Nat.le_of_ble_eq_true rfl) (fun _ => rfl) ?_
        refine x7_within_mono h (fun r6 s5 h => ?_)
        refine r_if_ne (tgt := 37) C dX7_force_30 (by decide) ⟨h.1, fun c14 => ?_, fun c14 => ?_⟩
        · have h := h.2.1 c14
          refine r_aload_n C 0 dX7_force_37 rfl ?_
          refine r_get (j := 1) (jz := 1) (v := .ref (ad 7)) C dX7_force_38 (shA_0) rfl rfl (by decide) in_x7_force_X7 w_x7_force_19 rfl rfl rfl ?_
          refine r_aload_n C 0 dX7_force_41 rfl ?_
          refine r_get (j := 0) (jz := 0) (v := .ref (ad 1)) C dX7_force_42 (shA_0) rfl rfl (by decide) in_x7_force_X7 w_x7_force_10 rfl rfl rfl ?_
          refine r_aload_n C 0 dX7_force_45 rfl ?_
          refine r_get (j := 0) (jz := 0) (v := .ref (ad 1)) C dX7_force_46 (shA_0) rfl rfl (by decide) in_x7_force_X7 w_x7_force_10 rfl rfl rfl ?_
          refine r_get (j := 6) (jz := 6) (v := .ref (ad 5)) C dX7_force_49 (shA_1) rfl rfl (by decide) in_x7_force_X2 w_x7_force_108 rfl rfl rfl ?_
          refine r_callV (As := [.ref (ad 1), .ref (ad 5)]) (o := 7) (n := 2) C dX7_force_52 (x3_settle_ct κ.1.2.1 ad cA D 7 5 s5 (Or.inl rfl)) gX7_force_X3_settle rfl ⟨rfl, rfl⟩ (by decide +kernel) (by decide) (shA_7) rfl rfl rfl (Nat.le_of_ble_eq_true rfl) (fun _ => rfl) ?_
          refine x3_settle_mono h (fun _ s7 h => ?_)
          refine r_aload_n C 0 dX7_force_55 rfl ?_
          refine r_get (j := 1) (jz := 1) (v := .ref (ad 7)) C dX7_force_56 (shA_0) rfl rfl (by decide) in_x7_force_X7 w_x7_force_19 rfl rfl rfl ?_
          refine r_get (j := 0) (jz := 0) (v := .ref (ad 8)) C dX7_force_59 (shA_7) rfl rfl (by decide) in_x7_force_X3 w_x7_force_130 rfl rfl rfl ?_
          refine r_iload_n C 1 dX7_force_62 rfl ?_
          refine r_lald (nz := 6) C dX7_force_63 (shA_8) rfl (by decide) ⟨h.1, ?_⟩
          have h := h.2
          refine r_lstore (ls' := [(4, vL (s7 8 p1)), (0, .ref (ad 0)), (1, vI p1), (2, vI p2), (3, vI p3)]) C dX7_force_64 (by decide) rfl ?_
          refine r_iload_n C 3 dX7_force_66 rfl ?_
          refine r_if_ne (tgt := 87) C dX7_force_67 (by decide) ⟨h.1, fun c13 => ?_, fun c13 => ?_⟩
          · have h := h.2.1 c13
            refine r_iload_n C 3 dX7_force_87 rfl ?_
            refine r_iconst C dX7_force_88 ?_
            refine r_icmp_ne (tgt := 106) C dX7_force_89 (by decide) ⟨h.1, fun c10 => ?_, fun c10 => ?_⟩
            · have h := h.2.1 c10
              exact r_perm [1, 4, 0] rfl ((z106 _ _ _).1 h)
            · have h := h.2.2 c10
              refine r_aload_n C 1 dX7_force_92 rfl ?_
              refine r_get (j := 1) (jz := 1) (v := .ref (ad 7)) C dX7_force_93 (shA_0) rfl rfl (by decide) in_x7_force_X7 w_x7_force_19 rfl rfl rfl ?_
              refine r_aload_n C 1 dX7_force_96 rfl ?_
              refine r_get (j := 0) (jz := 0) (v := .ref (ad 1)) C dX7_force_97 (shA_0) rfl rfl (by decide) in_x7_force_X7 w_x7_force_10 rfl rfl rfl ?_
              refine r_iload_n C 2 dX7_force_100 rfl ?_
              refine r_callV (As := [.ref (ad 1), vI p1]) (o := 7) (n := 2) C dX7_force_101 (x3_pressUpper_ct κ.1.2.1 ad cA D 7 p1 s7 (Or.inl rfl)) gX7_force_X3_pressUpper rfl ⟨rfl, rfl⟩ (by decide +kernel) (by decide) (shA_7) rfl rfl rfl (Nat.le_of_ble_eq_true rfl) (fun _ => rfl) ?_
              refine x3_pressUpper_mono h (fun r9 s8 h => ?_)
              refine r_lstore (ls' := [(4, vL r9), (0, .ref (ad 0)), (1, vI p1), (2, vI p2), (3, vI p3)]) C dX7_force_104 (by decide) rfl ?_
              exact r_perm [1, 4, 0] rfl ((z106 _ _ _).1 h)
          · have h := h.2.2 c13
            refine r_aload_n C 1 dX7_force_70 rfl ?_
            refine r_get (j := 1) (jz := 1) (v := .ref (ad 7)) C dX7_force_71 (shA_0) rfl rfl (by decide) in_x7_force_X7 w_x7_force_19 rfl rfl rfl ?_
            refine r_aload_n C 1 dX7_force_74 rfl ?_
            refine r_get (j := 0) (jz := 0) (v := .ref (ad 1)) C dX7_force_75 (shA_0) rfl rfl (by decide) in_x7_force_X7 w_x7_force_10 rfl rfl rfl ?_
            refine r_iload_n C 2 dX7_force_78 rfl ?_
            refine r_callV (As := [.ref (ad 1), vI p1]) (o := 7) (n := 2) C dX7_force_79 (x3_pullUpper_ct κ.1.2.1 ad cA D 7 p1 s7 (Or.inl rfl)) gX7_force_X3_pullUpper rfl ⟨rfl, rfl⟩ (by decide +kernel) (by decide) (shA_7) rfl rfl rfl (Nat.le_of_ble_eq_true rfl) (fun _ => rfl) ?_
            refine x3_pullUpper_mono h (fun r12 s11 h => ?_)
            refine r_lstore (ls' := [(4, vL r12), (0, .ref (ad 0)), (1, vI p1), (2, vI p2), (3, vI p3)]) C dX7_force_82 (by decide) rfl ?_
            refine r_goto (tgt := 106) C dX7_force_84 (by decide) ?_
            exact r_perm [1, 4, 0] rfl ((z106 _ _ _).1 h)
        · have h := h.2.2 c14
          refine r_ldc2 (z := -100002) C dX7_force_33 w_x7_force_128 rfl ?_
          exact r_lreturn C dX7_force_36 h
    · have h := h.2.2 c16
      refine r_ldc2 (z := -100001) C dX7_force_11 w_x7_force_126 rfl ?_
      exact r_lreturn C dX7_force_14 h
  · intro x3 x4 s h
    refine (z106 _ _ _).2 ?_
    refine r_lload C 2 dX7_force_106 rfl ?_
    refine r_aload_n C 0 dX7_force_108 rfl ?_
    refine r_get (j := 1) (jz := 1) (v := .ref (ad 7)) C dX7_force_109 (shA_0) rfl rfl (by decide) in_x7_force_X7 w_x7_force_19 rfl rfl rfl ?_
    refine r_get (j := 1) (jz := 1) (v := vL (s 7 (1 : Int))) C dX7_force_112 (shA_7) rfl rfl (by decide) in_x7_force_X3 w_x7_force_134 rfl rfl rfl ?_
    refine r_iload_n C 1 dX7_force_115 rfl ?_
    refine r_callS (As := [vL x4, vL (s 7 (1 : Int)), vI x3]) (n := 3) C dX7_force_116 (x7_leastTerm_ct κ.1.2.1 ad cA D x4 (s 7 (1 : Int)) x3 s) gX7_force_X7_leastTerm rfl ⟨rfl, rfl⟩ (by decide +kernel) (by decide) rfl rfl (Nat.le_of_ble_eq_true rfl) (fun _ => rfl) ?_
    refine x7_leastTerm_mono h (fun r18 s17 h => ?_)
    exact r_lreturn C dX7_force_119 h
theorem x7_force_ct (l : Launch) (ad : Nat → Nat) (cA : Nat → ClassId) (D : va_G) (p1 : Int) (p2 : Int) (p3 : Int) (s : Mem) : MG l yX7_force wsX7_force x7_force_rm ocL [.ref (ad 0), vI p1, vI p2, vI p3] (GA ad cA D) s (x7_force p1 p2 p3 s) :=
  m_met (own := RX7) (nL := 6) (by decide) rfl rfl (Nat.le_of_ble_eq_true rfl) rfl rfl rfl (fun κ hl C Q Pst hW hQ => x7_force_bd C (x7_force_mono hW hQ))

def x7_count (p1 : Int) (s : Mem) (Q : Int → Mem → Prop) : Prop :=
  InI p1 ∧ ((p1 = 0) → Q (s 1 (0 : Int)) s) ∧ ((p1 = 1) → j6_bitCount_0f7a4 (s 1 (2 : Int)) s (fun r3 s2 => Q r3 s2)) ∧ ((p1 = 2) → x3_settle 7 5 s (fun _ s4 => x3_slackCount 7 s4 (fun r6 s5 => Q r6 s5))) ∧ ((p1 = 3) → x3_settle 7 5 s (fun _ s7 => x3_openCount 7 s7 (fun r9 s8 => Q r9 s8))) ∧ ((p1 = 4) → x2_sumOf 4 s (fun r11 s10 => Q r11 s10)) ∧ ((p1 = 5) → Q (s 23 (0 : Int)) s) ∧ ((p1 = 6) → j6_bitCount_0f7a4 (s 34 (0 : Int)) s (fun r13 s12 => Q r13 s12)) ∧ ((p1 = 7) → Q (s 37 (0 : Int)) s) ∧ ((p1 = 8) → Q (s 0 (7 : Int)) s) ∧ ((p1 < 0 ∨ 8 < p1) → Q (-100002 : Int) s)
theorem x7_count_mono {Q R : Int → Mem → Prop} {p1 : Int} {s : Mem} (h : x7_count p1 s Q) (hQ : ∀ r s, Q r s → R r s) : x7_count p1 s R :=
  ⟨h.1, fun c => have h := h.2.1 c; hQ _ _ h, fun c => have h := h.2.2.1 c; j6_bitCount_0f7a4_mono h (fun r3 s2 h => hQ _ _ h), fun c => have h := h.2.2.2.1 c; x3_settle_mono h (fun _ s4 h => x3_slackCount_mono h (fun r6 s5 h => hQ _ _ h)), fun c => have h := h.2.2.2.2.1 c; x3_settle_mono h (fun _ s7 h => x3_openCount_mono h (fun r9 s8 h => hQ _ _ h)), fun c => have h := h.2.2.2.2.2.1 c; x2_sumOf_mono h (fun r11 s10 h => hQ _ _ h), fun c => have h := h.2.2.2.2.2.2.1 c; hQ _ _ h, fun c => have h := h.2.2.2.2.2.2.2.1 c; j6_bitCount_0f7a4_mono h (fun r13 s12 h => hQ _ _ h), fun c => have h := h.2.2.2.2.2.2.2.2.1 c; hQ _ _ h, fun c => have h := h.2.2.2.2.2.2.2.2.2.1 c; hQ _ _ h, fun c => have h := h.2.2.2.2.2.2.2.2.2.2 c; hQ _ _ h⟩
def x7_count_rm : Room := { frames := 3, cells := 0, slots := 0, locals := 105 }
theorem w_x7_count_10 : Cond.fieldLink RX7 10 "BoltRing" "ring" "LBoltRing$Joint;" ∈ wsX7_count := by decide +kernel
theorem w_x7_count_142 : Cond.fieldLink RX7 142 "BoltRing$Joint" "bolts" "I" ∈ wsX7_count := by decide +kernel
theorem w_x7_count_145 : Cond.fieldLink RX7 145 "BoltRing$Joint" "brokenSet" "I" ∈ wsX7_count := by decide +kernel
theorem w_x7_count_19 : Cond.fieldLink RX7 19 "BoltRing" "lifts" "LBoltRing$Lifts;" ∈ wsX7_count := by decide +kernel
theorem w_x7_count_108 : Cond.fieldLink RX7 108 "BoltRing$Joint" "loads" "[I" ∈ wsX7_count := by decide +kernel
theorem w_x7_count_160 : Cond.fieldLink RX7 160 "BoltRing$Joint" "turns" "[I" ∈ wsX7_count := by decide +kernel
theorem w_x7_count_33 : Cond.fieldLink RX7 33 "BoltRing" "cases" "LBoltRing$Cases;" ∈ wsX7_count := by decide +kernel
theorem w_x7_count_67 : Cond.fieldLink RX7 67 "BoltRing$Cases" "count" "I" ∈ wsX7_count := by decide +kernel
theorem w_x7_count_47 : Cond.fieldLink RX7 47 "BoltRing" "readings" "LBoltRing$Readings;" ∈ wsX7_count := by decide +kernel
theorem w_x7_count_73 : Cond.fieldLink RX7 73 "BoltRing$Readings" "told" "I" ∈ wsX7_count := by decide +kernel
theorem w_x7_count_54 : Cond.fieldLink RX7 54 "BoltRing" "orders" "LBoltRing$Orders;" ∈ wsX7_count := by decide +kernel
theorem w_x7_count_167 : Cond.fieldLink RX7 167 "BoltRing$Orders" "length" "I" ∈ wsX7_count := by decide +kernel
theorem w_x7_count_170 : Cond.fieldLink RX7 170 "BoltRing" "clausesDone" "I" ∈ wsX7_count := by decide +kernel
theorem w_x7_count_66 : Cond.constant RX7 66 (-100002) ∈ wsX7_count := by decide +kernel
theorem in_x7_count_X0 : ∀ w ∈ wsX00, w ∈ wsX7_count := by decide +kernel
theorem in_x7_count_X2 : ∀ w ∈ wsX20, w ∈ wsX7_count := by decide +kernel
theorem in_x7_count_X5 : ∀ w ∈ wsX50, w ∈ wsX7_count := by decide +kernel
theorem in_x7_count_X6 : ∀ w ∈ wsX60, w ∈ wsX7_count := by decide +kernel
theorem in_x7_count_X7 : ∀ w ∈ wsX70, w ∈ wsX7_count := by decide +kernel
set_option maxHeartbeats 4000000 in
set_option maxRecDepth 100000 in
theorem x7_count_bd {κ : KT} {ad : Nat → Nat} {cA : Nat → ClassId} {D : va_G} {Q : State → Prop} {p1 : Int} {s : Mem} (C : CX κ (GA ad cA D) RX7 cX7_count 2 wsX7_count x7_count_rm (some .int)) (h : x7_count p1 s (RT κ (GA ad cA D) ocI Q)) : WM κ (GA ad cA D) 2 Q s 0 [(0, .ref (ad 0)), (1, vI p1)] [] := by
  refine r_iload_n C 1 dX7_count_0 rfl ?_
  have hI := h.1
  by_cases c1 : p1 = 0
  · have h := h.2.1 c1
    refine r_tsIn (tgt := 52) C 0 dX7_count_1 rfl (by decide) c1 hI (by decide) ?_
    refine r_aload_n C 0 dX7_count_52 rfl ?_
    refine r_get (j := 0) (jz := 0) (v := .ref (ad 1)) C dX7_count_53 (shA_0) rfl rfl (by decide) in_x7_count_X7 w_x7_count_10 rfl rfl rfl ?_
    refine r_get (j := 0) (jz := 0) (v := vI (s 1 (0 : Int))) C dX7_count_56 (shA_1) rfl rfl (by decide) in_x7_count_X2 w_x7_count_142 rfl rfl rfl ?_
    exact r_ireturn C dX7_count_59 h
  by_cases c1 : p1 = 1
  · have h := h.2.2.1 c1
    refine r_tsIn (tgt := 60) C 1 dX7_count_1 rfl (by decide) c1 hI (by decide) ?_
    refine r_aload_n C 0 dX7_count_60 rfl ?_
    refine r_get (j := 0) (jz := 0) (v := .ref (ad 1)) C dX7_count_61 (shA_0) rfl rfl (by decide) in_x7_count_X7 w_x7_count_10 rfl rfl rfl ?_
    refine r_get (j := 2) (jz := 2) (v := vI (s 1 (2 : Int))) C dX7_count_64 (shA_1) rfl rfl (by decide) in_x7_count_X2 w_x7_count_145 rfl rfl rfl ?_
    refine r_callS (As := [vI (s 1 (2 : Int))]) (n := 1) C dX7_count_67 (j6_bitCount_0f7a4_ct κ.1.2.1 ad cA D (s 1 (2 : Int)) s) gX7_count_J6_bitCount_0f7a4 rfl ⟨rfl, rfl⟩ (by decide +kernel) (by decide) rfl rfl (Nat.le_of_ble_eq_true rfl) (fun _ => rfl) ?_
    refine j6_bitCount_0f7a4_mono h (fun r3 s2 h => ?_)
    exact r_ireturn C dX7_count_70 h
  by_cases c1 : p1 = 2
  · have h := h.2.2.2.1 c1
    refine r_tsIn (tgt := 71) C 2 dX7_count_1 rfl (by decide) c1 hI (by decide) ?_
    refine r_aload_n C 0 dX7_count_71 rfl ?_
    refine r_get (j := 1) (jz := 1) (v := .ref (ad 7)) C dX7_count_72 (shA_0) rfl rfl (by decide) in_x7_count_X7 w_x7_count_19 rfl rfl rfl ?_
    refine r_aload_n C 0 dX7_count_75 rfl ?_
    refine r_get (j := 0) (jz := 0) (v := .ref (ad 1)) C dX7_count_76 (shA_0) rfl rfl (by decide) in_x7_count_X7 w_x7_count_10 rfl rfl rfl ?_
    refine r_aload_n C 0 dX7_count_79 rfl ?_
    refine r_get (j := 0) (jz := 0) (v := .ref (ad 1)) C dX7_count_80 (shA_0) rfl rfl (by decide) in_x7_count_X7 w_x7_count_10 rfl rfl rfl ?_
    refine r_get (j := 6) (jz := 6) (v := .ref (ad 5)) C dX7_count_83 (shA_1) rfl rfl (by decide) in_x7_count_X2 w_x7_count_108 rfl rfl rfl ?_
    refine r_callV (As := [.ref (ad 1), .ref (ad 5)]) (o := 7) (n := 2) C dX7_count_86 (x3_settle_ct κ.1.2.1 ad cA D 7 5 s (Or.inl rfl)) gX7_count_X3_settle rfl ⟨rfl, rfl⟩ (by decide +kernel) (by decide) (shA_7) rfl rfl rfl (Nat.le_of_ble_eq_true rfl) (fun _ => rfl) ?_
    refine x3_settle_mono h (fun _ s4 h => ?_)
    refine r_aload_n C 0 dX7_count_89 rfl ?_
    refine r_get (j := 1) (jz := 1) (v := .ref (ad 7)) C dX7_count_90 (shA_0) rfl rfl (by decide) in_x7_count_X7 w_x7_count_19 rfl rfl rfl ?_
    refine r_aload_n C 0 dX7_count_93 rfl ?_
    refine r_get (j := 0) (jz := 0) (v := .ref (ad 1)) C dX7_count_94 (shA_0) rfl rfl (by decide) in_x7_count_X7 w_x7_count_10 rfl rfl rfl ?_
    refine r_callV (As := [.ref (ad 1)]) (o := 7) (n := 1) C dX7_count_97 (x3_slackCount_ct κ.1.2.1 ad cA D 7 s4 (Or.inl rfl)) gX7_count_X3_slackCount rfl ⟨rfl, rfl⟩ (by decide +kernel) (by decide) (shA_7) rfl rfl rfl (Nat.le_of_ble_eq_true rfl) (fun _ => rfl) ?_
    refine x3_slackCount_mono h (fun r6 s5 h => ?_)
    exact r_ireturn C dX7_count_100 h
  by_cases c1 : p1 = 3
  · have h := h.2.2.2.2.1 c1
    refine r_tsIn (tgt := 101) C 3 dX7_count_1 rfl (by decide) c1 hI (by decide) ?_
    refine r_aload_n C 0 dX7_count_101 rfl ?_
    refine r_get (j := 1) (jz := 1) (v := .ref (ad 7)) C dX7_count_102 (shA_0) rfl rfl (by decide) in_x7_count_X7 w_x7_count_19 rfl rfl rfl ?_
    refine r_aload_n C 0 dX7_count_105 rfl ?_
    refine r_get (j := 0) (jz := 0) (v := .ref (ad 1)) C dX7_count_106 (shA_0) rfl rfl (by decide) in_x7_count_X7 w_x7_count_10 rfl rfl rfl ?_
    refine r_aload_n C 0 dX7_count_109 rfl ?_
    refine r_get (j := 0) (jz := 0) (v := .ref (ad 1)) C dX7_count_110 (shA_0) rfl rfl (by decide) in_x7_count_X7 w_x7_count_10 rfl rfl rfl ?_
    refine r_get (j := 6) (jz := 6) (v := .ref (ad 5)) C dX7_count_113 (shA_1) rfl rfl (by decide) in_x7_count_X2 w_x7_count_108 rfl rfl rfl ?_
    refine r_callV (As := [.ref (ad 1), .ref (ad 5)]) (o := 7) (n := 2) C dX7_count_116 (x3_settle_ct κ.1.2.1 ad cA D 7 5 s (Or.inl rfl)) gX7_count_X3_settle rfl ⟨rfl, rfl⟩ (by decide +kernel) (by decide) (shA_7) rfl rfl rfl (Nat.le_of_ble_eq_true rfl) (fun _ => rfl) ?_
    refine x3_settle_mono h (fun _ s7 h => ?_)
    refine r_aload_n C 0 dX7_count_119 rfl ?_
    refine r_get (j := 1) (jz := 1) (v := .ref (ad 7)) C dX7_count_120 (shA_0) rfl rfl (by decide) in_x7_count_X7 w_x7_count_19 rfl rfl rfl ?_
    refine r_aload_n C 0 dX7_count_123 rfl ?_
    refine r_get (j := 0) (jz := 0) (v := .ref (ad 1)) C dX7_count_124 (shA_0) rfl rfl (by decide) in_x7_count_X7 w_x7_count_10 rfl rfl rfl ?_
    refine r_callV (As := [.ref (ad 1)]) (o := 7) (n := 1) C dX7_count_127 (x3_openCount_ct κ.1.2.1 ad cA D 7 s7 (Or.inl rfl)) gX7_count_X3_openCount rfl ⟨rfl, rfl⟩ (by decide +kernel) (by decide) (shA_7) rfl rfl rfl (Nat.le_of_ble_eq_true rfl) (fun _ => rfl) ?_
    refine x3_openCount_mono h (fun r9 s8 h => ?_)
    exact r_ireturn C dX7_count_130 h
  by_cases c1 : p1 = 4
  · have h := h.2.2.2.2.2.1 c1
    refine r_tsIn (tgt := 131) C 4 dX7_count_1 rfl (by decide) c1 hI (by decide) ?_
    refine r_aload_n C 0 dX7_count_131 rfl ?_
    refine r_get (j := 0) (jz := 0) (v := .ref (ad 1)) C dX7_count_132 (shA_0) rfl rfl (by decide) in_x7_count_X7 w_x7_count_10 rfl rfl rfl ?_
    refine r_aload_n C 0 dX7_count_135 rfl ?_
    refine r_get (j := 0) (jz := 0) (v := .ref (ad 1)) C dX7_count_136 (shA_0) rfl rfl (by decide) in_x7_count_X7 w_x7_count_10 rfl rfl rfl ?_
    refine r_get (j := 5) (jz := 5) (v := .ref (ad 4)) C dX7_count_139 (shA_1) rfl rfl (by decide) in_x7_count_X2 w_x7_count_160 rfl rfl rfl ?_
    refine r_callV (As := [.ref (ad 4)]) (o := 1) (n := 1) C dX7_count_142 (x2_sumOf_ct κ.1.2.1 ad cA D 4 s) gX7_count_X2_sumOf rfl ⟨rfl, rfl⟩ (by decide +kernel) (by decide) (shA_1) rfl rfl rfl (Nat.le_of_ble_eq_true rfl) (fun _ => rfl) ?_
    refine x2_sumOf_mono h (fun r11 s10 h => ?_)
    exact r_ireturn C dX7_count_145 h
  by_cases c1 : p1 = 5
  · have h := h.2.2.2.2.2.2.1 c1
    refine r_tsIn (tgt := 146) C 5 dX7_count_1 rfl (by decide) c1 hI (by decide) ?_
    refine r_aload_n C 0 dX7_count_146 rfl ?_
    refine r_get (j := 3) (jz := 3) (v := .ref (ad 23)) C dX7_count_147 (shA_0) rfl rfl (by decide) in_x7_count_X7 w_x7_count_33 rfl rfl rfl ?_
    refine r_get (j := 0) (jz := 0) (v := vI (s 23 (0 : Int))) C dX7_count_150 (shA_23) rfl rfl (by decide) in_x7_count_X0 w_x7_count_67 rfl rfl rfl ?_
    exact r_ireturn C dX7_count_153 h
  by_cases c1 : p1 = 6
  · have h := h.2.2.2.2.2.2.2.1 c1
    refine r_tsIn (tgt := 154) C 6 dX7_count_1 rfl (by decide) c1 hI (by decide) ?_
    refine r_aload_n C 0 dX7_count_154 rfl ?_
    refine r_get (j := 5) (jz := 5) (v := .ref (ad 34)) C dX7_count_155 (shA_0) rfl rfl (by decide) in_x7_count_X7 w_x7_count_47 rfl rfl rfl ?_
    refine r_get (j := 0) (jz := 0) (v := vI (s 34 (0 : Int))) C dX7_count_158 (shA_34) rfl rfl (by decide) in_x7_count_X6 w_x7_count_73 rfl rfl rfl ?_
    refine r_callS (As := [vI (s 34 (0 : Int))]) (n := 1) C dX7_count_161 (j6_bitCount_0f7a4_ct κ.1.2.1 ad cA D (s 34 (0 : Int)) s) gX7_count_J6_bitCount_0f7a4 rfl ⟨rfl, rfl⟩ (by decide +kernel) (by decide) rfl rfl (Nat.le_of_ble_eq_true rfl) (fun _ => rfl) ?_
    refine j6_bitCount_0f7a4_mono h (fun r13 s12 h => ?_)
    exact r_ireturn C dX7_count_164 h
  by_cases c1 : p1 = 7
  · have h := h.2.2.2.2.2.2.2.2.1 c1
    refine r_tsIn (tgt := 165) C 7 dX7_count_1 rfl (by decide) c1 hI (by decide) ?_
    refine r_aload_n C 0 dX7_count_165 rfl ?_
    refine r_get (j := 6) (jz := 6) (v := .ref (ad 37)) C dX7_count_166 (shA_0) rfl rfl (by decide) in_x7_count_X7 w_x7_count_54 rfl rfl rfl ?_
    refine r_get (j := 0) (jz := 0) (v := vI (s 37 (0 : Int))) C dX7_count_169 (shA_37) rfl rfl (by decide) in_x7_count_X5 w_x7_count_167 rfl rfl rfl ?_
    exact r_ireturn C dX7_count_172 h
  by_cases c1 : p1 = 8
  · have h := h.2.2.2.2.2.2.2.2.2.1 c1
    refine r_tsIn (tgt := 173) C 8 dX7_count_1 rfl (by decide) c1 hI (by decide) ?_
    refine r_aload_n C 0 dX7_count_173 rfl ?_
    refine r_get (j := 7) (jz := 7) (v := vI (s 0 (7 : Int))) C dX7_count_174 (shA_0) rfl rfl (by decide) in_x7_count_X7 w_x7_count_170 rfl rfl rfl ?_
    exact r_ireturn C dX7_count_177 h
  have c1d : p1 < 0 ∨ 8 < p1 := by omega
  have h := h.2.2.2.2.2.2.2.2.2.2 c1d
  refine r_tsOut (tgt := 178) C dX7_count_1 c1d hI (by decide) ?_
  refine r_ldc (z := -100002) C dX7_count_178 w_x7_count_66 rfl ?_
  exact r_ireturn C dX7_count_180 h
theorem x7_count_ct (l : Launch) (ad : Nat → Nat) (cA : Nat → ClassId) (D : va_G) (p1 : Int) (s : Mem) : MG l yX7_count wsX7_count x7_count_rm ocI [.ref (ad 0), vI p1] (GA ad cA D) s (x7_count p1 s) :=
  m_met (own := RX7) (nL := 2) (by decide) rfl rfl (Nat.le_of_ble_eq_true rfl) rfl rfl rfl (fun κ hl C Q Pst hW hQ => x7_count_bd C (x7_count_mono hW hQ))

def x7_draw_be (X56 : Int → Mem → Prop) (Q : Int → Mem → Prop) (p1 : Int) (p2 : Int) (s : Mem) : Prop :=
  x2_has p1 s (fun r2 s1 => InI r2 ∧ (¬ r2 = (0 : Int) → x7_within p2 (1 : Int) (900 : Int) s1 (fun r4 s3 => InI r4 ∧ (¬ r4 = (0 : Int) → x2_isBroken p1 s3 (fun r6 s5 => InI r6 ∧ (r6 = (0 : Int) → x1_drawBolt p1 p2 s5 (fun r8 s7 => X56 r8 s7)) ∧ (¬ r6 = (0 : Int) → X56 (-1 : Int) s5))) ∧ (r4 = (0 : Int) → Q (-100002 : Int) s3))) ∧ (r2 = (0 : Int) → Q (-100001 : Int) s1))
def x7_draw_b56 (X56 : Int → Mem → Prop) (Q : Int → Mem → Prop) (t0 : Int) (s : Mem) : Prop :=
  (InI t0 ∧ InI (-1 : Int)) ∧ (¬ t0 = (-1 : Int) → Q t0 s) ∧ (t0 = (-1 : Int) → Q (-100003 : Int) s)
theorem x7_draw_me {X56 Y56 : Int → Mem → Prop} {Q R : Int → Mem → Prop} (hX56 : ∀ t0 s, X56 t0 s → Y56 t0 s) (hQ : ∀ r s, Q r s → R r s) {p1 : Int} {p2 : Int} {s : Mem} (h : x7_draw_be X56 Q p1 p2 s) : x7_draw_be Y56 R p1 p2 s :=
  x2_has_mono h (fun r2 s1 h => ⟨h.1, fun c => have h := h.2.1 c; x7_within_mono h (fun r4 s3 h => ⟨h.1, fun c => have h := h.2.1 c; x2_isBroken_mono h (fun r6 s5 h => ⟨h.1, fun c => have h := h.2.1 c; x1_drawBolt_mono h (fun r8 s7 h => hX56 _ _ h), fun c => have h := h.2.2 c; hX56 _ _ h⟩), fun c => have h := h.2.2 c; hQ _ _ h⟩), fun c => have h := h.2.2 c; hQ _ _ h⟩)
theorem x7_draw_m56 {X56 Y56 : Int → Mem → Prop} {Q R : Int → Mem → Prop} (hX56 : ∀ t0 s, X56 t0 s → Y56 t0 s) (hQ : ∀ r s, Q r s → R r s) {t0 : Int} {s : Mem} (h : x7_draw_b56 X56 Q t0 s) : x7_draw_b56 Y56 R t0 s :=
  ⟨h.1, fun c => have h := h.2.1 c; hQ _ _ h, fun c => have h := h.2.2 c; hQ _ _ h⟩
def x7_draw (p1 : Int) (p2 : Int) (s : Mem) (Q : Int → Mem → Prop) : Prop := ∀ (X56 : Int → Mem → Prop), (∀ t0 s, x7_draw_b56 X56 Q t0 s → X56 t0 s) → x7_draw_be X56 Q p1 p2 s
def x7_draw_L56 (Q : Int → Mem → Prop) (t0 : Int) (s : Mem) : Prop := ∀ (X56 : Int → Mem → Prop), (∀ t0 s, x7_draw_b56 X56 Q t0 s → X56 t0 s) → X56 t0 s
theorem x7_draw_i {Q : Int → Mem → Prop} {p1 : Int} {p2 : Int} {s : Mem} (h : x7_draw_be (x7_draw_L56 Q) Q p1 p2 s) : x7_draw p1 p2 s Q := fun X56 k56 => x7_draw_me (fun _ _ h => h X56 k56) (fun _ _ h => h) h
theorem x7_draw_s56 {Q : Int → Mem → Prop} {t0 : Int} {s : Mem} (h : x7_draw_b56 (x7_draw_L56 Q) Q t0 s) : x7_draw_L56 Q t0 s := fun X56 k56 => k56 _ _ (x7_draw_m56 (fun _ _ h => h X56 k56) (fun _ _ h => h) h)
theorem x7_draw_mono {Q R : Int → Mem → Prop} {p1 : Int} {p2 : Int} {s : Mem} (h : x7_draw p1 p2 s Q) (hQ : ∀ r s, Q r s → R r s) : x7_draw p1 p2 s R := fun X56 k56 => x7_draw_me (fun _ _ h => h) hQ (h X56 (fun _ _ h => k56 _ _ (x7_draw_m56 (fun _ _ h => h) hQ h)))
def x7_draw_rm : Room := { frames := 3, cells := 0, slots := 0, locals := 92 }
theorem w_x7_draw_10 : Cond.fieldLink RX7 10 "BoltRing" "ring" "LBoltRing$Joint;" ∈ wsX7_draw := by decide +kernel
theorem w_x7_draw_26 : Cond.fieldLink RX7 26 "BoltRing" "drawing" "LBoltRing$Drawing;" ∈ wsX7_draw := by decide +kernel
theorem w_x7_draw_66 : Cond.constant RX7 66 (-100002) ∈ wsX7_draw := by decide +kernel
theorem w_x7_draw_80 : Cond.constant RX7 80 (-100001) ∈ wsX7_draw := by decide +kernel
theorem w_x7_draw_99 : Cond.constant RX7 99 (-100003) ∈ wsX7_draw := by decide +kernel
theorem in_x7_draw_X7 : ∀ w ∈ wsX70, w ∈ wsX7_draw := by decide +kernel
set_option maxHeartbeats 4000000 in
set_option maxRecDepth 100000 in
theorem x7_draw_bd {κ : KT} {ad : Nat → Nat} {cA : Nat → ClassId} {D : va_G} {Q : State → Prop} {p1 : Int} {p2 : Int} {s : Mem} (C : CX κ (GA ad cA D) RX7 cX7_draw 4 wsX7_draw x7_draw_rm (some .int)) (h : x7_draw p1 p2 s (RT κ (GA ad cA D) ocI Q)) : WM κ (GA ad cA D) 4 Q s 0 [(0, .ref (ad 0)), (1, vI p1), (2, vI p2)] [] := by
  obtain ⟨Z56, z56⟩ : ∃ Z : Int → Mem → Prop, ∀ t0 s, Z t0 s ↔ WM κ (GA ad cA D) 4 Q s 56 [] [vI t0] := ⟨fun t0 s => WM κ (GA ad cA D) 4 Q s 56 [] [vI t0], fun _ _ => Iff.rfl⟩
  refine (fun h => ?_) (h Z56 ?_)
  · refine r_aload_n C 0 dX7_draw_0 rfl ?_
    refine r_get (j := 0) (jz := 0) (v := .ref (ad 1)) C dX7_draw_1 (shA_0) rfl rfl (by decide) in_x7_draw_X7 w_x7_draw_10 rfl rfl rfl ?_
    refine r_iload_n C 1 dX7_draw_4 rfl ?_
    refine r_callV (As := [vI p1]) (o := 1) (n := 1) C dX7_draw_5 (x2_has_ct κ.1.2.1 ad cA D p1 s) gX7_draw_X2_has rfl ⟨rfl, rfl⟩ (by decide +kernel) (by decide) (shA_1) rfl rfl rfl (Nat.le_of_ble_eq_true rfl) (fun _ => rfl) ?_
    refine x2_has_mono h (fun r2 s1 h => ?_)
    refine r_if_ne (tgt := 14) C dX7_draw_8 (by decide) ⟨h.1, fun c11 => ?_, fun c11 => ?_⟩
    · have h := h.2.1 c11
      refine r_iload_n C 2 dX7_draw_14 rfl ?_
      refine r_iconst C dX7_draw_15 ?_
      refine r_sipush C dX7_draw_16 (by decide) ?_
      refine r_callS (As := [vI p2, vI (1 : Int), vI (900 : Int)]) (n := 3) C dX7_draw_19 (x7_within_ct κ.1.2.1 ad cA D p2 (1 : Int) (900 : Int) s1) gX7_draw_X7_within rfl ⟨rfl, rfl⟩ (by decide +kernel) (by decide) rfl rfl (Nat.le_of_ble_eq_true rfl) (fun _ => rfl) ?_
      refine x7_within_mono h (fun r4 s3 h => ?_)
      refine r_if_ne (tgt := 28) C dX7_draw_22 (by decide) ⟨h.1, fun c10 => ?_, fun c10 => ?_⟩
      · have h := h.2.1 c10
        refine r_aload_n C 0 dX7_draw_28 rfl ?_
        refine r_get (j := 0) (jz := 0) (v := .ref (ad 1)) C dX7_draw_29 (shA_0) rfl rfl (by decide) in_x7_draw_X7 w_x7_draw_10 rfl rfl rfl ?_
        refine r_iload_n C 1 dX7_draw_32 rfl ?_
        refine r_callV (As := [vI p1]) (o := 1) (n := 1) C dX7_draw_33 (x2_isBroken_ct κ.1.2.1 ad cA D p1 s3) gX7_draw_X2_isBroken rfl ⟨rfl, rfl⟩ (by decide +kernel) (by decide) (shA_1) rfl rfl rfl (Nat.le_of_ble_eq_true rfl) (fun _ => rfl) ?_
        refine x2_isBroken_mono h (fun r6 s5 h => ?_)
        refine r_if_eq (tgt := 43) C dX7_draw_36 (by decide) ⟨h.1, fun c9 => ?_, fun c9 => ?_⟩
        · have h := h.2.1 c9
          refine r_aload_n C 0 dX7_draw_43 rfl ?_
          refine r_get (j := 2) (jz := 2) (v := .ref (ad 13)) C dX7_draw_44 (shA_0) rfl rfl (by decide) in_x7_draw_X7 w_x7_draw_26 rfl rfl rfl ?_
          refine r_aload_n C 0 dX7_draw_47 rfl ?_
          refine r_get (j := 0) (jz := 0) (v := .ref (ad 1)) C dX7_draw_48 (shA_0) rfl rfl (by decide) in_x7_draw_X7 w_x7_draw_10 rfl rfl rfl ?_
          refine r_iload_n C 1 dX7_draw_51 rfl ?_
          refine r_iload_n C 2 dX7_draw_52 rfl ?_
          refine r_callV (As := [.ref (ad 1), vI p1, vI p2]) (o := 13) (n := 3) C dX7_draw_53 (x1_drawBolt_ct κ.1.2.1 ad cA D p1 p2 s5) gX7_draw_X1_drawBolt rfl ⟨rfl, rfl⟩ (by decide +kernel) (by decide) (shA_13) rfl rfl rfl (Nat.le_of_ble_eq_true rfl) (fun _ => rfl) ?_
          refine x1_drawBolt_mono h (fun r8 s7 h => ?_)
          exact r_perm [] rfl ((z56 _ _).1 h)
        · have h := h.2.2 c9
          refine r_iconst C dX7_draw_39 ?_
          refine r_goto (tgt := 56) C dX7_draw_40 (by decide) ?_
          exact r_perm [] rfl ((z56 _ _).1 h)
      · have h := h.2.2 c10
        refine r_ldc (z := -100002) C dX7_draw_25 w_x7_draw_66 rfl ?_
        exact r_ireturn C dX7_draw_27 h
    · have h := h.2.2 c11
      refine r_ldc (z := -100001) C dX7_draw_11 w_x7_draw_80 rfl ?_
      exact r_ireturn C dX7_draw_13 h
  · intro t0 s h
    refine (z56 _ _).2 ?_
    refine r_istore_n (ls' := [(3, vI t0)]) C dX7_draw_56 rfl (by decide) rfl ?_
    refine r_iload_n C 0 dX7_draw_57 rfl ?_
    refine r_iconst C dX7_draw_58 ?_
    refine r_icmp_ne (tgt := 67) C dX7_draw_59 (by decide) ⟨h.1, fun c12 => ?_, fun c12 => ?_⟩
    · have h := h.2.1 c12
      refine r_iload_n C 0 dX7_draw_67 rfl ?_
      exact r_ireturn C dX7_draw_68 h
    · have h := h.2.2 c12
      refine r_ldc (z := -100003) C dX7_draw_62 w_x7_draw_99 rfl ?_
      refine r_goto (tgt := 68) C dX7_draw_64 (by decide) ?_
      exact r_ireturn C dX7_draw_68 h
theorem x7_draw_ct (l : Launch) (ad : Nat → Nat) (cA : Nat → ClassId) (D : va_G) (p1 : Int) (p2 : Int) (s : Mem) : MG l yX7_draw wsX7_draw x7_draw_rm ocI [.ref (ad 0), vI p1, vI p2] (GA ad cA D) s (x7_draw p1 p2 s) :=
  m_met (own := RX7) (nL := 4) (by decide) rfl rfl (Nat.le_of_ble_eq_true rfl) rfl rfl rfl (fun κ hl C Q Pst hW hQ => x7_draw_bd C (x7_draw_mono hW hQ))

def x7_row (p1 : Int) (s : Mem) (Q : Int → Mem → Prop) : Prop :=
  x2_takeRow p1 s (fun r2 s1 => InI r2 ∧ (r2 = (0 : Int) → Q (-100002 : Int) s1) ∧ (¬ r2 = (0 : Int) → Q (1 : Int) s1))
theorem x7_row_mono {Q R : Int → Mem → Prop} {p1 : Int} {s : Mem} (h : x7_row p1 s Q) (hQ : ∀ r s, Q r s → R r s) : x7_row p1 s R :=
  x2_takeRow_mono h (fun r2 s1 h => ⟨h.1, fun c => have h := h.2.1 c; hQ _ _ h, fun c => have h := h.2.2 c; hQ _ _ h⟩)
def x7_row_rm : Room := { frames := 3, cells := 0, slots := 0, locals := 68 }
theorem w_x7_row_10 : Cond.fieldLink RX7 10 "BoltRing" "ring" "LBoltRing$Joint;" ∈ wsX7_row := by decide +kernel
theorem w_x7_row_66 : Cond.constant RX7 66 (-100002) ∈ wsX7_row := by decide +kernel
theorem in_x7_row_X7 : ∀ w ∈ wsX70, w ∈ wsX7_row := by decide +kernel
set_option maxHeartbeats 4000000 in
set_option maxRecDepth 100000 in
theorem x7_row_bd {κ : KT} {ad : Nat → Nat} {cA : Nat → ClassId} {D : va_G} {Q : State → Prop} {p1 : Int} {s : Mem} (C : CX κ (GA ad cA D) RX7 cX7_row 2 wsX7_row x7_row_rm (some .int)) (h : x7_row p1 s (RT κ (GA ad cA D) ocI Q)) : WM κ (GA ad cA D) 2 Q s 0 [(0, .ref (ad 0)), (1, vI p1)] [] := by
  refine r_aload_n C 0 dX7_row_0 rfl ?_
  refine r_get (j := 0) (jz := 0) (v := .ref (ad 1)) C dX7_row_1 (shA_0) rfl rfl (by decide) in_x7_row_X7 w_x7_row_10 rfl rfl rfl ?_
  refine r_iload_n C 1 dX7_row_4 rfl ?_
  refine r_callV (As := [vI p1]) (o := 1) (n := 1) C dX7_row_5 (x2_takeRow_ct κ.1.2.1 ad cA D p1 s) gX7_row_X2_takeRow rfl ⟨rfl, rfl⟩ (by decide +kernel) (by decide) (shA_1) rfl rfl rfl (Nat.le_of_ble_eq_true rfl) (fun _ => rfl) ?_
  refine x2_takeRow_mono h (fun r2 s1 h => ?_)
  refine r_if_eq (tgt := 15) C dX7_row_8 (by decide) ⟨h.1, fun c3 => ?_, fun c3 => ?_⟩
  · have h := h.2.1 c3
    refine r_ldc (z := -100002) C dX7_row_15 w_x7_row_66 rfl ?_
    exact r_ireturn C dX7_row_17 h
  · have h := h.2.2 c3
    refine r_iconst C dX7_row_11 ?_
    refine r_goto (tgt := 17) C dX7_row_12 (by decide) ?_
    exact r_ireturn C dX7_row_17 h
theorem x7_row_ct (l : Launch) (ad : Nat → Nat) (cA : Nat → ClassId) (D : va_G) (p1 : Int) (s : Mem) : MG l yX7_row wsX7_row x7_row_rm ocI [.ref (ad 0), vI p1] (GA ad cA D) s (x7_row p1 s) :=
  m_met (own := RX7) (nL := 2) (by decide) rfl rfl (Nat.le_of_ble_eq_true rfl) rfl rfl rfl (fun κ hl C Q Pst hW hQ => x7_row_bd C (x7_row_mono hW hQ))

def x7_pass (p1 : Int) (s : Mem) (Q : Int → Mem → Prop) : Prop :=
  x7_within p1 (1 : Int) (900 : Int) s (fun r2 s1 => InI r2 ∧ (¬ r2 = (0 : Int) → x1_goRound 6 p1 s1 (fun r4 s3 => (InI r4 ∧ InI (-1 : Int)) ∧ (¬ r4 = (-1 : Int) → Q r4 s3) ∧ (r4 = (-1 : Int) → Q (-100003 : Int) s3))) ∧ (r2 = (0 : Int) → Q (-100002 : Int) s1))
theorem x7_pass_mono {Q R : Int → Mem → Prop} {p1 : Int} {s : Mem} (h : x7_pass p1 s Q) (hQ : ∀ r s, Q r s → R r s) : x7_pass p1 s R :=
  x7_within_mono h (fun r2 s1 h => ⟨h.1, fun c => have h := h.2.1 c; x1_goRound_mono h (fun r4 s3 h => ⟨h.1, fun c => have h := h.2.1 c; hQ _ _ h, fun c => have h := h.2.2 c; hQ _ _ h⟩), fun c => have h := h.2.2 c; hQ _ _ h⟩)
def x7_pass_rm : Room := { frames := 4, cells := 0, slots := 0, locals := 119 }
theorem w_x7_pass_26 : Cond.fieldLink RX7 26 "BoltRing" "drawing" "LBoltRing$Drawing;" ∈ wsX7_pass := by decide +kernel
theorem w_x7_pass_10 : Cond.fieldLink RX7 10 "BoltRing" "ring" "LBoltRing$Joint;" ∈ wsX7_pass := by decide +kernel
theorem w_x7_pass_180 : Cond.fieldLink RX7 180 "BoltRing$Joint" "order" "[I" ∈ wsX7_pass := by decide +kernel
theorem w_x7_pass_99 : Cond.constant RX7 99 (-100003) ∈ wsX7_pass := by decide +kernel
theorem w_x7_pass_66 : Cond.constant RX7 66 (-100002) ∈ wsX7_pass := by decide +kernel
theorem in_x7_pass_X2 : ∀ w ∈ wsX20, w ∈ wsX7_pass := by decide +kernel
theorem in_x7_pass_X7 : ∀ w ∈ wsX70, w ∈ wsX7_pass := by decide +kernel
set_option maxHeartbeats 4000000 in
set_option maxRecDepth 100000 in
theorem x7_pass_bd {κ : KT} {ad : Nat → Nat} {cA : Nat → ClassId} {D : va_G} {Q : State → Prop} {p1 : Int} {s : Mem} (C : CX κ (GA ad cA D) RX7 cX7_pass 3 wsX7_pass x7_pass_rm (some .int)) (h : x7_pass p1 s (RT κ (GA ad cA D) ocI Q)) : WM κ (GA ad cA D) 3 Q s 0 [(0, .ref (ad 0)), (1, vI p1)] [] := by
  refine r_iload_n C 1 dX7_pass_0 rfl ?_
  refine r_iconst C dX7_pass_1 ?_
  refine r_sipush C dX7_pass_2 (by decide) ?_
  refine r_callS (As := [vI p1, vI (1 : Int), vI (900 : Int)]) (n := 3) C dX7_pass_5 (x7_within_ct κ.1.2.1 ad cA D p1 (1 : Int) (900 : Int) s) gX7_pass_X7_within rfl ⟨rfl, rfl⟩ (by decide +kernel) (by decide) rfl rfl (Nat.le_of_ble_eq_true rfl) (fun _ => rfl) ?_
  refine x7_within_mono h (fun r2 s1 h => ?_)
  refine r_if_ne (tgt := 14) C dX7_pass_8 (by decide) ⟨h.1, fun c6 => ?_, fun c6 => ?_⟩
  · have h := h.2.1 c6
    refine r_aload_n C 0 dX7_pass_14 rfl ?_
    refine r_get (j := 2) (jz := 2) (v := .ref (ad 13)) C dX7_pass_15 (shA_0) rfl rfl (by decide) in_x7_pass_X7 w_x7_pass_26 rfl rfl rfl ?_
    refine r_aload_n C 0 dX7_pass_18 rfl ?_
    refine r_get (j := 0) (jz := 0) (v := .ref (ad 1)) C dX7_pass_19 (shA_0) rfl rfl (by decide) in_x7_pass_X7 w_x7_pass_10 rfl rfl rfl ?_
    refine r_aload_n C 0 dX7_pass_22 rfl ?_
    refine r_get (j := 0) (jz := 0) (v := .ref (ad 1)) C dX7_pass_23 (shA_0) rfl rfl (by decide) in_x7_pass_X7 w_x7_pass_10 rfl rfl rfl ?_
    refine r_get (j := 7) (jz := 7) (v := .ref (ad 6)) C dX7_pass_26 (shA_1) rfl rfl (by decide) in_x7_pass_X2 w_x7_pass_180 rfl rfl rfl ?_
    refine r_iload_n C 1 dX7_pass_29 rfl ?_
    refine r_callV (As := [.ref (ad 1), .ref (ad 6), vI p1]) (o := 13) (n := 3) C dX7_pass_30 (x1_goRound_ct κ.1.2.1 ad cA D 6 p1 s1) gX7_pass_X1_goRound rfl ⟨rfl, rfl⟩ (by decide +kernel) (by decide) (shA_13) rfl rfl rfl (Nat.le_of_ble_eq_true rfl) (fun _ => rfl) ?_
    refine x1_goRound_mono h (fun r4 s3 h => ?_)
    refine r_istore_n (ls' := [(2, vI r4), (0, .ref (ad 0)), (1, vI p1)]) C dX7_pass_33 rfl (by decide) rfl ?_
    refine r_iload_n C 0 dX7_pass_34 rfl ?_
    refine r_iconst C dX7_pass_35 ?_
    refine r_icmp_ne (tgt := 44) C dX7_pass_36 (by decide) ⟨h.1, fun c5 => ?_, fun c5 => ?_⟩
    · have h := h.2.1 c5
      refine r_iload_n C 0 dX7_pass_44 rfl ?_
      exact r_ireturn C dX7_pass_45 h
    · have h := h.2.2 c5
      refine r_ldc (z := -100003) C dX7_pass_39 w_x7_pass_99 rfl ?_
      refine r_goto (tgt := 45) C dX7_pass_41 (by decide) ?_
      exact r_ireturn C dX7_pass_45 h
  · have h := h.2.2 c6
    refine r_ldc (z := -100002) C dX7_pass_11 w_x7_pass_66 rfl ?_
    exact r_ireturn C dX7_pass_13 h
theorem x7_pass_ct (l : Launch) (ad : Nat → Nat) (cA : Nat → ClassId) (D : va_G) (p1 : Int) (s : Mem) : MG l yX7_pass wsX7_pass x7_pass_rm ocI [.ref (ad 0), vI p1] (GA ad cA D) s (x7_pass p1 s) :=
  m_met (own := RX7) (nL := 3) (by decide) rfl rfl (Nat.le_of_ble_eq_true rfl) rfl rfl rfl (fun κ hl C Q Pst hW hQ => x7_pass_bd C (x7_pass_mono hW hQ))

def x7_passes (p1 : Int) (s : Mem) (Q : Int → Mem → Prop) : Prop :=
  x7_within p1 (1 : Int) (900 : Int) s (fun r2 s1 => InI r2 ∧ (¬ r2 = (0 : Int) → x1_keepTurns s1 (fun _ s3 => x1_goRounds 6 p1 (20 : Int) s3 (fun r5 s4 => (InI r5 ∧ InI (-1 : Int)) ∧ (¬ r5 = (-1 : Int) → Q r5 s4) ∧ (r5 = (-1 : Int) → x1_putTurnsBack s4 (fun _ s6 => Q (-100003 : Int) s6))))) ∧ (r2 = (0 : Int) → Q (-100002 : Int) s1))
theorem x7_passes_mono {Q R : Int → Mem → Prop} {p1 : Int} {s : Mem} (h : x7_passes p1 s Q) (hQ : ∀ r s, Q r s → R r s) : x7_passes p1 s R :=
  x7_within_mono h (fun r2 s1 h => ⟨h.1, fun c => have h := h.2.1 c; x1_keepTurns_mono h (fun _ s3 h => x1_goRounds_mono h (fun r5 s4 h => ⟨h.1, fun c => have h := h.2.1 c; hQ _ _ h, fun c => have h := h.2.2 c; x1_putTurnsBack_mono h (fun _ s6 h => hQ _ _ h)⟩)), fun c => have h := h.2.2 c; hQ _ _ h⟩)
def x7_passes_rm : Room := { frames := 5, cells := 0, slots := 0, locals := 144 }
theorem w_x7_passes_26 : Cond.fieldLink RX7 26 "BoltRing" "drawing" "LBoltRing$Drawing;" ∈ wsX7_passes := by decide +kernel
theorem w_x7_passes_10 : Cond.fieldLink RX7 10 "BoltRing" "ring" "LBoltRing$Joint;" ∈ wsX7_passes := by decide +kernel
theorem w_x7_passes_180 : Cond.fieldLink RX7 180 "BoltRing$Joint" "order" "[I" ∈ wsX7_passes := by decide +kernel
theorem w_x7_passes_99 : Cond.constant RX7 99 (-100003) ∈ wsX7_passes := by decide +kernel
theorem w_x7_passes_66 : Cond.constant RX7 66 (-100002) ∈ wsX7_passes := by decide +kernel
theorem in_x7_passes_X2 : ∀ w ∈ wsX20, w ∈ wsX7_passes := by decide +kernel
theorem in_x7_passes_X7 : ∀ w ∈ wsX70, w ∈ wsX7_passes := by decide +kernel
set_option maxHeartbeats 4000000 in
set_option maxRecDepth 100000 in
theorem x7_passes_bd {κ : KT} {ad : Nat → Nat} {cA : Nat → ClassId} {D : va_G} {Q : State → Prop} {p1 : Int} {s : Mem} (C : CX κ (GA ad cA D) RX7 cX7_passes 3 wsX7_passes x7_passes_rm (some .int)) (h : x7_passes p1 s (RT κ (GA ad cA D) ocI Q)) : WM κ (GA ad cA D) 3 Q s 0 [(0, .ref (ad 0)), (1, vI p1)] [] := by
  refine r_iload_n C 1 dX7_passes_0 rfl ?_
  refine r_iconst C dX7_passes_1 ?_
  refine r_sipush C dX7_passes_2 (by decide) ?_
  refine r_callS (As := [vI p1, vI (1 : Int), vI (900 : Int)]) (n := 3) C dX7_passes_5 (x7_within_ct κ.1.2.1 ad cA D p1 (1 : Int) (900 : Int) s) gX7_passes_X7_within rfl ⟨rfl, rfl⟩ (by decide +kernel) (by decide) rfl rfl (Nat.le_of_ble_eq_true rfl) (fun _ => rfl) ?_
  refine x7_within_mono h (fun r2 s1 h => ?_)
  refine r_if_ne (tgt := 14) C dX7_passes_8 (by decide) ⟨h.1, fun c8 => ?_, fun c8 => ?_⟩
  · have h := h.2.1 c8
    refine r_aload_n C 0 dX7_passes_14 rfl ?_
    refine r_get (j := 2) (jz := 2) (v := .ref (ad 13)) C dX7_passes_15 (shA_0) rfl rfl (by decide) in_x7_passes_X7 w_x7_passes_26 rfl rfl rfl ?_
    refine r_aload_n C 0 dX7_passes_18 rfl ?_
    refine r_get (j := 0) (jz := 0) (v := .ref (ad 1)) C dX7_passes_19 (shA_0) rfl rfl (by decide) in_x7_passes_X7 w_x7_passes_10 rfl rfl rfl ?_
    refine r_callV (As := [.ref (ad 1)]) (o := 13) (n := 1) C dX7_passes_22 (x1_keepTurns_ct κ.1.2.1 ad cA D s1) gX7_passes_X1_keepTurns rfl ⟨rfl, rfl⟩ (by decide +kernel) (by decide) (shA_13) rfl rfl rfl (Nat.le_of_ble_eq_true rfl) (fun _ => rfl) ?_
    refine x1_keepTurns_mono h (fun _ s3 h => ?_)
    refine r_aload_n C 0 dX7_passes_25 rfl ?_
    refine r_get (j := 2) (jz := 2) (v := .ref (ad 13)) C dX7_passes_26 (shA_0) rfl rfl (by decide) in_x7_passes_X7 w_x7_passes_26 rfl rfl rfl ?_
    refine r_aload_n C 0 dX7_passes_29 rfl ?_
    refine r_get (j := 0) (jz := 0) (v := .ref (ad 1)) C dX7_passes_30 (shA_0) rfl rfl (by decide) in_x7_passes_X7 w_x7_passes_10 rfl rfl rfl ?_
    refine r_aload_n C 0 dX7_passes_33 rfl ?_
    refine r_get (j := 0) (jz := 0) (v := .ref (ad 1)) C dX7_passes_34 (shA_0) rfl rfl (by decide) in_x7_passes_X7 w_x7_passes_10 rfl rfl rfl ?_
    refine r_get (j := 7) (jz := 7) (v := .ref (ad 6)) C dX7_passes_37 (shA_1) rfl rfl (by decide) in_x7_passes_X2 w_x7_passes_180 rfl rfl rfl ?_
    refine r_iload_n C 1 dX7_passes_40 rfl ?_
    refine r_bipush C dX7_passes_41 (by decide) ?_
    refine r_callV (As := [.ref (ad 1), .ref (ad 6), vI p1, vI (20 : Int)]) (o := 13) (n := 4) C dX7_passes_43 (x1_goRounds_ct κ.1.2.1 ad cA D 6 p1 (20 : Int) s3) gX7_passes_X1_goRounds rfl ⟨rfl, rfl⟩ (by decide +kernel) (by decide) (shA_13) rfl rfl rfl (Nat.le_of_ble_eq_true rfl) (fun _ => rfl) ?_
    refine x1_goRounds_mono h (fun r5 s4 h => ?_)
    refine r_istore_n (ls' := [(2, vI r5), (0, .ref (ad 0)), (1, vI p1)]) C dX7_passes_46 rfl (by decide) rfl ?_
    refine r_iload_n C 0 dX7_passes_47 rfl ?_
    refine r_iconst C dX7_passes_48 ?_
    refine r_icmp_ne (tgt := 66) C dX7_passes_49 (by decide) ⟨h.1, fun c7 => ?_, fun c7 => ?_⟩
    · have h := h.2.1 c7
      refine r_iload_n C 0 dX7_passes_66 rfl ?_
      exact r_ireturn C dX7_passes_67 h
    · have h := h.2.2 c7
      refine r_aload_n C 1 dX7_passes_52 rfl ?_
      refine r_get (j := 2) (jz := 2) (v := .ref (ad 13)) C dX7_passes_53 (shA_0) rfl rfl (by decide) in_x7_passes_X7 w_x7_passes_26 rfl rfl rfl ?_
      refine r_aload_n C 1 dX7_passes_56 rfl ?_
      refine r_get (j := 0) (jz := 0) (v := .ref (ad 1)) C dX7_passes_57 (shA_0) rfl rfl (by decide) in_x7_passes_X7 w_x7_passes_10 rfl rfl rfl ?_
      refine r_callV (As := [.ref (ad 1)]) (o := 13) (n := 1) C dX7_passes_60 (x1_putTurnsBack_ct κ.1.2.1 ad cA D s4) gX7_passes_X1_putTurnsBack rfl ⟨rfl, rfl⟩ (by decide +kernel) (by decide) (shA_13) rfl rfl rfl (Nat.le_of_ble_eq_true rfl) (fun _ => rfl) ?_
      refine x1_putTurnsBack_mono h (fun _ s6 h => ?_)
      refine r_ldc (z := -100003) C dX7_passes_63 w_x7_passes_99 rfl ?_
      exact r_ireturn C dX7_passes_65 h
  · have h := h.2.2 c8
    refine r_ldc (z := -100002) C dX7_passes_11 w_x7_passes_66 rfl ?_
    exact r_ireturn C dX7_passes_13 h
theorem x7_passes_ct (l : Launch) (ad : Nat → Nat) (cA : Nat → ClassId) (D : va_G) (p1 : Int) (s : Mem) : MG l yX7_passes wsX7_passes x7_passes_rm ocI [.ref (ad 0), vI p1] (GA ad cA D) s (x7_passes p1 s) :=
  m_met (own := RX7) (nL := 3) (by decide) rfl rfl (Nat.le_of_ble_eq_true rfl) rfl rfl rfl (fun κ hl C Q Pst hW hQ => x7_passes_bd C (x7_passes_mono hW hQ))

def x7_best (p1 : Int) (p2 : Int) (s : Mem) (Q : Int → Mem → Prop) : Prop :=
  x7_within p1 (1 : Int) (900 : Int) s (fun r2 s1 => InI r2 ∧ (r2 = (0 : Int) → Q (-100002 : Int) s1) ∧ (¬ r2 = (0 : Int) → x7_within p2 (0 : Int) (2 : Int) s1 (fun r4 s3 => InI r4 ∧ (¬ r4 = (0 : Int) → (InI (s3 1 (0 : Int)) ∧ InI (6 : Int)) ∧ (¬ (s3 1 (0 : Int)) = (6 : Int) → x1_findBestRow p1 s3 (fun _ s5 => (InI (s5 13 (0 : Int)) ∧ InI (-1 : Int)) ∧ (¬ (s5 13 (0 : Int)) = (-1 : Int) → InI p2 ∧ (¬ p2 = (0 : Int) → (InI p2 ∧ InI (1 : Int)) ∧ (¬ p2 = (1 : Int) → Q (s5 13 (1 : Int)) s5) ∧ (p2 = (1 : Int) → Q (s5 13 (0 : Int)) s5)) ∧ (p2 = (0 : Int) → Q (s5 13 (2 : Int)) s5)) ∧ ((s5 13 (0 : Int)) = (-1 : Int) → Q (-100003 : Int) s5))) ∧ ((s3 1 (0 : Int)) = (6 : Int) → Q (-100005 : Int) s3)) ∧ (r4 = (0 : Int) → Q (-100002 : Int) s3))))
theorem x7_best_mono {Q R : Int → Mem → Prop} {p1 : Int} {p2 : Int} {s : Mem} (h : x7_best p1 p2 s Q) (hQ : ∀ r s, Q r s → R r s) : x7_best p1 p2 s R :=
  x7_within_mono h (fun r2 s1 h => ⟨h.1, fun c => have h := h.2.1 c; hQ _ _ h, fun c => have h := h.2.2 c; x7_within_mono h (fun r4 s3 h => ⟨h.1, fun c => have h := h.2.1 c; ⟨h.1, fun c => have h := h.2.1 c; x1_findBestRow_mono h (fun _ s5 h => ⟨h.1, fun c => have h := h.2.1 c; ⟨h.1, fun c => have h := h.2.1 c; ⟨h.1, fun c => have h := h.2.1 c; hQ _ _ h, fun c => have h := h.2.2 c; hQ _ _ h⟩, fun c => have h := h.2.2 c; hQ _ _ h⟩, fun c => have h := h.2.2 c; hQ _ _ h⟩), fun c => have h := h.2.2 c; hQ _ _ h⟩, fun c => have h := h.2.2 c; hQ _ _ h⟩)⟩)
def x7_best_rm : Room := { frames := 6, cells := 0, slots := 0, locals := 171 }
theorem w_x7_best_66 : Cond.constant RX7 66 (-100002) ∈ wsX7_best := by decide +kernel
theorem w_x7_best_10 : Cond.fieldLink RX7 10 "BoltRing" "ring" "LBoltRing$Joint;" ∈ wsX7_best := by decide +kernel
theorem w_x7_best_142 : Cond.fieldLink RX7 142 "BoltRing$Joint" "bolts" "I" ∈ wsX7_best := by decide +kernel
theorem w_x7_best_26 : Cond.fieldLink RX7 26 "BoltRing" "drawing" "LBoltRing$Drawing;" ∈ wsX7_best := by decide +kernel
theorem w_x7_best_203 : Cond.fieldLink RX7 203 "BoltRing$Drawing" "bestPasses" "I" ∈ wsX7_best := by decide +kernel
theorem w_x7_best_209 : Cond.fieldLink RX7 209 "BoltRing$Drawing" "bestDrawn" "I" ∈ wsX7_best := by decide +kernel
theorem w_x7_best_206 : Cond.fieldLink RX7 206 "BoltRing$Drawing" "bestFigures" "I" ∈ wsX7_best := by decide +kernel
theorem w_x7_best_99 : Cond.constant RX7 99 (-100003) ∈ wsX7_best := by decide +kernel
theorem w_x7_best_198 : Cond.constant RX7 198 (-100005) ∈ wsX7_best := by decide +kernel
theorem in_x7_best_X1 : ∀ w ∈ wsX10, w ∈ wsX7_best := by decide +kernel
theorem in_x7_best_X2 : ∀ w ∈ wsX20, w ∈ wsX7_best := by decide +kernel
theorem in_x7_best_X7 : ∀ w ∈ wsX70, w ∈ wsX7_best := by decide +kernel
set_option maxHeartbeats 4000000 in
set_option maxRecDepth 100000 in
theorem x7_best_bd {κ : KT} {ad : Nat → Nat} {cA : Nat → ClassId} {D : va_G} {Q : State → Prop} {p1 : Int} {p2 : Int} {s : Mem} (C : CX κ (GA ad cA D) RX7 cX7_best 3 wsX7_best x7_best_rm (some .int)) (h : x7_best p1 p2 s (RT κ (GA ad cA D) ocI Q)) : WM κ (GA ad cA D) 3 Q s 0 [(0, .ref (ad 0)), (1, vI p1), (2, vI p2)] [] := by
  refine r_iload_n C 1 dX7_best_0 rfl ?_
  refine r_iconst C dX7_best_1 ?_
  refine r_sipush C dX7_best_2 (by decide) ?_
  refine r_callS (As := [vI p1, vI (1 : Int), vI (900 : Int)]) (n := 3) C dX7_best_5 (x7_within_ct κ.1.2.1 ad cA D p1 (1 : Int) (900 : Int) s) gX7_best_X7_within rfl ⟨rfl, rfl⟩ (by decide +kernel) (by decide) rfl rfl (Nat.le_of_ble_eq_true rfl) (fun _ => rfl) ?_
  refine x7_within_mono h (fun r2 s1 h => ?_)
  refine r_if_eq (tgt := 20) C dX7_best_8 (by decide) ⟨h.1, fun c11 => ?_, fun c11 => ?_⟩
  · have h := h.2.1 c11
    refine r_ldc (z := -100002) C dX7_best_20 w_x7_best_66 rfl ?_
    exact r_ireturn C dX7_best_22 h
  · have h := h.2.2 c11
    refine r_iload_n C 2 dX7_best_11 rfl ?_
    refine r_iconst C dX7_best_12 ?_
    refine r_iconst C dX7_best_13 ?_
    refine r_callS (As := [vI p2, vI (0 : Int), vI (2 : Int)]) (n := 3) C dX7_best_14 (x7_within_ct κ.1.2.1 ad cA D p2 (0 : Int) (2 : Int) s1) gX7_best_X7_within rfl ⟨rfl, rfl⟩ (by decide +kernel) (by decide) rfl rfl (Nat.le_of_ble_eq_true rfl) (fun _ => rfl) ?_
    refine x7_within_mono h (fun r4 s3 h => ?_)
    refine r_if_ne (tgt := 23) C dX7_best_17 (by decide) ⟨h.1, fun c10 => ?_, fun c10 => ?_⟩
    · have h := h.2.1 c10
      refine r_aload_n C 0 dX7_best_23 rfl ?_
      refine r_get (j := 0) (jz := 0) (v := .ref (ad 1)) C dX7_best_24 (shA_0) rfl rfl (by decide) in_x7_best_X7 w_x7_best_10 rfl rfl rfl ?_
      refine r_get (j := 0) (jz := 0) (v := vI (s3 1 (0 : Int))) C dX7_best_27 (shA_1) rfl rfl (by decide) in_x7_best_X2 w_x7_best_142 rfl rfl rfl ?_
      refine r_bipush C dX7_best_30 (by decide) ?_
      refine r_icmp_ne (tgt := 38) C dX7_best_32 (by decide) ⟨h.1, fun c9 => ?_, fun c9 => ?_⟩
      · have h := h.2.1 c9
        refine r_aload_n C 0 dX7_best_38 rfl ?_
        refine r_get (j := 2) (jz := 2) (v := .ref (ad 13)) C dX7_best_39 (shA_0) rfl rfl (by decide) in_x7_best_X7 w_x7_best_26 rfl rfl rfl ?_
        refine r_aload_n C 0 dX7_best_42 rfl ?_
        refine r_get (j := 0) (jz := 0) (v := .ref (ad 1)) C dX7_best_43 (shA_0) rfl rfl (by decide) in_x7_best_X7 w_x7_best_10 rfl rfl rfl ?_
        refine r_iload_n C 1 dX7_best_46 rfl ?_
        refine r_callV (As := [.ref (ad 1), vI p1]) (o := 13) (n := 2) C dX7_best_47 (x1_findBestRow_ct κ.1.2.1 ad cA D p1 s3) gX7_best_X1_findBestRow rfl ⟨rfl, rfl⟩ (by decide +kernel) (by decide) (shA_13) rfl rfl rfl (Nat.le_of_ble_eq_true rfl) (fun _ => rfl) ?_
        refine x1_findBestRow_mono h (fun _ s5 h => ?_)
        refine r_aload_n C 0 dX7_best_50 rfl ?_
        refine r_get (j := 2) (jz := 2) (v := .ref (ad 13)) C dX7_best_51 (shA_0) rfl rfl (by decide) in_x7_best_X7 w_x7_best_26 rfl rfl rfl ?_
        refine r_get (j := 0) (jz := 0) (v := vI (s5 13 (0 : Int))) C dX7_best_54 (shA_13) rfl rfl (by decide) in_x7_best_X1 w_x7_best_203 rfl rfl rfl ?_
        refine r_iconst C dX7_best_57 ?_
        refine r_icmp_ne (tgt := 64) C dX7_best_58 (by decide) ⟨h.1, fun c8 => ?_, fun c8 => ?_⟩
        · have h := h.2.1 c8
          refine r_iload_n C 2 dX7_best_64 rfl ?_
          refine r_if_ne (tgt := 76) C dX7_best_65 (by decide) ⟨h.1, fun c7 => ?_, fun c7 => ?_⟩
          · have h := h.2.1 c7
            refine r_iload_n C 2 dX7_best_76 rfl ?_
            refine r_iconst C dX7_best_77 ?_
            refine r_icmp_ne (tgt := 91) C dX7_best_78 (by decide) ⟨h.1, fun c6 => ?_, fun c6 => ?_⟩
            · have h := h.2.1 c6
              refine r_aload_n C 0 dX7_best_91 rfl ?_
              refine r_get (j := 2) (jz := 2) (v := .ref (ad 13)) C dX7_best_92 (shA_0) rfl rfl (by decide) in_x7_best_X7 w_x7_best_26 rfl rfl rfl ?_
              refine r_get (j := 1) (jz := 1) (v := vI (s5 13 (1 : Int))) C dX7_best_95 (shA_13) rfl rfl (by decide) in_x7_best_X1 w_x7_best_209 rfl rfl rfl ?_
              exact r_ireturn C dX7_best_98 h
            · have h := h.2.2 c6
              refine r_aload_n C 0 dX7_best_81 rfl ?_
              refine r_get (j := 2) (jz := 2) (v := .ref (ad 13)) C dX7_best_82 (shA_0) rfl rfl (by decide) in_x7_best_X7 w_x7_best_26 rfl rfl rfl ?_
              refine r_get (j := 0) (jz := 0) (v := vI (s5 13 (0 : Int))) C dX7_best_85 (shA_13) rfl rfl (by decide) in_x7_best_X1 w_x7_best_203 rfl rfl rfl ?_
              refine r_goto (tgt := 98) C dX7_best_88 (by decide) ?_
              exact r_ireturn C dX7_best_98 h
          · have h := h.2.2 c7
            refine r_aload_n C 0 dX7_best_68 rfl ?_
            refine r_get (j := 2) (jz := 2) (v := .ref (ad 13)) C dX7_best_69 (shA_0) rfl rfl (by decide) in_x7_best_X7 w_x7_best_26 rfl rfl rfl ?_
            refine r_get (j := 2) (jz := 2) (v := vI (s5 13 (2 : Int))) C dX7_best_72 (shA_13) rfl rfl (by decide) in_x7_best_X1 w_x7_best_206 rfl rfl rfl ?_
            exact r_ireturn C dX7_best_75 h
        · have h := h.2.2 c8
          refine r_ldc (z := -100003) C dX7_best_61 w_x7_best_99 rfl ?_
          exact r_ireturn C dX7_best_63 h
      · have h := h.2.2 c9
        refine r_ldc (z := -100005) C dX7_best_35 w_x7_best_198 rfl ?_
        exact r_ireturn C dX7_best_37 h
    · have h := h.2.2 c10
      refine r_ldc (z := -100002) C dX7_best_20 w_x7_best_66 rfl ?_
      exact r_ireturn C dX7_best_22 h
theorem x7_best_ct (l : Launch) (ad : Nat → Nat) (cA : Nat → ClassId) (D : va_G) (p1 : Int) (p2 : Int) (s : Mem) : MG l yX7_best wsX7_best x7_best_rm ocI [.ref (ad 0), vI p1, vI p2] (GA ad cA D) s (x7_best p1 p2 s) :=
  m_met (own := RX7) (nL := 3) (by decide) rfl rfl (Nat.le_of_ble_eq_true rfl) rfl rfl rfl (fun κ hl C Q Pst hW hQ => x7_best_bd C (x7_best_mono hW hQ))

def x7_even_be (X19 : Int → Int → Mem → Prop) (X88 : Int → Int → Mem → Prop) (Q : Int → Mem → Prop) (p1 : Int) (p2 : Int) (s : Mem) : Prop :=
  (InI p2 ∧ InI (-1 : Int)) ∧ (p2 = (-1 : Int) → X19 p1 p2 s) ∧ (¬ p2 = (-1 : Int) → x2_has p2 s (fun r2 s1 => InI r2 ∧ (¬ r2 = (0 : Int) → X19 p1 p2 s1) ∧ (r2 = (0 : Int) → Q (-100001 : Int) s1)))
def x7_even_b19 (X19 : Int → Int → Mem → Prop) (X88 : Int → Int → Mem → Prop) (Q : Int → Mem → Prop) (x1 : Int) (x2 : Int) (s : Mem) : Prop :=
  x7_within x1 (1 : Int) (900 : Int) s (fun r6 s5 => InI r6 ∧ (¬ r6 = (0 : Int) → x1_keepTurns s5 (fun _ s7 => x1_drawEvenFromNothing x1 s7 (fun r9 s8 => (InI x2 ∧ InI (-1 : Int)) ∧ (¬ x2 = (-1 : Int) → ((0 : Int) ≤ x2 ∧ x2 < 6) ∧ X88 r9 (s8 4 x2) s8) ∧ (x2 = (-1 : Int) → x2_sumOf 4 s8 (fun r11 s10 => X88 r9 r11 s10))))) ∧ (r6 = (0 : Int) → Q (-100002 : Int) s5))
def x7_even_b88 (X19 : Int → Int → Mem → Prop) (X88 : Int → Int → Mem → Prop) (Q : Int → Mem → Prop) (x3 : Int) (t0 : Int) (s : Mem) : Prop :=
  x1_putTurnsBack s (fun _ s14 => InI x3 ∧ (x3 = (0 : Int) → Q (-100003 : Int) s14) ∧ (¬ x3 = (0 : Int) → Q t0 s14))
theorem x7_even_me {X19 Y19 : Int → Int → Mem → Prop} {X88 Y88 : Int → Int → Mem → Prop} {Q R : Int → Mem → Prop} (hX19 : ∀ x1 x2 s, X19 x1 x2 s → Y19 x1 x2 s) (hX88 : ∀ x3 t0 s, X88 x3 t0 s → Y88 x3 t0 s) (hQ : ∀ r s, Q r s → R r s) {p1 : Int} {p2 : Int} {s : Mem} (h : x7_even_be X19 X88 Q p1 p2 s) : x7_even_be Y19 Y88 R p1 p2 s :=
  ⟨h.1, fun c => have h := h.2.1 c; hX19 _ _ _ h, fun c => have h := h.2.2 c; x2_has_mono h (fun r2 s1 h => ⟨h.1, fun c => have h := h.2.1 c; hX19 _ _ _ h, fun c => have h := h.2.2 c; hQ _ _ h⟩)⟩
theorem x7_even_m19 {X19 Y19 : Int → Int → Mem → Prop} {X88 Y88 : Int → Int → Mem → Prop} {Q R : Int → Mem → Prop} (hX19 : ∀ x1 x2 s, X19 x1 x2 s → Y19 x1 x2 s) (hX88 : ∀ x3 t0 s, X88 x3 t0 s → Y88 x3 t0 s) (hQ : ∀ r s, Q r s → R r s) {x1 : Int} {x2 : Int} {s : Mem} (h : x7_even_b19 X19 X88 Q x1 x2 s) : x7_even_b19 Y19 Y88 R x1 x2 s :=
  x7_within_mono h (fun r6 s5 h => ⟨h.1, fun c => have h := h.2.1 c; x1_keepTurns_mono h (fun _ s7 h => x1_drawEvenFromNothing_mono h (fun r9 s8 h => ⟨h.1, fun c => have h := h.2.1 c; ⟨h.1, have h := h.2; hX88 _ _ _ h⟩, fun c => have h := h.2.2 c; x2_sumOf_mono h (fun r11 s10 h => hX88 _ _ _ h)⟩)), fun c => have h := h.2.2 c; hQ _ _ h⟩)
theorem x7_even_m88 {X19 Y19 : Int → Int → Mem → Prop} {X88 Y88 : Int → Int → Mem → Prop} {Q R : Int → Mem → Prop} (hX19 : ∀ x1 x2 s, X19 x1 x2 s → Y19 x1 x2 s) (hX88 : ∀ x3 t0 s, X88 x3 t0 s → Y88 x3 t0 s) (hQ : ∀ r s, Q r s → R r s) {x3 : Int} {t0 : Int} {s : Mem} (h : x7_even_b88 X19 X88 Q x3 t0 s) : x7_even_b88 Y19 Y88 R x3 t0 s :=
  x1_putTurnsBack_mono h (fun _ s14 h => ⟨h.1, fun c => have h := h.2.1 c; hQ _ _ h, fun c => have h := h.2.2 c; hQ _ _ h⟩)
def x7_even (p1 : Int) (p2 : Int) (s : Mem) (Q : Int → Mem → Prop) : Prop := ∀ (X19 : Int → Int → Mem → Prop) (X88 : Int → Int → Mem → Prop), (∀ x1 x2 s, x7_even_b19 X19 X88 Q x1 x2 s → X19 x1 x2 s) → (∀ x3 t0 s, x7_even_b88 X19 X88 Q x3 t0 s → X88 x3 t0 s) → x7_even_be X19 X88 Q p1 p2 s
def x7_even_L19 (Q : Int → Mem → Prop) (x1 : Int) (x2 : Int) (s : Mem) : Prop := ∀ (X19 : Int → Int → Mem → Prop) (X88 : Int → Int → Mem → Prop), (∀ x1 x2 s, x7_even_b19 X19 X88 Q x1 x2 s → X19 x1 x2 s) → (∀ x3 t0 s, x7_even_b88 X19 X88 Q x3 t0 s → X88 x3 t0 s) → X19 x1 x2 s
def x7_even_L88 (Q : Int → Mem → Prop) (x3 : Int) (t0 : Int) (s : Mem) : Prop := ∀ (X19 : Int → Int → Mem → Prop) (X88 : Int → Int → Mem → Prop), (∀ x1 x2 s, x7_even_b19 X19 X88 Q x1 x2 s → X19 x1 x2 s) → (∀ x3 t0 s, x7_even_b88 X19 X88 Q x3 t0 s → X88 x3 t0 s) → X88 x3 t0 s
theorem x7_even_i {Q : Int → Mem → Prop} {p1 : Int} {p2 : Int} {s : Mem} (h : x7_even_be (x7_even_L19 Q) (x7_even_L88 Q) Q p1 p2 s) : x7_even p1 p2 s Q := fun X19 X88 k19 k88 => x7_even_me (fun _ _ _ h => h X19 X88 k19 k88) (fun _ _ _ h => h X19 X88 k19 k88) (fun _ _ h => h) h
theorem x7_even_s19 {Q : Int → Mem → Prop} {x1 : Int} {x2 : Int} {s : Mem} (h : x7_even_b19 (x7_even_L19 Q) (x7_even_L88 Q) Q x1 x2 s) : x7_even_L19 Q x1 x2 s := fun X19 X88 k19 k88 => k19 _ _ _ (x7_even_m19 (fun _ _ _ h => h X19 X88 k19 k88) (fun _ _ _ h => h X19 X88 k19 k88) (fun _ _ h => h) h)
theorem x7_even_s88 {Q : Int → Mem → Prop} {x3 : Int} {t0 : Int} {s : Mem} (h : x7_even_b88 (x7_even_L19 Q) (x7_even_L88 Q) Q x3 t0 s) : x7_even_L88 Q x3 t0 s := fun X19 X88 k19 k88 => k88 _ _ _ (x7_even_m88 (fun _ _ _ h => h X19 X88 k19 k88) (fun _ _ _ h => h X19 X88 k19 k88) (fun _ _ h => h) h)
theorem x7_even_mono {Q R : Int → Mem → Prop} {p1 : Int} {p2 : Int} {s : Mem} (h : x7_even p1 p2 s Q) (hQ : ∀ r s, Q r s → R r s) : x7_even p1 p2 s R := fun X19 X88 k19 k88 => x7_even_me (fun _ _ _ h => h) (fun _ _ _ h => h) hQ (h X19 X88 (fun _ _ _ h => k19 _ _ _ (x7_even_m19 (fun _ _ _ h => h) (fun _ _ _ h => h) hQ h)) (fun _ _ _ h => k88 _ _ _ (x7_even_m88 (fun _ _ _ h => h) (fun _ _ _ h => h) hQ h)))
def x7_even_rm : Room := { frames := 5, cells := 0, slots := 0, locals := 143 }
theorem w_x7_even_10 : Cond.fieldLink RX7 10 "BoltRing" "ring" "LBoltRing$Joint;" ∈ wsX7_even := by decide +kernel
theorem w_x7_even_80 : Cond.constant RX7 80 (-100001) ∈ wsX7_even := by decide +kernel
theorem w_x7_even_26 : Cond.fieldLink RX7 26 "BoltRing" "drawing" "LBoltRing$Drawing;" ∈ wsX7_even := by decide +kernel
theorem w_x7_even_160 : Cond.fieldLink RX7 160 "BoltRing$Joint" "turns" "[I" ∈ wsX7_even := by decide +kernel
theorem w_x7_even_66 : Cond.constant RX7 66 (-100002) ∈ wsX7_even := by decide +kernel
theorem w_x7_even_99 : Cond.constant RX7 99 (-100003) ∈ wsX7_even := by decide +kernel
theorem in_x7_even_X2 : ∀ w ∈ wsX20, w ∈ wsX7_even := by decide +kernel
theorem in_x7_even_X7 : ∀ w ∈ wsX70, w ∈ wsX7_even := by decide +kernel
set_option maxHeartbeats 4000000 in
set_option maxRecDepth 100000 in
theorem x7_even_bd {κ : KT} {ad : Nat → Nat} {cA : Nat → ClassId} {D : va_G} {Q : State → Prop} {p1 : Int} {p2 : Int} {s : Mem} (C : CX κ (GA ad cA D) RX7 cX7_even 5 wsX7_even x7_even_rm (some .int)) (h : x7_even p1 p2 s (RT κ (GA ad cA D) ocI Q)) : WM κ (GA ad cA D) 5 Q s 0 [(0, .ref (ad 0)), (1, vI p1), (2, vI p2)] [] := by
  obtain ⟨Z19, z19⟩ : ∃ Z : Int → Int → Mem → Prop, ∀ x1 x2 s, Z x1 x2 s ↔ WM κ (GA ad cA D) 5 Q s 19 [(0, .ref (ad 0)), (1, vI x1), (2, vI x2)] [] := ⟨fun x1 x2 s => WM κ (GA ad cA D) 5 Q s 19 [(0, .ref (ad 0)), (1, vI x1), (2, vI x2)] [], fun _ _ _ => Iff.rfl⟩
  obtain ⟨Z88, z88⟩ : ∃ Z : Int → Int → Mem → Prop, ∀ x3 t0 s, Z x3 t0 s ↔ WM κ (GA ad cA D) 5 Q s 88 [(0, .ref (ad 0)), (3, vI x3)] [vI t0] := ⟨fun x3 t0 s => WM κ (GA ad cA D) 5 Q s 88 [(0, .ref (ad 0)), (3, vI x3)] [vI t0], fun _ _ _ => Iff.rfl⟩
  refine (fun h => ?_) (h Z19 Z88 ?_ ?_)
  · refine r_iload_n C 2 dX7_even_0 rfl ?_
    refine r_iconst C dX7_even_1 ?_
    refine r_icmp_eq (tgt := 19) C dX7_even_2 (by decide) ⟨h.1, fun c4 => ?_, fun c4 => ?_⟩
    · have h := h.2.1 c4
      exact r_perm [0, 1, 2] rfl ((z19 _ _ _).1 h)
    · have h := h.2.2 c4
      refine r_aload_n C 0 dX7_even_5 rfl ?_
      refine r_get (j := 0) (jz := 0) (v := .ref (ad 1)) C dX7_even_6 (shA_0) rfl rfl (by decide) in_x7_even_X7 w_x7_even_10 rfl rfl rfl ?_
      refine r_iload_n C 2 dX7_even_9 rfl ?_
      refine r_callV (As := [vI p2]) (o := 1) (n := 1) C dX7_even_10 (x2_has_ct κ.1.2.1 ad cA D p2 s) gX7_even_X2_has rfl ⟨rfl, rfl⟩ (by decide +kernel) (by decide) (shA_1) rfl rfl rfl (Nat.le_of_ble_eq_true rfl) (fun _ => rfl) ?_
      refine x2_has_mono h (fun r2 s1 h => ?_)
      refine r_if_ne (tgt := 19) C dX7_even_13 (by decide) ⟨h.1, fun c3 => ?_, fun c3 => ?_⟩
      · have h := h.2.1 c3
        exact r_perm [0, 1, 2] rfl ((z19 _ _ _).1 h)
      · have h := h.2.2 c3
        refine r_ldc (z := -100001) C dX7_even_16 w_x7_even_80 rfl ?_
        exact r_ireturn C dX7_even_18 h
  · intro x1 x2 s h
    refine (z19 _ _ _).2 ?_
    refine r_iload_n C 1 dX7_even_19 rfl ?_
    refine r_iconst C dX7_even_20 ?_
    refine r_sipush C dX7_even_21 (by decide) ?_
    refine r_callS (As := [vI x1, vI (1 : Int), vI (900 : Int)]) (n := 3) C dX7_even_24 (x7_within_ct κ.1.2.1 ad cA D x1 (1 : Int) (900 : Int) s) gX7_even_X7_within rfl ⟨rfl, rfl⟩ (by decide +kernel) (by decide) rfl rfl (Nat.le_of_ble_eq_true rfl) (fun _ => rfl) ?_
    refine x7_within_mono h (fun r6 s5 h => ?_)
    refine r_if_ne (tgt := 33) C dX7_even_27 (by decide) ⟨h.1, fun c13 => ?_, fun c13 => ?_⟩
    · have h := h.2.1 c13
      refine r_aload_n C 0 dX7_even_33 rfl ?_
      refine r_get (j := 2) (jz := 2) (v := .ref (ad 13)) C dX7_even_34 (shA_0) rfl rfl (by decide) in_x7_even_X7 w_x7_even_26 rfl rfl rfl ?_
      refine r_aload_n C 0 dX7_even_37 rfl ?_
      refine r_get (j := 0) (jz := 0) (v := .ref (ad 1)) C dX7_even_38 (shA_0) rfl rfl (by decide) in_x7_even_X7 w_x7_even_10 rfl rfl rfl ?_
      refine r_callV (As := [.ref (ad 1)]) (o := 13) (n := 1) C dX7_even_41 (x1_keepTurns_ct κ.1.2.1 ad cA D s5) gX7_even_X1_keepTurns rfl ⟨rfl, rfl⟩ (by decide +kernel) (by decide) (shA_13) rfl rfl rfl (Nat.le_of_ble_eq_true rfl) (fun _ => rfl) ?_
      refine x1_keepTurns_mono h (fun _ s7 h => ?_)
      refine r_aload_n C 0 dX7_even_44 rfl ?_
      refine r_get (j := 2) (jz := 2) (v := .ref (ad 13)) C dX7_even_45 (shA_0) rfl rfl (by decide) in_x7_even_X7 w_x7_even_26 rfl rfl rfl ?_
      refine r_aload_n C 0 dX7_even_48 rfl ?_
      refine r_get (j := 0) (jz := 0) (v := .ref (ad 1)) C dX7_even_49 (shA_0) rfl rfl (by decide) in_x7_even_X7 w_x7_even_10 rfl rfl rfl ?_
      refine r_iload_n C 1 dX7_even_52 rfl ?_
      refine r_callV (As := [.ref (ad 1), vI x1]) (o := 13) (n := 2) C dX7_even_53 (x1_drawEvenFromNothing_ct κ.1.2.1 ad cA D x1 s7) gX7_even_X1_drawEvenFromNothing rfl ⟨rfl, rfl⟩ (by decide +kernel) (by decide) (shA_13) rfl rfl rfl (Nat.le_of_ble_eq_true rfl) (fun _ => rfl) ?_
      refine x1_drawEvenFromNothing_mono h (fun r9 s8 h => ?_)
      refine r_istore_n (ls' := [(3, vI r9), (0, .ref (ad 0)), (1, vI x1), (2, vI x2)]) C dX7_even_56 rfl (by decide) rfl ?_
      refine r_iload_n C 3 dX7_even_57 rfl ?_
      refine r_iconst C dX7_even_58 ?_
      refine r_icmp_ne (tgt := 79) C dX7_even_59 (by decide) ⟨h.1, fun c12 => ?_, fun c12 => ?_⟩
      · have h := h.2.1 c12
        refine r_aload_n C 1 dX7_even_79 rfl ?_
        refine r_get (j := 0) (jz := 0) (v := .ref (ad 1)) C dX7_even_80 (shA_0) rfl rfl (by decide) in_x7_even_X7 w_x7_even_10 rfl rfl rfl ?_
        refine r_get (j := 5) (jz := 5) (v := .ref (ad 4)) C dX7_even_83 (shA_1) rfl rfl (by decide) in_x7_even_X2 w_x7_even_160 rfl rfl rfl ?_
        refine r_iload_n C 3 dX7_even_86 rfl ?_
        refine r_iald (nz := 6) C dX7_even_87 (shA_4) rfl (by decide) ⟨h.1, ?_⟩
        have h := h.2
        exact r_perm [1, 0] rfl ((z88 _ _ _).1 h)
      · have h := h.2.2 c12
        refine r_aload_n C 1 dX7_even_62 rfl ?_
        refine r_get (j := 0) (jz := 0) (v := .ref (ad 1)) C dX7_even_63 (shA_0) rfl rfl (by decide) in_x7_even_X7 w_x7_even_10 rfl rfl rfl ?_
        refine r_aload_n C 1 dX7_even_66 rfl ?_
        refine r_get (j := 0) (jz := 0) (v := .ref (ad 1)) C dX7_even_67 (shA_0) rfl rfl (by decide) in_x7_even_X7 w_x7_even_10 rfl rfl rfl ?_
        refine r_get (j := 5) (jz := 5) (v := .ref (ad 4)) C dX7_even_70 (shA_1) rfl rfl (by decide) in_x7_even_X2 w_x7_even_160 rfl rfl rfl ?_
        refine r_callV (As := [.ref (ad 4)]) (o := 1) (n := 1) C dX7_even_73 (x2_sumOf_ct κ.1.2.1 ad cA D 4 s8) gX7_even_X2_sumOf rfl ⟨rfl, rfl⟩ (by decide +kernel) (by decide) (shA_1) rfl rfl rfl (Nat.le_of_ble_eq_true rfl) (fun _ => rfl) ?_
        refine x2_sumOf_mono h (fun r11 s10 h => ?_)
        refine r_goto (tgt := 88) C dX7_even_76 (by decide) ?_
        exact r_perm [1, 0] rfl ((z88 _ _ _).1 h)
    · have h := h.2.2 c13
      refine r_ldc (z := -100002) C dX7_even_30 w_x7_even_66 rfl ?_
      exact r_ireturn C dX7_even_32 h
  · intro x3 t0 s h
    refine (z88 _ _ _).2 ?_
    refine r_istore (ls' := [(4, vI t0), (0, .ref (ad 0)), (3, vI x3)]) C dX7_even_88 (by decide) rfl ?_
    refine r_aload_n C 1 dX7_even_90 rfl ?_
    refine r_get (j := 2) (jz := 2) (v := .ref (ad 13)) C dX7_even_91 (shA_0) rfl rfl (by decide) in_x7_even_X7 w_x7_even_26 rfl rfl rfl ?_
    refine r_aload_n C 1 dX7_even_94 rfl ?_
    refine r_get (j := 0) (jz := 0) (v := .ref (ad 1)) C dX7_even_95 (shA_0) rfl rfl (by decide) in_x7_even_X7 w_x7_even_10 rfl rfl rfl ?_
    refine r_callV (As := [.ref (ad 1)]) (o := 13) (n := 1) C dX7_even_98 (x1_putTurnsBack_ct κ.1.2.1 ad cA D s) gX7_even_X1_putTurnsBack rfl ⟨rfl, rfl⟩ (by decide +kernel) (by decide) (shA_13) rfl rfl rfl (Nat.le_of_ble_eq_true rfl) (fun _ => rfl) ?_
    refine x1_putTurnsBack_mono h (fun _ s14 h => ?_)
    refine r_iload_n C 2 dX7_even_101 rfl ?_
    refine r_if_eq (tgt := 110) C dX7_even_102 (by decide) ⟨h.1, fun c15 => ?_, fun c15 => ?_⟩
    · have h := h.2.1 c15
      refine r_ldc (z := -100003) C dX7_even_110 w_x7_even_99 rfl ?_
      exact r_ireturn C dX7_even_112 h
    · have h := h.2.2 c15
      refine r_iload C 0 dX7_even_105 rfl ?_
      refine r_goto (tgt := 112) C dX7_even_107 (by decide) ?_
      exact r_ireturn C dX7_even_112 h
theorem x7_even_ct (l : Launch) (ad : Nat → Nat) (cA : Nat → ClassId) (D : va_G) (p1 : Int) (p2 : Int) (s : Mem) : MG l yX7_even wsX7_even x7_even_rm ocI [.ref (ad 0), vI p1, vI p2] (GA ad cA D) s (x7_even p1 p2 s) :=
  m_met (own := RX7) (nL := 5) (by decide) rfl rfl (Nat.le_of_ble_eq_true rfl) rfl rfl rfl (fun κ hl C Q Pst hW hQ => x7_even_bd C (x7_even_mono hW hQ))

def x7_newCase  (s : Mem) (Q : Int → Mem → Prop) : Prop :=
  (InI (s 23 (0 : Int)) ∧ InI (6 : Int)) ∧ (¬ (s 23 (0 : Int)) = (6 : Int) → x0_open s (fun r2 s1 => Q r2 s1)) ∧ ((s 23 (0 : Int)) = (6 : Int) → Q (-100004 : Int) s)
theorem x7_newCase_mono {Q R : Int → Mem → Prop}  {s : Mem} (h : x7_newCase  s Q) (hQ : ∀ r s, Q r s → R r s) : x7_newCase  s R :=
  ⟨h.1, fun c => have h := h.2.1 c; x0_open_mono h (fun r2 s1 h => hQ _ _ h), fun c => have h := h.2.2 c; hQ _ _ h⟩
def x7_newCase_rm : Room := { frames := 1, cells := 0, slots := 0, locals := 21 }
theorem w_x7_newCase_33 : Cond.fieldLink RX7 33 "BoltRing" "cases" "LBoltRing$Cases;" ∈ wsX7_newCase := by decide +kernel
theorem w_x7_newCase_67 : Cond.fieldLink RX7 67 "BoltRing$Cases" "count" "I" ∈ wsX7_newCase := by decide +kernel
theorem w_x7_newCase_216 : Cond.constant RX7 216 (-100004) ∈ wsX7_newCase := by decide +kernel
theorem in_x7_newCase_X0 : ∀ w ∈ wsX00, w ∈ wsX7_newCase := by decide +kernel
theorem in_x7_newCase_X7 : ∀ w ∈ wsX70, w ∈ wsX7_newCase := by decide +kernel
set_option maxHeartbeats 4000000 in
set_option maxRecDepth 100000 in
theorem x7_newCase_bd {κ : KT} {ad : Nat → Nat} {cA : Nat → ClassId} {D : va_G} {Q : State → Prop}  {s : Mem} (C : CX κ (GA ad cA D) RX7 cX7_newCase 1 wsX7_newCase x7_newCase_rm (some .int)) (h : x7_newCase  s (RT κ (GA ad cA D) ocI Q)) : WM κ (GA ad cA D) 1 Q s 0 [(0, .ref (ad 0))] [] := by
  refine r_aload_n C 0 dX7_newCase_0 rfl ?_
  refine r_get (j := 3) (jz := 3) (v := .ref (ad 23)) C dX7_newCase_1 (shA_0) rfl rfl (by decide) in_x7_newCase_X7 w_x7_newCase_33 rfl rfl rfl ?_
  refine r_get (j := 0) (jz := 0) (v := vI (s 23 (0 : Int))) C dX7_newCase_4 (shA_23) rfl rfl (by decide) in_x7_newCase_X0 w_x7_newCase_67 rfl rfl rfl ?_
  refine r_bipush C dX7_newCase_7 (by decide) ?_
  refine r_icmp_ne (tgt := 17) C dX7_newCase_9 (by decide) ⟨h.1, fun c3 => ?_, fun c3 => ?_⟩
  · have h := h.2.1 c3
    refine r_aload_n C 0 dX7_newCase_17 rfl ?_
    refine r_get (j := 3) (jz := 3) (v := .ref (ad 23)) C dX7_newCase_18 (shA_0) rfl rfl (by decide) in_x7_newCase_X7 w_x7_newCase_33 rfl rfl rfl ?_
    refine r_callV (As := []) (o := 23) (n := 0) C dX7_newCase_21 (x0_open_ct κ.1.2.1 ad cA D s) gX7_newCase_X0_open rfl ⟨rfl, rfl⟩ (by decide +kernel) (by decide) (shA_23) rfl rfl rfl (Nat.le_of_ble_eq_true rfl) (fun _ => rfl) ?_
    refine x0_open_mono h (fun r2 s1 h => ?_)
    exact r_ireturn C dX7_newCase_24 h
  · have h := h.2.2 c3
    refine r_ldc (z := -100004) C dX7_newCase_12 w_x7_newCase_216 rfl ?_
    refine r_goto (tgt := 24) C dX7_newCase_14 (by decide) ?_
    exact r_ireturn C dX7_newCase_24 h
theorem x7_newCase_ct (l : Launch) (ad : Nat → Nat) (cA : Nat → ClassId) (D : va_G)  (s : Mem) : MG l yX7_newCase wsX7_newCase x7_newCase_rm ocI [.ref (ad 0)] (GA ad cA D) s (x7_newCase  s) :=
  m_met (own := RX7) (nL := 1) (by decide) rfl rfl (Nat.le_of_ble_eq_true rfl) rfl rfl rfl (fun κ hl C Q Pst hW hQ => x7_newCase_bd C (x7_newCase_mono hW hQ))

def x7_load (p1 : Int) (p2 : Int) (p3 : Int) (s : Mem) (Q : Int → Mem → Prop) : Prop :=
  x0_has p1 s (fun r2 s1 => InI r2 ∧ (r2 = (0 : Int) → Q (-100001 : Int) s1) ∧ (¬ r2 = (0 : Int) → x2_has p2 s1 (fun r4 s3 => InI r4 ∧ (¬ r4 = (0 : Int) → x7_within p3 (0 : Int) (200 : Int) s3 (fun r6 s5 => InI r6 ∧ (¬ r6 = (0 : Int) → ((0 : Int) ≤ p1 ∧ p1 < 6) ∧ (shA[(25 + Int.toNat p1)]? = some (.inr (0, 6))) ∧ ((0 : Int) ≤ p2 ∧ p2 < 6) ∧ (shA[(25 + Int.toNat p1)]? = some (.inr (0, 6))) ∧ ((0 : Int) ≤ p2 ∧ p2 < 6) ∧ ∀ s7 : Mem, s7 = m_upd s5 (25 + Int.toNat p1) p2 p3 → Q (s5 (25 + Int.toNat p1) p2) s7) ∧ (r6 = (0 : Int) → Q (-100002 : Int) s5))) ∧ (r4 = (0 : Int) → Q (-100001 : Int) s3))))
theorem x7_load_mono {Q R : Int → Mem → Prop} {p1 : Int} {p2 : Int} {p3 : Int} {s : Mem} (h : x7_load p1 p2 p3 s Q) (hQ : ∀ r s, Q r s → R r s) : x7_load p1 p2 p3 s R :=
  x0_has_mono h (fun r2 s1 h => ⟨h.1, fun c => have h := h.2.1 c; hQ _ _ h, fun c => have h := h.2.2 c; x2_has_mono h (fun r4 s3 h => ⟨h.1, fun c => have h := h.2.1 c; x7_within_mono h (fun r6 s5 h => ⟨h.1, fun c => have h := h.2.1 c; ⟨h.1, have h := h.2; ⟨h.1, have h := h.2; ⟨h.1, have h := h.2; ⟨h.1, have h := h.2; ⟨h.1, have h := h.2; fun s7 e_s7 => have h := h s7 e_s7; hQ _ _ h⟩⟩⟩⟩⟩, fun c => have h := h.2.2 c; hQ _ _ h⟩), fun c => have h := h.2.2 c; hQ _ _ h⟩)⟩)
def x7_load_rm : Room := { frames := 1, cells := 0, slots := 0, locals := 22 }
theorem w_x7_load_33 : Cond.fieldLink RX7 33 "BoltRing" "cases" "LBoltRing$Cases;" ∈ wsX7_load := by decide +kernel
theorem w_x7_load_80 : Cond.constant RX7 80 (-100001) ∈ wsX7_load := by decide +kernel
theorem w_x7_load_10 : Cond.fieldLink RX7 10 "BoltRing" "ring" "LBoltRing$Joint;" ∈ wsX7_load := by decide +kernel
theorem w_x7_load_221 : Cond.fieldLink RX7 221 "BoltRing$Cases" "loads" "[[I" ∈ wsX7_load := by decide +kernel
theorem w_x7_load_66 : Cond.constant RX7 66 (-100002) ∈ wsX7_load := by decide +kernel
theorem in_x7_load_X0 : ∀ w ∈ wsX00, w ∈ wsX7_load := by decide +kernel
theorem in_x7_load_X7 : ∀ w ∈ wsX70, w ∈ wsX7_load := by decide +kernel
set_option maxHeartbeats 4000000 in
set_option maxRecDepth 100000 in
theorem x7_load_bd {κ : KT} {ad : Nat → Nat} {cA : Nat → ClassId} {D : va_G} {Q : State → Prop} {p1 : Int} {p2 : Int} {p3 : Int} {s : Mem} (C : CX κ (GA ad cA D) RX7 cX7_load 6 wsX7_load x7_load_rm (some .int)) (h : x7_load p1 p2 p3 s (RT κ (GA ad cA D) ocI Q)) : WM κ (GA ad cA D) 6 Q s 0 [(0, .ref (ad 0)), (1, vI p1), (2, vI p2), (3, vI p3)] [] := by
  refine r_aload_n C 0 dX7_load_0 rfl ?_
  refine r_get (j := 3) (jz := 3) (v := .ref (ad 23)) C dX7_load_1 (shA_0) rfl rfl (by decide) in_x7_load_X7 w_x7_load_33 rfl rfl rfl ?_
  refine r_iload_n C 1 dX7_load_4 rfl ?_
  refine r_callV (As := [vI p1]) (o := 23) (n := 1) C dX7_load_5 (x0_has_ct κ.1.2.1 ad cA D p1 s) gX7_load_X0_has rfl ⟨rfl, rfl⟩ (by decide +kernel) (by decide) (shA_23) rfl rfl rfl (Nat.le_of_ble_eq_true rfl) (fun _ => rfl) ?_
  refine x0_has_mono h (fun r2 s1 h => ?_)
  refine r_if_eq (tgt := 22) C dX7_load_8 (by decide) ⟨h.1, fun c10 => ?_, fun c10 => ?_⟩
  · have h := h.2.1 c10
    refine r_ldc (z := -100001) C dX7_load_22 w_x7_load_80 rfl ?_
    exact r_ireturn C dX7_load_24 h
  · have h := h.2.2 c10
    refine r_aload_n C 0 dX7_load_11 rfl ?_
    refine r_get (j := 0) (jz := 0) (v := .ref (ad 1)) C dX7_load_12 (shA_0) rfl rfl (by decide) in_x7_load_X7 w_x7_load_10 rfl rfl rfl ?_
    refine r_iload_n C 2 dX7_load_15 rfl ?_
    refine r_callV (As := [vI p2]) (o := 1) (n := 1) C dX7_load_16 (x2_has_ct κ.1.2.1 ad cA D p2 s1) gX7_load_X2_has rfl ⟨rfl, rfl⟩ (by decide +kernel) (by decide) (shA_1) rfl rfl rfl (Nat.le_of_ble_eq_true rfl) (fun _ => rfl) ?_
    refine x2_has_mono h (fun r4 s3 h => ?_)
    refine r_if_ne (tgt := 25) C dX7_load_19 (by decide) ⟨h.1, fun c9 => ?_, fun c9 => ?_⟩
    · have h := h.2.1 c9
      refine r_iload_n C 3 dX7_load_25 rfl ?_
      refine r_iconst C dX7_load_26 ?_
      refine r_sipush C dX7_load_27 (by decide) ?_
      refine r_callS (As := [vI p3, vI (0 : Int), vI (200 : Int)]) (n := 3) C dX7_load_30 (x7_within_ct κ.1.2.1 ad cA D p3 (0 : Int) (200 : Int) s3) gX7_load_X7_within rfl ⟨rfl, rfl⟩ (by decide +kernel) (by decide) rfl rfl (Nat.le_of_ble_eq_true rfl) (fun _ => rfl) ?_
      refine x7_within_mono h (fun r6 s5 h => ?_)
      refine r_if_ne (tgt := 39) C dX7_load_33 (by decide) ⟨h.1, fun c8 => ?_, fun c8 => ?_⟩
      · have h := h.2.1 c8
        refine r_aload_n C 0 dX7_load_39 rfl ?_
        refine r_get (j := 3) (jz := 3) (v := .ref (ad 23)) C dX7_load_40 (shA_0) rfl rfl (by decide) in_x7_load_X7 w_x7_load_33 rfl rfl rfl ?_
        refine r_get (j := 1) (jz := 1) (v := .ref (ad 24)) C dX7_load_43 (shA_23) rfl rfl (by decide) in_x7_load_X0 w_x7_load_221 rfl rfl rfl ?_
        refine r_iload_n C 1 dX7_load_46 rfl ?_
        refine r_aaload (b := 25) (nz := 6) C dX7_load_47 (shA_24) rfl (by decide) ⟨h.1, ?_⟩
        have h := h.2
        refine r_astore (ls' := [(4, .ref (ad (25 + Int.toNat p1))), (0, .ref (ad 0)), (1, vI p1), (2, vI p2), (3, vI p3)]) C dX7_load_48 (by decide) rfl ?_
        refine r_aload C 0 dX7_load_50 rfl ?_
        refine r_iload_n C 3 dX7_load_52 rfl ?_
        have hg := h.1
        have h := h.2
        refine r_iald (nz := 6) C dX7_load_53 (hg) rfl (by decide) ⟨h.1, ?_⟩
        have h := h.2
        refine r_istore (ls' := [(5, vI (s5 (25 + Int.toNat p1) p2)), (4, .ref (ad (25 + Int.toNat p1))), (0, .ref (ad 0)), (1, vI p1), (2, vI p2), (3, vI p3)]) C dX7_load_54 (by decide) rfl ?_
        refine r_aload C 1 dX7_load_56 rfl ?_
        refine r_iload_n C 4 dX7_load_58 rfl ?_
        refine r_iload_n C 5 dX7_load_59 rfl ?_
        have hg := h.1
        have h := h.2
        refine r_iast (nz := 6) C dX7_load_60 (hg) rfl (by decide) ⟨h.1, fun s7 e_s7 => ?_⟩
        have h := h.2 s7 e_s7
        refine r_iload C 0 dX7_load_61 rfl ?_
        exact r_ireturn C dX7_load_63 h
      · have h := h.2.2 c8
        refine r_ldc (z := -100002) C dX7_load_36 w_x7_load_66 rfl ?_
        exact r_ireturn C dX7_load_38 h
    · have h := h.2.2 c9
      refine r_ldc (z := -100001) C dX7_load_22 w_x7_load_80 rfl ?_
      exact r_ireturn C dX7_load_24 h
theorem x7_load_ct (l : Launch) (ad : Nat → Nat) (cA : Nat → ClassId) (D : va_G) (p1 : Int) (p2 : Int) (p3 : Int) (s : Mem) : MG l yX7_load wsX7_load x7_load_rm ocI [.ref (ad 0), vI p1, vI p2, vI p3] (GA ad cA D) s (x7_load p1 p2 p3 s) :=
  m_met (own := RX7) (nL := 6) (by decide) rfl rfl (Nat.le_of_ble_eq_true rfl) rfl rfl rfl (fun κ hl C Q Pst hW hQ => x7_load_bd C (x7_load_mono hW hQ))

def x7_leak_be (X20 : Int → Int → Mem → Prop) (Q : Int → Mem → Prop) (p1 : Int) (p2 : Int) (s : Mem) : Prop :=
  (InI p1 ∧ InI (-1 : Int)) ∧ (p1 = (-1 : Int) → X20 p1 p2 s) ∧ (¬ p1 = (-1 : Int) → x0_has p1 s (fun r2 s1 => InI r2 ∧ (¬ r2 = (0 : Int) → X20 p1 p2 s1) ∧ (r2 = (0 : Int) → Q (-100001 : Int) s1)))
def x7_leak_b20 (X20 : Int → Int → Mem → Prop) (Q : Int → Mem → Prop) (x1 : Int) (x2 : Int) (s : Mem) : Prop :=
  x7_within x2 (0 : Int) (2 : Int) s (fun r6 s5 => InI r6 ∧ (¬ r6 = (0 : Int) → x0_loadsOf x1 s5 (fun r8 s7 => x3_settle 7 (Int.toNat r8) s7 (fun _ s9 => x3_leakPlace 7 s9 (fun r11 s10 => (InI x2 ∧ InI (2 : Int)) ∧ (¬ x2 = (2 : Int) → x3_pressUpper 7 r11 s10 (fun r13 s12 => x7_leastTerm r13 (s12 7 (1 : Int)) x2 s12 (fun r15 s14 => Q r15 s14))) ∧ (x2 = (2 : Int) → (InI r11) ∧ Q r11 s10))))) ∧ (r6 = (0 : Int) → Q (-100002 : Int) s5))
theorem x7_leak_me {X20 Y20 : Int → Int → Mem → Prop} {Q R : Int → Mem → Prop} (hX20 : ∀ x1 x2 s, X20 x1 x2 s → Y20 x1 x2 s) (hQ : ∀ r s, Q r s → R r s) {p1 : Int} {p2 : Int} {s : Mem} (h : x7_leak_be X20 Q p1 p2 s) : x7_leak_be Y20 R p1 p2 s :=
  ⟨h.1, fun c => have h := h.2.1 c; hX20 _ _ _ h, fun c => have h := h.2.2 c; x0_has_mono h (fun r2 s1 h => ⟨h.1, fun c => have h := h.2.1 c; hX20 _ _ _ h, fun c => have h := h.2.2 c; hQ _ _ h⟩)⟩
theorem x7_leak_m20 {X20 Y20 : Int → Int → Mem → Prop} {Q R : Int → Mem → Prop} (hX20 : ∀ x1 x2 s, X20 x1 x2 s → Y20 x1 x2 s) (hQ : ∀ r s, Q r s → R r s) {x1 : Int} {x2 : Int} {s : Mem} (h : x7_leak_b20 X20 Q x1 x2 s) : x7_leak_b20 Y20 R x1 x2 s :=
  x7_within_mono h (fun r6 s5 h => ⟨h.1, fun c => have h := h.2.1 c; x0_loadsOf_mono h (fun r8 s7 h => x3_settle_mono h (fun _ s9 h => x3_leakPlace_mono h (fun r11 s10 h => ⟨h.1, fun c => have h := h.2.1 c; x3_pressUpper_mono h (fun r13 s12 h => x7_leastTerm_mono h (fun r15 s14 h => hQ _ _ h)), fun c => have h := h.2.2 c; ⟨h.1, have h := h.2; hQ _ _ h⟩⟩))), fun c => have h := h.2.2 c; hQ _ _ h⟩)
def x7_leak (p1 : Int) (p2 : Int) (s : Mem) (Q : Int → Mem → Prop) : Prop := ∀ (X20 : Int → Int → Mem → Prop), (∀ x1 x2 s, x7_leak_b20 X20 Q x1 x2 s → X20 x1 x2 s) → x7_leak_be X20 Q p1 p2 s
def x7_leak_L20 (Q : Int → Mem → Prop) (x1 : Int) (x2 : Int) (s : Mem) : Prop := ∀ (X20 : Int → Int → Mem → Prop), (∀ x1 x2 s, x7_leak_b20 X20 Q x1 x2 s → X20 x1 x2 s) → X20 x1 x2 s
theorem x7_leak_i {Q : Int → Mem → Prop} {p1 : Int} {p2 : Int} {s : Mem} (h : x7_leak_be (x7_leak_L20 Q) Q p1 p2 s) : x7_leak p1 p2 s Q := fun X20 k20 => x7_leak_me (fun _ _ _ h => h X20 k20) (fun _ _ h => h) h
theorem x7_leak_s20 {Q : Int → Mem → Prop} {x1 : Int} {x2 : Int} {s : Mem} (h : x7_leak_b20 (x7_leak_L20 Q) Q x1 x2 s) : x7_leak_L20 Q x1 x2 s := fun X20 k20 => k20 _ _ _ (x7_leak_m20 (fun _ _ _ h => h X20 k20) (fun _ _ h => h) h)
theorem x7_leak_mono {Q R : Int → Mem → Prop} {p1 : Int} {p2 : Int} {s : Mem} (h : x7_leak p1 p2 s Q) (hQ : ∀ r s, Q r s → R r s) : x7_leak p1 p2 s R := fun X20 k20 => x7_leak_me (fun _ _ _ h => h) hQ (h X20 (fun _ _ _ h => k20 _ _ _ (x7_leak_m20 (fun _ _ _ h => h) hQ h)))
def x7_leak_rm : Room := { frames := 3, cells := 0, slots := 0, locals := 105 }
theorem w_x7_leak_33 : Cond.fieldLink RX7 33 "BoltRing" "cases" "LBoltRing$Cases;" ∈ wsX7_leak := by decide +kernel
theorem w_x7_leak_126 : Cond.constantLong RX7 126 (-100001) ∈ wsX7_leak := by decide +kernel
theorem w_x7_leak_19 : Cond.fieldLink RX7 19 "BoltRing" "lifts" "LBoltRing$Lifts;" ∈ wsX7_leak := by decide +kernel
theorem w_x7_leak_10 : Cond.fieldLink RX7 10 "BoltRing" "ring" "LBoltRing$Joint;" ∈ wsX7_leak := by decide +kernel
theorem w_x7_leak_134 : Cond.fieldLink RX7 134 "BoltRing$Lifts" "lower" "J" ∈ wsX7_leak := by decide +kernel
theorem w_x7_leak_128 : Cond.constantLong RX7 128 (-100002) ∈ wsX7_leak := by decide +kernel
theorem in_x7_leak_X3 : ∀ w ∈ wsX30, w ∈ wsX7_leak := by decide +kernel
theorem in_x7_leak_X7 : ∀ w ∈ wsX70, w ∈ wsX7_leak := by decide +kernel
set_option maxHeartbeats 4000000 in
set_option maxRecDepth 100000 in
theorem x7_leak_bd {κ : KT} {ad : Nat → Nat} {cA : Nat → ClassId} {D : va_G} {Q : State → Prop} {p1 : Int} {p2 : Int} {s : Mem} (C : CX κ (GA ad cA D) RX7 cX7_leak 4 wsX7_leak x7_leak_rm (some .long)) (h : x7_leak p1 p2 s (RT κ (GA ad cA D) ocL Q)) : WM κ (GA ad cA D) 4 Q s 0 [(0, .ref (ad 0)), (1, vI p1), (2, vI p2)] [] := by
  obtain ⟨Z20, z20⟩ : ∃ Z : Int → Int → Mem → Prop, ∀ x1 x2 s, Z x1 x2 s ↔ WM κ (GA ad cA D) 4 Q s 20 [(0, .ref (ad 0)), (1, vI x1), (2, vI x2)] [] := ⟨fun x1 x2 s => WM κ (GA ad cA D) 4 Q s 20 [(0, .ref (ad 0)), (1, vI x1), (2, vI x2)] [], fun _ _ _ => Iff.rfl⟩
  refine (fun h => ?_) (h Z20 ?_)
  · refine r_iload_n C 1 dX7_leak_0 rfl ?_
    refine r_iconst C dX7_leak_1 ?_
    refine r_icmp_eq (tgt := 20) C dX7_leak_2 (by decide) ⟨h.1, fun c4 => ?_, fun c4 => ?_⟩
    · have h := h.2.1 c4
      exact r_perm [0, 1, 2] rfl ((z20 _ _ _).1 h)
    · have h := h.2.2 c4
      refine r_aload_n C 0 dX7_leak_5 rfl ?_
      refine r_get (j := 3) (jz := 3) (v := .ref (ad 23)) C dX7_leak_6 (shA_0) rfl rfl (by decide) in_x7_leak_X7 w_x7_leak_33 rfl rfl rfl ?_
      refine r_iload_n C 1 dX7_leak_9 rfl ?_
      refine r_callV (As := [vI p1]) (o := 23) (n := 1) C dX7_leak_10 (x0_has_ct κ.1.2.1 ad cA D p1 s) gX7_leak_X0_has rfl ⟨rfl, rfl⟩ (by decide +kernel) (by decide) (shA_23) rfl rfl rfl (Nat.le_of_ble_eq_true rfl) (fun _ => rfl) ?_
      refine x0_has_mono h (fun r2 s1 h => ?_)
      refine r_if_ne (tgt := 20) C dX7_leak_13 (by decide) ⟨h.1, fun c3 => ?_, fun c3 => ?_⟩
      · have h := h.2.1 c3
        exact r_perm [0, 1, 2] rfl ((z20 _ _ _).1 h)
      · have h := h.2.2 c3
        refine r_ldc2 (z := -100001) C dX7_leak_16 w_x7_leak_126 rfl ?_
        exact r_lreturn C dX7_leak_19 h
  · intro x1 x2 s h
    refine (z20 _ _ _).2 ?_
    refine r_iload_n C 2 dX7_leak_20 rfl ?_
    refine r_iconst C dX7_leak_21 ?_
    refine r_iconst C dX7_leak_22 ?_
    refine r_callS (As := [vI x2, vI (0 : Int), vI (2 : Int)]) (n := 3) C dX7_leak_23 (x7_within_ct κ.1.2.1 ad cA D x2 (0 : Int) (2 : Int) s) gX7_leak_X7_within rfl ⟨rfl, rfl⟩ (by decide +kernel) (by decide) rfl rfl (Nat.le_of_ble_eq_true rfl) (fun _ => rfl) ?_
    refine x7_within_mono h (fun r6 s5 h => ?_)
    refine r_if_ne (tgt := 33) C dX7_leak_26 (by decide) ⟨h.1, fun c17 => ?_, fun c17 => ?_⟩
    · have h := h.2.1 c17
      refine r_aload_n C 0 dX7_leak_33 rfl ?_
      refine r_get (j := 1) (jz := 1) (v := .ref (ad 7)) C dX7_leak_34 (shA_0) rfl rfl (by decide) in_x7_leak_X7 w_x7_leak_19 rfl rfl rfl ?_
      refine r_aload_n C 0 dX7_leak_37 rfl ?_
      refine r_get (j := 0) (jz := 0) (v := .ref (ad 1)) C dX7_leak_38 (shA_0) rfl rfl (by decide) in_x7_leak_X7 w_x7_leak_10 rfl rfl rfl ?_
      refine r_aload_n C 0 dX7_leak_41 rfl ?_
      refine r_get (j := 3) (jz := 3) (v := .ref (ad 23)) C dX7_leak_42 (shA_0) rfl rfl (by decide) in_x7_leak_X7 w_x7_leak_33 rfl rfl rfl ?_
      refine r_iload_n C 1 dX7_leak_45 rfl ?_
      refine r_aload_n C 0 dX7_leak_46 rfl ?_
      refine r_get (j := 0) (jz := 0) (v := .ref (ad 1)) C dX7_leak_47 (shA_0) rfl rfl (by decide) in_x7_leak_X7 w_x7_leak_10 rfl rfl rfl ?_
      refine r_callV (As := [vI x1, .ref (ad 1)]) (o := 23) (n := 2) C dX7_leak_50 (x0_loadsOf_ct κ.1.2.1 ad cA D x1 s5) gX7_leak_X0_loadsOf rfl ⟨rfl, rfl⟩ (by decide +kernel) (by decide) (shA_23) rfl rfl rfl (Nat.le_of_ble_eq_true rfl) (fun _ => rfl) ?_
      refine x0_loadsOf_mono h (fun r8 s7 h => ?_)
      refine r_callV (As := [.ref (ad 1), .ref (ad (Int.toNat r8))]) (o := 7) (n := 2) C dX7_leak_53 (x3_settle_ct κ.1.2.1 ad cA D 7 (Int.toNat r8) s7 (Or.inl rfl)) gX7_leak_X3_settle rfl ⟨rfl, rfl⟩ (by decide +kernel) (by decide) (shA_7) rfl rfl rfl (Nat.le_of_ble_eq_true rfl) (fun _ => rfl) ?_
      refine x3_settle_mono h (fun _ s9 h => ?_)
      refine r_aload_n C 0 dX7_leak_56 rfl ?_
      refine r_get (j := 1) (jz := 1) (v := .ref (ad 7)) C dX7_leak_57 (shA_0) rfl rfl (by decide) in_x7_leak_X7 w_x7_leak_19 rfl rfl rfl ?_
      refine r_aload_n C 0 dX7_leak_60 rfl ?_
      refine r_get (j := 0) (jz := 0) (v := .ref (ad 1)) C dX7_leak_61 (shA_0) rfl rfl (by decide) in_x7_leak_X7 w_x7_leak_10 rfl rfl rfl ?_
      refine r_callV (As := [.ref (ad 1)]) (o := 7) (n := 1) C dX7_leak_64 (x3_leakPlace_ct κ.1.2.1 ad cA D 7 s9 (Or.inl rfl)) gX7_leak_X3_leakPlace rfl ⟨rfl, rfl⟩ (by decide +kernel) (by decide) (shA_7) rfl rfl rfl (Nat.le_of_ble_eq_true rfl) (fun _ => rfl) ?_
      refine x3_leakPlace_mono h (fun r11 s10 h => ?_)
      refine r_istore_n (ls' := [(3, vI r11), (0, .ref (ad 0)), (1, vI x1), (2, vI x2)]) C dX7_leak_67 rfl (by decide) rfl ?_
      refine r_iload_n C 3 dX7_leak_68 rfl ?_
      refine r_iconst C dX7_leak_69 ?_
      refine r_icmp_ne (tgt := 78) C dX7_leak_70 (by decide) ⟨h.1, fun c16 => ?_, fun c16 => ?_⟩
      · have h := h.2.1 c16
        refine r_aload_n C 1 dX7_leak_78 rfl ?_
        refine r_get (j := 1) (jz := 1) (v := .ref (ad 7)) C dX7_leak_79 (shA_0) rfl rfl (by decide) in_x7_leak_X7 w_x7_leak_19 rfl rfl rfl ?_
        refine r_aload_n C 1 dX7_leak_82 rfl ?_
        refine r_get (j := 0) (jz := 0) (v := .ref (ad 1)) C dX7_leak_83 (shA_0) rfl rfl (by decide) in_x7_leak_X7 w_x7_leak_10 rfl rfl rfl ?_
        refine r_iload_n C 0 dX7_leak_86 rfl ?_
        refine r_callV (As := [.ref (ad 1), vI r11]) (o := 7) (n := 2) C dX7_leak_87 (x3_pressUpper_ct κ.1.2.1 ad cA D 7 r11 s10 (Or.inl rfl)) gX7_leak_X3_pressUpper rfl ⟨rfl, rfl⟩ (by decide +kernel) (by decide) (shA_7) rfl rfl rfl (Nat.le_of_ble_eq_true rfl) (fun _ => rfl) ?_
        refine x3_pressUpper_mono h (fun r13 s12 h => ?_)
        refine r_aload_n C 1 dX7_leak_90 rfl ?_
        refine r_get (j := 1) (jz := 1) (v := .ref (ad 7)) C dX7_leak_91 (shA_0) rfl rfl (by decide) in_x7_leak_X7 w_x7_leak_19 rfl rfl rfl ?_
        refine r_get (j := 1) (jz := 1) (v := vL (s12 7 (1 : Int))) C dX7_leak_94 (shA_7) rfl rfl (by decide) in_x7_leak_X3 w_x7_leak_134 rfl rfl rfl ?_
        refine r_iload_n C 3 dX7_leak_97 rfl ?_
        refine r_callS (As := [vL r13, vL (s12 7 (1 : Int)), vI x2]) (n := 3) C dX7_leak_98 (x7_leastTerm_ct κ.1.2.1 ad cA D r13 (s12 7 (1 : Int)) x2 s12) gX7_leak_X7_leastTerm rfl ⟨rfl, rfl⟩ (by decide +kernel) (by decide) rfl rfl (Nat.le_of_ble_eq_true rfl) (fun _ => rfl) ?_
        refine x7_leastTerm_mono h (fun r15 s14 h => ?_)
        exact r_lreturn C dX7_leak_101 h
      · have h := h.2.2 c16
        refine r_iload_n C 0 dX7_leak_73 rfl ?_
        refine r_i2l C dX7_leak_74 ⟨h.1, ?_⟩
        have h := h.2
        refine r_goto (tgt := 101) C dX7_leak_75 (by decide) ?_
        exact r_lreturn C dX7_leak_101 h
    · have h := h.2.2 c17
      refine r_ldc2 (z := -100002) C dX7_leak_29 w_x7_leak_128 rfl ?_
      exact r_lreturn C dX7_leak_32 h
theorem x7_leak_ct (l : Launch) (ad : Nat → Nat) (cA : Nat → ClassId) (D : va_G) (p1 : Int) (p2 : Int) (s : Mem) : MG l yX7_leak wsX7_leak x7_leak_rm ocL [.ref (ad 0), vI p1, vI p2] (GA ad cA D) s (x7_leak p1 p2 s) :=
  m_met (own := RX7) (nL := 4) (by decide) rfl rfl (Nat.le_of_ble_eq_true rfl) rfl rfl rfl (fun κ hl C Q Pst hW hQ => x7_leak_bd C (x7_leak_mono hW hQ))

def x7_worst  (s : Mem) (Q : Int → Mem → Prop) : Prop :=
  x0_findWorst s (fun r2 s1 => Q r2 s1)
theorem x7_worst_mono {Q R : Int → Mem → Prop}  {s : Mem} (h : x7_worst  s Q) (hQ : ∀ r s, Q r s → R r s) : x7_worst  s R :=
  x0_findWorst_mono h (fun r2 s1 h => hQ _ _ h)
def x7_worst_rm : Room := { frames := 5, cells := 0, slots := 0, locals := 154 }
theorem w_x7_worst_33 : Cond.fieldLink RX7 33 "BoltRing" "cases" "LBoltRing$Cases;" ∈ wsX7_worst := by decide +kernel
theorem w_x7_worst_10 : Cond.fieldLink RX7 10 "BoltRing" "ring" "LBoltRing$Joint;" ∈ wsX7_worst := by decide +kernel
theorem w_x7_worst_19 : Cond.fieldLink RX7 19 "BoltRing" "lifts" "LBoltRing$Lifts;" ∈ wsX7_worst := by decide +kernel
theorem in_x7_worst_X7 : ∀ w ∈ wsX70, w ∈ wsX7_worst := by decide +kernel
set_option maxHeartbeats 4000000 in
set_option maxRecDepth 100000 in
theorem x7_worst_bd {κ : KT} {ad : Nat → Nat} {cA : Nat → ClassId} {D : va_G} {Q : State → Prop}  {s : Mem} (C : CX κ (GA ad cA D) RX7 cX7_worst 1 wsX7_worst x7_worst_rm (some .int)) (h : x7_worst  s (RT κ (GA ad cA D) ocI Q)) : WM κ (GA ad cA D) 1 Q s 0 [(0, .ref (ad 0))] [] := by
  refine r_aload_n C 0 dX7_worst_0 rfl ?_
  refine r_get (j := 3) (jz := 3) (v := .ref (ad 23)) C dX7_worst_1 (shA_0) rfl rfl (by decide) in_x7_worst_X7 w_x7_worst_33 rfl rfl rfl ?_
  refine r_aload_n C 0 dX7_worst_4 rfl ?_
  refine r_get (j := 0) (jz := 0) (v := .ref (ad 1)) C dX7_worst_5 (shA_0) rfl rfl (by decide) in_x7_worst_X7 w_x7_worst_10 rfl rfl rfl ?_
  refine r_aload_n C 0 dX7_worst_8 rfl ?_
  refine r_get (j := 1) (jz := 1) (v := .ref (ad 7)) C dX7_worst_9 (shA_0) rfl rfl (by decide) in_x7_worst_X7 w_x7_worst_19 rfl rfl rfl ?_
  refine r_callV (As := [.ref (ad 1), .ref (ad 7)]) (o := 23) (n := 2) C dX7_worst_12 (x0_findWorst_ct κ.1.2.1 ad cA D s) gX7_worst_X0_findWorst rfl ⟨rfl, rfl⟩ (by decide +kernel) (by decide) (shA_23) rfl rfl rfl (Nat.le_of_ble_eq_true rfl) (fun _ => rfl) ?_
  refine x0_findWorst_mono h (fun r2 s1 h => ?_)
  exact r_ireturn C dX7_worst_15 h
theorem x7_worst_ct (l : Launch) (ad : Nat → Nat) (cA : Nat → ClassId) (D : va_G)  (s : Mem) : MG l yX7_worst wsX7_worst x7_worst_rm ocI [.ref (ad 0)] (GA ad cA D) s (x7_worst  s) :=
  m_met (own := RX7) (nL := 1) (by decide) rfl rfl (Nat.le_of_ble_eq_true rfl) rfl rfl rfl (fun κ hl C Q Pst hW hQ => x7_worst_bd C (x7_worst_mono hW hQ))

def x7_weakest  (s : Mem) (Q : Int → Mem → Prop) : Prop :=
  x0_findWeakest s (fun r2 s1 => Q r2 s1)
theorem x7_weakest_mono {Q R : Int → Mem → Prop}  {s : Mem} (h : x7_weakest  s Q) (hQ : ∀ r s, Q r s → R r s) : x7_weakest  s R :=
  x0_findWeakest_mono h (fun r2 s1 h => hQ _ _ h)
def x7_weakest_rm : Room := { frames := 5, cells := 0, slots := 0, locals := 154 }
theorem w_x7_weakest_33 : Cond.fieldLink RX7 33 "BoltRing" "cases" "LBoltRing$Cases;" ∈ wsX7_weakest := by decide +kernel
theorem w_x7_weakest_10 : Cond.fieldLink RX7 10 "BoltRing" "ring" "LBoltRing$Joint;" ∈ wsX7_weakest := by decide +kernel
theorem w_x7_weakest_19 : Cond.fieldLink RX7 19 "BoltRing" "lifts" "LBoltRing$Lifts;" ∈ wsX7_weakest := by decide +kernel
theorem in_x7_weakest_X7 : ∀ w ∈ wsX70, w ∈ wsX7_weakest := by decide +kernel
set_option maxHeartbeats 4000000 in
set_option maxRecDepth 100000 in
theorem x7_weakest_bd {κ : KT} {ad : Nat → Nat} {cA : Nat → ClassId} {D : va_G} {Q : State → Prop}  {s : Mem} (C : CX κ (GA ad cA D) RX7 cX7_weakest 1 wsX7_weakest x7_weakest_rm (some .int)) (h : x7_weakest  s (RT κ (GA ad cA D) ocI Q)) : WM κ (GA ad cA D) 1 Q s 0 [(0, .ref (ad 0))] [] := by
  refine r_aload_n C 0 dX7_weakest_0 rfl ?_
  refine r_get (j := 3) (jz := 3) (v := .ref (ad 23)) C dX7_weakest_1 (shA_0) rfl rfl (by decide) in_x7_weakest_X7 w_x7_weakest_33 rfl rfl rfl ?_
  refine r_aload_n C 0 dX7_weakest_4 rfl ?_
  refine r_get (j := 0) (jz := 0) (v := .ref (ad 1)) C dX7_weakest_5 (shA_0) rfl rfl (by decide) in_x7_weakest_X7 w_x7_weakest_10 rfl rfl rfl ?_
  refine r_aload_n C 0 dX7_weakest_8 rfl ?_
  refine r_get (j := 1) (jz := 1) (v := .ref (ad 7)) C dX7_weakest_9 (shA_0) rfl rfl (by decide) in_x7_weakest_X7 w_x7_weakest_19 rfl rfl rfl ?_
  refine r_callV (As := [.ref (ad 1), .ref (ad 7)]) (o := 23) (n := 2) C dX7_weakest_12 (x0_findWeakest_ct κ.1.2.1 ad cA D s) gX7_weakest_X0_findWeakest rfl ⟨rfl, rfl⟩ (by decide +kernel) (by decide) (shA_23) rfl rfl rfl (Nat.le_of_ble_eq_true rfl) (fun _ => rfl) ?_
  refine x0_findWeakest_mono h (fun r2 s1 h => ?_)
  exact r_ireturn C dX7_weakest_15 h
theorem x7_weakest_ct (l : Launch) (ad : Nat → Nat) (cA : Nat → ClassId) (D : va_G)  (s : Mem) : MG l yX7_weakest wsX7_weakest x7_weakest_rm ocI [.ref (ad 0)] (GA ad cA D) s (x7_weakest  s) :=
  m_met (own := RX7) (nL := 1) (by decide) rfl rfl (Nat.le_of_ble_eq_true rfl) rfl rfl rfl (fun κ hl C Q Pst hW hQ => x7_weakest_bd C (x7_weakest_mono hW hQ))

def x7_weights (p1 : Int) (p2 : Int) (p3 : Int) (s : Mem) (Q : Int → Mem → Prop) : Prop :=
  x7_within p1 (0 : Int) (9 : Int) s (fun r2 s1 => InI r2 ∧ (r2 = (0 : Int) → Q (-100002 : Int) s1) ∧ (¬ r2 = (0 : Int) → x7_within p2 (0 : Int) (9 : Int) s1 (fun r4 s3 => InI r4 ∧ (r4 = (0 : Int) → Q (-100002 : Int) s3) ∧ (¬ r4 = (0 : Int) → x7_within p3 (0 : Int) (9 : Int) s3 (fun r6 s5 => InI r6 ∧ (r6 = (0 : Int) → Q (-100002 : Int) s5) ∧ (¬ r6 = (0 : Int) → InI ((p1 + p2) + p3) ∧ (¬ ((p1 + p2) + p3) = (0 : Int) → x4_weigh p1 p2 p3 s5 (fun _ s7 => Q (1 : Int) s7)) ∧ (((p1 + p2) + p3) = (0 : Int) → Q (-100002 : Int) s5)))))))
theorem x7_weights_mono {Q R : Int → Mem → Prop} {p1 : Int} {p2 : Int} {p3 : Int} {s : Mem} (h : x7_weights p1 p2 p3 s Q) (hQ : ∀ r s, Q r s → R r s) : x7_weights p1 p2 p3 s R :=
  x7_within_mono h (fun r2 s1 h => ⟨h.1, fun c => have h := h.2.1 c; hQ _ _ h, fun c => have h := h.2.2 c; x7_within_mono h (fun r4 s3 h => ⟨h.1, fun c => have h := h.2.1 c; hQ _ _ h, fun c => have h := h.2.2 c; x7_within_mono h (fun r6 s5 h => ⟨h.1, fun c => have h := h.2.1 c; hQ _ _ h, fun c => have h := h.2.2 c; ⟨h.1, fun c => have h := h.2.1 c; x4_weigh_mono h (fun _ s7 h => hQ _ _ h), fun c => have h := h.2.2 c; hQ _ _ h⟩⟩)⟩)⟩)
def x7_weights_rm : Room := { frames := 1, cells := 0, slots := 0, locals := 23 }
theorem w_x7_weights_66 : Cond.constant RX7 66 (-100002) ∈ wsX7_weights := by decide +kernel
theorem w_x7_weights_40 : Cond.fieldLink RX7 40 "BoltRing" "misses" "LBoltRing$Misses;" ∈ wsX7_weights := by decide +kernel
theorem in_x7_weights_X7 : ∀ w ∈ wsX70, w ∈ wsX7_weights := by decide +kernel
set_option maxHeartbeats 4000000 in
set_option maxRecDepth 100000 in
theorem x7_weights_bd {κ : KT} {ad : Nat → Nat} {cA : Nat → ClassId} {D : va_G} {Q : State → Prop} {p1 : Int} {p2 : Int} {p3 : Int} {s : Mem} (C : CX κ (GA ad cA D) RX7 cX7_weights 4 wsX7_weights x7_weights_rm (some .int)) (h : x7_weights p1 p2 p3 s (RT κ (GA ad cA D) ocI Q)) : WM κ (GA ad cA D) 4 Q s 0 [(0, .ref (ad 0)), (1, vI p1), (2, vI p2), (3, vI p3)] [] := by
  refine r_iload_n C 1 dX7_weights_0 rfl ?_
  refine r_iconst C dX7_weights_1 ?_
  refine r_bipush C dX7_weights_2 (by decide) ?_
  refine r_callS (As := [vI p1, vI (0 : Int), vI (9 : Int)]) (n := 3) C dX7_weights_4 (x7_within_ct κ.1.2.1 ad cA D p1 (0 : Int) (9 : Int) s) gX7_weights_X7_within rfl ⟨rfl, rfl⟩ (by decide +kernel) (by decide) rfl rfl (Nat.le_of_ble_eq_true rfl) (fun _ => rfl) ?_
  refine x7_within_mono h (fun r2 s1 h => ?_)
  refine r_if_eq (tgt := 38) C dX7_weights_7 (by decide) ⟨h.1, fun c11 => ?_, fun c11 => ?_⟩
  · have h := h.2.1 c11
    refine r_ldc (z := -100002) C dX7_weights_38 w_x7_weights_66 rfl ?_
    exact r_ireturn C dX7_weights_40 h
  · have h := h.2.2 c11
    refine r_iload_n C 2 dX7_weights_10 rfl ?_
    refine r_iconst C dX7_weights_11 ?_
    refine r_bipush C dX7_weights_12 (by decide) ?_
    refine r_callS (As := [vI p2, vI (0 : Int), vI (9 : Int)]) (n := 3) C dX7_weights_14 (x7_within_ct κ.1.2.1 ad cA D p2 (0 : Int) (9 : Int) s1) gX7_weights_X7_within rfl ⟨rfl, rfl⟩ (by decide +kernel) (by decide) rfl rfl (Nat.le_of_ble_eq_true rfl) (fun _ => rfl) ?_
    refine x7_within_mono h (fun r4 s3 h => ?_)
    refine r_if_eq (tgt := 38) C dX7_weights_17 (by decide) ⟨h.1, fun c10 => ?_, fun c10 => ?_⟩
    · have h := h.2.1 c10
      refine r_ldc (z := -100002) C dX7_weights_38 w_x7_weights_66 rfl ?_
      exact r_ireturn C dX7_weights_40 h
    · have h := h.2.2 c10
      refine r_iload_n C 3 dX7_weights_20 rfl ?_
      refine r_iconst C dX7_weights_21 ?_
      refine r_bipush C dX7_weights_22 (by decide) ?_
      refine r_callS (As := [vI p3, vI (0 : Int), vI (9 : Int)]) (n := 3) C dX7_weights_24 (x7_within_ct κ.1.2.1 ad cA D p3 (0 : Int) (9 : Int) s3) gX7_weights_X7_within rfl ⟨rfl, rfl⟩ (by decide +kernel) (by decide) rfl rfl (Nat.le_of_ble_eq_true rfl) (fun _ => rfl) ?_
      refine x7_within_mono h (fun r6 s5 h => ?_)
      refine r_if_eq (tgt := 38) C dX7_weights_27 (by decide) ⟨h.1, fun c9 => ?_, fun c9 => ?_⟩
      · have h := h.2.1 c9
        refine r_ldc (z := -100002) C dX7_weights_38 w_x7_weights_66 rfl ?_
        exact r_ireturn C dX7_weights_40 h
      · have h := h.2.2 c9
        refine r_iload_n C 1 dX7_weights_30 rfl ?_
        refine r_iload_n C 2 dX7_weights_31 rfl ?_
        refine r_iadd C dX7_weights_32 ?_
        refine r_iload_n C 3 dX7_weights_33 rfl ?_
        refine r_iadd C dX7_weights_34 ?_
        refine r_if_ne (tgt := 41) C dX7_weights_35 (by decide) ⟨h.1, fun c8 => ?_, fun c8 => ?_⟩
        · have h := h.2.1 c8
          refine r_aload_n C 0 dX7_weights_41 rfl ?_
          refine r_get (j := 4) (jz := 4) (v := .ref (ad 31)) C dX7_weights_42 (shA_0) rfl rfl (by decide) in_x7_weights_X7 w_x7_weights_40 rfl rfl rfl ?_
          refine r_iload_n C 1 dX7_weights_45 rfl ?_
          refine r_iload_n C 2 dX7_weights_46 rfl ?_
          refine r_iload_n C 3 dX7_weights_47 rfl ?_
          refine r_callV (As := [vI p1, vI p2, vI p3]) (o := 31) (n := 3) C dX7_weights_48 (x4_weigh_ct κ.1.2.1 ad cA D p1 p2 p3 s5) gX7_weights_X4_weigh rfl ⟨rfl, rfl⟩ (by decide +kernel) (by decide) (shA_31) rfl rfl rfl (Nat.le_of_ble_eq_true rfl) (fun _ => rfl) ?_
          refine x4_weigh_mono h (fun _ s7 h => ?_)
          refine r_iconst C dX7_weights_51 ?_
          exact r_ireturn C dX7_weights_52 h
        · have h := h.2.2 c8
          refine r_ldc (z := -100002) C dX7_weights_38 w_x7_weights_66 rfl ?_
          exact r_ireturn C dX7_weights_40 h
theorem x7_weights_ct (l : Launch) (ad : Nat → Nat) (cA : Nat → ClassId) (D : va_G) (p1 : Int) (p2 : Int) (p3 : Int) (s : Mem) : MG l yX7_weights wsX7_weights x7_weights_rm ocI [.ref (ad 0), vI p1, vI p2, vI p3] (GA ad cA D) s (x7_weights p1 p2 p3 s) :=
  m_met (own := RX7) (nL := 4) (by decide) rfl rfl (Nat.le_of_ble_eq_true rfl) rfl rfl rfl (fun κ hl C Q Pst hW hQ => x7_weights_bd C (x7_weights_mono hW hQ))

def x7_chance (p1 : Int) (p2 : Int) (p3 : Int) (s : Mem) (Q : Int → Mem → Prop) : Prop :=
  x7_within p2 (0 : Int) (2000 : Int) s (fun r2 s1 => InI r2 ∧ (r2 = (0 : Int) → Q (-100002 : Int) s1) ∧ (¬ r2 = (0 : Int) → x7_within p1 (0 : Int) p2 s1 (fun r4 s3 => InI r4 ∧ (r4 = (0 : Int) → Q (-100002 : Int) s3) ∧ (¬ r4 = (0 : Int) → x7_within p3 (0 : Int) (1 : Int) s3 (fun r6 s5 => InI r6 ∧ (¬ r6 = (0 : Int) → x4_favourable p1 p2 s5 (fun r8 s7 => x4_all s7 (fun r10 s9 => x7_leastTerm r8 r10 p3 s9 (fun r12 s11 => Q r12 s11)))) ∧ (r6 = (0 : Int) → Q (-100002 : Int) s5))))))
theorem x7_chance_mono {Q R : Int → Mem → Prop} {p1 : Int} {p2 : Int} {p3 : Int} {s : Mem} (h : x7_chance p1 p2 p3 s Q) (hQ : ∀ r s, Q r s → R r s) : x7_chance p1 p2 p3 s R :=
  x7_within_mono h (fun r2 s1 h => ⟨h.1, fun c => have h := h.2.1 c; hQ _ _ h, fun c => have h := h.2.2 c; x7_within_mono h (fun r4 s3 h => ⟨h.1, fun c => have h := h.2.1 c; hQ _ _ h, fun c => have h := h.2.2 c; x7_within_mono h (fun r6 s5 h => ⟨h.1, fun c => have h := h.2.1 c; x4_favourable_mono h (fun r8 s7 h => x4_all_mono h (fun r10 s9 h => x7_leastTerm_mono h (fun r12 s11 h => hQ _ _ h))), fun c => have h := h.2.2 c; hQ _ _ h⟩)⟩)⟩)
def x7_chance_rm : Room := { frames := 5, cells := 0, slots := 0, locals := 162 }
theorem w_x7_chance_128 : Cond.constantLong RX7 128 (-100002) ∈ wsX7_chance := by decide +kernel
theorem w_x7_chance_40 : Cond.fieldLink RX7 40 "BoltRing" "misses" "LBoltRing$Misses;" ∈ wsX7_chance := by decide +kernel
theorem w_x7_chance_10 : Cond.fieldLink RX7 10 "BoltRing" "ring" "LBoltRing$Joint;" ∈ wsX7_chance := by decide +kernel
theorem w_x7_chance_19 : Cond.fieldLink RX7 19 "BoltRing" "lifts" "LBoltRing$Lifts;" ∈ wsX7_chance := by decide +kernel
theorem in_x7_chance_X7 : ∀ w ∈ wsX70, w ∈ wsX7_chance := by decide +kernel
set_option maxHeartbeats 4000000 in
set_option maxRecDepth 100000 in
theorem x7_chance_bd {κ : KT} {ad : Nat → Nat} {cA : Nat → ClassId} {D : va_G} {Q : State → Prop} {p1 : Int} {p2 : Int} {p3 : Int} {s : Mem} (C : CX κ (GA ad cA D) RX7 cX7_chance 6 wsX7_chance x7_chance_rm (some .long)) (h : x7_chance p1 p2 p3 s (RT κ (GA ad cA D) ocL Q)) : WM κ (GA ad cA D) 6 Q s 0 [(0, .ref (ad 0)), (1, vI p1), (2, vI p2), (3, vI p3)] [] := by
  refine r_iload_n C 2 dX7_chance_0 rfl ?_
  refine r_iconst C dX7_chance_1 ?_
  refine r_sipush C dX7_chance_2 (by decide) ?_
  refine r_callS (As := [vI p2, vI (0 : Int), vI (2000 : Int)]) (n := 3) C dX7_chance_5 (x7_within_ct κ.1.2.1 ad cA D p2 (0 : Int) (2000 : Int) s) gX7_chance_X7_within rfl ⟨rfl, rfl⟩ (by decide +kernel) (by decide) rfl rfl (Nat.le_of_ble_eq_true rfl) (fun _ => rfl) ?_
  refine x7_within_mono h (fun r2 s1 h => ?_)
  refine r_if_eq (tgt := 29) C dX7_chance_8 (by decide) ⟨h.1, fun c15 => ?_, fun c15 => ?_⟩
  · have h := h.2.1 c15
    refine r_ldc2 (z := -100002) C dX7_chance_29 w_x7_chance_128 rfl ?_
    exact r_lreturn C dX7_chance_32 h
  · have h := h.2.2 c15
    refine r_iload_n C 1 dX7_chance_11 rfl ?_
    refine r_iconst C dX7_chance_12 ?_
    refine r_iload_n C 2 dX7_chance_13 rfl ?_
    refine r_callS (As := [vI p1, vI (0 : Int), vI p2]) (n := 3) C dX7_chance_14 (x7_within_ct κ.1.2.1 ad cA D p1 (0 : Int) p2 s1) gX7_chance_X7_within rfl ⟨rfl, rfl⟩ (by decide +kernel) (by decide) rfl rfl (Nat.le_of_ble_eq_true rfl) (fun _ => rfl) ?_
    refine x7_within_mono h (fun r4 s3 h => ?_)
    refine r_if_eq (tgt := 29) C dX7_chance_17 (by decide) ⟨h.1, fun c14 => ?_, fun c14 => ?_⟩
    · have h := h.2.1 c14
      refine r_ldc2 (z := -100002) C dX7_chance_29 w_x7_chance_128 rfl ?_
      exact r_lreturn C dX7_chance_32 h
    · have h := h.2.2 c14
      refine r_iload_n C 3 dX7_chance_20 rfl ?_
      refine r_iconst C dX7_chance_21 ?_
      refine r_iconst C dX7_chance_22 ?_
      refine r_callS (As := [vI p3, vI (0 : Int), vI (1 : Int)]) (n := 3) C dX7_chance_23 (x7_within_ct κ.1.2.1 ad cA D p3 (0 : Int) (1 : Int) s3) gX7_chance_X7_within rfl ⟨rfl, rfl⟩ (by decide +kernel) (by decide) rfl rfl (Nat.le_of_ble_eq_true rfl) (fun _ => rfl) ?_
      refine x7_within_mono h (fun r6 s5 h => ?_)
      refine r_if_ne (tgt := 33) C dX7_chance_26 (by decide) ⟨h.1, fun c13 => ?_, fun c13 => ?_⟩
      · have h := h.2.1 c13
        refine r_aload_n C 0 dX7_chance_33 rfl ?_
        refine r_get (j := 4) (jz := 4) (v := .ref (ad 31)) C dX7_chance_34 (shA_0) rfl rfl (by decide) in_x7_chance_X7 w_x7_chance_40 rfl rfl rfl ?_
        refine r_aload_n C 0 dX7_chance_37 rfl ?_
        refine r_get (j := 0) (jz := 0) (v := .ref (ad 1)) C dX7_chance_38 (shA_0) rfl rfl (by decide) in_x7_chance_X7 w_x7_chance_10 rfl rfl rfl ?_
        refine r_aload_n C 0 dX7_chance_41 rfl ?_
        refine r_get (j := 1) (jz := 1) (v := .ref (ad 7)) C dX7_chance_42 (shA_0) rfl rfl (by decide) in_x7_chance_X7 w_x7_chance_19 rfl rfl rfl ?_
        refine r_iload_n C 1 dX7_chance_45 rfl ?_
        refine r_iload_n C 2 dX7_chance_46 rfl ?_
        refine r_callV (As := [.ref (ad 1), .ref (ad 7), vI p1, vI p2]) (o := 31) (n := 4) C dX7_chance_47 (x4_favourable_ct κ.1.2.1 ad cA D p1 p2 s5) gX7_chance_X4_favourable rfl ⟨rfl, rfl⟩ (by decide +kernel) (by decide) (shA_31) rfl rfl rfl (Nat.le_of_ble_eq_true rfl) (fun _ => rfl) ?_
        refine x4_favourable_mono h (fun r8 s7 h => ?_)
        refine r_lstore (ls' := [(4, vL r8), (0, .ref (ad 0)), (1, vI p1), (2, vI p2), (3, vI p3)]) C dX7_chance_50 (by decide) rfl ?_
        refine r_lload C 0 dX7_chance_52 rfl ?_
        refine r_aload_n C 1 dX7_chance_54 rfl ?_
        refine r_get (j := 4) (jz := 4) (v := .ref (ad 31)) C dX7_chance_55 (shA_0) rfl rfl (by decide) in_x7_chance_X7 w_x7_chance_40 rfl rfl rfl ?_
        refine r_aload_n C 1 dX7_chance_58 rfl ?_
        refine r_get (j := 0) (jz := 0) (v := .ref (ad 1)) C dX7_chance_59 (shA_0) rfl rfl (by decide) in_x7_chance_X7 w_x7_chance_10 rfl rfl rfl ?_
        refine r_callV (As := [.ref (ad 1)]) (o := 31) (n := 1) C dX7_chance_62 (x4_all_ct κ.1.2.1 ad cA D s7) gX7_chance_X4_all rfl ⟨rfl, rfl⟩ (by decide +kernel) (by decide) (shA_31) rfl rfl rfl (Nat.le_of_ble_eq_true rfl) (fun _ => rfl) ?_
        refine x4_all_mono h (fun r10 s9 h => ?_)
        refine r_iload_n C 4 dX7_chance_65 rfl ?_
        refine r_callS (As := [vL r8, vL r10, vI p3]) (n := 3) C dX7_chance_66 (x7_leastTerm_ct κ.1.2.1 ad cA D r8 r10 p3 s9) gX7_chance_X7_leastTerm rfl ⟨rfl, rfl⟩ (by decide +kernel) (by decide) rfl rfl (Nat.le_of_ble_eq_true rfl) (fun _ => rfl) ?_
        refine x7_leastTerm_mono h (fun r12 s11 h => ?_)
        exact r_lreturn C dX7_chance_69 h
      · have h := h.2.2 c13
        refine r_ldc2 (z := -100002) C dX7_chance_29 w_x7_chance_128 rfl ?_
        exact r_lreturn C dX7_chance_32 h
theorem x7_chance_ct (l : Launch) (ad : Nat → Nat) (cA : Nat → ClassId) (D : va_G) (p1 : Int) (p2 : Int) (p3 : Int) (s : Mem) : MG l yX7_chance wsX7_chance x7_chance_rm ocL [.ref (ad 0), vI p1, vI p2, vI p3] (GA ad cA D) s (x7_chance p1 p2 p3 s) :=
  m_met (own := RX7) (nL := 6) (by decide) rfl rfl (Nat.le_of_ble_eq_true rfl) rfl rfl rfl (fun κ hl C Q Pst hW hQ => x7_chance_bd C (x7_chance_mono hW hQ))

def x7_reading (p1 : Int) (p2 : Int) (p3 : Int) (s : Mem) (Q : Int → Mem → Prop) : Prop :=
  x2_has p1 s (fun r2 s1 => InI r2 ∧ (¬ r2 = (0 : Int) → x7_within p3 (0 : Int) (2000 : Int) s1 (fun r4 s3 => InI r4 ∧ (r4 = (0 : Int) → Q (-100002 : Int) s3) ∧ (¬ r4 = (0 : Int) → x7_within p2 (0 : Int) p3 s3 (fun r6 s5 => InI r6 ∧ (¬ r6 = (0 : Int) → x6_take p1 p2 p3 s5 (fun _ s7 => j6_bitCount_0f7a4 (s7 34 (0 : Int)) s7 (fun r9 s8 => Q r9 s8))) ∧ (r6 = (0 : Int) → Q (-100002 : Int) s5))))) ∧ (r2 = (0 : Int) → Q (-100001 : Int) s1))
theorem x7_reading_mono {Q R : Int → Mem → Prop} {p1 : Int} {p2 : Int} {p3 : Int} {s : Mem} (h : x7_reading p1 p2 p3 s Q) (hQ : ∀ r s, Q r s → R r s) : x7_reading p1 p2 p3 s R :=
  x2_has_mono h (fun r2 s1 h => ⟨h.1, fun c => have h := h.2.1 c; x7_within_mono h (fun r4 s3 h => ⟨h.1, fun c => have h := h.2.1 c; hQ _ _ h, fun c => have h := h.2.2 c; x7_within_mono h (fun r6 s5 h => ⟨h.1, fun c => have h := h.2.1 c; x6_take_mono h (fun _ s7 h => j6_bitCount_0f7a4_mono h (fun r9 s8 h => hQ _ _ h)), fun c => have h := h.2.2 c; hQ _ _ h⟩)⟩), fun c => have h := h.2.2 c; hQ _ _ h⟩)
def x7_reading_rm : Room := { frames := 1, cells := 0, slots := 0, locals := 23 }
theorem w_x7_reading_10 : Cond.fieldLink RX7 10 "BoltRing" "ring" "LBoltRing$Joint;" ∈ wsX7_reading := by decide +kernel
theorem w_x7_reading_66 : Cond.constant RX7 66 (-100002) ∈ wsX7_reading := by decide +kernel
theorem w_x7_reading_47 : Cond.fieldLink RX7 47 "BoltRing" "readings" "LBoltRing$Readings;" ∈ wsX7_reading := by decide +kernel
theorem w_x7_reading_73 : Cond.fieldLink RX7 73 "BoltRing$Readings" "told" "I" ∈ wsX7_reading := by decide +kernel
theorem w_x7_reading_80 : Cond.constant RX7 80 (-100001) ∈ wsX7_reading := by decide +kernel
theorem in_x7_reading_X6 : ∀ w ∈ wsX60, w ∈ wsX7_reading := by decide +kernel
theorem in_x7_reading_X7 : ∀ w ∈ wsX70, w ∈ wsX7_reading := by decide +kernel
set_option maxHeartbeats 4000000 in
set_option maxRecDepth 100000 in
theorem x7_reading_bd {κ : KT} {ad : Nat → Nat} {cA : Nat → ClassId} {D : va_G} {Q : State → Prop} {p1 : Int} {p2 : Int} {p3 : Int} {s : Mem} (C : CX κ (GA ad cA D) RX7 cX7_reading 4 wsX7_reading x7_reading_rm (some .int)) (h : x7_reading p1 p2 p3 s (RT κ (GA ad cA D) ocI Q)) : WM κ (GA ad cA D) 4 Q s 0 [(0, .ref (ad 0)), (1, vI p1), (2, vI p2), (3, vI p3)] [] := by
  refine r_aload_n C 0 dX7_reading_0 rfl ?_
  refine r_get (j := 0) (jz := 0) (v := .ref (ad 1)) C dX7_reading_1 (shA_0) rfl rfl (by decide) in_x7_reading_X7 w_x7_reading_10 rfl rfl rfl ?_
  refine r_iload_n C 1 dX7_reading_4 rfl ?_
  refine r_callV (As := [vI p1]) (o := 1) (n := 1) C dX7_reading_5 (x2_has_ct κ.1.2.1 ad cA D p1 s) gX7_reading_X2_has rfl ⟨rfl, rfl⟩ (by decide +kernel) (by decide) (shA_1) rfl rfl rfl (Nat.le_of_ble_eq_true rfl) (fun _ => rfl) ?_
  refine x2_has_mono h (fun r2 s1 h => ?_)
  refine r_if_ne (tgt := 14) C dX7_reading_8 (by decide) ⟨h.1, fun c12 => ?_, fun c12 => ?_⟩
  · have h := h.2.1 c12
    refine r_iload_n C 3 dX7_reading_14 rfl ?_
    refine r_iconst C dX7_reading_15 ?_
    refine r_sipush C dX7_reading_16 (by decide) ?_
    refine r_callS (As := [vI p3, vI (0 : Int), vI (2000 : Int)]) (n := 3) C dX7_reading_19 (x7_within_ct κ.1.2.1 ad cA D p3 (0 : Int) (2000 : Int) s1) gX7_reading_X7_within rfl ⟨rfl, rfl⟩ (by decide +kernel) (by decide) rfl rfl (Nat.le_of_ble_eq_true rfl) (fun _ => rfl) ?_
    refine x7_within_mono h (fun r4 s3 h => ?_)
    refine r_if_eq (tgt := 34) C dX7_reading_22 (by decide) ⟨h.1, fun c11 => ?_, fun c11 => ?_⟩
    · have h := h.2.1 c11
      refine r_ldc (z := -100002) C dX7_reading_34 w_x7_reading_66 rfl ?_
      exact r_ireturn C dX7_reading_36 h
    · have h := h.2.2 c11
      refine r_iload_n C 2 dX7_reading_25 rfl ?_
      refine r_iconst C dX7_reading_26 ?_
      refine r_iload_n C 3 dX7_reading_27 rfl ?_
      refine r_callS (As := [vI p2, vI (0 : Int), vI p3]) (n := 3) C dX7_reading_28 (x7_within_ct κ.1.2.1 ad cA D p2 (0 : Int) p3 s3) gX7_reading_X7_within rfl ⟨rfl, rfl⟩ (by decide +kernel) (by decide) rfl rfl (Nat.le_of_ble_eq_true rfl) (fun _ => rfl) ?_
      refine x7_within_mono h (fun r6 s5 h => ?_)
      refine r_if_ne (tgt := 37) C dX7_reading_31 (by decide) ⟨h.1, fun c10 => ?_, fun c10 => ?_⟩
      · have h := h.2.1 c10
        refine r_aload_n C 0 dX7_reading_37 rfl ?_
        refine r_get (j := 5) (jz := 5) (v := .ref (ad 34)) C dX7_reading_38 (shA_0) rfl rfl (by decide) in_x7_reading_X7 w_x7_reading_47 rfl rfl rfl ?_
        refine r_iload_n C 1 dX7_reading_41 rfl ?_
        refine r_iload_n C 2 dX7_reading_42 rfl ?_
        refine r_iload_n C 3 dX7_reading_43 rfl ?_
        refine r_callV (As := [vI p1, vI p2, vI p3]) (o := 34) (n := 3) C dX7_reading_44 (x6_take_ct κ.1.2.1 ad cA D p1 p2 p3 s5) gX7_reading_X6_take rfl ⟨rfl, rfl⟩ (by decide +kernel) (by decide) (shA_34) rfl rfl rfl (Nat.le_of_ble_eq_true rfl) (fun _ => rfl) ?_
        refine x6_take_mono h (fun _ s7 h => ?_)
        refine r_aload_n C 0 dX7_reading_47 rfl ?_
        refine r_get (j := 5) (jz := 5) (v := .ref (ad 34)) C dX7_reading_48 (shA_0) rfl rfl (by decide) in_x7_reading_X7 w_x7_reading_47 rfl rfl rfl ?_
        refine r_get (j := 0) (jz := 0) (v := vI (s7 34 (0 : Int))) C dX7_reading_51 (shA_34) rfl rfl (by decide) in_x7_reading_X6 w_x7_reading_73 rfl rfl rfl ?_
        refine r_callS (As := [vI (s7 34 (0 : Int))]) (n := 1) C dX7_reading_54 (j6_bitCount_0f7a4_ct κ.1.2.1 ad cA D (s7 34 (0 : Int)) s7) gX7_reading_J6_bitCount_0f7a4 rfl ⟨rfl, rfl⟩ (by decide +kernel) (by decide) rfl rfl (Nat.le_of_ble_eq_true rfl) (fun _ => rfl) ?_
        refine j6_bitCount_0f7a4_mono h (fun r9 s8 h => ?_)
        exact r_ireturn C dX7_reading_57 h
      · have h := h.2.2 c10
        refine r_ldc (z := -100002) C dX7_reading_34 w_x7_reading_66 rfl ?_
        exact r_ireturn C dX7_reading_36 h
  · have h := h.2.2 c12
    refine r_ldc (z := -100001) C dX7_reading_11 w_x7_reading_80 rfl ?_
    exact r_ireturn C dX7_reading_13 h
theorem x7_reading_ct (l : Launch) (ad : Nat → Nat) (cA : Nat → ClassId) (D : va_G) (p1 : Int) (p2 : Int) (p3 : Int) (s : Mem) : MG l yX7_reading wsX7_reading x7_reading_rm ocI [.ref (ad 0), vI p1, vI p2, vI p3] (GA ad cA D) s (x7_reading p1 p2 p3 s) :=
  m_met (own := RX7) (nL := 4) (by decide) rfl rfl (Nat.le_of_ble_eq_true rfl) rfl rfl rfl (fun κ hl C Q Pst hW hQ => x7_reading_bd C (x7_reading_mono hW hQ))

def x7_forget  (s : Mem) (Q : Int → Mem → Prop) : Prop :=
  j6_bitCount_0f7a4 (s 34 (0 : Int)) s (fun r2 s1 => ∀ s3 : Mem, s3 = m_upd s1 34 (0 : Int) (0 : Int) → Q r2 s3)
theorem x7_forget_mono {Q R : Int → Mem → Prop}  {s : Mem} (h : x7_forget  s Q) (hQ : ∀ r s, Q r s → R r s) : x7_forget  s R :=
  j6_bitCount_0f7a4_mono h (fun r2 s1 h => fun s3 e_s3 => have h := h s3 e_s3; hQ _ _ h)
def x7_forget_rm : Room := { frames := 1, cells := 0, slots := 0, locals := 20 }
theorem w_x7_forget_47 : Cond.fieldLink RX7 47 "BoltRing" "readings" "LBoltRing$Readings;" ∈ wsX7_forget := by decide +kernel
theorem w_x7_forget_73 : Cond.fieldLink RX7 73 "BoltRing$Readings" "told" "I" ∈ wsX7_forget := by decide +kernel
theorem in_x7_forget_X6 : ∀ w ∈ wsX60, w ∈ wsX7_forget := by decide +kernel
theorem in_x7_forget_X7 : ∀ w ∈ wsX70, w ∈ wsX7_forget := by decide +kernel
set_option maxHeartbeats 4000000 in
set_option maxRecDepth 100000 in
theorem x7_forget_bd {κ : KT} {ad : Nat → Nat} {cA : Nat → ClassId} {D : va_G} {Q : State → Prop}  {s : Mem} (C : CX κ (GA ad cA D) RX7 cX7_forget 2 wsX7_forget x7_forget_rm (some .int)) (h : x7_forget  s (RT κ (GA ad cA D) ocI Q)) : WM κ (GA ad cA D) 2 Q s 0 [(0, .ref (ad 0))] [] := by
  refine r_aload_n C 0 dX7_forget_0 rfl ?_
  refine r_get (j := 5) (jz := 5) (v := .ref (ad 34)) C dX7_forget_1 (shA_0) rfl rfl (by decide) in_x7_forget_X7 w_x7_forget_47 rfl rfl rfl ?_
  refine r_get (j := 0) (jz := 0) (v := vI (s 34 (0 : Int))) C dX7_forget_4 (shA_34) rfl rfl (by decide) in_x7_forget_X6 w_x7_forget_73 rfl rfl rfl ?_
  refine r_callS (As := [vI (s 34 (0 : Int))]) (n := 1) C dX7_forget_7 (j6_bitCount_0f7a4_ct κ.1.2.1 ad cA D (s 34 (0 : Int)) s) gX7_forget_J6_bitCount_0f7a4 rfl ⟨rfl, rfl⟩ (by decide +kernel) (by decide) rfl rfl (Nat.le_of_ble_eq_true rfl) (fun _ => rfl) ?_
  refine j6_bitCount_0f7a4_mono h (fun r2 s1 h => ?_)
  refine r_istore_n (ls' := [(1, vI r2), (0, .ref (ad 0))]) C dX7_forget_10 rfl (by decide) rfl ?_
  refine r_aload_n C 1 dX7_forget_11 rfl ?_
  refine r_get (j := 5) (jz := 5) (v := .ref (ad 34)) C dX7_forget_12 (shA_0) rfl rfl (by decide) in_x7_forget_X7 w_x7_forget_47 rfl rfl rfl ?_
  refine r_iconst C dX7_forget_15 ?_
  refine r_puti (j := 0) (jz := 0) C dX7_forget_16 (shA_34) rfl rfl (by decide) in_x7_forget_X6 tyX6 tyX6_ok nmX6 w_x7_forget_73 rfl rfl (by decide +kernel) rfl (fun s3 e_s3 => ?_)
  have h := h s3 e_s3
  refine r_iload_n C 0 dX7_forget_19 rfl ?_
  exact r_ireturn C dX7_forget_20 h
theorem x7_forget_ct (l : Launch) (ad : Nat → Nat) (cA : Nat → ClassId) (D : va_G)  (s : Mem) : MG l yX7_forget wsX7_forget x7_forget_rm ocI [.ref (ad 0)] (GA ad cA D) s (x7_forget  s) :=
  m_met (own := RX7) (nL := 2) (by decide) rfl rfl (Nat.le_of_ble_eq_true rfl) rfl rfl rfl (fun κ hl C Q Pst hW hQ => x7_forget_bd C (x7_forget_mono hW hQ))

def x7_fit  (s : Mem) (Q : Int → Mem → Prop) : Prop :=
  x6_agree s (fun r2 s1 => x7_asNumber r2 s1 (fun r4 s3 => Q r4 s3))
theorem x7_fit_mono {Q R : Int → Mem → Prop}  {s : Mem} (h : x7_fit  s Q) (hQ : ∀ r s, Q r s → R r s) : x7_fit  s R :=
  x6_agree_mono h (fun r2 s1 h => x7_asNumber_mono h (fun r4 s3 h => hQ _ _ h))
def x7_fit_rm : Room := { frames := 4, cells := 0, slots := 0, locals := 131 }
theorem w_x7_fit_47 : Cond.fieldLink RX7 47 "BoltRing" "readings" "LBoltRing$Readings;" ∈ wsX7_fit := by decide +kernel
theorem w_x7_fit_10 : Cond.fieldLink RX7 10 "BoltRing" "ring" "LBoltRing$Joint;" ∈ wsX7_fit := by decide +kernel
theorem w_x7_fit_19 : Cond.fieldLink RX7 19 "BoltRing" "lifts" "LBoltRing$Lifts;" ∈ wsX7_fit := by decide +kernel
theorem in_x7_fit_X7 : ∀ w ∈ wsX70, w ∈ wsX7_fit := by decide +kernel
set_option maxHeartbeats 4000000 in
set_option maxRecDepth 100000 in
theorem x7_fit_bd {κ : KT} {ad : Nat → Nat} {cA : Nat → ClassId} {D : va_G} {Q : State → Prop}  {s : Mem} (C : CX κ (GA ad cA D) RX7 cX7_fit 1 wsX7_fit x7_fit_rm (some .int)) (h : x7_fit  s (RT κ (GA ad cA D) ocI Q)) : WM κ (GA ad cA D) 1 Q s 0 [(0, .ref (ad 0))] [] := by
  refine r_aload_n C 0 dX7_fit_0 rfl ?_
  refine r_get (j := 5) (jz := 5) (v := .ref (ad 34)) C dX7_fit_1 (shA_0) rfl rfl (by decide) in_x7_fit_X7 w_x7_fit_47 rfl rfl rfl ?_
  refine r_aload_n C 0 dX7_fit_4 rfl ?_
  refine r_get (j := 0) (jz := 0) (v := .ref (ad 1)) C dX7_fit_5 (shA_0) rfl rfl (by decide) in_x7_fit_X7 w_x7_fit_10 rfl rfl rfl ?_
  refine r_aload_n C 0 dX7_fit_8 rfl ?_
  refine r_get (j := 1) (jz := 1) (v := .ref (ad 7)) C dX7_fit_9 (shA_0) rfl rfl (by decide) in_x7_fit_X7 w_x7_fit_19 rfl rfl rfl ?_
  refine r_callV (As := [.ref (ad 1), .ref (ad 7)]) (o := 34) (n := 2) C dX7_fit_12 (x6_agree_ct κ.1.2.1 ad cA D s) gX7_fit_X6_agree rfl ⟨rfl, rfl⟩ (by decide +kernel) (by decide) (shA_34) rfl rfl rfl (Nat.le_of_ble_eq_true rfl) (fun _ => rfl) ?_
  refine x6_agree_mono h (fun r2 s1 h => ?_)
  refine r_callS (As := [vI r2]) (n := 1) C dX7_fit_15 (x7_asNumber_ct κ.1.2.1 ad cA D r2 s1) gX7_fit_X7_asNumber rfl ⟨rfl, rfl⟩ (by decide +kernel) (by decide) rfl rfl (Nat.le_of_ble_eq_true rfl) (fun _ => rfl) ?_
  refine x7_asNumber_mono h (fun r4 s3 h => ?_)
  exact r_ireturn C dX7_fit_18 h
theorem x7_fit_ct (l : Launch) (ad : Nat → Nat) (cA : Nat → ClassId) (D : va_G)  (s : Mem) : MG l yX7_fit wsX7_fit x7_fit_rm ocI [.ref (ad 0)] (GA ad cA D) s (x7_fit  s) :=
  m_met (own := RX7) (nL := 1) (by decide) rfl rfl (Nat.le_of_ble_eq_true rfl) rfl rfl rfl (fun κ hl C Q Pst hW hQ => x7_fit_bd C (x7_fit_mono hW hQ))

def x7_suspect (p1 : Int) (s : Mem) (Q : Int → Mem → Prop) : Prop :=
  x6_suspectAt p1 s (fun r2 s1 => Q r2 s1)
theorem x7_suspect_mono {Q R : Int → Mem → Prop} {p1 : Int} {s : Mem} (h : x7_suspect p1 s Q) (hQ : ∀ r s, Q r s → R r s) : x7_suspect p1 s R :=
  x6_suspectAt_mono h (fun r2 s1 h => hQ _ _ h)
def x7_suspect_rm : Room := { frames := 6, cells := 0, slots := 0, locals := 183 }
theorem w_x7_suspect_47 : Cond.fieldLink RX7 47 "BoltRing" "readings" "LBoltRing$Readings;" ∈ wsX7_suspect := by decide +kernel
theorem w_x7_suspect_10 : Cond.fieldLink RX7 10 "BoltRing" "ring" "LBoltRing$Joint;" ∈ wsX7_suspect := by decide +kernel
theorem w_x7_suspect_19 : Cond.fieldLink RX7 19 "BoltRing" "lifts" "LBoltRing$Lifts;" ∈ wsX7_suspect := by decide +kernel
theorem in_x7_suspect_X7 : ∀ w ∈ wsX70, w ∈ wsX7_suspect := by decide +kernel
set_option maxHeartbeats 4000000 in
set_option maxRecDepth 100000 in
theorem x7_suspect_bd {κ : KT} {ad : Nat → Nat} {cA : Nat → ClassId} {D : va_G} {Q : State → Prop} {p1 : Int} {s : Mem} (C : CX κ (GA ad cA D) RX7 cX7_suspect 2 wsX7_suspect x7_suspect_rm (some .int)) (h : x7_suspect p1 s (RT κ (GA ad cA D) ocI Q)) : WM κ (GA ad cA D) 2 Q s 0 [(0, .ref (ad 0)), (1, vI p1)] [] := by
  refine r_aload_n C 0 dX7_suspect_0 rfl ?_
  refine r_get (j := 5) (jz := 5) (v := .ref (ad 34)) C dX7_suspect_1 (shA_0) rfl rfl (by decide) in_x7_suspect_X7 w_x7_suspect_47 rfl rfl rfl ?_
  refine r_aload_n C 0 dX7_suspect_4 rfl ?_
  refine r_get (j := 0) (jz := 0) (v := .ref (ad 1)) C dX7_suspect_5 (shA_0) rfl rfl (by decide) in_x7_suspect_X7 w_x7_suspect_10 rfl rfl rfl ?_
  refine r_aload_n C 0 dX7_suspect_8 rfl ?_
  refine r_get (j := 1) (jz := 1) (v := .ref (ad 7)) C dX7_suspect_9 (shA_0) rfl rfl (by decide) in_x7_suspect_X7 w_x7_suspect_19 rfl rfl rfl ?_
  refine r_iload_n C 1 dX7_suspect_12 rfl ?_
  refine r_callV (As := [.ref (ad 1), .ref (ad 7), vI p1]) (o := 34) (n := 3) C dX7_suspect_13 (x6_suspectAt_ct κ.1.2.1 ad cA D p1 s) gX7_suspect_X6_suspectAt rfl ⟨rfl, rfl⟩ (by decide +kernel) (by decide) (shA_34) rfl rfl rfl (Nat.le_of_ble_eq_true rfl) (fun _ => rfl) ?_
  refine x6_suspectAt_mono h (fun r2 s1 h => ?_)
  exact r_ireturn C dX7_suspect_16 h
theorem x7_suspect_ct (l : Launch) (ad : Nat → Nat) (cA : Nat → ClassId) (D : va_G) (p1 : Int) (s : Mem) : MG l yX7_suspect wsX7_suspect x7_suspect_rm ocI [.ref (ad 0), vI p1] (GA ad cA D) s (x7_suspect p1 s) :=
  m_met (own := RX7) (nL := 2) (by decide) rfl rfl (Nat.le_of_ble_eq_true rfl) rfl rfl rfl (fun κ hl C Q Pst hW hQ => x7_suspect_bd C (x7_suspect_mono hW hQ))

def x7_feed (p1 : Int) (p2 : Int) (s : Mem) (Q : Int → Mem → Prop) : Prop :=
  x7_within p1 (1 : Int) (8 : Int) s (fun r2 s1 => InI r2 ∧ (¬ r2 = (0 : Int) → (InI ((s1 37 (0 : Int)) + p1) ∧ InI (160 : Int)) ∧ (((s1 37 (0 : Int)) + p1) ≤ (160 : Int) → x5_append p1 p2 s1 (fun _ s3 => Q (s3 37 (0 : Int)) s3)) ∧ ((160 : Int) < ((s1 37 (0 : Int)) + p1) → Q (-100004 : Int) s1)) ∧ (r2 = (0 : Int) → Q (-100002 : Int) s1))
theorem x7_feed_mono {Q R : Int → Mem → Prop} {p1 : Int} {p2 : Int} {s : Mem} (h : x7_feed p1 p2 s Q) (hQ : ∀ r s, Q r s → R r s) : x7_feed p1 p2 s R :=
  x7_within_mono h (fun r2 s1 h => ⟨h.1, fun c => have h := h.2.1 c; ⟨h.1, fun c => have h := h.2.1 c; x5_append_mono h (fun _ s3 h => hQ _ _ h), fun c => have h := h.2.2 c; hQ _ _ h⟩, fun c => have h := h.2.2 c; hQ _ _ h⟩)
def x7_feed_rm : Room := { frames := 1, cells := 0, slots := 0, locals := 24 }
theorem w_x7_feed_54 : Cond.fieldLink RX7 54 "BoltRing" "orders" "LBoltRing$Orders;" ∈ wsX7_feed := by decide +kernel
theorem w_x7_feed_167 : Cond.fieldLink RX7 167 "BoltRing$Orders" "length" "I" ∈ wsX7_feed := by decide +kernel
theorem w_x7_feed_216 : Cond.constant RX7 216 (-100004) ∈ wsX7_feed := by decide +kernel
theorem w_x7_feed_66 : Cond.constant RX7 66 (-100002) ∈ wsX7_feed := by decide +kernel
theorem in_x7_feed_X5 : ∀ w ∈ wsX50, w ∈ wsX7_feed := by decide +kernel
theorem in_x7_feed_X7 : ∀ w ∈ wsX70, w ∈ wsX7_feed := by decide +kernel
set_option maxHeartbeats 4000000 in
set_option maxRecDepth 100000 in
theorem x7_feed_bd {κ : KT} {ad : Nat → Nat} {cA : Nat → ClassId} {D : va_G} {Q : State → Prop} {p1 : Int} {p2 : Int} {s : Mem} (C : CX κ (GA ad cA D) RX7 cX7_feed 4 wsX7_feed x7_feed_rm (some .int)) (h : x7_feed p1 p2 s (RT κ (GA ad cA D) ocI Q)) : WM κ (GA ad cA D) 4 Q s 0 [(0, .ref (ad 0)), (1, vI p1), (2, vL p2)] [] := by
  refine r_iload_n C 1 dX7_feed_0 rfl ?_
  refine r_iconst C dX7_feed_1 ?_
  refine r_bipush C dX7_feed_2 (by decide) ?_
  refine r_callS (As := [vI p1, vI (1 : Int), vI (8 : Int)]) (n := 3) C dX7_feed_4 (x7_within_ct κ.1.2.1 ad cA D p1 (1 : Int) (8 : Int) s) gX7_feed_X7_within rfl ⟨rfl, rfl⟩ (by decide +kernel) (by decide) rfl rfl (Nat.le_of_ble_eq_true rfl) (fun _ => rfl) ?_
  refine x7_within_mono h (fun r2 s1 h => ?_)
  refine r_if_ne (tgt := 13) C dX7_feed_7 (by decide) ⟨h.1, fun c5 => ?_, fun c5 => ?_⟩
  · have h := h.2.1 c5
    refine r_aload_n C 0 dX7_feed_13 rfl ?_
    refine r_get (j := 6) (jz := 6) (v := .ref (ad 37)) C dX7_feed_14 (shA_0) rfl rfl (by decide) in_x7_feed_X7 w_x7_feed_54 rfl rfl rfl ?_
    refine r_get (j := 0) (jz := 0) (v := vI (s1 37 (0 : Int))) C dX7_feed_17 (shA_37) rfl rfl (by decide) in_x7_feed_X5 w_x7_feed_167 rfl rfl rfl ?_
    refine r_iload_n C 1 dX7_feed_20 rfl ?_
    refine r_iadd C dX7_feed_21 ?_
    refine r_sipush C dX7_feed_22 (by decide) ?_
    refine r_icmp_le (tgt := 31) C dX7_feed_25 (by decide) ⟨h.1, fun c4 => ?_, fun c4 => ?_⟩
    · have h := h.2.1 c4
      refine r_aload_n C 0 dX7_feed_31 rfl ?_
      refine r_get (j := 6) (jz := 6) (v := .ref (ad 37)) C dX7_feed_32 (shA_0) rfl rfl (by decide) in_x7_feed_X7 w_x7_feed_54 rfl rfl rfl ?_
      refine r_iload_n C 1 dX7_feed_35 rfl ?_
      refine r_lload_n C 2 dX7_feed_36 rfl ?_
      refine r_callV (As := [vI p1, vL p2]) (o := 37) (n := 2) C dX7_feed_37 (x5_append_ct κ.1.2.1 ad cA D p1 p2 s1) gX7_feed_X5_append rfl ⟨rfl, rfl⟩ (by decide +kernel) (by decide) (shA_37) rfl rfl rfl (Nat.le_of_ble_eq_true rfl) (fun _ => rfl) ?_
      refine x5_append_mono h (fun _ s3 h => ?_)
      refine r_aload_n C 0 dX7_feed_40 rfl ?_
      refine r_get (j := 6) (jz := 6) (v := .ref (ad 37)) C dX7_feed_41 (shA_0) rfl rfl (by decide) in_x7_feed_X7 w_x7_feed_54 rfl rfl rfl ?_
      refine r_get (j := 0) (jz := 0) (v := vI (s3 37 (0 : Int))) C dX7_feed_44 (shA_37) rfl rfl (by decide) in_x7_feed_X5 w_x7_feed_167 rfl rfl rfl ?_
      exact r_ireturn C dX7_feed_47 h
    · have h := h.2.2 c4
      refine r_ldc (z := -100004) C dX7_feed_28 w_x7_feed_216 rfl ?_
      exact r_ireturn C dX7_feed_30 h
  · have h := h.2.2 c5
    refine r_ldc (z := -100002) C dX7_feed_10 w_x7_feed_66 rfl ?_
    exact r_ireturn C dX7_feed_12 h
theorem x7_feed_ct (l : Launch) (ad : Nat → Nat) (cA : Nat → ClassId) (D : va_G) (p1 : Int) (p2 : Int) (s : Mem) : MG l yX7_feed wsX7_feed x7_feed_rm ocI [.ref (ad 0), vI p1, vL p2] (GA ad cA D) s (x7_feed p1 p2 s) :=
  m_met (own := RX7) (nL := 4) (by decide) rfl rfl (Nat.le_of_ble_eq_true rfl) rfl rfl rfl (fun κ hl C Q Pst hW hQ => x7_feed_bd C (x7_feed_mono hW hQ))

def x7_carryOut (p1 : Int) (s : Mem) (Q : Int → Mem → Prop) : Prop :=
  ((0 : Int) ≤ p1 ∧ p1 < 12) ∧ ((0 : Int) ≤ p1 ∧ p1 < 12) ∧ ((0 : Int) ≤ p1 ∧ p1 < 12) ∧ InI (s 38 p1) ∧ (((s 38 p1) = 0) → x2_isBroken (s 39 p1) s (fun r3 s2 => InI r3 ∧ (¬ r3 = (0 : Int) → ((0 : Int) ≤ (0 : Int) ∧ (0 : Int) ≤ 1) ∧ Q (0 : Int) s2) ∧ (r3 = (0 : Int) → x1_drawBolt (s 39 p1) (s 40 p1) s2 (fun r5 s4 => (InI r5 ∧ InI (-1 : Int)) ∧ (r5 = (-1 : Int) → ((0 : Int) ≤ (0 : Int) ∧ (0 : Int) ≤ 1) ∧ Q (0 : Int) s4) ∧ (¬ r5 = (-1 : Int) → ((0 : Int) ≤ (1 : Int) ∧ (1 : Int) ≤ 1) ∧ Q (1 : Int) s4))))) ∧ (((s 38 p1) = 1) → x1_goRound 6 (s 39 p1) s (fun r9 s8 => (InI r9 ∧ InI (-1 : Int)) ∧ (r9 = (-1 : Int) → ((0 : Int) ≤ (0 : Int) ∧ (0 : Int) ≤ 1) ∧ Q (0 : Int) s8) ∧ (¬ r9 = (-1 : Int) → ((0 : Int) ≤ (1 : Int) ∧ (1 : Int) ≤ 1) ∧ Q (1 : Int) s8))) ∧ (((s 38 p1) = 2) → ((0 : Int) ≤ (s 39 p1) ∧ (s 39 p1) < 6) ∧ ∀ s11 : Mem, s11 = m_upd s 5 (s 39 p1) (s 40 p1) → ((0 : Int) ≤ (1 : Int) ∧ (1 : Int) ≤ 1) ∧ Q (1 : Int) s11) ∧ (((s 38 p1) = 3) → x2_isBroken (s 39 p1) s (fun r13 s12 => InI r13 ∧ (¬ r13 = (0 : Int) → ((0 : Int) ≤ (0 : Int) ∧ (0 : Int) ≤ 1) ∧ Q (0 : Int) s12) ∧ (r13 = (0 : Int) → x7_broken (s 39 p1) (1 : Int) s12 (fun r15 s14 => (InI r15 ∧ InI (-100003 : Int)) ∧ (r15 = (-100003 : Int) → ((0 : Int) ≤ (0 : Int) ∧ (0 : Int) ≤ 1) ∧ Q (0 : Int) s14) ∧ (¬ r15 = (-100003 : Int) → ((0 : Int) ≤ (1 : Int) ∧ (1 : Int) ≤ 1) ∧ Q (1 : Int) s14))))) ∧ (((s 38 p1) = 4) → x7_broken (s 39 p1) (0 : Int) s (fun r19 s18 => (InI r19 ∧ InI (1 : Int)) ∧ (¬ r19 = (1 : Int) → ((0 : Int) ≤ (0 : Int) ∧ (0 : Int) ≤ 1) ∧ Q (0 : Int) s18) ∧ (r19 = (1 : Int) → ((0 : Int) ≤ (1 : Int) ∧ (1 : Int) ≤ 1) ∧ Q (1 : Int) s18))) ∧ (((s 38 p1) < 0 ∨ 4 < (s 38 p1)) → x2_takeRow (s 39 p1) s (fun r22 s21 => ((0 : Int) ≤ r22 ∧ r22 ≤ 1) ∧ Q r22 s21))
theorem x7_carryOut_mono {Q R : Int → Mem → Prop} {p1 : Int} {s : Mem} (h : x7_carryOut p1 s Q) (hQ : ∀ r s, Q r s → R r s) : x7_carryOut p1 s R :=
  ⟨h.1, have h := h.2; ⟨h.1, have h := h.2; ⟨h.1, have h := h.2; ⟨h.1, fun c => have h := h.2.1 c; x2_isBroken_mono h (fun r3 s2 h => ⟨h.1, fun c => have h := h.2.1 c; ⟨h.1, hQ _ _ h.2⟩, fun c => have h := h.2.2 c; x1_drawBolt_mono h (fun r5 s4 h => ⟨h.1, fun c => have h := h.2.1 c; ⟨h.1, hQ _ _ h.2⟩, fun c => have h := h.2.2 c; ⟨h.1, hQ _ _ h.2⟩⟩)⟩), fun c => have h := h.2.2.1 c; x1_goRound_mono h (fun r9 s8 h => ⟨h.1, fun c => have h := h.2.1 c; ⟨h.1, hQ _ _ h.2⟩, fun c => have h := h.2.2 c; ⟨h.1, hQ _ _ h.2⟩⟩), fun c => have h := h.2.2.2.1 c; ⟨h.1, have h := h.2; fun s11 e_s11 => have h := h s11 e_s11; ⟨h.1, hQ _ _ h.2⟩⟩, fun c => have h := h.2.2.2.2.1 c; x2_isBroken_mono h (fun r13 s12 h => ⟨h.1, fun c => have h := h.2.1 c; ⟨h.1, hQ _ _ h.2⟩, fun c => have h := h.2.2 c; x7_broken_mono h (fun r15 s14 h => ⟨h.1, fun c => have h := h.2.1 c; ⟨h.1, hQ _ _ h.2⟩, fun c => have h := h.2.2 c; ⟨h.1, hQ _ _ h.2⟩⟩)⟩), fun c => have h := h.2.2.2.2.2.1 c; x7_broken_mono h (fun r19 s18 h => ⟨h.1, fun c => have h := h.2.1 c; ⟨h.1, hQ _ _ h.2⟩, fun c => have h := h.2.2 c; ⟨h.1, hQ _ _ h.2⟩⟩), fun c => have h := h.2.2.2.2.2.2 c; x2_takeRow_mono h (fun r22 s21 h => ⟨h.1, hQ _ _ h.2⟩)⟩⟩⟩⟩
def x7_carryOut_rm : Room := { frames := 4, cells := 0, slots := 0, locals := 119 }
theorem w_x7_carryOut_54 : Cond.fieldLink RX7 54 "BoltRing" "orders" "LBoltRing$Orders;" ∈ wsX7_carryOut := by decide +kernel
theorem w_x7_carryOut_280 : Cond.fieldLink RX7 280 "BoltRing$Orders" "firsts" "[I" ∈ wsX7_carryOut := by decide +kernel
theorem w_x7_carryOut_283 : Cond.fieldLink RX7 283 "BoltRing$Orders" "seconds" "[I" ∈ wsX7_carryOut := by decide +kernel
theorem w_x7_carryOut_286 : Cond.fieldLink RX7 286 "BoltRing$Orders" "kinds" "[I" ∈ wsX7_carryOut := by decide +kernel
theorem w_x7_carryOut_10 : Cond.fieldLink RX7 10 "BoltRing" "ring" "LBoltRing$Joint;" ∈ wsX7_carryOut := by decide +kernel
theorem w_x7_carryOut_26 : Cond.fieldLink RX7 26 "BoltRing" "drawing" "LBoltRing$Drawing;" ∈ wsX7_carryOut := by decide +kernel
theorem w_x7_carryOut_180 : Cond.fieldLink RX7 180 "BoltRing$Joint" "order" "[I" ∈ wsX7_carryOut := by decide +kernel
theorem w_x7_carryOut_108 : Cond.fieldLink RX7 108 "BoltRing$Joint" "loads" "[I" ∈ wsX7_carryOut := by decide +kernel
theorem w_x7_carryOut_99 : Cond.constant RX7 99 (-100003) ∈ wsX7_carryOut := by decide +kernel
theorem in_x7_carryOut_X2 : ∀ w ∈ wsX20, w ∈ wsX7_carryOut := by decide +kernel
theorem in_x7_carryOut_X5 : ∀ w ∈ wsX50, w ∈ wsX7_carryOut := by decide +kernel
theorem in_x7_carryOut_X7 : ∀ w ∈ wsX70, w ∈ wsX7_carryOut := by decide +kernel
set_option maxHeartbeats 4000000 in
set_option maxRecDepth 100000 in
theorem x7_carryOut_bd {κ : KT} {ad : Nat → Nat} {cA : Nat → ClassId} {D : va_G} {Q : State → Prop} {p1 : Int} {s : Mem} (C : CX κ (GA ad cA D) RX7 cX7_carryOut 4 wsX7_carryOut x7_carryOut_rm (some .boolean)) (h : x7_carryOut p1 s (RT κ (GA ad cA D) ocI Q)) : WM κ (GA ad cA D) 4 Q s 0 [(0, .ref (ad 0)), (1, vI p1)] [] := by
  refine r_aload_n C 0 dX7_carryOut_0 rfl ?_
  refine r_get (j := 6) (jz := 6) (v := .ref (ad 37)) C dX7_carryOut_1 (shA_0) rfl rfl (by decide) in_x7_carryOut_X7 w_x7_carryOut_54 rfl rfl rfl ?_
  refine r_get (j := 5) (jz := 5) (v := .ref (ad 39)) C dX7_carryOut_4 (shA_37) rfl rfl (by decide) in_x7_carryOut_X5 w_x7_carryOut_280 rfl rfl rfl ?_
  refine r_iload_n C 1 dX7_carryOut_7 rfl ?_
  refine r_iald (nz := 12) C dX7_carryOut_8 (shA_39) rfl (by decide) ⟨h.1, ?_⟩
  have h := h.2
  refine r_istore_n (ls' := [(2, vI (s 39 p1)), (0, .ref (ad 0)), (1, vI p1)]) C dX7_carryOut_9 rfl (by decide) rfl ?_
  refine r_aload_n C 1 dX7_carryOut_10 rfl ?_
  refine r_get (j := 6) (jz := 6) (v := .ref (ad 37)) C dX7_carryOut_11 (shA_0) rfl rfl (by decide) in_x7_carryOut_X7 w_x7_carryOut_54 rfl rfl rfl ?_
  refine r_get (j := 6) (jz := 6) (v := .ref (ad 40)) C dX7_carryOut_14 (shA_37) rfl rfl (by decide) in_x7_carryOut_X5 w_x7_carryOut_283 rfl rfl rfl ?_
  refine r_iload_n C 2 dX7_carryOut_17 rfl ?_
  refine r_iald (nz := 12) C dX7_carryOut_18 (shA_40) rfl (by decide) ⟨h.1, ?_⟩
  have h := h.2
  refine r_istore_n (ls' := [(3, vI (s 40 p1)), (2, vI (s 39 p1)), (0, .ref (ad 0)), (1, vI p1)]) C dX7_carryOut_19 rfl (by decide) rfl ?_
  refine r_aload_n C 2 dX7_carryOut_20 rfl ?_
  refine r_get (j := 6) (jz := 6) (v := .ref (ad 37)) C dX7_carryOut_21 (shA_0) rfl rfl (by decide) in_x7_carryOut_X7 w_x7_carryOut_54 rfl rfl rfl ?_
  refine r_get (j := 4) (jz := 4) (v := .ref (ad 38)) C dX7_carryOut_24 (shA_37) rfl rfl (by decide) in_x7_carryOut_X5 w_x7_carryOut_286 rfl rfl rfl ?_
  refine r_iload_n C 3 dX7_carryOut_27 rfl ?_
  refine r_iald (nz := 12) C dX7_carryOut_28 (shA_38) rfl (by decide) ⟨h.1, ?_⟩
  have h := h.2
  have hI := h.1
  by_cases c1 : (s 38 p1) = 0
  · have h := h.2.1 c1
    refine r_tsIn (tgt := 64) C 0 dX7_carryOut_29 rfl (by decide) c1 hI (by decide) ?_
    refine r_aload_n C 2 dX7_carryOut_64 rfl ?_
    refine r_get (j := 0) (jz := 0) (v := .ref (ad 1)) C dX7_carryOut_65 (shA_0) rfl rfl (by decide) in_x7_carryOut_X7 w_x7_carryOut_10 rfl rfl rfl ?_
    refine r_iload_n C 1 dX7_carryOut_68 rfl ?_
    refine r_callV (As := [vI (s 39 p1)]) (o := 1) (n := 1) C dX7_carryOut_69 (x2_isBroken_ct κ.1.2.1 ad cA D (s 39 p1) s) gX7_carryOut_X2_isBroken rfl ⟨rfl, rfl⟩ (by decide +kernel) (by decide) (shA_1) rfl rfl rfl (Nat.le_of_ble_eq_true rfl) (fun _ => rfl) ?_
    refine x2_isBroken_mono h (fun r3 s2 h => ?_)
    refine r_if_ne (tgt := 96) C dX7_carryOut_72 (by decide) ⟨h.1, fun c7 => ?_, fun c7 => ?_⟩
    · have h := h.2.1 c7
      refine r_iconst C dX7_carryOut_96 ?_
      exact r_zreturn C dX7_carryOut_97 h
    · have h := h.2.2 c7
      refine r_aload_n C 2 dX7_carryOut_75 rfl ?_
      refine r_get (j := 2) (jz := 2) (v := .ref (ad 13)) C dX7_carryOut_76 (shA_0) rfl rfl (by decide) in_x7_carryOut_X7 w_x7_carryOut_26 rfl rfl rfl ?_
      refine r_aload_n C 2 dX7_carryOut_79 rfl ?_
      refine r_get (j := 0) (jz := 0) (v := .ref (ad 1)) C dX7_carryOut_80 (shA_0) rfl rfl (by decide) in_x7_carryOut_X7 w_x7_carryOut_10 rfl rfl rfl ?_
      refine r_iload_n C 1 dX7_carryOut_83 rfl ?_
      refine r_iload_n C 0 dX7_carryOut_84 rfl ?_
      refine r_callV (As := [.ref (ad 1), vI (s 39 p1), vI (s 40 p1)]) (o := 13) (n := 3) C dX7_carryOut_85 (x1_drawBolt_ct κ.1.2.1 ad cA D (s 39 p1) (s 40 p1) s2) gX7_carryOut_X1_drawBolt rfl ⟨rfl, rfl⟩ (by decide +kernel) (by decide) (shA_13) rfl rfl rfl (Nat.le_of_ble_eq_true rfl) (fun _ => rfl) ?_
      refine x1_drawBolt_mono h (fun r5 s4 h => ?_)
      refine r_iconst C dX7_carryOut_88 ?_
      refine r_icmp_eq (tgt := 96) C dX7_carryOut_89 (by decide) ⟨h.1, fun c6 => ?_, fun c6 => ?_⟩
      · have h := h.2.1 c6
        refine r_iconst C dX7_carryOut_96 ?_
        exact r_zreturn C dX7_carryOut_97 h
      · have h := h.2.2 c6
        refine r_iconst C dX7_carryOut_92 ?_
        refine r_goto (tgt := 97) C dX7_carryOut_93 (by decide) ?_
        exact r_zreturn C dX7_carryOut_97 h
  by_cases c1 : (s 38 p1) = 1
  · have h := h.2.2.1 c1
    refine r_tsIn (tgt := 98) C 1 dX7_carryOut_29 rfl (by decide) c1 hI (by decide) ?_
    refine r_aload_n C 2 dX7_carryOut_98 rfl ?_
    refine r_get (j := 2) (jz := 2) (v := .ref (ad 13)) C dX7_carryOut_99 (shA_0) rfl rfl (by decide) in_x7_carryOut_X7 w_x7_carryOut_26 rfl rfl rfl ?_
    refine r_aload_n C 2 dX7_carryOut_102 rfl ?_
    refine r_get (j := 0) (jz := 0) (v := .ref (ad 1)) C dX7_carryOut_103 (shA_0) rfl rfl (by decide) in_x7_carryOut_X7 w_x7_carryOut_10 rfl rfl rfl ?_
    refine r_aload_n C 2 dX7_carryOut_106 rfl ?_
    refine r_get (j := 0) (jz := 0) (v := .ref (ad 1)) C dX7_carryOut_107 (shA_0) rfl rfl (by decide) in_x7_carryOut_X7 w_x7_carryOut_10 rfl rfl rfl ?_
    refine r_get (j := 7) (jz := 7) (v := .ref (ad 6)) C dX7_carryOut_110 (shA_1) rfl rfl (by decide) in_x7_carryOut_X2 w_x7_carryOut_180 rfl rfl rfl ?_
    refine r_iload_n C 1 dX7_carryOut_113 rfl ?_
    refine r_callV (As := [.ref (ad 1), .ref (ad 6), vI (s 39 p1)]) (o := 13) (n := 3) C dX7_carryOut_114 (x1_goRound_ct κ.1.2.1 ad cA D 6 (s 39 p1) s) gX7_carryOut_X1_goRound rfl ⟨rfl, rfl⟩ (by decide +kernel) (by decide) (shA_13) rfl rfl rfl (Nat.le_of_ble_eq_true rfl) (fun _ => rfl) ?_
    refine x1_goRound_mono h (fun r9 s8 h => ?_)
    refine r_iconst C dX7_carryOut_117 ?_
    refine r_icmp_eq (tgt := 125) C dX7_carryOut_118 (by decide) ⟨h.1, fun c10 => ?_, fun c10 => ?_⟩
    · have h := h.2.1 c10
      refine r_iconst C dX7_carryOut_125 ?_
      exact r_zreturn C dX7_carryOut_126 h
    · have h := h.2.2 c10
      refine r_iconst C dX7_carryOut_121 ?_
      refine r_goto (tgt := 126) C dX7_carryOut_122 (by decide) ?_
      exact r_zreturn C dX7_carryOut_126 h
  by_cases c1 : (s 38 p1) = 2
  · have h := h.2.2.2.1 c1
    refine r_tsIn (tgt := 127) C 2 dX7_carryOut_29 rfl (by decide) c1 hI (by decide) ?_
    refine r_aload_n C 2 dX7_carryOut_127 rfl ?_
    refine r_get (j := 0) (jz := 0) (v := .ref (ad 1)) C dX7_carryOut_128 (shA_0) rfl rfl (by decide) in_x7_carryOut_X7 w_x7_carryOut_10 rfl rfl rfl ?_
    refine r_get (j := 6) (jz := 6) (v := .ref (ad 5)) C dX7_carryOut_131 (shA_1) rfl rfl (by decide) in_x7_carryOut_X2 w_x7_carryOut_108 rfl rfl rfl ?_
    refine r_iload_n C 1 dX7_carryOut_134 rfl ?_
    refine r_iload_n C 0 dX7_carryOut_135 rfl ?_
    refine r_iast (nz := 6) C dX7_carryOut_136 (shA_5) rfl (by decide) ⟨h.1, fun s11 e_s11 => ?_⟩
    have h := h.2 s11 e_s11
    refine r_iconst C dX7_carryOut_137 ?_
    exact r_zreturn C dX7_carryOut_138 h
  by_cases c1 : (s 38 p1) = 3
  · have h := h.2.2.2.2.1 c1
    refine r_tsIn (tgt := 139) C 3 dX7_carryOut_29 rfl (by decide) c1 hI (by decide) ?_
    refine r_aload_n C 2 dX7_carryOut_139 rfl ?_
    refine r_get (j := 0) (jz := 0) (v := .ref (ad 1)) C dX7_carryOut_140 (shA_0) rfl rfl (by decide) in_x7_carryOut_X7 w_x7_carryOut_10 rfl rfl rfl ?_
    refine r_iload_n C 1 dX7_carryOut_143 rfl ?_
    refine r_callV (As := [vI (s 39 p1)]) (o := 1) (n := 1) C dX7_carryOut_144 (x2_isBroken_ct κ.1.2.1 ad cA D (s 39 p1) s) gX7_carryOut_X2_isBroken rfl ⟨rfl, rfl⟩ (by decide +kernel) (by decide) (shA_1) rfl rfl rfl (Nat.le_of_ble_eq_true rfl) (fun _ => rfl) ?_
    refine x2_isBroken_mono h (fun r13 s12 h => ?_)
    refine r_if_ne (tgt := 165) C dX7_carryOut_147 (by decide) ⟨h.1, fun c17 => ?_, fun c17 => ?_⟩
    · have h := h.2.1 c17
      refine r_iconst C dX7_carryOut_165 ?_
      exact r_zreturn C dX7_carryOut_166 h
    · have h := h.2.2 c17
      refine r_aload_n C 2 dX7_carryOut_150 rfl ?_
      refine r_iload_n C 1 dX7_carryOut_151 rfl ?_
      refine r_iconst C dX7_carryOut_152 ?_
      refine r_callV (As := [vI (s 39 p1), vI (1 : Int)]) (o := 0) (n := 2) C dX7_carryOut_153 (x7_broken_ct κ.1.2.1 ad cA D (s 39 p1) (1 : Int) s12) gX7_carryOut_X7_broken rfl ⟨rfl, rfl⟩ (by decide +kernel) (by decide) (shA_0) rfl rfl rfl (Nat.le_of_ble_eq_true rfl) (fun _ => rfl) ?_
      refine x7_broken_mono h (fun r15 s14 h => ?_)
      refine r_ldc (z := -100003) C dX7_carryOut_156 w_x7_carryOut_99 rfl ?_
      refine r_icmp_eq (tgt := 165) C dX7_carryOut_158 (by decide) ⟨h.1, fun c16 => ?_, fun c16 => ?_⟩
      · have h := h.2.1 c16
        refine r_iconst C dX7_carryOut_165 ?_
        exact r_zreturn C dX7_carryOut_166 h
      · have h := h.2.2 c16
        refine r_iconst C dX7_carryOut_161 ?_
        refine r_goto (tgt := 166) C dX7_carryOut_162 (by decide) ?_
        exact r_zreturn C dX7_carryOut_166 h
  by_cases c1 : (s 38 p1) = 4
  · have h := h.2.2.2.2.2.1 c1
    refine r_tsIn (tgt := 167) C 4 dX7_carryOut_29 rfl (by decide) c1 hI (by decide) ?_
    refine r_aload_n C 2 dX7_carryOut_167 rfl ?_
    refine r_iload_n C 1 dX7_carryOut_168 rfl ?_
    refine r_iconst C dX7_carryOut_169 ?_
    refine r_callV (As := [vI (s 39 p1), vI (0 : Int)]) (o := 0) (n := 2) C dX7_carryOut_170 (x7_broken_ct κ.1.2.1 ad cA D (s 39 p1) (0 : Int) s) gX7_carryOut_X7_broken rfl ⟨rfl, rfl⟩ (by decide +kernel) (by decide) (shA_0) rfl rfl rfl (Nat.le_of_ble_eq_true rfl) (fun _ => rfl) ?_
    refine x7_broken_mono h (fun r19 s18 h => ?_)
    refine r_iconst C dX7_carryOut_173 ?_
    refine r_icmp_ne (tgt := 181) C dX7_carryOut_174 (by decide) ⟨h.1, fun c20 => ?_, fun c20 => ?_⟩
    · have h := h.2.1 c20
      refine r_iconst C dX7_carryOut_181 ?_
      exact r_zreturn C dX7_carryOut_182 h
    · have h := h.2.2 c20
      refine r_iconst C dX7_carryOut_177 ?_
      refine r_goto (tgt := 182) C dX7_carryOut_178 (by decide) ?_
      exact r_zreturn C dX7_carryOut_182 h
  have c1d : (s 38 p1) < 0 ∨ 4 < (s 38 p1) := by omega
  have h := h.2.2.2.2.2.2 c1d
  refine r_tsOut (tgt := 183) C dX7_carryOut_29 c1d hI (by decide) ?_
  refine r_aload_n C 2 dX7_carryOut_183 rfl ?_
  refine r_get (j := 0) (jz := 0) (v := .ref (ad 1)) C dX7_carryOut_184 (shA_0) rfl rfl (by decide) in_x7_carryOut_X7 w_x7_carryOut_10 rfl rfl rfl ?_
  refine r_iload_n C 1 dX7_carryOut_187 rfl ?_
  refine r_callV (As := [vI (s 39 p1)]) (o := 1) (n := 1) C dX7_carryOut_188 (x2_takeRow_ct κ.1.2.1 ad cA D (s 39 p1) s) gX7_carryOut_X2_takeRow rfl ⟨rfl, rfl⟩ (by decide +kernel) (by decide) (shA_1) rfl rfl rfl (Nat.le_of_ble_eq_true rfl) (fun _ => rfl) ?_
  refine x2_takeRow_mono h (fun r22 s21 h => ?_)
  exact r_zreturn C dX7_carryOut_191 h
theorem x7_carryOut_ct (l : Launch) (ad : Nat → Nat) (cA : Nat → ClassId) (D : va_G) (p1 : Int) (s : Mem) : MG l yX7_carryOut wsX7_carryOut x7_carryOut_rm ocI [.ref (ad 0), vI p1] (GA ad cA D) s (x7_carryOut p1 s) :=
  m_met (own := RX7) (nL := 4) (by decide) rfl rfl (Nat.le_of_ble_eq_true rfl) rfl rfl rfl (fun κ hl C Q Pst hW hQ => x7_carryOut_bd C (x7_carryOut_mono hW hQ))

def x7_read_be (X45 : Int → Mem → Prop) (Q : Int → Mem → Prop)  (s : Mem) : Prop :=
  x5_understand (s 1 (0 : Int)) s (fun r2 s1 => ∀ s3 : Mem, s3 = m_upd s1 37 (0 : Int) (0 : Int) → ∀ s4 : Mem, s4 = m_upd s3 0 (7 : Int) (0 : Int) → InI r2 ∧ (¬ r2 = (0 : Int) → X45 (0 : Int) s4) ∧ (r2 = (0 : Int) → Q ((-10 : Int) - (s4 37 (1 : Int))) s4))
def x7_read_b45 (X45 : Int → Mem → Prop) (Q : Int → Mem → Prop) (x2 : Int) (s : Mem) : Prop :=
  (InI x2 ∧ InI (s 37 (3 : Int))) ∧ ((s 37 (3 : Int)) ≤ x2 → Q (s 0 (7 : Int)) s) ∧ (x2 < (s 37 (3 : Int)) → x7_carryOut x2 s (fun r7 s6 => InI r7 ∧ (r7 = (0 : Int) → Q (s6 0 (7 : Int)) s6) ∧ (¬ r7 = (0 : Int) → ∀ s8 : Mem, s8 = m_upd s6 0 (7 : Int) ((s6 0 (7 : Int)) + (1 : Int)) → X45 (x2 + (1 : Int)) s8)))
theorem x7_read_me {X45 Y45 : Int → Mem → Prop} {Q R : Int → Mem → Prop} (hX45 : ∀ x2 s, X45 x2 s → Y45 x2 s) (hQ : ∀ r s, Q r s → R r s)  {s : Mem} (h : x7_read_be X45 Q  s) : x7_read_be Y45 R  s :=
  x5_understand_mono h (fun r2 s1 h => fun s3 e_s3 => have h := h s3 e_s3; fun s4 e_s4 => have h := h s4 e_s4; ⟨h.1, fun c => have h := h.2.1 c; hX45 _ _ h, fun c => have h := h.2.2 c; hQ _ _ h⟩)
theorem x7_read_m45 {X45 Y45 : Int → Mem → Prop} {Q R : Int → Mem → Prop} (hX45 : ∀ x2 s, X45 x2 s → Y45 x2 s) (hQ : ∀ r s, Q r s → R r s) {x2 : Int} {s : Mem} (h : x7_read_b45 X45 Q x2 s) : x7_read_b45 Y45 R x2 s :=
  ⟨h.1, fun c => have h := h.2.1 c; hQ _ _ h, fun c => have h := h.2.2 c; x7_carryOut_mono h (fun r7 s6 h => ⟨h.1, fun c => have h := h.2.1 c; hQ _ _ h, fun c => have h := h.2.2 c; fun s8 e_s8 => have h := h s8 e_s8; hX45 _ _ h⟩)⟩
def x7_read  (s : Mem) (Q : Int → Mem → Prop) : Prop := ∀ (X45 : Int → Mem → Prop), (∀ x2 s, x7_read_b45 X45 Q x2 s → X45 x2 s) → x7_read_be X45 Q  s
def x7_read_L45 (Q : Int → Mem → Prop) (x2 : Int) (s : Mem) : Prop := ∀ (X45 : Int → Mem → Prop), (∀ x2 s, x7_read_b45 X45 Q x2 s → X45 x2 s) → X45 x2 s
theorem x7_read_i {Q : Int → Mem → Prop}  {s : Mem} (h : x7_read_be (x7_read_L45 Q) Q  s) : x7_read  s Q := fun X45 k45 => x7_read_me (fun _ _ h => h X45 k45) (fun _ _ h => h) h
theorem x7_read_s45 {Q : Int → Mem → Prop} {x2 : Int} {s : Mem} (h : x7_read_b45 (x7_read_L45 Q) Q x2 s) : x7_read_L45 Q x2 s := fun X45 k45 => k45 _ _ (x7_read_m45 (fun _ _ h => h X45 k45) (fun _ _ h => h) h)
theorem x7_read_mono {Q R : Int → Mem → Prop}  {s : Mem} (h : x7_read  s Q) (hQ : ∀ r s, Q r s → R r s) : x7_read  s R := fun X45 k45 => x7_read_me (fun _ _ h => h) hQ (h X45 (fun _ _ h => k45 _ _ (x7_read_m45 (fun _ _ h => h) hQ h)))
def x7_read_rm : Room := { frames := 10, cells := 0, slots := 0, locals := 217 }
theorem w_x7_read_54 : Cond.fieldLink RX7 54 "BoltRing" "orders" "LBoltRing$Orders;" ∈ wsX7_read := by decide +kernel
theorem w_x7_read_10 : Cond.fieldLink RX7 10 "BoltRing" "ring" "LBoltRing$Joint;" ∈ wsX7_read := by decide +kernel
theorem w_x7_read_142 : Cond.fieldLink RX7 142 "BoltRing$Joint" "bolts" "I" ∈ wsX7_read := by decide +kernel
theorem w_x7_read_167 : Cond.fieldLink RX7 167 "BoltRing$Orders" "length" "I" ∈ wsX7_read := by decide +kernel
theorem w_x7_read_170 : Cond.fieldLink RX7 170 "BoltRing" "clausesDone" "I" ∈ wsX7_read := by decide +kernel
theorem w_x7_read_268 : Cond.fieldLink RX7 268 "BoltRing$Orders" "flaw" "I" ∈ wsX7_read := by decide +kernel
theorem w_x7_read_271 : Cond.fieldLink RX7 271 "BoltRing$Orders" "clauses" "I" ∈ wsX7_read := by decide +kernel
theorem in_x7_read_X2 : ∀ w ∈ wsX20, w ∈ wsX7_read := by decide +kernel
theorem in_x7_read_X5 : ∀ w ∈ wsX50, w ∈ wsX7_read := by decide +kernel
theorem in_x7_read_X7 : ∀ w ∈ wsX70, w ∈ wsX7_read := by decide +kernel
set_option maxHeartbeats 4000000 in
set_option maxRecDepth 100000 in
theorem x7_read_bd {κ : KT} {ad : Nat → Nat} {cA : Nat → ClassId} {D : va_G} {Q : State → Prop}  {s : Mem} (C : CX κ (GA ad cA D) RX7 cX7_read 3 wsX7_read x7_read_rm (some .int)) (h : x7_read  s (RT κ (GA ad cA D) ocI Q)) : WM κ (GA ad cA D) 3 Q s 0 [(0, .ref (ad 0))] [] := by
  obtain ⟨Z45, z45⟩ : ∃ Z : Int → Mem → Prop, ∀ x2 s, Z x2 s ↔ WM κ (GA ad cA D) 3 Q s 45 [(0, .ref (ad 0)), (2, vI x2)] [] := ⟨fun x2 s => WM κ (GA ad cA D) 3 Q s 45 [(0, .ref (ad 0)), (2, vI x2)] [], fun _ _ => Iff.rfl⟩
  refine (fun h => ?_) (h Z45 ?_)
  · refine r_aload_n C 0 dX7_read_0 rfl ?_
    refine r_get (j := 6) (jz := 6) (v := .ref (ad 37)) C dX7_read_1 (shA_0) rfl rfl (by decide) in_x7_read_X7 w_x7_read_54 rfl rfl rfl ?_
    refine r_aload_n C 0 dX7_read_4 rfl ?_
    refine r_get (j := 0) (jz := 0) (v := .ref (ad 1)) C dX7_read_5 (shA_0) rfl rfl (by decide) in_x7_read_X7 w_x7_read_10 rfl rfl rfl ?_
    refine r_get (j := 0) (jz := 0) (v := vI (s 1 (0 : Int))) C dX7_read_8 (shA_1) rfl rfl (by decide) in_x7_read_X2 w_x7_read_142 rfl rfl rfl ?_
    refine r_callV (As := [vI (s 1 (0 : Int))]) (o := 37) (n := 1) C dX7_read_11 (x5_understand_ct κ.1.2.1 ad cA D (s 1 (0 : Int)) s) gX7_read_X5_understand rfl ⟨rfl, rfl⟩ (by decide +kernel) (by decide) (shA_37) rfl rfl rfl (Nat.le_of_ble_eq_true rfl) (fun _ => rfl) ?_
    refine x5_understand_mono h (fun r2 s1 h => ?_)
    refine r_istore_n (ls' := [(1, vI r2), (0, .ref (ad 0))]) C dX7_read_14 rfl (by decide) rfl ?_
    refine r_aload_n C 1 dX7_read_15 rfl ?_
    refine r_get (j := 6) (jz := 6) (v := .ref (ad 37)) C dX7_read_16 (shA_0) rfl rfl (by decide) in_x7_read_X7 w_x7_read_54 rfl rfl rfl ?_
    refine r_iconst C dX7_read_19 ?_
    refine r_puti (j := 0) (jz := 0) C dX7_read_20 (shA_37) rfl rfl (by decide) in_x7_read_X5 tyX5 tyX5_ok nmX5 w_x7_read_167 rfl rfl (by decide +kernel) rfl (fun s3 e_s3 => ?_)
    have h := h s3 e_s3
    refine r_aload_n C 1 dX7_read_23 rfl ?_
    refine r_iconst C dX7_read_24 ?_
    refine r_puti (j := 7) (jz := 7) C dX7_read_25 (shA_0) rfl rfl (by decide) in_x7_read_X7 tyX7 tyX7_ok nmX7 w_x7_read_170 rfl rfl (by decide +kernel) rfl (fun s4 e_s4 => ?_)
    have h := h s4 e_s4
    refine r_iload_n C 0 dX7_read_28 rfl ?_
    refine r_if_ne (tgt := 43) C dX7_read_29 (by decide) ⟨h.1, fun c5 => ?_, fun c5 => ?_⟩
    · have h := h.2.1 c5
      refine r_iconst C dX7_read_43 ?_
      refine r_istore_n (ls' := [(2, vI (0 : Int)), (1, vI r2), (0, .ref (ad 0))]) C dX7_read_44 rfl (by decide) rfl ?_
      exact r_perm [2, 0] rfl ((z45 _ _).1 h)
    · have h := h.2.2 c5
      refine r_bipush C dX7_read_32 (by decide) ?_
      refine r_aload_n C 1 dX7_read_34 rfl ?_
      refine r_get (j := 6) (jz := 6) (v := .ref (ad 37)) C dX7_read_35 (shA_0) rfl rfl (by decide) in_x7_read_X7 w_x7_read_54 rfl rfl rfl ?_
      refine r_get (j := 1) (jz := 1) (v := vI (s4 37 (1 : Int))) C dX7_read_38 (shA_37) rfl rfl (by decide) in_x7_read_X5 w_x7_read_268 rfl rfl rfl ?_
      refine r_isub C dX7_read_41 ?_
      exact r_ireturn C dX7_read_42 h
  · intro x2 s h
    refine (z45 _ _).2 ?_
    refine r_iload_n C 1 dX7_read_45 rfl ?_
    refine r_aload_n C 0 dX7_read_46 rfl ?_
    refine r_get (j := 6) (jz := 6) (v := .ref (ad 37)) C dX7_read_47 (shA_0) rfl rfl (by decide) in_x7_read_X7 w_x7_read_54 rfl rfl rfl ?_
    refine r_get (j := 3) (jz := 3) (v := vI (s 37 (3 : Int))) C dX7_read_50 (shA_37) rfl rfl (by decide) in_x7_read_X5 w_x7_read_271 rfl rfl rfl ?_
    refine r_icmp_ge (tgt := 80) C dX7_read_53 (by decide) ⟨h.1, fun c10 => ?_, fun c10 => ?_⟩
    · have h := h.2.1 c10
      refine r_aload_n C 0 dX7_read_80 rfl ?_
      refine r_get (j := 7) (jz := 7) (v := vI (s 0 (7 : Int))) C dX7_read_81 (shA_0) rfl rfl (by decide) in_x7_read_X7 w_x7_read_170 rfl rfl rfl ?_
      exact r_ireturn C dX7_read_84 h
    · have h := h.2.2 c10
      refine r_aload_n C 0 dX7_read_56 rfl ?_
      refine r_iload_n C 1 dX7_read_57 rfl ?_
      refine r_callV (As := [vI x2]) (o := 0) (n := 1) C dX7_read_58 (x7_carryOut_ct κ.1.2.1 ad cA D x2 s) gX7_read_X7_carryOut rfl ⟨rfl, rfl⟩ (by decide +kernel) (by decide) (shA_0) rfl rfl rfl (Nat.le_of_ble_eq_true rfl) (fun _ => rfl) ?_
      refine x7_carryOut_mono h (fun r7 s6 h => ?_)
      refine r_if_eq (tgt := 80) C dX7_read_61 (by decide) ⟨h.1, fun c9 => ?_, fun c9 => ?_⟩
      · have h := h.2.1 c9
        refine r_aload_n C 0 dX7_read_80 rfl ?_
        refine r_get (j := 7) (jz := 7) (v := vI (s6 0 (7 : Int))) C dX7_read_81 (shA_0) rfl rfl (by decide) in_x7_read_X7 w_x7_read_170 rfl rfl rfl ?_
        exact r_ireturn C dX7_read_84 h
      · have h := h.2.2 c9
        refine r_aload_n C 0 dX7_read_64 rfl ?_
        refine r_dup C dX7_read_65 rfl ?_
        refine r_get (j := 7) (jz := 7) (v := vI (s6 0 (7 : Int))) C dX7_read_66 (shA_0) rfl rfl (by decide) in_x7_read_X7 w_x7_read_170 rfl rfl rfl ?_
        refine r_iconst C dX7_read_69 ?_
        refine r_iadd C dX7_read_70 ?_
        refine r_puti (j := 7) (jz := 7) C dX7_read_71 (shA_0) rfl rfl (by decide) in_x7_read_X7 tyX7 tyX7_ok nmX7 w_x7_read_170 rfl rfl (by decide +kernel) rfl (fun s8 e_s8 => ?_)
        have h := h s8 e_s8
        refine r_iinc (j := 1) (ls' := [(2, vI (x2 + (1 : Int))), (0, .ref (ad 0))]) C dX7_read_74 rfl (by decide) rfl ?_
        refine r_goto (tgt := 45) C dX7_read_77 (by decide) ?_
        exact r_perm [1, 0] rfl ((z45 _ _).1 h)
theorem x7_read_ct (l : Launch) (ad : Nat → Nat) (cA : Nat → ClassId) (D : va_G)  (s : Mem) : MG l yX7_read wsX7_read x7_read_rm ocI [.ref (ad 0)] (GA ad cA D) s (x7_read  s) :=
  m_met (own := RX7) (nL := 3) (by decide) rfl rfl (Nat.le_of_ble_eq_true rfl) rfl rfl rfl (fun κ hl C Q Pst hW hQ => x7_read_bd C (x7_read_mono hW hQ))

def x7_fault  (s : Mem) (Q : Int → Mem → Prop) : Prop :=
  Q (s 37 (2 : Int)) s
theorem x7_fault_mono {Q R : Int → Mem → Prop}  {s : Mem} (h : x7_fault  s Q) (hQ : ∀ r s, Q r s → R r s) : x7_fault  s R :=
  hQ _ _ h
def x7_fault_rm : Room := { frames := 0, cells := 0, slots := 0, locals := 0 }
theorem w_x7_fault_54 : Cond.fieldLink RX7 54 "BoltRing" "orders" "LBoltRing$Orders;" ∈ wsX7_fault := by decide +kernel
theorem w_x7_fault_277 : Cond.fieldLink RX7 277 "BoltRing$Orders" "flawAt" "I" ∈ wsX7_fault := by decide +kernel
theorem in_x7_fault_X5 : ∀ w ∈ wsX50, w ∈ wsX7_fault := by decide +kernel
theorem in_x7_fault_X7 : ∀ w ∈ wsX70, w ∈ wsX7_fault := by decide +kernel
set_option maxHeartbeats 4000000 in
set_option maxRecDepth 100000 in
theorem x7_fault_bd {κ : KT} {ad : Nat → Nat} {cA : Nat → ClassId} {D : va_G} {Q : State → Prop}  {s : Mem} (C : CX κ (GA ad cA D) RX7 cX7_fault 1 wsX7_fault x7_fault_rm (some .int)) (h : x7_fault  s (RT κ (GA ad cA D) ocI Q)) : WM κ (GA ad cA D) 1 Q s 0 [(0, .ref (ad 0))] [] := by
  refine r_aload_n C 0 dX7_fault_0 rfl ?_
  refine r_get (j := 6) (jz := 6) (v := .ref (ad 37)) C dX7_fault_1 (shA_0) rfl rfl (by decide) in_x7_fault_X7 w_x7_fault_54 rfl rfl rfl ?_
  refine r_get (j := 2) (jz := 2) (v := vI (s 37 (2 : Int))) C dX7_fault_4 (shA_37) rfl rfl (by decide) in_x7_fault_X5 w_x7_fault_277 rfl rfl rfl ?_
  exact r_ireturn C dX7_fault_7 h
theorem x7_fault_ct (l : Launch) (ad : Nat → Nat) (cA : Nat → ClassId) (D : va_G)  (s : Mem) : MG l yX7_fault wsX7_fault x7_fault_rm ocI [.ref (ad 0)] (GA ad cA D) s (x7_fault  s) :=
  m_met (own := RX7) (nL := 1) (by decide) rfl rfl (Nat.le_of_ble_eq_true rfl) rfl rfl rfl (fun κ hl C Q Pst hW hQ => x7_fault_bd C (x7_fault_mono hW hQ))
