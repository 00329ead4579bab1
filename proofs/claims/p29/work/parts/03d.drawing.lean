def x1_keepTurns  (s : Mem) (Q : Int → Mem → Prop) : Prop :=
  ((0 ≤ (0 : Int) ∧ 0 ≤ (0 : Int) ∧ 0 ≤ (6 : Int)) ∧ (0 : Int) + (6 : Int) ≤ 6 ∧ (0 : Int) + (6 : Int) ≤ 6) ∧ ∀ s1 : Mem, s1 = m_cpy s 4 20 (0 : Int) (0 : Int) (6 : Int) → Q (0 : Int) s1
theorem x1_keepTurns_mono {Q R : Int → Mem → Prop}  {s : Mem} (h : x1_keepTurns  s Q) (hQ : ∀ r s, Q r s → R r s) : x1_keepTurns  s R :=
  ⟨h.1, have h := h.2; fun s1 e_s1 => have h := h s1 e_s1; hQ _ _ h⟩
def x1_keepTurns_rm : Room := { frames := 1, cells := 0, slots := 0, locals := 60 }
theorem w_x1_keepTurns_28 : Cond.fieldLink RX1 28 "BoltRing$Joint" "turns" "[I" ∈ wsX1_keepTurns := by decide +kernel
theorem w_x1_keepTurns_18 : Cond.fieldLink RX1 18 "BoltRing$Drawing" "kept" "[I" ∈ wsX1_keepTurns := by decide +kernel
theorem w_x1_keepTurns_l33 : Cond.methodLink RX1 33 arraycopyName ∈ wsX1_keepTurns := by decide +kernel
theorem w_x1_keepTurns_ac1 : Cond.native arraycopyName ∈ wsX1_keepTurns := by decide +kernel
theorem w_x1_keepTurns_ac2 : Cond.static arraycopyName ∈ wsX1_keepTurns := by decide +kernel
theorem w_x1_keepTurns_ac3 : Cond.initialized "java/lang/System" ∈ wsX1_keepTurns := by decide +kernel
theorem in_x1_keepTurns_X1 : ∀ w ∈ wsX10, w ∈ wsX1_keepTurns := by decide +kernel
theorem in_x1_keepTurns_X2 : ∀ w ∈ wsX20, w ∈ wsX1_keepTurns := by decide +kernel
set_option maxHeartbeats 4000000 in
set_option maxRecDepth 100000 in
theorem x1_keepTurns_bd {κ : KT} {ad : Nat → Nat} {cA : Nat → ClassId} {D : va_G} {Q : State → Prop}  {s : Mem} (C : CX κ (GA ad cA D) RX1 cX1_keepTurns 2 wsX1_keepTurns x1_keepTurns_rm none) (h : x1_keepTurns  s (RT κ (GA ad cA D) ocV Q)) : WM κ (GA ad cA D) 2 Q s 0 [(0, .ref (ad 13)), (1, .ref (ad 1))] [] := by
  refine r_aload_n C 1 dX1_keepTurns_0 rfl ?_
  refine r_get (j := 5) (jz := 5) (v := .ref (ad 4)) C dX1_keepTurns_1 (shA_1) rfl rfl (by decide) in_x1_keepTurns_X2 w_x1_keepTurns_28 rfl rfl rfl ?_
  refine r_iconst C dX1_keepTurns_4 ?_
  refine r_aload_n C 0 dX1_keepTurns_5 rfl ?_
  refine r_get (j := 4) (jz := 4) (v := .ref (ad 20)) C dX1_keepTurns_6 (shA_13) rfl rfl (by decide) in_x1_keepTurns_X1 w_x1_keepTurns_18 rfl rfl rfl ?_
  refine r_iconst C dX1_keepTurns_9 ?_
  refine r_bipush C dX1_keepTurns_10 (by decide) ?_
  refine r_copyi (n0z := 6) (n1z := 6) C dX1_keepTurns_12 w_x1_keepTurns_l33 w_x1_keepTurns_ac1 w_x1_keepTurns_ac2 w_x1_keepTurns_ac3 (shA_4) (shA_20) rfl rfl (by decide) (by decide) (by decide) (Nat.le_of_ble_eq_true rfl) ⟨h.1, fun s1 e_s1 => ?_⟩
  have h := h.2 s1 e_s1
  exact r_return C dX1_keepTurns_15 h
theorem x1_keepTurns_ct (l : Launch) (ad : Nat → Nat) (cA : Nat → ClassId) (D : va_G)  (s : Mem) : MG l yX1_keepTurns wsX1_keepTurns x1_keepTurns_rm ocV [.ref (ad 13), .ref (ad 1)] (GA ad cA D) s (x1_keepTurns  s) :=
  m_met (own := RX1) (nL := 2) (by decide) rfl rfl (Nat.le_of_ble_eq_true rfl) rfl rfl rfl (fun κ hl C Q Pst hW hQ => x1_keepTurns_bd C (x1_keepTurns_mono hW hQ))

def x1_allHold_be (X14 : Int → Int → Mem → Prop) (Q : Int → Mem → Prop) (p2 : Int) (s : Mem) : Prop :=
  x3_settle 14 5 s (fun _ s1 => X14 p2 (0 : Int) s1)
def x1_allHold_b14 (X14 : Int → Int → Mem → Prop) (Q : Int → Mem → Prop) (x2 : Int) (x3 : Int) (s : Mem) : Prop :=
  (InI x3 ∧ InI (s 1 (0 : Int))) ∧ ((s 1 (0 : Int)) ≤ x3 → ((0 : Int) ≤ (1 : Int) ∧ (1 : Int) ≤ 1) ∧ Q (1 : Int) s) ∧ (x3 < (s 1 (0 : Int)) → x2_isBroken x3 s (fun r3 s2 => InI r3 ∧ (¬ r3 = (0 : Int) → X14 x2 (x3 + (1 : Int)) s2) ∧ (r3 = (0 : Int) → x3_pullUpper 14 x3 s2 (fun r5 s4 => (InI x2) ∧ (InL r5 ∧ InL ((s4 14 (1 : Int)) * x2)) ∧ (((s4 14 (1 : Int)) * x2) ≤ r5 → X14 x2 (x3 + (1 : Int)) s4) ∧ (r5 < ((s4 14 (1 : Int)) * x2) → ((0 : Int) ≤ (0 : Int) ∧ (0 : Int) ≤ 1) ∧ Q (0 : Int) s4)))))
theorem x1_allHold_me {X14 Y14 : Int → Int → Mem → Prop} {Q R : Int → Mem → Prop} (hX14 : ∀ x2 x3 s, X14 x2 x3 s → Y14 x2 x3 s) (hQ : ∀ r s, Q r s → R r s) {p2 : Int} {s : Mem} (h : x1_allHold_be X14 Q p2 s) : x1_allHold_be Y14 R p2 s :=
  x3_settle_mono h (fun _ s1 h => hX14 _ _ _ h)
theorem x1_allHold_m14 {X14 Y14 : Int → Int → Mem → Prop} {Q R : Int → Mem → Prop} (hX14 : ∀ x2 x3 s, X14 x2 x3 s → Y14 x2 x3 s) (hQ : ∀ r s, Q r s → R r s) {x2 : Int} {x3 : Int} {s : Mem} (h : x1_allHold_b14 X14 Q x2 x3 s) : x1_allHold_b14 Y14 R x2 x3 s :=
  ⟨h.1, fun c => have h := h.2.1 c; ⟨h.1, hQ _ _ h.2⟩, fun c => have h := h.2.2 c; x2_isBroken_mono h (fun r3 s2 h => ⟨h.1, fun c => have h := h.2.1 c; hX14 _ _ _ h, fun c => have h := h.2.2 c; x3_pullUpper_mono h (fun r5 s4 h => ⟨h.1, have h := h.2; ⟨h.1, fun c => have h := h.2.1 c; hX14 _ _ _ h, fun c => have h := h.2.2 c; ⟨h.1, hQ _ _ h.2⟩⟩⟩)⟩)⟩
def x1_allHold (p2 : Int) (s : Mem) (Q : Int → Mem → Prop) : Prop := ∀ (X14 : Int → Int → Mem → Prop), (∀ x2 x3 s, x1_allHold_b14 X14 Q x2 x3 s → X14 x2 x3 s) → x1_allHold_be X14 Q p2 s
def x1_allHold_L14 (Q : Int → Mem → Prop) (x2 : Int) (x3 : Int) (s : Mem) : Prop := ∀ (X14 : Int → Int → Mem → Prop), (∀ x2 x3 s, x1_allHold_b14 X14 Q x2 x3 s → X14 x2 x3 s) → X14 x2 x3 s
theorem x1_allHold_i {Q : Int → Mem → Prop} {p2 : Int} {s : Mem} (h : x1_allHold_be (x1_allHold_L14 Q) Q p2 s) : x1_allHold p2 s Q := fun X14 k14 => x1_allHold_me (fun _ _ _ h => h X14 k14) (fun _ _ h => h) h
theorem x1_allHold_s14 {Q : Int → Mem → Prop} {x2 : Int} {x3 : Int} {s : Mem} (h : x1_allHold_b14 (x1_allHold_L14 Q) Q x2 x3 s) : x1_allHold_L14 Q x2 x3 s := fun X14 k14 => k14 _ _ _ (x1_allHold_m14 (fun _ _ _ h => h X14 k14) (fun _ _ h => h) h)
theorem x1_allHold_mono {Q R : Int → Mem → Prop} {p2 : Int} {s : Mem} (h : x1_allHold p2 s Q) (hQ : ∀ r s, Q r s → R r s) : x1_allHold p2 s R := fun X14 k14 => x1_allHold_me (fun _ _ _ h => h) hQ (h X14 (fun _ _ _ h => k14 _ _ _ (x1_allHold_m14 (fun _ _ _ h => h) hQ h)))
def x1_allHold_rm : Room := { frames := 3, cells := 0, slots := 0, locals := 85 }
theorem w_x1_allHold_12 : Cond.fieldLink RX1 12 "BoltRing$Drawing" "lifts" "LBoltRing$Lifts;" ∈ wsX1_allHold := by decide +kernel
theorem w_x1_allHold_43 : Cond.fieldLink RX1 43 "BoltRing$Joint" "loads" "[I" ∈ wsX1_allHold := by decide +kernel
theorem w_x1_allHold_76 : Cond.fieldLink RX1 76 "BoltRing$Joint" "bolts" "I" ∈ wsX1_allHold := by decide +kernel
theorem w_x1_allHold_61 : Cond.fieldLink RX1 61 "BoltRing$Lifts" "lower" "J" ∈ wsX1_allHold := by decide +kernel
theorem in_x1_allHold_X1 : ∀ w ∈ wsX10, w ∈ wsX1_allHold := by decide +kernel
theorem in_x1_allHold_X2 : ∀ w ∈ wsX20, w ∈ wsX1_allHold := by decide +kernel
theorem in_x1_allHold_X3 : ∀ w ∈ wsX30, w ∈ wsX1_allHold := by decide +kernel
set_option maxHeartbeats 4000000 in
set_option maxRecDepth 100000 in
theorem x1_allHold_bd {κ : KT} {ad : Nat → Nat} {cA : Nat → ClassId} {D : va_G} {Q : State → Prop} {p2 : Int} {s : Mem} (C : CX κ (GA ad cA D) RX1 cX1_allHold 4 wsX1_allHold x1_allHold_rm (some .boolean)) (h : x1_allHold p2 s (RT κ (GA ad cA D) ocI Q)) : WM κ (GA ad cA D) 4 Q s 0 [(0, .ref (ad 13)), (1, .ref (ad 1)), (2, vI p2)] [] := by
  obtain ⟨Z14, z14⟩ : ∃ Z : Int → Int → Mem → Prop, ∀ x2 x3 s, Z x2 x3 s ↔ WM κ (GA ad cA D) 4 Q s 14 [(0, .ref (ad 13)), (1, .ref (ad 1)), (2, vI x2), (3, vI x3)] [] := ⟨fun x2 x3 s => WM κ (GA ad cA D) 4 Q s 14 [(0, .ref (ad 13)), (1, .ref (ad 1)), (2, vI x2), (3, vI x3)] [], fun _ _ _ => Iff.rfl⟩
  refine (fun h => ?_) (h Z14 ?_)
  · refine r_aload_n C 0 dX1_allHold_0 rfl ?_
    refine r_get (j := 3) (jz := 3) (v := .ref (ad 14)) C dX1_allHold_1 (shA_13) rfl rfl (by decide) in_x1_allHold_X1 w_x1_allHold_12 rfl rfl rfl ?_
    refine r_aload_n C 1 dX1_allHold_4 rfl ?_
    refine r_aload_n C 1 dX1_allHold_5 rfl ?_
    refine r_get (j := 6) (jz := 6) (v := .ref (ad 5)) C dX1_allHold_6 (shA_1) rfl rfl (by decide) in_x1_allHold_X2 w_x1_allHold_43 rfl rfl rfl ?_
    refine r_callV (As := [.ref (ad 1), .ref (ad 5)]) (o := 14) (n := 2) C dX1_allHold_9 (x3_settle_ct κ.1.2.1 ad cA D 14 5 s (Or.inr rfl)) gX1_allHold_X3_settle rfl ⟨rfl, rfl⟩ (by decide +kernel) (by decide) (shA_14) rfl rfl rfl (Nat.le_of_ble_eq_true rfl) (fun _ => rfl) ?_
    refine x3_settle_mono h (fun _ s1 h => ?_)
    refine r_iconst C dX1_allHold_12 ?_
    refine r_istore_n (ls' := [(3, vI (0 : Int)), (0, .ref (ad 13)), (1, .ref (ad 1)), (2, vI p2)]) C dX1_allHold_13 rfl (by decide) rfl ?_
    exact r_perm [1, 2, 3, 0] rfl ((z14 _ _ _).1 h)
  · intro x2 x3 s h
    refine (z14 _ _ _).2 ?_
    refine r_iload_n C 3 dX1_allHold_14 rfl ?_
    refine r_aload_n C 1 dX1_allHold_15 rfl ?_
    refine r_get (j := 0) (jz := 0) (v := vI (s 1 (0 : Int))) C dX1_allHold_16 (shA_1) rfl rfl (by decide) in_x1_allHold_X2 w_x1_allHold_76 rfl rfl rfl ?_
    refine r_icmp_ge (tgt := 61) C dX1_allHold_19 (by decide) ⟨h.1, fun c8 => ?_, fun c8 => ?_⟩
    · have h := h.2.1 c8
      refine r_iconst C dX1_allHold_61 ?_
      exact r_zreturn C dX1_allHold_62 h
    · have h := h.2.2 c8
      refine r_aload_n C 1 dX1_allHold_22 rfl ?_
      refine r_iload_n C 3 dX1_allHold_23 rfl ?_
      refine r_callV (As := [vI x3]) (o := 1) (n := 1) C dX1_allHold_24 (x2_isBroken_ct κ.1.2.1 ad cA D x3 s) gX1_allHold_X2_isBroken rfl ⟨rfl, rfl⟩ (by decide +kernel) (by decide) (shA_1) rfl rfl rfl (Nat.le_of_ble_eq_true rfl) (fun _ => rfl) ?_
      refine x2_isBroken_mono h (fun r3 s2 h => ?_)
      refine r_if_ne (tgt := 55) C dX1_allHold_27 (by decide) ⟨h.1, fun c7 => ?_, fun c7 => ?_⟩
      · have h := h.2.1 c7
        refine r_iinc (j := 3) (ls' := [(3, vI (x3 + (1 : Int))), (0, .ref (ad 13)), (1, .ref (ad 1)), (2, vI x2)]) C dX1_allHold_55 rfl (by decide) rfl ?_
        refine r_goto (tgt := 14) C dX1_allHold_58 (by decide) ?_
        exact r_perm [1, 2, 3, 0] rfl ((z14 _ _ _).1 h)
      · have h := h.2.2 c7
        refine r_aload_n C 0 dX1_allHold_30 rfl ?_
        refine r_get (j := 3) (jz := 3) (v := .ref (ad 14)) C dX1_allHold_31 (shA_13) rfl rfl (by decide) in_x1_allHold_X1 w_x1_allHold_12 rfl rfl rfl ?_
        refine r_aload_n C 1 dX1_allHold_34 rfl ?_
        refine r_iload_n C 3 dX1_allHold_35 rfl ?_
        refine r_callV (As := [.ref (ad 1), vI x3]) (o := 14) (n := 2) C dX1_allHold_36 (x3_pullUpper_ct κ.1.2.1 ad cA D 14 x3 s2 (Or.inr rfl)) gX1_allHold_X3_pullUpper rfl ⟨rfl, rfl⟩ (by decide +kernel) (by decide) (shA_14) rfl rfl rfl (Nat.le_of_ble_eq_true rfl) (fun _ => rfl) ?_
        refine x3_pullUpper_mono h (fun r5 s4 h => ?_)
        refine r_aload_n C 0 dX1_allHold_39 rfl ?_
        refine r_get (j := 3) (jz := 3) (v := .ref (ad 14)) C dX1_allHold_40 (shA_13) rfl rfl (by decide) in_x1_allHold_X1 w_x1_allHold_12 rfl rfl rfl ?_
        refine r_get (j := 1) (jz := 1) (v := vL (s4 14 (1 : Int))) C dX1_allHold_43 (shA_14) rfl rfl (by decide) in_x1_allHold_X3 w_x1_allHold_61 rfl rfl rfl ?_
        refine r_iload_n C 2 dX1_allHold_46 rfl ?_
        refine r_i2l C dX1_allHold_47 ⟨h.1, ?_⟩
        have h := h.2
        refine r_lmul C dX1_allHold_48 ?_
        refine r_lcmp_ge (tgt := 55) C dX1_allHold_49 dX1_allHold_50 (by decide) ⟨h.1, fun c6 => ?_, fun c6 => ?_⟩
        · have h := h.2.1 c6
          refine r_iinc (j := 3) (ls' := [(3, vI (x3 + (1 : Int))), (0, .ref (ad 13)), (1, .ref (ad 1)), (2, vI x2)]) C dX1_allHold_55 rfl (by decide) rfl ?_
          refine r_goto (tgt := 14) C dX1_allHold_58 (by decide) ?_
          exact r_perm [1, 2, 3, 0] rfl ((z14 _ _ _).1 h)
        · have h := h.2.2 c6
          refine r_iconst C dX1_allHold_53 ?_
          exact r_zreturn C dX1_allHold_54 h
theorem x1_allHold_ct (l : Launch) (ad : Nat → Nat) (cA : Nat → ClassId) (D : va_G) (p2 : Int) (s : Mem) : MG l yX1_allHold wsX1_allHold x1_allHold_rm ocI [.ref (ad 13), .ref (ad 1), vI p2] (GA ad cA D) s (x1_allHold p2 s) :=
  m_met (own := RX1) (nL := 4) (by decide) rfl rfl (Nat.le_of_ble_eq_true rfl) rfl rfl rfl (fun κ hl C Q Pst hW hQ => x1_allHold_bd C (x1_allHold_mono hW hQ))

def x1_drawBolt_be (X22 : Int → Int → Mem → Prop) (Q : Int → Mem → Prop) (p2 : Int) (p3 : Int) (s : Mem) : Prop :=
  x2_wholeCount s (fun r2 s1 => (InI r2 ∧ InI (1 : Int)) ∧ (¬ r2 = (1 : Int) → X22 p2 p3 s1) ∧ (r2 = (1 : Int) → x2_sumOf 5 s1 (fun r4 s3 => (InI r4 ∧ InI p3) ∧ (r4 < p3 → X22 p2 p3 s3) ∧ (p3 ≤ r4 → Q (0 : Int) s3))))
def x1_drawBolt_b22 (X22 : Int → Int → Mem → Prop) (Q : Int → Mem → Prop) (x2 : Int) (x3 : Int) (s : Mem) : Prop :=
  x3_settleHolding 14 5 x2 x3 s (fun _ s7 => ((0 : Int) ≤ x2 ∧ x2 < 6) ∧ (InI (s7 2 x2)) ∧ ((0 : Int) ≤ x2 ∧ x2 < 6) ∧ (InI x3) ∧ ∀ v8 : Int, v8 = (((s7 2 x2) * (s7 15 x2)) + (x3 * (s7 14 (1 : Int)))) → x7_wholeFrom v8 ((s7 2 x2) * (s7 14 (1 : Int))) s7 (fun r10 s9 => ((0 : Int) ≤ x2 ∧ x2 < 6) ∧ (InI (s9 4 x2)) ∧ (InL (0 : Int) ∧ InL (r10 - (s9 4 x2))) ∧ ∀ v11 : Int, v11 = (if (r10 - (s9 4 x2)) < (0 : Int) then (0 : Int) else (r10 - (s9 4 x2))) → ((0 : Int) ≤ x2 ∧ x2 < 6) ∧ (InI (s9 4 x2)) ∧ (InL ((s9 4 x2) + v11) ∧ InL (200 : Int)) ∧ (((s9 4 x2) + v11) ≤ (200 : Int) → ((0 : Int) ≤ x2 ∧ x2 < 6) ∧ ((0 : Int) ≤ x2 ∧ x2 < 6) ∧ ∀ s12 : Mem, s12 = m_upd s9 4 x2 ((s9 4 x2) + v11) → Q v11 s12) ∧ ((200 : Int) < ((s9 4 x2) + v11) → Q (-1 : Int) s9)))
theorem x1_drawBolt_me {X22 Y22 : Int → Int → Mem → Prop} {Q R : Int → Mem → Prop} (hX22 : ∀ x2 x3 s, X22 x2 x3 s → Y22 x2 x3 s) (hQ : ∀ r s, Q r s → R r s) {p2 : Int} {p3 : Int} {s : Mem} (h : x1_drawBolt_be X22 Q p2 p3 s) : x1_drawBolt_be Y22 R p2 p3 s :=
  x2_wholeCount_mono h (fun r2 s1 h => ⟨h.1, fun c => have h := h.2.1 c; hX22 _ _ _ h, fun c => have h := h.2.2 c; x2_sumOf_mono h (fun r4 s3 h => ⟨h.1, fun c => have h := h.2.1 c; hX22 _ _ _ h, fun c => have h := h.2.2 c; hQ _ _ h⟩)⟩)
theorem x1_drawBolt_m22 {X22 Y22 : Int → Int → Mem → Prop} {Q R : Int → Mem → Prop} (hX22 : ∀ x2 x3 s, X22 x2 x3 s → Y22 x2 x3 s) (hQ : ∀ r s, Q r s → R r s) {x2 : Int} {x3 : Int} {s : Mem} (h : x1_drawBolt_b22 X22 Q x2 x3 s) : x1_drawBolt_b22 Y22 R x2 x3 s :=
  x3_settleHolding_mono h (fun _ s7 h => ⟨h.1, have h := h.2; ⟨h.1, have h := h.2; ⟨h.1, have h := h.2; ⟨h.1, have h := h.2; fun v8 e_v8 => have h := h v8 e_v8; x7_wholeFrom_mono h (fun r10 s9 h => ⟨h.1, have h := h.2; ⟨h.1, have h := h.2; ⟨h.1, have h := h.2; fun v11 e_v11 => have h := h v11 e_v11; ⟨h.1, have h := h.2; ⟨h.1, have h := h.2; ⟨h.1, fun c => have h := h.2.1 c; ⟨h.1, have h := h.2; ⟨h.1, have h := h.2; fun s12 e_s12 => have h := h s12 e_s12; hQ _ _ h⟩⟩, fun c => have h := h.2.2 c; hQ _ _ h⟩⟩⟩⟩⟩⟩)⟩⟩⟩⟩)
def x1_drawBolt (p2 : Int) (p3 : Int) (s : Mem) (Q : Int → Mem → Prop) : Prop := ∀ (X22 : Int → Int → Mem → Prop), (∀ x2 x3 s, x1_drawBolt_b22 X22 Q x2 x3 s → X22 x2 x3 s) → x1_drawBolt_be X22 Q p2 p3 s
def x1_drawBolt_L22 (Q : Int → Mem → Prop) (x2 : Int) (x3 : Int) (s : Mem) : Prop := ∀ (X22 : Int → Int → Mem → Prop), (∀ x2 x3 s, x1_drawBolt_b22 X22 Q x2 x3 s → X22 x2 x3 s) → X22 x2 x3 s
theorem x1_drawBolt_i {Q : Int → Mem → Prop} {p2 : Int} {p3 : Int} {s : Mem} (h : x1_drawBolt_be (x1_drawBolt_L22 Q) Q p2 p3 s) : x1_drawBolt p2 p3 s Q := fun X22 k22 => x1_drawBolt_me (fun _ _ _ h => h X22 k22) (fun _ _ h => h) h
theorem x1_drawBolt_s22 {Q : Int → Mem → Prop} {x2 : Int} {x3 : Int} {s : Mem} (h : x1_drawBolt_b22 (x1_drawBolt_L22 Q) Q x2 x3 s) : x1_drawBolt_L22 Q x2 x3 s := fun X22 k22 => k22 _ _ _ (x1_drawBolt_m22 (fun _ _ _ h => h X22 k22) (fun _ _ h => h) h)
theorem x1_drawBolt_mono {Q R : Int → Mem → Prop} {p2 : Int} {p3 : Int} {s : Mem} (h : x1_drawBolt p2 p3 s Q) (hQ : ∀ r s, Q r s → R r s) : x1_drawBolt p2 p3 s R := fun X22 k22 => x1_drawBolt_me (fun _ _ _ h => h) hQ (h X22 (fun _ _ _ h => k22 _ _ _ (x1_drawBolt_m22 (fun _ _ _ h => h) hQ h)))
def x1_drawBolt_rm : Room := { frames := 2, cells := 0, slots := 0, locals := 63 }
theorem w_x1_drawBolt_43 : Cond.fieldLink RX1 43 "BoltRing$Joint" "loads" "[I" ∈ wsX1_drawBolt := by decide +kernel
theorem w_x1_drawBolt_12 : Cond.fieldLink RX1 12 "BoltRing$Drawing" "lifts" "LBoltRing$Lifts;" ∈ wsX1_drawBolt := by decide +kernel
theorem w_x1_drawBolt_54 : Cond.fieldLink RX1 54 "BoltRing$Joint" "stiffness" "[I" ∈ wsX1_drawBolt := by decide +kernel
theorem w_x1_drawBolt_57 : Cond.fieldLink RX1 57 "BoltRing$Lifts" "upper" "[J" ∈ wsX1_drawBolt := by decide +kernel
theorem w_x1_drawBolt_61 : Cond.fieldLink RX1 61 "BoltRing$Lifts" "lower" "J" ∈ wsX1_drawBolt := by decide +kernel
theorem w_x1_drawBolt_28 : Cond.fieldLink RX1 28 "BoltRing$Joint" "turns" "[I" ∈ wsX1_drawBolt := by decide +kernel
theorem w_x1_drawBolt_l69 : Cond.methodLink RX1 69 Lib.MathLoose.max_long.x ∈ wsX1_drawBolt := by decide +kernel
theorem w_x1_drawBolt_s69 : Cond.static Lib.MathLoose.max_long.x ∈ wsX1_drawBolt := by decide +kernel
theorem w_x1_drawBolt_im : Cond.initialized "java/lang/Math" ∈ wsX1_drawBolt := by decide +kernel
theorem w_x1_drawBolt_c69 : Cond.code Lib.MathLoose.max_long.x Lib.MathLoose.max_long.code 4 (some .long) ∈ wsX1_drawBolt := by decide +kernel
theorem w_x1_drawBolt_74 : Cond.constantLong RX1 74 (200) ∈ wsX1_drawBolt := by decide +kernel
theorem w_x1_drawBolt_s65 : Cond.static yX7_wholeFrom ∈ wsX1_drawBolt := by decide +kernel
theorem w_x1_drawBolt_iX7 : Cond.initialized RX7 ∈ wsX1_drawBolt := by decide +kernel
theorem in_x1_drawBolt_X1 : ∀ w ∈ wsX10, w ∈ wsX1_drawBolt := by decide +kernel
theorem in_x1_drawBolt_X2 : ∀ w ∈ wsX20, w ∈ wsX1_drawBolt := by decide +kernel
theorem in_x1_drawBolt_X3 : ∀ w ∈ wsX30, w ∈ wsX1_drawBolt := by decide +kernel
set_option maxHeartbeats 4000000 in
set_option maxRecDepth 100000 in
theorem x1_drawBolt_bd {κ : KT} {ad : Nat → Nat} {cA : Nat → ClassId} {D : va_G} {Q : State → Prop} {p2 : Int} {p3 : Int} {s : Mem} (C : CX κ (GA ad cA D) RX1 cX1_drawBolt 10 wsX1_drawBolt x1_drawBolt_rm (some .int)) (h : x1_drawBolt p2 p3 s (RT κ (GA ad cA D) ocI Q)) : WM κ (GA ad cA D) 10 Q s 0 [(0, .ref (ad 13)), (1, .ref (ad 1)), (2, vI p2), (3, vI p3)] [] := by
  obtain ⟨Z22, z22⟩ : ∃ Z : Int → Int → Mem → Prop, ∀ x2 x3 s, Z x2 x3 s ↔ WM κ (GA ad cA D) 10 Q s 22 [(0, .ref (ad 13)), (1, .ref (ad 1)), (2, vI x2), (3, vI x3)] [] := ⟨fun x2 x3 s => WM κ (GA ad cA D) 10 Q s 22 [(0, .ref (ad 13)), (1, .ref (ad 1)), (2, vI x2), (3, vI x3)] [], fun _ _ _ => Iff.rfl⟩
  refine (fun h => ?_) (h Z22 ?_)
  · refine r_aload_n C 1 dX1_drawBolt_0 rfl ?_
    refine r_callV (As := []) (o := 1) (n := 0) C dX1_drawBolt_1 (x2_wholeCount_ct κ.1.2.1 ad cA D s) gX1_drawBolt_X2_wholeCount rfl ⟨rfl, rfl⟩ (by decide +kernel) (by decide) (shA_1) rfl rfl rfl (Nat.le_of_ble_eq_true rfl) (fun _ => rfl) ?_
    refine x2_wholeCount_mono h (fun r2 s1 h => ?_)
    refine r_iconst C dX1_drawBolt_4 ?_
    refine r_icmp_ne (tgt := 22) C dX1_drawBolt_5 (by decide) ⟨h.1, fun c6 => ?_, fun c6 => ?_⟩
    · have h := h.2.1 c6
      exact r_perm [0, 1, 2, 3] rfl ((z22 _ _ _).1 h)
    · have h := h.2.2 c6
      refine r_aload_n C 1 dX1_drawBolt_8 rfl ?_
      refine r_aload_n C 1 dX1_drawBolt_9 rfl ?_
      refine r_get (j := 6) (jz := 6) (v := .ref (ad 5)) C dX1_drawBolt_10 (shA_1) rfl rfl (by decide) in_x1_drawBolt_X2 w_x1_drawBolt_43 rfl rfl rfl ?_
      refine r_callV (As := [.ref (ad 5)]) (o := 1) (n := 1) C dX1_drawBolt_13 (x2_sumOf_ct κ.1.2.1 ad cA D 5 s1) gX1_drawBolt_X2_sumOf rfl ⟨rfl, rfl⟩ (by decide +kernel) (by decide) (shA_1) rfl rfl rfl (Nat.le_of_ble_eq_true rfl) (fun _ => rfl) ?_
      refine x2_sumOf_mono h (fun r4 s3 h => ?_)
      refine r_iload_n C 3 dX1_drawBolt_16 rfl ?_
      refine r_icmp_lt (tgt := 22) C dX1_drawBolt_17 (by decide) ⟨h.1, fun c5 => ?_, fun c5 => ?_⟩
      · have h := h.2.1 c5
        exact r_perm [0, 1, 2, 3] rfl ((z22 _ _ _).1 h)
      · have h := h.2.2 c5
        refine r_iconst C dX1_drawBolt_20 ?_
        exact r_ireturn C dX1_drawBolt_21 h
  · intro x2 x3 s h
    refine (z22 _ _ _).2 ?_
    refine r_aload_n C 0 dX1_drawBolt_22 rfl ?_
    refine r_get (j := 3) (jz := 3) (v := .ref (ad 14)) C dX1_drawBolt_23 (shA_13) rfl rfl (by decide) in_x1_drawBolt_X1 w_x1_drawBolt_12 rfl rfl rfl ?_
    refine r_aload_n C 1 dX1_drawBolt_26 rfl ?_
    refine r_aload_n C 1 dX1_drawBolt_27 rfl ?_
    refine r_get (j := 6) (jz := 6) (v := .ref (ad 5)) C dX1_drawBolt_28 (shA_1) rfl rfl (by decide) in_x1_drawBolt_X2 w_x1_drawBolt_43 rfl rfl rfl ?_
    refine r_iload_n C 2 dX1_drawBolt_31 rfl ?_
    refine r_iload_n C 3 dX1_drawBolt_32 rfl ?_
    refine r_callV (As := [.ref (ad 1), .ref (ad 5), vI x2, vI x3]) (o := 14) (n := 4) C dX1_drawBolt_33 (x3_settleHolding_ct κ.1.2.1 ad cA D 14 5 x2 x3 s (Or.inr rfl)) gX1_drawBolt_X3_settleHolding rfl ⟨rfl, rfl⟩ (by decide +kernel) (by decide) (shA_14) rfl rfl rfl (Nat.le_of_ble_eq_true rfl) (fun _ => rfl) ?_
    refine x3_settleHolding_mono h (fun _ s7 h => ?_)
    refine r_aload_n C 1 dX1_drawBolt_36 rfl ?_
    refine r_get (j := 3) (jz := 3) (v := .ref (ad 2)) C dX1_drawBolt_37 (shA_1) rfl rfl (by decide) in_x1_drawBolt_X2 w_x1_drawBolt_54 rfl rfl rfl ?_
    refine r_iload_n C 2 dX1_drawBolt_40 rfl ?_
    refine r_iald (nz := 6) C dX1_drawBolt_41 (shA_2) rfl (by decide) ⟨h.1, ?_⟩
    have h := h.2
    refine r_i2l C dX1_drawBolt_42 ⟨h.1, ?_⟩
    have h := h.2
    refine r_lstore (ls' := [(4, vL (s7 2 x2)), (0, .ref (ad 13)), (1, .ref (ad 1)), (2, vI x2), (3, vI x3)]) C dX1_drawBolt_43 (by decide) rfl ?_
    refine r_lload C 0 dX1_drawBolt_45 rfl ?_
    refine r_aload_n C 1 dX1_drawBolt_47 rfl ?_
    refine r_get (j := 3) (jz := 3) (v := .ref (ad 14)) C dX1_drawBolt_48 (shA_13) rfl rfl (by decide) in_x1_drawBolt_X1 w_x1_drawBolt_12 rfl rfl rfl ?_
    refine r_get (j := 0) (jz := 0) (v := .ref (ad 15)) C dX1_drawBolt_51 (shA_14) rfl rfl (by decide) in_x1_drawBolt_X3 w_x1_drawBolt_57 rfl rfl rfl ?_
    refine r_iload_n C 3 dX1_drawBolt_54 rfl ?_
    refine r_lald (nz := 6) C dX1_drawBolt_55 (shA_15) rfl (by decide) ⟨h.1, ?_⟩
    have h := h.2
    refine r_lmul C dX1_drawBolt_56 ?_
    refine r_iload_n C 4 dX1_drawBolt_57 rfl ?_
    refine r_i2l C dX1_drawBolt_58 ⟨h.1, ?_⟩
    have h := h.2
    refine r_aload_n C 1 dX1_drawBolt_59 rfl ?_
    refine r_get (j := 3) (jz := 3) (v := .ref (ad 14)) C dX1_drawBolt_60 (shA_13) rfl rfl (by decide) in_x1_drawBolt_X1 w_x1_drawBolt_12 rfl rfl rfl ?_
    refine r_get (j := 1) (jz := 1) (v := vL (s7 14 (1 : Int))) C dX1_drawBolt_63 (shA_14) rfl rfl (by decide) in_x1_drawBolt_X3 w_x1_drawBolt_61 rfl rfl rfl ?_
    refine r_lmul C dX1_drawBolt_66 ?_
    refine r_ladd C dX1_drawBolt_67 ?_
    refine r_topL (fun v8 e_v8 => ?_)
    have h := h v8 e_v8
    refine r_lstore (ls' := [(6, vL v8), (4, vL (s7 2 x2)), (0, .ref (ad 13)), (1, .ref (ad 1)), (2, vI x2), (3, vI x3)]) C dX1_drawBolt_68 (by decide) rfl ?_
    refine r_lconst (z := 0) C dX1_drawBolt_70 rfl ?_
    refine r_lload C 0 dX1_drawBolt_71 rfl ?_
    refine r_lload C 1 dX1_drawBolt_73 rfl ?_
    refine r_aload_n C 2 dX1_drawBolt_75 rfl ?_
    refine r_get (j := 3) (jz := 3) (v := .ref (ad 14)) C dX1_drawBolt_76 (shA_13) rfl rfl (by decide) in_x1_drawBolt_X1 w_x1_drawBolt_12 rfl rfl rfl ?_
    refine r_get (j := 1) (jz := 1) (v := vL (s7 14 (1 : Int))) C dX1_drawBolt_79 (shA_14) rfl rfl (by decide) in_x1_drawBolt_X3 w_x1_drawBolt_61 rfl rfl rfl ?_
    refine r_lmul C dX1_drawBolt_82 ?_
    refine r_callSN (As := [vL v8, vL ((s7 2 x2) * (s7 14 (1 : Int)))]) (n := 2) C dX1_drawBolt_83 (x7_wholeFrom_ct κ.1.2.1 ad cA D v8 ((s7 2 x2) * (s7 14 (1 : Int))) s7) C.e.1.1 w_x1_drawBolt_s65 w_x1_drawBolt_iX7 gX1_drawBolt_X7_wholeFrom_n65 rfl ⟨rfl, rfl⟩ (by decide +kernel) (by decide) rfl rfl (Nat.le_of_ble_eq_true rfl) (fun _ => rfl) ?_
    refine x7_wholeFrom_mono h (fun r10 s9 h => ?_)
    refine r_aload_n C 3 dX1_drawBolt_86 rfl ?_
    refine r_get (j := 5) (jz := 5) (v := .ref (ad 4)) C dX1_drawBolt_87 (shA_1) rfl rfl (by decide) in_x1_drawBolt_X2 w_x1_drawBolt_28 rfl rfl rfl ?_
    refine r_iload_n C 4 dX1_drawBolt_90 rfl ?_
    refine r_iald (nz := 6) C dX1_drawBolt_91 (shA_4) rfl (by decide) ⟨h.1, ?_⟩
    have h := h.2
    refine r_i2l C dX1_drawBolt_92 ⟨h.1, ?_⟩
    have h := h.2
    refine r_lsub C dX1_drawBolt_93 ?_
    refine r_maxL C dX1_drawBolt_94 w_x1_drawBolt_l69 w_x1_drawBolt_s69 w_x1_drawBolt_im w_x1_drawBolt_c69 (by decide) (Nat.le_of_ble_eq_true rfl) ⟨h.1, ?_⟩
    have h := h.2
    refine r_topL (fun v11 e_v11 => ?_)
    have h := h v11 e_v11
    refine r_lstore (ls' := [(8, vL v11), (6, vL v8), (4, vL (s7 2 x2)), (0, .ref (ad 13)), (1, .ref (ad 1)), (2, vI x2), (3, vI x3)]) C dX1_drawBolt_97 (by decide) rfl ?_
    refine r_aload_n C 4 dX1_drawBolt_99 rfl ?_
    refine r_get (j := 5) (jz := 5) (v := .ref (ad 4)) C dX1_drawBolt_100 (shA_1) rfl rfl (by decide) in_x1_drawBolt_X2 w_x1_drawBolt_28 rfl rfl rfl ?_
    refine r_iload_n C 5 dX1_drawBolt_103 rfl ?_
    refine r_iald (nz := 6) C dX1_drawBolt_104 (shA_4) rfl (by decide) ⟨h.1, ?_⟩
    have h := h.2
    refine r_i2l C dX1_drawBolt_105 ⟨h.1, ?_⟩
    have h := h.2
    refine r_lload C 0 dX1_drawBolt_106 rfl ?_
    refine r_ladd C dX1_drawBolt_108 ?_
    refine r_ldc2 (z := 200) C dX1_drawBolt_109 w_x1_drawBolt_74 rfl ?_
    refine r_lcmp_le (tgt := 118) C dX1_drawBolt_112 dX1_drawBolt_113 (by decide) ⟨h.1, fun c13 => ?_, fun c13 => ?_⟩
    · have h := h.2.1 c13
      refine r_aload_n C 4 dX1_drawBolt_118 rfl ?_
      refine r_get (j := 5) (jz := 5) (v := .ref (ad 4)) C dX1_drawBolt_119 (shA_1) rfl rfl (by decide) in_x1_drawBolt_X2 w_x1_drawBolt_28 rfl rfl rfl ?_
      refine r_iload_n C 5 dX1_drawBolt_122 rfl ?_
      refine r_dup2 C dX1_drawBolt_123 rfl rfl ?_
      refine r_iald (nz := 6) C dX1_drawBolt_124 (shA_4) rfl (by decide) ⟨h.1, ?_⟩
      have h := h.2
      refine r_lload C 0 dX1_drawBolt_125 rfl ?_
      refine r_l2i C dX1_drawBolt_127 ?_
      refine r_iadd C dX1_drawBolt_128 ?_
      refine r_iast (nz := 6) C dX1_drawBolt_129 (shA_4) rfl (by decide) ⟨h.1, fun s12 e_s12 => ?_⟩
      have h := h.2 s12 e_s12
      refine r_lload C 0 dX1_drawBolt_130 rfl ?_
      refine r_l2i C dX1_drawBolt_132 ?_
      exact r_ireturn C dX1_drawBolt_133 h
    · have h := h.2.2 c13
      refine r_iconst C dX1_drawBolt_116 ?_
      exact r_ireturn C dX1_drawBolt_117 h
theorem x1_drawBolt_ct (l : Launch) (ad : Nat → Nat) (cA : Nat → ClassId) (D : va_G) (p2 : Int) (p3 : Int) (s : Mem) : MG l yX1_drawBolt wsX1_drawBolt x1_drawBolt_rm ocI [.ref (ad 13), .ref (ad 1), vI p2, vI p3] (GA ad cA D) s (x1_drawBolt p2 p3 s) :=
  m_met (own := RX1) (nL := 10) (by decide) rfl rfl (Nat.le_of_ble_eq_true rfl) rfl rfl rfl (fun κ hl C Q Pst hW hQ => x1_drawBolt_bd C (x1_drawBolt_mono hW hQ))

def x1_goRound_be (X6 : Nat → Int → Int → Int → Mem → Prop) (Q : Int → Mem → Prop) (p2 : Nat) (p3 : Int) (s : Mem) : Prop :=
  X6 p2 p3 (0 : Int) (0 : Int) s
def x1_goRound_b6 (X6 : Nat → Int → Int → Int → Mem → Prop) (Q : Int → Mem → Prop) (x2 : Nat) (x3 : Int) (x4 : Int) (x5 : Int) (s : Mem) : Prop :=
  (InI x5 ∧ InI (s 1 (0 : Int))) ∧ ((s 1 (0 : Int)) ≤ x5 → Q x4 s) ∧ (x5 < (s 1 (0 : Int)) → (shA[x2]? = some (.inr (0, 6))) ∧ ((0 : Int) ≤ x5 ∧ x5 < 6) ∧ x2_isBroken (s x2 x5) s (fun r2 s1 => InI r2 ∧ (r2 = (0 : Int) → x1_drawBolt (s x2 x5) x3 s1 (fun r4 s3 => (InI r4 ∧ InI (-1 : Int)) ∧ (¬ r4 = (-1 : Int) → X6 x2 x3 (x4 + r4) (x5 + (1 : Int)) s3) ∧ (r4 = (-1 : Int) → Q (-1 : Int) s3))) ∧ (¬ r2 = (0 : Int) → X6 x2 x3 x4 (x5 + (1 : Int)) s1)))
theorem x1_goRound_me {X6 Y6 : Nat → Int → Int → Int → Mem → Prop} {Q R : Int → Mem → Prop} (hX6 : ∀ x2 x3 x4 x5 s, X6 x2 x3 x4 x5 s → Y6 x2 x3 x4 x5 s) (hQ : ∀ r s, Q r s → R r s) {p2 : Nat} {p3 : Int} {s : Mem} (h : x1_goRound_be X6 Q p2 p3 s) : x1_goRound_be Y6 R p2 p3 s :=
  hX6 _ _ _ _ _ h
theorem x1_goRound_m6 {X6 Y6 : Nat → Int → Int → Int → Mem → Prop} {Q R : Int → Mem → Prop} (hX6 : ∀ x2 x3 x4 x5 s, X6 x2 x3 x4 x5 s → Y6 x2 x3 x4 x5 s) (hQ : ∀ r s, Q r s → R r s) {x2 : Nat} {x3 : Int} {x4 : Int} {x5 : Int} {s : Mem} (h : x1_goRound_b6 X6 Q x2 x3 x4 x5 s) : x1_goRound_b6 Y6 R x2 x3 x4 x5 s :=
  ⟨h.1, fun c => have h := h.2.1 c; hQ _ _ h, fun c => have h := h.2.2 c; ⟨h.1, have h := h.2; ⟨h.1, have h := h.2; x2_isBroken_mono h (fun r2 s1 h => ⟨h.1, fun c => have h := h.2.1 c; x1_drawBolt_mono h (fun r4 s3 h => ⟨h.1, fun c => have h := h.2.1 c; hX6 _ _ _ _ _ h, fun c => have h := h.2.2 c; hQ _ _ h⟩), fun c => have h := h.2.2 c; hX6 _ _ _ _ _ h⟩)⟩⟩⟩
def x1_goRound (p2 : Nat) (p3 : Int) (s : Mem) (Q : Int → Mem → Prop) : Prop := ∀ (X6 : Nat → Int → Int → Int → Mem → Prop), (∀ x2 x3 x4 x5 s, x1_goRound_b6 X6 Q x2 x3 x4 x5 s → X6 x2 x3 x4 x5 s) → x1_goRound_be X6 Q p2 p3 s
def x1_goRound_L6 (Q : Int → Mem → Prop) (x2 : Nat) (x3 : Int) (x4 : Int) (x5 : Int) (s : Mem) : Prop := ∀ (X6 : Nat → Int → Int → Int → Mem → Prop), (∀ x2 x3 x4 x5 s, x1_goRound_b6 X6 Q x2 x3 x4 x5 s → X6 x2 x3 x4 x5 s) → X6 x2 x3 x4 x5 s
theorem x1_goRound_i {Q : Int → Mem → Prop} {p2 : Nat} {p3 : Int} {s : Mem} (h : x1_goRound_be (x1_goRound_L6 Q) Q p2 p3 s) : x1_goRound p2 p3 s Q := fun X6 k6 => x1_goRound_me (fun _ _ _ _ _ h => h X6 k6) (fun _ _ h => h) h
theorem x1_goRound_s6 {Q : Int → Mem → Prop} {x2 : Nat} {x3 : Int} {x4 : Int} {x5 : Int} {s : Mem} (h : x1_goRound_b6 (x1_goRound_L6 Q) Q x2 x3 x4 x5 s) : x1_goRound_L6 Q x2 x3 x4 x5 s := fun X6 k6 => k6 _ _ _ _ _ (x1_goRound_m6 (fun _ _ _ _ _ h => h X6 k6) (fun _ _ h => h) h)
theorem x1_goRound_mono {Q R : Int → Mem → Prop} {p2 : Nat} {p3 : Int} {s : Mem} (h : x1_goRound p2 p3 s Q) (hQ : ∀ r s, Q r s → R r s) : x1_goRound p2 p3 s R := fun X6 k6 => x1_goRound_me (fun _ _ _ _ _ h => h) hQ (h X6 (fun _ _ _ _ _ h => k6 _ _ _ _ _ (x1_goRound_m6 (fun _ _ _ _ _ h => h) hQ h)))
def x1_goRound_rm : Room := { frames := 3, cells := 0, slots := 0, locals := 92 }
theorem w_x1_goRound_76 : Cond.fieldLink RX1 76 "BoltRing$Joint" "bolts" "I" ∈ wsX1_goRound := by decide +kernel
theorem in_x1_goRound_X2 : ∀ w ∈ wsX20, w ∈ wsX1_goRound := by decide +kernel
set_option maxHeartbeats 4000000 in
set_option maxRecDepth 100000 in
theorem x1_goRound_bd {κ : KT} {ad : Nat → Nat} {cA : Nat → ClassId} {D : va_G} {Q : State → Prop} {p2 : Nat} {p3 : Int} {s : Mem} (C : CX κ (GA ad cA D) RX1 cX1_goRound 8 wsX1_goRound x1_goRound_rm (some .int)) (h : x1_goRound p2 p3 s (RT κ (GA ad cA D) ocI Q)) : WM κ (GA ad cA D) 8 Q s 0 [(0, .ref (ad 13)), (1, .ref (ad 1)), (2, .ref (ad p2)), (3, vI p3)] [] := by
  obtain ⟨Z6, z6⟩ : ∃ Z : Nat → Int → Int → Int → Mem → Prop, ∀ x2 x3 x4 x5 s, Z x2 x3 x4 x5 s ↔ WM κ (GA ad cA D) 8 Q s 6 [(0, .ref (ad 13)), (1, .ref (ad 1)), (2, .ref (ad x2)), (3, vI x3), (4, vI x4), (5, vI x5)] [] := ⟨fun x2 x3 x4 x5 s => WM κ (GA ad cA D) 8 Q s 6 [(0, .ref (ad 13)), (1, .ref (ad 1)), (2, .ref (ad x2)), (3, vI x3), (4, vI x4), (5, vI x5)] [], fun _ _ _ _ _ => Iff.rfl⟩
  refine (fun h => ?_) (h Z6 ?_)
  · refine r_iconst C dX1_goRound_0 ?_
    refine r_istore (ls' := [(4, vI (0 : Int)), (0, .ref (ad 13)), (1, .ref (ad 1)), (2, .ref (ad p2)), (3, vI p3)]) C dX1_goRound_1 (by decide) rfl ?_
    refine r_iconst C dX1_goRound_3 ?_
    refine r_istore (ls' := [(5, vI (0 : Int)), (4, vI (0 : Int)), (0, .ref (ad 13)), (1, .ref (ad 1)), (2, .ref (ad p2)), (3, vI p3)]) C dX1_goRound_4 (by decide) rfl ?_
    exact r_perm [2, 3, 4, 5, 1, 0] rfl ((z6 _ _ _ _ _).1 h)
  · intro x2 x3 x4 x5 s h
    refine (z6 _ _ _ _ _).2 ?_
    refine r_iload C 5 dX1_goRound_6 rfl ?_
    refine r_aload_n C 1 dX1_goRound_8 rfl ?_
    refine r_get (j := 0) (jz := 0) (v := vI (s 1 (0 : Int))) C dX1_goRound_9 (shA_1) rfl rfl (by decide) in_x1_goRound_X2 w_x1_goRound_76 rfl rfl rfl ?_
    refine r_icmp_ge (tgt := 64) C dX1_goRound_12 (by decide) ⟨h.1, fun c7 => ?_, fun c7 => ?_⟩
    · have h := h.2.1 c7
      refine r_iload C 4 dX1_goRound_64 rfl ?_
      exact r_ireturn C dX1_goRound_66 h
    · have h := h.2.2 c7
      refine r_aload_n C 2 dX1_goRound_15 rfl ?_
      refine r_iload C 5 dX1_goRound_16 rfl ?_
      have hg := h.1
      have h := h.2
      refine r_iald (nz := 6) C dX1_goRound_18 (hg) rfl (by decide) ⟨h.1, ?_⟩
      have h := h.2
      refine r_istore (ls' := [(6, vI (s x2 x5)), (0, .ref (ad 13)), (1, .ref (ad 1)), (2, .ref (ad x2)), (3, vI x3), (4, vI x4), (5, vI x5)]) C dX1_goRound_19 (by decide) rfl ?_
      refine r_aload_n C 2 dX1_goRound_21 rfl ?_
      refine r_iload C 0 dX1_goRound_22 rfl ?_
      refine r_callV (As := [vI (s x2 x5)]) (o := 1) (n := 1) C dX1_goRound_24 (x2_isBroken_ct κ.1.2.1 ad cA D (s x2 x5) s) gX1_goRound_X2_isBroken rfl ⟨rfl, rfl⟩ (by decide +kernel) (by decide) (shA_1) rfl rfl rfl (Nat.le_of_ble_eq_true rfl) (fun _ => rfl) ?_
      refine x2_isBroken_mono h (fun r2 s1 h => ?_)
      refine r_if_eq (tgt := 33) C dX1_goRound_27 (by decide) ⟨h.1, fun c6 => ?_, fun c6 => ?_⟩
      · have h := h.2.1 c6
        refine r_aload_n C 1 dX1_goRound_33 rfl ?_
        refine r_aload_n C 2 dX1_goRound_34 rfl ?_
        refine r_iload C 0 dX1_goRound_35 rfl ?_
        refine r_iload_n C 4 dX1_goRound_37 rfl ?_
        refine r_callV (As := [.ref (ad 1), vI (s x2 x5), vI x3]) (o := 13) (n := 3) C dX1_goRound_38 (x1_drawBolt_ct κ.1.2.1 ad cA D (s x2 x5) x3 s1) gX1_goRound_X1_drawBolt rfl ⟨rfl, rfl⟩ (by decide +kernel) (by decide) (shA_13) rfl rfl rfl (Nat.le_of_ble_eq_true rfl) (fun _ => rfl) ?_
        refine x1_drawBolt_mono h (fun r4 s3 h => ?_)
        refine r_istore (ls' := [(7, vI r4), (6, vI (s x2 x5)), (0, .ref (ad 13)), (1, .ref (ad 1)), (2, .ref (ad x2)), (3, vI x3), (4, vI x4), (5, vI x5)]) C dX1_goRound_41 (by decide) rfl ?_
        refine r_iload C 0 dX1_goRound_43 rfl ?_
        refine r_iconst C dX1_goRound_45 ?_
        refine r_icmp_ne (tgt := 51) C dX1_goRound_46 (by decide) ⟨h.1, fun c5 => ?_, fun c5 => ?_⟩
        · have h := h.2.1 c5
          refine r_iload C 6 dX1_goRound_51 rfl ?_
          refine r_iload C 0 dX1_goRound_53 rfl ?_
          refine r_iadd C dX1_goRound_55 ?_
          refine r_istore (ls' := [(4, vI (x4 + r4)), (7, vI r4), (6, vI (s x2 x5)), (0, .ref (ad 13)), (1, .ref (ad 1)), (2, .ref (ad x2)), (3, vI x3), (5, vI x5)]) C dX1_goRound_56 (by decide) rfl ?_
          refine r_iinc (j := 7) (ls' := [(5, vI (x5 + (1 : Int))), (4, vI (x4 + r4)), (7, vI r4), (6, vI (s x2 x5)), (0, .ref (ad 13)), (1, .ref (ad 1)), (2, .ref (ad x2)), (3, vI x3)]) C dX1_goRound_58 rfl (by decide) rfl ?_
          refine r_goto (tgt := 6) C dX1_goRound_61 (by decide) ?_
          exact r_perm [4, 5, 6, 7, 1, 0] rfl ((z6 _ _ _ _ _).1 h)
        · have h := h.2.2 c5
          refine r_iconst C dX1_goRound_49 ?_
          exact r_ireturn C dX1_goRound_50 h
      · have h := h.2.2 c6
        refine r_goto (tgt := 58) C dX1_goRound_30 (by decide) ?_
        refine r_iinc (j := 6) (ls' := [(5, vI (x5 + (1 : Int))), (6, vI (s x2 x5)), (0, .ref (ad 13)), (1, .ref (ad 1)), (2, .ref (ad x2)), (3, vI x3), (4, vI x4)]) C dX1_goRound_58 rfl (by decide) rfl ?_
        refine r_goto (tgt := 6) C dX1_goRound_61 (by decide) ?_
        exact r_perm [2, 3, 4, 5, 6, 0] rfl ((z6 _ _ _ _ _).1 h)
theorem x1_goRound_ct (l : Launch) (ad : Nat → Nat) (cA : Nat → ClassId) (D : va_G) (p2 : Nat) (p3 : Int) (s : Mem) : MG l yX1_goRound wsX1_goRound x1_goRound_rm ocI [.ref (ad 13), .ref (ad 1), .ref (ad p2), vI p3] (GA ad cA D) s (x1_goRound p2 p3 s) :=
  m_met (own := RX1) (nL := 8) (by decide) rfl rfl (Nat.le_of_ble_eq_true rfl) rfl rfl rfl (fun κ hl C Q Pst hW hQ => x1_goRound_bd C (x1_goRound_mono hW hQ))

def x1_goRounds_be (X3 : Nat → Int → Int → Int → Mem → Prop) (Q : Int → Mem → Prop) (p2 : Nat) (p3 : Int) (p4 : Int) (s : Mem) : Prop :=
  X3 p2 p3 p4 (0 : Int) s
def x1_goRounds_b3 (X3 : Nat → Int → Int → Int → Mem → Prop) (Q : Int → Mem → Prop) (x2 : Nat) (x3 : Int) (x4 : Int) (x5 : Int) (s : Mem) : Prop :=
  (InI x5 ∧ InI x4) ∧ (x4 ≤ x5 → x1_allHold x3 s (fun r2 s1 => InI r2 ∧ (r2 = (0 : Int) → Q (-1 : Int) s1) ∧ (¬ r2 = (0 : Int) → Q x4 s1))) ∧ (x5 < x4 → x1_allHold x3 s (fun r5 s4 => InI r5 ∧ (r5 = (0 : Int) → x1_goRound x2 x3 s4 (fun r7 s6 => (InI r7 ∧ InI (-1 : Int)) ∧ (¬ r7 = (-1 : Int) → X3 x2 x3 x4 (x5 + (1 : Int)) s6) ∧ (r7 = (-1 : Int) → Q (-1 : Int) s6))) ∧ (¬ r5 = (0 : Int) → Q x5 s4)))
theorem x1_goRounds_me {X3 Y3 : Nat → Int → Int → Int → Mem → Prop} {Q R : Int → Mem → Prop} (hX3 : ∀ x2 x3 x4 x5 s, X3 x2 x3 x4 x5 s → Y3 x2 x3 x4 x5 s) (hQ : ∀ r s, Q r s → R r s) {p2 : Nat} {p3 : Int} {p4 : Int} {s : Mem} (h : x1_goRounds_be X3 Q p2 p3 p4 s) : x1_goRounds_be Y3 R p2 p3 p4 s :=
  hX3 _ _ _ _ _ h
theorem x1_goRounds_m3 {X3 Y3 : Nat → Int → Int → Int → Mem → Prop} {Q R : Int → Mem → Prop} (hX3 : ∀ x2 x3 x4 x5 s, X3 x2 x3 x4 x5 s → Y3 x2 x3 x4 x5 s) (hQ : ∀ r s, Q r s → R r s) {x2 : Nat} {x3 : Int} {x4 : Int} {x5 : Int} {s : Mem} (h : x1_goRounds_b3 X3 Q x2 x3 x4 x5 s) : x1_goRounds_b3 Y3 R x2 x3 x4 x5 s :=
  ⟨h.1, fun c => have h := h.2.1 c; x1_allHold_mono h (fun r2 s1 h => ⟨h.1, fun c => have h := h.2.1 c; hQ _ _ h, fun c => have h := h.2.2 c; hQ _ _ h⟩), fun c => have h := h.2.2 c; x1_allHold_mono h (fun r5 s4 h => ⟨h.1, fun c => have h := h.2.1 c; x1_goRound_mono h (fun r7 s6 h => ⟨h.1, fun c => have h := h.2.1 c; hX3 _ _ _ _ _ h, fun c => have h := h.2.2 c; hQ _ _ h⟩), fun c => have h := h.2.2 c; hQ _ _ h⟩)⟩
def x1_goRounds (p2 : Nat) (p3 : Int) (p4 : Int) (s : Mem) (Q : Int → Mem → Prop) : Prop := ∀ (X3 : Nat → Int → Int → Int → Mem → Prop), (∀ x2 x3 x4 x5 s, x1_goRounds_b3 X3 Q x2 x3 x4 x5 s → X3 x2 x3 x4 x5 s) → x1_goRounds_be X3 Q p2 p3 p4 s
def x1_goRounds_L3 (Q : Int → Mem → Prop) (x2 : Nat) (x3 : Int) (x4 : Int) (x5 : Int) (s : Mem) : Prop := ∀ (X3 : Nat → Int → Int → Int → Mem → Prop), (∀ x2 x3 x4 x5 s, x1_goRounds_b3 X3 Q x2 x3 x4 x5 s → X3 x2 x3 x4 x5 s) → X3 x2 x3 x4 x5 s
theorem x1_goRounds_i {Q : Int → Mem → Prop} {p2 : Nat} {p3 : Int} {p4 : Int} {s : Mem} (h : x1_goRounds_be (x1_goRounds_L3 Q) Q p2 p3 p4 s) : x1_goRounds p2 p3 p4 s Q := fun X3 k3 => x1_goRounds_me (fun _ _ _ _ _ h => h X3 k3) (fun _ _ h => h) h
theorem x1_goRounds_s3 {Q : Int → Mem → Prop} {x2 : Nat} {x3 : Int} {x4 : Int} {x5 : Int} {s : Mem} (h : x1_goRounds_b3 (x1_goRounds_L3 Q) Q x2 x3 x4 x5 s) : x1_goRounds_L3 Q x2 x3 x4 x5 s := fun X3 k3 => k3 _ _ _ _ _ (x1_goRounds_m3 (fun _ _ _ _ _ h => h X3 k3) (fun _ _ h => h) h)
theorem x1_goRounds_mono {Q R : Int → Mem → Prop} {p2 : Nat} {p3 : Int} {p4 : Int} {s : Mem} (h : x1_goRounds p2 p3 p4 s Q) (hQ : ∀ r s, Q r s → R r s) : x1_goRounds p2 p3 p4 s R := fun X3 k3 => x1_goRounds_me (fun _ _ _ _ _ h => h) hQ (h X3 (fun _ _ _ _ _ h => k3 _ _ _ _ _ (x1_goRounds_m3 (fun _ _ _ _ _ h => h) hQ h)))
def x1_goRounds_rm : Room := { frames := 4, cells := 0, slots := 0, locals := 119 }
set_option maxHeartbeats 4000000 in
set_option maxRecDepth 100000 in
theorem x1_goRounds_bd {κ : KT} {ad : Nat → Nat} {cA : Nat → ClassId} {D : va_G} {Q : State → Prop} {p2 : Nat} {p3 : Int} {p4 : Int} {s : Mem} (C : CX κ (GA ad cA D) RX1 cX1_goRounds 6 wsX1_goRounds x1_goRounds_rm (some .int)) (h : x1_goRounds p2 p3 p4 s (RT κ (GA ad cA D) ocI Q)) : WM κ (GA ad cA D) 6 Q s 0 [(0, .ref (ad 13)), (1, .ref (ad 1)), (2, .ref (ad p2)), (3, vI p3), (4, vI p4)] [] := by
  obtain ⟨Z3, z3⟩ : ∃ Z : Nat → Int → Int → Int → Mem → Prop, ∀ x2 x3 x4 x5 s, Z x2 x3 x4 x5 s ↔ WM κ (GA ad cA D) 6 Q s 3 [(0, .ref (ad 13)), (1, .ref (ad 1)), (2, .ref (ad x2)), (3, vI x3), (4, vI x4), (5, vI x5)] [] := ⟨fun x2 x3 x4 x5 s => WM κ (GA ad cA D) 6 Q s 3 [(0, .ref (ad 13)), (1, .ref (ad 1)), (2, .ref (ad x2)), (3, vI x3), (4, vI x4), (5, vI x5)] [], fun _ _ _ _ _ => Iff.rfl⟩
  refine (fun h => ?_) (h Z3 ?_)
  · refine r_iconst C dX1_goRounds_0 ?_
    refine r_istore (ls' := [(5, vI (0 : Int)), (0, .ref (ad 13)), (1, .ref (ad 1)), (2, .ref (ad p2)), (3, vI p3), (4, vI p4)]) C dX1_goRounds_1 (by decide) rfl ?_
    exact r_perm [1, 2, 3, 4, 5, 0] rfl ((z3 _ _ _ _ _).1 h)
  · intro x2 x3 x4 x5 s h
    refine (z3 _ _ _ _ _).2 ?_
    refine r_iload C 5 dX1_goRounds_3 rfl ?_
    refine r_iload C 4 dX1_goRounds_5 rfl ?_
    refine r_icmp_ge (tgt := 41) C dX1_goRounds_7 (by decide) ⟨h.1, fun c10 => ?_, fun c10 => ?_⟩
    · have h := h.2.1 c10
      refine r_aload_n C 0 dX1_goRounds_41 rfl ?_
      refine r_aload_n C 1 dX1_goRounds_42 rfl ?_
      refine r_iload_n C 3 dX1_goRounds_43 rfl ?_
      refine r_callV (As := [.ref (ad 1), vI x3]) (o := 13) (n := 2) C dX1_goRounds_44 (x1_allHold_ct κ.1.2.1 ad cA D x3 s) gX1_goRounds_X1_allHold rfl ⟨rfl, rfl⟩ (by decide +kernel) (by decide) (shA_13) rfl rfl rfl (Nat.le_of_ble_eq_true rfl) (fun _ => rfl) ?_
      refine x1_allHold_mono h (fun r2 s1 h => ?_)
      refine r_if_eq (tgt := 55) C dX1_goRounds_47 (by decide) ⟨h.1, fun c3 => ?_, fun c3 => ?_⟩
      · have h := h.2.1 c3
        refine r_iconst C dX1_goRounds_55 ?_
        exact r_ireturn C dX1_goRounds_56 h
      · have h := h.2.2 c3
        refine r_iload C 4 dX1_goRounds_50 rfl ?_
        refine r_goto (tgt := 56) C dX1_goRounds_52 (by decide) ?_
        exact r_ireturn C dX1_goRounds_56 h
    · have h := h.2.2 c10
      refine r_aload_n C 0 dX1_goRounds_10 rfl ?_
      refine r_aload_n C 1 dX1_goRounds_11 rfl ?_
      refine r_iload_n C 3 dX1_goRounds_12 rfl ?_
      refine r_callV (As := [.ref (ad 1), vI x3]) (o := 13) (n := 2) C dX1_goRounds_13 (x1_allHold_ct κ.1.2.1 ad cA D x3 s) gX1_goRounds_X1_allHold rfl ⟨rfl, rfl⟩ (by decide +kernel) (by decide) (shA_13) rfl rfl rfl (Nat.le_of_ble_eq_true rfl) (fun _ => rfl) ?_
      refine x1_allHold_mono h (fun r5 s4 h => ?_)
      refine r_if_eq (tgt := 22) C dX1_goRounds_16 (by decide) ⟨h.1, fun c9 => ?_, fun c9 => ?_⟩
      · have h := h.2.1 c9
        refine r_aload_n C 0 dX1_goRounds_22 rfl ?_
        refine r_aload_n C 1 dX1_goRounds_23 rfl ?_
        refine r_aload_n C 2 dX1_goRounds_24 rfl ?_
        refine r_iload_n C 3 dX1_goRounds_25 rfl ?_
        refine r_callV (As := [.ref (ad 1), .ref (ad x2), vI x3]) (o := 13) (n := 3) C dX1_goRounds_26 (x1_goRound_ct κ.1.2.1 ad cA D x2 x3 s4) gX1_goRounds_X1_goRound rfl ⟨rfl, rfl⟩ (by decide +kernel) (by decide) (shA_13) rfl rfl rfl (Nat.le_of_ble_eq_true rfl) (fun _ => rfl) ?_
        refine x1_goRound_mono h (fun r7 s6 h => ?_)
        refine r_iconst C dX1_goRounds_29 ?_
        refine r_icmp_ne (tgt := 35) C dX1_goRounds_30 (by decide) ⟨h.1, fun c8 => ?_, fun c8 => ?_⟩
        · have h := h.2.1 c8
          refine r_iinc (j := 5) (ls' := [(5, vI (x5 + (1 : Int))), (0, .ref (ad 13)), (1, .ref (ad 1)), (2, .ref (ad x2)), (3, vI x3), (4, vI x4)]) C dX1_goRounds_35 rfl (by decide) rfl ?_
          refine r_goto (tgt := 3) C dX1_goRounds_38 (by decide) ?_
          exact r_perm [1, 2, 3, 4, 5, 0] rfl ((z3 _ _ _ _ _).1 h)
        · have h := h.2.2 c8
          refine r_iconst C dX1_goRounds_33 ?_
          exact r_ireturn C dX1_goRounds_34 h
      · have h := h.2.2 c9
        refine r_iload C 5 dX1_goRounds_19 rfl ?_
        exact r_ireturn C dX1_goRounds_21 h
theorem x1_goRounds_ct (l : Launch) (ad : Nat → Nat) (cA : Nat → ClassId) (D : va_G) (p2 : Nat) (p3 : Int) (p4 : Int) (s : Mem) : MG l yX1_goRounds wsX1_goRounds x1_goRounds_rm ocI [.ref (ad 13), .ref (ad 1), .ref (ad p2), vI p3, vI p4] (GA ad cA D) s (x1_goRounds p2 p3 p4 s) :=
  m_met (own := RX1) (nL := 6) (by decide) rfl rfl (Nat.le_of_ble_eq_true rfl) rfl rfl rfl (fun κ hl C Q Pst hW hQ => x1_goRounds_bd C (x1_goRounds_mono hW hQ))

def x1_putTurnsBack  (s : Mem) (Q : Int → Mem → Prop) : Prop :=
  ((0 ≤ (0 : Int) ∧ 0 ≤ (0 : Int) ∧ 0 ≤ (6 : Int)) ∧ (0 : Int) + (6 : Int) ≤ 6 ∧ (0 : Int) + (6 : Int) ≤ 6) ∧ ∀ s1 : Mem, s1 = m_cpy s 20 4 (0 : Int) (0 : Int) (6 : Int) → Q (0 : Int) s1
theorem x1_putTurnsBack_mono {Q R : Int → Mem → Prop}  {s : Mem} (h : x1_putTurnsBack  s Q) (hQ : ∀ r s, Q r s → R r s) : x1_putTurnsBack  s R :=
  ⟨h.1, have h := h.2; fun s1 e_s1 => have h := h s1 e_s1; hQ _ _ h⟩
def x1_putTurnsBack_rm : Room := { frames := 1, cells := 0, slots := 0, locals := 60 }
theorem w_x1_putTurnsBack_18 : Cond.fieldLink RX1 18 "BoltRing$Drawing" "kept" "[I" ∈ wsX1_putTurnsBack := by decide +kernel
theorem w_x1_putTurnsBack_28 : Cond.fieldLink RX1 28 "BoltRing$Joint" "turns" "[I" ∈ wsX1_putTurnsBack := by decide +kernel
theorem w_x1_putTurnsBack_l33 : Cond.methodLink RX1 33 arraycopyName ∈ wsX1_putTurnsBack := by decide +kernel
theorem w_x1_putTurnsBack_ac1 : Cond.native arraycopyName ∈ wsX1_putTurnsBack := by decide +kernel
theorem w_x1_putTurnsBack_ac2 : Cond.static arraycopyName ∈ wsX1_putTurnsBack := by decide +kernel
theorem w_x1_putTurnsBack_ac3 : Cond.initialized "java/lang/System" ∈ wsX1_putTurnsBack := by decide +kernel
theorem in_x1_putTurnsBack_X1 : ∀ w ∈ wsX10, w ∈ wsX1_putTurnsBack := by decide +kernel
theorem in_x1_putTurnsBack_X2 : ∀ w ∈ wsX20, w ∈ wsX1_putTurnsBack := by decide +kernel
set_option maxHeartbeats 4000000 in
set_option maxRecDepth 100000 in
theorem x1_putTurnsBack_bd {κ : KT} {ad : Nat → Nat} {cA : Nat → ClassId} {D : va_G} {Q : State → Prop}  {s : Mem} (C : CX κ (GA ad cA D) RX1 cX1_putTurnsBack 2 wsX1_putTurnsBack x1_putTurnsBack_rm none) (h : x1_putTurnsBack  s (RT κ (GA ad cA D) ocV Q)) : WM κ (GA ad cA D) 2 Q s 0 [(0, .ref (ad 13)), (1, .ref (ad 1))] [] := by
  refine r_aload_n C 0 dX1_putTurnsBack_0 rfl ?_
  refine r_get (j := 4) (jz := 4) (v := .ref (ad 20)) C dX1_putTurnsBack_1 (shA_13) rfl rfl (by decide) in_x1_putTurnsBack_X1 w_x1_putTurnsBack_18 rfl rfl rfl ?_
  refine r_iconst C dX1_putTurnsBack_4 ?_
  refine r_aload_n C 1 dX1_putTurnsBack_5 rfl ?_
  refine r_get (j := 5) (jz := 5) (v := .ref (ad 4)) C dX1_putTurnsBack_6 (shA_1) rfl rfl (by decide) in_x1_putTurnsBack_X2 w_x1_putTurnsBack_28 rfl rfl rfl ?_
  refine r_iconst C dX1_putTurnsBack_9 ?_
  refine r_bipush C dX1_putTurnsBack_10 (by decide) ?_
  refine r_copyi (n0z := 6) (n1z := 6) C dX1_putTurnsBack_12 w_x1_putTurnsBack_l33 w_x1_putTurnsBack_ac1 w_x1_putTurnsBack_ac2 w_x1_putTurnsBack_ac3 (shA_20) (shA_4) rfl rfl (by decide) (by decide) (by decide) (Nat.le_of_ble_eq_true rfl) ⟨h.1, fun s1 e_s1 => ?_⟩
  have h := h.2 s1 e_s1
  exact r_return C dX1_putTurnsBack_15 h
theorem x1_putTurnsBack_ct (l : Launch) (ad : Nat → Nat) (cA : Nat → ClassId) (D : va_G)  (s : Mem) : MG l yX1_putTurnsBack wsX1_putTurnsBack x1_putTurnsBack_rm ocV [.ref (ad 13), .ref (ad 1)] (GA ad cA D) s (x1_putTurnsBack  s) :=
  m_met (own := RX1) (nL := 2) (by decide) rfl rfl (Nat.le_of_ble_eq_true rfl) rfl rfl rfl (fun κ hl C Q Pst hW hQ => x1_putTurnsBack_bd C (x1_putTurnsBack_mono hW hQ))

def x1_figuresOf_be (X4 : Nat → Int → Int → Int → Mem → Prop) (Q : Int → Mem → Prop) (p0 : Nat) (p1 : Int) (s : Mem) : Prop :=
  X4 p0 p1 (0 : Int) (0 : Int) s
def x1_figuresOf_b4 (X4 : Nat → Int → Int → Int → Mem → Prop) (Q : Int → Mem → Prop) (x0 : Nat) (x1 : Int) (x2 : Int) (x3 : Int) (s : Mem) : Prop :=
  (InI x3 ∧ InI x1) ∧ (x1 ≤ x3 → Q x2 s) ∧ (x3 < x1 → (shA[x0]? = some (.inr (0, 6))) ∧ ((0 : Int) ≤ x3 ∧ x3 < 6) ∧ ∀ v1 : Int, v1 = (((10 : Int) * x2) + (s x0 x3)) → X4 x0 x1 v1 (x3 + (1 : Int)) s)
theorem x1_figuresOf_me {X4 Y4 : Nat → Int → Int → Int → Mem → Prop} {Q R : Int → Mem → Prop} (hX4 : ∀ x0 x1 x2 x3 s, X4 x0 x1 x2 x3 s → Y4 x0 x1 x2 x3 s) (hQ : ∀ r s, Q r s → R r s) {p0 : Nat} {p1 : Int} {s : Mem} (h : x1_figuresOf_be X4 Q p0 p1 s) : x1_figuresOf_be Y4 R p0 p1 s :=
  hX4 _ _ _ _ _ h
theorem x1_figuresOf_m4 {X4 Y4 : Nat → Int → Int → Int → Mem → Prop} {Q R : Int → Mem → Prop} (hX4 : ∀ x0 x1 x2 x3 s, X4 x0 x1 x2 x3 s → Y4 x0 x1 x2 x3 s) (hQ : ∀ r s, Q r s → R r s) {x0 : Nat} {x1 : Int} {x2 : Int} {x3 : Int} {s : Mem} (h : x1_figuresOf_b4 X4 Q x0 x1 x2 x3 s) : x1_figuresOf_b4 Y4 R x0 x1 x2 x3 s :=
  ⟨h.1, fun c => have h := h.2.1 c; hQ _ _ h, fun c => have h := h.2.2 c; ⟨h.1, have h := h.2; ⟨h.1, have h := h.2; fun v1 e_v1 => have h := h v1 e_v1; hX4 _ _ _ _ _ h⟩⟩⟩
def x1_figuresOf (p0 : Nat) (p1 : Int) (s : Mem) (Q : Int → Mem → Prop) : Prop := ∀ (X4 : Nat → Int → Int → Int → Mem → Prop), (∀ x0 x1 x2 x3 s, x1_figuresOf_b4 X4 Q x0 x1 x2 x3 s → X4 x0 x1 x2 x3 s) → x1_figuresOf_be X4 Q p0 p1 s
def x1_figuresOf_L4 (Q : Int → Mem → Prop) (x0 : Nat) (x1 : Int) (x2 : Int) (x3 : Int) (s : Mem) : Prop := ∀ (X4 : Nat → Int → Int → Int → Mem → Prop), (∀ x0 x1 x2 x3 s, x1_figuresOf_b4 X4 Q x0 x1 x2 x3 s → X4 x0 x1 x2 x3 s) → X4 x0 x1 x2 x3 s
theorem x1_figuresOf_i {Q : Int → Mem → Prop} {p0 : Nat} {p1 : Int} {s : Mem} (h : x1_figuresOf_be (x1_figuresOf_L4 Q) Q p0 p1 s) : x1_figuresOf p0 p1 s Q := fun X4 k4 => x1_figuresOf_me (fun _ _ _ _ _ h => h X4 k4) (fun _ _ h => h) h
theorem x1_figuresOf_s4 {Q : Int → Mem → Prop} {x0 : Nat} {x1 : Int} {x2 : Int} {x3 : Int} {s : Mem} (h : x1_figuresOf_b4 (x1_figuresOf_L4 Q) Q x0 x1 x2 x3 s) : x1_figuresOf_L4 Q x0 x1 x2 x3 s := fun X4 k4 => k4 _ _ _ _ _ (x1_figuresOf_m4 (fun _ _ _ _ _ h => h X4 k4) (fun _ _ h => h) h)
theorem x1_figuresOf_mono {Q R : Int → Mem → Prop} {p0 : Nat} {p1 : Int} {s : Mem} (h : x1_figuresOf p0 p1 s Q) (hQ : ∀ r s, Q r s → R r s) : x1_figuresOf p0 p1 s R := fun X4 k4 => x1_figuresOf_me (fun _ _ _ _ _ h => h) hQ (h X4 (fun _ _ _ _ _ h => k4 _ _ _ _ _ (x1_figuresOf_m4 (fun _ _ _ _ _ h => h) hQ h)))
def x1_figuresOf_rm : Room := { frames := 0, cells := 0, slots := 0, locals := 0 }
set_option maxHeartbeats 4000000 in
set_option maxRecDepth 100000 in
theorem x1_figuresOf_bd {κ : KT} {ad : Nat → Nat} {cA : Nat → ClassId} {D : va_G} {Q : State → Prop} {p0 : Nat} {p1 : Int} {s : Mem} (C : CX κ (GA ad cA D) RX1 cX1_figuresOf 4 wsX1_figuresOf x1_figuresOf_rm (some .int)) (h : x1_figuresOf p0 p1 s (RT κ (GA ad cA D) ocI Q)) : WM κ (GA ad cA D) 4 Q s 0 [(0, .ref (ad p0)), (1, vI p1)] [] := by
  obtain ⟨Z4, z4⟩ : ∃ Z : Nat → Int → Int → Int → Mem → Prop, ∀ x0 x1 x2 x3 s, Z x0 x1 x2 x3 s ↔ WM κ (GA ad cA D) 4 Q s 4 [(0, .ref (ad x0)), (1, vI x1), (2, vI x2), (3, vI x3)] [] := ⟨fun x0 x1 x2 x3 s => WM κ (GA ad cA D) 4 Q s 4 [(0, .ref (ad x0)), (1, vI x1), (2, vI x2), (3, vI x3)] [], fun _ _ _ _ _ => Iff.rfl⟩
  refine (fun h => ?_) (h Z4 ?_)
  · refine r_iconst C dX1_figuresOf_0 ?_
    refine r_istore_n (ls' := [(2, vI (0 : Int)), (0, .ref (ad p0)), (1, vI p1)]) C dX1_figuresOf_1 rfl (by decide) rfl ?_
    refine r_iconst C dX1_figuresOf_2 ?_
    refine r_istore_n (ls' := [(3, vI (0 : Int)), (2, vI (0 : Int)), (0, .ref (ad p0)), (1, vI p1)]) C dX1_figuresOf_3 rfl (by decide) rfl ?_
    exact r_perm [2, 3, 1, 0] rfl ((z4 _ _ _ _ _).1 h)
  · intro x0 x1 x2 x3 s h
    refine (z4 _ _ _ _ _).2 ?_
    refine r_iload_n C 3 dX1_figuresOf_4 rfl ?_
    refine r_iload_n C 1 dX1_figuresOf_5 rfl ?_
    refine r_icmp_ge (tgt := 24) C dX1_figuresOf_6 (by decide) ⟨h.1, fun c2 => ?_, fun c2 => ?_⟩
    · have h := h.2.1 c2
      refine r_iload_n C 2 dX1_figuresOf_24 rfl ?_
      exact r_ireturn C dX1_figuresOf_25 h
    · have h := h.2.2 c2
      refine r_bipush C dX1_figuresOf_9 (by decide) ?_
      refine r_iload_n C 2 dX1_figuresOf_11 rfl ?_
      refine r_imul C dX1_figuresOf_12 ?_
      refine r_aload_n C 0 dX1_figuresOf_13 rfl ?_
      refine r_iload_n C 3 dX1_figuresOf_14 rfl ?_
      have hg := h.1
      have h := h.2
      refine r_iald (nz := 6) C dX1_figuresOf_15 (hg) rfl (by decide) ⟨h.1, ?_⟩
      have h := h.2
      refine r_iadd C dX1_figuresOf_16 ?_
      refine r_topI (fun v1 e_v1 => ?_)
      have h := h v1 e_v1
      refine r_istore_n (ls' := [(2, vI v1), (0, .ref (ad x0)), (1, vI x1), (3, vI x3)]) C dX1_figuresOf_17 rfl (by decide) rfl ?_
      refine r_iinc (j := 3) (ls' := [(3, vI (x3 + (1 : Int))), (2, vI v1), (0, .ref (ad x0)), (1, vI x1)]) C dX1_figuresOf_18 rfl (by decide) rfl ?_
      refine r_goto (tgt := 4) C dX1_figuresOf_21 (by decide) ?_
      exact r_perm [2, 3, 1, 0] rfl ((z4 _ _ _ _ _).1 h)
theorem x1_figuresOf_ct (l : Launch) (ad : Nat → Nat) (cA : Nat → ClassId) (D : va_G) (p0 : Nat) (p1 : Int) (s : Mem) : MG l yX1_figuresOf wsX1_figuresOf x1_figuresOf_rm ocI [.ref (ad p0), vI p1] (GA ad cA D) s (x1_figuresOf p0 p1 s) :=
  m_met (own := RX1) (nL := 4) (by decide) rfl rfl (Nat.le_of_ble_eq_true rfl) rfl rfl rfl (fun κ hl C Q Pst hW hQ => x1_figuresOf_bd C (x1_figuresOf_mono hW hQ))

def x1_swap (p0 : Nat) (p1 : Int) (p2 : Int) (s : Mem) (Q : Int → Mem → Prop) : Prop :=
  (shA[p0]? = some (.inr (0, 6))) ∧ ((0 : Int) ≤ p1 ∧ p1 < 6) ∧ (shA[p0]? = some (.inr (0, 6))) ∧ ((0 : Int) ≤ p2 ∧ p2 < 6) ∧ (shA[p0]? = some (.inr (0, 6))) ∧ ((0 : Int) ≤ p1 ∧ p1 < 6) ∧ ∀ s1 : Mem, s1 = m_upd s p0 p1 (s p0 p2) → (shA[p0]? = some (.inr (0, 6))) ∧ ((0 : Int) ≤ p2 ∧ p2 < 6) ∧ ∀ s2 : Mem, s2 = m_upd s1 p0 p2 (s p0 p1) → Q (0 : Int) s2
theorem x1_swap_mono {Q R : Int → Mem → Prop} {p0 : Nat} {p1 : Int} {p2 : Int} {s : Mem} (h : x1_swap p0 p1 p2 s Q) (hQ : ∀ r s, Q r s → R r s) : x1_swap p0 p1 p2 s R :=
  ⟨h.1, have h := h.2; ⟨h.1, have h := h.2; ⟨h.1, have h := h.2; ⟨h.1, have h := h.2; ⟨h.1, have h := h.2; ⟨h.1, have h := h.2; fun s1 e_s1 => have h := h s1 e_s1; ⟨h.1, have h := h.2; ⟨h.1, have h := h.2; fun s2 e_s2 => have h := h s2 e_s2; hQ _ _ h⟩⟩⟩⟩⟩⟩⟩⟩
def x1_swap_rm : Room := { frames := 0, cells := 0, slots := 0, locals := 0 }
set_option maxHeartbeats 4000000 in
set_option maxRecDepth 100000 in
theorem x1_swap_bd {κ : KT} {ad : Nat → Nat} {cA : Nat → ClassId} {D : va_G} {Q : State → Prop} {p0 : Nat} {p1 : Int} {p2 : Int} {s : Mem} (C : CX κ (GA ad cA D) RX1 cX1_swap 4 wsX1_swap x1_swap_rm none) (h : x1_swap p0 p1 p2 s (RT κ (GA ad cA D) ocV Q)) : WM κ (GA ad cA D) 4 Q s 0 [(0, .ref (ad p0)), (1, vI p1), (2, vI p2)] [] := by
  refine r_aload_n C 0 dX1_swap_0 rfl ?_
  refine r_iload_n C 1 dX1_swap_1 rfl ?_
  have hg := h.1
  have h := h.2
  refine r_iald (nz := 6) C dX1_swap_2 (hg) rfl (by decide) ⟨h.1, ?_⟩
  have h := h.2
  refine r_istore_n (ls' := [(3, vI (s p0 p1)), (0, .ref (ad p0)), (1, vI p1), (2, vI p2)]) C dX1_swap_3 rfl (by decide) rfl ?_
  refine r_aload_n C 1 dX1_swap_4 rfl ?_
  refine r_iload_n C 2 dX1_swap_5 rfl ?_
  refine r_aload_n C 1 dX1_swap_6 rfl ?_
  refine r_iload_n C 3 dX1_swap_7 rfl ?_
  have hg := h.1
  have h := h.2
  refine r_iald (nz := 6) C dX1_swap_8 (hg) rfl (by decide) ⟨h.1, ?_⟩
  have h := h.2
  have hg := h.1
  have h := h.2
  refine r_iast (nz := 6) C dX1_swap_9 (hg) rfl (by decide) ⟨h.1, fun s1 e_s1 => ?_⟩
  have h := h.2 s1 e_s1
  refine r_aload_n C 1 dX1_swap_10 rfl ?_
  refine r_iload_n C 3 dX1_swap_11 rfl ?_
  refine r_iload_n C 0 dX1_swap_12 rfl ?_
  have hg := h.1
  have h := h.2
  refine r_iast (nz := 6) C dX1_swap_13 (hg) rfl (by decide) ⟨h.1, fun s2 e_s2 => ?_⟩
  have h := h.2 s2 e_s2
  exact r_return C dX1_swap_14 h
theorem x1_swap_ct (l : Launch) (ad : Nat → Nat) (cA : Nat → ClassId) (D : va_G) (p0 : Nat) (p1 : Int) (p2 : Int) (s : Mem) : MG l yX1_swap wsX1_swap x1_swap_rm ocV [.ref (ad p0), vI p1, vI p2] (GA ad cA D) s (x1_swap p0 p1 p2 s) :=
  m_met (own := RX1) (nL := 4) (by decide) rfl rfl (Nat.le_of_ble_eq_true rfl) rfl rfl rfl (fun κ hl C Q Pst hW hQ => x1_swap_bd C (x1_swap_mono hW hQ))

def x1_toNextOrder_be (X4 : Nat → Int → Int → Mem → Prop) (X35 : Nat → Int → Int → Int → Mem → Prop) (X55 : Nat → Int → Int → Int → Mem → Prop) (X71 : Nat → Int → Int → Mem → Prop) (Q : Int → Mem → Prop) (p0 : Nat) (p1 : Int) (s : Mem) : Prop :=
  X4 p0 p1 (p1 - (2 : Int)) s
def x1_toNextOrder_b4 (X4 : Nat → Int → Int → Mem → Prop) (X35 : Nat → Int → Int → Int → Mem → Prop) (X55 : Nat → Int → Int → Int → Mem → Prop) (X71 : Nat → Int → Int → Mem → Prop) (Q : Int → Mem → Prop) (x0 : Nat) (x1 : Int) (x2 : Int) (s : Mem) : Prop :=
  InI x2 ∧ (x2 < (0 : Int) → InI x2 ∧ ((0 : Int) ≤ x2 → X35 x0 x1 x2 (x1 - (1 : Int)) s) ∧ (x2 < (0 : Int) → ((0 : Int) ≤ (0 : Int) ∧ (0 : Int) ≤ 1) ∧ Q (0 : Int) s)) ∧ ((0 : Int) ≤ x2 → (shA[x0]? = some (.inr (0, 6))) ∧ ((0 : Int) ≤ x2 ∧ x2 < 6) ∧ (shA[x0]? = some (.inr (0, 6))) ∧ ((0 : Int) ≤ (x2 + (1 : Int)) ∧ (x2 + (1 : Int)) < 6) ∧ (InI (s x0 x2) ∧ InI (s x0 (x2 + (1 : Int)))) ∧ ((s x0 x2) ≤ (s x0 (x2 + (1 : Int))) → InI x2 ∧ ((0 : Int) ≤ x2 → X35 x0 x1 x2 (x1 - (1 : Int)) s) ∧ (x2 < (0 : Int) → ((0 : Int) ≤ (0 : Int) ∧ (0 : Int) ≤ 1) ∧ Q (0 : Int) s)) ∧ ((s x0 (x2 + (1 : Int))) < (s x0 x2) → X4 x0 x1 (x2 + (-1 : Int)) s))
def x1_toNextOrder_b35 (X4 : Nat → Int → Int → Mem → Prop) (X35 : Nat → Int → Int → Int → Mem → Prop) (X55 : Nat → Int → Int → Int → Mem → Prop) (X71 : Nat → Int → Int → Mem → Prop) (Q : Int → Mem → Prop) (x0 : Nat) (x1 : Int) (x2 : Int) (x3 : Int) (s : Mem) : Prop :=
  (InI x3 ∧ InI x2) ∧ (x3 ≤ x2 → X55 x0 x1 x2 x3 s) ∧ (x2 < x3 → (shA[x0]? = some (.inr (0, 6))) ∧ ((0 : Int) ≤ x3 ∧ x3 < 6) ∧ (shA[x0]? = some (.inr (0, 6))) ∧ ((0 : Int) ≤ x2 ∧ x2 < 6) ∧ (InI (s x0 x3) ∧ InI (s x0 x2)) ∧ ((s x0 x2) ≤ (s x0 x3) → X55 x0 x1 x2 x3 s) ∧ ((s x0 x3) < (s x0 x2) → X35 x0 x1 x2 (x3 + (-1 : Int)) s))
def x1_toNextOrder_b55 (X4 : Nat → Int → Int → Mem → Prop) (X35 : Nat → Int → Int → Int → Mem → Prop) (X55 : Nat → Int → Int → Int → Mem → Prop) (X71 : Nat → Int → Int → Mem → Prop) (Q : Int → Mem → Prop) (x0 : Nat) (x1 : Int) (x2 : Int) (x3 : Int) (s : Mem) : Prop :=
  x1_swap x0 x2 x3 s (fun _ s7 => X71 x0 (x2 + (1 : Int)) (x1 - (1 : Int)) s7)
def x1_toNextOrder_b71 (X4 : Nat → Int → Int → Mem → Prop) (X35 : Nat → Int → Int → Int → Mem → Prop) (X55 : Nat → Int → Int → Int → Mem → Prop) (X71 : Nat → Int → Int → Mem → Prop) (Q : Int → Mem → Prop) (x0 : Nat) (x4 : Int) (x5 : Int) (s : Mem) : Prop :=
  (InI x4 ∧ InI x5) ∧ (x5 ≤ x4 → ((0 : Int) ≤ (1 : Int) ∧ (1 : Int) ≤ 1) ∧ Q (1 : Int) s) ∧ (x4 < x5 → x1_swap x0 x4 x5 s (fun _ s8 => X71 x0 (x4 + (1 : Int)) (x5 + (-1 : Int)) s8))
theorem x1_toNextOrder_me {X4 Y4 : Nat → Int → Int → Mem → Prop} {X35 Y35 : Nat → Int → Int → Int → Mem → Prop} {X55 Y55 : Nat → Int → Int → Int → Mem → Prop} {X71 Y71 : Nat → Int → Int → Mem → Prop} {Q R : Int → Mem → Prop} (hX4 : ∀ x0 x1 x2 s, X4 x0 x1 x2 s → Y4 x0 x1 x2 s) (hX35 : ∀ x0 x1 x2 x3 s, X35 x0 x1 x2 x3 s → Y35 x0 x1 x2 x3 s) (hX55 : ∀ x0 x1 x2 x3 s, X55 x0 x1 x2 x3 s → Y55 x0 x1 x2 x3 s) (hX71 : ∀ x0 x4 x5 s, X71 x0 x4 x5 s → Y71 x0 x4 x5 s) (hQ : ∀ r s, Q r s → R r s) {p0 : Nat} {p1 : Int} {s : Mem} (h : x1_toNextOrder_be X4 X35 X55 X71 Q p0 p1 s) : x1_toNextOrder_be Y4 Y35 Y55 Y71 R p0 p1 s :=
  hX4 _ _ _ _ h
theorem x1_toNextOrder_m4 {X4 Y4 : Nat → Int → Int → Mem → Prop} {X35 Y35 : Nat → Int → Int → Int → Mem → Prop} {X55 Y55 : Nat → Int → Int → Int → Mem → Prop} {X71 Y71 : Nat → Int → Int → Mem → Prop} {Q R : Int → Mem → Prop} (hX4 : ∀ x0 x1 x2 s, X4 x0 x1 x2 s → Y4 x0 x1 x2 s) (hX35 : ∀ x0 x1 x2 x3 s, X35 x0 x1 x2 x3 s → Y35 x0 x1 x2 x3 s) (hX55 : ∀ x0 x1 x2 x3 s, X55 x0 x1 x2 x3 s → Y55 x0 x1 x2 x3 s) (hX71 : ∀ x0 x4 x5 s, X71 x0 x4 x5 s → Y71 x0 x4 x5 s) (hQ : ∀ r s, Q r s → R r s) {x0 : Nat} {x1 : Int} {x2 : Int} {s : Mem} (h : x1_toNextOrder_b4 X4 X35 X55 X71 Q x0 x1 x2 s) : x1_toNextOrder_b4 Y4 Y35 Y55 Y71 R x0 x1 x2 s :=
  ⟨h.1, fun c => have h := h.2.1 c; ⟨h.1, fun c => have h := h.2.1 c; hX35 _ _ _ _ _ h, fun c => have h := h.2.2 c; ⟨h.1, hQ _ _ h.2⟩⟩, fun c => have h := h.2.2 c; ⟨h.1, have h := h.2; ⟨h.1, have h := h.2; ⟨h.1, have h := h.2; ⟨h.1, have h := h.2; ⟨h.1, fun c => have h := h.2.1 c; ⟨h.1, fun c => have h := h.2.1 c; hX35 _ _ _ _ _ h, fun c => have h := h.2.2 c; ⟨h.1, hQ _ _ h.2⟩⟩, fun c => have h := h.2.2 c; hX4 _ _ _ _ h⟩⟩⟩⟩⟩⟩
theorem x1_toNextOrder_m35 {X4 Y4 : Nat → Int → Int → Mem → Prop} {X35 Y35 : Nat → Int → Int → Int → Mem → Prop} {X55 Y55 : Nat → Int → Int → Int → Mem → Prop} {X71 Y71 : Nat → Int → Int → Mem → Prop} {Q R : Int → Mem → Prop} (hX4 : ∀ x0 x1 x2 s, X4 x0 x1 x2 s → Y4 x0 x1 x2 s) (hX35 : ∀ x0 x1 x2 x3 s, X35 x0 x1 x2 x3 s → Y35 x0 x1 x2 x3 s) (hX55 : ∀ x0 x1 x2 x3 s, X55 x0 x1 x2 x3 s → Y55 x0 x1 x2 x3 s) (hX71 : ∀ x0 x4 x5 s, X71 x0 x4 x5 s → Y71 x0 x4 x5 s) (hQ : ∀ r s, Q r s → R r s) {x0 : Nat} {x1 : Int} {x2 : Int} {x3 : Int} {s : Mem} (h : x1_toNextOrder_b35 X4 X35 X55 X71 Q x0 x1 x2 x3 s) : x1_toNextOrder_b35 Y4 Y35 Y55 Y71 R x0 x1 x2 x3 s :=
  ⟨h.1, fun c => have h := h.2.1 c; hX55 _ _ _ _ _ h, fun c => have h := h.2.2 c; ⟨h.1, have h := h.2; ⟨h.1, have h := h.2; ⟨h.1, have h := h.2; ⟨h.1, have h := h.2; ⟨h.1, fun c => have h := h.2.1 c; hX55 _ _ _ _ _ h, fun c => have h := h.2.2 c; hX35 _ _ _ _ _ h⟩⟩⟩⟩⟩⟩
theorem x1_toNextOrder_m55 {X4 Y4 : Nat → Int → Int → Mem → Prop} {X35 Y35 : Nat → Int → Int → Int → Mem → Prop} {X55 Y55 : Nat → Int → Int → Int → Mem → Prop} {X71 Y71 : Nat → Int → Int → Mem → Prop} {Q R : Int → Mem → Prop} (hX4 : ∀ x0 x1 x2 s, X4 x0 x1 x2 s → Y4 x0 x1 x2 s) (hX35 : ∀ x0 x1 x2 x3 s, X35 x0 x1 x2 x3 s → Y35 x0 x1 x2 x3 s) (hX55 : ∀ x0 x1 x2 x3 s, X55 x0 x1 x2 x3 s → Y55 x0 x1 x2 x3 s) (hX71 : ∀ x0 x4 x5 s, X71 x0 x4 x5 s → Y71 x0 x4 x5 s) (hQ : ∀ r s, Q r s → R r s) {x0 : Nat} {x1 : Int} {x2 : Int} {x3 : Int} {s : Mem} (h : x1_toNextOrder_b55 X4 X35 X55 X71 Q x0 x1 x2 x3 s) : x1_toNextOrder_b55 Y4 Y35 Y55 Y71 R x0 x1 x2 x3 s :=
  x1_swap_mono h (fun _ s7 h => hX71 _ _ _ _ h)
theorem x1_toNextOrder_m71 {X4 Y4 : Nat → Int → Int → Mem → Prop} {X35 Y35 : Nat → Int → Int → Int → Mem → Prop} {X55 Y55 : Nat → Int → Int → Int → Mem → Prop} {X71 Y71 : Nat → Int → Int → Mem → Prop} {Q R : Int → Mem → Prop} (hX4 : ∀ x0 x1 x2 s, X4 x0 x1 x2 s → Y4 x0 x1 x2 s) (hX35 : ∀ x0 x1 x2 x3 s, X35 x0 x1 x2 x3 s → Y35 x0 x1 x2 x3 s) (hX55 : ∀ x0 x1 x2 x3 s, X55 x0 x1 x2 x3 s → Y55 x0 x1 x2 x3 s) (hX71 : ∀ x0 x4 x5 s, X71 x0 x4 x5 s → Y71 x0 x4 x5 s) (hQ : ∀ r s, Q r s → R r s) {x0 : Nat} {x4 : Int} {x5 : Int} {s : Mem} (h : x1_toNextOrder_b71 X4 X35 X55 X71 Q x0 x4 x5 s) : x1_toNextOrder_b71 Y4 Y35 Y55 Y71 R x0 x4 x5 s :=
  ⟨h.1, fun c => have h := h.2.1 c; ⟨h.1, hQ _ _ h.2⟩, fun c => have h := h.2.2 c; x1_swap_mono h (fun _ s8 h => hX71 _ _ _ _ h)⟩
def x1_toNextOrder (p0 : Nat) (p1 : Int) (s : Mem) (Q : Int → Mem → Prop) : Prop := ∀ (X4 : Nat → Int → Int → Mem → Prop) (X35 : Nat → Int → Int → Int → Mem → Prop) (X55 : Nat → Int → Int → Int → Mem → Prop) (X71 : Nat → Int → Int → Mem → Prop), (∀ x0 x1 x2 s, x1_toNextOrder_b4 X4 X35 X55 X71 Q x0 x1 x2 s → X4 x0 x1 x2 s) → (∀ x0 x1 x2 x3 s, x1_toNextOrder_b35 X4 X35 X55 X71 Q x0 x1 x2 x3 s → X35 x0 x1 x2 x3 s) → (∀ x0 x1 x2 x3 s, x1_toNextOrder_b55 X4 X35 X55 X71 Q x0 x1 x2 x3 s → X55 x0 x1 x2 x3 s) → (∀ x0 x4 x5 s, x1_toNextOrder_b71 X4 X35 X55 X71 Q x0 x4 x5 s → X71 x0 x4 x5 s) → x1_toNextOrder_be X4 X35 X55 X71 Q p0 p1 s
def x1_toNextOrder_L4 (Q : Int → Mem → Prop) (x0 : Nat) (x1 : Int) (x2 : Int) (s : Mem) : Prop := ∀ (X4 : Nat → Int → Int → Mem → Prop) (X35 : Nat → Int → Int → Int → Mem → Prop) (X55 : Nat → Int → Int → Int → Mem → Prop) (X71 : Nat → Int → Int → Mem → Prop), (∀ x0 x1 x2 s, x1_toNextOrder_b4 X4 X35 X55 X71 Q x0 x1 x2 s → X4 x0 x1 x2 s) → (∀ x0 x1 x2 x3 s, x1_toNextOrder_b35 X4 X35 X55 X71 Q x0 x1 x2 x3 s → X35 x0 x1 x2 x3 s) → (∀ x0 x1 x2 x3 s, x1_toNextOrder_b55 X4 X35 X55 X71 Q x0 x1 x2 x3 s → X55 x0 x1 x2 x3 s) → (∀ x0 x4 x5 s, x1_toNextOrder_b71 X4 X35 X55 X71 Q x0 x4 x5 s → X71 x0 x4 x5 s) → X4 x0 x1 x2 s
def x1_toNextOrder_L35 (Q : Int → Mem → Prop) (x0 : Nat) (x1 : Int) (x2 : Int) (x3 : Int) (s : Mem) : Prop := ∀ (X4 : Nat → Int → Int → Mem → Prop) (X35 : Nat → Int → Int → Int → Mem → Prop) (X55 : Nat → Int → Int → Int → Mem → Prop) (X71 : Nat → Int → Int → Mem → Prop), (∀ x0 x1 x2 s, x1_toNextOrder_b4 X4 X35 X55 X71 Q x0 x1 x2 s → X4 x0 x1 x2 s) → (∀ x0 x1 x2 x3 s, x1_toNextOrder_b35 X4 X35 X55 X71 Q x0 x1 x2 x3 s → X35 x0 x1 x2 x3 s) → (∀ x0 x1 x2 x3 s, x1_toNextOrder_b55 X4 X35 X55 X71 Q x0 x1 x2 x3 s → X55 x0 x1 x2 x3 s) → (∀ x0 x4 x5 s, x1_toNextOrder_b71 X4 X35 X55 X71 Q x0 x4 x5 s → X71 x0 x4 x5 s) → X35 x0 x1 x2 x3 s
def x1_toNextOrder_L55 (Q : Int → Mem → Prop) (x0 : Nat) (x1 : Int) (x2 : Int) (x3 : Int) (s : Mem) : Prop := ∀ (X4 : Nat → Int → Int → Mem → Prop) (X35 : Nat → Int → Int → Int → Mem → Prop) (X55 : Nat → Int → Int → Int → Mem → Prop) (X71 : Nat → Int → Int → Mem → Prop), (∀ x0 x1 x2 s, x1_toNextOrder_b4 X4 X35 X55 X71 Q x0 x1 x2 s → X4 x0 x1 x2 s) → (∀ x0 x1 x2 x3 s, x1_toNextOrder_b35 X4 X35 X55 X71 Q x0 x1 x2 x3 s → X35 x0 x1 x2 x3 s) → (∀ x0 x1 x2 x3 s, x1_toNextOrder_b55 X4 X35 X55 X71 Q x0 x1 x2 x3 s → X55 x0 x1 x2 x3 s) → (∀ x0 x4 x5 s, x1_toNextOrder_b71 X4 X35 X55 X71 Q x0 x4 x5 s → X71 x0 x4 x5 s) → X55 x0 x1 x2 x3 s
def x1_toNextOrder_L71 (Q : Int → Mem → Prop) (x0 : Nat) (x4 : Int) (x5 : Int) (s : Mem) : Prop := ∀ (X4 : Nat → Int → Int → Mem → Prop) (X35 : Nat → Int → Int → Int → Mem → Prop) (X55 : Nat → Int → Int → Int → Mem → Prop) (X71 : Nat → Int → Int → Mem → Prop), (∀ x0 x1 x2 s, x1_toNextOrder_b4 X4 X35 X55 X71 Q x0 x1 x2 s → X4 x0 x1 x2 s) → (∀ x0 x1 x2 x3 s, x1_toNextOrder_b35 X4 X35 X55 X71 Q x0 x1 x2 x3 s → X35 x0 x1 x2 x3 s) → (∀ x0 x1 x2 x3 s, x1_toNextOrder_b55 X4 X35 X55 X71 Q x0 x1 x2 x3 s → X55 x0 x1 x2 x3 s) → (∀ x0 x4 x5 s, x1_toNextOrder_b71 X4 X35 X55 X71 Q x0 x4 x5 s → X71 x0 x4 x5 s) → X71 x0 x4 x5 s
theorem x1_toNextOrder_i {Q : Int → Mem → Prop} {p0 : Nat} {p1 : Int} {s : Mem} (h : x1_toNextOrder_be (x1_toNextOrder_L4 Q) (x1_toNextOrder_L35 Q) (x1_toNextOrder_L55 Q) (x1_toNextOrder_L71 Q) Q p0 p1 s) : x1_toNextOrder p0 p1 s Q := fun X4 X35 X55 X71 k4 k35 k55 k71 => x1_toNextOrder_me (fun _ _ _ _ h => h X4 X35 X55 X71 k4 k35 k55 k71) (fun _ _ _ _ _ h => h X4 X35 X55 X71 k4 k35 k55 k71) (fun _ _ _ _ _ h => h X4 X35 X55 X71 k4 k35 k55 k71) (fun _ _ _ _ h => h X4 X35 X55 X71 k4 k35 k55 k71) (fun _ _ h => h) h
theorem x1_toNextOrder_s4 {Q : Int → Mem → Prop} {x0 : Nat} {x1 : Int} {x2 : Int} {s : Mem} (h : x1_toNextOrder_b4 (x1_toNextOrder_L4 Q) (x1_toNextOrder_L35 Q) (x1_toNextOrder_L55 Q) (x1_toNextOrder_L71 Q) Q x0 x1 x2 s) : x1_toNextOrder_L4 Q x0 x1 x2 s := fun X4 X35 X55 X71 k4 k35 k55 k71 => k4 _ _ _ _ (x1_toNextOrder_m4 (fun _ _ _ _ h => h X4 X35 X55 X71 k4 k35 k55 k71) (fun _ _ _ _ _ h => h X4 X35 X55 X71 k4 k35 k55 k71) (fun _ _ _ _ _ h => h X4 X35 X55 X71 k4 k35 k55 k71) (fun _ _ _ _ h => h X4 X35 X55 X71 k4 k35 k55 k71) (fun _ _ h => h) h)
theorem x1_toNextOrder_s35 {Q : Int → Mem → Prop} {x0 : Nat} {x1 : Int} {x2 : Int} {x3 : Int} {s : Mem} (h : x1_toNextOrder_b35 (x1_toNextOrder_L4 Q) (x1_toNextOrder_L35 Q) (x1_toNextOrder_L55 Q) (x1_toNextOrder_L71 Q) Q x0 x1 x2 x3 s) : x1_toNextOrder_L35 Q x0 x1 x2 x3 s := fun X4 X35 X55 X71 k4 k35 k55 k71 => k35 _ _ _ _ _ (x1_toNextOrder_m35 (fun _ _ _ _ h => h X4 X35 X55 X71 k4 k35 k55 k71) (fun _ _ _ _ _ h => h X4 X35 X55 X71 k4 k35 k55 k71) (fun _ _ _ _ _ h => h X4 X35 X55 X71 k4 k35 k55 k71) (fun _ _ _ _ h => h X4 X35 X55 X71 k4 k35 k55 k71) (fun _ _ h => h) h)
theorem x1_toNextOrder_s55 {Q : Int → Mem → Prop} {x0 : Nat} {x1 : Int} {x2 : Int} {x3 : Int} {s : Mem} (h : x1_toNextOrder_b55 (x1_toNextOrder_L4 Q) (x1_toNextOrder_L35 Q) (x1_toNextOrder_L55 Q) (x1_toNextOrder_L71 Q) Q x0 x1 x2 x3 s) : x1_toNextOrder_L55 Q x0 x1 x2 x3 s := fun X4 X35 X55 X71 k4 k35 k55 k71 => k55 _ _ _ _ _ (x1_toNextOrder_m55 (fun _ _ _ _ h => h X4 X35 X55 X71 k4 k35 k55 k71) (fun _ _ _ _ _ h => h X4 X35 X55 X71 k4 k35 k55 k71) (fun _ _ _ _ _ h => h X4 X35 X55 X71 k4 k35 k55 k71) (fun _ _ _ _ h => h X4 X35 X55 X71 k4 k35 k55 k71) (fun _ _ h => h) h)
theorem x1_toNextOrder_s71 {Q : Int → Mem → Prop} {x0 : Nat} {x4 : Int} {x5 : Int} {s : Mem} (h : x1_toNextOrder_b71 (x1_toNextOrder_L4 Q) (x1_toNextOrder_L35 Q) (x1_toNextOrder_L55 Q) (x1_toNextOrder_L71 Q) Q x0 x4 x5 s) : x1_toNextOrder_L71 Q x0 x4 x5 s := fun X4 X35 X55 X71 k4 k35 k55 k71 => k71 _ _ _ _ (x1_toNextOrder_m71 (fun _ _ _ _ h => h X4 X35 X55 X71 k4 k35 k55 k71) (fun _ _ _ _ _ h => h X4 X35 X55 X71 k4 k35 k55 k71) (fun _ _ _ _ _ h => h X4 X35 X55 X71 k4 k35 k55 k71) (fun _ _ _ _ h => h X4 X35 X55 X71 k4 k35 k55 k71) (fun _ _ h => h) h)
theorem x1_toNextOrder_mono {Q R : Int → Mem → Prop} {p0 : Nat} {p1 : Int} {s : Mem} (h : x1_toNextOrder p0 p1 s Q) (hQ : ∀ r s, Q r s → R r s) : x1_toNextOrder p0 p1 s R := fun X4 X35 X55 X71 k4 k35 k55 k71 => x1_toNextOrder_me (fun _ _ _ _ h => h) (fun _ _ _ _ _ h => h) (fun _ _ _ _ _ h => h) (fun _ _ _ _ h => h) hQ (h X4 X35 X55 X71 (fun _ _ _ _ h => k4 _ _ _ _ (x1_toNextOrder_m4 (fun _ _ _ _ h => h) (fun _ _ _ _ _ h => h) (fun _ _ _ _ _ h => h) (fun _ _ _ _ h => h) hQ h)) (fun _ _ _ _ _ h => k35 _ _ _ _ _ (x1_toNextOrder_m35 (fun _ _ _ _ h => h) (fun _ _ _ _ _ h => h) (fun _ _ _ _ _ h => h) (fun _ _ _ _ h => h) hQ h)) (fun _ _ _ _ _ h => k55 _ _ _ _ _ (x1_toNextOrder_m55 (fun _ _ _ _ h => h) (fun _ _ _ _ _ h => h) (fun _ _ _ _ _ h => h) (fun _ _ _ _ h => h) hQ h)) (fun _ _ _ _ h => k71 _ _ _ _ (x1_toNextOrder_m71 (fun _ _ _ _ h => h) (fun _ _ _ _ _ h => h) (fun _ _ _ _ _ h => h) (fun _ _ _ _ h => h) hQ h)))
def x1_toNextOrder_rm : Room := { frames := 1, cells := 0, slots := 0, locals := 23 }
set_option maxHeartbeats 4000000 in
set_option maxRecDepth 100000 in
theorem x1_toNextOrder_bd {κ : KT} {ad : Nat → Nat} {cA : Nat → ClassId} {D : va_G} {Q : State → Prop} {p0 : Nat} {p1 : Int} {s : Mem} (C : CX κ (GA ad cA D) RX1 cX1_toNextOrder 6 wsX1_toNextOrder x1_toNextOrder_rm (some .boolean)) (h : x1_toNextOrder p0 p1 s (RT κ (GA ad cA D) ocI Q)) : WM κ (GA ad cA D) 6 Q s 0 [(0, .ref (ad p0)), (1, vI p1)] [] := by
  obtain ⟨Z4, z4⟩ : ∃ Z : Nat → Int → Int → Mem → Prop, ∀ x0 x1 x2 s, Z x0 x1 x2 s ↔ WM κ (GA ad cA D) 6 Q s 4 [(0, .ref (ad x0)), (1, vI x1), (2, vI x2)] [] := ⟨fun x0 x1 x2 s => WM κ (GA ad cA D) 6 Q s 4 [(0, .ref (ad x0)), (1, vI x1), (2, vI x2)] [], fun _ _ _ _ => Iff.rfl⟩
  obtain ⟨Z35, z35⟩ : ∃ Z : Nat → Int → Int → Int → Mem → Prop, ∀ x0 x1 x2 x3 s, Z x0 x1 x2 x3 s ↔ WM κ (GA ad cA D) 6 Q s 35 [(0, .ref (ad x0)), (1, vI x1), (2, vI x2), (3, vI x3)] [] := ⟨fun x0 x1 x2 x3 s => WM κ (GA ad cA D) 6 Q s 35 [(0, .ref (ad x0)), (1, vI x1), (2, vI x2), (3, vI x3)] [], fun _ _ _ _ _ => Iff.rfl⟩
  obtain ⟨Z55, z55⟩ : ∃ Z : Nat → Int → Int → Int → Mem → Prop, ∀ x0 x1 x2 x3 s, Z x0 x1 x2 x3 s ↔ WM κ (GA ad cA D) 6 Q s 55 [(0, .ref (ad x0)), (1, vI x1), (2, vI x2), (3, vI x3)] [] := ⟨fun x0 x1 x2 x3 s => WM κ (GA ad cA D) 6 Q s 55 [(0, .ref (ad x0)), (1, vI x1), (2, vI x2), (3, vI x3)] [], fun _ _ _ _ _ => Iff.rfl⟩
  obtain ⟨Z71, z71⟩ : ∃ Z : Nat → Int → Int → Mem → Prop, ∀ x0 x4 x5 s, Z x0 x4 x5 s ↔ WM κ (GA ad cA D) 6 Q s 71 [(0, .ref (ad x0)), (4, vI x4), (5, vI x5)] [] := ⟨fun x0 x4 x5 s => WM κ (GA ad cA D) 6 Q s 71 [(0, .ref (ad x0)), (4, vI x4), (5, vI x5)] [], fun _ _ _ _ => Iff.rfl⟩
  refine (fun h => ?_) (h Z4 Z35 Z55 Z71 ?_ ?_ ?_ ?_)
  · refine r_iload_n C 1 dX1_toNextOrder_0 rfl ?_
    refine r_iconst C dX1_toNextOrder_1 ?_
    refine r_isub C dX1_toNextOrder_2 ?_
    refine r_istore_n (ls' := [(2, vI (p1 - (2 : Int))), (0, .ref (ad p0)), (1, vI p1)]) C dX1_toNextOrder_3 rfl (by decide) rfl ?_
    exact r_perm [1, 2, 0] rfl ((z4 _ _ _ _).1 h)
  · intro x0 x1 x2 s h
    refine (z4 _ _ _ _).2 ?_
    refine r_iload_n C 2 dX1_toNextOrder_4 rfl ?_
    refine r_if_lt (tgt := 25) C dX1_toNextOrder_5 (by decide) ⟨h.1, fun c4 => ?_, fun c4 => ?_⟩
    · have h := h.2.1 c4
      refine r_iload_n C 2 dX1_toNextOrder_25 rfl ?_
      refine r_if_ge (tgt := 31) C dX1_toNextOrder_26 (by decide) ⟨h.1, fun c1 => ?_, fun c1 => ?_⟩
      · have h := h.2.1 c1
        refine r_iload_n C 1 dX1_toNextOrder_31 rfl ?_
        refine r_iconst C dX1_toNextOrder_32 ?_
        refine r_isub C dX1_toNextOrder_33 ?_
        refine r_istore_n (ls' := [(3, vI (x1 - (1 : Int))), (0, .ref (ad x0)), (1, vI x1), (2, vI x2)]) C dX1_toNextOrder_34 rfl (by decide) rfl ?_
        exact r_perm [1, 2, 3, 0] rfl ((z35 _ _ _ _ _).1 h)
      · have h := h.2.2 c1
        refine r_iconst C dX1_toNextOrder_29 ?_
        exact r_zreturn C dX1_toNextOrder_30 h
    · have h := h.2.2 c4
      refine r_aload_n C 0 dX1_toNextOrder_8 rfl ?_
      refine r_iload_n C 2 dX1_toNextOrder_9 rfl ?_
      have hg := h.1
      have h := h.2
      refine r_iald (nz := 6) C dX1_toNextOrder_10 (hg) rfl (by decide) ⟨h.1, ?_⟩
      have h := h.2
      refine r_aload_n C 0 dX1_toNextOrder_11 rfl ?_
      refine r_iload_n C 2 dX1_toNextOrder_12 rfl ?_
      refine r_iconst C dX1_toNextOrder_13 ?_
      refine r_iadd C dX1_toNextOrder_14 ?_
      have hg := h.1
      have h := h.2
      refine r_iald (nz := 6) C dX1_toNextOrder_15 (hg) rfl (by decide) ⟨h.1, ?_⟩
      have h := h.2
      refine r_icmp_le (tgt := 25) C dX1_toNextOrder_16 (by decide) ⟨h.1, fun c3 => ?_, fun c3 => ?_⟩
      · have h := h.2.1 c3
        refine r_iload_n C 2 dX1_toNextOrder_25 rfl ?_
        refine r_if_ge (tgt := 31) C dX1_toNextOrder_26 (by decide) ⟨h.1, fun c2 => ?_, fun c2 => ?_⟩
        · have h := h.2.1 c2
          refine r_iload_n C 1 dX1_toNextOrder_31 rfl ?_
          refine r_iconst C dX1_toNextOrder_32 ?_
          refine r_isub C dX1_toNextOrder_33 ?_
          refine r_istore_n (ls' := [(3, vI (x1 - (1 : Int))), (0, .ref (ad x0)), (1, vI x1), (2, vI x2)]) C dX1_toNextOrder_34 rfl (by decide) rfl ?_
          exact r_perm [1, 2, 3, 0] rfl ((z35 _ _ _ _ _).1 h)
        · have h := h.2.2 c2
          refine r_iconst C dX1_toNextOrder_29 ?_
          exact r_zreturn C dX1_toNextOrder_30 h
      · have h := h.2.2 c3
        refine r_iinc (j := 2) (ls' := [(2, vI (x2 + (-1 : Int))), (0, .ref (ad x0)), (1, vI x1)]) C dX1_toNextOrder_19 rfl (by decide) rfl ?_
        refine r_goto (tgt := 4) C dX1_toNextOrder_22 (by decide) ?_
        exact r_perm [1, 2, 0] rfl ((z4 _ _ _ _).1 h)
  · intro x0 x1 x2 x3 s h
    refine (z35 _ _ _ _ _).2 ?_
    refine r_iload_n C 3 dX1_toNextOrder_35 rfl ?_
    refine r_iload_n C 2 dX1_toNextOrder_36 rfl ?_
    refine r_icmp_le (tgt := 55) C dX1_toNextOrder_37 (by decide) ⟨h.1, fun c6 => ?_, fun c6 => ?_⟩
    · have h := h.2.1 c6
      exact r_perm [0, 1, 2, 3] rfl ((z55 _ _ _ _ _).1 h)
    · have h := h.2.2 c6
      refine r_aload_n C 0 dX1_toNextOrder_40 rfl ?_
      refine r_iload_n C 3 dX1_toNextOrder_41 rfl ?_
      have hg := h.1
      have h := h.2
      refine r_iald (nz := 6) C dX1_toNextOrder_42 (hg) rfl (by decide) ⟨h.1, ?_⟩
      have h := h.2
      refine r_aload_n C 0 dX1_toNextOrder_43 rfl ?_
      refine r_iload_n C 2 dX1_toNextOrder_44 rfl ?_
      have hg := h.1
      have h := h.2
      refine r_iald (nz := 6) C dX1_toNextOrder_45 (hg) rfl (by decide) ⟨h.1, ?_⟩
      have h := h.2
      refine r_icmp_ge (tgt := 55) C dX1_toNextOrder_46 (by decide) ⟨h.1, fun c5 => ?_, fun c5 => ?_⟩
      · have h := h.2.1 c5
        exact r_perm [0, 1, 2, 3] rfl ((z55 _ _ _ _ _).1 h)
      · have h := h.2.2 c5
        refine r_iinc (j := 3) (ls' := [(3, vI (x3 + (-1 : Int))), (0, .ref (ad x0)), (1, vI x1), (2, vI x2)]) C dX1_toNextOrder_49 rfl (by decide) rfl ?_
        refine r_goto (tgt := 35) C dX1_toNextOrder_52 (by decide) ?_
        exact r_perm [1, 2, 3, 0] rfl ((z35 _ _ _ _ _).1 h)
  · intro x0 x1 x2 x3 s h
    refine (z55 _ _ _ _ _).2 ?_
    refine r_aload_n C 0 dX1_toNextOrder_55 rfl ?_
    refine r_iload_n C 2 dX1_toNextOrder_56 rfl ?_
    refine r_iload_n C 3 dX1_toNextOrder_57 rfl ?_
    refine r_callS (As := [.ref (ad x0), vI x2, vI x3]) (n := 3) C dX1_toNextOrder_58 (x1_swap_ct κ.1.2.1 ad cA D x0 x2 x3 s) gX1_toNextOrder_X1_swap rfl ⟨rfl, rfl⟩ (by decide +kernel) (by decide) rfl rfl (Nat.le_of_ble_eq_true rfl) (fun _ => rfl) ?_
    refine x1_swap_mono h (fun _ s7 h => ?_)
    refine r_iload_n C 2 dX1_toNextOrder_61 rfl ?_
    refine r_iconst C dX1_toNextOrder_62 ?_
    refine r_iadd C dX1_toNextOrder_63 ?_
    refine r_istore (ls' := [(4, vI (x2 + (1 : Int))), (0, .ref (ad x0)), (1, vI x1), (2, vI x2), (3, vI x3)]) C dX1_toNextOrder_64 (by decide) rfl ?_
    refine r_iload_n C 2 dX1_toNextOrder_66 rfl ?_
    refine r_iconst C dX1_toNextOrder_67 ?_
    refine r_isub C dX1_toNextOrder_68 ?_
    refine r_istore (ls' := [(5, vI (x1 - (1 : Int))), (4, vI (x2 + (1 : Int))), (0, .ref (ad x0)), (1, vI x1), (2, vI x2), (3, vI x3)]) C dX1_toNextOrder_69 (by decide) rfl ?_
    exact r_perm [2, 1, 0] rfl ((z71 _ _ _ _).1 h)
  · intro x0 x4 x5 s h
    refine (z71 _ _ _ _).2 ?_
    refine r_iload C 1 dX1_toNextOrder_71 rfl ?_
    refine r_iload C 2 dX1_toNextOrder_73 rfl ?_
    refine r_icmp_ge (tgt := 95) C dX1_toNextOrder_75 (by decide) ⟨h.1, fun c9 => ?_, fun c9 => ?_⟩
    · have h := h.2.1 c9
      refine r_iconst C dX1_toNextOrder_95 ?_
      exact r_zreturn C dX1_toNextOrder_96 h
    · have h := h.2.2 c9
      refine r_aload_n C 0 dX1_toNextOrder_78 rfl ?_
      refine r_iload C 1 dX1_toNextOrder_79 rfl ?_
      refine r_iload C 2 dX1_toNextOrder_81 rfl ?_
      refine r_callS (As := [.ref (ad x0), vI x4, vI x5]) (n := 3) C dX1_toNextOrder_83 (x1_swap_ct κ.1.2.1 ad cA D x0 x4 x5 s) gX1_toNextOrder_X1_swap rfl ⟨rfl, rfl⟩ (by decide +kernel) (by decide) rfl rfl (Nat.le_of_ble_eq_true rfl) (fun _ => rfl) ?_
      refine x1_swap_mono h (fun _ s8 h => ?_)
      refine r_iinc (j := 1) (ls' := [(4, vI (x4 + (1 : Int))), (0, .ref (ad x0)), (5, vI x5)]) C dX1_toNextOrder_86 rfl (by decide) rfl ?_
      refine r_iinc (j := 2) (ls' := [(5, vI (x5 + (-1 : Int))), (4, vI (x4 + (1 : Int))), (0, .ref (ad x0))]) C dX1_toNextOrder_89 rfl (by decide) rfl ?_
      refine r_goto (tgt := 71) C dX1_toNextOrder_92 (by decide) ?_
      exact r_perm [2, 1, 0] rfl ((z71 _ _ _ _).1 h)
theorem x1_toNextOrder_ct (l : Launch) (ad : Nat → Nat) (cA : Nat → ClassId) (D : va_G) (p0 : Nat) (p1 : Int) (s : Mem) : MG l yX1_toNextOrder wsX1_toNextOrder x1_toNextOrder_rm ocI [.ref (ad p0), vI p1] (GA ad cA D) s (x1_toNextOrder p0 p1 s) :=
  m_met (own := RX1) (nL := 6) (by decide) rfl rfl (Nat.le_of_ble_eq_true rfl) rfl rfl rfl (fun κ hl C Q Pst hW hQ => x1_toNextOrder_bd C (x1_toNextOrder_mono hW hQ))

def x1_findBestRow_be (X40 : Int → Int → Int → Int → Mem → Prop) (X77 : Int → Int → Int → Int → Int → Mem → Prop) (X140 : Int → Int → Int → Int → Int → Mem → Prop) (X167 : Int → Int → Int → Mem → Prop) (Q : Int → Mem → Prop) (p2 : Int) (s : Mem) : Prop :=
  x1_keepTurns s (fun _ s1 => x2_sumOf 4 s1 (fun r3 s2 => ((0 ≤ (0 : Int) ∧ 0 ≤ (0 : Int) ∧ 0 ≤ (6 : Int)) ∧ (0 : Int) + (6 : Int) ≤ 6 ∧ (0 : Int) + (6 : Int) ≤ 6) ∧ ∀ s4 : Mem, s4 = m_cpy s2 22 21 (0 : Int) (0 : Int) (6 : Int) → ∀ s5 : Mem, s5 = m_upd s4 13 (0 : Int) (-1 : Int) → X40 p2 r3 (1 : Int) (0 : Int) s5))
def x1_findBestRow_b40 (X40 : Int → Int → Int → Int → Mem → Prop) (X77 : Int → Int → Int → Int → Int → Mem → Prop) (X140 : Int → Int → Int → Int → Int → Mem → Prop) (X167 : Int → Int → Int → Mem → Prop) (Q : Int → Mem → Prop) (x2 : Int) (x3 : Int) (x4 : Int) (x5 : Int) (s : Mem) : Prop :=
  (InI x5 ∧ InI (720 : Int)) ∧ ((720 : Int) ≤ x5 → Q (0 : Int) s) ∧ (x5 < (720 : Int) → InI x4 ∧ (x4 = (0 : Int) → Q (0 : Int) s) ∧ (¬ x4 = (0 : Int) → (InI (s 13 (0 : Int)) ∧ InI (-1 : Int)) ∧ (¬ (s 13 (0 : Int)) = (-1 : Int) → X77 x2 x3 x5 (s 13 (0 : Int)) x2 s) ∧ ((s 13 (0 : Int)) = (-1 : Int) → X77 x2 x3 x5 (20 : Int) x2 s)))
def x1_findBestRow_b77 (X40 : Int → Int → Int → Int → Mem → Prop) (X77 : Int → Int → Int → Int → Int → Mem → Prop) (X140 : Int → Int → Int → Int → Int → Mem → Prop) (X167 : Int → Int → Int → Mem → Prop) (Q : Int → Mem → Prop) (x2 : Int) (x3 : Int) (x5 : Int) (t0 : Int) (t1 : Int) (s : Mem) : Prop :=
  x1_goRounds 21 t1 t0 s (fun r10 s9 => x2_sumOf 4 s9 (fun r12 s11 => x1_putTurnsBack s11 (fun _ s13 => (InI r10 ∧ InI (-1 : Int)) ∧ (r10 = (-1 : Int) → X167 x2 x3 x5 s13) ∧ (¬ r10 = (-1 : Int) → (InI (s13 13 (0 : Int)) ∧ InI (-1 : Int)) ∧ ((s13 13 (0 : Int)) = (-1 : Int) → X140 x2 x3 x5 r10 (r12 - x3) s13) ∧ (¬ (s13 13 (0 : Int)) = (-1 : Int) → (InI r10 ∧ InI (s13 13 (0 : Int))) ∧ (r10 < (s13 13 (0 : Int)) → X140 x2 x3 x5 r10 (r12 - x3) s13) ∧ ((s13 13 (0 : Int)) ≤ r10 → (InI r10 ∧ InI (s13 13 (0 : Int))) ∧ (¬ r10 = (s13 13 (0 : Int)) → X167 x2 x3 x5 s13) ∧ (r10 = (s13 13 (0 : Int)) → (InI (r12 - x3) ∧ InI (s13 13 (1 : Int))) ∧ ((s13 13 (1 : Int)) ≤ (r12 - x3) → X167 x2 x3 x5 s13) ∧ ((r12 - x3) < (s13 13 (1 : Int)) → X140 x2 x3 x5 r10 (r12 - x3) s13))))))))
def x1_findBestRow_b140 (X40 : Int → Int → Int → Int → Mem → Prop) (X77 : Int → Int → Int → Int → Int → Mem → Prop) (X140 : Int → Int → Int → Int → Int → Mem → Prop) (X167 : Int → Int → Int → Mem → Prop) (Q : Int → Mem → Prop) (x2 : Int) (x3 : Int) (x5 : Int) (x6 : Int) (x7 : Int) (s : Mem) : Prop :=
  ∀ s19 : Mem, s19 = m_upd s 13 (0 : Int) x6 → ∀ s20 : Mem, s20 = m_upd s19 13 (1 : Int) x7 → x1_figuresOf 21 (s20 1 (0 : Int)) s20 (fun r22 s21 => ∀ s23 : Mem, s23 = m_upd s21 13 (2 : Int) r22 → X167 x2 x3 x5 s23)
def x1_findBestRow_b167 (X40 : Int → Int → Int → Int → Mem → Prop) (X77 : Int → Int → Int → Int → Int → Mem → Prop) (X140 : Int → Int → Int → Int → Int → Mem → Prop) (X167 : Int → Int → Int → Mem → Prop) (Q : Int → Mem → Prop) (x2 : Int) (x3 : Int) (x5 : Int) (s : Mem) : Prop :=
  x1_toNextOrder 21 (s 1 (0 : Int)) s (fun r25 s24 => X40 x2 x3 r25 (x5 + (1 : Int)) s24)
theorem x1_findBestRow_me {X40 Y40 : Int → Int → Int → Int → Mem → Prop} {X77 Y77 : Int → Int → Int → Int → Int → Mem → Prop} {X140 Y140 : Int → Int → Int → Int → Int → Mem → Prop} {X167 Y167 : Int → Int → Int → Mem → Prop} {Q R : Int → Mem → Prop} (hX40 : ∀ x2 x3 x4 x5 s, X40 x2 x3 x4 x5 s → Y40 x2 x3 x4 x5 s) (hX77 : ∀ x2 x3 x5 t0 t1 s, X77 x2 x3 x5 t0 t1 s → Y77 x2 x3 x5 t0 t1 s) (hX140 : ∀ x2 x3 x5 x6 x7 s, X140 x2 x3 x5 x6 x7 s → Y140 x2 x3 x5 x6 x7 s) (hX167 : ∀ x2 x3 x5 s, X167 x2 x3 x5 s → Y167 x2 x3 x5 s) (hQ : ∀ r s, Q r s → R r s) {p2 : Int} {s : Mem} (h : x1_findBestRow_be X40 X77 X140 X167 Q p2 s) : x1_findBestRow_be Y40 Y77 Y140 Y167 R p2 s :=
  x1_keepTurns_mono h (fun _ s1 h => x2_sumOf_mono h (fun r3 s2 h => ⟨h.1, have h := h.2; fun s4 e_s4 => have h := h s4 e_s4; fun s5 e_s5 => have h := h s5 e_s5; hX40 _ _ _ _ _ h⟩))
theorem x1_findBestRow_m40 {X40 Y40 : Int → Int → Int → Int → Mem → Prop} {X77 Y77 : Int → Int → Int → Int → Int → Mem → Prop} {X140 Y140 : Int → Int → Int → Int → Int → Mem → Prop} {X167 Y167 : Int → Int → Int → Mem → Prop} {Q R : Int → Mem → Prop} (hX40 : ∀ x2 x3 x4 x5 s, X40 x2 x3 x4 x5 s → Y40 x2 x3 x4 x5 s) (hX77 : ∀ x2 x3 x5 t0 t1 s, X77 x2 x3 x5 t0 t1 s → Y77 x2 x3 x5 t0 t1 s) (hX140 : ∀ x2 x3 x5 x6 x7 s, X140 x2 x3 x5 x6 x7 s → Y140 x2 x3 x5 x6 x7 s) (hX167 : ∀ x2 x3 x5 s, X167 x2 x3 x5 s → Y167 x2 x3 x5 s) (hQ : ∀ r s, Q r s → R r s) {x2 : Int} {x3 : Int} {x4 : Int} {x5 : Int} {s : Mem} (h : x1_findBestRow_b40 X40 X77 X140 X167 Q x2 x3 x4 x5 s) : x1_findBestRow_b40 Y40 Y77 Y140 Y167 R x2 x3 x4 x5 s :=
  ⟨h.1, fun c => have h := h.2.1 c; hQ _ _ h, fun c => have h := h.2.2 c; ⟨h.1, fun c => have h := h.2.1 c; hQ _ _ h, fun c => have h := h.2.2 c; ⟨h.1, fun c => have h := h.2.1 c; hX77 _ _ _ _ _ _ h, fun c => have h := h.2.2 c; hX77 _ _ _ _ _ _ h⟩⟩⟩
theorem x1_findBestRow_m77 {X40 Y40 : Int → Int → Int → Int → Mem → Prop} {X77 Y77 : Int → Int → Int → Int → Int → Mem → Prop} {X140 Y140 : Int → Int → Int → Int → Int → Mem → Prop} {X167 Y167 : Int → Int → Int → Mem → Prop} {Q R : Int → Mem → Prop} (hX40 : ∀ x2 x3 x4 x5 s, X40 x2 x3 x4 x5 s → Y40 x2 x3 x4 x5 s) (hX77 : ∀ x2 x3 x5 t0 t1 s, X77 x2 x3 x5 t0 t1 s → Y77 x2 x3 x5 t0 t1 s) (hX140 : ∀ x2 x3 x5 x6 x7 s, X140 x2 x3 x5 x6 x7 s → Y140 x2 x3 x5 x6 x7 s) (hX167 : ∀ x2 x3 x5 s, X167 x2 x3 x5 s → Y167 x2 x3 x5 s) (hQ : ∀ r s, Q r s → R r s) {x2 : Int} {x3 : Int} {x5 : Int} {t0 : Int} {t1 : Int} {s : Mem} (h : x1_findBestRow_b77 X40 X77 X140 X167 Q x2 x3 x5 t0 t1 s) : x1_findBestRow_b77 Y40 Y77 Y140 Y167 R x2 x3 x5 t0 t1 s :=
  x1_goRounds_mono h (fun r10 s9 h => x2_sumOf_mono h (fun r12 s11 h => x1_putTurnsBack_mono h (fun _ s13 h => ⟨h.1, fun c => have h := h.2.1 c; hX167 _ _ _ _ h, fun c => have h := h.2.2 c; ⟨h.1, fun c => have h := h.2.1 c; hX140 _ _ _ _ _ _ h, fun c => have h := h.2.2 c; ⟨h.1, fun c => have h := h.2.1 c; hX140 _ _ _ _ _ _ h, fun c => have h := h.2.2 c; ⟨h.1, fun c => have h := h.2.1 c; hX167 _ _ _ _ h, fun c => have h := h.2.2 c; ⟨h.1, fun c => have h := h.2.1 c; hX167 _ _ _ _ h, fun c => have h := h.2.2 c; hX140 _ _ _ _ _ _ h⟩⟩⟩⟩⟩)))
theorem x1_findBestRow_m140 {X40 Y40 : Int → Int → Int → Int → Mem → Prop} {X77 Y77 : Int → Int → Int → Int → Int → Mem → Prop} {X140 Y140 : Int → Int → Int → Int → Int → Mem → Prop} {X167 Y167 : Int → Int → Int → Mem → Prop} {Q R : Int → Mem → Prop} (hX40 : ∀ x2 x3 x4 x5 s, X40 x2 x3 x4 x5 s → Y40 x2 x3 x4 x5 s) (hX77 : ∀ x2 x3 x5 t0 t1 s, X77 x2 x3 x5 t0 t1 s → Y77 x2 x3 x5 t0 t1 s) (hX140 : ∀ x2 x3 x5 x6 x7 s, X140 x2 x3 x5 x6 x7 s → Y140 x2 x3 x5 x6 x7 s) (hX167 : ∀ x2 x3 x5 s, X167 x2 x3 x5 s → Y167 x2 x3 x5 s) (hQ : ∀ r s, Q r s → R r s) {x2 : Int} {x3 : Int} {x5 : Int} {x6 : Int} {x7 : Int} {s : Mem} (h : x1_findBestRow_b140 X40 X77 X140 X167 Q x2 x3 x5 x6 x7 s) : x1_findBestRow_b140 Y40 Y77 Y140 Y167 R x2 x3 x5 x6 x7 s :=
  fun s19 e_s19 => have h := h s19 e_s19; fun s20 e_s20 => have h := h s20 e_s20; x1_figuresOf_mono h (fun r22 s21 h => fun s23 e_s23 => have h := h s23 e_s23; hX167 _ _ _ _ h)
theorem x1_findBestRow_m167 {X40 Y40 : Int → Int → Int → Int → Mem → Prop} {X77 Y77 : Int → Int → Int → Int → Int → Mem → Prop} {X140 Y140 : Int → Int → Int → Int → Int → Mem → Prop} {X167 Y167 : Int → Int → Int → Mem → Prop} {Q R : Int → Mem → Prop} (hX40 : ∀ x2 x3 x4 x5 s, X40 x2 x3 x4 x5 s → Y40 x2 x3 x4 x5 s) (hX77 : ∀ x2 x3 x5 t0 t1 s, X77 x2 x3 x5 t0 t1 s → Y77 x2 x3 x5 t0 t1 s) (hX140 : ∀ x2 x3 x5 x6 x7 s, X140 x2 x3 x5 x6 x7 s → Y140 x2 x3 x5 x6 x7 s) (hX167 : ∀ x2 x3 x5 s, X167 x2 x3 x5 s → Y167 x2 x3 x5 s) (hQ : ∀ r s, Q r s → R r s) {x2 : Int} {x3 : Int} {x5 : Int} {s : Mem} (h : x1_findBestRow_b167 X40 X77 X140 X167 Q x2 x3 x5 s) : x1_findBestRow_b167 Y40 Y77 Y140 Y167 R x2 x3 x5 s :=
  x1_toNextOrder_mono h (fun r25 s24 h => hX40 _ _ _ _ _ h)
def x1_findBestRow (p2 : Int) (s : Mem) (Q : Int → Mem → Prop) : Prop := ∀ (X40 : Int → Int → Int → Int → Mem → Prop) (X77 : Int → Int → Int → Int → Int → Mem → Prop) (X140 : Int → Int → Int → Int → Int → Mem → Prop) (X167 : Int → Int → Int → Mem → Prop), (∀ x2 x3 x4 x5 s, x1_findBestRow_b40 X40 X77 X140 X167 Q x2 x3 x4 x5 s → X40 x2 x3 x4 x5 s) → (∀ x2 x3 x5 t0 t1 s, x1_findBestRow_b77 X40 X77 X140 X167 Q x2 x3 x5 t0 t1 s → X77 x2 x3 x5 t0 t1 s) → (∀ x2 x3 x5 x6 x7 s, x1_findBestRow_b140 X40 X77 X140 X167 Q x2 x3 x5 x6 x7 s → X140 x2 x3 x5 x6 x7 s) → (∀ x2 x3 x5 s, x1_findBestRow_b167 X40 X77 X140 X167 Q x2 x3 x5 s → X167 x2 x3 x5 s) → x1_findBestRow_be X40 X77 X140 X167 Q p2 s
def x1_findBestRow_L40 (Q : Int → Mem → Prop) (x2 : Int) (x3 : Int) (x4 : Int) (x5 : Int) (s : Mem) : Prop := ∀ (X40 : Int → Int → Int → Int → Mem → Prop) (X77 : Int → Int → Int → Int → Int → Mem → Prop) (X140 : Int → Int → Int → Int → Int → Mem → Prop) (X167 : Int → Int → Int → Mem → Prop), (∀ x2 x3 x4 x5 s, x1_findBestRow_b40 X40 X77 X140 X167 Q x2 x3 x4 x5 s → X40 x2 x3 x4 x5 s) → (∀ x2 x3 x5 t0 t1 s, x1_findBestRow_b77 X40 X77 X140 X167 Q x2 x3 x5 t0 t1 s → X77 x2 x3 x5 t0 t1 s) → (∀ x2 x3 x5 x6 x7 s, x1_findBestRow_b140 X40 X77 X140 X167 Q x2 x3 x5 x6 x7 s → X140 x2 x3 x5 x6 x7 s) → (∀ x2 x3 x5 s, x1_findBestRow_b167 X40 X77 X140 X167 Q x2 x3 x5 s → X167 x2 x3 x5 s) → X40 x2 x3 x4 x5 s
def x1_findBestRow_L77 (Q : Int → Mem → Prop) (x2 : Int) (x3 : Int) (x5 : Int) (t0 : Int) (t1 : Int) (s : Mem) : Prop := ∀ (X40 : Int → Int → Int → Int → Mem → Prop) (X77 : Int → Int → Int → Int → Int → Mem → Prop) (X140 : Int → Int → Int → Int → Int → Mem → Prop) (X167 : Int → Int → Int → Mem → Prop), (∀ x2 x3 x4 x5 s, x1_findBestRow_b40 X40 X77 X140 X167 Q x2 x3 x4 x5 s → X40 x2 x3 x4 x5 s) → (∀ x2 x3 x5 t0 t1 s, x1_findBestRow_b77 X40 X77 X140 X167 Q x2 x3 x5 t0 t1 s → X77 x2 x3 x5 t0 t1 s) → (∀ x2 x3 x5 x6 x7 s, x1_findBestRow_b140 X40 X77 X140 X167 Q x2 x3 x5 x6 x7 s → X140 x2 x3 x5 x6 x7 s) → (∀ x2 x3 x5 s, x1_findBestRow_b167 X40 X77 X140 X167 Q x2 x3 x5 s → X167 x2 x3 x5 s) → X77 x2 x3 x5 t0 t1 s
def x1_findBestRow_L140 (Q : Int → Mem → Prop) (x2 : Int) (x3 : Int) (x5 : Int) (x6 : Int) (x7 : Int) (s : Mem) : Prop := ∀ (X40 : Int → Int → Int → Int → Mem → Prop) (X77 : Int → Int → Int → Int → Int → Mem → Prop) (X140 : Int → Int → Int → Int → Int → Mem → Prop) (X167 : Int → Int → Int → Mem → Prop), (∀ x2 x3 x4 x5 s, x1_findBestRow_b40 X40 X77 X140 X167 Q x2 x3 x4 x5 s → X40 x2 x3 x4 x5 s) → (∀ x2 x3 x5 t0 t1 s, x1_findBestRow_b77 X40 X77 X140 X167 Q x2 x3 x5 t0 t1 s → X77 x2 x3 x5 t0 t1 s) → (∀ x2 x3 x5 x6 x7 s, x1_findBestRow_b140 X40 X77 X140 X167 Q x2 x3 x5 x6 x7 s → X140 x2 x3 x5 x6 x7 s) → (∀ x2 x3 x5 s, x1_findBestRow_b167 X40 X77 X140 X167 Q x2 x3 x5 s → X167 x2 x3 x5 s) → X140 x2 x3 x5 x6 x7 s
def x1_findBestRow_L167 (Q : Int → Mem → Prop) (x2 : Int) (x3 : Int) (x5 : Int) (s : Mem) : Prop := ∀ (X40 : Int → Int → Int → Int → Mem → Prop) (X77 : Int → Int → Int → Int → Int → Mem → Prop) (X140 : Int → Int → Int → Int → Int → Mem → Prop) (X167 : Int → Int → Int → Mem → Prop), (∀ x2 x3 x4 x5 s, x1_findBestRow_b40 X40 X77 X140 X167 Q x2 x3 x4 x5 s → X40 x2 x3 x4 x5 s) → (∀ x2 x3 x5 t0 t1 s, x1_findBestRow_b77 X40 X77 X140 X167 Q x2 x3 x5 t0 t1 s → X77 x2 x3 x5 t0 t1 s) → (∀ x2 x3 x5 x6 x7 s, x1_findBestRow_b140 X40 X77 X140 X167 Q x2 x3 x5 x6 x7 s → X140 x2 x3 x5 x6 x7 s) → (∀ x2 x3 x5 s, x1_findBestRow_b167 X40 X77 X140 X167 Q x2 x3 x5 s → X167 x2 x3 x5 s) → X167 x2 x3 x5 s
theorem x1_findBestRow_i {Q : Int → Mem → Prop} {p2 : Int} {s : Mem} (h : x1_findBestRow_be (x1_findBestRow_L40 Q) (x1_findBestRow_L77 Q) (x1_findBestRow_L140 Q) (x1_findBestRow_L167 Q) Q p2 s) : x1_findBestRow p2 s Q := fun X40 X77 X140 X167 k40 k77 k140 k167 => x1_findBestRow_me (fun _ _ _ _ _ h => h X40 X77 X140 X167 k40 k77 k140 k167) (fun _ _ _ _ _ _ h => h X40 X77 X140 X167 k40 k77 k140 k167) (fun _ _ _ _ _ _ h => h X40 X77 X140 X167 k40 k77 k140 k167) (fun _ _ _ _ h => h X40 X77 X140 X167 k40 k77 k140 k167) (fun _ _ h => h) h
theorem x1_findBestRow_s40 {Q : Int → Mem → Prop} {x2 : Int} {x3 : Int} {x4 : Int} {x5 : Int} {s : Mem} (h : x1_findBestRow_b40 (x1_findBestRow_L40 Q) (x1_findBestRow_L77 Q) (x1_findBestRow_L140 Q) (x1_findBestRow_L167 Q) Q x2 x3 x4 x5 s) : x1_findBestRow_L40 Q x2 x3 x4 x5 s := fun X40 X77 X140 X167 k40 k77 k140 k167 => k40 _ _ _ _ _ (x1_findBestRow_m40 (fun _ _ _ _ _ h => h X40 X77 X140 X167 k40 k77 k140 k167) (fun _ _ _ _ _ _ h => h X40 X77 X140 X167 k40 k77 k140 k167) (fun _ _ _ _ _ _ h => h X40 X77 X140 X167 k40 k77 k140 k167) (fun _ _ _ _ h => h X40 X77 X140 X167 k40 k77 k140 k167) (fun _ _ h => h) h)
theorem x1_findBestRow_s77 {Q : Int → Mem → Prop} {x2 : Int} {x3 : Int} {x5 : Int} {t0 : Int} {t1 : Int} {s : Mem} (h : x1_findBestRow_b77 (x1_findBestRow_L40 Q) (x1_findBestRow_L77 Q) (x1_findBestRow_L140 Q) (x1_findBestRow_L167 Q) Q x2 x3 x5 t0 t1 s) : x1_findBestRow_L77 Q x2 x3 x5 t0 t1 s := fun X40 X77 X140 X167 k40 k77 k140 k167 => k77 _ _ _ _ _ _ (x1_findBestRow_m77 (fun _ _ _ _ _ h => h X40 X77 X140 X167 k40 k77 k140 k167) (fun _ _ _ _ _ _ h => h X40 X77 X140 X167 k40 k77 k140 k167) (fun _ _ _ _ _ _ h => h X40 X77 X140 X167 k40 k77 k140 k167) (fun _ _ _ _ h => h X40 X77 X140 X167 k40 k77 k140 k167) (fun _ _ h => h) h)
theorem x1_findBestRow_s140 {Q : Int → Mem → Prop} {x2 : Int} {x3 : Int} {x5 : Int} {x6 : Int} {x7 : Int} {s : Mem} (h : x1_findBestRow_b140 (x1_findBestRow_L40 Q) (x1_findBestRow_L77 Q) (x1_findBestRow_L140 Q) (x1_findBestRow_L167 Q) Q x2 x3 x5 x6 x7 s) : x1_findBestRow_L140 Q x2 x3 x5 x6 x7 s := fun X40 X77 X140 X167 k40 k77 k140 k167 => k140 _ _ _ _ _ _ (x1_findBestRow_m140 (fun _ _ _ _ _ h => h X40 X77 X140 X167 k40 k77 k140 k167) (fun _ _ _ _ _ _ h => h X40 X77 X140 X167 k40 k77 k140 k167) (fun _ _ _ _ _ _ h => h X40 X77 X140 X167 k40 k77 k140 k167) (fun _ _ _ _ h => h X40 X77 X140 X167 k40 k77 k140 k167) (fun _ _ h => h) h)
theorem x1_findBestRow_s167 {Q : Int → Mem → Prop} {x2 : Int} {x3 : Int} {x5 : Int} {s : Mem} (h : x1_findBestRow_b167 (x1_findBestRow_L40 Q) (x1_findBestRow_L77 Q) (x1_findBestRow_L140 Q) (x1_findBestRow_L167 Q) Q x2 x3 x5 s) : x1_findBestRow_L167 Q x2 x3 x5 s := fun X40 X77 X140 X167 k40 k77 k140 k167 => k167 _ _ _ _ (x1_findBestRow_m167 (fun _ _ _ _ _ h => h X40 X77 X140 X167 k40 k77 k140 k167) (fun _ _ _ _ _ _ h => h X40 X77 X140 X167 k40 k77 k140 k167) (fun _ _ _ _ _ _ h => h X40 X77 X140 X167 k40 k77 k140 k167) (fun _ _ _ _ h => h X40 X77 X140 X167 k40 k77 k140 k167) (fun _ _ h => h) h)
theorem x1_findBestRow_mono {Q R : Int → Mem → Prop} {p2 : Int} {s : Mem} (h : x1_findBestRow p2 s Q) (hQ : ∀ r s, Q r s → R r s) : x1_findBestRow p2 s R := fun X40 X77 X140 X167 k40 k77 k140 k167 => x1_findBestRow_me (fun _ _ _ _ _ h => h) (fun _ _ _ _ _ _ h => h) (fun _ _ _ _ _ _ h => h) (fun _ _ _ _ h => h) hQ (h X40 X77 X140 X167 (fun _ _ _ _ _ h => k40 _ _ _ _ _ (x1_findBestRow_m40 (fun _ _ _ _ _ h => h) (fun _ _ _ _ _ _ h => h) (fun _ _ _ _ _ _ h => h) (fun _ _ _ _ h => h) hQ h)) (fun _ _ _ _ _ _ h => k77 _ _ _ _ _ _ (x1_findBestRow_m77 (fun _ _ _ _ _ h => h) (fun _ _ _ _ _ _ h => h) (fun _ _ _ _ _ _ h => h) (fun _ _ _ _ h => h) hQ h)) (fun _ _ _ _ _ _ h => k140 _ _ _ _ _ _ (x1_findBestRow_m140 (fun _ _ _ _ _ h => h) (fun _ _ _ _ _ _ h => h) (fun _ _ _ _ _ _ h => h) (fun _ _ _ _ h => h) hQ h)) (fun _ _ _ _ h => k167 _ _ _ _ (x1_findBestRow_m167 (fun _ _ _ _ _ h => h) (fun _ _ _ _ _ _ h => h) (fun _ _ _ _ _ _ h => h) (fun _ _ _ _ h => h) hQ h)))
def x1_findBestRow_rm : Room := { frames := 5, cells := 0, slots := 0, locals := 144 }
theorem w_x1_findBestRow_28 : Cond.fieldLink RX1 28 "BoltRing$Joint" "turns" "[I" ∈ wsX1_findBestRow := by decide +kernel
theorem w_x1_findBestRow_25 : Cond.fieldLink RX1 25 "BoltRing$Drawing" "byNumbers" "[I" ∈ wsX1_findBestRow := by decide +kernel
theorem w_x1_findBestRow_22 : Cond.fieldLink RX1 22 "BoltRing$Drawing" "trial" "[I" ∈ wsX1_findBestRow := by decide +kernel
theorem w_x1_findBestRow_l33 : Cond.methodLink RX1 33 arraycopyName ∈ wsX1_findBestRow := by decide +kernel
theorem w_x1_findBestRow_ac1 : Cond.native arraycopyName ∈ wsX1_findBestRow := by decide +kernel
theorem w_x1_findBestRow_ac2 : Cond.static arraycopyName ∈ wsX1_findBestRow := by decide +kernel
theorem w_x1_findBestRow_ac3 : Cond.initialized "java/lang/System" ∈ wsX1_findBestRow := by decide +kernel
theorem w_x1_findBestRow_108 : Cond.fieldLink RX1 108 "BoltRing$Drawing" "bestPasses" "I" ∈ wsX1_findBestRow := by decide +kernel
theorem w_x1_findBestRow_118 : Cond.fieldLink RX1 118 "BoltRing$Drawing" "bestDrawn" "I" ∈ wsX1_findBestRow := by decide +kernel
theorem w_x1_findBestRow_76 : Cond.fieldLink RX1 76 "BoltRing$Joint" "bolts" "I" ∈ wsX1_findBestRow := by decide +kernel
theorem w_x1_findBestRow_125 : Cond.fieldLink RX1 125 "BoltRing$Drawing" "bestFigures" "I" ∈ wsX1_findBestRow := by decide +kernel
theorem in_x1_findBestRow_X1 : ∀ w ∈ wsX10, w ∈ wsX1_findBestRow := by decide +kernel
theorem in_x1_findBestRow_X2 : ∀ w ∈ wsX20, w ∈ wsX1_findBestRow := by decide +kernel
set_option maxHeartbeats 4000000 in
set_option maxRecDepth 100000 in
theorem x1_findBestRow_bd {κ : KT} {ad : Nat → Nat} {cA : Nat → ClassId} {D : va_G} {Q : State → Prop} {p2 : Int} {s : Mem} (C : CX κ (GA ad cA D) RX1 cX1_findBestRow 8 wsX1_findBestRow x1_findBestRow_rm none) (h : x1_findBestRow p2 s (RT κ (GA ad cA D) ocV Q)) : WM κ (GA ad cA D) 8 Q s 0 [(0, .ref (ad 13)), (1, .ref (ad 1)), (2, vI p2)] [] := by
  obtain ⟨Z40, z40⟩ : ∃ Z : Int → Int → Int → Int → Mem → Prop, ∀ x2 x3 x4 x5 s, Z x2 x3 x4 x5 s ↔ WM κ (GA ad cA D) 8 Q s 40 [(0, .ref (ad 13)), (1, .ref (ad 1)), (2, vI x2), (3, vI x3), (4, vI x4), (5, vI x5)] [] := ⟨fun x2 x3 x4 x5 s => WM κ (GA ad cA D) 8 Q s 40 [(0, .ref (ad 13)), (1, .ref (ad 1)), (2, vI x2), (3, vI x3), (4, vI x4), (5, vI x5)] [], fun _ _ _ _ _ => Iff.rfl⟩
  obtain ⟨Z77, z77⟩ : ∃ Z : Int → Int → Int → Int → Int → Mem → Prop, ∀ x2 x3 x5 t0 t1 s, Z x2 x3 x5 t0 t1 s ↔ WM κ (GA ad cA D) 8 Q s 77 [(0, .ref (ad 13)), (1, .ref (ad 1)), (2, vI x2), (3, vI x3), (5, vI x5)] [vI t0, vI t1, .ref (ad 21), .ref (ad 1), .ref (ad 13)] := ⟨fun x2 x3 x5 t0 t1 s => WM κ (GA ad cA D) 8 Q s 77 [(0, .ref (ad 13)), (1, .ref (ad 1)), (2, vI x2), (3, vI x3), (5, vI x5)] [vI t0, vI t1, .ref (ad 21), .ref (ad 1), .ref (ad 13)], fun _ _ _ _ _ _ => Iff.rfl⟩
  obtain ⟨Z140, z140⟩ : ∃ Z : Int → Int → Int → Int → Int → Mem → Prop, ∀ x2 x3 x5 x6 x7 s, Z x2 x3 x5 x6 x7 s ↔ WM κ (GA ad cA D) 8 Q s 140 [(0, .ref (ad 13)), (1, .ref (ad 1)), (2, vI x2), (3, vI x3), (5, vI x5), (6, vI x6), (7, vI x7)] [] := ⟨fun x2 x3 x5 x6 x7 s => WM κ (GA ad cA D) 8 Q s 140 [(0, .ref (ad 13)), (1, .ref (ad 1)), (2, vI x2), (3, vI x3), (5, vI x5), (6, vI x6), (7, vI x7)] [], fun _ _ _ _ _ _ => Iff.rfl⟩
  obtain ⟨Z167, z167⟩ : ∃ Z : Int → Int → Int → Mem → Prop, ∀ x2 x3 x5 s, Z x2 x3 x5 s ↔ WM κ (GA ad cA D) 8 Q s 167 [(0, .ref (ad 13)), (1, .ref (ad 1)), (2, vI x2), (3, vI x3), (5, vI x5)] [] := ⟨fun x2 x3 x5 s => WM κ (GA ad cA D) 8 Q s 167 [(0, .ref (ad 13)), (1, .ref (ad 1)), (2, vI x2), (3, vI x3), (5, vI x5)] [], fun _ _ _ _ => Iff.rfl⟩
  refine (fun h => ?_) (h Z40 Z77 Z140 Z167 ?_ ?_ ?_ ?_)
  · refine r_aload_n C 0 dX1_findBestRow_0 rfl ?_
    refine r_aload_n C 1 dX1_findBestRow_1 rfl ?_
    refine r_callV (As := [.ref (ad 1)]) (o := 13) (n := 1) C dX1_findBestRow_2 (x1_keepTurns_ct κ.1.2.1 ad cA D s) gX1_findBestRow_X1_keepTurns rfl ⟨rfl, rfl⟩ (by decide +kernel) (by decide) (shA_13) rfl rfl rfl (Nat.le_of_ble_eq_true rfl) (fun _ => rfl) ?_
    refine x1_keepTurns_mono h (fun _ s1 h => ?_)
    refine r_aload_n C 1 dX1_findBestRow_5 rfl ?_
    refine r_aload_n C 1 dX1_findBestRow_6 rfl ?_
    refine r_get (j := 5) (jz := 5) (v := .ref (ad 4)) C dX1_findBestRow_7 (shA_1) rfl rfl (by decide) in_x1_findBestRow_X2 w_x1_findBestRow_28 rfl rfl rfl ?_
    refine r_callV (As := [.ref (ad 4)]) (o := 1) (n := 1) C dX1_findBestRow_10 (x2_sumOf_ct κ.1.2.1 ad cA D 4 s1) gX1_findBestRow_X2_sumOf rfl ⟨rfl, rfl⟩ (by decide +kernel) (by decide) (shA_1) rfl rfl rfl (Nat.le_of_ble_eq_true rfl) (fun _ => rfl) ?_
    refine x2_sumOf_mono h (fun r3 s2 h => ?_)
    refine r_istore_n (ls' := [(3, vI r3), (0, .ref (ad 13)), (1, .ref (ad 1)), (2, vI p2)]) C dX1_findBestRow_13 rfl (by decide) rfl ?_
    refine r_aload_n C 1 dX1_findBestRow_14 rfl ?_
    refine r_get (j := 6) (jz := 6) (v := .ref (ad 22)) C dX1_findBestRow_15 (shA_13) rfl rfl (by decide) in_x1_findBestRow_X1 w_x1_findBestRow_25 rfl rfl rfl ?_
    refine r_iconst C dX1_findBestRow_18 ?_
    refine r_aload_n C 1 dX1_findBestRow_19 rfl ?_
    refine r_get (j := 5) (jz := 5) (v := .ref (ad 21)) C dX1_findBestRow_20 (shA_13) rfl rfl (by decide) in_x1_findBestRow_X1 w_x1_findBestRow_22 rfl rfl rfl ?_
    refine r_iconst C dX1_findBestRow_23 ?_
    refine r_bipush C dX1_findBestRow_24 (by decide) ?_
    refine r_copyi (n0z := 6) (n1z := 6) C dX1_findBestRow_26 w_x1_findBestRow_l33 w_x1_findBestRow_ac1 w_x1_findBestRow_ac2 w_x1_findBestRow_ac3 (shA_22) (shA_21) rfl rfl (by decide) (by decide) (by decide) (Nat.le_of_ble_eq_true rfl) ⟨h.1, fun s4 e_s4 => ?_⟩
    have h := h.2 s4 e_s4
    refine r_aload_n C 1 dX1_findBestRow_29 rfl ?_
    refine r_iconst C dX1_findBestRow_30 ?_
    refine r_puti (j := 0) (jz := 0) C dX1_findBestRow_31 (shA_13) rfl rfl (by decide) in_x1_findBestRow_X1 tyX1 tyX1_ok nmX1 w_x1_findBestRow_108 rfl rfl (by decide +kernel) rfl (fun s5 e_s5 => ?_)
    have h := h s5 e_s5
    refine r_iconst C dX1_findBestRow_34 ?_
    refine r_istore (ls' := [(4, vI (1 : Int)), (3, vI r3), (0, .ref (ad 13)), (1, .ref (ad 1)), (2, vI p2)]) C dX1_findBestRow_35 (by decide) rfl ?_
    refine r_iconst C dX1_findBestRow_37 ?_
    refine r_istore (ls' := [(5, vI (0 : Int)), (4, vI (1 : Int)), (3, vI r3), (0, .ref (ad 13)), (1, .ref (ad 1)), (2, vI p2)]) C dX1_findBestRow_38 (by decide) rfl ?_
    exact r_perm [3, 4, 5, 2, 1, 0] rfl ((z40 _ _ _ _ _).1 h)
  · intro x2 x3 x4 x5 s h
    refine (z40 _ _ _ _ _).2 ?_
    refine r_iload C 5 dX1_findBestRow_40 rfl ?_
    refine r_sipush C dX1_findBestRow_42 (by decide) ?_
    refine r_icmp_ge (tgt := 186) C dX1_findBestRow_45 (by decide) ⟨h.1, fun c8 => ?_, fun c8 => ?_⟩
    · have h := h.2.1 c8
      exact r_return C dX1_findBestRow_186 h
    · have h := h.2.2 c8
      refine r_iload C 4 dX1_findBestRow_48 rfl ?_
      refine r_if_eq (tgt := 186) C dX1_findBestRow_50 (by decide) ⟨h.1, fun c7 => ?_, fun c7 => ?_⟩
      · have h := h.2.1 c7
        exact r_return C dX1_findBestRow_186 h
      · have h := h.2.2 c7
        refine r_aload_n C 0 dX1_findBestRow_53 rfl ?_
        refine r_aload_n C 1 dX1_findBestRow_54 rfl ?_
        refine r_aload_n C 0 dX1_findBestRow_55 rfl ?_
        refine r_get (j := 5) (jz := 5) (v := .ref (ad 21)) C dX1_findBestRow_56 (shA_13) rfl rfl (by decide) in_x1_findBestRow_X1 w_x1_findBestRow_22 rfl rfl rfl ?_
        refine r_iload_n C 2 dX1_findBestRow_59 rfl ?_
        refine r_aload_n C 0 dX1_findBestRow_60 rfl ?_
        refine r_get (j := 0) (jz := 0) (v := vI (s 13 (0 : Int))) C dX1_findBestRow_61 (shA_13) rfl rfl (by decide) in_x1_findBestRow_X1 w_x1_findBestRow_108 rfl rfl rfl ?_
        refine r_iconst C dX1_findBestRow_64 ?_
        refine r_icmp_ne (tgt := 73) C dX1_findBestRow_65 (by decide) ⟨h.1, fun c6 => ?_, fun c6 => ?_⟩
        · have h := h.2.1 c6
          refine r_aload_n C 0 dX1_findBestRow_73 rfl ?_
          refine r_get (j := 0) (jz := 0) (v := vI (s 13 (0 : Int))) C dX1_findBestRow_74 (shA_13) rfl rfl (by decide) in_x1_findBestRow_X1 w_x1_findBestRow_108 rfl rfl rfl ?_
          exact r_perm [0, 1, 2, 3, 5] rfl ((z77 _ _ _ _ _ _).1 h)
        · have h := h.2.2 c6
          refine r_bipush C dX1_findBestRow_68 (by decide) ?_
          refine r_goto (tgt := 77) C dX1_findBestRow_70 (by decide) ?_
          exact r_perm [0, 1, 2, 3, 5] rfl ((z77 _ _ _ _ _ _).1 h)
  · intro x2 x3 x5 t0 t1 s h
    refine (z77 _ _ _ _ _ _).2 ?_
    refine r_callV (As := [.ref (ad 1), .ref (ad 21), vI t1, vI t0]) (o := 13) (n := 4) C dX1_findBestRow_77 (x1_goRounds_ct κ.1.2.1 ad cA D 21 t1 t0 s) gX1_findBestRow_X1_goRounds rfl ⟨rfl, rfl⟩ (by decide +kernel) (by decide) (shA_13) rfl rfl rfl (Nat.le_of_ble_eq_true rfl) (fun _ => rfl) ?_
    refine x1_goRounds_mono h (fun r10 s9 h => ?_)
    refine r_istore (ls' := [(6, vI r10), (0, .ref (ad 13)), (1, .ref (ad 1)), (2, vI x2), (3, vI x3), (5, vI x5)]) C dX1_findBestRow_80 (by decide) rfl ?_
    refine r_aload_n C 2 dX1_findBestRow_82 rfl ?_
    refine r_aload_n C 2 dX1_findBestRow_83 rfl ?_
    refine r_get (j := 5) (jz := 5) (v := .ref (ad 4)) C dX1_findBestRow_84 (shA_1) rfl rfl (by decide) in_x1_findBestRow_X2 w_x1_findBestRow_28 rfl rfl rfl ?_
    refine r_callV (As := [.ref (ad 4)]) (o := 1) (n := 1) C dX1_findBestRow_87 (x2_sumOf_ct κ.1.2.1 ad cA D 4 s9) gX1_findBestRow_X2_sumOf rfl ⟨rfl, rfl⟩ (by decide +kernel) (by decide) (shA_1) rfl rfl rfl (Nat.le_of_ble_eq_true rfl) (fun _ => rfl) ?_
    refine x2_sumOf_mono h (fun r12 s11 h => ?_)
    refine r_iload_n C 4 dX1_findBestRow_90 rfl ?_
    refine r_isub C dX1_findBestRow_91 ?_
    refine r_istore (ls' := [(7, vI (r12 - x3)), (6, vI r10), (0, .ref (ad 13)), (1, .ref (ad 1)), (2, vI x2), (3, vI x3), (5, vI x5)]) C dX1_findBestRow_92 (by decide) rfl ?_
    refine r_aload_n C 2 dX1_findBestRow_94 rfl ?_
    refine r_aload_n C 3 dX1_findBestRow_95 rfl ?_
    refine r_callV (As := [.ref (ad 1)]) (o := 13) (n := 1) C dX1_findBestRow_96 (x1_putTurnsBack_ct κ.1.2.1 ad cA D s11) gX1_findBestRow_X1_putTurnsBack rfl ⟨rfl, rfl⟩ (by decide +kernel) (by decide) (shA_13) rfl rfl rfl (Nat.le_of_ble_eq_true rfl) (fun _ => rfl) ?_
    refine x1_putTurnsBack_mono h (fun _ s13 h => ?_)
    refine r_iload C 1 dX1_findBestRow_99 rfl ?_
    refine r_iconst C dX1_findBestRow_101 ?_
    refine r_icmp_eq (tgt := 167) C dX1_findBestRow_102 (by decide) ⟨h.1, fun c18 => ?_, fun c18 => ?_⟩
    · have h := h.2.1 c18
      exact r_perm [2, 3, 4, 5, 6] rfl ((z167 _ _ _ _).1 h)
    · have h := h.2.2 c18
      refine r_aload_n C 2 dX1_findBestRow_105 rfl ?_
      refine r_get (j := 0) (jz := 0) (v := vI (s13 13 (0 : Int))) C dX1_findBestRow_106 (shA_13) rfl rfl (by decide) in_x1_findBestRow_X1 w_x1_findBestRow_108 rfl rfl rfl ?_
      refine r_iconst C dX1_findBestRow_109 ?_
      refine r_icmp_eq (tgt := 140) C dX1_findBestRow_110 (by decide) ⟨h.1, fun c17 => ?_, fun c17 => ?_⟩
      · have h := h.2.1 c17
        exact r_perm [2, 3, 4, 5, 6, 1, 0] rfl ((z140 _ _ _ _ _ _).1 h)
      · have h := h.2.2 c17
        refine r_iload C 1 dX1_findBestRow_113 rfl ?_
        refine r_aload_n C 2 dX1_findBestRow_115 rfl ?_
        refine r_get (j := 0) (jz := 0) (v := vI (s13 13 (0 : Int))) C dX1_findBestRow_116 (shA_13) rfl rfl (by decide) in_x1_findBestRow_X1 w_x1_findBestRow_108 rfl rfl rfl ?_
        refine r_icmp_lt (tgt := 140) C dX1_findBestRow_119 (by decide) ⟨h.1, fun c16 => ?_, fun c16 => ?_⟩
        · have h := h.2.1 c16
          exact r_perm [2, 3, 4, 5, 6, 1, 0] rfl ((z140 _ _ _ _ _ _).1 h)
        · have h := h.2.2 c16
          refine r_iload C 1 dX1_findBestRow_122 rfl ?_
          refine r_aload_n C 2 dX1_findBestRow_124 rfl ?_
          refine r_get (j := 0) (jz := 0) (v := vI (s13 13 (0 : Int))) C dX1_findBestRow_125 (shA_13) rfl rfl (by decide) in_x1_findBestRow_X1 w_x1_findBestRow_108 rfl rfl rfl ?_
          refine r_icmp_ne (tgt := 167) C dX1_findBestRow_128 (by decide) ⟨h.1, fun c15 => ?_, fun c15 => ?_⟩
          · have h := h.2.1 c15
            exact r_perm [2, 3, 4, 5, 6] rfl ((z167 _ _ _ _).1 h)
          · have h := h.2.2 c15
            refine r_iload C 0 dX1_findBestRow_131 rfl ?_
            refine r_aload_n C 2 dX1_findBestRow_133 rfl ?_
            refine r_get (j := 1) (jz := 1) (v := vI (s13 13 (1 : Int))) C dX1_findBestRow_134 (shA_13) rfl rfl (by decide) in_x1_findBestRow_X1 w_x1_findBestRow_118 rfl rfl rfl ?_
            refine r_icmp_ge (tgt := 167) C dX1_findBestRow_137 (by decide) ⟨h.1, fun c14 => ?_, fun c14 => ?_⟩
            · have h := h.2.1 c14
              exact r_perm [2, 3, 4, 5, 6] rfl ((z167 _ _ _ _).1 h)
            · have h := h.2.2 c14
              exact r_perm [2, 3, 4, 5, 6, 1, 0] rfl ((z140 _ _ _ _ _ _).1 h)
  · intro x2 x3 x5 x6 x7 s h
    refine (z140 _ _ _ _ _ _).2 ?_
    refine r_aload_n C 0 dX1_findBestRow_140 rfl ?_
    refine r_iload C 5 dX1_findBestRow_141 rfl ?_
    refine r_puti (j := 0) (jz := 0) C dX1_findBestRow_143 (shA_13) rfl rfl (by decide) in_x1_findBestRow_X1 tyX1 tyX1_ok nmX1 w_x1_findBestRow_108 rfl rfl (by decide +kernel) rfl (fun s19 e_s19 => ?_)
    have h := h s19 e_s19
    refine r_aload_n C 0 dX1_findBestRow_146 rfl ?_
    refine r_iload C 6 dX1_findBestRow_147 rfl ?_
    refine r_puti (j := 1) (jz := 1) C dX1_findBestRow_149 (shA_13) rfl rfl (by decide) in_x1_findBestRow_X1 tyX1 tyX1_ok nmX1 w_x1_findBestRow_118 rfl rfl (by decide +kernel) rfl (fun s20 e_s20 => ?_)
    have h := h s20 e_s20
    refine r_aload_n C 0 dX1_findBestRow_152 rfl ?_
    refine r_aload_n C 0 dX1_findBestRow_153 rfl ?_
    refine r_get (j := 5) (jz := 5) (v := .ref (ad 21)) C dX1_findBestRow_154 (shA_13) rfl rfl (by decide) in_x1_findBestRow_X1 w_x1_findBestRow_22 rfl rfl rfl ?_
    refine r_aload_n C 1 dX1_findBestRow_157 rfl ?_
    refine r_get (j := 0) (jz := 0) (v := vI (s20 1 (0 : Int))) C dX1_findBestRow_158 (shA_1) rfl rfl (by decide) in_x1_findBestRow_X2 w_x1_findBestRow_76 rfl rfl rfl ?_
    refine r_callS (As := [.ref (ad 21), vI (s20 1 (0 : Int))]) (n := 2) C dX1_findBestRow_161 (x1_figuresOf_ct κ.1.2.1 ad cA D 21 (s20 1 (0 : Int)) s20) gX1_findBestRow_X1_figuresOf rfl ⟨rfl, rfl⟩ (by decide +kernel) (by decide) rfl rfl (Nat.le_of_ble_eq_true rfl) (fun _ => rfl) ?_
    refine x1_figuresOf_mono h (fun r22 s21 h => ?_)
    refine r_puti (j := 2) (jz := 2) C dX1_findBestRow_164 (shA_13) rfl rfl (by decide) in_x1_findBestRow_X1 tyX1 tyX1_ok nmX1 w_x1_findBestRow_125 rfl rfl (by decide +kernel) rfl (fun s23 e_s23 => ?_)
    have h := h s23 e_s23
    exact r_perm [0, 1, 2, 3, 4] rfl ((z167 _ _ _ _).1 h)
  · intro x2 x3 x5 s h
    refine (z167 _ _ _ _).2 ?_
    refine r_aload_n C 0 dX1_findBestRow_167 rfl ?_
    refine r_get (j := 5) (jz := 5) (v := .ref (ad 21)) C dX1_findBestRow_168 (shA_13) rfl rfl (by decide) in_x1_findBestRow_X1 w_x1_findBestRow_22 rfl rfl rfl ?_
    refine r_aload_n C 1 dX1_findBestRow_171 rfl ?_
    refine r_get (j := 0) (jz := 0) (v := vI (s 1 (0 : Int))) C dX1_findBestRow_172 (shA_1) rfl rfl (by decide) in_x1_findBestRow_X2 w_x1_findBestRow_76 rfl rfl rfl ?_
    refine r_callS (As := [.ref (ad 21), vI (s 1 (0 : Int))]) (n := 2) C dX1_findBestRow_175 (x1_toNextOrder_ct κ.1.2.1 ad cA D 21 (s 1 (0 : Int)) s) gX1_findBestRow_X1_toNextOrder rfl ⟨rfl, rfl⟩ (by decide +kernel) (by decide) rfl rfl (Nat.le_of_ble_eq_true rfl) (fun _ => rfl) ?_
    refine x1_toNextOrder_mono h (fun r25 s24 h => ?_)
    refine r_istore (ls' := [(4, vI r25), (0, .ref (ad 13)), (1, .ref (ad 1)), (2, vI x2), (3, vI x3), (5, vI x5)]) C dX1_findBestRow_178 (by decide) rfl ?_
    refine r_iinc (j := 5) (ls' := [(5, vI (x5 + (1 : Int))), (4, vI r25), (0, .ref (ad 13)), (1, .ref (ad 1)), (2, vI x2), (3, vI x3)]) C dX1_findBestRow_180 rfl (by decide) rfl ?_
    refine r_goto (tgt := 40) C dX1_findBestRow_183 (by decide) ?_
    exact r_perm [2, 3, 4, 5, 1, 0] rfl ((z40 _ _ _ _ _).1 h)
theorem x1_findBestRow_ct (l : Launch) (ad : Nat → Nat) (cA : Nat → ClassId) (D : va_G) (p2 : Int) (s : Mem) : MG l yX1_findBestRow wsX1_findBestRow x1_findBestRow_rm ocV [.ref (ad 13), .ref (ad 1), vI p2] (GA ad cA D) s (x1_findBestRow p2 s) :=
  m_met (own := RX1) (nL := 8) (by decide) rfl rfl (Nat.le_of_ble_eq_true rfl) rfl rfl rfl (fun κ hl C Q Pst hW hQ => x1_findBestRow_bd C (x1_findBestRow_mono hW hQ))

def x1_drawEvenFromNothing_be (X2 : Int → Int → Mem → Prop) (X33 : Int → Int → Mem → Prop) (Q : Int → Mem → Prop) (p2 : Int) (s : Mem) : Prop :=
  X2 p2 (0 : Int) s
def x1_drawEvenFromNothing_b2 (X2 : Int → Int → Mem → Prop) (X33 : Int → Int → Mem → Prop) (Q : Int → Mem → Prop) (x2 : Int) (x3 : Int) (s : Mem) : Prop :=
  (InI x3 ∧ InI (s 1 (0 : Int))) ∧ ((s 1 (0 : Int)) ≤ x3 → X33 x2 (0 : Int) s) ∧ (x3 < (s 1 (0 : Int)) → x2_isBroken x3 s (fun r2 s1 => InI r2 ∧ (¬ r2 = (0 : Int) → X2 x2 (x3 + (1 : Int)) s1) ∧ (r2 = (0 : Int) → ((0 : Int) ≤ x3 ∧ x3 < 6) ∧ ∀ s3 : Mem, s3 = m_upd s1 4 x3 (0 : Int) → X2 x2 (x3 + (1 : Int)) s3)))
def x1_drawEvenFromNothing_b33 (X2 : Int → Int → Mem → Prop) (X33 : Int → Int → Mem → Prop) (Q : Int → Mem → Prop) (x2 : Int) (x3 : Int) (s : Mem) : Prop :=
  (InI x3 ∧ InI (1202 : Int)) ∧ ((1202 : Int) ≤ x3 → ((0 : Int) ≤ (0 : Int) ∧ (0 : Int) ≤ 1) ∧ Q (0 : Int) s) ∧ (x3 < (1202 : Int) → x1_goRound 22 x2 s (fun r7 s6 => (InI r7 ∧ InI (-1 : Int)) ∧ (r7 = (-1 : Int) → InI r7 ∧ (¬ r7 = (0 : Int) → ((0 : Int) ≤ (0 : Int) ∧ (0 : Int) ≤ 1) ∧ Q (0 : Int) s6) ∧ (r7 = (0 : Int) → ((0 : Int) ≤ (1 : Int) ∧ (1 : Int) ≤ 1) ∧ Q (1 : Int) s6)) ∧ (¬ r7 = (-1 : Int) → InI r7 ∧ (¬ r7 = (0 : Int) → X33 x2 (x3 + (1 : Int)) s6) ∧ (r7 = (0 : Int) → InI r7 ∧ (¬ r7 = (0 : Int) → ((0 : Int) ≤ (0 : Int) ∧ (0 : Int) ≤ 1) ∧ Q (0 : Int) s6) ∧ (r7 = (0 : Int) → ((0 : Int) ≤ (1 : Int) ∧ (1 : Int) ≤ 1) ∧ Q (1 : Int) s6)))))
theorem x1_drawEvenFromNothing_me {X2 Y2 : Int → Int → Mem → Prop} {X33 Y33 : Int → Int → Mem → Prop} {Q R : Int → Mem → Prop} (hX2 : ∀ x2 x3 s, X2 x2 x3 s → Y2 x2 x3 s) (hX33 : ∀ x2 x3 s, X33 x2 x3 s → Y33 x2 x3 s) (hQ : ∀ r s, Q r s → R r s) {p2 : Int} {s : Mem} (h : x1_drawEvenFromNothing_be X2 X33 Q p2 s) : x1_drawEvenFromNothing_be Y2 Y33 R p2 s :=
  hX2 _ _ _ h
theorem x1_drawEvenFromNothing_m2 {X2 Y2 : Int → Int → Mem → Prop} {X33 Y33 : Int → Int → Mem → Prop} {Q R : Int → Mem → Prop} (hX2 : ∀ x2 x3 s, X2 x2 x3 s → Y2 x2 x3 s) (hX33 : ∀ x2 x3 s, X33 x2 x3 s → Y33 x2 x3 s) (hQ : ∀ r s, Q r s → R r s) {x2 : Int} {x3 : Int} {s : Mem} (h : x1_drawEvenFromNothing_b2 X2 X33 Q x2 x3 s) : x1_drawEvenFromNothing_b2 Y2 Y33 R x2 x3 s :=
  ⟨h.1, fun c => have h := h.2.1 c; hX33 _ _ _ h, fun c => have h := h.2.2 c; x2_isBroken_mono h (fun r2 s1 h => ⟨h.1, fun c => have h := h.2.1 c; hX2 _ _ _ h, fun c => have h := h.2.2 c; ⟨h.1, have h := h.2; fun s3 e_s3 => have h := h s3 e_s3; hX2 _ _ _ h⟩⟩)⟩
theorem x1_drawEvenFromNothing_m33 {X2 Y2 : Int → Int → Mem → Prop} {X33 Y33 : Int → Int → Mem → Prop} {Q R : Int → Mem → Prop} (hX2 : ∀ x2 x3 s, X2 x2 x3 s → Y2 x2 x3 s) (hX33 : ∀ x2 x3 s, X33 x2 x3 s → Y33 x2 x3 s) (hQ : ∀ r s, Q r s → R r s) {x2 : Int} {x3 : Int} {s : Mem} (h : x1_drawEvenFromNothing_b33 X2 X33 Q x2 x3 s) : x1_drawEvenFromNothing_b33 Y2 Y33 R x2 x3 s :=
  ⟨h.1, fun c => have h := h.2.1 c; ⟨h.1, hQ _ _ h.2⟩, fun c => have h := h.2.2 c; x1_goRound_mono h (fun r7 s6 h => ⟨h.1, fun c => have h := h.2.1 c; ⟨h.1, fun c => have h := h.2.1 c; ⟨h.1, hQ _ _ h.2⟩, fun c => have h := h.2.2 c; ⟨h.1, hQ _ _ h.2⟩⟩, fun c => have h := h.2.2 c; ⟨h.1, fun c => have h := h.2.1 c; hX33 _ _ _ h, fun c => have h := h.2.2 c; ⟨h.1, fun c => have h := h.2.1 c; ⟨h.1, hQ _ _ h.2⟩, fun c => have h := h.2.2 c; ⟨h.1, hQ _ _ h.2⟩⟩⟩⟩)⟩
def x1_drawEvenFromNothing (p2 : Int) (s : Mem) (Q : Int → Mem → Prop) : Prop := ∀ (X2 : Int → Int → Mem → Prop) (X33 : Int → Int → Mem → Prop), (∀ x2 x3 s, x1_drawEvenFromNothing_b2 X2 X33 Q x2 x3 s → X2 x2 x3 s) → (∀ x2 x3 s, x1_drawEvenFromNothing_b33 X2 X33 Q x2 x3 s → X33 x2 x3 s) → x1_drawEvenFromNothing_be X2 X33 Q p2 s
def x1_drawEvenFromNothing_L2 (Q : Int → Mem → Prop) (x2 : Int) (x3 : Int) (s : Mem) : Prop := ∀ (X2 : Int → Int → Mem → Prop) (X33 : Int → Int → Mem → Prop), (∀ x2 x3 s, x1_drawEvenFromNothing_b2 X2 X33 Q x2 x3 s → X2 x2 x3 s) → (∀ x2 x3 s, x1_drawEvenFromNothing_b33 X2 X33 Q x2 x3 s → X33 x2 x3 s) → X2 x2 x3 s
def x1_drawEvenFromNothing_L33 (Q : Int → Mem → Prop) (x2 : Int) (x3 : Int) (s : Mem) : Prop := ∀ (X2 : Int → Int → Mem → Prop) (X33 : Int → Int → Mem → Prop), (∀ x2 x3 s, x1_drawEvenFromNothing_b2 X2 X33 Q x2 x3 s → X2 x2 x3 s) → (∀ x2 x3 s, x1_drawEvenFromNothing_b33 X2 X33 Q x2 x3 s → X33 x2 x3 s) → X33 x2 x3 s
theorem x1_drawEvenFromNothing_i {Q : Int → Mem → Prop} {p2 : Int} {s : Mem} (h : x1_drawEvenFromNothing_be (x1_drawEvenFromNothing_L2 Q) (x1_drawEvenFromNothing_L33 Q) Q p2 s) : x1_drawEvenFromNothing p2 s Q := fun X2 X33 k2 k33 => x1_drawEvenFromNothing_me (fun _ _ _ h => h X2 X33 k2 k33) (fun _ _ _ h => h X2 X33 k2 k33) (fun _ _ h => h) h
theorem x1_drawEvenFromNothing_s2 {Q : Int → Mem → Prop} {x2 : Int} {x3 : Int} {s : Mem} (h : x1_drawEvenFromNothing_b2 (x1_drawEvenFromNothing_L2 Q) (x1_drawEvenFromNothing_L33 Q) Q x2 x3 s) : x1_drawEvenFromNothing_L2 Q x2 x3 s := fun X2 X33 k2 k33 => k2 _ _ _ (x1_drawEvenFromNothing_m2 (fun _ _ _ h => h X2 X33 k2 k33) (fun _ _ _ h => h X2 X33 k2 k33) (fun _ _ h => h) h)
theorem x1_drawEvenFromNothing_s33 {Q : Int → Mem → Prop} {x2 : Int} {x3 : Int} {s : Mem} (h : x1_drawEvenFromNothing_b33 (x1_drawEvenFromNothing_L2 Q) (x1_drawEvenFromNothing_L33 Q) Q x2 x3 s) : x1_drawEvenFromNothing_L33 Q x2 x3 s := fun X2 X33 k2 k33 => k33 _ _ _ (x1_drawEvenFromNothing_m33 (fun _ _ _ h => h X2 X33 k2 k33) (fun _ _ _ h => h X2 X33 k2 k33) (fun _ _ h => h) h)
theorem x1_drawEvenFromNothing_mono {Q R : Int → Mem → Prop} {p2 : Int} {s : Mem} (h : x1_drawEvenFromNothing p2 s Q) (hQ : ∀ r s, Q r s → R r s) : x1_drawEvenFromNothing p2 s R := fun X2 X33 k2 k33 => x1_drawEvenFromNothing_me (fun _ _ _ h => h) (fun _ _ _ h => h) hQ (h X2 X33 (fun _ _ _ h => k2 _ _ _ (x1_drawEvenFromNothing_m2 (fun _ _ _ h => h) (fun _ _ _ h => h) hQ h)) (fun _ _ _ h => k33 _ _ _ (x1_drawEvenFromNothing_m33 (fun _ _ _ h => h) (fun _ _ _ h => h) hQ h)))
def x1_drawEvenFromNothing_rm : Room := { frames := 4, cells := 0, slots := 0, locals := 119 }
theorem w_x1_drawEvenFromNothing_76 : Cond.fieldLink RX1 76 "BoltRing$Joint" "bolts" "I" ∈ wsX1_drawEvenFromNothing := by decide +kernel
theorem w_x1_drawEvenFromNothing_28 : Cond.fieldLink RX1 28 "BoltRing$Joint" "turns" "[I" ∈ wsX1_drawEvenFromNothing := by decide +kernel
theorem w_x1_drawEvenFromNothing_25 : Cond.fieldLink RX1 25 "BoltRing$Drawing" "byNumbers" "[I" ∈ wsX1_drawEvenFromNothing := by decide +kernel
theorem in_x1_drawEvenFromNothing_X1 : ∀ w ∈ wsX10, w ∈ wsX1_drawEvenFromNothing := by decide +kernel
theorem in_x1_drawEvenFromNothing_X2 : ∀ w ∈ wsX20, w ∈ wsX1_drawEvenFromNothing := by decide +kernel
set_option maxHeartbeats 4000000 in
set_option maxRecDepth 100000 in
theorem x1_drawEvenFromNothing_bd {κ : KT} {ad : Nat → Nat} {cA : Nat → ClassId} {D : va_G} {Q : State → Prop} {p2 : Int} {s : Mem} (C : CX κ (GA ad cA D) RX1 cX1_drawEvenFromNothing 5 wsX1_drawEvenFromNothing x1_drawEvenFromNothing_rm (some .boolean)) (h : x1_drawEvenFromNothing p2 s (RT κ (GA ad cA D) ocI Q)) : WM κ (GA ad cA D) 5 Q s 0 [(0, .ref (ad 13)), (1, .ref (ad 1)), (2, vI p2)] [] := by
  obtain ⟨Z2, z2⟩ : ∃ Z : Int → Int → Mem → Prop, ∀ x2 x3 s, Z x2 x3 s ↔ WM κ (GA ad cA D) 5 Q s 2 [(0, .ref (ad 13)), (1, .ref (ad 1)), (2, vI x2), (3, vI x3)] [] := ⟨fun x2 x3 s => WM κ (GA ad cA D) 5 Q s 2 [(0, .ref (ad 13)), (1, .ref (ad 1)), (2, vI x2), (3, vI x3)] [], fun _ _ _ => Iff.rfl⟩
  obtain ⟨Z33, z33⟩ : ∃ Z : Int → Int → Mem → Prop, ∀ x2 x3 s, Z x2 x3 s ↔ WM κ (GA ad cA D) 5 Q s 33 [(0, .ref (ad 13)), (1, .ref (ad 1)), (2, vI x2), (3, vI x3)] [] := ⟨fun x2 x3 s => WM κ (GA ad cA D) 5 Q s 33 [(0, .ref (ad 13)), (1, .ref (ad 1)), (2, vI x2), (3, vI x3)] [], fun _ _ _ => Iff.rfl⟩
  refine (fun h => ?_) (h Z2 Z33 ?_ ?_)
  · refine r_iconst C dX1_drawEvenFromNothing_0 ?_
    refine r_istore_n (ls' := [(3, vI (0 : Int)), (0, .ref (ad 13)), (1, .ref (ad 1)), (2, vI p2)]) C dX1_drawEvenFromNothing_1 rfl (by decide) rfl ?_
    exact r_perm [1, 2, 3, 0] rfl ((z2 _ _ _).1 h)
  · intro x2 x3 s h
    refine (z2 _ _ _).2 ?_
    refine r_iload_n C 3 dX1_drawEvenFromNothing_2 rfl ?_
    refine r_aload_n C 1 dX1_drawEvenFromNothing_3 rfl ?_
    refine r_get (j := 0) (jz := 0) (v := vI (s 1 (0 : Int))) C dX1_drawEvenFromNothing_4 (shA_1) rfl rfl (by decide) in_x1_drawEvenFromNothing_X2 w_x1_drawEvenFromNothing_76 rfl rfl rfl ?_
    refine r_icmp_ge (tgt := 31) C dX1_drawEvenFromNothing_7 (by decide) ⟨h.1, fun c5 => ?_, fun c5 => ?_⟩
    · have h := h.2.1 c5
      refine r_iconst C dX1_drawEvenFromNothing_31 ?_
      refine r_istore_n (ls' := [(3, vI (0 : Int)), (0, .ref (ad 13)), (1, .ref (ad 1)), (2, vI x2)]) C dX1_drawEvenFromNothing_32 rfl (by decide) rfl ?_
      exact r_perm [1, 2, 3, 0] rfl ((z33 _ _ _).1 h)
    · have h := h.2.2 c5
      refine r_aload_n C 1 dX1_drawEvenFromNothing_10 rfl ?_
      refine r_iload_n C 3 dX1_drawEvenFromNothing_11 rfl ?_
      refine r_callV (As := [vI x3]) (o := 1) (n := 1) C dX1_drawEvenFromNothing_12 (x2_isBroken_ct κ.1.2.1 ad cA D x3 s) gX1_drawEvenFromNothing_X2_isBroken rfl ⟨rfl, rfl⟩ (by decide +kernel) (by decide) (shA_1) rfl rfl rfl (Nat.le_of_ble_eq_true rfl) (fun _ => rfl) ?_
      refine x2_isBroken_mono h (fun r2 s1 h => ?_)
      refine r_if_ne (tgt := 25) C dX1_drawEvenFromNothing_15 (by decide) ⟨h.1, fun c4 => ?_, fun c4 => ?_⟩
      · have h := h.2.1 c4
        refine r_iinc (j := 3) (ls' := [(3, vI (x3 + (1 : Int))), (0, .ref (ad 13)), (1, .ref (ad 1)), (2, vI x2)]) C dX1_drawEvenFromNothing_25 rfl (by decide) rfl ?_
        refine r_goto (tgt := 2) C dX1_drawEvenFromNothing_28 (by decide) ?_
        exact r_perm [1, 2, 3, 0] rfl ((z2 _ _ _).1 h)
      · have h := h.2.2 c4
        refine r_aload_n C 1 dX1_drawEvenFromNothing_18 rfl ?_
        refine r_get (j := 5) (jz := 5) (v := .ref (ad 4)) C dX1_drawEvenFromNothing_19 (shA_1) rfl rfl (by decide) in_x1_drawEvenFromNothing_X2 w_x1_drawEvenFromNothing_28 rfl rfl rfl ?_
        refine r_iload_n C 3 dX1_drawEvenFromNothing_22 rfl ?_
        refine r_iconst C dX1_drawEvenFromNothing_23 ?_
        refine r_iast (nz := 6) C dX1_drawEvenFromNothing_24 (shA_4) rfl (by decide) ⟨h.1, fun s3 e_s3 => ?_⟩
        have h := h.2 s3 e_s3
        refine r_iinc (j := 3) (ls' := [(3, vI (x3 + (1 : Int))), (0, .ref (ad 13)), (1, .ref (ad 1)), (2, vI x2)]) C dX1_drawEvenFromNothing_25 rfl (by decide) rfl ?_
        refine r_goto (tgt := 2) C dX1_drawEvenFromNothing_28 (by decide) ?_
        exact r_perm [1, 2, 3, 0] rfl ((z2 _ _ _).1 h)
  · intro x2 x3 s h
    refine (z33 _ _ _).2 ?_
    refine r_iload_n C 3 dX1_drawEvenFromNothing_33 rfl ?_
    refine r_sipush C dX1_drawEvenFromNothing_34 (by decide) ?_
    refine r_icmp_ge (tgt := 80) C dX1_drawEvenFromNothing_37 (by decide) ⟨h.1, fun c12 => ?_, fun c12 => ?_⟩
    · have h := h.2.1 c12
      refine r_iconst C dX1_drawEvenFromNothing_80 ?_
      exact r_zreturn C dX1_drawEvenFromNothing_81 h
    · have h := h.2.2 c12
      refine r_aload_n C 0 dX1_drawEvenFromNothing_40 rfl ?_
      refine r_aload_n C 1 dX1_drawEvenFromNothing_41 rfl ?_
      refine r_aload_n C 0 dX1_drawEvenFromNothing_42 rfl ?_
      refine r_get (j := 6) (jz := 6) (v := .ref (ad 22)) C dX1_drawEvenFromNothing_43 (shA_13) rfl rfl (by decide) in_x1_drawEvenFromNothing_X1 w_x1_drawEvenFromNothing_25 rfl rfl rfl ?_
      refine r_iload_n C 2 dX1_drawEvenFromNothing_46 rfl ?_
      refine r_callV (As := [.ref (ad 1), .ref (ad 22), vI x2]) (o := 13) (n := 3) C dX1_drawEvenFromNothing_47 (x1_goRound_ct κ.1.2.1 ad cA D 22 x2 s) gX1_drawEvenFromNothing_X1_goRound rfl ⟨rfl, rfl⟩ (by decide +kernel) (by decide) (shA_13) rfl rfl rfl (Nat.le_of_ble_eq_true rfl) (fun _ => rfl) ?_
      refine x1_goRound_mono h (fun r7 s6 h => ?_)
      refine r_istore (ls' := [(4, vI r7), (0, .ref (ad 13)), (1, .ref (ad 1)), (2, vI x2), (3, vI x3)]) C dX1_drawEvenFromNothing_50 (by decide) rfl ?_
      refine r_iload C 0 dX1_drawEvenFromNothing_52 rfl ?_
      refine r_iconst C dX1_drawEvenFromNothing_54 ?_
      refine r_icmp_eq (tgt := 63) C dX1_drawEvenFromNothing_55 (by decide) ⟨h.1, fun c11 => ?_, fun c11 => ?_⟩
      · have h := h.2.1 c11
        refine r_iload C 0 dX1_drawEvenFromNothing_63 rfl ?_
        refine r_if_ne (tgt := 72) C dX1_drawEvenFromNothing_65 (by decide) ⟨h.1, fun c8 => ?_, fun c8 => ?_⟩
        · have h := h.2.1 c8
          refine r_iconst C dX1_drawEvenFromNothing_72 ?_
          exact r_zreturn C dX1_drawEvenFromNothing_73 h
        · have h := h.2.2 c8
          refine r_iconst C dX1_drawEvenFromNothing_68 ?_
          refine r_goto (tgt := 73) C dX1_drawEvenFromNothing_69 (by decide) ?_
          exact r_zreturn C dX1_drawEvenFromNothing_73 h
      · have h := h.2.2 c11
        refine r_iload C 0 dX1_drawEvenFromNothing_58 rfl ?_
        refine r_if_ne (tgt := 74) C dX1_drawEvenFromNothing_60 (by decide) ⟨h.1, fun c10 => ?_, fun c10 => ?_⟩
        · have h := h.2.1 c10
          refine r_iinc (j := 4) (ls' := [(3, vI (x3 + (1 : Int))), (4, vI r7), (0, .ref (ad 13)), (1, .ref (ad 1)), (2, vI x2)]) C dX1_drawEvenFromNothing_74 rfl (by decide) rfl ?_
          refine r_goto (tgt := 33) C dX1_drawEvenFromNothing_77 (by decide) ?_
          exact r_perm [2, 3, 4, 0] rfl ((z33 _ _ _).1 h)
        · have h := h.2.2 c10
          refine r_iload C 0 dX1_drawEvenFromNothing_63 rfl ?_
          refine r_if_ne (tgt := 72) C dX1_drawEvenFromNothing_65 (by decide) ⟨h.1, fun c9 => ?_, fun c9 => ?_⟩
          · have h := h.2.1 c9
            refine r_iconst C dX1_drawEvenFromNothing_72 ?_
            exact r_zreturn C dX1_drawEvenFromNothing_73 h
          · have h := h.2.2 c9
            refine r_iconst C dX1_drawEvenFromNothing_68 ?_
            refine r_goto (tgt := 73) C dX1_drawEvenFromNothing_69 (by decide) ?_
            exact r_zreturn C dX1_drawEvenFromNothing_73 h
theorem x1_drawEvenFromNothing_ct (l : Launch) (ad : Nat → Nat) (cA : Nat → ClassId) (D : va_G) (p2 : Int) (s : Mem) : MG l yX1_drawEvenFromNothing wsX1_drawEvenFromNothing x1_drawEvenFromNothing_rm ocI [.ref (ad 13), .ref (ad 1), vI p2] (GA ad cA D) s (x1_drawEvenFromNothing p2 s) :=
  m_met (own := RX1) (nL := 5) (by decide) rfl rfl (Nat.le_of_ble_eq_true rfl) rfl rfl rfl (fun κ hl C Q Pst hW hQ => x1_drawEvenFromNothing_bd C (x1_drawEvenFromNothing_mono hW hQ))
