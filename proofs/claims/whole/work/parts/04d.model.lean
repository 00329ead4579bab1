def x8_best (p1 : Int) (p2 : Int) (s : Mem) (Q : Int → Mem → Prop) : Prop :=
  x8_isAim p1 s (fun r2 s1 => InI r2 ∧ (r2 = (0 : Int) → Q (-100002 : Int) s1) ∧ (¬ r2 = (0 : Int) → (InI p2) ∧ x8_in p2 (0 : Int) (2 : Int) s1 (fun r4 s3 => InI r4 ∧ (¬ r4 = (0 : Int) → (InI (s3 0 (0 : Int)) ∧ InI (6 : Int)) ∧ (¬ (s3 0 (0 : Int)) = (6 : Int) → x8_findBest p1 s3 (fun _ s5 => InI (s5 0 (21 : Int)) ∧ ((0 : Int) ≤ (s5 0 (21 : Int)) → InI p2 ∧ (¬ p2 = (0 : Int) → (InI p2 ∧ InI (1 : Int)) ∧ (¬ p2 = (1 : Int) → Q (s5 0 (23 : Int)) s5) ∧ (p2 = (1 : Int) → Q (s5 0 (22 : Int)) s5)) ∧ (p2 = (0 : Int) → Q (s5 0 (21 : Int)) s5)) ∧ ((s5 0 (21 : Int)) < (0 : Int) → Q (-100003 : Int) s5))) ∧ ((s3 0 (0 : Int)) = (6 : Int) → Q (-100005 : Int) s3)) ∧ (r4 = (0 : Int) → Q (-100002 : Int) s3))))
theorem x8_best_mono {Q R : Int → Mem → Prop} {p1 : Int} {p2 : Int} {s : Mem} (h : x8_best p1 p2 s Q) (hQ : ∀ r s, Q r s → R r s) : x8_best p1 p2 s R :=
  x8_isAim_mono h (fun r2 s1 h => ⟨h.1, fun c => have h := h.2.1 c; hQ _ _ h, fun c => have h := h.2.2 c; ⟨h.1, have h := h.2; x8_in_mono h (fun r4 s3 h => ⟨h.1, fun c => have h := h.2.1 c; ⟨h.1, fun c => have h := h.2.1 c; x8_findBest_mono h (fun _ s5 h => ⟨h.1, fun c => have h := h.2.1 c; ⟨h.1, fun c => have h := h.2.1 c; ⟨h.1, fun c => have h := h.2.1 c; hQ _ _ h, fun c => have h := h.2.2 c; hQ _ _ h⟩, fun c => have h := h.2.2 c; hQ _ _ h⟩, fun c => have h := h.2.2 c; hQ _ _ h⟩), fun c => have h := h.2.2 c; hQ _ _ h⟩, fun c => have h := h.2.2 c; hQ _ _ h⟩)⟩⟩)
def x8_best_rm : Room := { frames := 8, cells := 0, slots := 0, locals := 191 }
theorem w_x8_best_105 : Cond.constant RX8 105 (-100002) ∈ wsX8_best := by decide +kernel
theorem w_x8_best_122 : Cond.constantLong RX8 122 (2) ∈ wsX8_best := by decide +kernel
theorem w_x8_best_86 : Cond.fieldLink RX8 86 "BoltRingModel" "n" "I" ∈ wsX8_best := by decide +kernel
theorem w_x8_best_203 : Cond.fieldLink RX8 203 "BoltRingModel" "bestRow" "I" ∈ wsX8_best := by decide +kernel
theorem w_x8_best_209 : Cond.fieldLink RX8 209 "BoltRingModel" "bestDrawn" "I" ∈ wsX8_best := by decide +kernel
theorem w_x8_best_206 : Cond.fieldLink RX8 206 "BoltRingModel" "bestPasses" "I" ∈ wsX8_best := by decide +kernel
theorem w_x8_best_121 : Cond.constant RX8 121 (-100003) ∈ wsX8_best := by decide +kernel
theorem w_x8_best_212 : Cond.constant RX8 212 (-100005) ∈ wsX8_best := by decide +kernel
theorem in_x8_best_X8 : ∀ w ∈ wsX80, w ∈ wsX8_best := by decide +kernel
set_option maxHeartbeats 4000000 in
set_option maxRecDepth 100000 in
theorem x8_best_bd {κ : KT} {ad : Nat → Nat} {cA : Nat → ClassId} {D : va_G} {Q : State → Prop} {p1 : Int} {p2 : Int} {s : Mem} (C : CX κ (GB ad cA D) RX8 cX8_best 3 wsX8_best x8_best_rm (some .int)) (h : x8_best p1 p2 s (RT κ (GB ad cA D) ocI Q)) : WM κ (GB ad cA D) 3 Q s 0 [(0, .ref (ad 0)), (1, vI p1), (2, vI p2)] [] := by
  refine r_iload_n C 1 dX8_best_0 rfl ?_
  refine r_callS (As := [vI p1]) (n := 1) C dX8_best_1 (x8_isAim_ct κ.1.2.1 ad cA D p1 s) gX8_best_X8_isAim rfl ⟨rfl, rfl⟩ (by decide +kernel) (by decide) rfl rfl (Nat.le_of_ble_eq_true rfl) (fun _ => rfl) ?_
  refine x8_isAim_mono h (fun r2 s1 h => ?_)
  refine r_if_eq (tgt := 19) C dX8_best_4 (by decide) ⟨h.1, fun c11 => ?_, fun c11 => ?_⟩
  · have h := h.2.1 c11
    refine r_ldc (z := -100002) C dX8_best_19 w_x8_best_105 rfl ?_
    exact r_ireturn C dX8_best_21 h
  · have h := h.2.2 c11
    refine r_iload_n C 2 dX8_best_7 rfl ?_
    refine r_i2l C dX8_best_8 ⟨h.1, ?_⟩
    have h := h.2
    refine r_lconst (z := 0) C dX8_best_9 rfl ?_
    refine r_ldc2 (z := 2) C dX8_best_10 w_x8_best_122 rfl ?_
    refine r_callS (As := [vL p2, vL (0 : Int), vL (2 : Int)]) (n := 3) C dX8_best_13 (x8_in_ct κ.1.2.1 ad cA D p2 (0 : Int) (2 : Int) s1) gX8_best_X8_in rfl ⟨rfl, rfl⟩ (by decide +kernel) (by decide) rfl rfl (Nat.le_of_ble_eq_true rfl) (fun _ => rfl) ?_
    refine x8_in_mono h (fun r4 s3 h => ?_)
    refine r_if_ne (tgt := 22) C dX8_best_16 (by decide) ⟨h.1, fun c10 => ?_, fun c10 => ?_⟩
    · have h := h.2.1 c10
      refine r_aload_n C 0 dX8_best_22 rfl ?_
      refine r_get (j := 0) (jz := 0) (v := vI (s3 0 (0 : Int))) C dX8_best_23 (shB_0) rfl rfl (by decide) in_x8_best_X8 w_x8_best_86 rfl rfl rfl ?_
      refine r_bipush C dX8_best_26 (by decide) ?_
      refine r_icmp_ne (tgt := 34) C dX8_best_28 (by decide) ⟨h.1, fun c9 => ?_, fun c9 => ?_⟩
      · have h := h.2.1 c9
        refine r_aload_n C 0 dX8_best_34 rfl ?_
        refine r_iload_n C 1 dX8_best_35 rfl ?_
        refine r_callV (As := [vI p1]) (o := 0) (n := 1) C dX8_best_36 (x8_findBest_ct κ.1.2.1 ad cA D p1 s3) gX8_best_X8_findBest rfl ⟨rfl, rfl⟩ (by decide +kernel) (by decide) (shB_0) rfl rfl rfl (Nat.le_of_ble_eq_true rfl) (fun _ => rfl) ?_
        refine x8_findBest_mono h (fun _ s5 h => ?_)
        refine r_aload_n C 0 dX8_best_39 rfl ?_
        refine r_get (j := 21) (jz := 21) (v := vI (s5 0 (21 : Int))) C dX8_best_40 (shB_0) rfl rfl (by decide) in_x8_best_X8 w_x8_best_203 rfl rfl rfl ?_
        refine r_if_ge (tgt := 51) C dX8_best_43 (by decide) ⟨h.1, fun c8 => ?_, fun c8 => ?_⟩
        · have h := h.2.1 c8
          refine r_iload_n C 2 dX8_best_51 rfl ?_
          refine r_if_ne (tgt := 62) C dX8_best_52 (by decide) ⟨h.1, fun c7 => ?_, fun c7 => ?_⟩
          · have h := h.2.1 c7
            refine r_iload_n C 2 dX8_best_62 rfl ?_
            refine r_iconst C dX8_best_63 ?_
            refine r_icmp_ne (tgt := 74) C dX8_best_64 (by decide) ⟨h.1, fun c6 => ?_, fun c6 => ?_⟩
            · have h := h.2.1 c6
              refine r_aload_n C 0 dX8_best_74 rfl ?_
              refine r_get (j := 23) (jz := 23) (v := vI (s5 0 (23 : Int))) C dX8_best_75 (shB_0) rfl rfl (by decide) in_x8_best_X8 w_x8_best_209 rfl rfl rfl ?_
              exact r_ireturn C dX8_best_78 h
            · have h := h.2.2 c6
              refine r_aload_n C 0 dX8_best_67 rfl ?_
              refine r_get (j := 22) (jz := 22) (v := vI (s5 0 (22 : Int))) C dX8_best_68 (shB_0) rfl rfl (by decide) in_x8_best_X8 w_x8_best_206 rfl rfl rfl ?_
              refine r_goto (tgt := 78) C dX8_best_71 (by decide) ?_
              exact r_ireturn C dX8_best_78 h
          · have h := h.2.2 c7
            refine r_aload_n C 0 dX8_best_55 rfl ?_
            refine r_get (j := 21) (jz := 21) (v := vI (s5 0 (21 : Int))) C dX8_best_56 (shB_0) rfl rfl (by decide) in_x8_best_X8 w_x8_best_203 rfl rfl rfl ?_
            refine r_goto (tgt := 78) C dX8_best_59 (by decide) ?_
            exact r_ireturn C dX8_best_78 h
        · have h := h.2.2 c8
          refine r_ldc (z := -100003) C dX8_best_46 w_x8_best_121 rfl ?_
          refine r_goto (tgt := 78) C dX8_best_48 (by decide) ?_
          exact r_ireturn C dX8_best_78 h
      · have h := h.2.2 c9
        refine r_ldc (z := -100005) C dX8_best_31 w_x8_best_212 rfl ?_
        exact r_ireturn C dX8_best_33 h
    · have h := h.2.2 c10
      refine r_ldc (z := -100002) C dX8_best_19 w_x8_best_105 rfl ?_
      exact r_ireturn C dX8_best_21 h
theorem x8_best_ct (l : Launch) (ad : Nat → Nat) (cA : Nat → ClassId) (D : va_G) (p1 : Int) (p2 : Int) (s : Mem) : MG l yX8_best wsX8_best x8_best_rm ocI [.ref (ad 0), vI p1, vI p2] (GB ad cA D) s (x8_best p1 p2 s) :=
  m_met (own := RX8) (nL := 3) (by decide) rfl rfl (Nat.le_of_ble_eq_true rfl) rfl rfl rfl (fun κ hl C Q Pst hW hQ => x8_best_bd C (x8_best_mono hW hQ))

def x8_makeEven_be (X2 : Int → Int → Mem → Prop) (X43 : Int → Int → Mem → Prop) (X51 : Int → Int → Int → Mem → Prop) (X78 : Int → Int → Int → Int → Mem → Prop) (Q : Int → Mem → Prop) (p1 : Int) (s : Mem) : Prop :=
  X2 p1 (0 : Int) s
def x8_makeEven_b2 (X2 : Int → Int → Mem → Prop) (X43 : Int → Int → Mem → Prop) (X51 : Int → Int → Int → Mem → Prop) (X78 : Int → Int → Int → Int → Mem → Prop) (Q : Int → Mem → Prop) (x1 : Int) (x2 : Int) (s : Mem) : Prop :=
  (InI x2 ∧ InI (s 0 (0 : Int))) ∧ ((s 0 (0 : Int)) ≤ x2 → X43 x1 (1 : Int) s) ∧ (x2 < (s 0 (0 : Int)) → ((0 : Int) ≤ x2 ∧ x2 < 6) ∧ InI (s 5 x2) ∧ ((s 5 x2) = (0 : Int) → ((0 : Int) ≤ x2 ∧ x2 < 6) ∧ ∀ s1 : Mem, s1 = m_upd s 3 x2 (0 : Int) → X2 x1 (x2 + (1 : Int)) s1) ∧ (¬ (s 5 x2) = (0 : Int) → ((0 : Int) ≤ x2 ∧ x2 < 6) ∧ ((0 : Int) ≤ x2 ∧ x2 < 6) ∧ ∀ s2 : Mem, s2 = m_upd s 3 x2 (s 3 x2) → X2 x1 (x2 + (1 : Int)) s2))
def x8_makeEven_b43 (X2 : Int → Int → Mem → Prop) (X43 : Int → Int → Mem → Prop) (X51 : Int → Int → Int → Mem → Prop) (X78 : Int → Int → Int → Int → Mem → Prop) (Q : Int → Mem → Prop) (x1 : Int) (x2 : Int) (s : Mem) : Prop :=
  InI x2 ∧ (x2 = (0 : Int) → ((0 : Int) ≤ (1 : Int) ∧ (1 : Int) ≤ 1) ∧ Q (1 : Int) s) ∧ (¬ x2 = (0 : Int) → X51 x1 (0 : Int) (0 : Int) s)
def x8_makeEven_b51 (X2 : Int → Int → Mem → Prop) (X43 : Int → Int → Mem → Prop) (X51 : Int → Int → Int → Mem → Prop) (X78 : Int → Int → Int → Int → Mem → Prop) (Q : Int → Mem → Prop) (x1 : Int) (x2 : Int) (x3 : Int) (s : Mem) : Prop :=
  (InI x3 ∧ InI (s 0 (0 : Int))) ∧ ((s 0 (0 : Int)) ≤ x3 → X43 x1 x2 s) ∧ (x3 < (s 0 (0 : Int)) → ((0 : Int) ≤ x3 ∧ x3 < 6) ∧ InI (s 5 x3) ∧ ((s 5 x3) = (0 : Int) → x8_drawOf x3 x1 s (fun r7 s6 => X78 x1 x2 x3 r7 s6)) ∧ (¬ (s 5 x3) = (0 : Int) → X78 x1 x2 x3 (0 : Int) s))
def x8_makeEven_b78 (X2 : Int → Int → Mem → Prop) (X43 : Int → Int → Mem → Prop) (X51 : Int → Int → Int → Mem → Prop) (X78 : Int → Int → Int → Int → Mem → Prop) (Q : Int → Mem → Prop) (x1 : Int) (x2 : Int) (x3 : Int) (t0 : Int) (s : Mem) : Prop :=
  InI t0 ∧ ((0 : Int) ≤ t0 → InI x2 ∧ (¬ x2 = (0 : Int) → X51 x1 (1 : Int) (x3 + (1 : Int)) s) ∧ (x2 = (0 : Int) → InI t0 ∧ (t0 ≤ (0 : Int) → X51 x1 (0 : Int) (x3 + (1 : Int)) s) ∧ ((0 : Int) < t0 → X51 x1 (1 : Int) (x3 + (1 : Int)) s))) ∧ (t0 < (0 : Int) → ((0 : Int) ≤ (0 : Int) ∧ (0 : Int) ≤ 1) ∧ Q (0 : Int) s)
theorem x8_makeEven_me {X2 Y2 : Int → Int → Mem → Prop} {X43 Y43 : Int → Int → Mem → Prop} {X51 Y51 : Int → Int → Int → Mem → Prop} {X78 Y78 : Int → Int → Int → Int → Mem → Prop} {Q R : Int → Mem → Prop} (hX2 : ∀ x1 x2 s, X2 x1 x2 s → Y2 x1 x2 s) (hX43 : ∀ x1 x2 s, X43 x1 x2 s → Y43 x1 x2 s) (hX51 : ∀ x1 x2 x3 s, X51 x1 x2 x3 s → Y51 x1 x2 x3 s) (hX78 : ∀ x1 x2 x3 t0 s, X78 x1 x2 x3 t0 s → Y78 x1 x2 x3 t0 s) (hQ : ∀ r s, Q r s → R r s) {p1 : Int} {s : Mem} (h : x8_makeEven_be X2 X43 X51 X78 Q p1 s) : x8_makeEven_be Y2 Y43 Y51 Y78 R p1 s :=
  hX2 _ _ _ h
theorem x8_makeEven_m2 {X2 Y2 : Int → Int → Mem → Prop} {X43 Y43 : Int → Int → Mem → Prop} {X51 Y51 : Int → Int → Int → Mem → Prop} {X78 Y78 : Int → Int → Int → Int → Mem → Prop} {Q R : Int → Mem → Prop} (hX2 : ∀ x1 x2 s, X2 x1 x2 s → Y2 x1 x2 s) (hX43 : ∀ x1 x2 s, X43 x1 x2 s → Y43 x1 x2 s) (hX51 : ∀ x1 x2 x3 s, X51 x1 x2 x3 s → Y51 x1 x2 x3 s) (hX78 : ∀ x1 x2 x3 t0 s, X78 x1 x2 x3 t0 s → Y78 x1 x2 x3 t0 s) (hQ : ∀ r s, Q r s → R r s) {x1 : Int} {x2 : Int} {s : Mem} (h : x8_makeEven_b2 X2 X43 X51 X78 Q x1 x2 s) : x8_makeEven_b2 Y2 Y43 Y51 Y78 R x1 x2 s :=
  ⟨h.1, fun c => have h := h.2.1 c; hX43 _ _ _ h, fun c => have h := h.2.2 c; ⟨h.1, have h := h.2; ⟨h.1, fun c => have h := h.2.1 c; ⟨h.1, have h := h.2; fun s1 e_s1 => have h := h s1 e_s1; hX2 _ _ _ h⟩, fun c => have h := h.2.2 c; ⟨h.1, have h := h.2; ⟨h.1, have h := h.2; fun s2 e_s2 => have h := h s2 e_s2; hX2 _ _ _ h⟩⟩⟩⟩⟩
theorem x8_makeEven_m43 {X2 Y2 : Int → Int → Mem → Prop} {X43 Y43 : Int → Int → Mem → Prop} {X51 Y51 : Int → Int → Int → Mem → Prop} {X78 Y78 : Int → Int → Int → Int → Mem → Prop} {Q R : Int → Mem → Prop} (hX2 : ∀ x1 x2 s, X2 x1 x2 s → Y2 x1 x2 s) (hX43 : ∀ x1 x2 s, X43 x1 x2 s → Y43 x1 x2 s) (hX51 : ∀ x1 x2 x3 s, X51 x1 x2 x3 s → Y51 x1 x2 x3 s) (hX78 : ∀ x1 x2 x3 t0 s, X78 x1 x2 x3 t0 s → Y78 x1 x2 x3 t0 s) (hQ : ∀ r s, Q r s → R r s) {x1 : Int} {x2 : Int} {s : Mem} (h : x8_makeEven_b43 X2 X43 X51 X78 Q x1 x2 s) : x8_makeEven_b43 Y2 Y43 Y51 Y78 R x1 x2 s :=
  ⟨h.1, fun c => have h := h.2.1 c; ⟨h.1, hQ _ _ h.2⟩, fun c => have h := h.2.2 c; hX51 _ _ _ _ h⟩
theorem x8_makeEven_m51 {X2 Y2 : Int → Int → Mem → Prop} {X43 Y43 : Int → Int → Mem → Prop} {X51 Y51 : Int → Int → Int → Mem → Prop} {X78 Y78 : Int → Int → Int → Int → Mem → Prop} {Q R : Int → Mem → Prop} (hX2 : ∀ x1 x2 s, X2 x1 x2 s → Y2 x1 x2 s) (hX43 : ∀ x1 x2 s, X43 x1 x2 s → Y43 x1 x2 s) (hX51 : ∀ x1 x2 x3 s, X51 x1 x2 x3 s → Y51 x1 x2 x3 s) (hX78 : ∀ x1 x2 x3 t0 s, X78 x1 x2 x3 t0 s → Y78 x1 x2 x3 t0 s) (hQ : ∀ r s, Q r s → R r s) {x1 : Int} {x2 : Int} {x3 : Int} {s : Mem} (h : x8_makeEven_b51 X2 X43 X51 X78 Q x1 x2 x3 s) : x8_makeEven_b51 Y2 Y43 Y51 Y78 R x1 x2 x3 s :=
  ⟨h.1, fun c => have h := h.2.1 c; hX43 _ _ _ h, fun c => have h := h.2.2 c; ⟨h.1, have h := h.2; ⟨h.1, fun c => have h := h.2.1 c; x8_drawOf_mono h (fun r7 s6 h => hX78 _ _ _ _ _ h), fun c => have h := h.2.2 c; hX78 _ _ _ _ _ h⟩⟩⟩
theorem x8_makeEven_m78 {X2 Y2 : Int → Int → Mem → Prop} {X43 Y43 : Int → Int → Mem → Prop} {X51 Y51 : Int → Int → Int → Mem → Prop} {X78 Y78 : Int → Int → Int → Int → Mem → Prop} {Q R : Int → Mem → Prop} (hX2 : ∀ x1 x2 s, X2 x1 x2 s → Y2 x1 x2 s) (hX43 : ∀ x1 x2 s, X43 x1 x2 s → Y43 x1 x2 s) (hX51 : ∀ x1 x2 x3 s, X51 x1 x2 x3 s → Y51 x1 x2 x3 s) (hX78 : ∀ x1 x2 x3 t0 s, X78 x1 x2 x3 t0 s → Y78 x1 x2 x3 t0 s) (hQ : ∀ r s, Q r s → R r s) {x1 : Int} {x2 : Int} {x3 : Int} {t0 : Int} {s : Mem} (h : x8_makeEven_b78 X2 X43 X51 X78 Q x1 x2 x3 t0 s) : x8_makeEven_b78 Y2 Y43 Y51 Y78 R x1 x2 x3 t0 s :=
  ⟨h.1, fun c => have h := h.2.1 c; ⟨h.1, fun c => have h := h.2.1 c; hX51 _ _ _ _ h, fun c => have h := h.2.2 c; ⟨h.1, fun c => have h := h.2.1 c; hX51 _ _ _ _ h, fun c => have h := h.2.2 c; hX51 _ _ _ _ h⟩⟩, fun c => have h := h.2.2 c; ⟨h.1, hQ _ _ h.2⟩⟩
def x8_makeEven (p1 : Int) (s : Mem) (Q : Int → Mem → Prop) : Prop := ∀ (X2 : Int → Int → Mem → Prop) (X43 : Int → Int → Mem → Prop) (X51 : Int → Int → Int → Mem → Prop) (X78 : Int → Int → Int → Int → Mem → Prop), (∀ x1 x2 s, x8_makeEven_b2 X2 X43 X51 X78 Q x1 x2 s → X2 x1 x2 s) → (∀ x1 x2 s, x8_makeEven_b43 X2 X43 X51 X78 Q x1 x2 s → X43 x1 x2 s) → (∀ x1 x2 x3 s, x8_makeEven_b51 X2 X43 X51 X78 Q x1 x2 x3 s → X51 x1 x2 x3 s) → (∀ x1 x2 x3 t0 s, x8_makeEven_b78 X2 X43 X51 X78 Q x1 x2 x3 t0 s → X78 x1 x2 x3 t0 s) → x8_makeEven_be X2 X43 X51 X78 Q p1 s
def x8_makeEven_L2 (Q : Int → Mem → Prop) (x1 : Int) (x2 : Int) (s : Mem) : Prop := ∀ (X2 : Int → Int → Mem → Prop) (X43 : Int → Int → Mem → Prop) (X51 : Int → Int → Int → Mem → Prop) (X78 : Int → Int → Int → Int → Mem → Prop), (∀ x1 x2 s, x8_makeEven_b2 X2 X43 X51 X78 Q x1 x2 s → X2 x1 x2 s) → (∀ x1 x2 s, x8_makeEven_b43 X2 X43 X51 X78 Q x1 x2 s → X43 x1 x2 s) → (∀ x1 x2 x3 s, x8_makeEven_b51 X2 X43 X51 X78 Q x1 x2 x3 s → X51 x1 x2 x3 s) → (∀ x1 x2 x3 t0 s, x8_makeEven_b78 X2 X43 X51 X78 Q x1 x2 x3 t0 s → X78 x1 x2 x3 t0 s) → X2 x1 x2 s
def x8_makeEven_L43 (Q : Int → Mem → Prop) (x1 : Int) (x2 : Int) (s : Mem) : Prop := ∀ (X2 : Int → Int → Mem → Prop) (X43 : Int → Int → Mem → Prop) (X51 : Int → Int → Int → Mem → Prop) (X78 : Int → Int → Int → Int → Mem → Prop), (∀ x1 x2 s, x8_makeEven_b2 X2 X43 X51 X78 Q x1 x2 s → X2 x1 x2 s) → (∀ x1 x2 s, x8_makeEven_b43 X2 X43 X51 X78 Q x1 x2 s → X43 x1 x2 s) → (∀ x1 x2 x3 s, x8_makeEven_b51 X2 X43 X51 X78 Q x1 x2 x3 s → X51 x1 x2 x3 s) → (∀ x1 x2 x3 t0 s, x8_makeEven_b78 X2 X43 X51 X78 Q x1 x2 x3 t0 s → X78 x1 x2 x3 t0 s) → X43 x1 x2 s
def x8_makeEven_L51 (Q : Int → Mem → Prop) (x1 : Int) (x2 : Int) (x3 : Int) (s : Mem) : Prop := ∀ (X2 : Int → Int → Mem → Prop) (X43 : Int → Int → Mem → Prop) (X51 : Int → Int → Int → Mem → Prop) (X78 : Int → Int → Int → Int → Mem → Prop), (∀ x1 x2 s, x8_makeEven_b2 X2 X43 X51 X78 Q x1 x2 s → X2 x1 x2 s) → (∀ x1 x2 s, x8_makeEven_b43 X2 X43 X51 X78 Q x1 x2 s → X43 x1 x2 s) → (∀ x1 x2 x3 s, x8_makeEven_b51 X2 X43 X51 X78 Q x1 x2 x3 s → X51 x1 x2 x3 s) → (∀ x1 x2 x3 t0 s, x8_makeEven_b78 X2 X43 X51 X78 Q x1 x2 x3 t0 s → X78 x1 x2 x3 t0 s) → X51 x1 x2 x3 s
def x8_makeEven_L78 (Q : Int → Mem → Prop) (x1 : Int) (x2 : Int) (x3 : Int) (t0 : Int) (s : Mem) : Prop := ∀ (X2 : Int → Int → Mem → Prop) (X43 : Int → Int → Mem → Prop) (X51 : Int → Int → Int → Mem → Prop) (X78 : Int → Int → Int → Int → Mem → Prop), (∀ x1 x2 s, x8_makeEven_b2 X2 X43 X51 X78 Q x1 x2 s → X2 x1 x2 s) → (∀ x1 x2 s, x8_makeEven_b43 X2 X43 X51 X78 Q x1 x2 s → X43 x1 x2 s) → (∀ x1 x2 x3 s, x8_makeEven_b51 X2 X43 X51 X78 Q x1 x2 x3 s → X51 x1 x2 x3 s) → (∀ x1 x2 x3 t0 s, x8_makeEven_b78 X2 X43 X51 X78 Q x1 x2 x3 t0 s → X78 x1 x2 x3 t0 s) → X78 x1 x2 x3 t0 s
theorem x8_makeEven_i {Q : Int → Mem → Prop} {p1 : Int} {s : Mem} (h : x8_makeEven_be (x8_makeEven_L2 Q) (x8_makeEven_L43 Q) (x8_makeEven_L51 Q) (x8_makeEven_L78 Q) Q p1 s) : x8_makeEven p1 s Q := fun X2 X43 X51 X78 k2 k43 k51 k78 => x8_makeEven_me (fun _ _ _ h => h X2 X43 X51 X78 k2 k43 k51 k78) (fun _ _ _ h => h X2 X43 X51 X78 k2 k43 k51 k78) (fun _ _ _ _ h => h X2 X43 X51 X78 k2 k43 k51 k78) (fun _ _ _ _ _ h => h X2 X43 X51 X78 k2 k43 k51 k78) (fun _ _ h => h) h
theorem x8_makeEven_s2 {Q : Int → Mem → Prop} {x1 : Int} {x2 : Int} {s : Mem} (h : x8_makeEven_b2 (x8_makeEven_L2 Q) (x8_makeEven_L43 Q) (x8_makeEven_L51 Q) (x8_makeEven_L78 Q) Q x1 x2 s) : x8_makeEven_L2 Q x1 x2 s := fun X2 X43 X51 X78 k2 k43 k51 k78 => k2 _ _ _ (x8_makeEven_m2 (fun _ _ _ h => h X2 X43 X51 X78 k2 k43 k51 k78) (fun _ _ _ h => h X2 X43 X51 X78 k2 k43 k51 k78) (fun _ _ _ _ h => h X2 X43 X51 X78 k2 k43 k51 k78) (fun _ _ _ _ _ h => h X2 X43 X51 X78 k2 k43 k51 k78) (fun _ _ h => h) h)
theorem x8_makeEven_s43 {Q : Int → Mem → Prop} {x1 : Int} {x2 : Int} {s : Mem} (h : x8_makeEven_b43 (x8_makeEven_L2 Q) (x8_makeEven_L43 Q) (x8_makeEven_L51 Q) (x8_makeEven_L78 Q) Q x1 x2 s) : x8_makeEven_L43 Q x1 x2 s := fun X2 X43 X51 X78 k2 k43 k51 k78 => k43 _ _ _ (x8_makeEven_m43 (fun _ _ _ h => h X2 X43 X51 X78 k2 k43 k51 k78) (fun _ _ _ h => h X2 X43 X51 X78 k2 k43 k51 k78) (fun _ _ _ _ h => h X2 X43 X51 X78 k2 k43 k51 k78) (fun _ _ _ _ _ h => h X2 X43 X51 X78 k2 k43 k51 k78) (fun _ _ h => h) h)
theorem x8_makeEven_s51 {Q : Int → Mem → Prop} {x1 : Int} {x2 : Int} {x3 : Int} {s : Mem} (h : x8_makeEven_b51 (x8_makeEven_L2 Q) (x8_makeEven_L43 Q) (x8_makeEven_L51 Q) (x8_makeEven_L78 Q) Q x1 x2 x3 s) : x8_makeEven_L51 Q x1 x2 x3 s := fun X2 X43 X51 X78 k2 k43 k51 k78 => k51 _ _ _ _ (x8_makeEven_m51 (fun _ _ _ h => h X2 X43 X51 X78 k2 k43 k51 k78) (fun _ _ _ h => h X2 X43 X51 X78 k2 k43 k51 k78) (fun _ _ _ _ h => h X2 X43 X51 X78 k2 k43 k51 k78) (fun _ _ _ _ _ h => h X2 X43 X51 X78 k2 k43 k51 k78) (fun _ _ h => h) h)
theorem x8_makeEven_s78 {Q : Int → Mem → Prop} {x1 : Int} {x2 : Int} {x3 : Int} {t0 : Int} {s : Mem} (h : x8_makeEven_b78 (x8_makeEven_L2 Q) (x8_makeEven_L43 Q) (x8_makeEven_L51 Q) (x8_makeEven_L78 Q) Q x1 x2 x3 t0 s) : x8_makeEven_L78 Q x1 x2 x3 t0 s := fun X2 X43 X51 X78 k2 k43 k51 k78 => k78 _ _ _ _ _ (x8_makeEven_m78 (fun _ _ _ h => h X2 X43 X51 X78 k2 k43 k51 k78) (fun _ _ _ h => h X2 X43 X51 X78 k2 k43 k51 k78) (fun _ _ _ _ h => h X2 X43 X51 X78 k2 k43 k51 k78) (fun _ _ _ _ _ h => h X2 X43 X51 X78 k2 k43 k51 k78) (fun _ _ h => h) h)
theorem x8_makeEven_mono {Q R : Int → Mem → Prop} {p1 : Int} {s : Mem} (h : x8_makeEven p1 s Q) (hQ : ∀ r s, Q r s → R r s) : x8_makeEven p1 s R := fun X2 X43 X51 X78 k2 k43 k51 k78 => x8_makeEven_me (fun _ _ _ h => h) (fun _ _ _ h => h) (fun _ _ _ _ h => h) (fun _ _ _ _ _ h => h) hQ (h X2 X43 X51 X78 (fun _ _ _ h => k2 _ _ _ (x8_makeEven_m2 (fun _ _ _ h => h) (fun _ _ _ h => h) (fun _ _ _ _ h => h) (fun _ _ _ _ _ h => h) hQ h)) (fun _ _ _ h => k43 _ _ _ (x8_makeEven_m43 (fun _ _ _ h => h) (fun _ _ _ h => h) (fun _ _ _ _ h => h) (fun _ _ _ _ _ h => h) hQ h)) (fun _ _ _ _ h => k51 _ _ _ _ (x8_makeEven_m51 (fun _ _ _ h => h) (fun _ _ _ h => h) (fun _ _ _ _ h => h) (fun _ _ _ _ _ h => h) hQ h)) (fun _ _ _ _ _ h => k78 _ _ _ _ _ (x8_makeEven_m78 (fun _ _ _ h => h) (fun _ _ _ h => h) (fun _ _ _ _ h => h) (fun _ _ _ _ _ h => h) hQ h)))
def x8_makeEven_rm : Room := { frames := 5, cells := 0, slots := 0, locals := 120 }
theorem w_x8_makeEven_86 : Cond.fieldLink RX8 86 "BoltRingModel" "n" "I" ∈ wsX8_makeEven := by decide +kernel
theorem w_x8_makeEven_16 : Cond.fieldLink RX8 16 "BoltRingModel" "turns" "[I" ∈ wsX8_makeEven := by decide +kernel
theorem w_x8_makeEven_22 : Cond.fieldLink RX8 22 "BoltRingModel" "isBroken" "[Z" ∈ wsX8_makeEven := by decide +kernel
theorem in_x8_makeEven_X8 : ∀ w ∈ wsX80, w ∈ wsX8_makeEven := by decide +kernel
set_option maxHeartbeats 4000000 in
set_option maxRecDepth 100000 in
theorem x8_makeEven_bd {κ : KT} {ad : Nat → Nat} {cA : Nat → ClassId} {D : va_G} {Q : State → Prop} {p1 : Int} {s : Mem} (C : CX κ (GB ad cA D) RX8 cX8_makeEven 5 wsX8_makeEven x8_makeEven_rm (some .boolean)) (h : x8_makeEven p1 s (RT κ (GB ad cA D) ocI Q)) : WM κ (GB ad cA D) 5 Q s 0 [(0, .ref (ad 0)), (1, vI p1)] [] := by
  obtain ⟨Z2, z2⟩ : ∃ Z : Int → Int → Mem → Prop, ∀ x1 x2 s, Z x1 x2 s ↔ WM κ (GB ad cA D) 5 Q s 2 [(0, .ref (ad 0)), (1, vI x1), (2, vI x2)] [] := ⟨fun x1 x2 s => WM κ (GB ad cA D) 5 Q s 2 [(0, .ref (ad 0)), (1, vI x1), (2, vI x2)] [], fun _ _ _ => Iff.rfl⟩
  obtain ⟨Z43, z43⟩ : ∃ Z : Int → Int → Mem → Prop, ∀ x1 x2 s, Z x1 x2 s ↔ WM κ (GB ad cA D) 5 Q s 43 [(0, .ref (ad 0)), (1, vI x1), (2, vI x2)] [] := ⟨fun x1 x2 s => WM κ (GB ad cA D) 5 Q s 43 [(0, .ref (ad 0)), (1, vI x1), (2, vI x2)] [], fun _ _ _ => Iff.rfl⟩
  obtain ⟨Z51, z51⟩ : ∃ Z : Int → Int → Int → Mem → Prop, ∀ x1 x2 x3 s, Z x1 x2 x3 s ↔ WM κ (GB ad cA D) 5 Q s 51 [(0, .ref (ad 0)), (1, vI x1), (2, vI x2), (3, vI x3)] [] := ⟨fun x1 x2 x3 s => WM κ (GB ad cA D) 5 Q s 51 [(0, .ref (ad 0)), (1, vI x1), (2, vI x2), (3, vI x3)] [], fun _ _ _ _ => Iff.rfl⟩
  obtain ⟨Z78, z78⟩ : ∃ Z : Int → Int → Int → Int → Mem → Prop, ∀ x1 x2 x3 t0 s, Z x1 x2 x3 t0 s ↔ WM κ (GB ad cA D) 5 Q s 78 [(0, .ref (ad 0)), (1, vI x1), (2, vI x2), (3, vI x3)] [vI t0] := ⟨fun x1 x2 x3 t0 s => WM κ (GB ad cA D) 5 Q s 78 [(0, .ref (ad 0)), (1, vI x1), (2, vI x2), (3, vI x3)] [vI t0], fun _ _ _ _ _ => Iff.rfl⟩
  refine (fun h => ?_) (h Z2 Z43 Z51 Z78 ?_ ?_ ?_ ?_)
  · refine r_iconst C dX8_makeEven_0 ?_
    refine r_istore_n (ls' := [(2, vI (0 : Int)), (0, .ref (ad 0)), (1, vI p1)]) C dX8_makeEven_1 rfl (by decide) rfl ?_
    exact r_perm [1, 2, 0] rfl ((z2 _ _ _).1 h)
  · intro x1 x2 s h
    refine (z2 _ _ _).2 ?_
    refine r_iload_n C 2 dX8_makeEven_2 rfl ?_
    refine r_aload_n C 0 dX8_makeEven_3 rfl ?_
    refine r_get (j := 0) (jz := 0) (v := vI (s 0 (0 : Int))) C dX8_makeEven_4 (shB_0) rfl rfl (by decide) in_x8_makeEven_X8 w_x8_makeEven_86 rfl rfl rfl ?_
    refine r_icmp_ge (tgt := 41) C dX8_makeEven_7 (by decide) ⟨h.1, fun c4 => ?_, fun c4 => ?_⟩
    · have h := h.2.1 c4
      refine r_iconst C dX8_makeEven_41 ?_
      refine r_istore_n (ls' := [(2, vI (1 : Int)), (0, .ref (ad 0)), (1, vI x1)]) C dX8_makeEven_42 rfl (by decide) rfl ?_
      exact r_perm [1, 2, 0] rfl ((z43 _ _ _).1 h)
    · have h := h.2.2 c4
      refine r_aload_n C 0 dX8_makeEven_10 rfl ?_
      refine r_get (j := 4) (jz := 4) (v := .ref (ad 3)) C dX8_makeEven_11 (shB_0) rfl rfl (by decide) in_x8_makeEven_X8 w_x8_makeEven_16 rfl rfl rfl ?_
      refine r_iload_n C 2 dX8_makeEven_14 rfl ?_
      refine r_aload_n C 0 dX8_makeEven_15 rfl ?_
      refine r_get (j := 6) (jz := 6) (v := .ref (ad 5)) C dX8_makeEven_16 (shB_0) rfl rfl (by decide) in_x8_makeEven_X8 w_x8_makeEven_22 rfl rfl rfl ?_
      refine r_iload_n C 2 dX8_makeEven_19 rfl ?_
      refine r_zald (nz := 6) C dX8_makeEven_20 (shB_5) rfl (by decide) ⟨h.1, ?_⟩
      have h := h.2
      refine r_if_eq (tgt := 33) C dX8_makeEven_21 (by decide) ⟨h.1, fun c3 => ?_, fun c3 => ?_⟩
      · have h := h.2.1 c3
        refine r_iconst C dX8_makeEven_33 ?_
        refine r_iast (nz := 6) C dX8_makeEven_34 (shB_3) rfl (by decide) ⟨h.1, fun s1 e_s1 => ?_⟩
        have h := h.2 s1 e_s1
        refine r_iinc (j := 2) (ls' := [(2, vI (x2 + (1 : Int))), (0, .ref (ad 0)), (1, vI x1)]) C dX8_makeEven_35 rfl (by decide) rfl ?_
        refine r_goto (tgt := 2) C dX8_makeEven_38 (by decide) ?_
        exact r_perm [1, 2, 0] rfl ((z2 _ _ _).1 h)
      · have h := h.2.2 c3
        refine r_aload_n C 0 dX8_makeEven_24 rfl ?_
        refine r_get (j := 4) (jz := 4) (v := .ref (ad 3)) C dX8_makeEven_25 (shB_0) rfl rfl (by decide) in_x8_makeEven_X8 w_x8_makeEven_16 rfl rfl rfl ?_
        refine r_iload_n C 2 dX8_makeEven_28 rfl ?_
        refine r_iald (nz := 6) C dX8_makeEven_29 (shB_3) rfl (by decide) ⟨h.1, ?_⟩
        have h := h.2
        refine r_goto (tgt := 34) C dX8_makeEven_30 (by decide) ?_
        refine r_iast (nz := 6) C dX8_makeEven_34 (shB_3) rfl (by decide) ⟨h.1, fun s2 e_s2 => ?_⟩
        have h := h.2 s2 e_s2
        refine r_iinc (j := 2) (ls' := [(2, vI (x2 + (1 : Int))), (0, .ref (ad 0)), (1, vI x1)]) C dX8_makeEven_35 rfl (by decide) rfl ?_
        refine r_goto (tgt := 2) C dX8_makeEven_38 (by decide) ?_
        exact r_perm [1, 2, 0] rfl ((z2 _ _ _).1 h)
  · intro x1 x2 s h
    refine (z43 _ _ _).2 ?_
    refine r_iload_n C 2 dX8_makeEven_43 rfl ?_
    refine r_if_eq (tgt := 111) C dX8_makeEven_44 (by decide) ⟨h.1, fun c5 => ?_, fun c5 => ?_⟩
    · have h := h.2.1 c5
      refine r_iconst C dX8_makeEven_111 ?_
      exact r_zreturn C dX8_makeEven_112 h
    · have h := h.2.2 c5
      refine r_iconst C dX8_makeEven_47 ?_
      refine r_istore_n (ls' := [(2, vI (0 : Int)), (0, .ref (ad 0)), (1, vI x1)]) C dX8_makeEven_48 rfl (by decide) rfl ?_
      refine r_iconst C dX8_makeEven_49 ?_
      refine r_istore_n (ls' := [(3, vI (0 : Int)), (2, vI (0 : Int)), (0, .ref (ad 0)), (1, vI x1)]) C dX8_makeEven_50 rfl (by decide) rfl ?_
      exact r_perm [2, 3, 1, 0] rfl ((z51 _ _ _ _).1 h)
  · intro x1 x2 x3 s h
    refine (z51 _ _ _ _).2 ?_
    refine r_iload_n C 3 dX8_makeEven_51 rfl ?_
    refine r_aload_n C 0 dX8_makeEven_52 rfl ?_
    refine r_get (j := 0) (jz := 0) (v := vI (s 0 (0 : Int))) C dX8_makeEven_53 (shB_0) rfl rfl (by decide) in_x8_makeEven_X8 w_x8_makeEven_86 rfl rfl rfl ?_
    refine r_icmp_ge (tgt := 108) C dX8_makeEven_56 (by decide) ⟨h.1, fun c9 => ?_, fun c9 => ?_⟩
    · have h := h.2.1 c9
      refine r_goto (tgt := 43) C dX8_makeEven_108 (by decide) ?_
      exact r_perm [0, 1, 2] rfl ((z43 _ _ _).1 h)
    · have h := h.2.2 c9
      refine r_aload_n C 0 dX8_makeEven_59 rfl ?_
      refine r_get (j := 6) (jz := 6) (v := .ref (ad 5)) C dX8_makeEven_60 (shB_0) rfl rfl (by decide) in_x8_makeEven_X8 w_x8_makeEven_22 rfl rfl rfl ?_
      refine r_iload_n C 3 dX8_makeEven_63 rfl ?_
      refine r_zald (nz := 6) C dX8_makeEven_64 (shB_5) rfl (by decide) ⟨h.1, ?_⟩
      have h := h.2
      refine r_if_eq (tgt := 72) C dX8_makeEven_65 (by decide) ⟨h.1, fun c8 => ?_, fun c8 => ?_⟩
      · have h := h.2.1 c8
        refine r_aload_n C 0 dX8_makeEven_72 rfl ?_
        refine r_iload_n C 3 dX8_makeEven_73 rfl ?_
        refine r_iload_n C 1 dX8_makeEven_74 rfl ?_
        refine r_callV (As := [vI x3, vI x1]) (o := 0) (n := 2) C dX8_makeEven_75 (x8_drawOf_ct κ.1.2.1 ad cA D x3 x1 s) gX8_makeEven_X8_drawOf rfl ⟨rfl, rfl⟩ (by decide +kernel) (by decide) (shB_0) rfl rfl rfl (Nat.le_of_ble_eq_true rfl) (fun _ => rfl) ?_
        refine x8_drawOf_mono h (fun r7 s6 h => ?_)
        exact r_perm [0, 1, 2, 3] rfl ((z78 _ _ _ _ _).1 h)
      · have h := h.2.2 c8
        refine r_iconst C dX8_makeEven_68 ?_
        refine r_goto (tgt := 78) C dX8_makeEven_69 (by decide) ?_
        exact r_perm [0, 1, 2, 3] rfl ((z78 _ _ _ _ _).1 h)
  · intro x1 x2 x3 t0 s h
    refine (z78 _ _ _ _ _).2 ?_
    refine r_istore (ls' := [(4, vI t0), (0, .ref (ad 0)), (1, vI x1), (2, vI x2), (3, vI x3)]) C dX8_makeEven_78 (by decide) rfl ?_
    refine r_iload C 0 dX8_makeEven_80 rfl ?_
    refine r_if_ge (tgt := 87) C dX8_makeEven_82 (by decide) ⟨h.1, fun c12 => ?_, fun c12 => ?_⟩
    · have h := h.2.1 c12
      refine r_iload_n C 3 dX8_makeEven_87 rfl ?_
      refine r_if_ne (tgt := 96) C dX8_makeEven_88 (by decide) ⟨h.1, fun c11 => ?_, fun c11 => ?_⟩
      · have h := h.2.1 c11
        refine r_iconst C dX8_makeEven_96 ?_
        refine r_goto (tgt := 101) C dX8_makeEven_97 (by decide) ?_
        refine r_istore_n (ls' := [(2, vI (1 : Int)), (4, vI t0), (0, .ref (ad 0)), (1, vI x1), (3, vI x3)]) C dX8_makeEven_101 rfl (by decide) rfl ?_
        refine r_iinc (j := 4) (ls' := [(3, vI (x3 + (1 : Int))), (2, vI (1 : Int)), (4, vI t0), (0, .ref (ad 0)), (1, vI x1)]) C dX8_makeEven_102 rfl (by decide) rfl ?_
        refine r_goto (tgt := 51) C dX8_makeEven_105 (by decide) ?_
        exact r_perm [3, 4, 1, 0] rfl ((z51 _ _ _ _).1 h)
      · have h := h.2.2 c11
        refine r_iload C 0 dX8_makeEven_91 rfl ?_
        refine r_if_le (tgt := 100) C dX8_makeEven_93 (by decide) ⟨h.1, fun c10 => ?_, fun c10 => ?_⟩
        · have h := h.2.1 c10
          refine r_iconst C dX8_makeEven_100 ?_
          refine r_istore_n (ls' := [(2, vI (0 : Int)), (4, vI t0), (0, .ref (ad 0)), (1, vI x1), (3, vI x3)]) C dX8_makeEven_101 rfl (by decide) rfl ?_
          refine r_iinc (j := 4) (ls' := [(3, vI (x3 + (1 : Int))), (2, vI (0 : Int)), (4, vI t0), (0, .ref (ad 0)), (1, vI x1)]) C dX8_makeEven_102 rfl (by decide) rfl ?_
          refine r_goto (tgt := 51) C dX8_makeEven_105 (by decide) ?_
          exact r_perm [3, 4, 1, 0] rfl ((z51 _ _ _ _).1 h)
        · have h := h.2.2 c10
          refine r_iconst C dX8_makeEven_96 ?_
          refine r_goto (tgt := 101) C dX8_makeEven_97 (by decide) ?_
          refine r_istore_n (ls' := [(2, vI (1 : Int)), (4, vI t0), (0, .ref (ad 0)), (1, vI x1), (3, vI x3)]) C dX8_makeEven_101 rfl (by decide) rfl ?_
          refine r_iinc (j := 4) (ls' := [(3, vI (x3 + (1 : Int))), (2, vI (1 : Int)), (4, vI t0), (0, .ref (ad 0)), (1, vI x1)]) C dX8_makeEven_102 rfl (by decide) rfl ?_
          refine r_goto (tgt := 51) C dX8_makeEven_105 (by decide) ?_
          exact r_perm [3, 4, 1, 0] rfl ((z51 _ _ _ _).1 h)
    · have h := h.2.2 c12
      refine r_iconst C dX8_makeEven_85 ?_
      exact r_zreturn C dX8_makeEven_86 h
theorem x8_makeEven_ct (l : Launch) (ad : Nat → Nat) (cA : Nat → ClassId) (D : va_G) (p1 : Int) (s : Mem) : MG l yX8_makeEven wsX8_makeEven x8_makeEven_rm ocI [.ref (ad 0), vI p1] (GB ad cA D) s (x8_makeEven p1 s) :=
  m_met (own := RX8) (nL := 5) (by decide) rfl rfl (Nat.le_of_ble_eq_true rfl) rfl rfl rfl (fun κ hl C Q Pst hW hQ => x8_makeEven_bd C (x8_makeEven_mono hW hQ))

def x8_even_be (X16 : Int → Int → Mem → Prop) (X42 : Int → Int → Int → Int → Mem → Prop) (Q : Int → Mem → Prop) (p1 : Int) (p2 : Int) (s : Mem) : Prop :=
  (InI p2 ∧ InI (-1 : Int)) ∧ (p2 = (-1 : Int) → X16 p1 p2 s) ∧ (¬ p2 = (-1 : Int) → x8_noBolt p2 s (fun r2 s1 => InI r2 ∧ (r2 = (0 : Int) → X16 p1 p2 s1) ∧ (¬ r2 = (0 : Int) → Q (-100001 : Int) s1)))
def x8_even_b16 (X16 : Int → Int → Mem → Prop) (X42 : Int → Int → Int → Int → Mem → Prop) (Q : Int → Mem → Prop) (x1 : Int) (x2 : Int) (s : Mem) : Prop :=
  x8_isAim x1 s (fun r6 s5 => InI r6 ∧ (¬ r6 = (0 : Int) → x8_keep s5 (fun _ s7 => x8_makeEven x1 s7 (fun r9 s8 => X42 x2 r9 (0 : Int) (0 : Int) s8))) ∧ (r6 = (0 : Int) → Q (-100002 : Int) s5))
def x8_even_b42 (X16 : Int → Int → Mem → Prop) (X42 : Int → Int → Int → Int → Mem → Prop) (Q : Int → Mem → Prop) (x2 : Int) (x3 : Int) (x4 : Int) (x5 : Int) (s : Mem) : Prop :=
  (InI x5 ∧ InI (s 0 (0 : Int))) ∧ ((s 0 (0 : Int)) ≤ x5 → InI x3 ∧ (¬ x3 = (0 : Int) → InI x2 ∧ ((0 : Int) ≤ x2 → ((0 : Int) ≤ x2 ∧ x2 < 6) ∧ x8_back s (fun _ s11 => Q (s 3 x2) s11)) ∧ (x2 < (0 : Int) → x8_back s (fun _ s12 => Q x4 s12))) ∧ (x3 = (0 : Int) → x8_back s (fun _ s14 => Q (-100003 : Int) s14))) ∧ (x5 < (s 0 (0 : Int)) → ((0 : Int) ≤ x5 ∧ x5 < 6) ∧ X42 x2 x3 (x4 + (s 3 x5)) (x5 + (1 : Int)) s)
theorem x8_even_me {X16 Y16 : Int → Int → Mem → Prop} {X42 Y42 : Int → Int → Int → Int → Mem → Prop} {Q R : Int → Mem → Prop} (hX16 : ∀ x1 x2 s, X16 x1 x2 s → Y16 x1 x2 s) (hX42 : ∀ x2 x3 x4 x5 s, X42 x2 x3 x4 x5 s → Y42 x2 x3 x4 x5 s) (hQ : ∀ r s, Q r s → R r s) {p1 : Int} {p2 : Int} {s : Mem} (h : x8_even_be X16 X42 Q p1 p2 s) : x8_even_be Y16 Y42 R p1 p2 s :=
  ⟨h.1, fun c => have h := h.2.1 c; hX16 _ _ _ h, fun c => have h := h.2.2 c; x8_noBolt_mono h (fun r2 s1 h => ⟨h.1, fun c => have h := h.2.1 c; hX16 _ _ _ h, fun c => have h := h.2.2 c; hQ _ _ h⟩)⟩
theorem x8_even_m16 {X16 Y16 : Int → Int → Mem → Prop} {X42 Y42 : Int → Int → Int → Int → Mem → Prop} {Q R : Int → Mem → Prop} (hX16 : ∀ x1 x2 s, X16 x1 x2 s → Y16 x1 x2 s) (hX42 : ∀ x2 x3 x4 x5 s, X42 x2 x3 x4 x5 s → Y42 x2 x3 x4 x5 s) (hQ : ∀ r s, Q r s → R r s) {x1 : Int} {x2 : Int} {s : Mem} (h : x8_even_b16 X16 X42 Q x1 x2 s) : x8_even_b16 Y16 Y42 R x1 x2 s :=
  x8_isAim_mono h (fun r6 s5 h => ⟨h.1, fun c => have h := h.2.1 c; x8_keep_mono h (fun _ s7 h => x8_makeEven_mono h (fun r9 s8 h => hX42 _ _ _ _ _ h)), fun c => have h := h.2.2 c; hQ _ _ h⟩)
theorem x8_even_m42 {X16 Y16 : Int → Int → Mem → Prop} {X42 Y42 : Int → Int → Int → Int → Mem → Prop} {Q R : Int → Mem → Prop} (hX16 : ∀ x1 x2 s, X16 x1 x2 s → Y16 x1 x2 s) (hX42 : ∀ x2 x3 x4 x5 s, X42 x2 x3 x4 x5 s → Y42 x2 x3 x4 x5 s) (hQ : ∀ r s, Q r s → R r s) {x2 : Int} {x3 : Int} {x4 : Int} {x5 : Int} {s : Mem} (h : x8_even_b42 X16 X42 Q x2 x3 x4 x5 s) : x8_even_b42 Y16 Y42 R x2 x3 x4 x5 s :=
  ⟨h.1, fun c => have h := h.2.1 c; ⟨h.1, fun c => have h := h.2.1 c; ⟨h.1, fun c => have h := h.2.1 c; ⟨h.1, have h := h.2; x8_back_mono h (fun _ s11 h => hQ _ _ h)⟩, fun c => have h := h.2.2 c; x8_back_mono h (fun _ s12 h => hQ _ _ h)⟩, fun c => have h := h.2.2 c; x8_back_mono h (fun _ s14 h => hQ _ _ h)⟩, fun c => have h := h.2.2 c; ⟨h.1, have h := h.2; hX42 _ _ _ _ _ h⟩⟩
def x8_even (p1 : Int) (p2 : Int) (s : Mem) (Q : Int → Mem → Prop) : Prop := ∀ (X16 : Int → Int → Mem → Prop) (X42 : Int → Int → Int → Int → Mem → Prop), (∀ x1 x2 s, x8_even_b16 X16 X42 Q x1 x2 s → X16 x1 x2 s) → (∀ x2 x3 x4 x5 s, x8_even_b42 X16 X42 Q x2 x3 x4 x5 s → X42 x2 x3 x4 x5 s) → x8_even_be X16 X42 Q p1 p2 s
def x8_even_L16 (Q : Int → Mem → Prop) (x1 : Int) (x2 : Int) (s : Mem) : Prop := ∀ (X16 : Int → Int → Mem → Prop) (X42 : Int → Int → Int → Int → Mem → Prop), (∀ x1 x2 s, x8_even_b16 X16 X42 Q x1 x2 s → X16 x1 x2 s) → (∀ x2 x3 x4 x5 s, x8_even_b42 X16 X42 Q x2 x3 x4 x5 s → X42 x2 x3 x4 x5 s) → X16 x1 x2 s
def x8_even_L42 (Q : Int → Mem → Prop) (x2 : Int) (x3 : Int) (x4 : Int) (x5 : Int) (s : Mem) : Prop := ∀ (X16 : Int → Int → Mem → Prop) (X42 : Int → Int → Int → Int → Mem → Prop), (∀ x1 x2 s, x8_even_b16 X16 X42 Q x1 x2 s → X16 x1 x2 s) → (∀ x2 x3 x4 x5 s, x8_even_b42 X16 X42 Q x2 x3 x4 x5 s → X42 x2 x3 x4 x5 s) → X42 x2 x3 x4 x5 s
theorem x8_even_i {Q : Int → Mem → Prop} {p1 : Int} {p2 : Int} {s : Mem} (h : x8_even_be (x8_even_L16 Q) (x8_even_L42 Q) Q p1 p2 s) : x8_even p1 p2 s Q := fun X16 X42 k16 k42 => x8_even_me (fun _ _ _ h => h X16 X42 k16 k42) (fun _ _ _ _ _ h => h X16 X42 k16 k42) (fun _ _ h => h) h
theorem x8_even_s16 {Q : Int → Mem → Prop} {x1 : Int} {x2 : Int} {s : Mem} (h : x8_even_b16 (x8_even_L16 Q) (x8_even_L42 Q) Q x1 x2 s) : x8_even_L16 Q x1 x2 s := fun X16 X42 k16 k42 => k16 _ _ _ (x8_even_m16 (fun _ _ _ h => h X16 X42 k16 k42) (fun _ _ _ _ _ h => h X16 X42 k16 k42) (fun _ _ h => h) h)
theorem x8_even_s42 {Q : Int → Mem → Prop} {x2 : Int} {x3 : Int} {x4 : Int} {x5 : Int} {s : Mem} (h : x8_even_b42 (x8_even_L16 Q) (x8_even_L42 Q) Q x2 x3 x4 x5 s) : x8_even_L42 Q x2 x3 x4 x5 s := fun X16 X42 k16 k42 => k42 _ _ _ _ _ (x8_even_m42 (fun _ _ _ h => h X16 X42 k16 k42) (fun _ _ _ _ _ h => h X16 X42 k16 k42) (fun _ _ h => h) h)
theorem x8_even_mono {Q R : Int → Mem → Prop} {p1 : Int} {p2 : Int} {s : Mem} (h : x8_even p1 p2 s Q) (hQ : ∀ r s, Q r s → R r s) : x8_even p1 p2 s R := fun X16 X42 k16 k42 => x8_even_me (fun _ _ _ h => h) (fun _ _ _ _ _ h => h) hQ (h X16 X42 (fun _ _ _ h => k16 _ _ _ (x8_even_m16 (fun _ _ _ h => h) (fun _ _ _ _ _ h => h) hQ h)) (fun _ _ _ _ _ h => k42 _ _ _ _ _ (x8_even_m42 (fun _ _ _ h => h) (fun _ _ _ _ _ h => h) hQ h)))
def x8_even_rm : Room := { frames := 6, cells := 0, slots := 0, locals := 144 }
theorem w_x8_even_110 : Cond.constant RX8 110 (-100001) ∈ wsX8_even := by decide +kernel
theorem w_x8_even_105 : Cond.constant RX8 105 (-100002) ∈ wsX8_even := by decide +kernel
theorem w_x8_even_86 : Cond.fieldLink RX8 86 "BoltRingModel" "n" "I" ∈ wsX8_even := by decide +kernel
theorem w_x8_even_16 : Cond.fieldLink RX8 16 "BoltRingModel" "turns" "[I" ∈ wsX8_even := by decide +kernel
theorem w_x8_even_121 : Cond.constant RX8 121 (-100003) ∈ wsX8_even := by decide +kernel
theorem in_x8_even_X8 : ∀ w ∈ wsX80, w ∈ wsX8_even := by decide +kernel
set_option maxHeartbeats 4000000 in
set_option maxRecDepth 100000 in
theorem x8_even_bd {κ : KT} {ad : Nat → Nat} {cA : Nat → ClassId} {D : va_G} {Q : State → Prop} {p1 : Int} {p2 : Int} {s : Mem} (C : CX κ (GB ad cA D) RX8 cX8_even 6 wsX8_even x8_even_rm (some .int)) (h : x8_even p1 p2 s (RT κ (GB ad cA D) ocI Q)) : WM κ (GB ad cA D) 6 Q s 0 [(0, .ref (ad 0)), (1, vI p1), (2, vI p2)] [] := by
  obtain ⟨Z16, z16⟩ : ∃ Z : Int → Int → Mem → Prop, ∀ x1 x2 s, Z x1 x2 s ↔ WM κ (GB ad cA D) 6 Q s 16 [(0, .ref (ad 0)), (1, vI x1), (2, vI x2)] [] := ⟨fun x1 x2 s => WM κ (GB ad cA D) 6 Q s 16 [(0, .ref (ad 0)), (1, vI x1), (2, vI x2)] [], fun _ _ _ => Iff.rfl⟩
  obtain ⟨Z42, z42⟩ : ∃ Z : Int → Int → Int → Int → Mem → Prop, ∀ x2 x3 x4 x5 s, Z x2 x3 x4 x5 s ↔ WM κ (GB ad cA D) 6 Q s 42 [(0, .ref (ad 0)), (2, vI x2), (3, vI x3), (4, vI x4), (5, vI x5)] [] := ⟨fun x2 x3 x4 x5 s => WM κ (GB ad cA D) 6 Q s 42 [(0, .ref (ad 0)), (2, vI x2), (3, vI x3), (4, vI x4), (5, vI x5)] [], fun _ _ _ _ _ => Iff.rfl⟩
  refine (fun h => ?_) (h Z16 Z42 ?_ ?_)
  · refine r_iload_n C 2 dX8_even_0 rfl ?_
    refine r_iconst C dX8_even_1 ?_
    refine r_icmp_eq (tgt := 16) C dX8_even_2 (by decide) ⟨h.1, fun c4 => ?_, fun c4 => ?_⟩
    · have h := h.2.1 c4
      exact r_perm [0, 1, 2] rfl ((z16 _ _ _).1 h)
    · have h := h.2.2 c4
      refine r_aload_n C 0 dX8_even_5 rfl ?_
      refine r_iload_n C 2 dX8_even_6 rfl ?_
      refine r_callV (As := [vI p2]) (o := 0) (n := 1) C dX8_even_7 (x8_noBolt_ct κ.1.2.1 ad cA D p2 s) gX8_even_X8_noBolt rfl ⟨rfl, rfl⟩ (by decide +kernel) (by decide) (shB_0) rfl rfl rfl (Nat.le_of_ble_eq_true rfl) (fun _ => rfl) ?_
      refine x8_noBolt_mono h (fun r2 s1 h => ?_)
      refine r_if_eq (tgt := 16) C dX8_even_10 (by decide) ⟨h.1, fun c3 => ?_, fun c3 => ?_⟩
      · have h := h.2.1 c3
        exact r_perm [0, 1, 2] rfl ((z16 _ _ _).1 h)
      · have h := h.2.2 c3
        refine r_ldc (z := -100001) C dX8_even_13 w_x8_even_110 rfl ?_
        exact r_ireturn C dX8_even_15 h
  · intro x1 x2 s h
    refine (z16 _ _ _).2 ?_
    refine r_iload_n C 1 dX8_even_16 rfl ?_
    refine r_callS (As := [vI x1]) (n := 1) C dX8_even_17 (x8_isAim_ct κ.1.2.1 ad cA D x1 s) gX8_even_X8_isAim rfl ⟨rfl, rfl⟩ (by decide +kernel) (by decide) rfl rfl (Nat.le_of_ble_eq_true rfl) (fun _ => rfl) ?_
    refine x8_isAim_mono h (fun r6 s5 h => ?_)
    refine r_if_ne (tgt := 26) C dX8_even_20 (by decide) ⟨h.1, fun c10 => ?_, fun c10 => ?_⟩
    · have h := h.2.1 c10
      refine r_aload_n C 0 dX8_even_26 rfl ?_
      refine r_callV (As := []) (o := 0) (n := 0) C dX8_even_27 (x8_keep_ct κ.1.2.1 ad cA D s5) gX8_even_X8_keep rfl ⟨rfl, rfl⟩ (by decide +kernel) (by decide) (shB_0) rfl rfl rfl (Nat.le_of_ble_eq_true rfl) (fun _ => rfl) ?_
      refine x8_keep_mono h (fun _ s7 h => ?_)
      refine r_aload_n C 0 dX8_even_30 rfl ?_
      refine r_iload_n C 1 dX8_even_31 rfl ?_
      refine r_callV (As := [vI x1]) (o := 0) (n := 1) C dX8_even_32 (x8_makeEven_ct κ.1.2.1 ad cA D x1 s7) gX8_even_X8_makeEven rfl ⟨rfl, rfl⟩ (by decide +kernel) (by decide) (shB_0) rfl rfl rfl (Nat.le_of_ble_eq_true rfl) (fun _ => rfl) ?_
      refine x8_makeEven_mono h (fun r9 s8 h => ?_)
      refine r_istore_n (ls' := [(3, vI r9), (0, .ref (ad 0)), (1, vI x1), (2, vI x2)]) C dX8_even_35 rfl (by decide) rfl ?_
      refine r_iconst C dX8_even_36 ?_
      refine r_istore (ls' := [(4, vI (0 : Int)), (3, vI r9), (0, .ref (ad 0)), (1, vI x1), (2, vI x2)]) C dX8_even_37 (by decide) rfl ?_
      refine r_iconst C dX8_even_39 ?_
      refine r_istore (ls' := [(5, vI (0 : Int)), (4, vI (0 : Int)), (3, vI r9), (0, .ref (ad 0)), (1, vI x1), (2, vI x2)]) C dX8_even_40 (by decide) rfl ?_
      exact r_perm [3, 5, 2, 1, 0] rfl ((z42 _ _ _ _ _).1 h)
    · have h := h.2.2 c10
      refine r_ldc (z := -100002) C dX8_even_23 w_x8_even_105 rfl ?_
      exact r_ireturn C dX8_even_25 h
  · intro x2 x3 x4 x5 s h
    refine (z42 _ _ _ _ _).2 ?_
    refine r_iload C 4 dX8_even_42 rfl ?_
    refine r_aload_n C 0 dX8_even_44 rfl ?_
    refine r_get (j := 0) (jz := 0) (v := vI (s 0 (0 : Int))) C dX8_even_45 (shB_0) rfl rfl (by decide) in_x8_even_X8 w_x8_even_86 rfl rfl rfl ?_
    refine r_icmp_ge (tgt := 69) C dX8_even_48 (by decide) ⟨h.1, fun c16 => ?_, fun c16 => ?_⟩
    · have h := h.2.1 c16
      refine r_iload_n C 2 dX8_even_69 rfl ?_
      refine r_if_ne (tgt := 78) C dX8_even_70 (by decide) ⟨h.1, fun c15 => ?_, fun c15 => ?_⟩
      · have h := h.2.1 c15
        refine r_iload_n C 1 dX8_even_78 rfl ?_
        refine r_if_ge (tgt := 87) C dX8_even_79 (by decide) ⟨h.1, fun c13 => ?_, fun c13 => ?_⟩
        · have h := h.2.1 c13
          refine r_aload_n C 0 dX8_even_87 rfl ?_
          refine r_get (j := 4) (jz := 4) (v := .ref (ad 3)) C dX8_even_88 (shB_0) rfl rfl (by decide) in_x8_even_X8 w_x8_even_16 rfl rfl rfl ?_
          refine r_iload_n C 1 dX8_even_91 rfl ?_
          refine r_iald (nz := 6) C dX8_even_92 (shB_3) rfl (by decide) ⟨h.1, ?_⟩
          have h := h.2
          refine r_istore (ls' := [(5, vI (s 3 x2)), (0, .ref (ad 0)), (2, vI x2), (3, vI x3), (4, vI x4)]) C dX8_even_93 (by decide) rfl ?_
          refine r_aload_n C 1 dX8_even_95 rfl ?_
          refine r_callV (As := []) (o := 0) (n := 0) C dX8_even_96 (x8_back_ct κ.1.2.1 ad cA D s) gX8_even_X8_back rfl ⟨rfl, rfl⟩ (by decide +kernel) (by decide) (shB_0) rfl rfl rfl (Nat.le_of_ble_eq_true rfl) (fun _ => rfl) ?_
          refine x8_back_mono h (fun _ s11 h => ?_)
          refine r_iload C 0 dX8_even_99 rfl ?_
          exact r_ireturn C dX8_even_101 h
        · have h := h.2.2 c13
          refine r_iload C 3 dX8_even_82 rfl ?_
          refine r_goto (tgt := 93) C dX8_even_84 (by decide) ?_
          refine r_istore (ls' := [(5, vI x4), (0, .ref (ad 0)), (2, vI x2), (3, vI x3), (4, vI x4)]) C dX8_even_93 (by decide) rfl ?_
          refine r_aload_n C 1 dX8_even_95 rfl ?_
          refine r_callV (As := []) (o := 0) (n := 0) C dX8_even_96 (x8_back_ct κ.1.2.1 ad cA D s) gX8_even_X8_back rfl ⟨rfl, rfl⟩ (by decide +kernel) (by decide) (shB_0) rfl rfl rfl (Nat.le_of_ble_eq_true rfl) (fun _ => rfl) ?_
          refine x8_back_mono h (fun _ s12 h => ?_)
          refine r_iload C 0 dX8_even_99 rfl ?_
          exact r_ireturn C dX8_even_101 h
      · have h := h.2.2 c15
        refine r_ldc (z := -100003) C dX8_even_73 w_x8_even_121 rfl ?_
        refine r_goto (tgt := 93) C dX8_even_75 (by decide) ?_
        refine r_istore (ls' := [(5, vI (-100003 : Int)), (0, .ref (ad 0)), (2, vI x2), (3, vI x3), (4, vI x4)]) C dX8_even_93 (by decide) rfl ?_
        refine r_aload_n C 1 dX8_even_95 rfl ?_
        refine r_callV (As := []) (o := 0) (n := 0) C dX8_even_96 (x8_back_ct κ.1.2.1 ad cA D s) gX8_even_X8_back rfl ⟨rfl, rfl⟩ (by decide +kernel) (by decide) (shB_0) rfl rfl rfl (Nat.le_of_ble_eq_true rfl) (fun _ => rfl) ?_
        refine x8_back_mono h (fun _ s14 h => ?_)
        refine r_iload C 0 dX8_even_99 rfl ?_
        exact r_ireturn C dX8_even_101 h
    · have h := h.2.2 c16
      refine r_iload C 3 dX8_even_51 rfl ?_
      refine r_aload_n C 0 dX8_even_53 rfl ?_
      refine r_get (j := 4) (jz := 4) (v := .ref (ad 3)) C dX8_even_54 (shB_0) rfl rfl (by decide) in_x8_even_X8 w_x8_even_16 rfl rfl rfl ?_
      refine r_iload C 4 dX8_even_57 rfl ?_
      refine r_iald (nz := 6) C dX8_even_59 (shB_3) rfl (by decide) ⟨h.1, ?_⟩
      have h := h.2
      refine r_iadd C dX8_even_60 ?_
      refine r_istore (ls' := [(4, vI (x4 + (s 3 x5))), (0, .ref (ad 0)), (2, vI x2), (3, vI x3), (5, vI x5)]) C dX8_even_61 (by decide) rfl ?_
      refine r_iinc (j := 4) (ls' := [(5, vI (x5 + (1 : Int))), (4, vI (x4 + (s 3 x5))), (0, .ref (ad 0)), (2, vI x2), (3, vI x3)]) C dX8_even_63 rfl (by decide) rfl ?_
      refine r_goto (tgt := 42) C dX8_even_66 (by decide) ?_
      exact r_perm [2, 3, 4, 1, 0] rfl ((z42 _ _ _ _ _).1 h)
theorem x8_even_ct (l : Launch) (ad : Nat → Nat) (cA : Nat → ClassId) (D : va_G) (p1 : Int) (p2 : Int) (s : Mem) : MG l yX8_even wsX8_even x8_even_rm ocI [.ref (ad 0), vI p1, vI p2] (GB ad cA D) s (x8_even p1 p2 s) :=
  m_met (own := RX8) (nL := 6) (by decide) rfl rfl (Nat.le_of_ble_eq_true rfl) rfl rfl rfl (fun κ hl C Q Pst hW hQ => x8_even_bd C (x8_even_mono hW hQ))

def x8_newCase_be (X14 : Int → Mem → Prop) (Q : Int → Mem → Prop)  (s : Mem) : Prop :=
  (InI (s 0 (8 : Int)) ∧ InI (6 : Int)) ∧ (¬ (s 0 (8 : Int)) = (6 : Int) → X14 (0 : Int) s) ∧ ((s 0 (8 : Int)) = (6 : Int) → Q (-100004 : Int) s)
def x8_newCase_b14 (X14 : Int → Mem → Prop) (Q : Int → Mem → Prop) (x1 : Int) (s : Mem) : Prop :=
  (InI x1 ∧ InI (6 : Int)) ∧ ((6 : Int) ≤ x1 → ∀ s2 : Mem, s2 = m_upd s 0 (8 : Int) ((s 0 (8 : Int)) + (1 : Int)) → Q ((s2 0 (8 : Int)) - (1 : Int)) s2) ∧ (x1 < (6 : Int) → ((0 : Int) ≤ (((6 : Int) * (s 0 (8 : Int))) + x1) ∧ (((6 : Int) * (s 0 (8 : Int))) + x1) < 36) ∧ ∀ s3 : Mem, s3 = m_upd s 7 (((6 : Int) * (s 0 (8 : Int))) + x1) (0 : Int) → X14 (x1 + (1 : Int)) s3)
theorem x8_newCase_me {X14 Y14 : Int → Mem → Prop} {Q R : Int → Mem → Prop} (hX14 : ∀ x1 s, X14 x1 s → Y14 x1 s) (hQ : ∀ r s, Q r s → R r s)  {s : Mem} (h : x8_newCase_be X14 Q  s) : x8_newCase_be Y14 R  s :=
  ⟨h.1, fun c => have h := h.2.1 c; hX14 _ _ h, fun c => have h := h.2.2 c; hQ _ _ h⟩
theorem x8_newCase_m14 {X14 Y14 : Int → Mem → Prop} {Q R : Int → Mem → Prop} (hX14 : ∀ x1 s, X14 x1 s → Y14 x1 s) (hQ : ∀ r s, Q r s → R r s) {x1 : Int} {s : Mem} (h : x8_newCase_b14 X14 Q x1 s) : x8_newCase_b14 Y14 R x1 s :=
  ⟨h.1, fun c => have h := h.2.1 c; fun s2 e_s2 => have h := h s2 e_s2; hQ _ _ h, fun c => have h := h.2.2 c; ⟨h.1, have h := h.2; fun s3 e_s3 => have h := h s3 e_s3; hX14 _ _ h⟩⟩
def x8_newCase  (s : Mem) (Q : Int → Mem → Prop) : Prop := ∀ (X14 : Int → Mem → Prop), (∀ x1 s, x8_newCase_b14 X14 Q x1 s → X14 x1 s) → x8_newCase_be X14 Q  s
def x8_newCase_L14 (Q : Int → Mem → Prop) (x1 : Int) (s : Mem) : Prop := ∀ (X14 : Int → Mem → Prop), (∀ x1 s, x8_newCase_b14 X14 Q x1 s → X14 x1 s) → X14 x1 s
theorem x8_newCase_i {Q : Int → Mem → Prop}  {s : Mem} (h : x8_newCase_be (x8_newCase_L14 Q) Q  s) : x8_newCase  s Q := fun X14 k14 => x8_newCase_me (fun _ _ h => h X14 k14) (fun _ _ h => h) h
theorem x8_newCase_s14 {Q : Int → Mem → Prop} {x1 : Int} {s : Mem} (h : x8_newCase_b14 (x8_newCase_L14 Q) Q x1 s) : x8_newCase_L14 Q x1 s := fun X14 k14 => k14 _ _ (x8_newCase_m14 (fun _ _ h => h X14 k14) (fun _ _ h => h) h)
theorem x8_newCase_mono {Q R : Int → Mem → Prop}  {s : Mem} (h : x8_newCase  s Q) (hQ : ∀ r s, Q r s → R r s) : x8_newCase  s R := fun X14 k14 => x8_newCase_me (fun _ _ h => h) hQ (h X14 (fun _ _ h => k14 _ _ (x8_newCase_m14 (fun _ _ h => h) hQ h)))
def x8_newCase_rm : Room := { frames := 0, cells := 0, slots := 0, locals := 0 }
theorem w_x8_newCase_92 : Cond.fieldLink RX8 92 "BoltRingModel" "cases" "I" ∈ wsX8_newCase := by decide +kernel
theorem w_x8_newCase_220 : Cond.constant RX8 220 (-100004) ∈ wsX8_newCase := by decide +kernel
theorem w_x8_newCase_29 : Cond.fieldLink RX8 29 "BoltRingModel" "caseLoad" "[I" ∈ wsX8_newCase := by decide +kernel
theorem in_x8_newCase_X8 : ∀ w ∈ wsX80, w ∈ wsX8_newCase := by decide +kernel
set_option maxHeartbeats 4000000 in
set_option maxRecDepth 100000 in
theorem x8_newCase_bd {κ : KT} {ad : Nat → Nat} {cA : Nat → ClassId} {D : va_G} {Q : State → Prop}  {s : Mem} (C : CX κ (GB ad cA D) RX8 cX8_newCase 2 wsX8_newCase x8_newCase_rm (some .int)) (h : x8_newCase  s (RT κ (GB ad cA D) ocI Q)) : WM κ (GB ad cA D) 2 Q s 0 [(0, .ref (ad 0))] [] := by
  obtain ⟨Z14, z14⟩ : ∃ Z : Int → Mem → Prop, ∀ x1 s, Z x1 s ↔ WM κ (GB ad cA D) 2 Q s 14 [(0, .ref (ad 0)), (1, vI x1)] [] := ⟨fun x1 s => WM κ (GB ad cA D) 2 Q s 14 [(0, .ref (ad 0)), (1, vI x1)] [], fun _ _ => Iff.rfl⟩
  refine (fun h => ?_) (h Z14 ?_)
  · refine r_aload_n C 0 dX8_newCase_0 rfl ?_
    refine r_get (j := 8) (jz := 8) (v := vI (s 0 (8 : Int))) C dX8_newCase_1 (shB_0) rfl rfl (by decide) in_x8_newCase_X8 w_x8_newCase_92 rfl rfl rfl ?_
    refine r_bipush C dX8_newCase_4 (by decide) ?_
    refine r_icmp_ne (tgt := 12) C dX8_newCase_6 (by decide) ⟨h.1, fun c1 => ?_, fun c1 => ?_⟩
    · have h := h.2.1 c1
      refine r_iconst C dX8_newCase_12 ?_
      refine r_istore_n (ls' := [(1, vI (0 : Int)), (0, .ref (ad 0))]) C dX8_newCase_13 rfl (by decide) rfl ?_
      exact r_perm [1, 0] rfl ((z14 _ _).1 h)
    · have h := h.2.2 c1
      refine r_ldc (z := -100004) C dX8_newCase_9 w_x8_newCase_220 rfl ?_
      exact r_ireturn C dX8_newCase_11 h
  · intro x1 s h
    refine (z14 _ _).2 ?_
    refine r_iload_n C 1 dX8_newCase_14 rfl ?_
    refine r_bipush C dX8_newCase_15 (by decide) ?_
    refine r_icmp_ge (tgt := 41) C dX8_newCase_17 (by decide) ⟨h.1, fun c4 => ?_, fun c4 => ?_⟩
    · have h := h.2.1 c4
      refine r_aload_n C 0 dX8_newCase_41 rfl ?_
      refine r_dup C dX8_newCase_42 rfl ?_
      refine r_get (j := 8) (jz := 8) (v := vI (s 0 (8 : Int))) C dX8_newCase_43 (shB_0) rfl rfl (by decide) in_x8_newCase_X8 w_x8_newCase_92 rfl rfl rfl ?_
      refine r_iconst C dX8_newCase_46 ?_
      refine r_iadd C dX8_newCase_47 ?_
      refine r_puti (j := 8) (jz := 8) C dX8_newCase_48 (shB_0) rfl rfl (by decide) in_x8_newCase_X8 tyX8 tyX8_ok nmX8 w_x8_newCase_92 rfl rfl (by decide +kernel) rfl (fun s2 e_s2 => ?_)
      have h := h s2 e_s2
      refine r_aload_n C 0 dX8_newCase_51 rfl ?_
      refine r_get (j := 8) (jz := 8) (v := vI (s2 0 (8 : Int))) C dX8_newCase_52 (shB_0) rfl rfl (by decide) in_x8_newCase_X8 w_x8_newCase_92 rfl rfl rfl ?_
      refine r_iconst C dX8_newCase_55 ?_
      refine r_isub C dX8_newCase_56 ?_
      exact r_ireturn C dX8_newCase_57 h
    · have h := h.2.2 c4
      refine r_aload_n C 0 dX8_newCase_20 rfl ?_
      refine r_get (j := 9) (jz := 9) (v := .ref (ad 7)) C dX8_newCase_21 (shB_0) rfl rfl (by decide) in_x8_newCase_X8 w_x8_newCase_29 rfl rfl rfl ?_
      refine r_bipush C dX8_newCase_24 (by decide) ?_
      refine r_aload_n C 0 dX8_newCase_26 rfl ?_
      refine r_get (j := 8) (jz := 8) (v := vI (s 0 (8 : Int))) C dX8_newCase_27 (shB_0) rfl rfl (by decide) in_x8_newCase_X8 w_x8_newCase_92 rfl rfl rfl ?_
      refine r_imul C dX8_newCase_30 ?_
      refine r_iload_n C 1 dX8_newCase_31 rfl ?_
      refine r_iadd C dX8_newCase_32 ?_
      refine r_iconst C dX8_newCase_33 ?_
      refine r_iast (nz := 36) C dX8_newCase_34 (shB_7) rfl (by decide) ⟨h.1, fun s3 e_s3 => ?_⟩
      have h := h.2 s3 e_s3
      refine r_iinc (j := 1) (ls' := [(1, vI (x1 + (1 : Int))), (0, .ref (ad 0))]) C dX8_newCase_35 rfl (by decide) rfl ?_
      refine r_goto (tgt := 14) C dX8_newCase_38 (by decide) ?_
      exact r_perm [1, 0] rfl ((z14 _ _).1 h)
theorem x8_newCase_ct (l : Launch) (ad : Nat → Nat) (cA : Nat → ClassId) (D : va_G)  (s : Mem) : MG l yX8_newCase wsX8_newCase x8_newCase_rm ocI [.ref (ad 0)] (GB ad cA D) s (x8_newCase  s) :=
  m_met (own := RX8) (nL := 2) (by decide) rfl rfl (Nat.le_of_ble_eq_true rfl) rfl rfl rfl (fun κ hl C Q Pst hW hQ => x8_newCase_bd C (x8_newCase_mono hW hQ))

def x8_load (p1 : Int) (p2 : Int) (p3 : Int) (s : Mem) (Q : Int → Mem → Prop) : Prop :=
  (InI p1) ∧ (InI ((s 0 (8 : Int)) - (1 : Int))) ∧ x8_in p1 (0 : Int) ((s 0 (8 : Int)) - (1 : Int)) s (fun r2 s1 => InI r2 ∧ (r2 = (0 : Int) → Q (-100001 : Int) s1) ∧ (¬ r2 = (0 : Int) → x8_noBolt p2 s1 (fun r4 s3 => InI r4 ∧ (r4 = (0 : Int) → (InI p3) ∧ x8_in p3 (0 : Int) (200 : Int) s3 (fun r6 s5 => InI r6 ∧ (¬ r6 = (0 : Int) → ((0 : Int) ≤ (((6 : Int) * p1) + p2) ∧ (((6 : Int) * p1) + p2) < 36) ∧ ∀ v7 : Int, v7 = (s5 7 (((6 : Int) * p1) + p2)) → ((0 : Int) ≤ (((6 : Int) * p1) + p2) ∧ (((6 : Int) * p1) + p2) < 36) ∧ ∀ s8 : Mem, s8 = m_upd s5 7 (((6 : Int) * p1) + p2) p3 → Q v7 s8) ∧ (r6 = (0 : Int) → Q (-100002 : Int) s5))) ∧ (¬ r4 = (0 : Int) → Q (-100001 : Int) s3))))
theorem x8_load_mono {Q R : Int → Mem → Prop} {p1 : Int} {p2 : Int} {p3 : Int} {s : Mem} (h : x8_load p1 p2 p3 s Q) (hQ : ∀ r s, Q r s → R r s) : x8_load p1 p2 p3 s R :=
  ⟨h.1, have h := h.2; ⟨h.1, have h := h.2; x8_in_mono h (fun r2 s1 h => ⟨h.1, fun c => have h := h.2.1 c; hQ _ _ h, fun c => have h := h.2.2 c; x8_noBolt_mono h (fun r4 s3 h => ⟨h.1, fun c => have h := h.2.1 c; ⟨h.1, have h := h.2; x8_in_mono h (fun r6 s5 h => ⟨h.1, fun c => have h := h.2.1 c; ⟨h.1, have h := h.2; fun v7 e_v7 => have h := h v7 e_v7; ⟨h.1, have h := h.2; fun s8 e_s8 => have h := h s8 e_s8; hQ _ _ h⟩⟩, fun c => have h := h.2.2 c; hQ _ _ h⟩)⟩, fun c => have h := h.2.2 c; hQ _ _ h⟩)⟩)⟩⟩
def x8_load_rm : Room := { frames := 2, cells := 0, slots := 0, locals := 46 }
theorem w_x8_load_92 : Cond.fieldLink RX8 92 "BoltRingModel" "cases" "I" ∈ wsX8_load := by decide +kernel
theorem w_x8_load_110 : Cond.constant RX8 110 (-100001) ∈ wsX8_load := by decide +kernel
theorem w_x8_load_111 : Cond.constantLong RX8 111 (200) ∈ wsX8_load := by decide +kernel
theorem w_x8_load_29 : Cond.fieldLink RX8 29 "BoltRingModel" "caseLoad" "[I" ∈ wsX8_load := by decide +kernel
theorem w_x8_load_105 : Cond.constant RX8 105 (-100002) ∈ wsX8_load := by decide +kernel
theorem in_x8_load_X8 : ∀ w ∈ wsX80, w ∈ wsX8_load := by decide +kernel
set_option maxHeartbeats 4000000 in
set_option maxRecDepth 100000 in
theorem x8_load_bd {κ : KT} {ad : Nat → Nat} {cA : Nat → ClassId} {D : va_G} {Q : State → Prop} {p1 : Int} {p2 : Int} {p3 : Int} {s : Mem} (C : CX κ (GB ad cA D) RX8 cX8_load 5 wsX8_load x8_load_rm (some .int)) (h : x8_load p1 p2 p3 s (RT κ (GB ad cA D) ocI Q)) : WM κ (GB ad cA D) 5 Q s 0 [(0, .ref (ad 0)), (1, vI p1), (2, vI p2), (3, vI p3)] [] := by
  refine r_iload_n C 1 dX8_load_0 rfl ?_
  refine r_i2l C dX8_load_1 ⟨h.1, ?_⟩
  have h := h.2
  refine r_lconst (z := 0) C dX8_load_2 rfl ?_
  refine r_aload_n C 0 dX8_load_3 rfl ?_
  refine r_get (j := 8) (jz := 8) (v := vI (s 0 (8 : Int))) C dX8_load_4 (shB_0) rfl rfl (by decide) in_x8_load_X8 w_x8_load_92 rfl rfl rfl ?_
  refine r_iconst C dX8_load_7 ?_
  refine r_isub C dX8_load_8 ?_
  refine r_i2l C dX8_load_9 ⟨h.1, ?_⟩
  have h := h.2
  refine r_callS (As := [vL p1, vL (0 : Int), vL ((s 0 (8 : Int)) - (1 : Int))]) (n := 3) C dX8_load_10 (x8_in_ct κ.1.2.1 ad cA D p1 (0 : Int) ((s 0 (8 : Int)) - (1 : Int)) s) gX8_load_X8_in rfl ⟨rfl, rfl⟩ (by decide +kernel) (by decide) rfl rfl (Nat.le_of_ble_eq_true rfl) (fun _ => rfl) ?_
  refine x8_in_mono h (fun r2 s1 h => ?_)
  refine r_if_eq (tgt := 24) C dX8_load_13 (by decide) ⟨h.1, fun c11 => ?_, fun c11 => ?_⟩
  · have h := h.2.1 c11
    refine r_ldc (z := -100001) C dX8_load_24 w_x8_load_110 rfl ?_
    exact r_ireturn C dX8_load_26 h
  · have h := h.2.2 c11
    refine r_aload_n C 0 dX8_load_16 rfl ?_
    refine r_iload_n C 2 dX8_load_17 rfl ?_
    refine r_callV (As := [vI p2]) (o := 0) (n := 1) C dX8_load_18 (x8_noBolt_ct κ.1.2.1 ad cA D p2 s1) gX8_load_X8_noBolt rfl ⟨rfl, rfl⟩ (by decide +kernel) (by decide) (shB_0) rfl rfl rfl (Nat.le_of_ble_eq_true rfl) (fun _ => rfl) ?_
    refine x8_noBolt_mono h (fun r4 s3 h => ?_)
    refine r_if_eq (tgt := 27) C dX8_load_21 (by decide) ⟨h.1, fun c10 => ?_, fun c10 => ?_⟩
    · have h := h.2.1 c10
      refine r_iload_n C 3 dX8_load_27 rfl ?_
      refine r_i2l C dX8_load_28 ⟨h.1, ?_⟩
      have h := h.2
      refine r_lconst (z := 0) C dX8_load_29 rfl ?_
      refine r_ldc2 (z := 200) C dX8_load_30 w_x8_load_111 rfl ?_
      refine r_callS (As := [vL p3, vL (0 : Int), vL (200 : Int)]) (n := 3) C dX8_load_33 (x8_in_ct κ.1.2.1 ad cA D p3 (0 : Int) (200 : Int) s3) gX8_load_X8_in rfl ⟨rfl, rfl⟩ (by decide +kernel) (by decide) rfl rfl (Nat.le_of_ble_eq_true rfl) (fun _ => rfl) ?_
      refine x8_in_mono h (fun r6 s5 h => ?_)
      refine r_if_ne (tgt := 42) C dX8_load_36 (by decide) ⟨h.1, fun c9 => ?_, fun c9 => ?_⟩
      · have h := h.2.1 c9
        refine r_aload_n C 0 dX8_load_42 rfl ?_
        refine r_get (j := 9) (jz := 9) (v := .ref (ad 7)) C dX8_load_43 (shB_0) rfl rfl (by decide) in_x8_load_X8 w_x8_load_29 rfl rfl rfl ?_
        refine r_bipush C dX8_load_46 (by decide) ?_
        refine r_iload_n C 1 dX8_load_48 rfl ?_
        refine r_imul C dX8_load_49 ?_
        refine r_iload_n C 2 dX8_load_50 rfl ?_
        refine r_iadd C dX8_load_51 ?_
        refine r_iald (nz := 36) C dX8_load_52 (shB_7) rfl (by decide) ⟨h.1, ?_⟩
        have h := h.2
        refine r_topI (fun v7 e_v7 => ?_)
        have h := h v7 e_v7
        refine r_istore (ls' := [(4, vI v7), (0, .ref (ad 0)), (1, vI p1), (2, vI p2), (3, vI p3)]) C dX8_load_53 (by decide) rfl ?_
        refine r_aload_n C 1 dX8_load_55 rfl ?_
        refine r_get (j := 9) (jz := 9) (v := .ref (ad 7)) C dX8_load_56 (shB_0) rfl rfl (by decide) in_x8_load_X8 w_x8_load_29 rfl rfl rfl ?_
        refine r_bipush C dX8_load_59 (by decide) ?_
        refine r_iload_n C 2 dX8_load_61 rfl ?_
        refine r_imul C dX8_load_62 ?_
        refine r_iload_n C 3 dX8_load_63 rfl ?_
        refine r_iadd C dX8_load_64 ?_
        refine r_iload_n C 4 dX8_load_65 rfl ?_
        refine r_iast (nz := 36) C dX8_load_66 (shB_7) rfl (by decide) ⟨h.1, fun s8 e_s8 => ?_⟩
        have h := h.2 s8 e_s8
        refine r_iload C 0 dX8_load_67 rfl ?_
        exact r_ireturn C dX8_load_69 h
      · have h := h.2.2 c9
        refine r_ldc (z := -100002) C dX8_load_39 w_x8_load_105 rfl ?_
        exact r_ireturn C dX8_load_41 h
    · have h := h.2.2 c10
      refine r_ldc (z := -100001) C dX8_load_24 w_x8_load_110 rfl ?_
      exact r_ireturn C dX8_load_26 h
theorem x8_load_ct (l : Launch) (ad : Nat → Nat) (cA : Nat → ClassId) (D : va_G) (p1 : Int) (p2 : Int) (p3 : Int) (s : Mem) : MG l yX8_load wsX8_load x8_load_rm ocI [.ref (ad 0), vI p1, vI p2, vI p3] (GB ad cA D) s (x8_load p1 p2 p3 s) :=
  m_met (own := RX8) (nL := 5) (by decide) rfl rfl (Nat.le_of_ble_eq_true rfl) rfl rfl rfl (fun κ hl C Q Pst hW hQ => x8_load_bd C (x8_load_mono hW hQ))

def x8_findLeak_be (X11 : Int → Mem → Prop) (Q : Int → Mem → Prop)  (s : Mem) : Prop :=
  x8_findLifts s (fun _ s1 => ∀ s2 : Mem, s2 = m_upd s1 0 (28 : Int) (0 : Int) → X11 (1 : Int) s2)
def x8_findLeak_b11 (X11 : Int → Mem → Prop) (Q : Int → Mem → Prop) (x1 : Int) (s : Mem) : Prop :=
  (InI x1 ∧ InI (s 0 (0 : Int))) ∧ ((s 0 (0 : Int)) ≤ x1 → x8_press (s 0 (28 : Int)) s (fun r4 s3 => x8_gcd r4 (s3 0 (15 : Int)) s3 (fun r6 s5 => (InL r4 ∧ InL r6 ∧ ¬ r6 = 0) ∧ ∀ s7 : Mem, s7 = m_upd s5 0 (26 : Int) (Int.tdiv r4 r6) → (InL (s7 0 (15 : Int)) ∧ InL r6 ∧ ¬ r6 = 0) ∧ ∀ s8 : Mem, s8 = m_upd s7 0 (27 : Int) (Int.tdiv (s7 0 (15 : Int)) r6) → Q (0 : Int) s8))) ∧ (x1 < (s 0 (0 : Int)) → x8_press x1 s (fun r10 s9 => x8_press (s9 0 (28 : Int)) s9 (fun r12 s11 => (InL r10 ∧ InL r12) ∧ (r12 ≤ r10 → ∀ s13 : Mem, s13 = m_upd s11 0 (28 : Int) (s11 0 (28 : Int)) → X11 (x1 + (1 : Int)) s13) ∧ (r10 < r12 → ∀ s14 : Mem, s14 = m_upd s11 0 (28 : Int) x1 → X11 (x1 + (1 : Int)) s14))))
theorem x8_findLeak_me {X11 Y11 : Int → Mem → Prop} {Q R : Int → Mem → Prop} (hX11 : ∀ x1 s, X11 x1 s → Y11 x1 s) (hQ : ∀ r s, Q r s → R r s)  {s : Mem} (h : x8_findLeak_be X11 Q  s) : x8_findLeak_be Y11 R  s :=
  x8_findLifts_mono h (fun _ s1 h => fun s2 e_s2 => have h := h s2 e_s2; hX11 _ _ h)
theorem x8_findLeak_m11 {X11 Y11 : Int → Mem → Prop} {Q R : Int → Mem → Prop} (hX11 : ∀ x1 s, X11 x1 s → Y11 x1 s) (hQ : ∀ r s, Q r s → R r s) {x1 : Int} {s : Mem} (h : x8_findLeak_b11 X11 Q x1 s) : x8_findLeak_b11 Y11 R x1 s :=
  ⟨h.1, fun c => have h := h.2.1 c; x8_press_mono h (fun r4 s3 h => x8_gcd_mono h (fun r6 s5 h => ⟨h.1, have h := h.2; fun s7 e_s7 => have h := h s7 e_s7; ⟨h.1, have h := h.2; fun s8 e_s8 => have h := h s8 e_s8; hQ _ _ h⟩⟩)), fun c => have h := h.2.2 c; x8_press_mono h (fun r10 s9 h => x8_press_mono h (fun r12 s11 h => ⟨h.1, fun c => have h := h.2.1 c; fun s13 e_s13 => have h := h s13 e_s13; hX11 _ _ h, fun c => have h := h.2.2 c; fun s14 e_s14 => have h := h s14 e_s14; hX11 _ _ h⟩))⟩
def x8_findLeak  (s : Mem) (Q : Int → Mem → Prop) : Prop := ∀ (X11 : Int → Mem → Prop), (∀ x1 s, x8_findLeak_b11 X11 Q x1 s → X11 x1 s) → x8_findLeak_be X11 Q  s
def x8_findLeak_L11 (Q : Int → Mem → Prop) (x1 : Int) (s : Mem) : Prop := ∀ (X11 : Int → Mem → Prop), (∀ x1 s, x8_findLeak_b11 X11 Q x1 s → X11 x1 s) → X11 x1 s
theorem x8_findLeak_i {Q : Int → Mem → Prop}  {s : Mem} (h : x8_findLeak_be (x8_findLeak_L11 Q) Q  s) : x8_findLeak  s Q := fun X11 k11 => x8_findLeak_me (fun _ _ h => h X11 k11) (fun _ _ h => h) h
theorem x8_findLeak_s11 {Q : Int → Mem → Prop} {x1 : Int} {s : Mem} (h : x8_findLeak_b11 (x8_findLeak_L11 Q) Q x1 s) : x8_findLeak_L11 Q x1 s := fun X11 k11 => k11 _ _ (x8_findLeak_m11 (fun _ _ h => h X11 k11) (fun _ _ h => h) h)
theorem x8_findLeak_mono {Q R : Int → Mem → Prop}  {s : Mem} (h : x8_findLeak  s Q) (hQ : ∀ r s, Q r s → R r s) : x8_findLeak  s R := fun X11 k11 => x8_findLeak_me (fun _ _ h => h) hQ (h X11 (fun _ _ h => k11 _ _ (x8_findLeak_m11 (fun _ _ h => h) hQ h)))
def x8_findLeak_rm : Room := { frames := 3, cells := 0, slots := 0, locals := 72 }
theorem w_x8_findLeak_221 : Cond.fieldLink RX8 221 "BoltRingModel" "leakAt" "I" ∈ wsX8_findLeak := by decide +kernel
theorem w_x8_findLeak_86 : Cond.fieldLink RX8 86 "BoltRingModel" "n" "I" ∈ wsX8_findLeak := by decide +kernel
theorem w_x8_findLeak_124 : Cond.fieldLink RX8 124 "BoltRingModel" "below" "J" ∈ wsX8_findLeak := by decide +kernel
theorem w_x8_findLeak_224 : Cond.fieldLink RX8 224 "BoltRingModel" "leakUp" "J" ∈ wsX8_findLeak := by decide +kernel
theorem w_x8_findLeak_227 : Cond.fieldLink RX8 227 "BoltRingModel" "leakDown" "J" ∈ wsX8_findLeak := by decide +kernel
theorem in_x8_findLeak_X8 : ∀ w ∈ wsX80, w ∈ wsX8_findLeak := by decide +kernel
set_option maxHeartbeats 4000000 in
set_option maxRecDepth 100000 in
theorem x8_findLeak_bd {κ : KT} {ad : Nat → Nat} {cA : Nat → ClassId} {D : va_G} {Q : State → Prop}  {s : Mem} (C : CX κ (GB ad cA D) RX8 cX8_findLeak 5 wsX8_findLeak x8_findLeak_rm none) (h : x8_findLeak  s (RT κ (GB ad cA D) ocV Q)) : WM κ (GB ad cA D) 5 Q s 0 [(0, .ref (ad 0))] [] := by
  obtain ⟨Z11, z11⟩ : ∃ Z : Int → Mem → Prop, ∀ x1 s, Z x1 s ↔ WM κ (GB ad cA D) 5 Q s 11 [(0, .ref (ad 0)), (1, vI x1)] [] := ⟨fun x1 s => WM κ (GB ad cA D) 5 Q s 11 [(0, .ref (ad 0)), (1, vI x1)] [], fun _ _ => Iff.rfl⟩
  refine (fun h => ?_) (h Z11 ?_)
  · refine r_aload_n C 0 dX8_findLeak_0 rfl ?_
    refine r_callV (As := []) (o := 0) (n := 0) C dX8_findLeak_1 (x8_findLifts_ct κ.1.2.1 ad cA D s) gX8_findLeak_X8_findLifts rfl ⟨rfl, rfl⟩ (by decide +kernel) (by decide) (shB_0) rfl rfl rfl (Nat.le_of_ble_eq_true rfl) (fun _ => rfl) ?_
    refine x8_findLifts_mono h (fun _ s1 h => ?_)
    refine r_aload_n C 0 dX8_findLeak_4 rfl ?_
    refine r_iconst C dX8_findLeak_5 ?_
    refine r_puti (j := 28) (jz := 28) C dX8_findLeak_6 (shB_0) rfl rfl (by decide) in_x8_findLeak_X8 tyX8 tyX8_ok nmX8 w_x8_findLeak_221 rfl rfl (by decide +kernel) rfl (fun s2 e_s2 => ?_)
    have h := h s2 e_s2
    refine r_iconst C dX8_findLeak_9 ?_
    refine r_istore_n (ls' := [(1, vI (1 : Int)), (0, .ref (ad 0))]) C dX8_findLeak_10 rfl (by decide) rfl ?_
    exact r_perm [1, 0] rfl ((z11 _ _).1 h)
  · intro x1 s h
    refine (z11 _ _).2 ?_
    refine r_iload_n C 1 dX8_findLeak_11 rfl ?_
    refine r_aload_n C 0 dX8_findLeak_12 rfl ?_
    refine r_get (j := 0) (jz := 0) (v := vI (s 0 (0 : Int))) C dX8_findLeak_13 (shB_0) rfl rfl (by decide) in_x8_findLeak_X8 w_x8_findLeak_86 rfl rfl rfl ?_
    refine r_icmp_ge (tgt := 54) C dX8_findLeak_16 (by decide) ⟨h.1, fun c16 => ?_, fun c16 => ?_⟩
    · have h := h.2.1 c16
      refine r_aload_n C 0 dX8_findLeak_54 rfl ?_
      refine r_aload_n C 0 dX8_findLeak_55 rfl ?_
      refine r_get (j := 28) (jz := 28) (v := vI (s 0 (28 : Int))) C dX8_findLeak_56 (shB_0) rfl rfl (by decide) in_x8_findLeak_X8 w_x8_findLeak_221 rfl rfl rfl ?_
      refine r_callV (As := [vI (s 0 (28 : Int))]) (o := 0) (n := 1) C dX8_findLeak_59 (x8_press_ct κ.1.2.1 ad cA D (s 0 (28 : Int)) s) gX8_findLeak_X8_press rfl ⟨rfl, rfl⟩ (by decide +kernel) (by decide) (shB_0) rfl rfl rfl (Nat.le_of_ble_eq_true rfl) (fun _ => rfl) ?_
      refine x8_press_mono h (fun r4 s3 h => ?_)
      refine r_lstore_n (ls' := [(1, vL r4), (0, .ref (ad 0))]) C dX8_findLeak_62 rfl (by decide) rfl ?_
      refine r_lload_n C 0 dX8_findLeak_63 rfl ?_
      refine r_aload_n C 1 dX8_findLeak_64 rfl ?_
      refine r_get (j := 15) (jz := 15) (v := vL (s3 0 (15 : Int))) C dX8_findLeak_65 (shB_0) rfl rfl (by decide) in_x8_findLeak_X8 w_x8_findLeak_124 rfl rfl rfl ?_
      refine r_callS (As := [vL r4, vL (s3 0 (15 : Int))]) (n := 2) C dX8_findLeak_68 (x8_gcd_ct κ.1.2.1 ad cA D r4 (s3 0 (15 : Int)) s3) gX8_findLeak_X8_gcd rfl ⟨rfl, rfl⟩ (by decide +kernel) (by decide) rfl rfl (Nat.le_of_ble_eq_true rfl) (fun _ => rfl) ?_
      refine x8_gcd_mono h (fun r6 s5 h => ?_)
      refine r_lstore_n (ls' := [(3, vL r6), (1, vL r4), (0, .ref (ad 0))]) C dX8_findLeak_71 rfl (by decide) rfl ?_
      refine r_aload_n C 2 dX8_findLeak_72 rfl ?_
      refine r_lload_n C 1 dX8_findLeak_73 rfl ?_
      refine r_lload_n C 0 dX8_findLeak_74 rfl ?_
      refine r_ldiv C dX8_findLeak_75 ⟨h.1, ?_⟩
      have h := h.2
      refine r_putl (j := 26) (jz := 26) C dX8_findLeak_76 (shB_0) rfl rfl (by decide) in_x8_findLeak_X8 tyX8 tyX8_ok nmX8 w_x8_findLeak_224 rfl rfl (by decide +kernel) rfl (fun s7 e_s7 => ?_)
      have h := h s7 e_s7
      refine r_aload_n C 2 dX8_findLeak_79 rfl ?_
      refine r_aload_n C 2 dX8_findLeak_80 rfl ?_
      refine r_get (j := 15) (jz := 15) (v := vL (s7 0 (15 : Int))) C dX8_findLeak_81 (shB_0) rfl rfl (by decide) in_x8_findLeak_X8 w_x8_findLeak_124 rfl rfl rfl ?_
      refine r_lload_n C 0 dX8_findLeak_84 rfl ?_
      refine r_ldiv C dX8_findLeak_85 ⟨h.1, ?_⟩
      have h := h.2
      refine r_putl (j := 27) (jz := 27) C dX8_findLeak_86 (shB_0) rfl rfl (by decide) in_x8_findLeak_X8 tyX8 tyX8_ok nmX8 w_x8_findLeak_227 rfl rfl (by decide +kernel) rfl (fun s8 e_s8 => ?_)
      have h := h s8 e_s8
      exact r_return C dX8_findLeak_89 h
    · have h := h.2.2 c16
      refine r_aload_n C 0 dX8_findLeak_19 rfl ?_
      refine r_aload_n C 0 dX8_findLeak_20 rfl ?_
      refine r_iload_n C 1 dX8_findLeak_21 rfl ?_
      refine r_callV (As := [vI x1]) (o := 0) (n := 1) C dX8_findLeak_22 (x8_press_ct κ.1.2.1 ad cA D x1 s) gX8_findLeak_X8_press rfl ⟨rfl, rfl⟩ (by decide +kernel) (by decide) (shB_0) rfl rfl rfl (Nat.le_of_ble_eq_true rfl) (fun _ => rfl) ?_
      refine x8_press_mono h (fun r10 s9 h => ?_)
      refine r_aload_n C 0 dX8_findLeak_25 rfl ?_
      refine r_aload_n C 0 dX8_findLeak_26 rfl ?_
      refine r_get (j := 28) (jz := 28) (v := vI (s9 0 (28 : Int))) C dX8_findLeak_27 (shB_0) rfl rfl (by decide) in_x8_findLeak_X8 w_x8_findLeak_221 rfl rfl rfl ?_
      refine r_callV (As := [vI (s9 0 (28 : Int))]) (o := 0) (n := 1) C dX8_findLeak_30 (x8_press_ct κ.1.2.1 ad cA D (s9 0 (28 : Int)) s9) gX8_findLeak_X8_press rfl ⟨rfl, rfl⟩ (by decide +kernel) (by decide) (shB_0) rfl rfl rfl (Nat.le_of_ble_eq_true rfl) (fun _ => rfl) ?_
      refine x8_press_mono h (fun r12 s11 h => ?_)
      refine r_lcmp_ge (tgt := 41) C dX8_findLeak_33 dX8_findLeak_34 (by decide) ⟨h.1, fun c15 => ?_, fun c15 => ?_⟩
      · have h := h.2.1 c15
        refine r_aload_n C 0 dX8_findLeak_41 rfl ?_
        refine r_get (j := 28) (jz := 28) (v := vI (s11 0 (28 : Int))) C dX8_findLeak_42 (shB_0) rfl rfl (by decide) in_x8_findLeak_X8 w_x8_findLeak_221 rfl rfl rfl ?_
        refine r_puti (j := 28) (jz := 28) C dX8_findLeak_45 (shB_0) rfl rfl (by decide) in_x8_findLeak_X8 tyX8 tyX8_ok nmX8 w_x8_findLeak_221 rfl rfl (by decide +kernel) rfl (fun s13 e_s13 => ?_)
        have h := h s13 e_s13
        refine r_iinc (j := 1) (ls' := [(1, vI (x1 + (1 : Int))), (0, .ref (ad 0))]) C dX8_findLeak_48 rfl (by decide) rfl ?_
        refine r_goto (tgt := 11) C dX8_findLeak_51 (by decide) ?_
        exact r_perm [1, 0] rfl ((z11 _ _).1 h)
      · have h := h.2.2 c15
        refine r_iload_n C 1 dX8_findLeak_37 rfl ?_
        refine r_goto (tgt := 45) C dX8_findLeak_38 (by decide) ?_
        refine r_puti (j := 28) (jz := 28) C dX8_findLeak_45 (shB_0) rfl rfl (by decide) in_x8_findLeak_X8 tyX8 tyX8_ok nmX8 w_x8_findLeak_221 rfl rfl (by decide +kernel) rfl (fun s14 e_s14 => ?_)
        have h := h s14 e_s14
        refine r_iinc (j := 1) (ls' := [(1, vI (x1 + (1 : Int))), (0, .ref (ad 0))]) C dX8_findLeak_48 rfl (by decide) rfl ?_
        refine r_goto (tgt := 11) C dX8_findLeak_51 (by decide) ?_
        exact r_perm [1, 0] rfl ((z11 _ _).1 h)
theorem x8_findLeak_ct (l : Launch) (ad : Nat → Nat) (cA : Nat → ClassId) (D : va_G)  (s : Mem) : MG l yX8_findLeak wsX8_findLeak x8_findLeak_rm ocV [.ref (ad 0)] (GB ad cA D) s (x8_findLeak  s) :=
  m_met (own := RX8) (nL := 5) (by decide) rfl rfl (Nat.le_of_ble_eq_true rfl) rfl rfl rfl (fun κ hl C Q Pst hW hQ => x8_findLeak_bd C (x8_findLeak_mono hW hQ))

def x8_findLeakOf_be (X2 : Int → Int → Mem → Prop) (X64 : Int → Mem → Prop) (Q : Int → Mem → Prop) (p1 : Int) (s : Mem) : Prop :=
  X2 p1 (0 : Int) s
def x8_findLeakOf_b2 (X2 : Int → Int → Mem → Prop) (X64 : Int → Mem → Prop) (Q : Int → Mem → Prop) (x1 : Int) (x2 : Int) (s : Mem) : Prop :=
  (InI x2 ∧ InI (s 0 (0 : Int))) ∧ ((s 0 (0 : Int)) ≤ x2 → x8_findLeak s (fun _ s1 => X64 (0 : Int) s1)) ∧ (x2 < (s 0 (0 : Int)) → ((0 : Int) ≤ x2 ∧ x2 < 6) ∧ ((0 : Int) ≤ x2 ∧ x2 < 6) ∧ ∀ s2 : Mem, s2 = m_upd s 18 x2 (s 4 x2) → InI x1 ∧ ((0 : Int) ≤ x1 → ((0 : Int) ≤ (((6 : Int) * x1) + x2) ∧ (((6 : Int) * x1) + x2) < 36) ∧ ((0 : Int) ≤ x2 ∧ x2 < 6) ∧ ∀ s3 : Mem, s3 = m_upd s2 4 x2 (s2 7 (((6 : Int) * x1) + x2)) → X2 x1 (x2 + (1 : Int)) s3) ∧ (x1 < (0 : Int) → ((0 : Int) ≤ x2 ∧ x2 < 6) ∧ ((0 : Int) ≤ x2 ∧ x2 < 6) ∧ ∀ s4 : Mem, s4 = m_upd s2 4 x2 (s2 4 x2) → X2 x1 (x2 + (1 : Int)) s4))
def x8_findLeakOf_b64 (X2 : Int → Int → Mem → Prop) (X64 : Int → Mem → Prop) (Q : Int → Mem → Prop) (x2 : Int) (s : Mem) : Prop :=
  (InI x2 ∧ InI (s 0 (0 : Int))) ∧ ((s 0 (0 : Int)) ≤ x2 → Q (0 : Int) s) ∧ (x2 < (s 0 (0 : Int)) → ((0 : Int) ≤ x2 ∧ x2 < 6) ∧ ((0 : Int) ≤ x2 ∧ x2 < 6) ∧ ∀ s7 : Mem, s7 = m_upd s 4 x2 (s 18 x2) → X64 (x2 + (1 : Int)) s7)
theorem x8_findLeakOf_me {X2 Y2 : Int → Int → Mem → Prop} {X64 Y64 : Int → Mem → Prop} {Q R : Int → Mem → Prop} (hX2 : ∀ x1 x2 s, X2 x1 x2 s → Y2 x1 x2 s) (hX64 : ∀ x2 s, X64 x2 s → Y64 x2 s) (hQ : ∀ r s, Q r s → R r s) {p1 : Int} {s : Mem} (h : x8_findLeakOf_be X2 X64 Q p1 s) : x8_findLeakOf_be Y2 Y64 R p1 s :=
  hX2 _ _ _ h
theorem x8_findLeakOf_m2 {X2 Y2 : Int → Int → Mem → Prop} {X64 Y64 : Int → Mem → Prop} {Q R : Int → Mem → Prop} (hX2 : ∀ x1 x2 s, X2 x1 x2 s → Y2 x1 x2 s) (hX64 : ∀ x2 s, X64 x2 s → Y64 x2 s) (hQ : ∀ r s, Q r s → R r s) {x1 : Int} {x2 : Int} {s : Mem} (h : x8_findLeakOf_b2 X2 X64 Q x1 x2 s) : x8_findLeakOf_b2 Y2 Y64 R x1 x2 s :=
  ⟨h.1, fun c => have h := h.2.1 c; x8_findLeak_mono h (fun _ s1 h => hX64 _ _ h), fun c => have h := h.2.2 c; ⟨h.1, have h := h.2; ⟨h.1, have h := h.2; fun s2 e_s2 => have h := h s2 e_s2; ⟨h.1, fun c => have h := h.2.1 c; ⟨h.1, have h := h.2; ⟨h.1, have h := h.2; fun s3 e_s3 => have h := h s3 e_s3; hX2 _ _ _ h⟩⟩, fun c => have h := h.2.2 c; ⟨h.1, have h := h.2; ⟨h.1, have h := h.2; fun s4 e_s4 => have h := h s4 e_s4; hX2 _ _ _ h⟩⟩⟩⟩⟩⟩
theorem x8_findLeakOf_m64 {X2 Y2 : Int → Int → Mem → Prop} {X64 Y64 : Int → Mem → Prop} {Q R : Int → Mem → Prop} (hX2 : ∀ x1 x2 s, X2 x1 x2 s → Y2 x1 x2 s) (hX64 : ∀ x2 s, X64 x2 s → Y64 x2 s) (hQ : ∀ r s, Q r s → R r s) {x2 : Int} {s : Mem} (h : x8_findLeakOf_b64 X2 X64 Q x2 s) : x8_findLeakOf_b64 Y2 Y64 R x2 s :=
  ⟨h.1, fun c => have h := h.2.1 c; hQ _ _ h, fun c => have h := h.2.2 c; ⟨h.1, have h := h.2; ⟨h.1, have h := h.2; fun s7 e_s7 => have h := h s7 e_s7; hX64 _ _ h⟩⟩⟩
def x8_findLeakOf (p1 : Int) (s : Mem) (Q : Int → Mem → Prop) : Prop := ∀ (X2 : Int → Int → Mem → Prop) (X64 : Int → Mem → Prop), (∀ x1 x2 s, x8_findLeakOf_b2 X2 X64 Q x1 x2 s → X2 x1 x2 s) → (∀ x2 s, x8_findLeakOf_b64 X2 X64 Q x2 s → X64 x2 s) → x8_findLeakOf_be X2 X64 Q p1 s
def x8_findLeakOf_L2 (Q : Int → Mem → Prop) (x1 : Int) (x2 : Int) (s : Mem) : Prop := ∀ (X2 : Int → Int → Mem → Prop) (X64 : Int → Mem → Prop), (∀ x1 x2 s, x8_findLeakOf_b2 X2 X64 Q x1 x2 s → X2 x1 x2 s) → (∀ x2 s, x8_findLeakOf_b64 X2 X64 Q x2 s → X64 x2 s) → X2 x1 x2 s
def x8_findLeakOf_L64 (Q : Int → Mem → Prop) (x2 : Int) (s : Mem) : Prop := ∀ (X2 : Int → Int → Mem → Prop) (X64 : Int → Mem → Prop), (∀ x1 x2 s, x8_findLeakOf_b2 X2 X64 Q x1 x2 s → X2 x1 x2 s) → (∀ x2 s, x8_findLeakOf_b64 X2 X64 Q x2 s → X64 x2 s) → X64 x2 s
theorem x8_findLeakOf_i {Q : Int → Mem → Prop} {p1 : Int} {s : Mem} (h : x8_findLeakOf_be (x8_findLeakOf_L2 Q) (x8_findLeakOf_L64 Q) Q p1 s) : x8_findLeakOf p1 s Q := fun X2 X64 k2 k64 => x8_findLeakOf_me (fun _ _ _ h => h X2 X64 k2 k64) (fun _ _ h => h X2 X64 k2 k64) (fun _ _ h => h) h
theorem x8_findLeakOf_s2 {Q : Int → Mem → Prop} {x1 : Int} {x2 : Int} {s : Mem} (h : x8_findLeakOf_b2 (x8_findLeakOf_L2 Q) (x8_findLeakOf_L64 Q) Q x1 x2 s) : x8_findLeakOf_L2 Q x1 x2 s := fun X2 X64 k2 k64 => k2 _ _ _ (x8_findLeakOf_m2 (fun _ _ _ h => h X2 X64 k2 k64) (fun _ _ h => h X2 X64 k2 k64) (fun _ _ h => h) h)
theorem x8_findLeakOf_s64 {Q : Int → Mem → Prop} {x2 : Int} {s : Mem} (h : x8_findLeakOf_b64 (x8_findLeakOf_L2 Q) (x8_findLeakOf_L64 Q) Q x2 s) : x8_findLeakOf_L64 Q x2 s := fun X2 X64 k2 k64 => k64 _ _ (x8_findLeakOf_m64 (fun _ _ _ h => h X2 X64 k2 k64) (fun _ _ h => h X2 X64 k2 k64) (fun _ _ h => h) h)
theorem x8_findLeakOf_mono {Q R : Int → Mem → Prop} {p1 : Int} {s : Mem} (h : x8_findLeakOf p1 s Q) (hQ : ∀ r s, Q r s → R r s) : x8_findLeakOf p1 s R := fun X2 X64 k2 k64 => x8_findLeakOf_me (fun _ _ _ h => h) (fun _ _ h => h) hQ (h X2 X64 (fun _ _ _ h => k2 _ _ _ (x8_findLeakOf_m2 (fun _ _ _ h => h) (fun _ _ h => h) hQ h)) (fun _ _ h => k64 _ _ (x8_findLeakOf_m64 (fun _ _ _ h => h) (fun _ _ h => h) hQ h)))
def x8_findLeakOf_rm : Room := { frames := 4, cells := 0, slots := 0, locals := 96 }
theorem w_x8_findLeakOf_86 : Cond.fieldLink RX8 86 "BoltRingModel" "n" "I" ∈ wsX8_findLeakOf := by decide +kernel
theorem w_x8_findLeakOf_63 : Cond.fieldLink RX8 63 "BoltRingModel" "ownLoad" "[I" ∈ wsX8_findLeakOf := by decide +kernel
theorem w_x8_findLeakOf_19 : Cond.fieldLink RX8 19 "BoltRingModel" "load" "[I" ∈ wsX8_findLeakOf := by decide +kernel
theorem w_x8_findLeakOf_29 : Cond.fieldLink RX8 29 "BoltRingModel" "caseLoad" "[I" ∈ wsX8_findLeakOf := by decide +kernel
theorem in_x8_findLeakOf_X8 : ∀ w ∈ wsX80, w ∈ wsX8_findLeakOf := by decide +kernel
set_option maxHeartbeats 4000000 in
set_option maxRecDepth 100000 in
theorem x8_findLeakOf_bd {κ : KT} {ad : Nat → Nat} {cA : Nat → ClassId} {D : va_G} {Q : State → Prop} {p1 : Int} {s : Mem} (C : CX κ (GB ad cA D) RX8 cX8_findLeakOf 3 wsX8_findLeakOf x8_findLeakOf_rm none) (h : x8_findLeakOf p1 s (RT κ (GB ad cA D) ocV Q)) : WM κ (GB ad cA D) 3 Q s 0 [(0, .ref (ad 0)), (1, vI p1)] [] := by
  obtain ⟨Z2, z2⟩ : ∃ Z : Int → Int → Mem → Prop, ∀ x1 x2 s, Z x1 x2 s ↔ WM κ (GB ad cA D) 3 Q s 2 [(0, .ref (ad 0)), (1, vI x1), (2, vI x2)] [] := ⟨fun x1 x2 s => WM κ (GB ad cA D) 3 Q s 2 [(0, .ref (ad 0)), (1, vI x1), (2, vI x2)] [], fun _ _ _ => Iff.rfl⟩
  obtain ⟨Z64, z64⟩ : ∃ Z : Int → Mem → Prop, ∀ x2 s, Z x2 s ↔ WM κ (GB ad cA D) 3 Q s 64 [(0, .ref (ad 0)), (2, vI x2)] [] := ⟨fun x2 s => WM κ (GB ad cA D) 3 Q s 64 [(0, .ref (ad 0)), (2, vI x2)] [], fun _ _ => Iff.rfl⟩
  refine (fun h => ?_) (h Z2 Z64 ?_ ?_)
  · refine r_iconst C dX8_findLeakOf_0 ?_
    refine r_istore_n (ls' := [(2, vI (0 : Int)), (0, .ref (ad 0)), (1, vI p1)]) C dX8_findLeakOf_1 rfl (by decide) rfl ?_
    exact r_perm [1, 2, 0] rfl ((z2 _ _ _).1 h)
  · intro x1 x2 s h
    refine (z2 _ _ _).2 ?_
    refine r_iload_n C 2 dX8_findLeakOf_2 rfl ?_
    refine r_aload_n C 0 dX8_findLeakOf_3 rfl ?_
    refine r_get (j := 0) (jz := 0) (v := vI (s 0 (0 : Int))) C dX8_findLeakOf_4 (shB_0) rfl rfl (by decide) in_x8_findLeakOf_X8 w_x8_findLeakOf_86 rfl rfl rfl ?_
    refine r_icmp_ge (tgt := 58) C dX8_findLeakOf_7 (by decide) ⟨h.1, fun c6 => ?_, fun c6 => ?_⟩
    · have h := h.2.1 c6
      refine r_aload_n C 0 dX8_findLeakOf_58 rfl ?_
      refine r_callV (As := []) (o := 0) (n := 0) C dX8_findLeakOf_59 (x8_findLeak_ct κ.1.2.1 ad cA D s) gX8_findLeakOf_X8_findLeak rfl ⟨rfl, rfl⟩ (by decide +kernel) (by decide) (shB_0) rfl rfl rfl (Nat.le_of_ble_eq_true rfl) (fun _ => rfl) ?_
      refine x8_findLeak_mono h (fun _ s1 h => ?_)
      refine r_iconst C dX8_findLeakOf_62 ?_
      refine r_istore_n (ls' := [(2, vI (0 : Int)), (0, .ref (ad 0)), (1, vI x1)]) C dX8_findLeakOf_63 rfl (by decide) rfl ?_
      exact r_perm [1, 0] rfl ((z64 _ _).1 h)
    · have h := h.2.2 c6
      refine r_aload_n C 0 dX8_findLeakOf_10 rfl ?_
      refine r_get (j := 25) (jz := 25) (v := .ref (ad 18)) C dX8_findLeakOf_11 (shB_0) rfl rfl (by decide) in_x8_findLeakOf_X8 w_x8_findLeakOf_63 rfl rfl rfl ?_
      refine r_iload_n C 2 dX8_findLeakOf_14 rfl ?_
      refine r_aload_n C 0 dX8_findLeakOf_15 rfl ?_
      refine r_get (j := 5) (jz := 5) (v := .ref (ad 4)) C dX8_findLeakOf_16 (shB_0) rfl rfl (by decide) in_x8_findLeakOf_X8 w_x8_findLeakOf_19 rfl rfl rfl ?_
      refine r_iload_n C 2 dX8_findLeakOf_19 rfl ?_
      refine r_iald (nz := 6) C dX8_findLeakOf_20 (shB_4) rfl (by decide) ⟨h.1, ?_⟩
      have h := h.2
      refine r_iast (nz := 6) C dX8_findLeakOf_21 (shB_18) rfl (by decide) ⟨h.1, fun s2 e_s2 => ?_⟩
      have h := h.2 s2 e_s2
      refine r_aload_n C 0 dX8_findLeakOf_22 rfl ?_
      refine r_get (j := 5) (jz := 5) (v := .ref (ad 4)) C dX8_findLeakOf_23 (shB_0) rfl rfl (by decide) in_x8_findLeakOf_X8 w_x8_findLeakOf_19 rfl rfl rfl ?_
      refine r_iload_n C 2 dX8_findLeakOf_26 rfl ?_
      refine r_iload_n C 1 dX8_findLeakOf_27 rfl ?_
      refine r_if_ge (tgt := 40) C dX8_findLeakOf_28 (by decide) ⟨h.1, fun c5 => ?_, fun c5 => ?_⟩
      · have h := h.2.1 c5
        refine r_aload_n C 0 dX8_findLeakOf_40 rfl ?_
        refine r_get (j := 9) (jz := 9) (v := .ref (ad 7)) C dX8_findLeakOf_41 (shB_0) rfl rfl (by decide) in_x8_findLeakOf_X8 w_x8_findLeakOf_29 rfl rfl rfl ?_
        refine r_bipush C dX8_findLeakOf_44 (by decide) ?_
        refine r_iload_n C 1 dX8_findLeakOf_46 rfl ?_
        refine r_imul C dX8_findLeakOf_47 ?_
        refine r_iload_n C 2 dX8_findLeakOf_48 rfl ?_
        refine r_iadd C dX8_findLeakOf_49 ?_
        refine r_iald (nz := 36) C dX8_findLeakOf_50 (shB_7) rfl (by decide) ⟨h.1, ?_⟩
        have h := h.2
        refine r_iast (nz := 6) C dX8_findLeakOf_51 (shB_4) rfl (by decide) ⟨h.1, fun s3 e_s3 => ?_⟩
        have h := h.2 s3 e_s3
        refine r_iinc (j := 2) (ls' := [(2, vI (x2 + (1 : Int))), (0, .ref (ad 0)), (1, vI x1)]) C dX8_findLeakOf_52 rfl (by decide) rfl ?_
        refine r_goto (tgt := 2) C dX8_findLeakOf_55 (by decide) ?_
        exact r_perm [1, 2, 0] rfl ((z2 _ _ _).1 h)
      · have h := h.2.2 c5
        refine r_aload_n C 0 dX8_findLeakOf_31 rfl ?_
        refine r_get (j := 5) (jz := 5) (v := .ref (ad 4)) C dX8_findLeakOf_32 (shB_0) rfl rfl (by decide) in_x8_findLeakOf_X8 w_x8_findLeakOf_19 rfl rfl rfl ?_
        refine r_iload_n C 2 dX8_findLeakOf_35 rfl ?_
        refine r_iald (nz := 6) C dX8_findLeakOf_36 (shB_4) rfl (by decide) ⟨h.1, ?_⟩
        have h := h.2
        refine r_goto (tgt := 51) C dX8_findLeakOf_37 (by decide) ?_
        refine r_iast (nz := 6) C dX8_findLeakOf_51 (shB_4) rfl (by decide) ⟨h.1, fun s4 e_s4 => ?_⟩
        have h := h.2 s4 e_s4
        refine r_iinc (j := 2) (ls' := [(2, vI (x2 + (1 : Int))), (0, .ref (ad 0)), (1, vI x1)]) C dX8_findLeakOf_52 rfl (by decide) rfl ?_
        refine r_goto (tgt := 2) C dX8_findLeakOf_55 (by decide) ?_
        exact r_perm [1, 2, 0] rfl ((z2 _ _ _).1 h)
  · intro x2 s h
    refine (z64 _ _).2 ?_
    refine r_iload_n C 1 dX8_findLeakOf_64 rfl ?_
    refine r_aload_n C 0 dX8_findLeakOf_65 rfl ?_
    refine r_get (j := 0) (jz := 0) (v := vI (s 0 (0 : Int))) C dX8_findLeakOf_66 (shB_0) rfl rfl (by decide) in_x8_findLeakOf_X8 w_x8_findLeakOf_86 rfl rfl rfl ?_
    refine r_icmp_ge (tgt := 90) C dX8_findLeakOf_69 (by decide) ⟨h.1, fun c8 => ?_, fun c8 => ?_⟩
    · have h := h.2.1 c8
      exact r_return C dX8_findLeakOf_90 h
    · have h := h.2.2 c8
      refine r_aload_n C 0 dX8_findLeakOf_72 rfl ?_
      refine r_get (j := 5) (jz := 5) (v := .ref (ad 4)) C dX8_findLeakOf_73 (shB_0) rfl rfl (by decide) in_x8_findLeakOf_X8 w_x8_findLeakOf_19 rfl rfl rfl ?_
      refine r_iload_n C 1 dX8_findLeakOf_76 rfl ?_
      refine r_aload_n C 0 dX8_findLeakOf_77 rfl ?_
      refine r_get (j := 25) (jz := 25) (v := .ref (ad 18)) C dX8_findLeakOf_78 (shB_0) rfl rfl (by decide) in_x8_findLeakOf_X8 w_x8_findLeakOf_63 rfl rfl rfl ?_
      refine r_iload_n C 1 dX8_findLeakOf_81 rfl ?_
      refine r_iald (nz := 6) C dX8_findLeakOf_82 (shB_18) rfl (by decide) ⟨h.1, ?_⟩
      have h := h.2
      refine r_iast (nz := 6) C dX8_findLeakOf_83 (shB_4) rfl (by decide) ⟨h.1, fun s7 e_s7 => ?_⟩
      have h := h.2 s7 e_s7
      refine r_iinc (j := 1) (ls' := [(2, vI (x2 + (1 : Int))), (0, .ref (ad 0))]) C dX8_findLeakOf_84 rfl (by decide) rfl ?_
      refine r_goto (tgt := 64) C dX8_findLeakOf_87 (by decide) ?_
      exact r_perm [1, 0] rfl ((z64 _ _).1 h)
theorem x8_findLeakOf_ct (l : Launch) (ad : Nat → Nat) (cA : Nat → ClassId) (D : va_G) (p1 : Int) (s : Mem) : MG l yX8_findLeakOf wsX8_findLeakOf x8_findLeakOf_rm ocV [.ref (ad 0), vI p1] (GB ad cA D) s (x8_findLeakOf p1 s) :=
  m_met (own := RX8) (nL := 3) (by decide) rfl rfl (Nat.le_of_ble_eq_true rfl) rfl rfl rfl (fun κ hl C Q Pst hW hQ => x8_findLeakOf_bd C (x8_findLeakOf_mono hW hQ))

def x8_leak (p1 : Int) (p2 : Int) (s : Mem) (Q : Int → Mem → Prop) : Prop :=
  (InI p1) ∧ (InI ((s 0 (8 : Int)) - (1 : Int))) ∧ x8_in p1 (-1 : Int) ((s 0 (8 : Int)) - (1 : Int)) s (fun r2 s1 => InI r2 ∧ (¬ r2 = (0 : Int) → (InI p2) ∧ x8_in p2 (0 : Int) (2 : Int) s1 (fun r4 s3 => InI r4 ∧ (¬ r4 = (0 : Int) → x8_findLeakOf p1 s3 (fun _ s5 => InI p2 ∧ (¬ p2 = (0 : Int) → (InI p2 ∧ InI (1 : Int)) ∧ (¬ p2 = (1 : Int) → (InI (s5 0 (28 : Int))) ∧ Q (s5 0 (28 : Int)) s5) ∧ (p2 = (1 : Int) → Q (s5 0 (27 : Int)) s5)) ∧ (p2 = (0 : Int) → Q (s5 0 (26 : Int)) s5))) ∧ (r4 = (0 : Int) → Q (-100002 : Int) s3))) ∧ (r2 = (0 : Int) → Q (-100001 : Int) s1))
theorem x8_leak_mono {Q R : Int → Mem → Prop} {p1 : Int} {p2 : Int} {s : Mem} (h : x8_leak p1 p2 s Q) (hQ : ∀ r s, Q r s → R r s) : x8_leak p1 p2 s R :=
  ⟨h.1, have h := h.2; ⟨h.1, have h := h.2; x8_in_mono h (fun r2 s1 h => ⟨h.1, fun c => have h := h.2.1 c; ⟨h.1, have h := h.2; x8_in_mono h (fun r4 s3 h => ⟨h.1, fun c => have h := h.2.1 c; x8_findLeakOf_mono h (fun _ s5 h => ⟨h.1, fun c => have h := h.2.1 c; ⟨h.1, fun c => have h := h.2.1 c; ⟨h.1, have h := h.2; hQ _ _ h⟩, fun c => have h := h.2.2 c; hQ _ _ h⟩, fun c => have h := h.2.2 c; hQ _ _ h⟩), fun c => have h := h.2.2 c; hQ _ _ h⟩)⟩, fun c => have h := h.2.2 c; hQ _ _ h⟩)⟩⟩
def x8_leak_rm : Room := { frames := 5, cells := 0, slots := 0, locals := 118 }
theorem w_x8_leak_233 : Cond.constantLong RX8 233 (-1) ∈ wsX8_leak := by decide +kernel
theorem w_x8_leak_92 : Cond.fieldLink RX8 92 "BoltRingModel" "cases" "I" ∈ wsX8_leak := by decide +kernel
theorem w_x8_leak_122 : Cond.constantLong RX8 122 (2) ∈ wsX8_leak := by decide +kernel
theorem w_x8_leak_221 : Cond.fieldLink RX8 221 "BoltRingModel" "leakAt" "I" ∈ wsX8_leak := by decide +kernel
theorem w_x8_leak_227 : Cond.fieldLink RX8 227 "BoltRingModel" "leakDown" "J" ∈ wsX8_leak := by decide +kernel
theorem w_x8_leak_224 : Cond.fieldLink RX8 224 "BoltRingModel" "leakUp" "J" ∈ wsX8_leak := by decide +kernel
theorem w_x8_leak_157 : Cond.constantLong RX8 157 (-100002) ∈ wsX8_leak := by decide +kernel
theorem w_x8_leak_155 : Cond.constantLong RX8 155 (-100001) ∈ wsX8_leak := by decide +kernel
theorem in_x8_leak_X8 : ∀ w ∈ wsX80, w ∈ wsX8_leak := by decide +kernel
set_option maxHeartbeats 4000000 in
set_option maxRecDepth 100000 in
theorem x8_leak_bd {κ : KT} {ad : Nat → Nat} {cA : Nat → ClassId} {D : va_G} {Q : State → Prop} {p1 : Int} {p2 : Int} {s : Mem} (C : CX κ (GB ad cA D) RX8 cX8_leak 3 wsX8_leak x8_leak_rm (some .long)) (h : x8_leak p1 p2 s (RT κ (GB ad cA D) ocL Q)) : WM κ (GB ad cA D) 3 Q s 0 [(0, .ref (ad 0)), (1, vI p1), (2, vI p2)] [] := by
  refine r_iload_n C 1 dX8_leak_0 rfl ?_
  refine r_i2l C dX8_leak_1 ⟨h.1, ?_⟩
  have h := h.2
  refine r_ldc2 (z := -1) C dX8_leak_2 w_x8_leak_233 rfl ?_
  refine r_aload_n C 0 dX8_leak_5 rfl ?_
  refine r_get (j := 8) (jz := 8) (v := vI (s 0 (8 : Int))) C dX8_leak_6 (shB_0) rfl rfl (by decide) in_x8_leak_X8 w_x8_leak_92 rfl rfl rfl ?_
  refine r_iconst C dX8_leak_9 ?_
  refine r_isub C dX8_leak_10 ?_
  refine r_i2l C dX8_leak_11 ⟨h.1, ?_⟩
  have h := h.2
  refine r_callS (As := [vL p1, vL (-1 : Int), vL ((s 0 (8 : Int)) - (1 : Int))]) (n := 3) C dX8_leak_12 (x8_in_ct κ.1.2.1 ad cA D p1 (-1 : Int) ((s 0 (8 : Int)) - (1 : Int)) s) gX8_leak_X8_in rfl ⟨rfl, rfl⟩ (by decide +kernel) (by decide) rfl rfl (Nat.le_of_ble_eq_true rfl) (fun _ => rfl) ?_
  refine x8_in_mono h (fun r2 s1 h => ?_)
  refine r_if_ne (tgt := 22) C dX8_leak_15 (by decide) ⟨h.1, fun c9 => ?_, fun c9 => ?_⟩
  · have h := h.2.1 c9
    refine r_iload_n C 2 dX8_leak_22 rfl ?_
    refine r_i2l C dX8_leak_23 ⟨h.1, ?_⟩
    have h := h.2
    refine r_lconst (z := 0) C dX8_leak_24 rfl ?_
    refine r_ldc2 (z := 2) C dX8_leak_25 w_x8_leak_122 rfl ?_
    refine r_callS (As := [vL p2, vL (0 : Int), vL (2 : Int)]) (n := 3) C dX8_leak_28 (x8_in_ct κ.1.2.1 ad cA D p2 (0 : Int) (2 : Int) s1) gX8_leak_X8_in rfl ⟨rfl, rfl⟩ (by decide +kernel) (by decide) rfl rfl (Nat.le_of_ble_eq_true rfl) (fun _ => rfl) ?_
    refine x8_in_mono h (fun r4 s3 h => ?_)
    refine r_if_ne (tgt := 38) C dX8_leak_31 (by decide) ⟨h.1, fun c8 => ?_, fun c8 => ?_⟩
    · have h := h.2.1 c8
      refine r_aload_n C 0 dX8_leak_38 rfl ?_
      refine r_iload_n C 1 dX8_leak_39 rfl ?_
      refine r_callV (As := [vI p1]) (o := 0) (n := 1) C dX8_leak_40 (x8_findLeakOf_ct κ.1.2.1 ad cA D p1 s3) gX8_leak_X8_findLeakOf rfl ⟨rfl, rfl⟩ (by decide +kernel) (by decide) (shB_0) rfl rfl rfl (Nat.le_of_ble_eq_true rfl) (fun _ => rfl) ?_
      refine x8_findLeakOf_mono h (fun _ s5 h => ?_)
      refine r_iload_n C 2 dX8_leak_43 rfl ?_
      refine r_if_ne (tgt := 54) C dX8_leak_44 (by decide) ⟨h.1, fun c7 => ?_, fun c7 => ?_⟩
      · have h := h.2.1 c7
        refine r_iload_n C 2 dX8_leak_54 rfl ?_
        refine r_iconst C dX8_leak_55 ?_
        refine r_icmp_ne (tgt := 66) C dX8_leak_56 (by decide) ⟨h.1, fun c6 => ?_, fun c6 => ?_⟩
        · have h := h.2.1 c6
          refine r_aload_n C 0 dX8_leak_66 rfl ?_
          refine r_get (j := 28) (jz := 28) (v := vI (s5 0 (28 : Int))) C dX8_leak_67 (shB_0) rfl rfl (by decide) in_x8_leak_X8 w_x8_leak_221 rfl rfl rfl ?_
          refine r_i2l C dX8_leak_70 ⟨h.1, ?_⟩
          have h := h.2
          exact r_lreturn C dX8_leak_71 h
        · have h := h.2.2 c6
          refine r_aload_n C 0 dX8_leak_59 rfl ?_
          refine r_get (j := 27) (jz := 27) (v := vL (s5 0 (27 : Int))) C dX8_leak_60 (shB_0) rfl rfl (by decide) in_x8_leak_X8 w_x8_leak_227 rfl rfl rfl ?_
          refine r_goto (tgt := 71) C dX8_leak_63 (by decide) ?_
          exact r_lreturn C dX8_leak_71 h
      · have h := h.2.2 c7
        refine r_aload_n C 0 dX8_leak_47 rfl ?_
        refine r_get (j := 26) (jz := 26) (v := vL (s5 0 (26 : Int))) C dX8_leak_48 (shB_0) rfl rfl (by decide) in_x8_leak_X8 w_x8_leak_224 rfl rfl rfl ?_
        refine r_goto (tgt := 71) C dX8_leak_51 (by decide) ?_
        exact r_lreturn C dX8_leak_71 h
    · have h := h.2.2 c8
      refine r_ldc2 (z := -100002) C dX8_leak_34 w_x8_leak_157 rfl ?_
      exact r_lreturn C dX8_leak_37 h
  · have h := h.2.2 c9
    refine r_ldc2 (z := -100001) C dX8_leak_18 w_x8_leak_155 rfl ?_
    exact r_lreturn C dX8_leak_21 h
theorem x8_leak_ct (l : Launch) (ad : Nat → Nat) (cA : Nat → ClassId) (D : va_G) (p1 : Int) (p2 : Int) (s : Mem) : MG l yX8_leak wsX8_leak x8_leak_rm ocL [.ref (ad 0), vI p1, vI p2] (GB ad cA D) s (x8_leak p1 p2 s) :=
  m_met (own := RX8) (nL := 3) (by decide) rfl rfl (Nat.le_of_ble_eq_true rfl) rfl rfl rfl (fun κ hl C Q Pst hW hQ => x8_leak_bd C (x8_leak_mono hW hQ))

def x8_worst_be (X21 : Int → Int → Int → Int → Mem → Prop) (Q : Int → Mem → Prop)  (s : Mem) : Prop :=
  x8_findLeakOf (-1 : Int) s (fun _ s1 => X21 (-1 : Int) (s1 0 (26 : Int)) (s1 0 (27 : Int)) (0 : Int) s1)
def x8_worst_b21 (X21 : Int → Int → Int → Int → Mem → Prop) (Q : Int → Mem → Prop) (x1 : Int) (x2 : Int) (x4 : Int) (x6 : Int) (s : Mem) : Prop :=
  (InI x6 ∧ InI (s 0 (8 : Int))) ∧ ((s 0 (8 : Int)) ≤ x6 → Q x1 s) ∧ (x6 < (s 0 (8 : Int)) → x8_findLeakOf x6 s (fun _ s2 => x8_held (s2 0 (26 : Int)) (s2 0 (27 : Int)) x2 x4 s2 (fun r4 s3 => InI r4 ∧ ((0 : Int) ≤ r4 → X21 x1 x2 x4 (x6 + (1 : Int)) s3) ∧ (r4 < (0 : Int) → X21 x6 (s3 0 (26 : Int)) (s3 0 (27 : Int)) (x6 + (1 : Int)) s3))))
theorem x8_worst_me {X21 Y21 : Int → Int → Int → Int → Mem → Prop} {Q R : Int → Mem → Prop} (hX21 : ∀ x1 x2 x4 x6 s, X21 x1 x2 x4 x6 s → Y21 x1 x2 x4 x6 s) (hQ : ∀ r s, Q r s → R r s)  {s : Mem} (h : x8_worst_be X21 Q  s) : x8_worst_be Y21 R  s :=
  x8_findLeakOf_mono h (fun _ s1 h => hX21 _ _ _ _ _ h)
theorem x8_worst_m21 {X21 Y21 : Int → Int → Int → Int → Mem → Prop} {Q R : Int → Mem → Prop} (hX21 : ∀ x1 x2 x4 x6 s, X21 x1 x2 x4 x6 s → Y21 x1 x2 x4 x6 s) (hQ : ∀ r s, Q r s → R r s) {x1 : Int} {x2 : Int} {x4 : Int} {x6 : Int} {s : Mem} (h : x8_worst_b21 X21 Q x1 x2 x4 x6 s) : x8_worst_b21 Y21 R x1 x2 x4 x6 s :=
  ⟨h.1, fun c => have h := h.2.1 c; hQ _ _ h, fun c => have h := h.2.2 c; x8_findLeakOf_mono h (fun _ s2 h => x8_held_mono h (fun r4 s3 h => ⟨h.1, fun c => have h := h.2.1 c; hX21 _ _ _ _ _ h, fun c => have h := h.2.2 c; hX21 _ _ _ _ _ h⟩))⟩
def x8_worst  (s : Mem) (Q : Int → Mem → Prop) : Prop := ∀ (X21 : Int → Int → Int → Int → Mem → Prop), (∀ x1 x2 x4 x6 s, x8_worst_b21 X21 Q x1 x2 x4 x6 s → X21 x1 x2 x4 x6 s) → x8_worst_be X21 Q  s
def x8_worst_L21 (Q : Int → Mem → Prop) (x1 : Int) (x2 : Int) (x4 : Int) (x6 : Int) (s : Mem) : Prop := ∀ (X21 : Int → Int → Int → Int → Mem → Prop), (∀ x1 x2 x4 x6 s, x8_worst_b21 X21 Q x1 x2 x4 x6 s → X21 x1 x2 x4 x6 s) → X21 x1 x2 x4 x6 s
theorem x8_worst_i {Q : Int → Mem → Prop}  {s : Mem} (h : x8_worst_be (x8_worst_L21 Q) Q  s) : x8_worst  s Q := fun X21 k21 => x8_worst_me (fun _ _ _ _ _ h => h X21 k21) (fun _ _ h => h) h
theorem x8_worst_s21 {Q : Int → Mem → Prop} {x1 : Int} {x2 : Int} {x4 : Int} {x6 : Int} {s : Mem} (h : x8_worst_b21 (x8_worst_L21 Q) Q x1 x2 x4 x6 s) : x8_worst_L21 Q x1 x2 x4 x6 s := fun X21 k21 => k21 _ _ _ _ _ (x8_worst_m21 (fun _ _ _ _ _ h => h X21 k21) (fun _ _ h => h) h)
theorem x8_worst_mono {Q R : Int → Mem → Prop}  {s : Mem} (h : x8_worst  s Q) (hQ : ∀ r s, Q r s → R r s) : x8_worst  s R := fun X21 k21 => x8_worst_me (fun _ _ _ _ _ h => h) hQ (h X21 (fun _ _ _ _ _ h => k21 _ _ _ _ _ (x8_worst_m21 (fun _ _ _ _ _ h => h) hQ h)))
def x8_worst_rm : Room := { frames := 5, cells := 0, slots := 0, locals := 118 }
theorem w_x8_worst_224 : Cond.fieldLink RX8 224 "BoltRingModel" "leakUp" "J" ∈ wsX8_worst := by decide +kernel
theorem w_x8_worst_227 : Cond.fieldLink RX8 227 "BoltRingModel" "leakDown" "J" ∈ wsX8_worst := by decide +kernel
theorem w_x8_worst_92 : Cond.fieldLink RX8 92 "BoltRingModel" "cases" "I" ∈ wsX8_worst := by decide +kernel
theorem in_x8_worst_X8 : ∀ w ∈ wsX80, w ∈ wsX8_worst := by decide +kernel
set_option maxHeartbeats 4000000 in
set_option maxRecDepth 100000 in
theorem x8_worst_bd {κ : KT} {ad : Nat → Nat} {cA : Nat → ClassId} {D : va_G} {Q : State → Prop}  {s : Mem} (C : CX κ (GB ad cA D) RX8 cX8_worst 7 wsX8_worst x8_worst_rm (some .int)) (h : x8_worst  s (RT κ (GB ad cA D) ocI Q)) : WM κ (GB ad cA D) 7 Q s 0 [(0, .ref (ad 0))] [] := by
  obtain ⟨Z21, z21⟩ : ∃ Z : Int → Int → Int → Int → Mem → Prop, ∀ x1 x2 x4 x6 s, Z x1 x2 x4 x6 s ↔ WM κ (GB ad cA D) 7 Q s 21 [(0, .ref (ad 0)), (1, vI x1), (2, vL x2), (4, vL x4), (6, vI x6)] [] := ⟨fun x1 x2 x4 x6 s => WM κ (GB ad cA D) 7 Q s 21 [(0, .ref (ad 0)), (1, vI x1), (2, vL x2), (4, vL x4), (6, vI x6)] [], fun _ _ _ _ _ => Iff.rfl⟩
  refine (fun h => ?_) (h Z21 ?_)
  · refine r_iconst C dX8_worst_0 ?_
    refine r_istore_n (ls' := [(1, vI (-1 : Int)), (0, .ref (ad 0))]) C dX8_worst_1 rfl (by decide) rfl ?_
    refine r_aload_n C 1 dX8_worst_2 rfl ?_
    refine r_iconst C dX8_worst_3 ?_
    refine r_callV (As := [vI (-1 : Int)]) (o := 0) (n := 1) C dX8_worst_4 (x8_findLeakOf_ct κ.1.2.1 ad cA D (-1 : Int) s) gX8_worst_X8_findLeakOf rfl ⟨rfl, rfl⟩ (by decide +kernel) (by decide) (shB_0) rfl rfl rfl (Nat.le_of_ble_eq_true rfl) (fun _ => rfl) ?_
    refine x8_findLeakOf_mono h (fun _ s1 h => ?_)
    refine r_aload_n C 1 dX8_worst_7 rfl ?_
    refine r_get (j := 26) (jz := 26) (v := vL (s1 0 (26 : Int))) C dX8_worst_8 (shB_0) rfl rfl (by decide) in_x8_worst_X8 w_x8_worst_224 rfl rfl rfl ?_
    refine r_lstore_n (ls' := [(2, vL (s1 0 (26 : Int))), (1, vI (-1 : Int)), (0, .ref (ad 0))]) C dX8_worst_11 rfl (by decide) rfl ?_
    refine r_aload_n C 2 dX8_worst_12 rfl ?_
    refine r_get (j := 27) (jz := 27) (v := vL (s1 0 (27 : Int))) C dX8_worst_13 (shB_0) rfl rfl (by decide) in_x8_worst_X8 w_x8_worst_227 rfl rfl rfl ?_
    refine r_lstore (ls' := [(4, vL (s1 0 (27 : Int))), (2, vL (s1 0 (26 : Int))), (1, vI (-1 : Int)), (0, .ref (ad 0))]) C dX8_worst_16 (by decide) rfl ?_
    refine r_iconst C dX8_worst_18 ?_
    refine r_istore (ls' := [(6, vI (0 : Int)), (4, vL (s1 0 (27 : Int))), (2, vL (s1 0 (26 : Int))), (1, vI (-1 : Int)), (0, .ref (ad 0))]) C dX8_worst_19 (by decide) rfl ?_
    exact r_perm [4, 3, 2, 1, 0] rfl ((z21 _ _ _ _ _).1 h)
  · intro x1 x2 x4 x6 s h
    refine (z21 _ _ _ _ _).2 ?_
    refine r_iload C 4 dX8_worst_21 rfl ?_
    refine r_aload_n C 0 dX8_worst_23 rfl ?_
    refine r_get (j := 8) (jz := 8) (v := vI (s 0 (8 : Int))) C dX8_worst_24 (shB_0) rfl rfl (by decide) in_x8_worst_X8 w_x8_worst_92 rfl rfl rfl ?_
    refine r_icmp_ge (tgt := 73) C dX8_worst_27 (by decide) ⟨h.1, fun c6 => ?_, fun c6 => ?_⟩
    · have h := h.2.1 c6
      refine r_iload_n C 1 dX8_worst_73 rfl ?_
      exact r_ireturn C dX8_worst_74 h
    · have h := h.2.2 c6
      refine r_aload_n C 0 dX8_worst_30 rfl ?_
      refine r_iload C 4 dX8_worst_31 rfl ?_
      refine r_callV (As := [vI x6]) (o := 0) (n := 1) C dX8_worst_33 (x8_findLeakOf_ct κ.1.2.1 ad cA D x6 s) gX8_worst_X8_findLeakOf rfl ⟨rfl, rfl⟩ (by decide +kernel) (by decide) (shB_0) rfl rfl rfl (Nat.le_of_ble_eq_true rfl) (fun _ => rfl) ?_
      refine x8_findLeakOf_mono h (fun _ s2 h => ?_)
      refine r_aload_n C 0 dX8_worst_36 rfl ?_
      refine r_get (j := 26) (jz := 26) (v := vL (s2 0 (26 : Int))) C dX8_worst_37 (shB_0) rfl rfl (by decide) in_x8_worst_X8 w_x8_worst_224 rfl rfl rfl ?_
      refine r_aload_n C 0 dX8_worst_40 rfl ?_
      refine r_get (j := 27) (jz := 27) (v := vL (s2 0 (27 : Int))) C dX8_worst_41 (shB_0) rfl rfl (by decide) in_x8_worst_X8 w_x8_worst_227 rfl rfl rfl ?_
      refine r_lload_n C 2 dX8_worst_44 rfl ?_
      refine r_lload C 3 dX8_worst_45 rfl ?_
      refine r_callS (As := [vL (s2 0 (26 : Int)), vL (s2 0 (27 : Int)), vL x2, vL x4]) (n := 4) C dX8_worst_47 (x8_held_ct κ.1.2.1 ad cA D (s2 0 (26 : Int)) (s2 0 (27 : Int)) x2 x4 s2) gX8_worst_X8_held rfl ⟨rfl, rfl⟩ (by decide +kernel) (by decide) rfl rfl (Nat.le_of_ble_eq_true rfl) (fun _ => rfl) ?_
      refine x8_held_mono h (fun r4 s3 h => ?_)
      refine r_if_ge (tgt := 67) C dX8_worst_50 (by decide) ⟨h.1, fun c5 => ?_, fun c5 => ?_⟩
      · have h := h.2.1 c5
        refine r_iinc (j := 4) (ls' := [(6, vI (x6 + (1 : Int))), (0, .ref (ad 0)), (1, vI x1), (2, vL x2), (4, vL x4)]) C dX8_worst_67 rfl (by decide) rfl ?_
        refine r_goto (tgt := 21) C dX8_worst_70 (by decide) ?_
        exact r_perm [1, 2, 3, 4, 0] rfl ((z21 _ _ _ _ _).1 h)
      · have h := h.2.2 c5
        refine r_iload C 4 dX8_worst_53 rfl ?_
        refine r_istore_n (ls' := [(1, vI x6), (0, .ref (ad 0)), (2, vL x2), (4, vL x4), (6, vI x6)]) C dX8_worst_55 rfl (by decide) rfl ?_
        refine r_aload_n C 1 dX8_worst_56 rfl ?_
        refine r_get (j := 26) (jz := 26) (v := vL (s3 0 (26 : Int))) C dX8_worst_57 (shB_0) rfl rfl (by decide) in_x8_worst_X8 w_x8_worst_224 rfl rfl rfl ?_
        refine r_lstore_n (ls' := [(2, vL (s3 0 (26 : Int))), (1, vI x6), (0, .ref (ad 0)), (4, vL x4), (6, vI x6)]) C dX8_worst_60 rfl (by decide) rfl ?_
        refine r_aload_n C 2 dX8_worst_61 rfl ?_
        refine r_get (j := 27) (jz := 27) (v := vL (s3 0 (27 : Int))) C dX8_worst_62 (shB_0) rfl rfl (by decide) in_x8_worst_X8 w_x8_worst_227 rfl rfl rfl ?_
        refine r_lstore (ls' := [(4, vL (s3 0 (27 : Int))), (2, vL (s3 0 (26 : Int))), (1, vI x6), (0, .ref (ad 0)), (6, vI x6)]) C dX8_worst_65 (by decide) rfl ?_
        refine r_iinc (j := 4) (ls' := [(6, vI (x6 + (1 : Int))), (4, vL (s3 0 (27 : Int))), (2, vL (s3 0 (26 : Int))), (1, vI x6), (0, .ref (ad 0))]) C dX8_worst_67 rfl (by decide) rfl ?_
        refine r_goto (tgt := 21) C dX8_worst_70 (by decide) ?_
        exact r_perm [4, 3, 2, 1, 0] rfl ((z21 _ _ _ _ _).1 h)
theorem x8_worst_ct (l : Launch) (ad : Nat → Nat) (cA : Nat → ClassId) (D : va_G)  (s : Mem) : MG l yX8_worst wsX8_worst x8_worst_rm ocI [.ref (ad 0)] (GB ad cA D) s (x8_worst  s) :=
  m_met (own := RX8) (nL := 7) (by decide) rfl rfl (Nat.le_of_ble_eq_true rfl) rfl rfl rfl (fun κ hl C Q Pst hW hQ => x8_worst_bd C (x8_worst_mono hW hQ))

def x8_weakest_be (X20 : Int → Int → Int → Int → Mem → Prop) (X80 : Int → Mem → Prop) (Q : Int → Mem → Prop)  (s : Mem) : Prop :=
  x8_whole s (fun r2 s1 => (InI r2 ∧ InI (1 : Int)) ∧ (¬ r2 = (1 : Int) → X20 (-1 : Int) (0 : Int) (1 : Int) (0 : Int) s1) ∧ (r2 = (1 : Int) → Q (-1 : Int) s1))
def x8_weakest_b20 (X20 : Int → Int → Int → Int → Mem → Prop) (X80 : Int → Mem → Prop) (Q : Int → Mem → Prop) (x1 : Int) (x2 : Int) (x4 : Int) (x6 : Int) (s : Mem) : Prop :=
  (InI x6 ∧ InI (s 0 (0 : Int))) ∧ ((s 0 (0 : Int)) ≤ x6 → Q x1 s) ∧ (x6 < (s 0 (0 : Int)) → ((0 : Int) ≤ x6 ∧ x6 < 6) ∧ InI (s 5 x6) ∧ (¬ (s 5 x6) = (0 : Int) → X20 x1 x2 x4 (x6 + (1 : Int)) s) ∧ ((s 5 x6) = (0 : Int) → (((0 : Int) ≤ x6 ∧ x6 < 6) ∧ (0 : Int) ≤ (1 : Int) ∧ (1 : Int) ≤ 1) ∧ ∀ s4 : Mem, s4 = m_upd s 5 x6 (1 : Int) → x8_findLeak s4 (fun _ s5 => (((0 : Int) ≤ x6 ∧ x6 < 6) ∧ (0 : Int) ≤ (0 : Int) ∧ (0 : Int) ≤ 1) ∧ ∀ s6 : Mem, s6 = m_upd s5 5 x6 (0 : Int) → InI x1 ∧ (x1 < (0 : Int) → X80 x6 s6) ∧ ((0 : Int) ≤ x1 → x8_held (s6 0 (26 : Int)) (s6 0 (27 : Int)) x2 x4 s6 (fun r8 s7 => InI r8 ∧ ((0 : Int) ≤ r8 → X20 x1 x2 x4 (x6 + (1 : Int)) s7) ∧ (r8 < (0 : Int) → X80 x6 s7))))))
def x8_weakest_b80 (X20 : Int → Int → Int → Int → Mem → Prop) (X80 : Int → Mem → Prop) (Q : Int → Mem → Prop) (x6 : Int) (s : Mem) : Prop :=
  X20 x6 (s 0 (26 : Int)) (s 0 (27 : Int)) (x6 + (1 : Int)) s
theorem x8_weakest_me {X20 Y20 : Int → Int → Int → Int → Mem → Prop} {X80 Y80 : Int → Mem → Prop} {Q R : Int → Mem → Prop} (hX20 : ∀ x1 x2 x4 x6 s, X20 x1 x2 x4 x6 s → Y20 x1 x2 x4 x6 s) (hX80 : ∀ x6 s, X80 x6 s → Y80 x6 s) (hQ : ∀ r s, Q r s → R r s)  {s : Mem} (h : x8_weakest_be X20 X80 Q  s) : x8_weakest_be Y20 Y80 R  s :=
  x8_whole_mono h (fun r2 s1 h => ⟨h.1, fun c => have h := h.2.1 c; hX20 _ _ _ _ _ h, fun c => have h := h.2.2 c; hQ _ _ h⟩)
theorem x8_weakest_m20 {X20 Y20 : Int → Int → Int → Int → Mem → Prop} {X80 Y80 : Int → Mem → Prop} {Q R : Int → Mem → Prop} (hX20 : ∀ x1 x2 x4 x6 s, X20 x1 x2 x4 x6 s → Y20 x1 x2 x4 x6 s) (hX80 : ∀ x6 s, X80 x6 s → Y80 x6 s) (hQ : ∀ r s, Q r s → R r s) {x1 : Int} {x2 : Int} {x4 : Int} {x6 : Int} {s : Mem} (h : x8_weakest_b20 X20 X80 Q x1 x2 x4 x6 s) : x8_weakest_b20 Y20 Y80 R x1 x2 x4 x6 s :=
  ⟨h.1, fun c => have h := h.2.1 c; hQ _ _ h, fun c => have h := h.2.2 c; ⟨h.1, have h := h.2; ⟨h.1, fun c => have h := h.2.1 c; hX20 _ _ _ _ _ h, fun c => have h := h.2.2 c; ⟨h.1, have h := h.2; fun s4 e_s4 => have h := h s4 e_s4; x8_findLeak_mono h (fun _ s5 h => ⟨h.1, have h := h.2; fun s6 e_s6 => have h := h s6 e_s6; ⟨h.1, fun c => have h := h.2.1 c; hX80 _ _ h, fun c => have h := h.2.2 c; x8_held_mono h (fun r8 s7 h => ⟨h.1, fun c => have h := h.2.1 c; hX20 _ _ _ _ _ h, fun c => have h := h.2.2 c; hX80 _ _ h⟩)⟩⟩)⟩⟩⟩⟩
theorem x8_weakest_m80 {X20 Y20 : Int → Int → Int → Int → Mem → Prop} {X80 Y80 : Int → Mem → Prop} {Q R : Int → Mem → Prop} (hX20 : ∀ x1 x2 x4 x6 s, X20 x1 x2 x4 x6 s → Y20 x1 x2 x4 x6 s) (hX80 : ∀ x6 s, X80 x6 s → Y80 x6 s) (hQ : ∀ r s, Q r s → R r s) {x6 : Int} {s : Mem} (h : x8_weakest_b80 X20 X80 Q x6 s) : x8_weakest_b80 Y20 Y80 R x6 s :=
  hX20 _ _ _ _ _ h
def x8_weakest  (s : Mem) (Q : Int → Mem → Prop) : Prop := ∀ (X20 : Int → Int → Int → Int → Mem → Prop) (X80 : Int → Mem → Prop), (∀ x1 x2 x4 x6 s, x8_weakest_b20 X20 X80 Q x1 x2 x4 x6 s → X20 x1 x2 x4 x6 s) → (∀ x6 s, x8_weakest_b80 X20 X80 Q x6 s → X80 x6 s) → x8_weakest_be X20 X80 Q  s
def x8_weakest_L20 (Q : Int → Mem → Prop) (x1 : Int) (x2 : Int) (x4 : Int) (x6 : Int) (s : Mem) : Prop := ∀ (X20 : Int → Int → Int → Int → Mem → Prop) (X80 : Int → Mem → Prop), (∀ x1 x2 x4 x6 s, x8_weakest_b20 X20 X80 Q x1 x2 x4 x6 s → X20 x1 x2 x4 x6 s) → (∀ x6 s, x8_weakest_b80 X20 X80 Q x6 s → X80 x6 s) → X20 x1 x2 x4 x6 s
def x8_weakest_L80 (Q : Int → Mem → Prop) (x6 : Int) (s : Mem) : Prop := ∀ (X20 : Int → Int → Int → Int → Mem → Prop) (X80 : Int → Mem → Prop), (∀ x1 x2 x4 x6 s, x8_weakest_b20 X20 X80 Q x1 x2 x4 x6 s → X20 x1 x2 x4 x6 s) → (∀ x6 s, x8_weakest_b80 X20 X80 Q x6 s → X80 x6 s) → X80 x6 s
theorem x8_weakest_i {Q : Int → Mem → Prop}  {s : Mem} (h : x8_weakest_be (x8_weakest_L20 Q) (x8_weakest_L80 Q) Q  s) : x8_weakest  s Q := fun X20 X80 k20 k80 => x8_weakest_me (fun _ _ _ _ _ h => h X20 X80 k20 k80) (fun _ _ h => h X20 X80 k20 k80) (fun _ _ h => h) h
theorem x8_weakest_s20 {Q : Int → Mem → Prop} {x1 : Int} {x2 : Int} {x4 : Int} {x6 : Int} {s : Mem} (h : x8_weakest_b20 (x8_weakest_L20 Q) (x8_weakest_L80 Q) Q x1 x2 x4 x6 s) : x8_weakest_L20 Q x1 x2 x4 x6 s := fun X20 X80 k20 k80 => k20 _ _ _ _ _ (x8_weakest_m20 (fun _ _ _ _ _ h => h X20 X80 k20 k80) (fun _ _ h => h X20 X80 k20 k80) (fun _ _ h => h) h)
theorem x8_weakest_s80 {Q : Int → Mem → Prop} {x6 : Int} {s : Mem} (h : x8_weakest_b80 (x8_weakest_L20 Q) (x8_weakest_L80 Q) Q x6 s) : x8_weakest_L80 Q x6 s := fun X20 X80 k20 k80 => k80 _ _ (x8_weakest_m80 (fun _ _ _ _ _ h => h X20 X80 k20 k80) (fun _ _ h => h X20 X80 k20 k80) (fun _ _ h => h) h)
theorem x8_weakest_mono {Q R : Int → Mem → Prop}  {s : Mem} (h : x8_weakest  s Q) (hQ : ∀ r s, Q r s → R r s) : x8_weakest  s R := fun X20 X80 k20 k80 => x8_weakest_me (fun _ _ _ _ _ h => h) (fun _ _ h => h) hQ (h X20 X80 (fun _ _ _ _ _ h => k20 _ _ _ _ _ (x8_weakest_m20 (fun _ _ _ _ _ h => h) (fun _ _ h => h) hQ h)) (fun _ _ h => k80 _ _ (x8_weakest_m80 (fun _ _ _ _ _ h => h) (fun _ _ h => h) hQ h)))
def x8_weakest_rm : Room := { frames := 4, cells := 0, slots := 0, locals := 96 }
theorem w_x8_weakest_86 : Cond.fieldLink RX8 86 "BoltRingModel" "n" "I" ∈ wsX8_weakest := by decide +kernel
theorem w_x8_weakest_22 : Cond.fieldLink RX8 22 "BoltRingModel" "isBroken" "[Z" ∈ wsX8_weakest := by decide +kernel
theorem w_x8_weakest_224 : Cond.fieldLink RX8 224 "BoltRingModel" "leakUp" "J" ∈ wsX8_weakest := by decide +kernel
theorem w_x8_weakest_227 : Cond.fieldLink RX8 227 "BoltRingModel" "leakDown" "J" ∈ wsX8_weakest := by decide +kernel
theorem in_x8_weakest_X8 : ∀ w ∈ wsX80, w ∈ wsX8_weakest := by decide +kernel
set_option maxHeartbeats 4000000 in
set_option maxRecDepth 100000 in
theorem x8_weakest_bd {κ : KT} {ad : Nat → Nat} {cA : Nat → ClassId} {D : va_G} {Q : State → Prop}  {s : Mem} (C : CX κ (GB ad cA D) RX8 cX8_weakest 7 wsX8_weakest x8_weakest_rm (some .int)) (h : x8_weakest  s (RT κ (GB ad cA D) ocI Q)) : WM κ (GB ad cA D) 7 Q s 0 [(0, .ref (ad 0))] [] := by
  obtain ⟨Z20, z20⟩ : ∃ Z : Int → Int → Int → Int → Mem → Prop, ∀ x1 x2 x4 x6 s, Z x1 x2 x4 x6 s ↔ WM κ (GB ad cA D) 7 Q s 20 [(0, .ref (ad 0)), (1, vI x1), (2, vL x2), (4, vL x4), (6, vI x6)] [] := ⟨fun x1 x2 x4 x6 s => WM κ (GB ad cA D) 7 Q s 20 [(0, .ref (ad 0)), (1, vI x1), (2, vL x2), (4, vL x4), (6, vI x6)] [], fun _ _ _ _ _ => Iff.rfl⟩
  obtain ⟨Z80, z80⟩ : ∃ Z : Int → Mem → Prop, ∀ x6 s, Z x6 s ↔ WM κ (GB ad cA D) 7 Q s 80 [(0, .ref (ad 0)), (6, vI x6)] [] := ⟨fun x6 s => WM κ (GB ad cA D) 7 Q s 80 [(0, .ref (ad 0)), (6, vI x6)] [], fun _ _ => Iff.rfl⟩
  refine (fun h => ?_) (h Z20 Z80 ?_ ?_)
  · refine r_aload_n C 0 dX8_weakest_0 rfl ?_
    refine r_callV (As := []) (o := 0) (n := 0) C dX8_weakest_1 (x8_whole_ct κ.1.2.1 ad cA D s) gX8_weakest_X8_whole rfl ⟨rfl, rfl⟩ (by decide +kernel) (by decide) (shB_0) rfl rfl rfl (Nat.le_of_ble_eq_true rfl) (fun _ => rfl) ?_
    refine x8_whole_mono h (fun r2 s1 h => ?_)
    refine r_iconst C dX8_weakest_4 ?_
    refine r_icmp_ne (tgt := 10) C dX8_weakest_5 (by decide) ⟨h.1, fun c3 => ?_, fun c3 => ?_⟩
    · have h := h.2.1 c3
      refine r_iconst C dX8_weakest_10 ?_
      refine r_istore_n (ls' := [(1, vI (-1 : Int)), (0, .ref (ad 0))]) C dX8_weakest_11 rfl (by decide) rfl ?_
      refine r_lconst (z := 0) C dX8_weakest_12 rfl ?_
      refine r_lstore_n (ls' := [(2, vL (0 : Int)), (1, vI (-1 : Int)), (0, .ref (ad 0))]) C dX8_weakest_13 rfl (by decide) rfl ?_
      refine r_lconst (z := 1) C dX8_weakest_14 rfl ?_
      refine r_lstore (ls' := [(4, vL (1 : Int)), (2, vL (0 : Int)), (1, vI (-1 : Int)), (0, .ref (ad 0))]) C dX8_weakest_15 (by decide) rfl ?_
      refine r_iconst C dX8_weakest_17 ?_
      refine r_istore (ls' := [(6, vI (0 : Int)), (4, vL (1 : Int)), (2, vL (0 : Int)), (1, vI (-1 : Int)), (0, .ref (ad 0))]) C dX8_weakest_18 (by decide) rfl ?_
      exact r_perm [4, 3, 2, 1, 0] rfl ((z20 _ _ _ _ _).1 h)
    · have h := h.2.2 c3
      refine r_iconst C dX8_weakest_8 ?_
      exact r_ireturn C dX8_weakest_9 h
  · intro x1 x2 x4 x6 s h
    refine (z20 _ _ _ _ _).2 ?_
    refine r_iload C 4 dX8_weakest_20 rfl ?_
    refine r_aload_n C 0 dX8_weakest_22 rfl ?_
    refine r_get (j := 0) (jz := 0) (v := vI (s 0 (0 : Int))) C dX8_weakest_23 (shB_0) rfl rfl (by decide) in_x8_weakest_X8 w_x8_weakest_86 rfl rfl rfl ?_
    refine r_icmp_ge (tgt := 100) C dX8_weakest_26 (by decide) ⟨h.1, fun c12 => ?_, fun c12 => ?_⟩
    · have h := h.2.1 c12
      refine r_iload_n C 1 dX8_weakest_100 rfl ?_
      exact r_ireturn C dX8_weakest_101 h
    · have h := h.2.2 c12
      refine r_aload_n C 0 dX8_weakest_29 rfl ?_
      refine r_get (j := 6) (jz := 6) (v := .ref (ad 5)) C dX8_weakest_30 (shB_0) rfl rfl (by decide) in_x8_weakest_X8 w_x8_weakest_22 rfl rfl rfl ?_
      refine r_iload C 4 dX8_weakest_33 rfl ?_
      refine r_zald (nz := 6) C dX8_weakest_35 (shB_5) rfl (by decide) ⟨h.1, ?_⟩
      have h := h.2
      refine r_if_ne (tgt := 94) C dX8_weakest_36 (by decide) ⟨h.1, fun c11 => ?_, fun c11 => ?_⟩
      · have h := h.2.1 c11
        refine r_iinc (j := 4) (ls' := [(6, vI (x6 + (1 : Int))), (0, .ref (ad 0)), (1, vI x1), (2, vL x2), (4, vL x4)]) C dX8_weakest_94 rfl (by decide) rfl ?_
        refine r_goto (tgt := 20) C dX8_weakest_97 (by decide) ?_
        exact r_perm [1, 2, 3, 4, 0] rfl ((z20 _ _ _ _ _).1 h)
      · have h := h.2.2 c11
        refine r_aload_n C 0 dX8_weakest_39 rfl ?_
        refine r_get (j := 6) (jz := 6) (v := .ref (ad 5)) C dX8_weakest_40 (shB_0) rfl rfl (by decide) in_x8_weakest_X8 w_x8_weakest_22 rfl rfl rfl ?_
        refine r_iload C 4 dX8_weakest_43 rfl ?_
        refine r_iconst C dX8_weakest_45 ?_
        refine r_zast (nz := 6) C dX8_weakest_46 (shB_5) rfl (by decide) ⟨h.1, fun s4 e_s4 => ?_⟩
        have h := h.2 s4 e_s4
        refine r_aload_n C 0 dX8_weakest_47 rfl ?_
        refine r_callV (As := []) (o := 0) (n := 0) C dX8_weakest_48 (x8_findLeak_ct κ.1.2.1 ad cA D s4) gX8_weakest_X8_findLeak rfl ⟨rfl, rfl⟩ (by decide +kernel) (by decide) (shB_0) rfl rfl rfl (Nat.le_of_ble_eq_true rfl) (fun _ => rfl) ?_
        refine x8_findLeak_mono h (fun _ s5 h => ?_)
        refine r_aload_n C 0 dX8_weakest_51 rfl ?_
        refine r_get (j := 6) (jz := 6) (v := .ref (ad 5)) C dX8_weakest_52 (shB_0) rfl rfl (by decide) in_x8_weakest_X8 w_x8_weakest_22 rfl rfl rfl ?_
        refine r_iload C 4 dX8_weakest_55 rfl ?_
        refine r_iconst C dX8_weakest_57 ?_
        refine r_zast (nz := 6) C dX8_weakest_58 (shB_5) rfl (by decide) ⟨h.1, fun s6 e_s6 => ?_⟩
        have h := h.2 s6 e_s6
        refine r_iload_n C 1 dX8_weakest_59 rfl ?_
        refine r_if_lt (tgt := 80) C dX8_weakest_60 (by decide) ⟨h.1, fun c10 => ?_, fun c10 => ?_⟩
        · have h := h.2.1 c10
          exact r_perm [0, 4] rfl ((z80 _ _).1 h)
        · have h := h.2.2 c10
          refine r_aload_n C 0 dX8_weakest_63 rfl ?_
          refine r_get (j := 26) (jz := 26) (v := vL (s6 0 (26 : Int))) C dX8_weakest_64 (shB_0) rfl rfl (by decide) in_x8_weakest_X8 w_x8_weakest_224 rfl rfl rfl ?_
          refine r_aload_n C 0 dX8_weakest_67 rfl ?_
          refine r_get (j := 27) (jz := 27) (v := vL (s6 0 (27 : Int))) C dX8_weakest_68 (shB_0) rfl rfl (by decide) in_x8_weakest_X8 w_x8_weakest_227 rfl rfl rfl ?_
          refine r_lload_n C 2 dX8_weakest_71 rfl ?_
          refine r_lload C 3 dX8_weakest_72 rfl ?_
          refine r_callS (As := [vL (s6 0 (26 : Int)), vL (s6 0 (27 : Int)), vL x2, vL x4]) (n := 4) C dX8_weakest_74 (x8_held_ct κ.1.2.1 ad cA D (s6 0 (26 : Int)) (s6 0 (27 : Int)) x2 x4 s6) gX8_weakest_X8_held rfl ⟨rfl, rfl⟩ (by decide +kernel) (by decide) rfl rfl (Nat.le_of_ble_eq_true rfl) (fun _ => rfl) ?_
          refine x8_held_mono h (fun r8 s7 h => ?_)
          refine r_if_ge (tgt := 94) C dX8_weakest_77 (by decide) ⟨h.1, fun c9 => ?_, fun c9 => ?_⟩
          · have h := h.2.1 c9
            refine r_iinc (j := 4) (ls' := [(6, vI (x6 + (1 : Int))), (0, .ref (ad 0)), (1, vI x1), (2, vL x2), (4, vL x4)]) C dX8_weakest_94 rfl (by decide) rfl ?_
            refine r_goto (tgt := 20) C dX8_weakest_97 (by decide) ?_
            exact r_perm [1, 2, 3, 4, 0] rfl ((z20 _ _ _ _ _).1 h)
          · have h := h.2.2 c9
            exact r_perm [0, 4] rfl ((z80 _ _).1 h)
  · intro x6 s h
    refine (z80 _ _).2 ?_
    refine r_iload C 1 dX8_weakest_80 rfl ?_
    refine r_istore_n (ls' := [(1, vI x6), (0, .ref (ad 0)), (6, vI x6)]) C dX8_weakest_82 rfl (by decide) rfl ?_
    refine r_aload_n C 1 dX8_weakest_83 rfl ?_
    refine r_get (j := 26) (jz := 26) (v := vL (s 0 (26 : Int))) C dX8_weakest_84 (shB_0) rfl rfl (by decide) in_x8_weakest_X8 w_x8_weakest_224 rfl rfl rfl ?_
    refine r_lstore_n (ls' := [(2, vL (s 0 (26 : Int))), (1, vI x6), (0, .ref (ad 0)), (6, vI x6)]) C dX8_weakest_87 rfl (by decide) rfl ?_
    refine r_aload_n C 2 dX8_weakest_88 rfl ?_
    refine r_get (j := 27) (jz := 27) (v := vL (s 0 (27 : Int))) C dX8_weakest_89 (shB_0) rfl rfl (by decide) in_x8_weakest_X8 w_x8_weakest_227 rfl rfl rfl ?_
    refine r_lstore (ls' := [(4, vL (s 0 (27 : Int))), (2, vL (s 0 (26 : Int))), (1, vI x6), (0, .ref (ad 0)), (6, vI x6)]) C dX8_weakest_92 (by decide) rfl ?_
    refine r_iinc (j := 4) (ls' := [(6, vI (x6 + (1 : Int))), (4, vL (s 0 (27 : Int))), (2, vL (s 0 (26 : Int))), (1, vI x6), (0, .ref (ad 0))]) C dX8_weakest_94 rfl (by decide) rfl ?_
    refine r_goto (tgt := 20) C dX8_weakest_97 (by decide) ?_
    exact r_perm [4, 3, 2, 1, 0] rfl ((z20 _ _ _ _ _).1 h)
theorem x8_weakest_ct (l : Launch) (ad : Nat → Nat) (cA : Nat → ClassId) (D : va_G)  (s : Mem) : MG l yX8_weakest wsX8_weakest x8_weakest_rm ocI [.ref (ad 0)] (GB ad cA D) s (x8_weakest  s) :=
  m_met (own := RX8) (nL := 7) (by decide) rfl rfl (Nat.le_of_ble_eq_true rfl) rfl rfl rfl (fun κ hl C Q Pst hW hQ => x8_weakest_bd C (x8_weakest_mono hW hQ))

def x8_weights (p1 : Int) (p2 : Int) (p3 : Int) (s : Mem) (Q : Int → Mem → Prop) : Prop :=
  (InI p1) ∧ x8_in p1 (0 : Int) (9 : Int) s (fun r2 s1 => InI r2 ∧ (r2 = (0 : Int) → Q (-100002 : Int) s1) ∧ (¬ r2 = (0 : Int) → (InI p2) ∧ x8_in p2 (0 : Int) (9 : Int) s1 (fun r4 s3 => InI r4 ∧ (r4 = (0 : Int) → Q (-100002 : Int) s3) ∧ (¬ r4 = (0 : Int) → (InI p3) ∧ x8_in p3 (0 : Int) (9 : Int) s3 (fun r6 s5 => InI r6 ∧ (r6 = (0 : Int) → Q (-100002 : Int) s5) ∧ (¬ r6 = (0 : Int) → InI ((p1 + p2) + p3) ∧ (¬ ((p1 + p2) + p3) = (0 : Int) → ((0 : Int) ≤ (0 : Int) ∧ (0 : Int) < 3) ∧ ∀ s7 : Mem, s7 = m_upd s5 8 (0 : Int) p1 → ((0 : Int) ≤ (1 : Int) ∧ (1 : Int) < 3) ∧ ∀ s8 : Mem, s8 = m_upd s7 8 (1 : Int) p2 → ((0 : Int) ≤ (2 : Int) ∧ (2 : Int) < 3) ∧ ∀ s9 : Mem, s9 = m_upd s8 8 (2 : Int) p3 → Q (1 : Int) s9) ∧ (((p1 + p2) + p3) = (0 : Int) → Q (-100002 : Int) s5)))))))
theorem x8_weights_mono {Q R : Int → Mem → Prop} {p1 : Int} {p2 : Int} {p3 : Int} {s : Mem} (h : x8_weights p1 p2 p3 s Q) (hQ : ∀ r s, Q r s → R r s) : x8_weights p1 p2 p3 s R :=
  ⟨h.1, have h := h.2; x8_in_mono h (fun r2 s1 h => ⟨h.1, fun c => have h := h.2.1 c; hQ _ _ h, fun c => have h := h.2.2 c; ⟨h.1, have h := h.2; x8_in_mono h (fun r4 s3 h => ⟨h.1, fun c => have h := h.2.1 c; hQ _ _ h, fun c => have h := h.2.2 c; ⟨h.1, have h := h.2; x8_in_mono h (fun r6 s5 h => ⟨h.1, fun c => have h := h.2.1 c; hQ _ _ h, fun c => have h := h.2.2 c; ⟨h.1, fun c => have h := h.2.1 c; ⟨h.1, have h := h.2; fun s7 e_s7 => have h := h s7 e_s7; ⟨h.1, have h := h.2; fun s8 e_s8 => have h := h s8 e_s8; ⟨h.1, have h := h.2; fun s9 e_s9 => have h := h s9 e_s9; hQ _ _ h⟩⟩⟩, fun c => have h := h.2.2 c; hQ _ _ h⟩⟩)⟩⟩)⟩⟩)⟩
def x8_weights_rm : Room := { frames := 1, cells := 0, slots := 0, locals := 25 }
theorem w_x8_weights_103 : Cond.constantLong RX8 103 (9) ∈ wsX8_weights := by decide +kernel
theorem w_x8_weights_105 : Cond.constant RX8 105 (-100002) ∈ wsX8_weights := by decide +kernel
theorem w_x8_weights_32 : Cond.fieldLink RX8 32 "BoltRingModel" "weight" "[I" ∈ wsX8_weights := by decide +kernel
theorem in_x8_weights_X8 : ∀ w ∈ wsX80, w ∈ wsX8_weights := by decide +kernel
set_option maxHeartbeats 4000000 in
set_option maxRecDepth 100000 in
theorem x8_weights_bd {κ : KT} {ad : Nat → Nat} {cA : Nat → ClassId} {D : va_G} {Q : State → Prop} {p1 : Int} {p2 : Int} {p3 : Int} {s : Mem} (C : CX κ (GB ad cA D) RX8 cX8_weights 4 wsX8_weights x8_weights_rm (some .int)) (h : x8_weights p1 p2 p3 s (RT κ (GB ad cA D) ocI Q)) : WM κ (GB ad cA D) 4 Q s 0 [(0, .ref (ad 0)), (1, vI p1), (2, vI p2), (3, vI p3)] [] := by
  refine r_iload_n C 1 dX8_weights_0 rfl ?_
  refine r_i2l C dX8_weights_1 ⟨h.1, ?_⟩
  have h := h.2
  refine r_lconst (z := 0) C dX8_weights_2 rfl ?_
  refine r_ldc2 (z := 9) C dX8_weights_3 w_x8_weights_103 rfl ?_
  refine r_callS (As := [vL p1, vL (0 : Int), vL (9 : Int)]) (n := 3) C dX8_weights_6 (x8_in_ct κ.1.2.1 ad cA D p1 (0 : Int) (9 : Int) s) gX8_weights_X8_in rfl ⟨rfl, rfl⟩ (by decide +kernel) (by decide) rfl rfl (Nat.le_of_ble_eq_true rfl) (fun _ => rfl) ?_
  refine x8_in_mono h (fun r2 s1 h => ?_)
  refine r_if_eq (tgt := 44) C dX8_weights_9 (by decide) ⟨h.1, fun c13 => ?_, fun c13 => ?_⟩
  · have h := h.2.1 c13
    refine r_ldc (z := -100002) C dX8_weights_44 w_x8_weights_105 rfl ?_
    exact r_ireturn C dX8_weights_46 h
  · have h := h.2.2 c13
    refine r_iload_n C 2 dX8_weights_12 rfl ?_
    refine r_i2l C dX8_weights_13 ⟨h.1, ?_⟩
    have h := h.2
    refine r_lconst (z := 0) C dX8_weights_14 rfl ?_
    refine r_ldc2 (z := 9) C dX8_weights_15 w_x8_weights_103 rfl ?_
    refine r_callS (As := [vL p2, vL (0 : Int), vL (9 : Int)]) (n := 3) C dX8_weights_18 (x8_in_ct κ.1.2.1 ad cA D p2 (0 : Int) (9 : Int) s1) gX8_weights_X8_in rfl ⟨rfl, rfl⟩ (by decide +kernel) (by decide) rfl rfl (Nat.le_of_ble_eq_true rfl) (fun _ => rfl) ?_
    refine x8_in_mono h (fun r4 s3 h => ?_)
    refine r_if_eq (tgt := 44) C dX8_weights_21 (by decide) ⟨h.1, fun c12 => ?_, fun c12 => ?_⟩
    · have h := h.2.1 c12
      refine r_ldc (z := -100002) C dX8_weights_44 w_x8_weights_105 rfl ?_
      exact r_ireturn C dX8_weights_46 h
    · have h := h.2.2 c12
      refine r_iload_n C 3 dX8_weights_24 rfl ?_
      refine r_i2l C dX8_weights_25 ⟨h.1, ?_⟩
      have h := h.2
      refine r_lconst (z := 0) C dX8_weights_26 rfl ?_
      refine r_ldc2 (z := 9) C dX8_weights_27 w_x8_weights_103 rfl ?_
      refine r_callS (As := [vL p3, vL (0 : Int), vL (9 : Int)]) (n := 3) C dX8_weights_30 (x8_in_ct κ.1.2.1 ad cA D p3 (0 : Int) (9 : Int) s3) gX8_weights_X8_in rfl ⟨rfl, rfl⟩ (by decide +kernel) (by decide) rfl rfl (Nat.le_of_ble_eq_true rfl) (fun _ => rfl) ?_
      refine x8_in_mono h (fun r6 s5 h => ?_)
      refine r_if_eq (tgt := 44) C dX8_weights_33 (by decide) ⟨h.1, fun c11 => ?_, fun c11 => ?_⟩
      · have h := h.2.1 c11
        refine r_ldc (z := -100002) C dX8_weights_44 w_x8_weights_105 rfl ?_
        exact r_ireturn C dX8_weights_46 h
      · have h := h.2.2 c11
        refine r_iload_n C 1 dX8_weights_36 rfl ?_
        refine r_iload_n C 2 dX8_weights_37 rfl ?_
        refine r_iadd C dX8_weights_38 ?_
        refine r_iload_n C 3 dX8_weights_39 rfl ?_
        refine r_iadd C dX8_weights_40 ?_
        refine r_if_ne (tgt := 47) C dX8_weights_41 (by decide) ⟨h.1, fun c10 => ?_, fun c10 => ?_⟩
        · have h := h.2.1 c10
          refine r_aload_n C 0 dX8_weights_47 rfl ?_
          refine r_get (j := 10) (jz := 10) (v := .ref (ad 8)) C dX8_weights_48 (shB_0) rfl rfl (by decide) in_x8_weights_X8 w_x8_weights_32 rfl rfl rfl ?_
          refine r_iconst C dX8_weights_51 ?_
          refine r_iload_n C 1 dX8_weights_52 rfl ?_
          refine r_iast (nz := 3) C dX8_weights_53 (shB_8) rfl (by decide) ⟨h.1, fun s7 e_s7 => ?_⟩
          have h := h.2 s7 e_s7
          refine r_aload_n C 0 dX8_weights_54 rfl ?_
          refine r_get (j := 10) (jz := 10) (v := .ref (ad 8)) C dX8_weights_55 (shB_0) rfl rfl (by decide) in_x8_weights_X8 w_x8_weights_32 rfl rfl rfl ?_
          refine r_iconst C dX8_weights_58 ?_
          refine r_iload_n C 2 dX8_weights_59 rfl ?_
          refine r_iast (nz := 3) C dX8_weights_60 (shB_8) rfl (by decide) ⟨h.1, fun s8 e_s8 => ?_⟩
          have h := h.2 s8 e_s8
          refine r_aload_n C 0 dX8_weights_61 rfl ?_
          refine r_get (j := 10) (jz := 10) (v := .ref (ad 8)) C dX8_weights_62 (shB_0) rfl rfl (by decide) in_x8_weights_X8 w_x8_weights_32 rfl rfl rfl ?_
          refine r_iconst C dX8_weights_65 ?_
          refine r_iload_n C 3 dX8_weights_66 rfl ?_
          refine r_iast (nz := 3) C dX8_weights_67 (shB_8) rfl (by decide) ⟨h.1, fun s9 e_s9 => ?_⟩
          have h := h.2 s9 e_s9
          refine r_iconst C dX8_weights_68 ?_
          exact r_ireturn C dX8_weights_69 h
        · have h := h.2.2 c10
          refine r_ldc (z := -100002) C dX8_weights_44 w_x8_weights_105 rfl ?_
          exact r_ireturn C dX8_weights_46 h
theorem x8_weights_ct (l : Launch) (ad : Nat → Nat) (cA : Nat → ClassId) (D : va_G) (p1 : Int) (p2 : Int) (p3 : Int) (s : Mem) : MG l yX8_weights wsX8_weights x8_weights_rm ocI [.ref (ad 0), vI p1, vI p2, vI p3] (GB ad cA D) s (x8_weights p1 p2 p3 s) :=
  m_met (own := RX8) (nL := 4) (by decide) rfl rfl (Nat.le_of_ble_eq_true rfl) rfl rfl rfl (fun κ hl C Q Pst hW hQ => x8_weights_bd C (x8_weights_mono hW hQ))

def x8_isWithin (p1 : Int) (p2 : Int) (p3 : Int) (s : Mem) (Q : Int → Mem → Prop) : Prop :=
  x8_pull p1 s (fun r2 s1 => (InI p2) ∧ (InI p3) ∧ x8_in r2 (p2 * (s1 0 (15 : Int))) (p3 * (s1 0 (15 : Int))) s1 (fun r4 s3 => ((0 : Int) ≤ r4 ∧ r4 ≤ 1) ∧ Q r4 s3))
theorem x8_isWithin_mono {Q R : Int → Mem → Prop} {p1 : Int} {p2 : Int} {p3 : Int} {s : Mem} (h : x8_isWithin p1 p2 p3 s Q) (hQ : ∀ r s, Q r s → R r s) : x8_isWithin p1 p2 p3 s R :=
  x8_pull_mono h (fun r2 s1 h => ⟨h.1, have h := h.2; ⟨h.1, have h := h.2; x8_in_mono h (fun r4 s3 h => ⟨h.1, hQ _ _ h.2⟩)⟩⟩)
def x8_isWithin_rm : Room := { frames := 1, cells := 0, slots := 0, locals := 25 }
theorem w_x8_isWithin_124 : Cond.fieldLink RX8 124 "BoltRingModel" "below" "J" ∈ wsX8_isWithin := by decide +kernel
theorem in_x8_isWithin_X8 : ∀ w ∈ wsX80, w ∈ wsX8_isWithin := by decide +kernel
set_option maxHeartbeats 4000000 in
set_option maxRecDepth 100000 in
theorem x8_isWithin_bd {κ : KT} {ad : Nat → Nat} {cA : Nat → ClassId} {D : va_G} {Q : State → Prop} {p1 : Int} {p2 : Int} {p3 : Int} {s : Mem} (C : CX κ (GB ad cA D) RX8 cX8_isWithin 4 wsX8_isWithin x8_isWithin_rm (some .boolean)) (h : x8_isWithin p1 p2 p3 s (RT κ (GB ad cA D) ocI Q)) : WM κ (GB ad cA D) 4 Q s 0 [(0, .ref (ad 0)), (1, vI p1), (2, vI p2), (3, vI p3)] [] := by
  refine r_aload_n C 0 dX8_isWithin_0 rfl ?_
  refine r_iload_n C 1 dX8_isWithin_1 rfl ?_
  refine r_callV (As := [vI p1]) (o := 0) (n := 1) C dX8_isWithin_2 (x8_pull_ct κ.1.2.1 ad cA D p1 s) gX8_isWithin_X8_pull rfl ⟨rfl, rfl⟩ (by decide +kernel) (by decide) (shB_0) rfl rfl rfl (Nat.le_of_ble_eq_true rfl) (fun _ => rfl) ?_
  refine x8_pull_mono h (fun r2 s1 h => ?_)
  refine r_iload_n C 2 dX8_isWithin_5 rfl ?_
  refine r_i2l C dX8_isWithin_6 ⟨h.1, ?_⟩
  have h := h.2
  refine r_aload_n C 0 dX8_isWithin_7 rfl ?_
  refine r_get (j := 15) (jz := 15) (v := vL (s1 0 (15 : Int))) C dX8_isWithin_8 (shB_0) rfl rfl (by decide) in_x8_isWithin_X8 w_x8_isWithin_124 rfl rfl rfl ?_
  refine r_lmul C dX8_isWithin_11 ?_
  refine r_iload_n C 3 dX8_isWithin_12 rfl ?_
  refine r_i2l C dX8_isWithin_13 ⟨h.1, ?_⟩
  have h := h.2
  refine r_aload_n C 0 dX8_isWithin_14 rfl ?_
  refine r_get (j := 15) (jz := 15) (v := vL (s1 0 (15 : Int))) C dX8_isWithin_15 (shB_0) rfl rfl (by decide) in_x8_isWithin_X8 w_x8_isWithin_124 rfl rfl rfl ?_
  refine r_lmul C dX8_isWithin_18 ?_
  refine r_callS (As := [vL r2, vL (p2 * (s1 0 (15 : Int))), vL (p3 * (s1 0 (15 : Int)))]) (n := 3) C dX8_isWithin_19 (x8_in_ct κ.1.2.1 ad cA D r2 (p2 * (s1 0 (15 : Int))) (p3 * (s1 0 (15 : Int))) s1) gX8_isWithin_X8_in rfl ⟨rfl, rfl⟩ (by decide +kernel) (by decide) rfl rfl (Nat.le_of_ble_eq_true rfl) (fun _ => rfl) ?_
  refine x8_in_mono h (fun r4 s3 h => ?_)
  exact r_zreturn C dX8_isWithin_22 h
theorem x8_isWithin_ct (l : Launch) (ad : Nat → Nat) (cA : Nat → ClassId) (D : va_G) (p1 : Int) (p2 : Int) (p3 : Int) (s : Mem) : MG l yX8_isWithin wsX8_isWithin x8_isWithin_rm ocI [.ref (ad 0), vI p1, vI p2, vI p3] (GB ad cA D) s (x8_isWithin p1 p2 p3 s) :=
  m_met (own := RX8) (nL := 4) (by decide) rfl rfl (Nat.le_of_ble_eq_true rfl) rfl rfl rfl (fun κ hl C Q Pst hW hQ => x8_isWithin_bd C (x8_isWithin_mono hW hQ))
