def x5_append_be (X8 : Int → Int → Mem → Prop) (Q : Int → Mem → Prop) (p1 : Int) (p2 : Int) (s : Mem) : Prop :=
  ∀ v1 : Int, v1 = ((8 : Int) * (p1 - (1 : Int))) → X8 p2 v1 s
def x5_append_b8 (X8 : Int → Int → Mem → Prop) (Q : Int → Mem → Prop) (x2 : Int) (x4 : Int) (s : Mem) : Prop :=
  InI x4 ∧ (x4 < (0 : Int) → Q (0 : Int) s) ∧ ((0 : Int) ≤ x4 → (InI (s 37 (0 : Int)) ∧ InI (160 : Int)) ∧ ((160 : Int) ≤ (s 37 (0 : Int)) → Q (0 : Int) s) ∧ ((s 37 (0 : Int)) < (160 : Int) → ((0 : Int) ≤ (s 37 (0 : Int)) ∧ (s 37 (0 : Int)) < 160) ∧ ∀ s2 : Mem, s2 = m_upd s 41 (s 37 (0 : Int)) (andL (shrL x2 x4) (255 : Int)) → ∀ s3 : Mem, s3 = m_upd s2 37 (0 : Int) ((s2 37 (0 : Int)) + (1 : Int)) → X8 x2 (x4 + (-8 : Int)) s3))
theorem x5_append_me {X8 Y8 : Int → Int → Mem → Prop} {Q R : Int → Mem → Prop} (hX8 : ∀ x2 x4 s, X8 x2 x4 s → Y8 x2 x4 s) (hQ : ∀ r s, Q r s → R r s) {p1 : Int} {p2 : Int} {s : Mem} (h : x5_append_be X8 Q p1 p2 s) : x5_append_be Y8 R p1 p2 s :=
  fun v1 e_v1 => have h := h v1 e_v1; hX8 _ _ _ h
theorem x5_append_m8 {X8 Y8 : Int → Int → Mem → Prop} {Q R : Int → Mem → Prop} (hX8 : ∀ x2 x4 s, X8 x2 x4 s → Y8 x2 x4 s) (hQ : ∀ r s, Q r s → R r s) {x2 : Int} {x4 : Int} {s : Mem} (h : x5_append_b8 X8 Q x2 x4 s) : x5_append_b8 Y8 R x2 x4 s :=
  ⟨h.1, fun c => have h := h.2.1 c; hQ _ _ h, fun c => have h := h.2.2 c; ⟨h.1, fun c => have h := h.2.1 c; hQ _ _ h, fun c => have h := h.2.2 c; ⟨h.1, have h := h.2; fun s2 e_s2 => have h := h s2 e_s2; fun s3 e_s3 => have h := h s3 e_s3; hX8 _ _ _ h⟩⟩⟩
def x5_append (p1 : Int) (p2 : Int) (s : Mem) (Q : Int → Mem → Prop) : Prop := ∀ (X8 : Int → Int → Mem → Prop), (∀ x2 x4 s, x5_append_b8 X8 Q x2 x4 s → X8 x2 x4 s) → x5_append_be X8 Q p1 p2 s
def x5_append_L8 (Q : Int → Mem → Prop) (x2 : Int) (x4 : Int) (s : Mem) : Prop := ∀ (X8 : Int → Int → Mem → Prop), (∀ x2 x4 s, x5_append_b8 X8 Q x2 x4 s → X8 x2 x4 s) → X8 x2 x4 s
theorem x5_append_i {Q : Int → Mem → Prop} {p1 : Int} {p2 : Int} {s : Mem} (h : x5_append_be (x5_append_L8 Q) Q p1 p2 s) : x5_append p1 p2 s Q := fun X8 k8 => x5_append_me (fun _ _ _ h => h X8 k8) (fun _ _ h => h) h
theorem x5_append_s8 {Q : Int → Mem → Prop} {x2 : Int} {x4 : Int} {s : Mem} (h : x5_append_b8 (x5_append_L8 Q) Q x2 x4 s) : x5_append_L8 Q x2 x4 s := fun X8 k8 => k8 _ _ _ (x5_append_m8 (fun _ _ _ h => h X8 k8) (fun _ _ h => h) h)
theorem x5_append_mono {Q R : Int → Mem → Prop} {p1 : Int} {p2 : Int} {s : Mem} (h : x5_append p1 p2 s Q) (hQ : ∀ r s, Q r s → R r s) : x5_append p1 p2 s R := fun X8 k8 => x5_append_me (fun _ _ _ h => h) hQ (h X8 (fun _ _ _ h => k8 _ _ _ (x5_append_m8 (fun _ _ _ h => h) hQ h)))
def x5_append_rm : Room := { frames := 0, cells := 0, slots := 0, locals := 0 }
theorem w_x5_append_28 : Cond.fieldLink RX5 28 "BoltRing$Orders" "length" "I" ∈ wsX5_append := by decide +kernel
theorem w_x5_append_25 : Cond.fieldLink RX5 25 "BoltRing$Orders" "signs" "[I" ∈ wsX5_append := by decide +kernel
theorem w_x5_append_31 : Cond.constantLong RX5 31 (255) ∈ wsX5_append := by decide +kernel
theorem in_x5_append_X5 : ∀ w ∈ wsX50, w ∈ wsX5_append := by decide +kernel
set_option maxHeartbeats 4000000 in
set_option maxRecDepth 100000 in
theorem x5_append_bd {κ : KT} {ad : Nat → Nat} {cA : Nat → ClassId} {D : va_G} {Q : State → Prop} {p1 : Int} {p2 : Int} {s : Mem} (C : CX κ (GA ad cA D) RX5 cX5_append 5 wsX5_append x5_append_rm none) (h : x5_append p1 p2 s (RT κ (GA ad cA D) ocV Q)) : WM κ (GA ad cA D) 5 Q s 0 [(0, .ref (ad 37)), (1, vI p1), (2, vL p2)] [] := by
  obtain ⟨Z8, z8⟩ : ∃ Z : Int → Int → Mem → Prop, ∀ x2 x4 s, Z x2 x4 s ↔ WM κ (GA ad cA D) 5 Q s 8 [(0, .ref (ad 37)), (2, vL x2), (4, vI x4)] [] := ⟨fun x2 x4 s => WM κ (GA ad cA D) 5 Q s 8 [(0, .ref (ad 37)), (2, vL x2), (4, vI x4)] [], fun _ _ _ => Iff.rfl⟩
  refine (fun h => ?_) (h Z8 ?_)
  · refine r_bipush C dX5_append_0 (by decide) ?_
    refine r_iload_n C 1 dX5_append_2 rfl ?_
    refine r_iconst C dX5_append_3 ?_
    refine r_isub C dX5_append_4 ?_
    refine r_imul C dX5_append_5 ?_
    refine r_topI (fun v1 e_v1 => ?_)
    have h := h v1 e_v1
    refine r_istore (ls' := [(4, vI v1), (0, .ref (ad 37)), (1, vI p1), (2, vL p2)]) C dX5_append_6 (by decide) rfl ?_
    exact r_perm [1, 3, 0] rfl ((z8 _ _ _).1 h)
  · intro x2 x4 s h
    refine (z8 _ _ _).2 ?_
    refine r_iload C 2 dX5_append_8 rfl ?_
    refine r_if_lt (tgt := 57) C dX5_append_10 (by decide) ⟨h.1, fun c5 => ?_, fun c5 => ?_⟩
    · have h := h.2.1 c5
      exact r_return C dX5_append_57 h
    · have h := h.2.2 c5
      refine r_aload_n C 0 dX5_append_13 rfl ?_
      refine r_get (j := 0) (jz := 0) (v := vI (s 37 (0 : Int))) C dX5_append_14 (shA_37) rfl rfl (by decide) in_x5_append_X5 w_x5_append_28 rfl rfl rfl ?_
      refine r_sipush C dX5_append_17 (by decide) ?_
      refine r_icmp_ge (tgt := 57) C dX5_append_20 (by decide) ⟨h.1, fun c4 => ?_, fun c4 => ?_⟩
      · have h := h.2.1 c4
        exact r_return C dX5_append_57 h
      · have h := h.2.2 c4
        refine r_aload_n C 0 dX5_append_23 rfl ?_
        refine r_get (j := 7) (jz := 7) (v := .ref (ad 41)) C dX5_append_24 (shA_37) rfl rfl (by decide) in_x5_append_X5 w_x5_append_25 rfl rfl rfl ?_
        refine r_aload_n C 0 dX5_append_27 rfl ?_
        refine r_get (j := 0) (jz := 0) (v := vI (s 37 (0 : Int))) C dX5_append_28 (shA_37) rfl rfl (by decide) in_x5_append_X5 w_x5_append_28 rfl rfl rfl ?_
        refine r_lload_n C 1 dX5_append_31 rfl ?_
        refine r_iload C 2 dX5_append_32 rfl ?_
        refine r_lshr C dX5_append_34 ?_
        refine r_ldc2 (z := 255) C dX5_append_35 w_x5_append_31 rfl ?_
        refine r_land C dX5_append_38 ?_
        refine r_l2i C dX5_append_39 ?_
        refine r_iast (nz := 160) C dX5_append_40 (shA_41) rfl (by decide) ⟨h.1, fun s2 e_s2 => ?_⟩
        have h := h.2 s2 e_s2
        refine r_aload_n C 0 dX5_append_41 rfl ?_
        refine r_dup C dX5_append_42 rfl ?_
        refine r_get (j := 0) (jz := 0) (v := vI (s2 37 (0 : Int))) C dX5_append_43 (shA_37) rfl rfl (by decide) in_x5_append_X5 w_x5_append_28 rfl rfl rfl ?_
        refine r_iconst C dX5_append_46 ?_
        refine r_iadd C dX5_append_47 ?_
        refine r_puti (j := 0) (jz := 0) C dX5_append_48 (shA_37) rfl rfl (by decide) in_x5_append_X5 tyX5 tyX5_ok nmX5 w_x5_append_28 rfl rfl (by decide +kernel) rfl (fun s3 e_s3 => ?_)
        have h := h s3 e_s3
        refine r_iinc (j := 2) (ls' := [(4, vI (x4 + (-8 : Int))), (0, .ref (ad 37)), (2, vL x2)]) C dX5_append_51 rfl (by decide) rfl ?_
        refine r_goto (tgt := 8) C dX5_append_54 (by decide) ?_
        exact r_perm [1, 2, 0] rfl ((z8 _ _ _).1 h)
theorem x5_append_ct (l : Launch) (ad : Nat → Nat) (cA : Nat → ClassId) (D : va_G) (p1 : Int) (p2 : Int) (s : Mem) : MG l yX5_append wsX5_append x5_append_rm ocV [.ref (ad 37), vI p1, vL p2] (GA ad cA D) s (x5_append p1 p2 s) :=
  m_met (own := RX5) (nL := 5) (by decide) rfl rfl (Nat.le_of_ble_eq_true rfl) rfl rfl rfl (fun κ hl C Q Pst hW hQ => x5_append_bd C (x5_append_mono hW hQ))

def x5_spelling (p0 : Int) (s : Mem) (Q : Int → Mem → Prop) : Prop :=
  InI p0 ∧ ((p0 = 0) → Q ((1000 : Nat) : Int) s) ∧ ((p0 = 1) → Q ((1001 : Nat) : Int) s) ∧ ((p0 = 2) → Q ((1002 : Nat) : Int) s) ∧ ((p0 = 3) → Q ((1003 : Nat) : Int) s) ∧ ((p0 = 4) → Q ((1004 : Nat) : Int) s) ∧ ((p0 = 5) → Q ((1005 : Nat) : Int) s) ∧ ((p0 = 6) → Q ((1006 : Nat) : Int) s) ∧ ((p0 < 0 ∨ 6 < p0) → Q ((1007 : Nat) : Int) s)
theorem x5_spelling_mono {Q R : Int → Mem → Prop} {p0 : Int} {s : Mem} (h : x5_spelling p0 s Q) (hQ : ∀ r s, Q r s → R r s) : x5_spelling p0 s R :=
  ⟨h.1, fun c => have h := h.2.1 c; hQ _ _ h, fun c => have h := h.2.2.1 c; hQ _ _ h, fun c => have h := h.2.2.2.1 c; hQ _ _ h, fun c => have h := h.2.2.2.2.1 c; hQ _ _ h, fun c => have h := h.2.2.2.2.2.1 c; hQ _ _ h, fun c => have h := h.2.2.2.2.2.2.1 c; hQ _ _ h, fun c => have h := h.2.2.2.2.2.2.2.1 c; hQ _ _ h, fun c => have h := h.2.2.2.2.2.2.2.2 c; hQ _ _ h⟩
def x5_spelling_rm : Room := { frames := 0, cells := 0, slots := 0, locals := 0 }
set_option maxHeartbeats 4000000 in
set_option maxRecDepth 100000 in
theorem x5_spelling_bd {κ : KT} {ad : Nat → Nat} {cA : Nat → ClassId} {D : va_G} {Q : State → Prop} {p0 : Int} {s : Mem} (C : CX κ (GA ad cA D) RX5 cX5_spelling 1 wsX5_spelling x5_spelling_rm (some (.object "java/lang/String"))) (h : x5_spelling p0 s (RT κ (GA ad cA D) (ocR ad) Q)) : WM κ (GA ad cA D) 1 Q s 0 [(0, vI p0)] [] := by
  refine r_iload_n C 0 dX5_spelling_0 rfl ?_
  have hI := h.1
  by_cases c1 : p0 = 0
  · have h := h.2.1 c1
    refine r_tsIn (tgt := 44) C 0 dX5_spelling_1 rfl (by decide) c1 hI (by decide) ?_
    refine r_ldcS C 0 (by decide) dX5_spelling_44 ?_
    exact r_areturn C dX5_spelling_46 (Or.inl ⟨_, rfl⟩) (Int.toNat_natCast _) h
  by_cases c1 : p0 = 1
  · have h := h.2.2.1 c1
    refine r_tsIn (tgt := 47) C 1 dX5_spelling_1 rfl (by decide) c1 hI (by decide) ?_
    refine r_ldcS C 1 (by decide) dX5_spelling_47 ?_
    exact r_areturn C dX5_spelling_49 (Or.inl ⟨_, rfl⟩) (Int.toNat_natCast _) h
  by_cases c1 : p0 = 2
  · have h := h.2.2.2.1 c1
    refine r_tsIn (tgt := 50) C 2 dX5_spelling_1 rfl (by decide) c1 hI (by decide) ?_
    refine r_ldcS C 2 (by decide) dX5_spelling_50 ?_
    exact r_areturn C dX5_spelling_52 (Or.inl ⟨_, rfl⟩) (Int.toNat_natCast _) h
  by_cases c1 : p0 = 3
  · have h := h.2.2.2.2.1 c1
    refine r_tsIn (tgt := 53) C 3 dX5_spelling_1 rfl (by decide) c1 hI (by decide) ?_
    refine r_ldcS C 3 (by decide) dX5_spelling_53 ?_
    exact r_areturn C dX5_spelling_55 (Or.inl ⟨_, rfl⟩) (Int.toNat_natCast _) h
  by_cases c1 : p0 = 4
  · have h := h.2.2.2.2.2.1 c1
    refine r_tsIn (tgt := 56) C 4 dX5_spelling_1 rfl (by decide) c1 hI (by decide) ?_
    refine r_ldcS C 4 (by decide) dX5_spelling_56 ?_
    exact r_areturn C dX5_spelling_58 (Or.inl ⟨_, rfl⟩) (Int.toNat_natCast _) h
  by_cases c1 : p0 = 5
  · have h := h.2.2.2.2.2.2.1 c1
    refine r_tsIn (tgt := 59) C 5 dX5_spelling_1 rfl (by decide) c1 hI (by decide) ?_
    refine r_ldcS C 5 (by decide) dX5_spelling_59 ?_
    exact r_areturn C dX5_spelling_61 (Or.inl ⟨_, rfl⟩) (Int.toNat_natCast _) h
  by_cases c1 : p0 = 6
  · have h := h.2.2.2.2.2.2.2.1 c1
    refine r_tsIn (tgt := 62) C 6 dX5_spelling_1 rfl (by decide) c1 hI (by decide) ?_
    refine r_ldcS C 6 (by decide) dX5_spelling_62 ?_
    exact r_areturn C dX5_spelling_64 (Or.inl ⟨_, rfl⟩) (Int.toNat_natCast _) h
  have c1d : p0 < 0 ∨ 6 < p0 := by omega
  have h := h.2.2.2.2.2.2.2.2 c1d
  refine r_tsOut (tgt := 65) C dX5_spelling_1 c1d hI (by decide) ?_
  refine r_ldcS C 7 (by decide) dX5_spelling_65 ?_
  exact r_areturn C dX5_spelling_67 (Or.inl ⟨_, rfl⟩) (Int.toNat_natCast _) h
theorem x5_spelling_ct (l : Launch) (ad : Nat → Nat) (cA : Nat → ClassId) (D : va_G) (p0 : Int) (s : Mem) : MG l yX5_spelling wsX5_spelling x5_spelling_rm (ocR ad) [vI p0] (GA ad cA D) s (x5_spelling p0 s) :=
  m_met (own := RX5) (nL := 1) (by decide) rfl rfl (Nat.le_of_ble_eq_true rfl) rfl rfl rfl (fun κ hl C Q Pst hW hQ => x5_spelling_bd C (x5_spelling_mono hW hQ))

def x5_isSpelt_be (X17 : Nat → Int → Int → Mem → Prop) (Q : Int → Mem → Prop) (p1 : Nat) (p2 : Int) (s : Mem) : Prop :=
  (1000 ≤ p1 ∧ p1 < 1008) ∧ j0_length_8abf5 p1 s (fun r2 s1 => (InI r2 ∧ InI ((s1 37 (8 : Int)) - p2)) ∧ (r2 = ((s1 37 (8 : Int)) - p2) → X17 p1 p2 (0 : Int) s1) ∧ (¬ r2 = ((s1 37 (8 : Int)) - p2) → ((0 : Int) ≤ (0 : Int) ∧ (0 : Int) ≤ 1) ∧ Q (0 : Int) s1))
def x5_isSpelt_b17 (X17 : Nat → Int → Int → Mem → Prop) (Q : Int → Mem → Prop) (x1 : Nat) (x2 : Int) (x3 : Int) (s : Mem) : Prop :=
  (1000 ≤ x1 ∧ x1 < 1008) ∧ j0_length_8abf5 x1 s (fun r5 s4 => (InI x3 ∧ InI r5) ∧ (r5 ≤ x3 → ((0 : Int) ≤ (1 : Int) ∧ (1 : Int) ≤ 1) ∧ Q (1 : Int) s4) ∧ (x3 < r5 → (1000 ≤ x1 ∧ x1 < 1008) ∧ j0_charAt_5068e x1 x3 s4 (fun r7 s6 => ((0 : Int) ≤ (x2 + x3) ∧ (x2 + x3) < 160) ∧ (InI r7 ∧ InI (s6 41 (x2 + x3))) ∧ (r7 = (s6 41 (x2 + x3)) → X17 x1 x2 (x3 + (1 : Int)) s6) ∧ (¬ r7 = (s6 41 (x2 + x3)) → ((0 : Int) ≤ (0 : Int) ∧ (0 : Int) ≤ 1) ∧ Q (0 : Int) s6))))
theorem x5_isSpelt_me {X17 Y17 : Nat → Int → Int → Mem → Prop} {Q R : Int → Mem → Prop} (hX17 : ∀ x1 x2 x3 s, X17 x1 x2 x3 s → Y17 x1 x2 x3 s) (hQ : ∀ r s, Q r s → R r s) {p1 : Nat} {p2 : Int} {s : Mem} (h : x5_isSpelt_be X17 Q p1 p2 s) : x5_isSpelt_be Y17 R p1 p2 s :=
  ⟨h.1, have h := h.2; j0_length_8abf5_mono h (fun r2 s1 h => ⟨h.1, fun c => have h := h.2.1 c; hX17 _ _ _ _ h, fun c => have h := h.2.2 c; ⟨h.1, hQ _ _ h.2⟩⟩)⟩
theorem x5_isSpelt_m17 {X17 Y17 : Nat → Int → Int → Mem → Prop} {Q R : Int → Mem → Prop} (hX17 : ∀ x1 x2 x3 s, X17 x1 x2 x3 s → Y17 x1 x2 x3 s) (hQ : ∀ r s, Q r s → R r s) {x1 : Nat} {x2 : Int} {x3 : Int} {s : Mem} (h : x5_isSpelt_b17 X17 Q x1 x2 x3 s) : x5_isSpelt_b17 Y17 R x1 x2 x3 s :=
  ⟨h.1, have h := h.2; j0_length_8abf5_mono h (fun r5 s4 h => ⟨h.1, fun c => have h := h.2.1 c; ⟨h.1, hQ _ _ h.2⟩, fun c => have h := h.2.2 c; ⟨h.1, have h := h.2; j0_charAt_5068e_mono h (fun r7 s6 h => ⟨h.1, have h := h.2; ⟨h.1, fun c => have h := h.2.1 c; hX17 _ _ _ _ h, fun c => have h := h.2.2 c; ⟨h.1, hQ _ _ h.2⟩⟩⟩)⟩⟩)⟩
def x5_isSpelt (p1 : Nat) (p2 : Int) (s : Mem) (Q : Int → Mem → Prop) : Prop := ∀ (X17 : Nat → Int → Int → Mem → Prop), (∀ x1 x2 x3 s, x5_isSpelt_b17 X17 Q x1 x2 x3 s → X17 x1 x2 x3 s) → x5_isSpelt_be X17 Q p1 p2 s
def x5_isSpelt_L17 (Q : Int → Mem → Prop) (x1 : Nat) (x2 : Int) (x3 : Int) (s : Mem) : Prop := ∀ (X17 : Nat → Int → Int → Mem → Prop), (∀ x1 x2 x3 s, x5_isSpelt_b17 X17 Q x1 x2 x3 s → X17 x1 x2 x3 s) → X17 x1 x2 x3 s
theorem x5_isSpelt_i {Q : Int → Mem → Prop} {p1 : Nat} {p2 : Int} {s : Mem} (h : x5_isSpelt_be (x5_isSpelt_L17 Q) Q p1 p2 s) : x5_isSpelt p1 p2 s Q := fun X17 k17 => x5_isSpelt_me (fun _ _ _ _ h => h X17 k17) (fun _ _ h => h) h
theorem x5_isSpelt_s17 {Q : Int → Mem → Prop} {x1 : Nat} {x2 : Int} {x3 : Int} {s : Mem} (h : x5_isSpelt_b17 (x5_isSpelt_L17 Q) Q x1 x2 x3 s) : x5_isSpelt_L17 Q x1 x2 x3 s := fun X17 k17 => k17 _ _ _ _ (x5_isSpelt_m17 (fun _ _ _ _ h => h X17 k17) (fun _ _ h => h) h)
theorem x5_isSpelt_mono {Q R : Int → Mem → Prop} {p1 : Nat} {p2 : Int} {s : Mem} (h : x5_isSpelt p1 p2 s Q) (hQ : ∀ r s, Q r s → R r s) : x5_isSpelt p1 p2 s R := fun X17 k17 => x5_isSpelt_me (fun _ _ _ _ h => h) hQ (h X17 (fun _ _ _ _ h => k17 _ _ _ _ (x5_isSpelt_m17 (fun _ _ _ _ h => h) hQ h)))
def x5_isSpelt_rm : Room := { frames := 4, cells := 0, slots := 0, locals := 85 }
theorem w_x5_isSpelt_39 : Cond.fieldLink RX5 39 "BoltRing$Orders" "place" "I" ∈ wsX5_isSpelt := by decide +kernel
theorem w_x5_isSpelt_25 : Cond.fieldLink RX5 25 "BoltRing$Orders" "signs" "[I" ∈ wsX5_isSpelt := by decide +kernel
theorem in_x5_isSpelt_X5 : ∀ w ∈ wsX50, w ∈ wsX5_isSpelt := by decide +kernel
set_option maxHeartbeats 4000000 in
set_option maxRecDepth 100000 in
theorem x5_isSpelt_bd {κ : KT} {ad : Nat → Nat} {cA : Nat → ClassId} {D : va_G} {Q : State → Prop} {p1 : Nat} {p2 : Int} {s : Mem} (C : CX κ (GA ad cA D) RX5 cX5_isSpelt 4 wsX5_isSpelt x5_isSpelt_rm (some .boolean)) (h : x5_isSpelt p1 p2 s (RT κ (GA ad cA D) ocI Q)) : WM κ (GA ad cA D) 4 Q s 0 [(0, .ref (ad 37)), (1, .ref (ad p1)), (2, vI p2)] [] := by
  obtain ⟨Z17, z17⟩ : ∃ Z : Nat → Int → Int → Mem → Prop, ∀ x1 x2 x3 s, Z x1 x2 x3 s ↔ WM κ (GA ad cA D) 4 Q s 17 [(0, .ref (ad 37)), (1, .ref (ad x1)), (2, vI x2), (3, vI x3)] [] := ⟨fun x1 x2 x3 s => WM κ (GA ad cA D) 4 Q s 17 [(0, .ref (ad 37)), (1, .ref (ad x1)), (2, vI x2), (3, vI x3)] [], fun _ _ _ _ => Iff.rfl⟩
  refine (fun h => ?_) (h Z17 ?_)
  · refine r_aload_n C 1 dX5_isSpelt_0 rfl ?_
    refine r_callVS (As := []) (o := p1) (n := 0) C dX5_isSpelt_1 (j0_length_8abf5_ct κ.1.2.1 ad cA D p1 s) gX5_isSpelt_J0_length_8abf5 rfl ⟨rfl, rfl⟩ (by decide +kernel) (by decide) rfl rfl (Nat.le_of_ble_eq_true rfl) (fun _ => rfl) ⟨h.1, ?_⟩
    refine j0_length_8abf5_mono h.2 (fun r2 s1 h => ?_)
    refine r_aload_n C 0 dX5_isSpelt_4 rfl ?_
    refine r_get (j := 8) (jz := 8) (v := vI (s1 37 (8 : Int))) C dX5_isSpelt_5 (shA_37) rfl rfl (by decide) in_x5_isSpelt_X5 w_x5_isSpelt_39 rfl rfl rfl ?_
    refine r_iload_n C 2 dX5_isSpelt_8 rfl ?_
    refine r_isub C dX5_isSpelt_9 ?_
    refine r_icmp_eq (tgt := 15) C dX5_isSpelt_10 (by decide) ⟨h.1, fun c3 => ?_, fun c3 => ?_⟩
    · have h := h.2.1 c3
      refine r_iconst C dX5_isSpelt_15 ?_
      refine r_istore_n (ls' := [(3, vI (0 : Int)), (0, .ref (ad 37)), (1, .ref (ad p1)), (2, vI p2)]) C dX5_isSpelt_16 rfl (by decide) rfl ?_
      exact r_perm [1, 2, 3, 0] rfl ((z17 _ _ _ _).1 h)
    · have h := h.2.2 c3
      refine r_iconst C dX5_isSpelt_13 ?_
      exact r_zreturn C dX5_isSpelt_14 h
  · intro x1 x2 x3 s h
    refine (z17 _ _ _ _).2 ?_
    refine r_iload_n C 3 dX5_isSpelt_17 rfl ?_
    refine r_aload_n C 1 dX5_isSpelt_18 rfl ?_
    refine r_callVS (As := []) (o := x1) (n := 0) C dX5_isSpelt_19 (j0_length_8abf5_ct κ.1.2.1 ad cA D x1 s) gX5_isSpelt_J0_length_8abf5 rfl ⟨rfl, rfl⟩ (by decide +kernel) (by decide) rfl rfl (Nat.le_of_ble_eq_true rfl) (fun _ => rfl) ⟨h.1, ?_⟩
    refine j0_length_8abf5_mono h.2 (fun r5 s4 h => ?_)
    refine r_icmp_ge (tgt := 49) C dX5_isSpelt_22 (by decide) ⟨h.1, fun c9 => ?_, fun c9 => ?_⟩
    · have h := h.2.1 c9
      refine r_iconst C dX5_isSpelt_49 ?_
      exact r_zreturn C dX5_isSpelt_50 h
    · have h := h.2.2 c9
      refine r_aload_n C 1 dX5_isSpelt_25 rfl ?_
      refine r_iload_n C 3 dX5_isSpelt_26 rfl ?_
      refine r_callVS (As := [vI x3]) (o := x1) (n := 1) C dX5_isSpelt_27 (j0_charAt_5068e_ct κ.1.2.1 ad cA D x1 x3 s4) gX5_isSpelt_J0_charAt_5068e rfl ⟨rfl, rfl⟩ (by decide +kernel) (by decide) rfl rfl (Nat.le_of_ble_eq_true rfl) (fun _ => rfl) ⟨h.1, ?_⟩
      refine j0_charAt_5068e_mono h.2 (fun r7 s6 h => ?_)
      refine r_aload_n C 0 dX5_isSpelt_30 rfl ?_
      refine r_get (j := 7) (jz := 7) (v := .ref (ad 41)) C dX5_isSpelt_31 (shA_37) rfl rfl (by decide) in_x5_isSpelt_X5 w_x5_isSpelt_25 rfl rfl rfl ?_
      refine r_iload_n C 2 dX5_isSpelt_34 rfl ?_
      refine r_iload_n C 3 dX5_isSpelt_35 rfl ?_
      refine r_iadd C dX5_isSpelt_36 ?_
      refine r_iald (nz := 160) C dX5_isSpelt_37 (shA_41) rfl (by decide) ⟨h.1, ?_⟩
      have h := h.2
      refine r_icmp_eq (tgt := 43) C dX5_isSpelt_38 (by decide) ⟨h.1, fun c8 => ?_, fun c8 => ?_⟩
      · have h := h.2.1 c8
        refine r_iinc (j := 3) (ls' := [(3, vI (x3 + (1 : Int))), (0, .ref (ad 37)), (1, .ref (ad x1)), (2, vI x2)]) C dX5_isSpelt_43 rfl (by decide) rfl ?_
        refine r_goto (tgt := 17) C dX5_isSpelt_46 (by decide) ?_
        exact r_perm [1, 2, 3, 0] rfl ((z17 _ _ _ _).1 h)
      · have h := h.2.2 c8
        refine r_iconst C dX5_isSpelt_41 ?_
        exact r_zreturn C dX5_isSpelt_42 h
theorem x5_isSpelt_ct (l : Launch) (ad : Nat → Nat) (cA : Nat → ClassId) (D : va_G) (p1 : Nat) (p2 : Int) (s : Mem) : MG l yX5_isSpelt wsX5_isSpelt x5_isSpelt_rm ocI [.ref (ad 37), .ref (ad p1), vI p2] (GA ad cA D) s (x5_isSpelt p1 p2 s) :=
  m_met (own := RX5) (nL := 4) (by decide) rfl rfl (Nat.le_of_ble_eq_true rfl) rfl rfl rfl (fun κ hl C Q Pst hW hQ => x5_isSpelt_bd C (x5_isSpelt_mono hW hQ))

def x5_wordFrom_be (X2 : Int → Int → Mem → Prop) (Q : Int → Mem → Prop) (p1 : Int) (s : Mem) : Prop :=
  X2 p1 (0 : Int) s
def x5_wordFrom_b2 (X2 : Int → Int → Mem → Prop) (Q : Int → Mem → Prop) (x1 : Int) (x2 : Int) (s : Mem) : Prop :=
  (InI x2 ∧ InI (7 : Int)) ∧ ((7 : Int) < x2 → Q (11 : Int) s) ∧ (x2 ≤ (7 : Int) → x5_spelling x2 s (fun r2 s1 => x5_isSpelt (Int.toNat r2) x1 s1 (fun r4 s3 => InI r4 ∧ (r4 = (0 : Int) → X2 x1 (x2 + (1 : Int)) s3) ∧ (¬ r4 = (0 : Int) → Q x2 s3))))
theorem x5_wordFrom_me {X2 Y2 : Int → Int → Mem → Prop} {Q R : Int → Mem → Prop} (hX2 : ∀ x1 x2 s, X2 x1 x2 s → Y2 x1 x2 s) (hQ : ∀ r s, Q r s → R r s) {p1 : Int} {s : Mem} (h : x5_wordFrom_be X2 Q p1 s) : x5_wordFrom_be Y2 R p1 s :=
  hX2 _ _ _ h
theorem x5_wordFrom_m2 {X2 Y2 : Int → Int → Mem → Prop} {Q R : Int → Mem → Prop} (hX2 : ∀ x1 x2 s, X2 x1 x2 s → Y2 x1 x2 s) (hQ : ∀ r s, Q r s → R r s) {x1 : Int} {x2 : Int} {s : Mem} (h : x5_wordFrom_b2 X2 Q x1 x2 s) : x5_wordFrom_b2 Y2 R x1 x2 s :=
  ⟨h.1, fun c => have h := h.2.1 c; hQ _ _ h, fun c => have h := h.2.2 c; x5_spelling_mono h (fun r2 s1 h => x5_isSpelt_mono h (fun r4 s3 h => ⟨h.1, fun c => have h := h.2.1 c; hX2 _ _ _ h, fun c => have h := h.2.2 c; hQ _ _ h⟩))⟩
def x5_wordFrom (p1 : Int) (s : Mem) (Q : Int → Mem → Prop) : Prop := ∀ (X2 : Int → Int → Mem → Prop), (∀ x1 x2 s, x5_wordFrom_b2 X2 Q x1 x2 s → X2 x1 x2 s) → x5_wordFrom_be X2 Q p1 s
def x5_wordFrom_L2 (Q : Int → Mem → Prop) (x1 : Int) (x2 : Int) (s : Mem) : Prop := ∀ (X2 : Int → Int → Mem → Prop), (∀ x1 x2 s, x5_wordFrom_b2 X2 Q x1 x2 s → X2 x1 x2 s) → X2 x1 x2 s
theorem x5_wordFrom_i {Q : Int → Mem → Prop} {p1 : Int} {s : Mem} (h : x5_wordFrom_be (x5_wordFrom_L2 Q) Q p1 s) : x5_wordFrom p1 s Q := fun X2 k2 => x5_wordFrom_me (fun _ _ _ h => h X2 k2) (fun _ _ h => h) h
theorem x5_wordFrom_s2 {Q : Int → Mem → Prop} {x1 : Int} {x2 : Int} {s : Mem} (h : x5_wordFrom_b2 (x5_wordFrom_L2 Q) Q x1 x2 s) : x5_wordFrom_L2 Q x1 x2 s := fun X2 k2 => k2 _ _ _ (x5_wordFrom_m2 (fun _ _ _ h => h X2 k2) (fun _ _ h => h) h)
theorem x5_wordFrom_mono {Q R : Int → Mem → Prop} {p1 : Int} {s : Mem} (h : x5_wordFrom p1 s Q) (hQ : ∀ r s, Q r s → R r s) : x5_wordFrom p1 s R := fun X2 k2 => x5_wordFrom_me (fun _ _ _ h => h) hQ (h X2 (fun _ _ _ h => k2 _ _ _ (x5_wordFrom_m2 (fun _ _ _ h => h) hQ h)))
def x5_wordFrom_rm : Room := { frames := 5, cells := 0, slots := 0, locals := 108 }
set_option maxHeartbeats 4000000 in
set_option maxRecDepth 100000 in
theorem x5_wordFrom_bd {κ : KT} {ad : Nat → Nat} {cA : Nat → ClassId} {D : va_G} {Q : State → Prop} {p1 : Int} {s : Mem} (C : CX κ (GA ad cA D) RX5 cX5_wordFrom 3 wsX5_wordFrom x5_wordFrom_rm (some .int)) (h : x5_wordFrom p1 s (RT κ (GA ad cA D) ocI Q)) : WM κ (GA ad cA D) 3 Q s 0 [(0, .ref (ad 37)), (1, vI p1)] [] := by
  obtain ⟨Z2, z2⟩ : ∃ Z : Int → Int → Mem → Prop, ∀ x1 x2 s, Z x1 x2 s ↔ WM κ (GA ad cA D) 3 Q s 2 [(0, .ref (ad 37)), (1, vI x1), (2, vI x2)] [] := ⟨fun x1 x2 s => WM κ (GA ad cA D) 3 Q s 2 [(0, .ref (ad 37)), (1, vI x1), (2, vI x2)] [], fun _ _ _ => Iff.rfl⟩
  refine (fun h => ?_) (h Z2 ?_)
  · refine r_iconst C dX5_wordFrom_0 ?_
    refine r_istore_n (ls' := [(2, vI (0 : Int)), (0, .ref (ad 37)), (1, vI p1)]) C dX5_wordFrom_1 rfl (by decide) rfl ?_
    exact r_perm [1, 2, 0] rfl ((z2 _ _ _).1 h)
  · intro x1 x2 s h
    refine (z2 _ _ _).2 ?_
    refine r_iload_n C 2 dX5_wordFrom_2 rfl ?_
    refine r_bipush C dX5_wordFrom_3 (by decide) ?_
    refine r_icmp_gt (tgt := 28) C dX5_wordFrom_5 (by decide) ⟨h.1, fun c6 => ?_, fun c6 => ?_⟩
    · have h := h.2.1 c6
      refine r_bipush C dX5_wordFrom_28 (by decide) ?_
      exact r_ireturn C dX5_wordFrom_30 h
    · have h := h.2.2 c6
      refine r_aload_n C 0 dX5_wordFrom_8 rfl ?_
      refine r_iload_n C 2 dX5_wordFrom_9 rfl ?_
      refine r_callS (As := [vI x2]) (n := 1) C dX5_wordFrom_10 (x5_spelling_ct κ.1.2.1 ad cA D x2 s) gX5_wordFrom_X5_spelling rfl ⟨rfl, rfl⟩ (by decide +kernel) (by decide) rfl rfl (Nat.le_of_ble_eq_true rfl) (fun _ => rfl) ?_
      refine x5_spelling_mono h (fun r2 s1 h => ?_)
      refine r_iload_n C 1 dX5_wordFrom_13 rfl ?_
      refine r_callV (As := [.ref (ad (Int.toNat r2)), vI x1]) (o := 37) (n := 2) C dX5_wordFrom_14 (x5_isSpelt_ct κ.1.2.1 ad cA D (Int.toNat r2) x1 s1) gX5_wordFrom_X5_isSpelt rfl ⟨rfl, rfl⟩ (by decide +kernel) (by decide) (shA_37) rfl rfl rfl (Nat.le_of_ble_eq_true rfl) (fun _ => rfl) ?_
      refine x5_isSpelt_mono h (fun r4 s3 h => ?_)
      refine r_if_eq (tgt := 22) C dX5_wordFrom_17 (by decide) ⟨h.1, fun c5 => ?_, fun c5 => ?_⟩
      · have h := h.2.1 c5
        refine r_iinc (j := 2) (ls' := [(2, vI (x2 + (1 : Int))), (0, .ref (ad 37)), (1, vI x1)]) C dX5_wordFrom_22 rfl (by decide) rfl ?_
        refine r_goto (tgt := 2) C dX5_wordFrom_25 (by decide) ?_
        exact r_perm [1, 2, 0] rfl ((z2 _ _ _).1 h)
      · have h := h.2.2 c5
        refine r_iload_n C 2 dX5_wordFrom_20 rfl ?_
        exact r_ireturn C dX5_wordFrom_21 h
theorem x5_wordFrom_ct (l : Launch) (ad : Nat → Nat) (cA : Nat → ClassId) (D : va_G) (p1 : Int) (s : Mem) : MG l yX5_wordFrom wsX5_wordFrom x5_wordFrom_rm ocI [.ref (ad 37), vI p1] (GA ad cA D) s (x5_wordFrom p1 s) :=
  m_met (own := RX5) (nL := 3) (by decide) rfl rfl (Nat.le_of_ble_eq_true rfl) rfl rfl rfl (fun κ hl C Q Pst hW hQ => x5_wordFrom_bd C (x5_wordFrom_mono hW hQ))

def x5_goOverNumber_be (X5 : Mem → Prop) (Q : Int → Mem → Prop)  (s : Mem) : Prop :=
  ∀ s1 : Mem, s1 = m_upd s 37 (11 : Int) (0 : Int) → X5 s1
def x5_goOverNumber_b5 (X5 : Mem → Prop) (Q : Int → Mem → Prop)  (s : Mem) : Prop :=
  (InI (s 37 (8 : Int)) ∧ InI (s 37 (0 : Int))) ∧ ((s 37 (0 : Int)) ≤ (s 37 (8 : Int)) → Q (0 : Int) s) ∧ ((s 37 (8 : Int)) < (s 37 (0 : Int)) → ((0 : Int) ≤ (s 37 (8 : Int)) ∧ (s 37 (8 : Int)) < 160) ∧ x7_within (s 41 (s 37 (8 : Int))) (48 : Int) (57 : Int) s (fun r3 s2 => InI r3 ∧ (r3 = (0 : Int) → Q (0 : Int) s2) ∧ (¬ r3 = (0 : Int) → (InI ((s2 37 (8 : Int)) - (s2 37 (10 : Int))) ∧ InI (3 : Int)) ∧ ((3 : Int) ≤ ((s2 37 (8 : Int)) - (s2 37 (10 : Int))) → ∀ s4 : Mem, s4 = m_upd s2 37 (11 : Int) (1000 : Int) → ∀ s5 : Mem, s5 = m_upd s4 37 (8 : Int) ((s4 37 (8 : Int)) + (1 : Int)) → X5 s5) ∧ (((s2 37 (8 : Int)) - (s2 37 (10 : Int))) < (3 : Int) → ((0 : Int) ≤ (s2 37 (8 : Int)) ∧ (s2 37 (8 : Int)) < 160) ∧ ∀ s6 : Mem, s6 = m_upd s2 37 (11 : Int) ((((10 : Int) * (s2 37 (11 : Int))) + (s2 41 (s2 37 (8 : Int)))) - (48 : Int)) → ∀ s7 : Mem, s7 = m_upd s6 37 (8 : Int) ((s6 37 (8 : Int)) + (1 : Int)) → X5 s7))))
theorem x5_goOverNumber_me {X5 Y5 : Mem → Prop} {Q R : Int → Mem → Prop} (hX5 : ∀ s, X5 s → Y5 s) (hQ : ∀ r s, Q r s → R r s)  {s : Mem} (h : x5_goOverNumber_be X5 Q  s) : x5_goOverNumber_be Y5 R  s :=
  fun s1 e_s1 => have h := h s1 e_s1; hX5 _ h
theorem x5_goOverNumber_m5 {X5 Y5 : Mem → Prop} {Q R : Int → Mem → Prop} (hX5 : ∀ s, X5 s → Y5 s) (hQ : ∀ r s, Q r s → R r s)  {s : Mem} (h : x5_goOverNumber_b5 X5 Q  s) : x5_goOverNumber_b5 Y5 R  s :=
  ⟨h.1, fun c => have h := h.2.1 c; hQ _ _ h, fun c => have h := h.2.2 c; ⟨h.1, have h := h.2; x7_within_mono h (fun r3 s2 h => ⟨h.1, fun c => have h := h.2.1 c; hQ _ _ h, fun c => have h := h.2.2 c; ⟨h.1, fun c => have h := h.2.1 c; fun s4 e_s4 => have h := h s4 e_s4; fun s5 e_s5 => have h := h s5 e_s5; hX5 _ h, fun c => have h := h.2.2 c; ⟨h.1, have h := h.2; fun s6 e_s6 => have h := h s6 e_s6; fun s7 e_s7 => have h := h s7 e_s7; hX5 _ h⟩⟩⟩)⟩⟩
def x5_goOverNumber  (s : Mem) (Q : Int → Mem → Prop) : Prop := ∀ (X5 : Mem → Prop), (∀ s, x5_goOverNumber_b5 X5 Q s → X5 s) → x5_goOverNumber_be X5 Q  s
def x5_goOverNumber_L5 (Q : Int → Mem → Prop)  (s : Mem) : Prop := ∀ (X5 : Mem → Prop), (∀ s, x5_goOverNumber_b5 X5 Q s → X5 s) → X5  s
theorem x5_goOverNumber_i {Q : Int → Mem → Prop}  {s : Mem} (h : x5_goOverNumber_be (x5_goOverNumber_L5 Q) Q  s) : x5_goOverNumber  s Q := fun X5 k5 => x5_goOverNumber_me (fun _ h => h X5 k5) (fun _ _ h => h) h
theorem x5_goOverNumber_s5 {Q : Int → Mem → Prop}  {s : Mem} (h : x5_goOverNumber_b5 (x5_goOverNumber_L5 Q) Q  s) : x5_goOverNumber_L5 Q  s := fun X5 k5 => k5  _ (x5_goOverNumber_m5 (fun _ h => h X5 k5) (fun _ _ h => h) h)
theorem x5_goOverNumber_mono {Q R : Int → Mem → Prop}  {s : Mem} (h : x5_goOverNumber  s Q) (hQ : ∀ r s, Q r s → R r s) : x5_goOverNumber  s R := fun X5 k5 => x5_goOverNumber_me (fun _ h => h) hQ (h X5 (fun _ h => k5  _ (x5_goOverNumber_m5 (fun _ h => h) hQ h)))
def x5_goOverNumber_rm : Room := { frames := 1, cells := 0, slots := 0, locals := 22 }
theorem w_x5_goOverNumber_71 : Cond.fieldLink RX5 71 "BoltRing$Orders" "value" "I" ∈ wsX5_goOverNumber := by decide +kernel
theorem w_x5_goOverNumber_39 : Cond.fieldLink RX5 39 "BoltRing$Orders" "place" "I" ∈ wsX5_goOverNumber := by decide +kernel
theorem w_x5_goOverNumber_28 : Cond.fieldLink RX5 28 "BoltRing$Orders" "length" "I" ∈ wsX5_goOverNumber := by decide +kernel
theorem w_x5_goOverNumber_25 : Cond.fieldLink RX5 25 "BoltRing$Orders" "signs" "[I" ∈ wsX5_goOverNumber := by decide +kernel
theorem w_x5_goOverNumber_78 : Cond.fieldLink RX5 78 "BoltRing$Orders" "tokenAt" "I" ∈ wsX5_goOverNumber := by decide +kernel
theorem w_x5_goOverNumber_s74 : Cond.static yX7_within ∈ wsX5_goOverNumber := by decide +kernel
theorem w_x5_goOverNumber_iX7 : Cond.initialized RX7 ∈ wsX5_goOverNumber := by decide +kernel
theorem in_x5_goOverNumber_X5 : ∀ w ∈ wsX50, w ∈ wsX5_goOverNumber := by decide +kernel
set_option maxHeartbeats 4000000 in
set_option maxRecDepth 100000 in
theorem x5_goOverNumber_bd {κ : KT} {ad : Nat → Nat} {cA : Nat → ClassId} {D : va_G} {Q : State → Prop}  {s : Mem} (C : CX κ (GA ad cA D) RX5 cX5_goOverNumber 1 wsX5_goOverNumber x5_goOverNumber_rm none) (h : x5_goOverNumber  s (RT κ (GA ad cA D) ocV Q)) : WM κ (GA ad cA D) 1 Q s 0 [(0, .ref (ad 37))] [] := by
  obtain ⟨Z5, z5⟩ : ∃ Z : Mem → Prop, ∀ s, Z s ↔ WM κ (GA ad cA D) 1 Q s 5 [(0, .ref (ad 37))] [] := ⟨fun s => WM κ (GA ad cA D) 1 Q s 5 [(0, .ref (ad 37))] [], fun _ => Iff.rfl⟩
  refine (fun h => ?_) (h Z5 ?_)
  · refine r_aload_n C 0 dX5_goOverNumber_0 rfl ?_
    refine r_iconst C dX5_goOverNumber_1 ?_
    refine r_puti (j := 11) (jz := 11) C dX5_goOverNumber_2 (shA_37) rfl rfl (by decide) in_x5_goOverNumber_X5 tyX5 tyX5_ok nmX5 w_x5_goOverNumber_71 rfl rfl (by decide +kernel) rfl (fun s1 e_s1 => ?_)
    have h := h s1 e_s1
    exact r_perm [0] rfl ((z5 _).1 h)
  · intro s h
    refine (z5 _).2 ?_
    refine r_aload_n C 0 dX5_goOverNumber_5 rfl ?_
    refine r_get (j := 8) (jz := 8) (v := vI (s 37 (8 : Int))) C dX5_goOverNumber_6 (shA_37) rfl rfl (by decide) in_x5_goOverNumber_X5 w_x5_goOverNumber_39 rfl rfl rfl ?_
    refine r_aload_n C 0 dX5_goOverNumber_9 rfl ?_
    refine r_get (j := 0) (jz := 0) (v := vI (s 37 (0 : Int))) C dX5_goOverNumber_10 (shA_37) rfl rfl (by decide) in_x5_goOverNumber_X5 w_x5_goOverNumber_28 rfl rfl rfl ?_
    refine r_icmp_ge (tgt := 91) C dX5_goOverNumber_13 (by decide) ⟨h.1, fun c10 => ?_, fun c10 => ?_⟩
    · have h := h.2.1 c10
      exact r_return C dX5_goOverNumber_91 h
    · have h := h.2.2 c10
      refine r_aload_n C 0 dX5_goOverNumber_16 rfl ?_
      refine r_get (j := 7) (jz := 7) (v := .ref (ad 41)) C dX5_goOverNumber_17 (shA_37) rfl rfl (by decide) in_x5_goOverNumber_X5 w_x5_goOverNumber_25 rfl rfl rfl ?_
      refine r_aload_n C 0 dX5_goOverNumber_20 rfl ?_
      refine r_get (j := 8) (jz := 8) (v := vI (s 37 (8 : Int))) C dX5_goOverNumber_21 (shA_37) rfl rfl (by decide) in_x5_goOverNumber_X5 w_x5_goOverNumber_39 rfl rfl rfl ?_
      refine r_iald (nz := 160) C dX5_goOverNumber_24 (shA_41) rfl (by decide) ⟨h.1, ?_⟩
      have h := h.2
      refine r_bipush C dX5_goOverNumber_25 (by decide) ?_
      refine r_bipush C dX5_goOverNumber_27 (by decide) ?_
      refine r_callSN (As := [vI (s 41 (s 37 (8 : Int))), vI (48 : Int), vI (57 : Int)]) (n := 3) C dX5_goOverNumber_29 (x7_within_ct κ.1.2.1 ad cA D (s 41 (s 37 (8 : Int))) (48 : Int) (57 : Int) s) C.e.1.2.2.2.1 w_x5_goOverNumber_s74 w_x5_goOverNumber_iX7 gX5_goOverNumber_X7_within_n74 rfl ⟨rfl, rfl⟩ (by decide +kernel) (by decide) rfl rfl (Nat.le_of_ble_eq_true rfl) (fun _ => rfl) ?_
      refine x7_within_mono h (fun r3 s2 h => ?_)
      refine r_if_eq (tgt := 91) C dX5_goOverNumber_32 (by decide) ⟨h.1, fun c9 => ?_, fun c9 => ?_⟩
      · have h := h.2.1 c9
        exact r_return C dX5_goOverNumber_91 h
      · have h := h.2.2 c9
        refine r_aload_n C 0 dX5_goOverNumber_35 rfl ?_
        refine r_aload_n C 0 dX5_goOverNumber_36 rfl ?_
        refine r_get (j := 8) (jz := 8) (v := vI (s2 37 (8 : Int))) C dX5_goOverNumber_37 (shA_37) rfl rfl (by decide) in_x5_goOverNumber_X5 w_x5_goOverNumber_39 rfl rfl rfl ?_
        refine r_aload_n C 0 dX5_goOverNumber_40 rfl ?_
        refine r_get (j := 10) (jz := 10) (v := vI (s2 37 (10 : Int))) C dX5_goOverNumber_41 (shA_37) rfl rfl (by decide) in_x5_goOverNumber_X5 w_x5_goOverNumber_78 rfl rfl rfl ?_
        refine r_isub C dX5_goOverNumber_44 ?_
        refine r_iconst C dX5_goOverNumber_45 ?_
        refine r_icmp_ge (tgt := 72) C dX5_goOverNumber_46 (by decide) ⟨h.1, fun c8 => ?_, fun c8 => ?_⟩
        · have h := h.2.1 c8
          refine r_sipush C dX5_goOverNumber_72 (by decide) ?_
          refine r_puti (j := 11) (jz := 11) C dX5_goOverNumber_75 (shA_37) rfl rfl (by decide) in_x5_goOverNumber_X5 tyX5 tyX5_ok nmX5 w_x5_goOverNumber_71 rfl rfl (by decide +kernel) rfl (fun s4 e_s4 => ?_)
          have h := h s4 e_s4
          refine r_aload_n C 0 dX5_goOverNumber_78 rfl ?_
          refine r_dup C dX5_goOverNumber_79 rfl ?_
          refine r_get (j := 8) (jz := 8) (v := vI (s4 37 (8 : Int))) C dX5_goOverNumber_80 (shA_37) rfl rfl (by decide) in_x5_goOverNumber_X5 w_x5_goOverNumber_39 rfl rfl rfl ?_
          refine r_iconst C dX5_goOverNumber_83 ?_
          refine r_iadd C dX5_goOverNumber_84 ?_
          refine r_puti (j := 8) (jz := 8) C dX5_goOverNumber_85 (shA_37) rfl rfl (by decide) in_x5_goOverNumber_X5 tyX5 tyX5_ok nmX5 w_x5_goOverNumber_39 rfl rfl (by decide +kernel) rfl (fun s5 e_s5 => ?_)
          have h := h s5 e_s5
          refine r_goto (tgt := 5) C dX5_goOverNumber_88 (by decide) ?_
          exact r_perm [0] rfl ((z5 _).1 h)
        · have h := h.2.2 c8
          refine r_bipush C dX5_goOverNumber_49 (by decide) ?_
          refine r_aload_n C 0 dX5_goOverNumber_51 rfl ?_
          refine r_get (j := 11) (jz := 11) (v := vI (s2 37 (11 : Int))) C dX5_goOverNumber_52 (shA_37) rfl rfl (by decide) in_x5_goOverNumber_X5 w_x5_goOverNumber_71 rfl rfl rfl ?_
          refine r_imul C dX5_goOverNumber_55 ?_
          refine r_aload_n C 0 dX5_goOverNumber_56 rfl ?_
          refine r_get (j := 7) (jz := 7) (v := .ref (ad 41)) C dX5_goOverNumber_57 (shA_37) rfl rfl (by decide) in_x5_goOverNumber_X5 w_x5_goOverNumber_25 rfl rfl rfl ?_
          refine r_aload_n C 0 dX5_goOverNumber_60 rfl ?_
          refine r_get (j := 8) (jz := 8) (v := vI (s2 37 (8 : Int))) C dX5_goOverNumber_61 (shA_37) rfl rfl (by decide) in_x5_goOverNumber_X5 w_x5_goOverNumber_39 rfl rfl rfl ?_
          refine r_iald (nz := 160) C dX5_goOverNumber_64 (shA_41) rfl (by decide) ⟨h.1, ?_⟩
          have h := h.2
          refine r_iadd C dX5_goOverNumber_65 ?_
          refine r_bipush C dX5_goOverNumber_66 (by decide) ?_
          refine r_isub C dX5_goOverNumber_68 ?_
          refine r_goto (tgt := 75) C dX5_goOverNumber_69 (by decide) ?_
          refine r_puti (j := 11) (jz := 11) C dX5_goOverNumber_75 (shA_37) rfl rfl (by decide) in_x5_goOverNumber_X5 tyX5 tyX5_ok nmX5 w_x5_goOverNumber_71 rfl rfl (by decide +kernel) rfl (fun s6 e_s6 => ?_)
          have h := h s6 e_s6
          refine r_aload_n C 0 dX5_goOverNumber_78 rfl ?_
          refine r_dup C dX5_goOverNumber_79 rfl ?_
          refine r_get (j := 8) (jz := 8) (v := vI (s6 37 (8 : Int))) C dX5_goOverNumber_80 (shA_37) rfl rfl (by decide) in_x5_goOverNumber_X5 w_x5_goOverNumber_39 rfl rfl rfl ?_
          refine r_iconst C dX5_goOverNumber_83 ?_
          refine r_iadd C dX5_goOverNumber_84 ?_
          refine r_puti (j := 8) (jz := 8) C dX5_goOverNumber_85 (shA_37) rfl rfl (by decide) in_x5_goOverNumber_X5 tyX5 tyX5_ok nmX5 w_x5_goOverNumber_39 rfl rfl (by decide +kernel) rfl (fun s7 e_s7 => ?_)
          have h := h s7 e_s7
          refine r_goto (tgt := 5) C dX5_goOverNumber_88 (by decide) ?_
          exact r_perm [0] rfl ((z5 _).1 h)
theorem x5_goOverNumber_ct (l : Launch) (ad : Nat → Nat) (cA : Nat → ClassId) (D : va_G)  (s : Mem) : MG l yX5_goOverNumber wsX5_goOverNumber x5_goOverNumber_rm ocV [.ref (ad 37)] (GA ad cA D) s (x5_goOverNumber  s) :=
  m_met (own := RX5) (nL := 1) (by decide) rfl rfl (Nat.le_of_ble_eq_true rfl) rfl rfl rfl (fun κ hl C Q Pst hW hQ => x5_goOverNumber_bd C (x5_goOverNumber_mono hW hQ))

def x5_goOn_be (X0 : Mem → Prop) (X38 : Mem → Prop) (X85 : Mem → Prop) (X128 : Mem → Prop) (Q : Int → Mem → Prop)  (s : Mem) : Prop :=
  (InI (s 37 (8 : Int)) ∧ InI (s 37 (0 : Int))) ∧ ((s 37 (0 : Int)) ≤ (s 37 (8 : Int)) → X38 s) ∧ ((s 37 (8 : Int)) < (s 37 (0 : Int)) → ((0 : Int) ≤ (s 37 (8 : Int)) ∧ (s 37 (8 : Int)) < 160) ∧ (InI (s 41 (s 37 (8 : Int))) ∧ InI (32 : Int)) ∧ (¬ (s 41 (s 37 (8 : Int))) = (32 : Int) → X38 s) ∧ ((s 41 (s 37 (8 : Int))) = (32 : Int) → ∀ s1 : Mem, s1 = m_upd s 37 (8 : Int) ((s 37 (8 : Int)) + (1 : Int)) → X0 s1))
def x5_goOn_b0 (X0 : Mem → Prop) (X38 : Mem → Prop) (X85 : Mem → Prop) (X128 : Mem → Prop) (Q : Int → Mem → Prop)  (s : Mem) : Prop :=
  (InI (s 37 (8 : Int)) ∧ InI (s 37 (0 : Int))) ∧ ((s 37 (0 : Int)) ≤ (s 37 (8 : Int)) → X38 s) ∧ ((s 37 (8 : Int)) < (s 37 (0 : Int)) → ((0 : Int) ≤ (s 37 (8 : Int)) ∧ (s 37 (8 : Int)) < 160) ∧ (InI (s 41 (s 37 (8 : Int))) ∧ InI (32 : Int)) ∧ (¬ (s 41 (s 37 (8 : Int))) = (32 : Int) → X38 s) ∧ ((s 41 (s 37 (8 : Int))) = (32 : Int) → ∀ s1 : Mem, s1 = m_upd s 37 (8 : Int) ((s 37 (8 : Int)) + (1 : Int)) → X0 s1))
def x5_goOn_b38 (X0 : Mem → Prop) (X38 : Mem → Prop) (X85 : Mem → Prop) (X128 : Mem → Prop) (Q : Int → Mem → Prop)  (s : Mem) : Prop :=
  ∀ s4 : Mem, s4 = m_upd s 37 (10 : Int) (s 37 (8 : Int)) → (InI (s4 37 (8 : Int)) ∧ InI (s4 37 (0 : Int))) ∧ ((s4 37 (8 : Int)) < (s4 37 (0 : Int)) → ((0 : Int) ≤ (s4 37 (8 : Int)) ∧ (s4 37 (8 : Int)) < 160) ∧ x7_within (s4 41 (s4 37 (8 : Int))) (97 : Int) (122 : Int) s4 (fun r6 s5 => InI r6 ∧ (r6 = (0 : Int) → ((0 : Int) ≤ (s5 37 (8 : Int)) ∧ (s5 37 (8 : Int)) < 160) ∧ x7_within (s5 41 (s5 37 (8 : Int))) (48 : Int) (57 : Int) s5 (fun r8 s7 => InI r8 ∧ (r8 = (0 : Int) → ((0 : Int) ≤ (s7 37 (8 : Int)) ∧ (s7 37 (8 : Int)) < 160) ∧ (InI (s7 41 (s7 37 (8 : Int))) ∧ InI (59 : Int)) ∧ (¬ (s7 41 (s7 37 (8 : Int))) = (59 : Int) → ∀ s9 : Mem, s9 = m_upd s7 37 (9 : Int) (11 : Int) → ∀ s10 : Mem, s10 = m_upd s9 37 (8 : Int) ((s9 37 (8 : Int)) + (1 : Int)) → Q (0 : Int) s10) ∧ ((s7 41 (s7 37 (8 : Int))) = (59 : Int) → ∀ s11 : Mem, s11 = m_upd s7 37 (9 : Int) (9 : Int) → ∀ s12 : Mem, s12 = m_upd s11 37 (8 : Int) ((s11 37 (8 : Int)) + (1 : Int)) → Q (0 : Int) s12)) ∧ (¬ r8 = (0 : Int) → ∀ s14 : Mem, s14 = m_upd s7 37 (9 : Int) (8 : Int) → x5_goOverNumber s14 (fun _ s15 => Q (0 : Int) s15)))) ∧ (¬ r6 = (0 : Int) → X85 s5))) ∧ ((s4 37 (0 : Int)) ≤ (s4 37 (8 : Int)) → ∀ s18 : Mem, s18 = m_upd s4 37 (9 : Int) (10 : Int) → Q (0 : Int) s18)
def x5_goOn_b85 (X0 : Mem → Prop) (X38 : Mem → Prop) (X85 : Mem → Prop) (X128 : Mem → Prop) (Q : Int → Mem → Prop)  (s : Mem) : Prop :=
  (InI (s 37 (8 : Int)) ∧ InI (s 37 (0 : Int))) ∧ ((s 37 (0 : Int)) ≤ (s 37 (8 : Int)) → X128 s) ∧ ((s 37 (8 : Int)) < (s 37 (0 : Int)) → ((0 : Int) ≤ (s 37 (8 : Int)) ∧ (s 37 (8 : Int)) < 160) ∧ x7_within (s 41 (s 37 (8 : Int))) (97 : Int) (122 : Int) s (fun r21 s20 => InI r21 ∧ (r21 = (0 : Int) → X128 s20) ∧ (¬ r21 = (0 : Int) → ∀ s22 : Mem, s22 = m_upd s20 37 (8 : Int) ((s20 37 (8 : Int)) + (1 : Int)) → X85 s22)))
def x5_goOn_b128 (X0 : Mem → Prop) (X38 : Mem → Prop) (X85 : Mem → Prop) (X128 : Mem → Prop) (Q : Int → Mem → Prop)  (s : Mem) : Prop :=
  x5_wordFrom (s 37 (10 : Int)) s (fun r26 s25 => ∀ s27 : Mem, s27 = m_upd s25 37 (9 : Int) r26 → Q (0 : Int) s27)
theorem x5_goOn_me {X0 Y0 : Mem → Prop} {X38 Y38 : Mem → Prop} {X85 Y85 : Mem → Prop} {X128 Y128 : Mem → Prop} {Q R : Int → Mem → Prop} (hX0 : ∀ s, X0 s → Y0 s) (hX38 : ∀ s, X38 s → Y38 s) (hX85 : ∀ s, X85 s → Y85 s) (hX128 : ∀ s, X128 s → Y128 s) (hQ : ∀ r s, Q r s → R r s)  {s : Mem} (h : x5_goOn_be X0 X38 X85 X128 Q  s) : x5_goOn_be Y0 Y38 Y85 Y128 R  s :=
  ⟨h.1, fun c => have h := h.2.1 c; hX38 _ h, fun c => have h := h.2.2 c; ⟨h.1, have h := h.2; ⟨h.1, fun c => have h := h.2.1 c; hX38 _ h, fun c => have h := h.2.2 c; fun s1 e_s1 => have h := h s1 e_s1; hX0 _ h⟩⟩⟩
theorem x5_goOn_m0 {X0 Y0 : Mem → Prop} {X38 Y38 : Mem → Prop} {X85 Y85 : Mem → Prop} {X128 Y128 : Mem → Prop} {Q R : Int → Mem → Prop} (hX0 : ∀ s, X0 s → Y0 s) (hX38 : ∀ s, X38 s → Y38 s) (hX85 : ∀ s, X85 s → Y85 s) (hX128 : ∀ s, X128 s → Y128 s) (hQ : ∀ r s, Q r s → R r s)  {s : Mem} (h : x5_goOn_b0 X0 X38 X85 X128 Q  s) : x5_goOn_b0 Y0 Y38 Y85 Y128 R  s :=
  ⟨h.1, fun c => have h := h.2.1 c; hX38 _ h, fun c => have h := h.2.2 c; ⟨h.1, have h := h.2; ⟨h.1, fun c => have h := h.2.1 c; hX38 _ h, fun c => have h := h.2.2 c; fun s1 e_s1 => have h := h s1 e_s1; hX0 _ h⟩⟩⟩
theorem x5_goOn_m38 {X0 Y0 : Mem → Prop} {X38 Y38 : Mem → Prop} {X85 Y85 : Mem → Prop} {X128 Y128 : Mem → Prop} {Q R : Int → Mem → Prop} (hX0 : ∀ s, X0 s → Y0 s) (hX38 : ∀ s, X38 s → Y38 s) (hX85 : ∀ s, X85 s → Y85 s) (hX128 : ∀ s, X128 s → Y128 s) (hQ : ∀ r s, Q r s → R r s)  {s : Mem} (h : x5_goOn_b38 X0 X38 X85 X128 Q  s) : x5_goOn_b38 Y0 Y38 Y85 Y128 R  s :=
  fun s4 e_s4 => have h := h s4 e_s4; ⟨h.1, fun c => have h := h.2.1 c; ⟨h.1, have h := h.2; x7_within_mono h (fun r6 s5 h => ⟨h.1, fun c => have h := h.2.1 c; ⟨h.1, have h := h.2; x7_within_mono h (fun r8 s7 h => ⟨h.1, fun c => have h := h.2.1 c; ⟨h.1, have h := h.2; ⟨h.1, fun c => have h := h.2.1 c; fun s9 e_s9 => have h := h s9 e_s9; fun s10 e_s10 => have h := h s10 e_s10; hQ _ _ h, fun c => have h := h.2.2 c; fun s11 e_s11 => have h := h s11 e_s11; fun s12 e_s12 => have h := h s12 e_s12; hQ _ _ h⟩⟩, fun c => have h := h.2.2 c; fun s14 e_s14 => have h := h s14 e_s14; x5_goOverNumber_mono h (fun _ s15 h => hQ _ _ h)⟩)⟩, fun c => have h := h.2.2 c; hX85 _ h⟩)⟩, fun c => have h := h.2.2 c; fun s18 e_s18 => have h := h s18 e_s18; hQ _ _ h⟩
theorem x5_goOn_m85 {X0 Y0 : Mem → Prop} {X38 Y38 : Mem → Prop} {X85 Y85 : Mem → Prop} {X128 Y128 : Mem → Prop} {Q R : Int → Mem → Prop} (hX0 : ∀ s, X0 s → Y0 s) (hX38 : ∀ s, X38 s → Y38 s) (hX85 : ∀ s, X85 s → Y85 s) (hX128 : ∀ s, X128 s → Y128 s) (hQ : ∀ r s, Q r s → R r s)  {s : Mem} (h : x5_goOn_b85 X0 X38 X85 X128 Q  s) : x5_goOn_b85 Y0 Y38 Y85 Y128 R  s :=
  ⟨h.1, fun c => have h := h.2.1 c; hX128 _ h, fun c => have h := h.2.2 c; ⟨h.1, have h := h.2; x7_within_mono h (fun r21 s20 h => ⟨h.1, fun c => have h := h.2.1 c; hX128 _ h, fun c => have h := h.2.2 c; fun s22 e_s22 => have h := h s22 e_s22; hX85 _ h⟩)⟩⟩
theorem x5_goOn_m128 {X0 Y0 : Mem → Prop} {X38 Y38 : Mem → Prop} {X85 Y85 : Mem → Prop} {X128 Y128 : Mem → Prop} {Q R : Int → Mem → Prop} (hX0 : ∀ s, X0 s → Y0 s) (hX38 : ∀ s, X38 s → Y38 s) (hX85 : ∀ s, X85 s → Y85 s) (hX128 : ∀ s, X128 s → Y128 s) (hQ : ∀ r s, Q r s → R r s)  {s : Mem} (h : x5_goOn_b128 X0 X38 X85 X128 Q  s) : x5_goOn_b128 Y0 Y38 Y85 Y128 R  s :=
  x5_wordFrom_mono h (fun r26 s25 h => fun s27 e_s27 => have h := h s27 e_s27; hQ _ _ h)
def x5_goOn  (s : Mem) (Q : Int → Mem → Prop) : Prop := ∀ (X0 : Mem → Prop) (X38 : Mem → Prop) (X85 : Mem → Prop) (X128 : Mem → Prop), (∀ s, x5_goOn_b0 X0 X38 X85 X128 Q s → X0 s) → (∀ s, x5_goOn_b38 X0 X38 X85 X128 Q s → X38 s) → (∀ s, x5_goOn_b85 X0 X38 X85 X128 Q s → X85 s) → (∀ s, x5_goOn_b128 X0 X38 X85 X128 Q s → X128 s) → x5_goOn_be X0 X38 X85 X128 Q  s
def x5_goOn_L0 (Q : Int → Mem → Prop)  (s : Mem) : Prop := ∀ (X0 : Mem → Prop) (X38 : Mem → Prop) (X85 : Mem → Prop) (X128 : Mem → Prop), (∀ s, x5_goOn_b0 X0 X38 X85 X128 Q s → X0 s) → (∀ s, x5_goOn_b38 X0 X38 X85 X128 Q s → X38 s) → (∀ s, x5_goOn_b85 X0 X38 X85 X128 Q s → X85 s) → (∀ s, x5_goOn_b128 X0 X38 X85 X128 Q s → X128 s) → X0  s
def x5_goOn_L38 (Q : Int → Mem → Prop)  (s : Mem) : Prop := ∀ (X0 : Mem → Prop) (X38 : Mem → Prop) (X85 : Mem → Prop) (X128 : Mem → Prop), (∀ s, x5_goOn_b0 X0 X38 X85 X128 Q s → X0 s) → (∀ s, x5_goOn_b38 X0 X38 X85 X128 Q s → X38 s) → (∀ s, x5_goOn_b85 X0 X38 X85 X128 Q s → X85 s) → (∀ s, x5_goOn_b128 X0 X38 X85 X128 Q s → X128 s) → X38  s
def x5_goOn_L85 (Q : Int → Mem → Prop)  (s : Mem) : Prop := ∀ (X0 : Mem → Prop) (X38 : Mem → Prop) (X85 : Mem → Prop) (X128 : Mem → Prop), (∀ s, x5_goOn_b0 X0 X38 X85 X128 Q s → X0 s) → (∀ s, x5_goOn_b38 X0 X38 X85 X128 Q s → X38 s) → (∀ s, x5_goOn_b85 X0 X38 X85 X128 Q s → X85 s) → (∀ s, x5_goOn_b128 X0 X38 X85 X128 Q s → X128 s) → X85  s
def x5_goOn_L128 (Q : Int → Mem → Prop)  (s : Mem) : Prop := ∀ (X0 : Mem → Prop) (X38 : Mem → Prop) (X85 : Mem → Prop) (X128 : Mem → Prop), (∀ s, x5_goOn_b0 X0 X38 X85 X128 Q s → X0 s) → (∀ s, x5_goOn_b38 X0 X38 X85 X128 Q s → X38 s) → (∀ s, x5_goOn_b85 X0 X38 X85 X128 Q s → X85 s) → (∀ s, x5_goOn_b128 X0 X38 X85 X128 Q s → X128 s) → X128  s
theorem x5_goOn_i {Q : Int → Mem → Prop}  {s : Mem} (h : x5_goOn_be (x5_goOn_L0 Q) (x5_goOn_L38 Q) (x5_goOn_L85 Q) (x5_goOn_L128 Q) Q  s) : x5_goOn  s Q := fun X0 X38 X85 X128 k0 k38 k85 k128 => x5_goOn_me (fun _ h => h X0 X38 X85 X128 k0 k38 k85 k128) (fun _ h => h X0 X38 X85 X128 k0 k38 k85 k128) (fun _ h => h X0 X38 X85 X128 k0 k38 k85 k128) (fun _ h => h X0 X38 X85 X128 k0 k38 k85 k128) (fun _ _ h => h) h
theorem x5_goOn_s0 {Q : Int → Mem → Prop}  {s : Mem} (h : x5_goOn_b0 (x5_goOn_L0 Q) (x5_goOn_L38 Q) (x5_goOn_L85 Q) (x5_goOn_L128 Q) Q  s) : x5_goOn_L0 Q  s := fun X0 X38 X85 X128 k0 k38 k85 k128 => k0  _ (x5_goOn_m0 (fun _ h => h X0 X38 X85 X128 k0 k38 k85 k128) (fun _ h => h X0 X38 X85 X128 k0 k38 k85 k128) (fun _ h => h X0 X38 X85 X128 k0 k38 k85 k128) (fun _ h => h X0 X38 X85 X128 k0 k38 k85 k128) (fun _ _ h => h) h)
theorem x5_goOn_s38 {Q : Int → Mem → Prop}  {s : Mem} (h : x5_goOn_b38 (x5_goOn_L0 Q) (x5_goOn_L38 Q) (x5_goOn_L85 Q) (x5_goOn_L128 Q) Q  s) : x5_goOn_L38 Q  s := fun X0 X38 X85 X128 k0 k38 k85 k128 => k38  _ (x5_goOn_m38 (fun _ h => h X0 X38 X85 X128 k0 k38 k85 k128) (fun _ h => h X0 X38 X85 X128 k0 k38 k85 k128) (fun _ h => h X0 X38 X85 X128 k0 k38 k85 k128) (fun _ h => h X0 X38 X85 X128 k0 k38 k85 k128) (fun _ _ h => h) h)
theorem x5_goOn_s85 {Q : Int → Mem → Prop}  {s : Mem} (h : x5_goOn_b85 (x5_goOn_L0 Q) (x5_goOn_L38 Q) (x5_goOn_L85 Q) (x5_goOn_L128 Q) Q  s) : x5_goOn_L85 Q  s := fun X0 X38 X85 X128 k0 k38 k85 k128 => k85  _ (x5_goOn_m85 (fun _ h => h X0 X38 X85 X128 k0 k38 k85 k128) (fun _ h => h X0 X38 X85 X128 k0 k38 k85 k128) (fun _ h => h X0 X38 X85 X128 k0 k38 k85 k128) (fun _ h => h X0 X38 X85 X128 k0 k38 k85 k128) (fun _ _ h => h) h)
theorem x5_goOn_s128 {Q : Int → Mem → Prop}  {s : Mem} (h : x5_goOn_b128 (x5_goOn_L0 Q) (x5_goOn_L38 Q) (x5_goOn_L85 Q) (x5_goOn_L128 Q) Q  s) : x5_goOn_L128 Q  s := fun X0 X38 X85 X128 k0 k38 k85 k128 => k128  _ (x5_goOn_m128 (fun _ h => h X0 X38 X85 X128 k0 k38 k85 k128) (fun _ h => h X0 X38 X85 X128 k0 k38 k85 k128) (fun _ h => h X0 X38 X85 X128 k0 k38 k85 k128) (fun _ h => h X0 X38 X85 X128 k0 k38 k85 k128) (fun _ _ h => h) h)
theorem x5_goOn_mono {Q R : Int → Mem → Prop}  {s : Mem} (h : x5_goOn  s Q) (hQ : ∀ r s, Q r s → R r s) : x5_goOn  s R := fun X0 X38 X85 X128 k0 k38 k85 k128 => x5_goOn_me (fun _ h => h) (fun _ h => h) (fun _ h => h) (fun _ h => h) hQ (h X0 X38 X85 X128 (fun _ h => k0  _ (x5_goOn_m0 (fun _ h => h) (fun _ h => h) (fun _ h => h) (fun _ h => h) hQ h)) (fun _ h => k38  _ (x5_goOn_m38 (fun _ h => h) (fun _ h => h) (fun _ h => h) (fun _ h => h) hQ h)) (fun _ h => k85  _ (x5_goOn_m85 (fun _ h => h) (fun _ h => h) (fun _ h => h) (fun _ h => h) hQ h)) (fun _ h => k128  _ (x5_goOn_m128 (fun _ h => h) (fun _ h => h) (fun _ h => h) (fun _ h => h) hQ h)))
def x5_goOn_rm : Room := { frames := 6, cells := 0, slots := 0, locals := 130 }
theorem w_x5_goOn_39 : Cond.fieldLink RX5 39 "BoltRing$Orders" "place" "I" ∈ wsX5_goOn := by decide +kernel
theorem w_x5_goOn_28 : Cond.fieldLink RX5 28 "BoltRing$Orders" "length" "I" ∈ wsX5_goOn := by decide +kernel
theorem w_x5_goOn_25 : Cond.fieldLink RX5 25 "BoltRing$Orders" "signs" "[I" ∈ wsX5_goOn := by decide +kernel
theorem w_x5_goOn_78 : Cond.fieldLink RX5 78 "BoltRing$Orders" "tokenAt" "I" ∈ wsX5_goOn := by decide +kernel
theorem w_x5_goOn_45 : Cond.fieldLink RX5 45 "BoltRing$Orders" "token" "I" ∈ wsX5_goOn := by decide +kernel
theorem w_x5_goOn_s74 : Cond.static yX7_within ∈ wsX5_goOn := by decide +kernel
theorem w_x5_goOn_iX7 : Cond.initialized RX7 ∈ wsX5_goOn := by decide +kernel
theorem in_x5_goOn_X5 : ∀ w ∈ wsX50, w ∈ wsX5_goOn := by decide +kernel
set_option maxHeartbeats 4000000 in
set_option maxRecDepth 100000 in
theorem x5_goOn_bd {κ : KT} {ad : Nat → Nat} {cA : Nat → ClassId} {D : va_G} {Q : State → Prop}  {s : Mem} (C : CX κ (GA ad cA D) RX5 cX5_goOn 1 wsX5_goOn x5_goOn_rm none) (h : x5_goOn  s (RT κ (GA ad cA D) ocV Q)) : WM κ (GA ad cA D) 1 Q s 0 [(0, .ref (ad 37))] [] := by
  obtain ⟨Z0, z0⟩ : ∃ Z : Mem → Prop, ∀ s, Z s ↔ WM κ (GA ad cA D) 1 Q s 0 [(0, .ref (ad 37))] [] := ⟨fun s => WM κ (GA ad cA D) 1 Q s 0 [(0, .ref (ad 37))] [], fun _ => Iff.rfl⟩
  obtain ⟨Z38, z38⟩ : ∃ Z : Mem → Prop, ∀ s, Z s ↔ WM κ (GA ad cA D) 1 Q s 38 [(0, .ref (ad 37))] [] := ⟨fun s => WM κ (GA ad cA D) 1 Q s 38 [(0, .ref (ad 37))] [], fun _ => Iff.rfl⟩
  obtain ⟨Z85, z85⟩ : ∃ Z : Mem → Prop, ∀ s, Z s ↔ WM κ (GA ad cA D) 1 Q s 85 [(0, .ref (ad 37))] [] := ⟨fun s => WM κ (GA ad cA D) 1 Q s 85 [(0, .ref (ad 37))] [], fun _ => Iff.rfl⟩
  obtain ⟨Z128, z128⟩ : ∃ Z : Mem → Prop, ∀ s, Z s ↔ WM κ (GA ad cA D) 1 Q s 128 [(0, .ref (ad 37))] [] := ⟨fun s => WM κ (GA ad cA D) 1 Q s 128 [(0, .ref (ad 37))] [], fun _ => Iff.rfl⟩
  refine (fun h => ?_) (h Z0 Z38 Z85 Z128 ?_ ?_ ?_ ?_)
  · refine r_aload_n C 0 dX5_goOn_0 rfl ?_
    refine r_get (j := 8) (jz := 8) (v := vI (s 37 (8 : Int))) C dX5_goOn_1 (shA_37) rfl rfl (by decide) in_x5_goOn_X5 w_x5_goOn_39 rfl rfl rfl ?_
    refine r_aload_n C 0 dX5_goOn_4 rfl ?_
    refine r_get (j := 0) (jz := 0) (v := vI (s 37 (0 : Int))) C dX5_goOn_5 (shA_37) rfl rfl (by decide) in_x5_goOn_X5 w_x5_goOn_28 rfl rfl rfl ?_
    refine r_icmp_ge (tgt := 38) C dX5_goOn_8 (by decide) ⟨h.1, fun c3 => ?_, fun c3 => ?_⟩
    · have h := h.2.1 c3
      exact r_perm [0] rfl ((z38 _).1 h)
    · have h := h.2.2 c3
      refine r_aload_n C 0 dX5_goOn_11 rfl ?_
      refine r_get (j := 7) (jz := 7) (v := .ref (ad 41)) C dX5_goOn_12 (shA_37) rfl rfl (by decide) in_x5_goOn_X5 w_x5_goOn_25 rfl rfl rfl ?_
      refine r_aload_n C 0 dX5_goOn_15 rfl ?_
      refine r_get (j := 8) (jz := 8) (v := vI (s 37 (8 : Int))) C dX5_goOn_16 (shA_37) rfl rfl (by decide) in_x5_goOn_X5 w_x5_goOn_39 rfl rfl rfl ?_
      refine r_iald (nz := 160) C dX5_goOn_19 (shA_41) rfl (by decide) ⟨h.1, ?_⟩
      have h := h.2
      refine r_bipush C dX5_goOn_20 (by decide) ?_
      refine r_icmp_ne (tgt := 38) C dX5_goOn_22 (by decide) ⟨h.1, fun c2 => ?_, fun c2 => ?_⟩
      · have h := h.2.1 c2
        exact r_perm [0] rfl ((z38 _).1 h)
      · have h := h.2.2 c2
        refine r_aload_n C 0 dX5_goOn_25 rfl ?_
        refine r_dup C dX5_goOn_26 rfl ?_
        refine r_get (j := 8) (jz := 8) (v := vI (s 37 (8 : Int))) C dX5_goOn_27 (shA_37) rfl rfl (by decide) in_x5_goOn_X5 w_x5_goOn_39 rfl rfl rfl ?_
        refine r_iconst C dX5_goOn_30 ?_
        refine r_iadd C dX5_goOn_31 ?_
        refine r_puti (j := 8) (jz := 8) C dX5_goOn_32 (shA_37) rfl rfl (by decide) in_x5_goOn_X5 tyX5 tyX5_ok nmX5 w_x5_goOn_39 rfl rfl (by decide +kernel) rfl (fun s1 e_s1 => ?_)
        have h := h s1 e_s1
        refine r_goto (tgt := 0) C dX5_goOn_35 (by decide) ?_
        exact r_perm [0] rfl ((z0 _).1 h)
  · intro s h
    refine (z0 _).2 ?_
    refine r_aload_n C 0 dX5_goOn_0 rfl ?_
    refine r_get (j := 8) (jz := 8) (v := vI (s 37 (8 : Int))) C dX5_goOn_1 (shA_37) rfl rfl (by decide) in_x5_goOn_X5 w_x5_goOn_39 rfl rfl rfl ?_
    refine r_aload_n C 0 dX5_goOn_4 rfl ?_
    refine r_get (j := 0) (jz := 0) (v := vI (s 37 (0 : Int))) C dX5_goOn_5 (shA_37) rfl rfl (by decide) in_x5_goOn_X5 w_x5_goOn_28 rfl rfl rfl ?_
    refine r_icmp_ge (tgt := 38) C dX5_goOn_8 (by decide) ⟨h.1, fun c3 => ?_, fun c3 => ?_⟩
    · have h := h.2.1 c3
      exact r_perm [0] rfl ((z38 _).1 h)
    · have h := h.2.2 c3
      refine r_aload_n C 0 dX5_goOn_11 rfl ?_
      refine r_get (j := 7) (jz := 7) (v := .ref (ad 41)) C dX5_goOn_12 (shA_37) rfl rfl (by decide) in_x5_goOn_X5 w_x5_goOn_25 rfl rfl rfl ?_
      refine r_aload_n C 0 dX5_goOn_15 rfl ?_
      refine r_get (j := 8) (jz := 8) (v := vI (s 37 (8 : Int))) C dX5_goOn_16 (shA_37) rfl rfl (by decide) in_x5_goOn_X5 w_x5_goOn_39 rfl rfl rfl ?_
      refine r_iald (nz := 160) C dX5_goOn_19 (shA_41) rfl (by decide) ⟨h.1, ?_⟩
      have h := h.2
      refine r_bipush C dX5_goOn_20 (by decide) ?_
      refine r_icmp_ne (tgt := 38) C dX5_goOn_22 (by decide) ⟨h.1, fun c2 => ?_, fun c2 => ?_⟩
      · have h := h.2.1 c2
        exact r_perm [0] rfl ((z38 _).1 h)
      · have h := h.2.2 c2
        refine r_aload_n C 0 dX5_goOn_25 rfl ?_
        refine r_dup C dX5_goOn_26 rfl ?_
        refine r_get (j := 8) (jz := 8) (v := vI (s 37 (8 : Int))) C dX5_goOn_27 (shA_37) rfl rfl (by decide) in_x5_goOn_X5 w_x5_goOn_39 rfl rfl rfl ?_
        refine r_iconst C dX5_goOn_30 ?_
        refine r_iadd C dX5_goOn_31 ?_
        refine r_puti (j := 8) (jz := 8) C dX5_goOn_32 (shA_37) rfl rfl (by decide) in_x5_goOn_X5 tyX5 tyX5_ok nmX5 w_x5_goOn_39 rfl rfl (by decide +kernel) rfl (fun s1 e_s1 => ?_)
        have h := h s1 e_s1
        refine r_goto (tgt := 0) C dX5_goOn_35 (by decide) ?_
        exact r_perm [0] rfl ((z0 _).1 h)
  · intro s h
    refine (z38 _).2 ?_
    refine r_aload_n C 0 dX5_goOn_38 rfl ?_
    refine r_aload_n C 0 dX5_goOn_39 rfl ?_
    refine r_get (j := 8) (jz := 8) (v := vI (s 37 (8 : Int))) C dX5_goOn_40 (shA_37) rfl rfl (by decide) in_x5_goOn_X5 w_x5_goOn_39 rfl rfl rfl ?_
    refine r_puti (j := 10) (jz := 10) C dX5_goOn_43 (shA_37) rfl rfl (by decide) in_x5_goOn_X5 tyX5 tyX5_ok nmX5 w_x5_goOn_78 rfl rfl (by decide +kernel) rfl (fun s4 e_s4 => ?_)
    have h := h s4 e_s4
    refine r_aload_n C 0 dX5_goOn_46 rfl ?_
    refine r_get (j := 8) (jz := 8) (v := vI (s4 37 (8 : Int))) C dX5_goOn_47 (shA_37) rfl rfl (by decide) in_x5_goOn_X5 w_x5_goOn_39 rfl rfl rfl ?_
    refine r_aload_n C 0 dX5_goOn_50 rfl ?_
    refine r_get (j := 0) (jz := 0) (v := vI (s4 37 (0 : Int))) C dX5_goOn_51 (shA_37) rfl rfl (by decide) in_x5_goOn_X5 w_x5_goOn_28 rfl rfl rfl ?_
    refine r_icmp_lt (tgt := 66) C dX5_goOn_54 (by decide) ⟨h.1, fun c19 => ?_, fun c19 => ?_⟩
    · have h := h.2.1 c19
      refine r_aload_n C 0 dX5_goOn_66 rfl ?_
      refine r_get (j := 7) (jz := 7) (v := .ref (ad 41)) C dX5_goOn_67 (shA_37) rfl rfl (by decide) in_x5_goOn_X5 w_x5_goOn_25 rfl rfl rfl ?_
      refine r_aload_n C 0 dX5_goOn_70 rfl ?_
      refine r_get (j := 8) (jz := 8) (v := vI (s4 37 (8 : Int))) C dX5_goOn_71 (shA_37) rfl rfl (by decide) in_x5_goOn_X5 w_x5_goOn_39 rfl rfl rfl ?_
      refine r_iald (nz := 160) C dX5_goOn_74 (shA_41) rfl (by decide) ⟨h.1, ?_⟩
      have h := h.2
      refine r_bipush C dX5_goOn_75 (by decide) ?_
      refine r_bipush C dX5_goOn_77 (by decide) ?_
      refine r_callSN (As := [vI (s4 41 (s4 37 (8 : Int))), vI (97 : Int), vI (122 : Int)]) (n := 3) C dX5_goOn_79 (x7_within_ct κ.1.2.1 ad cA D (s4 41 (s4 37 (8 : Int))) (97 : Int) (122 : Int) s4) C.e.1.2.2.2.1 w_x5_goOn_s74 w_x5_goOn_iX7 gX5_goOn_X7_within_n74 rfl ⟨rfl, rfl⟩ (by decide +kernel) (by decide) rfl rfl (Nat.le_of_ble_eq_true rfl) (fun _ => rfl) ?_
      refine x7_within_mono h (fun r6 s5 h => ?_)
      refine r_if_eq (tgt := 143) C dX5_goOn_82 (by decide) ⟨h.1, fun c17 => ?_, fun c17 => ?_⟩
      · have h := h.2.1 c17
        refine r_aload_n C 0 dX5_goOn_143 rfl ?_
        refine r_get (j := 7) (jz := 7) (v := .ref (ad 41)) C dX5_goOn_144 (shA_37) rfl rfl (by decide) in_x5_goOn_X5 w_x5_goOn_25 rfl rfl rfl ?_
        refine r_aload_n C 0 dX5_goOn_147 rfl ?_
        refine r_get (j := 8) (jz := 8) (v := vI (s5 37 (8 : Int))) C dX5_goOn_148 (shA_37) rfl rfl (by decide) in_x5_goOn_X5 w_x5_goOn_39 rfl rfl rfl ?_
        refine r_iald (nz := 160) C dX5_goOn_151 (shA_41) rfl (by decide) ⟨h.1, ?_⟩
        have h := h.2
        refine r_bipush C dX5_goOn_152 (by decide) ?_
        refine r_bipush C dX5_goOn_154 (by decide) ?_
        refine r_callSN (As := [vI (s5 41 (s5 37 (8 : Int))), vI (48 : Int), vI (57 : Int)]) (n := 3) C dX5_goOn_156 (x7_within_ct κ.1.2.1 ad cA D (s5 41 (s5 37 (8 : Int))) (48 : Int) (57 : Int) s5) C.e.1.2.2.2.1 w_x5_goOn_s74 w_x5_goOn_iX7 gX5_goOn_X7_within_n74 rfl ⟨rfl, rfl⟩ (by decide +kernel) (by decide) rfl rfl (Nat.le_of_ble_eq_true rfl) (fun _ => rfl) ?_
        refine x7_within_mono h (fun r8 s7 h => ?_)
        refine r_if_eq (tgt := 175) C dX5_goOn_159 (by decide) ⟨h.1, fun c16 => ?_, fun c16 => ?_⟩
        · have h := h.2.1 c16
          refine r_aload_n C 0 dX5_goOn_175 rfl ?_
          refine r_aload_n C 0 dX5_goOn_176 rfl ?_
          refine r_get (j := 7) (jz := 7) (v := .ref (ad 41)) C dX5_goOn_177 (shA_37) rfl rfl (by decide) in_x5_goOn_X5 w_x5_goOn_25 rfl rfl rfl ?_
          refine r_aload_n C 0 dX5_goOn_180 rfl ?_
          refine r_get (j := 8) (jz := 8) (v := vI (s7 37 (8 : Int))) C dX5_goOn_181 (shA_37) rfl rfl (by decide) in_x5_goOn_X5 w_x5_goOn_39 rfl rfl rfl ?_
          refine r_iald (nz := 160) C dX5_goOn_184 (shA_41) rfl (by decide) ⟨h.1, ?_⟩
          have h := h.2
          refine r_bipush C dX5_goOn_185 (by decide) ?_
          refine r_icmp_ne (tgt := 195) C dX5_goOn_187 (by decide) ⟨h.1, fun c13 => ?_, fun c13 => ?_⟩
          · have h := h.2.1 c13
            refine r_bipush C dX5_goOn_195 (by decide) ?_
            refine r_puti (j := 9) (jz := 9) C dX5_goOn_197 (shA_37) rfl rfl (by decide) in_x5_goOn_X5 tyX5 tyX5_ok nmX5 w_x5_goOn_45 rfl rfl (by decide +kernel) rfl (fun s9 e_s9 => ?_)
            have h := h s9 e_s9
            refine r_aload_n C 0 dX5_goOn_200 rfl ?_
            refine r_dup C dX5_goOn_201 rfl ?_
            refine r_get (j := 8) (jz := 8) (v := vI (s9 37 (8 : Int))) C dX5_goOn_202 (shA_37) rfl rfl (by decide) in_x5_goOn_X5 w_x5_goOn_39 rfl rfl rfl ?_
            refine r_iconst C dX5_goOn_205 ?_
            refine r_iadd C dX5_goOn_206 ?_
            refine r_puti (j := 8) (jz := 8) C dX5_goOn_207 (shA_37) rfl rfl (by decide) in_x5_goOn_X5 tyX5 tyX5_ok nmX5 w_x5_goOn_39 rfl rfl (by decide +kernel) rfl (fun s10 e_s10 => ?_)
            have h := h s10 e_s10
            exact r_return C dX5_goOn_210 h
          · have h := h.2.2 c13
            refine r_bipush C dX5_goOn_190 (by decide) ?_
            refine r_goto (tgt := 197) C dX5_goOn_192 (by decide) ?_
            refine r_puti (j := 9) (jz := 9) C dX5_goOn_197 (shA_37) rfl rfl (by decide) in_x5_goOn_X5 tyX5 tyX5_ok nmX5 w_x5_goOn_45 rfl rfl (by decide +kernel) rfl (fun s11 e_s11 => ?_)
            have h := h s11 e_s11
            refine r_aload_n C 0 dX5_goOn_200 rfl ?_
            refine r_dup C dX5_goOn_201 rfl ?_
            refine r_get (j := 8) (jz := 8) (v := vI (s11 37 (8 : Int))) C dX5_goOn_202 (shA_37) rfl rfl (by decide) in_x5_goOn_X5 w_x5_goOn_39 rfl rfl rfl ?_
            refine r_iconst C dX5_goOn_205 ?_
            refine r_iadd C dX5_goOn_206 ?_
            refine r_puti (j := 8) (jz := 8) C dX5_goOn_207 (shA_37) rfl rfl (by decide) in_x5_goOn_X5 tyX5 tyX5_ok nmX5 w_x5_goOn_39 rfl rfl (by decide +kernel) rfl (fun s12 e_s12 => ?_)
            have h := h s12 e_s12
            exact r_return C dX5_goOn_210 h
        · have h := h.2.2 c16
          refine r_aload_n C 0 dX5_goOn_162 rfl ?_
          refine r_bipush C dX5_goOn_163 (by decide) ?_
          refine r_puti (j := 9) (jz := 9) C dX5_goOn_165 (shA_37) rfl rfl (by decide) in_x5_goOn_X5 tyX5 tyX5_ok nmX5 w_x5_goOn_45 rfl rfl (by decide +kernel) rfl (fun s14 e_s14 => ?_)
          have h := h s14 e_s14
          refine r_aload_n C 0 dX5_goOn_168 rfl ?_
          refine r_callV (As := []) (o := 37) (n := 0) C dX5_goOn_169 (x5_goOverNumber_ct κ.1.2.1 ad cA D s14) gX5_goOn_X5_goOverNumber rfl ⟨rfl, rfl⟩ (by decide +kernel) (by decide) (shA_37) rfl rfl rfl (Nat.le_of_ble_eq_true rfl) (fun _ => rfl) ?_
          refine x5_goOverNumber_mono h (fun _ s15 h => ?_)
          refine r_goto (tgt := 210) C dX5_goOn_172 (by decide) ?_
          exact r_return C dX5_goOn_210 h
      · have h := h.2.2 c17
        exact r_perm [0] rfl ((z85 _).1 h)
    · have h := h.2.2 c19
      refine r_aload_n C 0 dX5_goOn_57 rfl ?_
      refine r_bipush C dX5_goOn_58 (by decide) ?_
      refine r_puti (j := 9) (jz := 9) C dX5_goOn_60 (shA_37) rfl rfl (by decide) in_x5_goOn_X5 tyX5 tyX5_ok nmX5 w_x5_goOn_45 rfl rfl (by decide +kernel) rfl (fun s18 e_s18 => ?_)
      have h := h s18 e_s18
      refine r_goto (tgt := 210) C dX5_goOn_63 (by decide) ?_
      exact r_return C dX5_goOn_210 h
  · intro s h
    refine (z85 _).2 ?_
    refine r_aload_n C 0 dX5_goOn_85 rfl ?_
    refine r_get (j := 8) (jz := 8) (v := vI (s 37 (8 : Int))) C dX5_goOn_86 (shA_37) rfl rfl (by decide) in_x5_goOn_X5 w_x5_goOn_39 rfl rfl rfl ?_
    refine r_aload_n C 0 dX5_goOn_89 rfl ?_
    refine r_get (j := 0) (jz := 0) (v := vI (s 37 (0 : Int))) C dX5_goOn_90 (shA_37) rfl rfl (by decide) in_x5_goOn_X5 w_x5_goOn_28 rfl rfl rfl ?_
    refine r_icmp_ge (tgt := 128) C dX5_goOn_93 (by decide) ⟨h.1, fun c24 => ?_, fun c24 => ?_⟩
    · have h := h.2.1 c24
      exact r_perm [0] rfl ((z128 _).1 h)
    · have h := h.2.2 c24
      refine r_aload_n C 0 dX5_goOn_96 rfl ?_
      refine r_get (j := 7) (jz := 7) (v := .ref (ad 41)) C dX5_goOn_97 (shA_37) rfl rfl (by decide) in_x5_goOn_X5 w_x5_goOn_25 rfl rfl rfl ?_
      refine r_aload_n C 0 dX5_goOn_100 rfl ?_
      refine r_get (j := 8) (jz := 8) (v := vI (s 37 (8 : Int))) C dX5_goOn_101 (shA_37) rfl rfl (by decide) in_x5_goOn_X5 w_x5_goOn_39 rfl rfl rfl ?_
      refine r_iald (nz := 160) C dX5_goOn_104 (shA_41) rfl (by decide) ⟨h.1, ?_⟩
      have h := h.2
      refine r_bipush C dX5_goOn_105 (by decide) ?_
      refine r_bipush C dX5_goOn_107 (by decide) ?_
      refine r_callSN (As := [vI (s 41 (s 37 (8 : Int))), vI (97 : Int), vI (122 : Int)]) (n := 3) C dX5_goOn_109 (x7_within_ct κ.1.2.1 ad cA D (s 41 (s 37 (8 : Int))) (97 : Int) (122 : Int) s) C.e.1.2.2.2.1 w_x5_goOn_s74 w_x5_goOn_iX7 gX5_goOn_X7_within_n74 rfl ⟨rfl, rfl⟩ (by decide +kernel) (by decide) rfl rfl (Nat.le_of_ble_eq_true rfl) (fun _ => rfl) ?_
      refine x7_within_mono h (fun r21 s20 h => ?_)
      refine r_if_eq (tgt := 128) C dX5_goOn_112 (by decide) ⟨h.1, fun c23 => ?_, fun c23 => ?_⟩
      · have h := h.2.1 c23
        exact r_perm [0] rfl ((z128 _).1 h)
      · have h := h.2.2 c23
        refine r_aload_n C 0 dX5_goOn_115 rfl ?_
        refine r_dup C dX5_goOn_116 rfl ?_
        refine r_get (j := 8) (jz := 8) (v := vI (s20 37 (8 : Int))) C dX5_goOn_117 (shA_37) rfl rfl (by decide) in_x5_goOn_X5 w_x5_goOn_39 rfl rfl rfl ?_
        refine r_iconst C dX5_goOn_120 ?_
        refine r_iadd C dX5_goOn_121 ?_
        refine r_puti (j := 8) (jz := 8) C dX5_goOn_122 (shA_37) rfl rfl (by decide) in_x5_goOn_X5 tyX5 tyX5_ok nmX5 w_x5_goOn_39 rfl rfl (by decide +kernel) rfl (fun s22 e_s22 => ?_)
        have h := h s22 e_s22
        refine r_goto (tgt := 85) C dX5_goOn_125 (by decide) ?_
        exact r_perm [0] rfl ((z85 _).1 h)
  · intro s h
    refine (z128 _).2 ?_
    refine r_aload_n C 0 dX5_goOn_128 rfl ?_
    refine r_aload_n C 0 dX5_goOn_129 rfl ?_
    refine r_aload_n C 0 dX5_goOn_130 rfl ?_
    refine r_get (j := 10) (jz := 10) (v := vI (s 37 (10 : Int))) C dX5_goOn_131 (shA_37) rfl rfl (by decide) in_x5_goOn_X5 w_x5_goOn_78 rfl rfl rfl ?_
    refine r_callV (As := [vI (s 37 (10 : Int))]) (o := 37) (n := 1) C dX5_goOn_134 (x5_wordFrom_ct κ.1.2.1 ad cA D (s 37 (10 : Int)) s) gX5_goOn_X5_wordFrom rfl ⟨rfl, rfl⟩ (by decide +kernel) (by decide) (shA_37) rfl rfl rfl (Nat.le_of_ble_eq_true rfl) (fun _ => rfl) ?_
    refine x5_wordFrom_mono h (fun r26 s25 h => ?_)
    refine r_puti (j := 9) (jz := 9) C dX5_goOn_137 (shA_37) rfl rfl (by decide) in_x5_goOn_X5 tyX5 tyX5_ok nmX5 w_x5_goOn_45 rfl rfl (by decide +kernel) rfl (fun s27 e_s27 => ?_)
    have h := h s27 e_s27
    refine r_goto (tgt := 210) C dX5_goOn_140 (by decide) ?_
    exact r_return C dX5_goOn_210 h
theorem x5_goOn_ct (l : Launch) (ad : Nat → Nat) (cA : Nat → ClassId) (D : va_G)  (s : Mem) : MG l yX5_goOn wsX5_goOn x5_goOn_rm ocV [.ref (ad 37)] (GA ad cA D) s (x5_goOn  s) :=
  m_met (own := RX5) (nL := 1) (by decide) rfl rfl (Nat.le_of_ble_eq_true rfl) rfl rfl rfl (fun κ hl C Q Pst hW hQ => x5_goOn_bd C (x5_goOn_mono hW hQ))

def x5_faulty (p1 : Int) (s : Mem) (Q : Int → Mem → Prop) : Prop :=
  ∀ s1 : Mem, s1 = m_upd s 37 (1 : Int) p1 → ∀ s2 : Mem, s2 = m_upd s1 37 (2 : Int) (s1 37 (10 : Int)) → ((0 : Int) ≤ (0 : Int) ∧ (0 : Int) ≤ 1) ∧ Q (0 : Int) s2
theorem x5_faulty_mono {Q R : Int → Mem → Prop} {p1 : Int} {s : Mem} (h : x5_faulty p1 s Q) (hQ : ∀ r s, Q r s → R r s) : x5_faulty p1 s R :=
  fun s1 e_s1 => have h := h s1 e_s1; fun s2 e_s2 => have h := h s2 e_s2; ⟨h.1, hQ _ _ h.2⟩
def x5_faulty_rm : Room := { frames := 0, cells := 0, slots := 0, locals := 0 }
theorem w_x5_faulty_36 : Cond.fieldLink RX5 36 "BoltRing$Orders" "flaw" "I" ∈ wsX5_faulty := by decide +kernel
theorem w_x5_faulty_78 : Cond.fieldLink RX5 78 "BoltRing$Orders" "tokenAt" "I" ∈ wsX5_faulty := by decide +kernel
theorem w_x5_faulty_9 : Cond.fieldLink RX5 9 "BoltRing$Orders" "flawAt" "I" ∈ wsX5_faulty := by decide +kernel
theorem in_x5_faulty_X5 : ∀ w ∈ wsX50, w ∈ wsX5_faulty := by decide +kernel
set_option maxHeartbeats 4000000 in
set_option maxRecDepth 100000 in
theorem x5_faulty_bd {κ : KT} {ad : Nat → Nat} {cA : Nat → ClassId} {D : va_G} {Q : State → Prop} {p1 : Int} {s : Mem} (C : CX κ (GA ad cA D) RX5 cX5_faulty 2 wsX5_faulty x5_faulty_rm (some .boolean)) (h : x5_faulty p1 s (RT κ (GA ad cA D) ocI Q)) : WM κ (GA ad cA D) 2 Q s 0 [(0, .ref (ad 37)), (1, vI p1)] [] := by
  refine r_aload_n C 0 dX5_faulty_0 rfl ?_
  refine r_iload_n C 1 dX5_faulty_1 rfl ?_
  refine r_puti (j := 1) (jz := 1) C dX5_faulty_2 (shA_37) rfl rfl (by decide) in_x5_faulty_X5 tyX5 tyX5_ok nmX5 w_x5_faulty_36 rfl rfl (by decide +kernel) rfl (fun s1 e_s1 => ?_)
  have h := h s1 e_s1
  refine r_aload_n C 0 dX5_faulty_5 rfl ?_
  refine r_aload_n C 0 dX5_faulty_6 rfl ?_
  refine r_get (j := 10) (jz := 10) (v := vI (s1 37 (10 : Int))) C dX5_faulty_7 (shA_37) rfl rfl (by decide) in_x5_faulty_X5 w_x5_faulty_78 rfl rfl rfl ?_
  refine r_puti (j := 2) (jz := 2) C dX5_faulty_10 (shA_37) rfl rfl (by decide) in_x5_faulty_X5 tyX5 tyX5_ok nmX5 w_x5_faulty_9 rfl rfl (by decide +kernel) rfl (fun s2 e_s2 => ?_)
  have h := h s2 e_s2
  refine r_iconst C dX5_faulty_13 ?_
  exact r_zreturn C dX5_faulty_14 h
theorem x5_faulty_ct (l : Launch) (ad : Nat → Nat) (cA : Nat → ClassId) (D : va_G) (p1 : Int) (s : Mem) : MG l yX5_faulty wsX5_faulty x5_faulty_rm ocI [.ref (ad 37), vI p1] (GA ad cA D) s (x5_faulty p1 s) :=
  m_met (own := RX5) (nL := 2) (by decide) rfl rfl (Nat.le_of_ble_eq_true rfl) rfl rfl rfl (fun κ hl C Q Pst hW hQ => x5_faulty_bd C (x5_faulty_mono hW hQ))

def x5_numberLies (p1 : Int) (p2 : Int) (s : Mem) (Q : Int → Mem → Prop) : Prop :=
  (InI (s 37 (9 : Int)) ∧ InI (8 : Int)) ∧ ((s 37 (9 : Int)) = (8 : Int) → x7_within (s 37 (11 : Int)) p1 p2 s (fun r2 s1 => InI r2 ∧ (¬ r2 = (0 : Int) → ((0 : Int) ≤ (1 : Int) ∧ (1 : Int) ≤ 1) ∧ Q (1 : Int) s1) ∧ (r2 = (0 : Int) → x5_faulty (2 : Int) s1 (fun r4 s3 => InI r4 ∧ (r4 = (0 : Int) → ((0 : Int) ≤ (0 : Int) ∧ (0 : Int) ≤ 1) ∧ Q (0 : Int) s3) ∧ (¬ r4 = (0 : Int) → ((0 : Int) ≤ (1 : Int) ∧ (1 : Int) ≤ 1) ∧ Q (1 : Int) s3))))) ∧ (¬ (s 37 (9 : Int)) = (8 : Int) → x5_faulty (1 : Int) s (fun r8 s7 => ((0 : Int) ≤ r8 ∧ r8 ≤ 1) ∧ Q r8 s7))
theorem x5_numberLies_mono {Q R : Int → Mem → Prop} {p1 : Int} {p2 : Int} {s : Mem} (h : x5_numberLies p1 p2 s Q) (hQ : ∀ r s, Q r s → R r s) : x5_numberLies p1 p2 s R :=
  ⟨h.1, fun c => have h := h.2.1 c; x7_within_mono h (fun r2 s1 h => ⟨h.1, fun c => have h := h.2.1 c; ⟨h.1, hQ _ _ h.2⟩, fun c => have h := h.2.2 c; x5_faulty_mono h (fun r4 s3 h => ⟨h.1, fun c => have h := h.2.1 c; ⟨h.1, hQ _ _ h.2⟩, fun c => have h := h.2.2 c; ⟨h.1, hQ _ _ h.2⟩⟩)⟩), fun c => have h := h.2.2 c; x5_faulty_mono h (fun r8 s7 h => ⟨h.1, hQ _ _ h.2⟩)⟩
def x5_numberLies_rm : Room := { frames := 1, cells := 0, slots := 0, locals := 22 }
theorem w_x5_numberLies_45 : Cond.fieldLink RX5 45 "BoltRing$Orders" "token" "I" ∈ wsX5_numberLies := by decide +kernel
theorem w_x5_numberLies_71 : Cond.fieldLink RX5 71 "BoltRing$Orders" "value" "I" ∈ wsX5_numberLies := by decide +kernel
theorem w_x5_numberLies_s74 : Cond.static yX7_within ∈ wsX5_numberLies := by decide +kernel
theorem w_x5_numberLies_iX7 : Cond.initialized RX7 ∈ wsX5_numberLies := by decide +kernel
theorem in_x5_numberLies_X5 : ∀ w ∈ wsX50, w ∈ wsX5_numberLies := by decide +kernel
set_option maxHeartbeats 4000000 in
set_option maxRecDepth 100000 in
theorem x5_numberLies_bd {κ : KT} {ad : Nat → Nat} {cA : Nat → ClassId} {D : va_G} {Q : State → Prop} {p1 : Int} {p2 : Int} {s : Mem} (C : CX κ (GA ad cA D) RX5 cX5_numberLies 3 wsX5_numberLies x5_numberLies_rm (some .boolean)) (h : x5_numberLies p1 p2 s (RT κ (GA ad cA D) ocI Q)) : WM κ (GA ad cA D) 3 Q s 0 [(0, .ref (ad 37)), (1, vI p1), (2, vI p2)] [] := by
  refine r_aload_n C 0 dX5_numberLies_0 rfl ?_
  refine r_get (j := 9) (jz := 9) (v := vI (s 37 (9 : Int))) C dX5_numberLies_1 (shA_37) rfl rfl (by decide) in_x5_numberLies_X5 w_x5_numberLies_45 rfl rfl rfl ?_
  refine r_bipush C dX5_numberLies_4 (by decide) ?_
  refine r_icmp_eq (tgt := 15) C dX5_numberLies_6 (by decide) ⟨h.1, fun c9 => ?_, fun c9 => ?_⟩
  · have h := h.2.1 c9
    refine r_aload_n C 0 dX5_numberLies_15 rfl ?_
    refine r_get (j := 11) (jz := 11) (v := vI (s 37 (11 : Int))) C dX5_numberLies_16 (shA_37) rfl rfl (by decide) in_x5_numberLies_X5 w_x5_numberLies_71 rfl rfl rfl ?_
    refine r_iload_n C 1 dX5_numberLies_19 rfl ?_
    refine r_iload_n C 2 dX5_numberLies_20 rfl ?_
    refine r_callSN (As := [vI (s 37 (11 : Int)), vI p1, vI p2]) (n := 3) C dX5_numberLies_21 (x7_within_ct κ.1.2.1 ad cA D (s 37 (11 : Int)) p1 p2 s) C.e.1.2.2.2.1 w_x5_numberLies_s74 w_x5_numberLies_iX7 gX5_numberLies_X7_within_n74 rfl ⟨rfl, rfl⟩ (by decide +kernel) (by decide) rfl rfl (Nat.le_of_ble_eq_true rfl) (fun _ => rfl) ?_
    refine x7_within_mono h (fun r2 s1 h => ?_)
    refine r_if_ne (tgt := 35) C dX5_numberLies_24 (by decide) ⟨h.1, fun c6 => ?_, fun c6 => ?_⟩
    · have h := h.2.1 c6
      refine r_iconst C dX5_numberLies_35 ?_
      refine r_goto (tgt := 40) C dX5_numberLies_36 (by decide) ?_
      exact r_zreturn C dX5_numberLies_40 h
    · have h := h.2.2 c6
      refine r_aload_n C 0 dX5_numberLies_27 rfl ?_
      refine r_iconst C dX5_numberLies_28 ?_
      refine r_callV (As := [vI (2 : Int)]) (o := 37) (n := 1) C dX5_numberLies_29 (x5_faulty_ct κ.1.2.1 ad cA D (2 : Int) s1) gX5_numberLies_X5_faulty rfl ⟨rfl, rfl⟩ (by decide +kernel) (by decide) (shA_37) rfl rfl rfl (Nat.le_of_ble_eq_true rfl) (fun _ => rfl) ?_
      refine x5_faulty_mono h (fun r4 s3 h => ?_)
      refine r_if_eq (tgt := 39) C dX5_numberLies_32 (by decide) ⟨h.1, fun c5 => ?_, fun c5 => ?_⟩
      · have h := h.2.1 c5
        refine r_iconst C dX5_numberLies_39 ?_
        exact r_zreturn C dX5_numberLies_40 h
      · have h := h.2.2 c5
        refine r_iconst C dX5_numberLies_35 ?_
        refine r_goto (tgt := 40) C dX5_numberLies_36 (by decide) ?_
        exact r_zreturn C dX5_numberLies_40 h
  · have h := h.2.2 c9
    refine r_aload_n C 0 dX5_numberLies_9 rfl ?_
    refine r_iconst C dX5_numberLies_10 ?_
    refine r_callV (As := [vI (1 : Int)]) (o := 37) (n := 1) C dX5_numberLies_11 (x5_faulty_ct κ.1.2.1 ad cA D (1 : Int) s) gX5_numberLies_X5_faulty rfl ⟨rfl, rfl⟩ (by decide +kernel) (by decide) (shA_37) rfl rfl rfl (Nat.le_of_ble_eq_true rfl) (fun _ => rfl) ?_
    refine x5_faulty_mono h (fun r8 s7 h => ?_)
    exact r_zreturn C dX5_numberLies_14 h
theorem x5_numberLies_ct (l : Launch) (ad : Nat → Nat) (cA : Nat → ClassId) (D : va_G) (p1 : Int) (p2 : Int) (s : Mem) : MG l yX5_numberLies wsX5_numberLies x5_numberLies_rm ocI [.ref (ad 37), vI p1, vI p2] (GA ad cA D) s (x5_numberLies p1 p2 s) :=
  m_met (own := RX5) (nL := 3) (by decide) rfl rfl (Nat.le_of_ble_eq_true rfl) rfl rfl rfl (fun κ hl C Q Pst hW hQ => x5_numberLies_bd C (x5_numberLies_mono hW hQ))

def x5_takeFirst (p1 : Int) (p2 : Int) (s : Mem) (Q : Int → Mem → Prop) : Prop :=
  x5_goOn s (fun _ s1 => x5_numberLies p1 p2 s1 (fun r3 s2 => ((0 : Int) ≤ (s2 37 (3 : Int)) ∧ (s2 37 (3 : Int)) < 12) ∧ ∀ s4 : Mem, s4 = m_upd s2 39 (s2 37 (3 : Int)) (s2 37 (11 : Int)) → ((0 : Int) ≤ r3 ∧ r3 ≤ 1) ∧ Q r3 s4))
theorem x5_takeFirst_mono {Q R : Int → Mem → Prop} {p1 : Int} {p2 : Int} {s : Mem} (h : x5_takeFirst p1 p2 s Q) (hQ : ∀ r s, Q r s → R r s) : x5_takeFirst p1 p2 s R :=
  x5_goOn_mono h (fun _ s1 h => x5_numberLies_mono h (fun r3 s2 h => ⟨h.1, have h := h.2; fun s4 e_s4 => have h := h s4 e_s4; ⟨h.1, hQ _ _ h.2⟩⟩))
def x5_takeFirst_rm : Room := { frames := 7, cells := 0, slots := 0, locals := 150 }
theorem w_x5_takeFirst_19 : Cond.fieldLink RX5 19 "BoltRing$Orders" "firsts" "[I" ∈ wsX5_takeFirst := by decide +kernel
theorem w_x5_takeFirst_33 : Cond.fieldLink RX5 33 "BoltRing$Orders" "clauses" "I" ∈ wsX5_takeFirst := by decide +kernel
theorem w_x5_takeFirst_71 : Cond.fieldLink RX5 71 "BoltRing$Orders" "value" "I" ∈ wsX5_takeFirst := by decide +kernel
theorem in_x5_takeFirst_X5 : ∀ w ∈ wsX50, w ∈ wsX5_takeFirst := by decide +kernel
set_option maxHeartbeats 4000000 in
set_option maxRecDepth 100000 in
theorem x5_takeFirst_bd {κ : KT} {ad : Nat → Nat} {cA : Nat → ClassId} {D : va_G} {Q : State → Prop} {p1 : Int} {p2 : Int} {s : Mem} (C : CX κ (GA ad cA D) RX5 cX5_takeFirst 4 wsX5_takeFirst x5_takeFirst_rm (some .boolean)) (h : x5_takeFirst p1 p2 s (RT κ (GA ad cA D) ocI Q)) : WM κ (GA ad cA D) 4 Q s 0 [(0, .ref (ad 37)), (1, vI p1), (2, vI p2)] [] := by
  refine r_aload_n C 0 dX5_takeFirst_0 rfl ?_
  refine r_callV (As := []) (o := 37) (n := 0) C dX5_takeFirst_1 (x5_goOn_ct κ.1.2.1 ad cA D s) gX5_takeFirst_X5_goOn rfl ⟨rfl, rfl⟩ (by decide +kernel) (by decide) (shA_37) rfl rfl rfl (Nat.le_of_ble_eq_true rfl) (fun _ => rfl) ?_
  refine x5_goOn_mono h (fun _ s1 h => ?_)
  refine r_aload_n C 0 dX5_takeFirst_4 rfl ?_
  refine r_iload_n C 1 dX5_takeFirst_5 rfl ?_
  refine r_iload_n C 2 dX5_takeFirst_6 rfl ?_
  refine r_callV (As := [vI p1, vI p2]) (o := 37) (n := 2) C dX5_takeFirst_7 (x5_numberLies_ct κ.1.2.1 ad cA D p1 p2 s1) gX5_takeFirst_X5_numberLies rfl ⟨rfl, rfl⟩ (by decide +kernel) (by decide) (shA_37) rfl rfl rfl (Nat.le_of_ble_eq_true rfl) (fun _ => rfl) ?_
  refine x5_numberLies_mono h (fun r3 s2 h => ?_)
  refine r_istore_n (ls' := [(3, vI r3), (0, .ref (ad 37)), (1, vI p1), (2, vI p2)]) C dX5_takeFirst_10 rfl (by decide) rfl ?_
  refine r_aload_n C 1 dX5_takeFirst_11 rfl ?_
  refine r_get (j := 5) (jz := 5) (v := .ref (ad 39)) C dX5_takeFirst_12 (shA_37) rfl rfl (by decide) in_x5_takeFirst_X5 w_x5_takeFirst_19 rfl rfl rfl ?_
  refine r_aload_n C 1 dX5_takeFirst_15 rfl ?_
  refine r_get (j := 3) (jz := 3) (v := vI (s2 37 (3 : Int))) C dX5_takeFirst_16 (shA_37) rfl rfl (by decide) in_x5_takeFirst_X5 w_x5_takeFirst_33 rfl rfl rfl ?_
  refine r_aload_n C 1 dX5_takeFirst_19 rfl ?_
  refine r_get (j := 11) (jz := 11) (v := vI (s2 37 (11 : Int))) C dX5_takeFirst_20 (shA_37) rfl rfl (by decide) in_x5_takeFirst_X5 w_x5_takeFirst_71 rfl rfl rfl ?_
  refine r_iast (nz := 12) C dX5_takeFirst_23 (shA_39) rfl (by decide) ⟨h.1, fun s4 e_s4 => ?_⟩
  have h := h.2 s4 e_s4
  refine r_iload_n C 0 dX5_takeFirst_24 rfl ?_
  exact r_zreturn C dX5_takeFirst_25 h
theorem x5_takeFirst_ct (l : Launch) (ad : Nat → Nat) (cA : Nat → ClassId) (D : va_G) (p1 : Int) (p2 : Int) (s : Mem) : MG l yX5_takeFirst wsX5_takeFirst x5_takeFirst_rm ocI [.ref (ad 37), vI p1, vI p2] (GA ad cA D) s (x5_takeFirst p1 p2 s) :=
  m_met (own := RX5) (nL := 4) (by decide) rfl rfl (Nat.le_of_ble_eq_true rfl) rfl rfl rfl (fun κ hl C Q Pst hW hQ => x5_takeFirst_bd C (x5_takeFirst_mono hW hQ))

def x5_take (p1 : Int) (s : Mem) (Q : Int → Mem → Prop) : Prop :=
  x5_goOn s (fun _ s1 => (InI (s1 37 (9 : Int)) ∧ InI p1) ∧ ((s1 37 (9 : Int)) = p1 → ((0 : Int) ≤ (1 : Int) ∧ (1 : Int) ≤ 1) ∧ Q (1 : Int) s1) ∧ (¬ (s1 37 (9 : Int)) = p1 → x5_faulty (1 : Int) s1 (fun r3 s2 => InI r3 ∧ (r3 = (0 : Int) → ((0 : Int) ≤ (0 : Int) ∧ (0 : Int) ≤ 1) ∧ Q (0 : Int) s2) ∧ (¬ r3 = (0 : Int) → ((0 : Int) ≤ (1 : Int) ∧ (1 : Int) ≤ 1) ∧ Q (1 : Int) s2))))
theorem x5_take_mono {Q R : Int → Mem → Prop} {p1 : Int} {s : Mem} (h : x5_take p1 s Q) (hQ : ∀ r s, Q r s → R r s) : x5_take p1 s R :=
  x5_goOn_mono h (fun _ s1 h => ⟨h.1, fun c => have h := h.2.1 c; ⟨h.1, hQ _ _ h.2⟩, fun c => have h := h.2.2 c; x5_faulty_mono h (fun r3 s2 h => ⟨h.1, fun c => have h := h.2.1 c; ⟨h.1, hQ _ _ h.2⟩, fun c => have h := h.2.2 c; ⟨h.1, hQ _ _ h.2⟩⟩)⟩)
def x5_take_rm : Room := { frames := 7, cells := 0, slots := 0, locals := 150 }
theorem w_x5_take_45 : Cond.fieldLink RX5 45 "BoltRing$Orders" "token" "I" ∈ wsX5_take := by decide +kernel
theorem in_x5_take_X5 : ∀ w ∈ wsX50, w ∈ wsX5_take := by decide +kernel
set_option maxHeartbeats 4000000 in
set_option maxRecDepth 100000 in
theorem x5_take_bd {κ : KT} {ad : Nat → Nat} {cA : Nat → ClassId} {D : va_G} {Q : State → Prop} {p1 : Int} {s : Mem} (C : CX κ (GA ad cA D) RX5 cX5_take 2 wsX5_take x5_take_rm (some .boolean)) (h : x5_take p1 s (RT κ (GA ad cA D) ocI Q)) : WM κ (GA ad cA D) 2 Q s 0 [(0, .ref (ad 37)), (1, vI p1)] [] := by
  refine r_aload_n C 0 dX5_take_0 rfl ?_
  refine r_callV (As := []) (o := 37) (n := 0) C dX5_take_1 (x5_goOn_ct κ.1.2.1 ad cA D s) gX5_take_X5_goOn rfl ⟨rfl, rfl⟩ (by decide +kernel) (by decide) (shA_37) rfl rfl rfl (Nat.le_of_ble_eq_true rfl) (fun _ => rfl) ?_
  refine x5_goOn_mono h (fun _ s1 h => ?_)
  refine r_aload_n C 0 dX5_take_4 rfl ?_
  refine r_get (j := 9) (jz := 9) (v := vI (s1 37 (9 : Int))) C dX5_take_5 (shA_37) rfl rfl (by decide) in_x5_take_X5 w_x5_take_45 rfl rfl rfl ?_
  refine r_iload_n C 1 dX5_take_8 rfl ?_
  refine r_icmp_eq (tgt := 20) C dX5_take_9 (by decide) ⟨h.1, fun c5 => ?_, fun c5 => ?_⟩
  · have h := h.2.1 c5
    refine r_iconst C dX5_take_20 ?_
    refine r_goto (tgt := 25) C dX5_take_21 (by decide) ?_
    exact r_zreturn C dX5_take_25 h
  · have h := h.2.2 c5
    refine r_aload_n C 0 dX5_take_12 rfl ?_
    refine r_iconst C dX5_take_13 ?_
    refine r_callV (As := [vI (1 : Int)]) (o := 37) (n := 1) C dX5_take_14 (x5_faulty_ct κ.1.2.1 ad cA D (1 : Int) s1) gX5_take_X5_faulty rfl ⟨rfl, rfl⟩ (by decide +kernel) (by decide) (shA_37) rfl rfl rfl (Nat.le_of_ble_eq_true rfl) (fun _ => rfl) ?_
    refine x5_faulty_mono h (fun r3 s2 h => ?_)
    refine r_if_eq (tgt := 24) C dX5_take_17 (by decide) ⟨h.1, fun c4 => ?_, fun c4 => ?_⟩
    · have h := h.2.1 c4
      refine r_iconst C dX5_take_24 ?_
      exact r_zreturn C dX5_take_25 h
    · have h := h.2.2 c4
      refine r_iconst C dX5_take_20 ?_
      refine r_goto (tgt := 25) C dX5_take_21 (by decide) ?_
      exact r_zreturn C dX5_take_25 h
theorem x5_take_ct (l : Launch) (ad : Nat → Nat) (cA : Nat → ClassId) (D : va_G) (p1 : Int) (s : Mem) : MG l yX5_take wsX5_take x5_take_rm ocI [.ref (ad 37), vI p1] (GA ad cA D) s (x5_take p1 s) :=
  m_met (own := RX5) (nL := 2) (by decide) rfl rfl (Nat.le_of_ble_eq_true rfl) rfl rfl rfl (fun κ hl C Q Pst hW hQ => x5_take_bd C (x5_take_mono hW hQ))

def x5_takeSecond (p1 : Int) (p2 : Int) (s : Mem) (Q : Int → Mem → Prop) : Prop :=
  x5_goOn s (fun _ s1 => x5_numberLies p1 p2 s1 (fun r3 s2 => ((0 : Int) ≤ (s2 37 (3 : Int)) ∧ (s2 37 (3 : Int)) < 12) ∧ ∀ s4 : Mem, s4 = m_upd s2 40 (s2 37 (3 : Int)) (s2 37 (11 : Int)) → ((0 : Int) ≤ r3 ∧ r3 ≤ 1) ∧ Q r3 s4))
theorem x5_takeSecond_mono {Q R : Int → Mem → Prop} {p1 : Int} {p2 : Int} {s : Mem} (h : x5_takeSecond p1 p2 s Q) (hQ : ∀ r s, Q r s → R r s) : x5_takeSecond p1 p2 s R :=
  x5_goOn_mono h (fun _ s1 h => x5_numberLies_mono h (fun r3 s2 h => ⟨h.1, have h := h.2; fun s4 e_s4 => have h := h s4 e_s4; ⟨h.1, hQ _ _ h.2⟩⟩))
def x5_takeSecond_rm : Room := { frames := 7, cells := 0, slots := 0, locals := 150 }
theorem w_x5_takeSecond_22 : Cond.fieldLink RX5 22 "BoltRing$Orders" "seconds" "[I" ∈ wsX5_takeSecond := by decide +kernel
theorem w_x5_takeSecond_33 : Cond.fieldLink RX5 33 "BoltRing$Orders" "clauses" "I" ∈ wsX5_takeSecond := by decide +kernel
theorem w_x5_takeSecond_71 : Cond.fieldLink RX5 71 "BoltRing$Orders" "value" "I" ∈ wsX5_takeSecond := by decide +kernel
theorem in_x5_takeSecond_X5 : ∀ w ∈ wsX50, w ∈ wsX5_takeSecond := by decide +kernel
set_option maxHeartbeats 4000000 in
set_option maxRecDepth 100000 in
theorem x5_takeSecond_bd {κ : KT} {ad : Nat → Nat} {cA : Nat → ClassId} {D : va_G} {Q : State → Prop} {p1 : Int} {p2 : Int} {s : Mem} (C : CX κ (GA ad cA D) RX5 cX5_takeSecond 4 wsX5_takeSecond x5_takeSecond_rm (some .boolean)) (h : x5_takeSecond p1 p2 s (RT κ (GA ad cA D) ocI Q)) : WM κ (GA ad cA D) 4 Q s 0 [(0, .ref (ad 37)), (1, vI p1), (2, vI p2)] [] := by
  refine r_aload_n C 0 dX5_takeSecond_0 rfl ?_
  refine r_callV (As := []) (o := 37) (n := 0) C dX5_takeSecond_1 (x5_goOn_ct κ.1.2.1 ad cA D s) gX5_takeSecond_X5_goOn rfl ⟨rfl, rfl⟩ (by decide +kernel) (by decide) (shA_37) rfl rfl rfl (Nat.le_of_ble_eq_true rfl) (fun _ => rfl) ?_
  refine x5_goOn_mono h (fun _ s1 h => ?_)
  refine r_aload_n C 0 dX5_takeSecond_4 rfl ?_
  refine r_iload_n C 1 dX5_takeSecond_5 rfl ?_
  refine r_iload_n C 2 dX5_takeSecond_6 rfl ?_
  refine r_callV (As := [vI p1, vI p2]) (o := 37) (n := 2) C dX5_takeSecond_7 (x5_numberLies_ct κ.1.2.1 ad cA D p1 p2 s1) gX5_takeSecond_X5_numberLies rfl ⟨rfl, rfl⟩ (by decide +kernel) (by decide) (shA_37) rfl rfl rfl (Nat.le_of_ble_eq_true rfl) (fun _ => rfl) ?_
  refine x5_numberLies_mono h (fun r3 s2 h => ?_)
  refine r_istore_n (ls' := [(3, vI r3), (0, .ref (ad 37)), (1, vI p1), (2, vI p2)]) C dX5_takeSecond_10 rfl (by decide) rfl ?_
  refine r_aload_n C 1 dX5_takeSecond_11 rfl ?_
  refine r_get (j := 6) (jz := 6) (v := .ref (ad 40)) C dX5_takeSecond_12 (shA_37) rfl rfl (by decide) in_x5_takeSecond_X5 w_x5_takeSecond_22 rfl rfl rfl ?_
  refine r_aload_n C 1 dX5_takeSecond_15 rfl ?_
  refine r_get (j := 3) (jz := 3) (v := vI (s2 37 (3 : Int))) C dX5_takeSecond_16 (shA_37) rfl rfl (by decide) in_x5_takeSecond_X5 w_x5_takeSecond_33 rfl rfl rfl ?_
  refine r_aload_n C 1 dX5_takeSecond_19 rfl ?_
  refine r_get (j := 11) (jz := 11) (v := vI (s2 37 (11 : Int))) C dX5_takeSecond_20 (shA_37) rfl rfl (by decide) in_x5_takeSecond_X5 w_x5_takeSecond_71 rfl rfl rfl ?_
  refine r_iast (nz := 12) C dX5_takeSecond_23 (shA_40) rfl (by decide) ⟨h.1, fun s4 e_s4 => ?_⟩
  have h := h.2 s4 e_s4
  refine r_iload_n C 0 dX5_takeSecond_24 rfl ?_
  exact r_zreturn C dX5_takeSecond_25 h
theorem x5_takeSecond_ct (l : Launch) (ad : Nat → Nat) (cA : Nat → ClassId) (D : va_G) (p1 : Int) (p2 : Int) (s : Mem) : MG l yX5_takeSecond wsX5_takeSecond x5_takeSecond_rm ocI [.ref (ad 37), vI p1, vI p2] (GA ad cA D) s (x5_takeSecond p1 p2 s) :=
  m_met (own := RX5) (nL := 4) (by decide) rfl rfl (Nat.le_of_ble_eq_true rfl) rfl rfl rfl (fun κ hl C Q Pst hW hQ => x5_takeSecond_bd C (x5_takeSecond_mono hW hQ))

def x5_takeRow_be (X11 : Int → Int → Int → Int → Mem → Prop) (X34 : Int → Int → Int → Int → Mem → Prop) (X93 : Int → Int → Int → Mem → Prop) (Q : Int → Mem → Prop) (p1 : Int) (s : Mem) : Prop :=
  x5_goOn s (fun _ s1 => X11 p1 (0 : Int) (0 : Int) (0 : Int) s1)
def x5_takeRow_b11 (X11 : Int → Int → Int → Int → Mem → Prop) (X34 : Int → Int → Int → Int → Mem → Prop) (X93 : Int → Int → Int → Mem → Prop) (Q : Int → Mem → Prop) (x1 : Int) (x2 : Int) (x3 : Int) (x4 : Int) (s : Mem) : Prop :=
  (InI x4 ∧ InI x1) ∧ (x1 < x4 → X93 x1 x2 x3 s) ∧ (x4 ≤ x1 → InI x4 ∧ (x4 ≤ (0 : Int) → X34 x1 x2 x3 x4 s) ∧ ((0 : Int) < x4 → (InI (s 37 (9 : Int)) ∧ InI (9 : Int)) ∧ (¬ (s 37 (9 : Int)) = (9 : Int) → X34 x1 x2 x3 x4 s) ∧ ((s 37 (9 : Int)) = (9 : Int) → X93 x1 x2 x3 s)))
def x5_takeRow_b34 (X11 : Int → Int → Int → Int → Mem → Prop) (X34 : Int → Int → Int → Int → Mem → Prop) (X93 : Int → Int → Int → Mem → Prop) (Q : Int → Mem → Prop) (x1 : Int) (x2 : Int) (x3 : Int) (x4 : Int) (s : Mem) : Prop :=
  x5_numberLies (0 : Int) (x1 - (1 : Int)) s (fun r6 s5 => InI r6 ∧ (¬ r6 = (0 : Int) → InI (andI (shrI x2 (s5 37 (11 : Int))) (1 : Int)) ∧ ((andI (shrI x2 (s5 37 (11 : Int))) (1 : Int)) = (0 : Int) → ∀ v7 : Int, v7 = (orI x2 (shlI (1 : Int) (s5 37 (11 : Int)))) → ∀ v8 : Int, v8 = (((10 : Int) * x3) + (s5 37 (11 : Int))) → x5_goOn s5 (fun _ s9 => X11 x1 v7 v8 (x4 + (1 : Int)) s9)) ∧ (¬ (andI (shrI x2 (s5 37 (11 : Int))) (1 : Int)) = (0 : Int) → x5_faulty (3 : Int) s5 (fun r11 s10 => ((0 : Int) ≤ r11 ∧ r11 ≤ 1) ∧ Q r11 s10))) ∧ (r6 = (0 : Int) → ((0 : Int) ≤ (0 : Int) ∧ (0 : Int) ≤ 1) ∧ Q (0 : Int) s5))
def x5_takeRow_b93 (X11 : Int → Int → Int → Int → Mem → Prop) (X34 : Int → Int → Int → Int → Mem → Prop) (X93 : Int → Int → Int → Mem → Prop) (Q : Int → Mem → Prop) (x1 : Int) (x2 : Int) (x3 : Int) (s : Mem) : Prop :=
  ((0 : Int) ≤ (s 37 (3 : Int)) ∧ (s 37 (3 : Int)) < 12) ∧ ∀ s14 : Mem, s14 = m_upd s 39 (s 37 (3 : Int)) x3 → (InI x2 ∧ InI ((shlI (1 : Int) x1) - (1 : Int))) ∧ (x2 = ((shlI (1 : Int) x1) - (1 : Int)) → ((0 : Int) ≤ (1 : Int) ∧ (1 : Int) ≤ 1) ∧ Q (1 : Int) s14) ∧ (¬ x2 = ((shlI (1 : Int) x1) - (1 : Int)) → x5_faulty (4 : Int) s14 (fun r16 s15 => InI r16 ∧ (r16 = (0 : Int) → ((0 : Int) ≤ (0 : Int) ∧ (0 : Int) ≤ 1) ∧ Q (0 : Int) s15) ∧ (¬ r16 = (0 : Int) → ((0 : Int) ≤ (1 : Int) ∧ (1 : Int) ≤ 1) ∧ Q (1 : Int) s15)))
theorem x5_takeRow_me {X11 Y11 : Int → Int → Int → Int → Mem → Prop} {X34 Y34 : Int → Int → Int → Int → Mem → Prop} {X93 Y93 : Int → Int → Int → Mem → Prop} {Q R : Int → Mem → Prop} (hX11 : ∀ x1 x2 x3 x4 s, X11 x1 x2 x3 x4 s → Y11 x1 x2 x3 x4 s) (hX34 : ∀ x1 x2 x3 x4 s, X34 x1 x2 x3 x4 s → Y34 x1 x2 x3 x4 s) (hX93 : ∀ x1 x2 x3 s, X93 x1 x2 x3 s → Y93 x1 x2 x3 s) (hQ : ∀ r s, Q r s → R r s) {p1 : Int} {s : Mem} (h : x5_takeRow_be X11 X34 X93 Q p1 s) : x5_takeRow_be Y11 Y34 Y93 R p1 s :=
  x5_goOn_mono h (fun _ s1 h => hX11 _ _ _ _ _ h)
theorem x5_takeRow_m11 {X11 Y11 : Int → Int → Int → Int → Mem → Prop} {X34 Y34 : Int → Int → Int → Int → Mem → Prop} {X93 Y93 : Int → Int → Int → Mem → Prop} {Q R : Int → Mem → Prop} (hX11 : ∀ x1 x2 x3 x4 s, X11 x1 x2 x3 x4 s → Y11 x1 x2 x3 x4 s) (hX34 : ∀ x1 x2 x3 x4 s, X34 x1 x2 x3 x4 s → Y34 x1 x2 x3 x4 s) (hX93 : ∀ x1 x2 x3 s, X93 x1 x2 x3 s → Y93 x1 x2 x3 s) (hQ : ∀ r s, Q r s → R r s) {x1 : Int} {x2 : Int} {x3 : Int} {x4 : Int} {s : Mem} (h : x5_takeRow_b11 X11 X34 X93 Q x1 x2 x3 x4 s) : x5_takeRow_b11 Y11 Y34 Y93 R x1 x2 x3 x4 s :=
  ⟨h.1, fun c => have h := h.2.1 c; hX93 _ _ _ _ h, fun c => have h := h.2.2 c; ⟨h.1, fun c => have h := h.2.1 c; hX34 _ _ _ _ _ h, fun c => have h := h.2.2 c; ⟨h.1, fun c => have h := h.2.1 c; hX34 _ _ _ _ _ h, fun c => have h := h.2.2 c; hX93 _ _ _ _ h⟩⟩⟩
theorem x5_takeRow_m34 {X11 Y11 : Int → Int → Int → Int → Mem → Prop} {X34 Y34 : Int → Int → Int → Int → Mem → Prop} {X93 Y93 : Int → Int → Int → Mem → Prop} {Q R : Int → Mem → Prop} (hX11 : ∀ x1 x2 x3 x4 s, X11 x1 x2 x3 x4 s → Y11 x1 x2 x3 x4 s) (hX34 : ∀ x1 x2 x3 x4 s, X34 x1 x2 x3 x4 s → Y34 x1 x2 x3 x4 s) (hX93 : ∀ x1 x2 x3 s, X93 x1 x2 x3 s → Y93 x1 x2 x3 s) (hQ : ∀ r s, Q r s → R r s) {x1 : Int} {x2 : Int} {x3 : Int} {x4 : Int} {s : Mem} (h : x5_takeRow_b34 X11 X34 X93 Q x1 x2 x3 x4 s) : x5_takeRow_b34 Y11 Y34 Y93 R x1 x2 x3 x4 s :=
  x5_numberLies_mono h (fun r6 s5 h => ⟨h.1, fun c => have h := h.2.1 c; ⟨h.1, fun c => have h := h.2.1 c; fun v7 e_v7 => have h := h v7 e_v7; fun v8 e_v8 => have h := h v8 e_v8; x5_goOn_mono h (fun _ s9 h => hX11 _ _ _ _ _ h), fun c => have h := h.2.2 c; x5_faulty_mono h (fun r11 s10 h => ⟨h.1, hQ _ _ h.2⟩)⟩, fun c => have h := h.2.2 c; ⟨h.1, hQ _ _ h.2⟩⟩)
theorem x5_takeRow_m93 {X11 Y11 : Int → Int → Int → Int → Mem → Prop} {X34 Y34 : Int → Int → Int → Int → Mem → Prop} {X93 Y93 : Int → Int → Int → Mem → Prop} {Q R : Int → Mem → Prop} (hX11 : ∀ x1 x2 x3 x4 s, X11 x1 x2 x3 x4 s → Y11 x1 x2 x3 x4 s) (hX34 : ∀ x1 x2 x3 x4 s, X34 x1 x2 x3 x4 s → Y34 x1 x2 x3 x4 s) (hX93 : ∀ x1 x2 x3 s, X93 x1 x2 x3 s → Y93 x1 x2 x3 s) (hQ : ∀ r s, Q r s → R r s) {x1 : Int} {x2 : Int} {x3 : Int} {s : Mem} (h : x5_takeRow_b93 X11 X34 X93 Q x1 x2 x3 s) : x5_takeRow_b93 Y11 Y34 Y93 R x1 x2 x3 s :=
  ⟨h.1, have h := h.2; fun s14 e_s14 => have h := h s14 e_s14; ⟨h.1, fun c => have h := h.2.1 c; ⟨h.1, hQ _ _ h.2⟩, fun c => have h := h.2.2 c; x5_faulty_mono h (fun r16 s15 h => ⟨h.1, fun c => have h := h.2.1 c; ⟨h.1, hQ _ _ h.2⟩, fun c => have h := h.2.2 c; ⟨h.1, hQ _ _ h.2⟩⟩)⟩⟩
def x5_takeRow (p1 : Int) (s : Mem) (Q : Int → Mem → Prop) : Prop := ∀ (X11 : Int → Int → Int → Int → Mem → Prop) (X34 : Int → Int → Int → Int → Mem → Prop) (X93 : Int → Int → Int → Mem → Prop), (∀ x1 x2 x3 x4 s, x5_takeRow_b11 X11 X34 X93 Q x1 x2 x3 x4 s → X11 x1 x2 x3 x4 s) → (∀ x1 x2 x3 x4 s, x5_takeRow_b34 X11 X34 X93 Q x1 x2 x3 x4 s → X34 x1 x2 x3 x4 s) → (∀ x1 x2 x3 s, x5_takeRow_b93 X11 X34 X93 Q x1 x2 x3 s → X93 x1 x2 x3 s) → x5_takeRow_be X11 X34 X93 Q p1 s
def x5_takeRow_L11 (Q : Int → Mem → Prop) (x1 : Int) (x2 : Int) (x3 : Int) (x4 : Int) (s : Mem) : Prop := ∀ (X11 : Int → Int → Int → Int → Mem → Prop) (X34 : Int → Int → Int → Int → Mem → Prop) (X93 : Int → Int → Int → Mem → Prop), (∀ x1 x2 x3 x4 s, x5_takeRow_b11 X11 X34 X93 Q x1 x2 x3 x4 s → X11 x1 x2 x3 x4 s) → (∀ x1 x2 x3 x4 s, x5_takeRow_b34 X11 X34 X93 Q x1 x2 x3 x4 s → X34 x1 x2 x3 x4 s) → (∀ x1 x2 x3 s, x5_takeRow_b93 X11 X34 X93 Q x1 x2 x3 s → X93 x1 x2 x3 s) → X11 x1 x2 x3 x4 s
def x5_takeRow_L34 (Q : Int → Mem → Prop) (x1 : Int) (x2 : Int) (x3 : Int) (x4 : Int) (s : Mem) : Prop := ∀ (X11 : Int → Int → Int → Int → Mem → Prop) (X34 : Int → Int → Int → Int → Mem → Prop) (X93 : Int → Int → Int → Mem → Prop), (∀ x1 x2 x3 x4 s, x5_takeRow_b11 X11 X34 X93 Q x1 x2 x3 x4 s → X11 x1 x2 x3 x4 s) → (∀ x1 x2 x3 x4 s, x5_takeRow_b34 X11 X34 X93 Q x1 x2 x3 x4 s → X34 x1 x2 x3 x4 s) → (∀ x1 x2 x3 s, x5_takeRow_b93 X11 X34 X93 Q x1 x2 x3 s → X93 x1 x2 x3 s) → X34 x1 x2 x3 x4 s
def x5_takeRow_L93 (Q : Int → Mem → Prop) (x1 : Int) (x2 : Int) (x3 : Int) (s : Mem) : Prop := ∀ (X11 : Int → Int → Int → Int → Mem → Prop) (X34 : Int → Int → Int → Int → Mem → Prop) (X93 : Int → Int → Int → Mem → Prop), (∀ x1 x2 x3 x4 s, x5_takeRow_b11 X11 X34 X93 Q x1 x2 x3 x4 s → X11 x1 x2 x3 x4 s) → (∀ x1 x2 x3 x4 s, x5_takeRow_b34 X11 X34 X93 Q x1 x2 x3 x4 s → X34 x1 x2 x3 x4 s) → (∀ x1 x2 x3 s, x5_takeRow_b93 X11 X34 X93 Q x1 x2 x3 s → X93 x1 x2 x3 s) → X93 x1 x2 x3 s
theorem x5_takeRow_i {Q : Int → Mem → Prop} {p1 : Int} {s : Mem} (h : x5_takeRow_be (x5_takeRow_L11 Q) (x5_takeRow_L34 Q) (x5_takeRow_L93 Q) Q p1 s) : x5_takeRow p1 s Q := fun X11 X34 X93 k11 k34 k93 => x5_takeRow_me (fun _ _ _ _ _ h => h X11 X34 X93 k11 k34 k93) (fun _ _ _ _ _ h => h X11 X34 X93 k11 k34 k93) (fun _ _ _ _ h => h X11 X34 X93 k11 k34 k93) (fun _ _ h => h) h
theorem x5_takeRow_s11 {Q : Int → Mem → Prop} {x1 : Int} {x2 : Int} {x3 : Int} {x4 : Int} {s : Mem} (h : x5_takeRow_b11 (x5_takeRow_L11 Q) (x5_takeRow_L34 Q) (x5_takeRow_L93 Q) Q x1 x2 x3 x4 s) : x5_takeRow_L11 Q x1 x2 x3 x4 s := fun X11 X34 X93 k11 k34 k93 => k11 _ _ _ _ _ (x5_takeRow_m11 (fun _ _ _ _ _ h => h X11 X34 X93 k11 k34 k93) (fun _ _ _ _ _ h => h X11 X34 X93 k11 k34 k93) (fun _ _ _ _ h => h X11 X34 X93 k11 k34 k93) (fun _ _ h => h) h)
theorem x5_takeRow_s34 {Q : Int → Mem → Prop} {x1 : Int} {x2 : Int} {x3 : Int} {x4 : Int} {s : Mem} (h : x5_takeRow_b34 (x5_takeRow_L11 Q) (x5_takeRow_L34 Q) (x5_takeRow_L93 Q) Q x1 x2 x3 x4 s) : x5_takeRow_L34 Q x1 x2 x3 x4 s := fun X11 X34 X93 k11 k34 k93 => k34 _ _ _ _ _ (x5_takeRow_m34 (fun _ _ _ _ _ h => h X11 X34 X93 k11 k34 k93) (fun _ _ _ _ _ h => h X11 X34 X93 k11 k34 k93) (fun _ _ _ _ h => h X11 X34 X93 k11 k34 k93) (fun _ _ h => h) h)
theorem x5_takeRow_s93 {Q : Int → Mem → Prop} {x1 : Int} {x2 : Int} {x3 : Int} {s : Mem} (h : x5_takeRow_b93 (x5_takeRow_L11 Q) (x5_takeRow_L34 Q) (x5_takeRow_L93 Q) Q x1 x2 x3 s) : x5_takeRow_L93 Q x1 x2 x3 s := fun X11 X34 X93 k11 k34 k93 => k93 _ _ _ _ (x5_takeRow_m93 (fun _ _ _ _ _ h => h X11 X34 X93 k11 k34 k93) (fun _ _ _ _ _ h => h X11 X34 X93 k11 k34 k93) (fun _ _ _ _ h => h X11 X34 X93 k11 k34 k93) (fun _ _ h => h) h)
theorem x5_takeRow_mono {Q R : Int → Mem → Prop} {p1 : Int} {s : Mem} (h : x5_takeRow p1 s Q) (hQ : ∀ r s, Q r s → R r s) : x5_takeRow p1 s R := fun X11 X34 X93 k11 k34 k93 => x5_takeRow_me (fun _ _ _ _ _ h => h) (fun _ _ _ _ _ h => h) (fun _ _ _ _ h => h) hQ (h X11 X34 X93 (fun _ _ _ _ _ h => k11 _ _ _ _ _ (x5_takeRow_m11 (fun _ _ _ _ _ h => h) (fun _ _ _ _ _ h => h) (fun _ _ _ _ h => h) hQ h)) (fun _ _ _ _ _ h => k34 _ _ _ _ _ (x5_takeRow_m34 (fun _ _ _ _ _ h => h) (fun _ _ _ _ _ h => h) (fun _ _ _ _ h => h) hQ h)) (fun _ _ _ _ h => k93 _ _ _ _ (x5_takeRow_m93 (fun _ _ _ _ _ h => h) (fun _ _ _ _ _ h => h) (fun _ _ _ _ h => h) hQ h)))
def x5_takeRow_rm : Room := { frames := 7, cells := 0, slots := 0, locals := 150 }
theorem w_x5_takeRow_45 : Cond.fieldLink RX5 45 "BoltRing$Orders" "token" "I" ∈ wsX5_takeRow := by decide +kernel
theorem w_x5_takeRow_71 : Cond.fieldLink RX5 71 "BoltRing$Orders" "value" "I" ∈ wsX5_takeRow := by decide +kernel
theorem w_x5_takeRow_19 : Cond.fieldLink RX5 19 "BoltRing$Orders" "firsts" "[I" ∈ wsX5_takeRow := by decide +kernel
theorem w_x5_takeRow_33 : Cond.fieldLink RX5 33 "BoltRing$Orders" "clauses" "I" ∈ wsX5_takeRow := by decide +kernel
theorem in_x5_takeRow_X5 : ∀ w ∈ wsX50, w ∈ wsX5_takeRow := by decide +kernel
set_option maxHeartbeats 4000000 in
set_option maxRecDepth 100000 in
theorem x5_takeRow_bd {κ : KT} {ad : Nat → Nat} {cA : Nat → ClassId} {D : va_G} {Q : State → Prop} {p1 : Int} {s : Mem} (C : CX κ (GA ad cA D) RX5 cX5_takeRow 5 wsX5_takeRow x5_takeRow_rm (some .boolean)) (h : x5_takeRow p1 s (RT κ (GA ad cA D) ocI Q)) : WM κ (GA ad cA D) 5 Q s 0 [(0, .ref (ad 37)), (1, vI p1)] [] := by
  obtain ⟨Z11, z11⟩ : ∃ Z : Int → Int → Int → Int → Mem → Prop, ∀ x1 x2 x3 x4 s, Z x1 x2 x3 x4 s ↔ WM κ (GA ad cA D) 5 Q s 11 [(0, .ref (ad 37)), (1, vI x1), (2, vI x2), (3, vI x3), (4, vI x4)] [] := ⟨fun x1 x2 x3 x4 s => WM κ (GA ad cA D) 5 Q s 11 [(0, .ref (ad 37)), (1, vI x1), (2, vI x2), (3, vI x3), (4, vI x4)] [], fun _ _ _ _ _ => Iff.rfl⟩
  obtain ⟨Z34, z34⟩ : ∃ Z : Int → Int → Int → Int → Mem → Prop, ∀ x1 x2 x3 x4 s, Z x1 x2 x3 x4 s ↔ WM κ (GA ad cA D) 5 Q s 34 [(0, .ref (ad 37)), (1, vI x1), (2, vI x2), (3, vI x3), (4, vI x4)] [] := ⟨fun x1 x2 x3 x4 s => WM κ (GA ad cA D) 5 Q s 34 [(0, .ref (ad 37)), (1, vI x1), (2, vI x2), (3, vI x3), (4, vI x4)] [], fun _ _ _ _ _ => Iff.rfl⟩
  obtain ⟨Z93, z93⟩ : ∃ Z : Int → Int → Int → Mem → Prop, ∀ x1 x2 x3 s, Z x1 x2 x3 s ↔ WM κ (GA ad cA D) 5 Q s 93 [(0, .ref (ad 37)), (1, vI x1), (2, vI x2), (3, vI x3)] [] := ⟨fun x1 x2 x3 s => WM κ (GA ad cA D) 5 Q s 93 [(0, .ref (ad 37)), (1, vI x1), (2, vI x2), (3, vI x3)] [], fun _ _ _ _ => Iff.rfl⟩
  refine (fun h => ?_) (h Z11 Z34 Z93 ?_ ?_ ?_)
  · refine r_iconst C dX5_takeRow_0 ?_
    refine r_istore_n (ls' := [(2, vI (0 : Int)), (0, .ref (ad 37)), (1, vI p1)]) C dX5_takeRow_1 rfl (by decide) rfl ?_
    refine r_iconst C dX5_takeRow_2 ?_
    refine r_istore_n (ls' := [(3, vI (0 : Int)), (2, vI (0 : Int)), (0, .ref (ad 37)), (1, vI p1)]) C dX5_takeRow_3 rfl (by decide) rfl ?_
    refine r_aload_n C 2 dX5_takeRow_4 rfl ?_
    refine r_callV (As := []) (o := 37) (n := 0) C dX5_takeRow_5 (x5_goOn_ct κ.1.2.1 ad cA D s) gX5_takeRow_X5_goOn rfl ⟨rfl, rfl⟩ (by decide +kernel) (by decide) (shA_37) rfl rfl rfl (Nat.le_of_ble_eq_true rfl) (fun _ => rfl) ?_
    refine x5_goOn_mono h (fun _ s1 h => ?_)
    refine r_iconst C dX5_takeRow_8 ?_
    refine r_istore (ls' := [(4, vI (0 : Int)), (3, vI (0 : Int)), (2, vI (0 : Int)), (0, .ref (ad 37)), (1, vI p1)]) C dX5_takeRow_9 (by decide) rfl ?_
    exact r_perm [3, 4, 2, 1, 0] rfl ((z11 _ _ _ _ _).1 h)
  · intro x1 x2 x3 x4 s h
    refine (z11 _ _ _ _ _).2 ?_
    refine r_iload C 4 dX5_takeRow_11 rfl ?_
    refine r_iload_n C 1 dX5_takeRow_13 rfl ?_
    refine r_icmp_gt (tgt := 93) C dX5_takeRow_14 (by decide) ⟨h.1, fun c4 => ?_, fun c4 => ?_⟩
    · have h := h.2.1 c4
      exact r_perm [0, 1, 2, 3] rfl ((z93 _ _ _ _).1 h)
    · have h := h.2.2 c4
      refine r_iload C 4 dX5_takeRow_17 rfl ?_
      refine r_if_le (tgt := 34) C dX5_takeRow_19 (by decide) ⟨h.1, fun c3 => ?_, fun c3 => ?_⟩
      · have h := h.2.1 c3
        exact r_perm [0, 1, 2, 3, 4] rfl ((z34 _ _ _ _ _).1 h)
      · have h := h.2.2 c3
        refine r_aload_n C 0 dX5_takeRow_22 rfl ?_
        refine r_get (j := 9) (jz := 9) (v := vI (s 37 (9 : Int))) C dX5_takeRow_23 (shA_37) rfl rfl (by decide) in_x5_takeRow_X5 w_x5_takeRow_45 rfl rfl rfl ?_
        refine r_bipush C dX5_takeRow_26 (by decide) ?_
        refine r_icmp_ne (tgt := 34) C dX5_takeRow_28 (by decide) ⟨h.1, fun c2 => ?_, fun c2 => ?_⟩
        · have h := h.2.1 c2
          exact r_perm [0, 1, 2, 3, 4] rfl ((z34 _ _ _ _ _).1 h)
        · have h := h.2.2 c2
          refine r_goto (tgt := 93) C dX5_takeRow_31 (by decide) ?_
          exact r_perm [0, 1, 2, 3] rfl ((z93 _ _ _ _).1 h)
  · intro x1 x2 x3 x4 s h
    refine (z34 _ _ _ _ _).2 ?_
    refine r_aload_n C 0 dX5_takeRow_34 rfl ?_
    refine r_iconst C dX5_takeRow_35 ?_
    refine r_iload_n C 1 dX5_takeRow_36 rfl ?_
    refine r_iconst C dX5_takeRow_37 ?_
    refine r_isub C dX5_takeRow_38 ?_
    refine r_callV (As := [vI (0 : Int), vI (x1 - (1 : Int))]) (o := 37) (n := 2) C dX5_takeRow_39 (x5_numberLies_ct κ.1.2.1 ad cA D (0 : Int) (x1 - (1 : Int)) s) gX5_takeRow_X5_numberLies rfl ⟨rfl, rfl⟩ (by decide +kernel) (by decide) (shA_37) rfl rfl rfl (Nat.le_of_ble_eq_true rfl) (fun _ => rfl) ?_
    refine x5_numberLies_mono h (fun r6 s5 h => ?_)
    refine r_if_ne (tgt := 47) C dX5_takeRow_42 (by decide) ⟨h.1, fun c13 => ?_, fun c13 => ?_⟩
    · have h := h.2.1 c13
      refine r_iload_n C 2 dX5_takeRow_47 rfl ?_
      refine r_aload_n C 0 dX5_takeRow_48 rfl ?_
      refine r_get (j := 11) (jz := 11) (v := vI (s5 37 (11 : Int))) C dX5_takeRow_49 (shA_37) rfl rfl (by decide) in_x5_takeRow_X5 w_x5_takeRow_71 rfl rfl rfl ?_
      refine r_ishr C dX5_takeRow_52 ?_
      refine r_iconst C dX5_takeRow_53 ?_
      refine r_iand C dX5_takeRow_54 ?_
      refine r_if_eq (tgt := 64) C dX5_takeRow_55 (by decide) ⟨h.1, fun c12 => ?_, fun c12 => ?_⟩
      · have h := h.2.1 c12
        refine r_iload_n C 2 dX5_takeRow_64 rfl ?_
        refine r_iconst C dX5_takeRow_65 ?_
        refine r_aload_n C 0 dX5_takeRow_66 rfl ?_
        refine r_get (j := 11) (jz := 11) (v := vI (s5 37 (11 : Int))) C dX5_takeRow_67 (shA_37) rfl rfl (by decide) in_x5_takeRow_X5 w_x5_takeRow_71 rfl rfl rfl ?_
        refine r_ishl C dX5_takeRow_70 ?_
        refine r_ior C dX5_takeRow_71 ?_
        refine r_topI (fun v7 e_v7 => ?_)
        have h := h v7 e_v7
        refine r_istore_n (ls' := [(2, vI v7), (0, .ref (ad 37)), (1, vI x1), (3, vI x3), (4, vI x4)]) C dX5_takeRow_72 rfl (by decide) rfl ?_
        refine r_bipush C dX5_takeRow_73 (by decide) ?_
        refine r_iload_n C 3 dX5_takeRow_75 rfl ?_
        refine r_imul C dX5_takeRow_76 ?_
        refine r_aload_n C 1 dX5_takeRow_77 rfl ?_
        refine r_get (j := 11) (jz := 11) (v := vI (s5 37 (11 : Int))) C dX5_takeRow_78 (shA_37) rfl rfl (by decide) in_x5_takeRow_X5 w_x5_takeRow_71 rfl rfl rfl ?_
        refine r_iadd C dX5_takeRow_81 ?_
        refine r_topI (fun v8 e_v8 => ?_)
        have h := h v8 e_v8
        refine r_istore_n (ls' := [(3, vI v8), (2, vI v7), (0, .ref (ad 37)), (1, vI x1), (4, vI x4)]) C dX5_takeRow_82 rfl (by decide) rfl ?_
        refine r_aload_n C 2 dX5_takeRow_83 rfl ?_
        refine r_callV (As := []) (o := 37) (n := 0) C dX5_takeRow_84 (x5_goOn_ct κ.1.2.1 ad cA D s5) gX5_takeRow_X5_goOn rfl ⟨rfl, rfl⟩ (by decide +kernel) (by decide) (shA_37) rfl rfl rfl (Nat.le_of_ble_eq_true rfl) (fun _ => rfl) ?_
        refine x5_goOn_mono h (fun _ s9 h => ?_)
        refine r_iinc (j := 4) (ls' := [(4, vI (x4 + (1 : Int))), (3, vI v8), (2, vI v7), (0, .ref (ad 37)), (1, vI x1)]) C dX5_takeRow_87 rfl (by decide) rfl ?_
        refine r_goto (tgt := 11) C dX5_takeRow_90 (by decide) ?_
        exact r_perm [3, 4, 2, 1, 0] rfl ((z11 _ _ _ _ _).1 h)
      · have h := h.2.2 c12
        refine r_aload_n C 0 dX5_takeRow_58 rfl ?_
        refine r_iconst C dX5_takeRow_59 ?_
        refine r_callV (As := [vI (3 : Int)]) (o := 37) (n := 1) C dX5_takeRow_60 (x5_faulty_ct κ.1.2.1 ad cA D (3 : Int) s5) gX5_takeRow_X5_faulty rfl ⟨rfl, rfl⟩ (by decide +kernel) (by decide) (shA_37) rfl rfl rfl (Nat.le_of_ble_eq_true rfl) (fun _ => rfl) ?_
        refine x5_faulty_mono h (fun r11 s10 h => ?_)
        exact r_zreturn C dX5_takeRow_63 h
    · have h := h.2.2 c13
      refine r_iconst C dX5_takeRow_45 ?_
      exact r_zreturn C dX5_takeRow_46 h
  · intro x1 x2 x3 s h
    refine (z93 _ _ _ _).2 ?_
    refine r_aload_n C 0 dX5_takeRow_93 rfl ?_
    refine r_get (j := 5) (jz := 5) (v := .ref (ad 39)) C dX5_takeRow_94 (shA_37) rfl rfl (by decide) in_x5_takeRow_X5 w_x5_takeRow_19 rfl rfl rfl ?_
    refine r_aload_n C 0 dX5_takeRow_97 rfl ?_
    refine r_get (j := 3) (jz := 3) (v := vI (s 37 (3 : Int))) C dX5_takeRow_98 (shA_37) rfl rfl (by decide) in_x5_takeRow_X5 w_x5_takeRow_33 rfl rfl rfl ?_
    refine r_iload_n C 3 dX5_takeRow_101 rfl ?_
    refine r_iast (nz := 12) C dX5_takeRow_102 (shA_39) rfl (by decide) ⟨h.1, fun s14 e_s14 => ?_⟩
    have h := h.2 s14 e_s14
    refine r_iload_n C 2 dX5_takeRow_103 rfl ?_
    refine r_iconst C dX5_takeRow_104 ?_
    refine r_iload_n C 1 dX5_takeRow_105 rfl ?_
    refine r_ishl C dX5_takeRow_106 ?_
    refine r_iconst C dX5_takeRow_107 ?_
    refine r_isub C dX5_takeRow_108 ?_
    refine r_icmp_eq (tgt := 120) C dX5_takeRow_109 (by decide) ⟨h.1, fun c18 => ?_, fun c18 => ?_⟩
    · have h := h.2.1 c18
      refine r_iconst C dX5_takeRow_120 ?_
      refine r_goto (tgt := 125) C dX5_takeRow_121 (by decide) ?_
      exact r_zreturn C dX5_takeRow_125 h
    · have h := h.2.2 c18
      refine r_aload_n C 0 dX5_takeRow_112 rfl ?_
      refine r_iconst C dX5_takeRow_113 ?_
      refine r_callV (As := [vI (4 : Int)]) (o := 37) (n := 1) C dX5_takeRow_114 (x5_faulty_ct κ.1.2.1 ad cA D (4 : Int) s14) gX5_takeRow_X5_faulty rfl ⟨rfl, rfl⟩ (by decide +kernel) (by decide) (shA_37) rfl rfl rfl (Nat.le_of_ble_eq_true rfl) (fun _ => rfl) ?_
      refine x5_faulty_mono h (fun r16 s15 h => ?_)
      refine r_if_eq (tgt := 124) C dX5_takeRow_117 (by decide) ⟨h.1, fun c17 => ?_, fun c17 => ?_⟩
      · have h := h.2.1 c17
        refine r_iconst C dX5_takeRow_124 ?_
        exact r_zreturn C dX5_takeRow_125 h
      · have h := h.2.2 c17
        refine r_iconst C dX5_takeRow_120 ?_
        refine r_goto (tgt := 125) C dX5_takeRow_121 (by decide) ?_
        exact r_zreturn C dX5_takeRow_125 h
theorem x5_takeRow_ct (l : Launch) (ad : Nat → Nat) (cA : Nat → ClassId) (D : va_G) (p1 : Int) (s : Mem) : MG l yX5_takeRow wsX5_takeRow x5_takeRow_rm ocI [.ref (ad 37), vI p1] (GA ad cA D) s (x5_takeRow p1 s) :=
  m_met (own := RX5) (nL := 5) (by decide) rfl rfl (Nat.le_of_ble_eq_true rfl) rfl rfl rfl (fun κ hl C Q Pst hW hQ => x5_takeRow_bd C (x5_takeRow_mono hW hQ))

def x5_takeClause (p1 : Int) (s : Mem) (Q : Int → Mem → Prop) : Prop :=
  (InI (s 37 (9 : Int)) ∧ InI (5 : Int)) ∧ ((s 37 (9 : Int)) ≤ (5 : Int) → (InI (s 37 (3 : Int)) ∧ InI (12 : Int)) ∧ (¬ (s 37 (3 : Int)) = (12 : Int) → ((0 : Int) ≤ (s 37 (3 : Int)) ∧ (s 37 (3 : Int)) < 12) ∧ ∀ s1 : Mem, s1 = m_upd s 38 (s 37 (3 : Int)) (s 37 (9 : Int)) → InI (s1 37 (9 : Int)) ∧ (((s1 37 (9 : Int)) = 0) → x5_takeFirst (0 : Int) (p1 - (1 : Int)) s1 (fun r4 s3 => InI r4 ∧ (r4 = (0 : Int) → ((0 : Int) ≤ (0 : Int) ∧ (0 : Int) ≤ 1) ∧ Q (0 : Int) s3) ∧ (¬ r4 = (0 : Int) → x5_take (6 : Int) s3 (fun r6 s5 => InI r6 ∧ (r6 = (0 : Int) → ((0 : Int) ≤ (0 : Int) ∧ (0 : Int) ≤ 1) ∧ Q (0 : Int) s5) ∧ (¬ r6 = (0 : Int) → x5_takeSecond (1 : Int) (900 : Int) s5 (fun r8 s7 => InI r8 ∧ (r8 = (0 : Int) → ((0 : Int) ≤ (0 : Int) ∧ (0 : Int) ≤ 1) ∧ Q (0 : Int) s7) ∧ (¬ r8 = (0 : Int) → x5_take (9 : Int) s7 (fun r10 s9 => InI r10 ∧ (r10 = (0 : Int) → ((0 : Int) ≤ (0 : Int) ∧ (0 : Int) ≤ 1) ∧ Q (0 : Int) s9) ∧ (¬ r10 = (0 : Int) → ((0 : Int) ≤ (1 : Int) ∧ (1 : Int) ≤ 1) ∧ Q (1 : Int) s9))))))))) ∧ (((s1 37 (9 : Int)) = 1) → x5_takeFirst (1 : Int) (900 : Int) s1 (fun r16 s15 => InI r16 ∧ (r16 = (0 : Int) → ((0 : Int) ≤ (0 : Int) ∧ (0 : Int) ≤ 1) ∧ Q (0 : Int) s15) ∧ (¬ r16 = (0 : Int) → x5_take (9 : Int) s15 (fun r18 s17 => InI r18 ∧ (r18 = (0 : Int) → ((0 : Int) ≤ (0 : Int) ∧ (0 : Int) ≤ 1) ∧ Q (0 : Int) s17) ∧ (¬ r18 = (0 : Int) → ((0 : Int) ≤ (1 : Int) ∧ (1 : Int) ≤ 1) ∧ Q (1 : Int) s17))))) ∧ (((s1 37 (9 : Int)) = 2) → x5_takeFirst (0 : Int) (p1 - (1 : Int)) s1 (fun r22 s21 => InI r22 ∧ (r22 = (0 : Int) → ((0 : Int) ≤ (0 : Int) ∧ (0 : Int) ≤ 1) ∧ Q (0 : Int) s21) ∧ (¬ r22 = (0 : Int) → x5_take (7 : Int) s21 (fun r24 s23 => InI r24 ∧ (r24 = (0 : Int) → ((0 : Int) ≤ (0 : Int) ∧ (0 : Int) ≤ 1) ∧ Q (0 : Int) s23) ∧ (¬ r24 = (0 : Int) → x5_takeSecond (0 : Int) (200 : Int) s23 (fun r26 s25 => InI r26 ∧ (r26 = (0 : Int) → ((0 : Int) ≤ (0 : Int) ∧ (0 : Int) ≤ 1) ∧ Q (0 : Int) s25) ∧ (¬ r26 = (0 : Int) → x5_take (9 : Int) s25 (fun r28 s27 => InI r28 ∧ (r28 = (0 : Int) → ((0 : Int) ≤ (0 : Int) ∧ (0 : Int) ≤ 1) ∧ Q (0 : Int) s27) ∧ (¬ r28 = (0 : Int) → ((0 : Int) ≤ (1 : Int) ∧ (1 : Int) ≤ 1) ∧ Q (1 : Int) s27))))))))) ∧ (((s1 37 (9 : Int)) = 3 ∨ (s1 37 (9 : Int)) = 4) → x5_takeFirst (0 : Int) (p1 - (1 : Int)) s1 (fun r34 s33 => InI r34 ∧ (r34 = (0 : Int) → ((0 : Int) ≤ (0 : Int) ∧ (0 : Int) ≤ 1) ∧ Q (0 : Int) s33) ∧ (¬ r34 = (0 : Int) → x5_take (9 : Int) s33 (fun r36 s35 => InI r36 ∧ (r36 = (0 : Int) → ((0 : Int) ≤ (0 : Int) ∧ (0 : Int) ≤ 1) ∧ Q (0 : Int) s35) ∧ (¬ r36 = (0 : Int) → ((0 : Int) ≤ (1 : Int) ∧ (1 : Int) ≤ 1) ∧ Q (1 : Int) s35))))) ∧ (((s1 37 (9 : Int)) < 0 ∨ 4 < (s1 37 (9 : Int))) → x5_takeRow p1 s1 (fun r40 s39 => ((0 : Int) ≤ r40 ∧ r40 ≤ 1) ∧ Q r40 s39))) ∧ ((s 37 (3 : Int)) = (12 : Int) → x5_faulty (5 : Int) s (fun r42 s41 => ((0 : Int) ≤ r42 ∧ r42 ≤ 1) ∧ Q r42 s41))) ∧ ((5 : Int) < (s 37 (9 : Int)) → x5_faulty (1 : Int) s (fun r45 s44 => ((0 : Int) ≤ r45 ∧ r45 ≤ 1) ∧ Q r45 s44))
theorem x5_takeClause_mono {Q R : Int → Mem → Prop} {p1 : Int} {s : Mem} (h : x5_takeClause p1 s Q) (hQ : ∀ r s, Q r s → R r s) : x5_takeClause p1 s R :=
  ⟨h.1, fun c => have h := h.2.1 c; ⟨h.1, fun c => have h := h.2.1 c; ⟨h.1, have h := h.2; fun s1 e_s1 => have h := h s1 e_s1; ⟨h.1, fun c => have h := h.2.1 c; x5_takeFirst_mono h (fun r4 s3 h => ⟨h.1, fun c => have h := h.2.1 c; ⟨h.1, hQ _ _ h.2⟩, fun c => have h := h.2.2 c; x5_take_mono h (fun r6 s5 h => ⟨h.1, fun c => have h := h.2.1 c; ⟨h.1, hQ _ _ h.2⟩, fun c => have h := h.2.2 c; x5_takeSecond_mono h (fun r8 s7 h => ⟨h.1, fun c => have h := h.2.1 c; ⟨h.1, hQ _ _ h.2⟩, fun c => have h := h.2.2 c; x5_take_mono h (fun r10 s9 h => ⟨h.1, fun c => have h := h.2.1 c; ⟨h.1, hQ _ _ h.2⟩, fun c => have h := h.2.2 c; ⟨h.1, hQ _ _ h.2⟩⟩)⟩)⟩)⟩), fun c => have h := h.2.2.1 c; x5_takeFirst_mono h (fun r16 s15 h => ⟨h.1, fun c => have h := h.2.1 c; ⟨h.1, hQ _ _ h.2⟩, fun c => have h := h.2.2 c; x5_take_mono h (fun r18 s17 h => ⟨h.1, fun c => have h := h.2.1 c; ⟨h.1, hQ _ _ h.2⟩, fun c => have h := h.2.2 c; ⟨h.1, hQ _ _ h.2⟩⟩)⟩), fun c => have h := h.2.2.2.1 c; x5_takeFirst_mono h (fun r22 s21 h => ⟨h.1, fun c => have h := h.2.1 c; ⟨h.1, hQ _ _ h.2⟩, fun c => have h := h.2.2 c; x5_take_mono h (fun r24 s23 h => ⟨h.1, fun c => have h := h.2.1 c; ⟨h.1, hQ _ _ h.2⟩, fun c => have h := h.2.2 c; x5_takeSecond_mono h (fun r26 s25 h => ⟨h.1, fun c => have h := h.2.1 c; ⟨h.1, hQ _ _ h.2⟩, fun c => have h := h.2.2 c; x5_take_mono h (fun r28 s27 h => ⟨h.1, fun c => have h := h.2.1 c; ⟨h.1, hQ _ _ h.2⟩, fun c => have h := h.2.2 c; ⟨h.1, hQ _ _ h.2⟩⟩)⟩)⟩)⟩), fun c => have h := h.2.2.2.2.1 c; x5_takeFirst_mono h (fun r34 s33 h => ⟨h.1, fun c => have h := h.2.1 c; ⟨h.1, hQ _ _ h.2⟩, fun c => have h := h.2.2 c; x5_take_mono h (fun r36 s35 h => ⟨h.1, fun c => have h := h.2.1 c; ⟨h.1, hQ _ _ h.2⟩, fun c => have h := h.2.2 c; ⟨h.1, hQ _ _ h.2⟩⟩)⟩), fun c => have h := h.2.2.2.2.2 c; x5_takeRow_mono h (fun r40 s39 h => ⟨h.1, hQ _ _ h.2⟩)⟩⟩, fun c => have h := h.2.2 c; x5_faulty_mono h (fun r42 s41 h => ⟨h.1, hQ _ _ h.2⟩)⟩, fun c => have h := h.2.2 c; x5_faulty_mono h (fun r45 s44 h => ⟨h.1, hQ _ _ h.2⟩)⟩
def x5_takeClause_rm : Room := { frames := 8, cells := 0, slots := 0, locals := 174 }
theorem w_x5_takeClause_45 : Cond.fieldLink RX5 45 "BoltRing$Orders" "token" "I" ∈ wsX5_takeClause := by decide +kernel
theorem w_x5_takeClause_33 : Cond.fieldLink RX5 33 "BoltRing$Orders" "clauses" "I" ∈ wsX5_takeClause := by decide +kernel
theorem w_x5_takeClause_15 : Cond.fieldLink RX5 15 "BoltRing$Orders" "kinds" "[I" ∈ wsX5_takeClause := by decide +kernel
theorem in_x5_takeClause_X5 : ∀ w ∈ wsX50, w ∈ wsX5_takeClause := by decide +kernel
set_option maxHeartbeats 4000000 in
set_option maxRecDepth 100000 in
theorem x5_takeClause_bd {κ : KT} {ad : Nat → Nat} {cA : Nat → ClassId} {D : va_G} {Q : State → Prop} {p1 : Int} {s : Mem} (C : CX κ (GA ad cA D) RX5 cX5_takeClause 2 wsX5_takeClause x5_takeClause_rm (some .boolean)) (h : x5_takeClause p1 s (RT κ (GA ad cA D) ocI Q)) : WM κ (GA ad cA D) 2 Q s 0 [(0, .ref (ad 37)), (1, vI p1)] [] := by
  refine r_aload_n C 0 dX5_takeClause_0 rfl ?_
  refine r_get (j := 9) (jz := 9) (v := vI (s 37 (9 : Int))) C dX5_takeClause_1 (shA_37) rfl rfl (by decide) in_x5_takeClause_X5 w_x5_takeClause_45 rfl rfl rfl ?_
  refine r_iconst C dX5_takeClause_4 ?_
  refine r_icmp_le (tgt := 14) C dX5_takeClause_5 (by decide) ⟨h.1, fun c46 => ?_, fun c46 => ?_⟩
  · have h := h.2.1 c46
    refine r_aload_n C 0 dX5_takeClause_14 rfl ?_
    refine r_get (j := 3) (jz := 3) (v := vI (s 37 (3 : Int))) C dX5_takeClause_15 (shA_37) rfl rfl (by decide) in_x5_takeClause_X5 w_x5_takeClause_33 rfl rfl rfl ?_
    refine r_bipush C dX5_takeClause_18 (by decide) ?_
    refine r_icmp_ne (tgt := 29) C dX5_takeClause_20 (by decide) ⟨h.1, fun c43 => ?_, fun c43 => ?_⟩
    · have h := h.2.1 c43
      refine r_aload_n C 0 dX5_takeClause_29 rfl ?_
      refine r_get (j := 4) (jz := 4) (v := .ref (ad 38)) C dX5_takeClause_30 (shA_37) rfl rfl (by decide) in_x5_takeClause_X5 w_x5_takeClause_15 rfl rfl rfl ?_
      refine r_aload_n C 0 dX5_takeClause_33 rfl ?_
      refine r_get (j := 3) (jz := 3) (v := vI (s 37 (3 : Int))) C dX5_takeClause_34 (shA_37) rfl rfl (by decide) in_x5_takeClause_X5 w_x5_takeClause_33 rfl rfl rfl ?_
      refine r_aload_n C 0 dX5_takeClause_37 rfl ?_
      refine r_get (j := 9) (jz := 9) (v := vI (s 37 (9 : Int))) C dX5_takeClause_38 (shA_37) rfl rfl (by decide) in_x5_takeClause_X5 w_x5_takeClause_45 rfl rfl rfl ?_
      refine r_iast (nz := 12) C dX5_takeClause_41 (shA_38) rfl (by decide) ⟨h.1, fun s1 e_s1 => ?_⟩
      have h := h.2 s1 e_s1
      refine r_aload_n C 0 dX5_takeClause_42 rfl ?_
      refine r_get (j := 9) (jz := 9) (v := vI (s1 37 (9 : Int))) C dX5_takeClause_43 (shA_37) rfl rfl (by decide) in_x5_takeClause_X5 w_x5_takeClause_45 rfl rfl rfl ?_
      have hI := h.1
      by_cases c2 : (s1 37 (9 : Int)) = 0
      · have h := h.2.1 c2
        refine r_tsIn (tgt := 80) C 0 dX5_takeClause_46 rfl (by decide) c2 hI (by decide) ?_
        refine r_aload_n C 0 dX5_takeClause_80 rfl ?_
        refine r_iconst C dX5_takeClause_81 ?_
        refine r_iload_n C 1 dX5_takeClause_82 rfl ?_
        refine r_iconst C dX5_takeClause_83 ?_
        refine r_isub C dX5_takeClause_84 ?_
        refine r_callV (As := [vI (0 : Int), vI (p1 - (1 : Int))]) (o := 37) (n := 2) C dX5_takeClause_85 (x5_takeFirst_ct κ.1.2.1 ad cA D (0 : Int) (p1 - (1 : Int)) s1) gX5_takeClause_X5_takeFirst rfl ⟨rfl, rfl⟩ (by decide +kernel) (by decide) (shA_37) rfl rfl rfl (Nat.le_of_ble_eq_true rfl) (fun _ => rfl) ?_
        refine x5_takeFirst_mono h (fun r4 s3 h => ?_)
        refine r_if_eq (tgt := 124) C dX5_takeClause_88 (by decide) ⟨h.1, fun c14 => ?_, fun c14 => ?_⟩
        · have h := h.2.1 c14
          refine r_iconst C dX5_takeClause_124 ?_
          exact r_zreturn C dX5_takeClause_125 h
        · have h := h.2.2 c14
          refine r_aload_n C 0 dX5_takeClause_91 rfl ?_
          refine r_bipush C dX5_takeClause_92 (by decide) ?_
          refine r_callV (As := [vI (6 : Int)]) (o := 37) (n := 1) C dX5_takeClause_94 (x5_take_ct κ.1.2.1 ad cA D (6 : Int) s3) gX5_takeClause_X5_take rfl ⟨rfl, rfl⟩ (by decide +kernel) (by decide) (shA_37) rfl rfl rfl (Nat.le_of_ble_eq_true rfl) (fun _ => rfl) ?_
          refine x5_take_mono h (fun r6 s5 h => ?_)
          refine r_if_eq (tgt := 124) C dX5_takeClause_97 (by decide) ⟨h.1, fun c13 => ?_, fun c13 => ?_⟩
          · have h := h.2.1 c13
            refine r_iconst C dX5_takeClause_124 ?_
            exact r_zreturn C dX5_takeClause_125 h
          · have h := h.2.2 c13
            refine r_aload_n C 0 dX5_takeClause_100 rfl ?_
            refine r_iconst C dX5_takeClause_101 ?_
            refine r_sipush C dX5_takeClause_102 (by decide) ?_
            refine r_callV (As := [vI (1 : Int), vI (900 : Int)]) (o := 37) (n := 2) C dX5_takeClause_105 (x5_takeSecond_ct κ.1.2.1 ad cA D (1 : Int) (900 : Int) s5) gX5_takeClause_X5_takeSecond rfl ⟨rfl, rfl⟩ (by decide +kernel) (by decide) (shA_37) rfl rfl rfl (Nat.le_of_ble_eq_true rfl) (fun _ => rfl) ?_
            refine x5_takeSecond_mono h (fun r8 s7 h => ?_)
            refine r_if_eq (tgt := 124) C dX5_takeClause_108 (by decide) ⟨h.1, fun c12 => ?_, fun c12 => ?_⟩
            · have h := h.2.1 c12
              refine r_iconst C dX5_takeClause_124 ?_
              exact r_zreturn C dX5_takeClause_125 h
            · have h := h.2.2 c12
              refine r_aload_n C 0 dX5_takeClause_111 rfl ?_
              refine r_bipush C dX5_takeClause_112 (by decide) ?_
              refine r_callV (As := [vI (9 : Int)]) (o := 37) (n := 1) C dX5_takeClause_114 (x5_take_ct κ.1.2.1 ad cA D (9 : Int) s7) gX5_takeClause_X5_take rfl ⟨rfl, rfl⟩ (by decide +kernel) (by decide) (shA_37) rfl rfl rfl (Nat.le_of_ble_eq_true rfl) (fun _ => rfl) ?_
              refine x5_take_mono h (fun r10 s9 h => ?_)
              refine r_if_eq (tgt := 124) C dX5_takeClause_117 (by decide) ⟨h.1, fun c11 => ?_, fun c11 => ?_⟩
              · have h := h.2.1 c11
                refine r_iconst C dX5_takeClause_124 ?_
                exact r_zreturn C dX5_takeClause_125 h
              · have h := h.2.2 c11
                refine r_iconst C dX5_takeClause_120 ?_
                refine r_goto (tgt := 125) C dX5_takeClause_121 (by decide) ?_
                exact r_zreturn C dX5_takeClause_125 h
      by_cases c2 : (s1 37 (9 : Int)) = 1
      · have h := h.2.2.1 c2
        refine r_tsIn (tgt := 126) C 1 dX5_takeClause_46 rfl (by decide) c2 hI (by decide) ?_
        refine r_aload_n C 0 dX5_takeClause_126 rfl ?_
        refine r_iconst C dX5_takeClause_127 ?_
        refine r_sipush C dX5_takeClause_128 (by decide) ?_
        refine r_callV (As := [vI (1 : Int), vI (900 : Int)]) (o := 37) (n := 2) C dX5_takeClause_131 (x5_takeFirst_ct κ.1.2.1 ad cA D (1 : Int) (900 : Int) s1) gX5_takeClause_X5_takeFirst rfl ⟨rfl, rfl⟩ (by decide +kernel) (by decide) (shA_37) rfl rfl rfl (Nat.le_of_ble_eq_true rfl) (fun _ => rfl) ?_
        refine x5_takeFirst_mono h (fun r16 s15 h => ?_)
        refine r_if_eq (tgt := 150) C dX5_takeClause_134 (by decide) ⟨h.1, fun c20 => ?_, fun c20 => ?_⟩
        · have h := h.2.1 c20
          refine r_iconst C dX5_takeClause_150 ?_
          exact r_zreturn C dX5_takeClause_151 h
        · have h := h.2.2 c20
          refine r_aload_n C 0 dX5_takeClause_137 rfl ?_
          refine r_bipush C dX5_takeClause_138 (by decide) ?_
          refine r_callV (As := [vI (9 : Int)]) (o := 37) (n := 1) C dX5_takeClause_140 (x5_take_ct κ.1.2.1 ad cA D (9 : Int) s15) gX5_takeClause_X5_take rfl ⟨rfl, rfl⟩ (by decide +kernel) (by decide) (shA_37) rfl rfl rfl (Nat.le_of_ble_eq_true rfl) (fun _ => rfl) ?_
          refine x5_take_mono h (fun r18 s17 h => ?_)
          refine r_if_eq (tgt := 150) C dX5_takeClause_143 (by decide) ⟨h.1, fun c19 => ?_, fun c19 => ?_⟩
          · have h := h.2.1 c19
            refine r_iconst C dX5_takeClause_150 ?_
            exact r_zreturn C dX5_takeClause_151 h
          · have h := h.2.2 c19
            refine r_iconst C dX5_takeClause_146 ?_
            refine r_goto (tgt := 151) C dX5_takeClause_147 (by decide) ?_
            exact r_zreturn C dX5_takeClause_151 h
      by_cases c2 : (s1 37 (9 : Int)) = 2
      · have h := h.2.2.2.1 c2
        refine r_tsIn (tgt := 152) C 2 dX5_takeClause_46 rfl (by decide) c2 hI (by decide) ?_
        refine r_aload_n C 0 dX5_takeClause_152 rfl ?_
        refine r_iconst C dX5_takeClause_153 ?_
        refine r_iload_n C 1 dX5_takeClause_154 rfl ?_
        refine r_iconst C dX5_takeClause_155 ?_
        refine r_isub C dX5_takeClause_156 ?_
        refine r_callV (As := [vI (0 : Int), vI (p1 - (1 : Int))]) (o := 37) (n := 2) C dX5_takeClause_157 (x5_takeFirst_ct κ.1.2.1 ad cA D (0 : Int) (p1 - (1 : Int)) s1) gX5_takeClause_X5_takeFirst rfl ⟨rfl, rfl⟩ (by decide +kernel) (by decide) (shA_37) rfl rfl rfl (Nat.le_of_ble_eq_true rfl) (fun _ => rfl) ?_
        refine x5_takeFirst_mono h (fun r22 s21 h => ?_)
        refine r_if_eq (tgt := 196) C dX5_takeClause_160 (by decide) ⟨h.1, fun c32 => ?_, fun c32 => ?_⟩
        · have h := h.2.1 c32
          refine r_iconst C dX5_takeClause_196 ?_
          exact r_zreturn C dX5_takeClause_197 h
        · have h := h.2.2 c32
          refine r_aload_n C 0 dX5_takeClause_163 rfl ?_
          refine r_bipush C dX5_takeClause_164 (by decide) ?_
          refine r_callV (As := [vI (7 : Int)]) (o := 37) (n := 1) C dX5_takeClause_166 (x5_take_ct κ.1.2.1 ad cA D (7 : Int) s21) gX5_takeClause_X5_take rfl ⟨rfl, rfl⟩ (by decide +kernel) (by decide) (shA_37) rfl rfl rfl (Nat.le_of_ble_eq_true rfl) (fun _ => rfl) ?_
          refine x5_take_mono h (fun r24 s23 h => ?_)
          refine r_if_eq (tgt := 196) C dX5_takeClause_169 (by decide) ⟨h.1, fun c31 => ?_, fun c31 => ?_⟩
          · have h := h.2.1 c31
            refine r_iconst C dX5_takeClause_196 ?_
            exact r_zreturn C dX5_takeClause_197 h
          · have h := h.2.2 c31
            refine r_aload_n C 0 dX5_takeClause_172 rfl ?_
            refine r_iconst C dX5_takeClause_173 ?_
            refine r_sipush C dX5_takeClause_174 (by decide) ?_
            refine r_callV (As := [vI (0 : Int), vI (200 : Int)]) (o := 37) (n := 2) C dX5_takeClause_177 (x5_takeSecond_ct κ.1.2.1 ad cA D (0 : Int) (200 : Int) s23) gX5_takeClause_X5_takeSecond rfl ⟨rfl, rfl⟩ (by decide +kernel) (by decide) (shA_37) rfl rfl rfl (Nat.le_of_ble_eq_true rfl) (fun _ => rfl) ?_
            refine x5_takeSecond_mono h (fun r26 s25 h => ?_)
            refine r_if_eq (tgt := 196) C dX5_takeClause_180 (by decide) ⟨h.1, fun c30 => ?_, fun c30 => ?_⟩
            · have h := h.2.1 c30
              refine r_iconst C dX5_takeClause_196 ?_
              exact r_zreturn C dX5_takeClause_197 h
            · have h := h.2.2 c30
              refine r_aload_n C 0 dX5_takeClause_183 rfl ?_
              refine r_bipush C dX5_takeClause_184 (by decide) ?_
              refine r_callV (As := [vI (9 : Int)]) (o := 37) (n := 1) C dX5_takeClause_186 (x5_take_ct κ.1.2.1 ad cA D (9 : Int) s25) gX5_takeClause_X5_take rfl ⟨rfl, rfl⟩ (by decide +kernel) (by decide) (shA_37) rfl rfl rfl (Nat.le_of_ble_eq_true rfl) (fun _ => rfl) ?_
              refine x5_take_mono h (fun r28 s27 h => ?_)
              refine r_if_eq (tgt := 196) C dX5_takeClause_189 (by decide) ⟨h.1, fun c29 => ?_, fun c29 => ?_⟩
              · have h := h.2.1 c29
                refine r_iconst C dX5_takeClause_196 ?_
                exact r_zreturn C dX5_takeClause_197 h
              · have h := h.2.2 c29
                refine r_iconst C dX5_takeClause_192 ?_
                refine r_goto (tgt := 197) C dX5_takeClause_193 (by decide) ?_
                exact r_zreturn C dX5_takeClause_197 h
      by_cases c2 : (s1 37 (9 : Int)) = 3 ∨ (s1 37 (9 : Int)) = 4
      · have h := h.2.2.2.2.1 c2
        refine r_tsAny (tgt := 198) C dX5_takeClause_46 (j := Int.toNat ((s1 37 (9 : Int)) - (0))) ?_ (by omega) (by omega) hI ?_
        · rcases c2 with c2 | c2 <;> (rw [c2]; exact ⟨_, rfl, by decide⟩)
        · refine r_aload_n C 0 dX5_takeClause_198 rfl ?_
          refine r_iconst C dX5_takeClause_199 ?_
          refine r_iload_n C 1 dX5_takeClause_200 rfl ?_
          refine r_iconst C dX5_takeClause_201 ?_
          refine r_isub C dX5_takeClause_202 ?_
          refine r_callV (As := [vI (0 : Int), vI (p1 - (1 : Int))]) (o := 37) (n := 2) C dX5_takeClause_203 (x5_takeFirst_ct κ.1.2.1 ad cA D (0 : Int) (p1 - (1 : Int)) s1) gX5_takeClause_X5_takeFirst rfl ⟨rfl, rfl⟩ (by decide +kernel) (by decide) (shA_37) rfl rfl rfl (Nat.le_of_ble_eq_true rfl) (fun _ => rfl) ?_
          refine x5_takeFirst_mono h (fun r34 s33 h => ?_)
          refine r_if_eq (tgt := 222) C dX5_takeClause_206 (by decide) ⟨h.1, fun c38 => ?_, fun c38 => ?_⟩
          · have h := h.2.1 c38
            refine r_iconst C dX5_takeClause_222 ?_
            exact r_zreturn C dX5_takeClause_223 h
          · have h := h.2.2 c38
            refine r_aload_n C 0 dX5_takeClause_209 rfl ?_
            refine r_bipush C dX5_takeClause_210 (by decide) ?_
            refine r_callV (As := [vI (9 : Int)]) (o := 37) (n := 1) C dX5_takeClause_212 (x5_take_ct κ.1.2.1 ad cA D (9 : Int) s33) gX5_takeClause_X5_take rfl ⟨rfl, rfl⟩ (by decide +kernel) (by decide) (shA_37) rfl rfl rfl (Nat.le_of_ble_eq_true rfl) (fun _ => rfl) ?_
            refine x5_take_mono h (fun r36 s35 h => ?_)
            refine r_if_eq (tgt := 222) C dX5_takeClause_215 (by decide) ⟨h.1, fun c37 => ?_, fun c37 => ?_⟩
            · have h := h.2.1 c37
              refine r_iconst C dX5_takeClause_222 ?_
              exact r_zreturn C dX5_takeClause_223 h
            · have h := h.2.2 c37
              refine r_iconst C dX5_takeClause_218 ?_
              refine r_goto (tgt := 223) C dX5_takeClause_219 (by decide) ?_
              exact r_zreturn C dX5_takeClause_223 h
      have c2d : (s1 37 (9 : Int)) < 0 ∨ 4 < (s1 37 (9 : Int)) := by omega
      have h := h.2.2.2.2.2 c2d
      refine r_tsOut (tgt := 224) C dX5_takeClause_46 c2d hI (by decide) ?_
      refine r_aload_n C 0 dX5_takeClause_224 rfl ?_
      refine r_iload_n C 1 dX5_takeClause_225 rfl ?_
      refine r_callV (As := [vI p1]) (o := 37) (n := 1) C dX5_takeClause_226 (x5_takeRow_ct κ.1.2.1 ad cA D p1 s1) gX5_takeClause_X5_takeRow rfl ⟨rfl, rfl⟩ (by decide +kernel) (by decide) (shA_37) rfl rfl rfl (Nat.le_of_ble_eq_true rfl) (fun _ => rfl) ?_
      refine x5_takeRow_mono h (fun r40 s39 h => ?_)
      exact r_zreturn C dX5_takeClause_229 h
    · have h := h.2.2 c43
      refine r_aload_n C 0 dX5_takeClause_23 rfl ?_
      refine r_iconst C dX5_takeClause_24 ?_
      refine r_callV (As := [vI (5 : Int)]) (o := 37) (n := 1) C dX5_takeClause_25 (x5_faulty_ct κ.1.2.1 ad cA D (5 : Int) s) gX5_takeClause_X5_faulty rfl ⟨rfl, rfl⟩ (by decide +kernel) (by decide) (shA_37) rfl rfl rfl (Nat.le_of_ble_eq_true rfl) (fun _ => rfl) ?_
      refine x5_faulty_mono h (fun r42 s41 h => ?_)
      exact r_zreturn C dX5_takeClause_28 h
  · have h := h.2.2 c46
    refine r_aload_n C 0 dX5_takeClause_8 rfl ?_
    refine r_iconst C dX5_takeClause_9 ?_
    refine r_callV (As := [vI (1 : Int)]) (o := 37) (n := 1) C dX5_takeClause_10 (x5_faulty_ct κ.1.2.1 ad cA D (1 : Int) s) gX5_takeClause_X5_faulty rfl ⟨rfl, rfl⟩ (by decide +kernel) (by decide) (shA_37) rfl rfl rfl (Nat.le_of_ble_eq_true rfl) (fun _ => rfl) ?_
    refine x5_faulty_mono h (fun r45 s44 h => ?_)
    exact r_zreturn C dX5_takeClause_13 h
theorem x5_takeClause_ct (l : Launch) (ad : Nat → Nat) (cA : Nat → ClassId) (D : va_G) (p1 : Int) (s : Mem) : MG l yX5_takeClause wsX5_takeClause x5_takeClause_rm ocI [.ref (ad 37), vI p1] (GA ad cA D) s (x5_takeClause p1 s) :=
  m_met (own := RX5) (nL := 2) (by decide) rfl rfl (Nat.le_of_ble_eq_true rfl) rfl rfl rfl (fun κ hl C Q Pst hW hQ => x5_takeClause_bd C (x5_takeClause_mono hW hQ))

def x5_understand_be (X26 : Int → Int → Mem → Prop) (Q : Int → Mem → Prop) (p1 : Int) (s : Mem) : Prop :=
  ∀ s1 : Mem, s1 = m_upd s 37 (3 : Int) (0 : Int) → ∀ s2 : Mem, s2 = m_upd s1 37 (1 : Int) (0 : Int) → ∀ s3 : Mem, s3 = m_upd s2 37 (2 : Int) (-1 : Int) → ∀ s4 : Mem, s4 = m_upd s3 37 (8 : Int) (0 : Int) → x5_goOn s4 (fun _ s5 => X26 p1 (0 : Int) s5)
def x5_understand_b26 (X26 : Int → Int → Mem → Prop) (Q : Int → Mem → Prop) (x1 : Int) (x2 : Int) (s : Mem) : Prop :=
  (InI x2 ∧ InI (160 : Int)) ∧ ((160 : Int) < x2 → ((0 : Int) ≤ (1 : Int) ∧ (1 : Int) ≤ 1) ∧ Q (1 : Int) s) ∧ (x2 ≤ (160 : Int) → (InI (s 37 (9 : Int)) ∧ InI (10 : Int)) ∧ ((s 37 (9 : Int)) = (10 : Int) → ((0 : Int) ≤ (1 : Int) ∧ (1 : Int) ≤ 1) ∧ Q (1 : Int) s) ∧ (¬ (s 37 (9 : Int)) = (10 : Int) → x5_takeClause x1 s (fun r7 s6 => InI r7 ∧ (¬ r7 = (0 : Int) → ∀ s8 : Mem, s8 = m_upd s6 37 (3 : Int) ((s6 37 (3 : Int)) + (1 : Int)) → x5_goOn s8 (fun _ s9 => X26 x1 (x2 + (1 : Int)) s9)) ∧ (r7 = (0 : Int) → ((0 : Int) ≤ (0 : Int) ∧ (0 : Int) ≤ 1) ∧ Q (0 : Int) s6))))
theorem x5_understand_me {X26 Y26 : Int → Int → Mem → Prop} {Q R : Int → Mem → Prop} (hX26 : ∀ x1 x2 s, X26 x1 x2 s → Y26 x1 x2 s) (hQ : ∀ r s, Q r s → R r s) {p1 : Int} {s : Mem} (h : x5_understand_be X26 Q p1 s) : x5_understand_be Y26 R p1 s :=
  fun s1 e_s1 => have h := h s1 e_s1; fun s2 e_s2 => have h := h s2 e_s2; fun s3 e_s3 => have h := h s3 e_s3; fun s4 e_s4 => have h := h s4 e_s4; x5_goOn_mono h (fun _ s5 h => hX26 _ _ _ h)
theorem x5_understand_m26 {X26 Y26 : Int → Int → Mem → Prop} {Q R : Int → Mem → Prop} (hX26 : ∀ x1 x2 s, X26 x1 x2 s → Y26 x1 x2 s) (hQ : ∀ r s, Q r s → R r s) {x1 : Int} {x2 : Int} {s : Mem} (h : x5_understand_b26 X26 Q x1 x2 s) : x5_understand_b26 Y26 R x1 x2 s :=
  ⟨h.1, fun c => have h := h.2.1 c; ⟨h.1, hQ _ _ h.2⟩, fun c => have h := h.2.2 c; ⟨h.1, fun c => have h := h.2.1 c; ⟨h.1, hQ _ _ h.2⟩, fun c => have h := h.2.2 c; x5_takeClause_mono h (fun r7 s6 h => ⟨h.1, fun c => have h := h.2.1 c; fun s8 e_s8 => have h := h s8 e_s8; x5_goOn_mono h (fun _ s9 h => hX26 _ _ _ h), fun c => have h := h.2.2 c; ⟨h.1, hQ _ _ h.2⟩⟩)⟩⟩
def x5_understand (p1 : Int) (s : Mem) (Q : Int → Mem → Prop) : Prop := ∀ (X26 : Int → Int → Mem → Prop), (∀ x1 x2 s, x5_understand_b26 X26 Q x1 x2 s → X26 x1 x2 s) → x5_understand_be X26 Q p1 s
def x5_understand_L26 (Q : Int → Mem → Prop) (x1 : Int) (x2 : Int) (s : Mem) : Prop := ∀ (X26 : Int → Int → Mem → Prop), (∀ x1 x2 s, x5_understand_b26 X26 Q x1 x2 s → X26 x1 x2 s) → X26 x1 x2 s
theorem x5_understand_i {Q : Int → Mem → Prop} {p1 : Int} {s : Mem} (h : x5_understand_be (x5_understand_L26 Q) Q p1 s) : x5_understand p1 s Q := fun X26 k26 => x5_understand_me (fun _ _ _ h => h X26 k26) (fun _ _ h => h) h
theorem x5_understand_s26 {Q : Int → Mem → Prop} {x1 : Int} {x2 : Int} {s : Mem} (h : x5_understand_b26 (x5_understand_L26 Q) Q x1 x2 s) : x5_understand_L26 Q x1 x2 s := fun X26 k26 => k26 _ _ _ (x5_understand_m26 (fun _ _ _ h => h X26 k26) (fun _ _ h => h) h)
theorem x5_understand_mono {Q R : Int → Mem → Prop} {p1 : Int} {s : Mem} (h : x5_understand p1 s Q) (hQ : ∀ r s, Q r s → R r s) : x5_understand p1 s R := fun X26 k26 => x5_understand_me (fun _ _ _ h => h) hQ (h X26 (fun _ _ _ h => k26 _ _ _ (x5_understand_m26 (fun _ _ _ h => h) hQ h)))
def x5_understand_rm : Room := { frames := 9, cells := 0, slots := 0, locals := 195 }
theorem w_x5_understand_33 : Cond.fieldLink RX5 33 "BoltRing$Orders" "clauses" "I" ∈ wsX5_understand := by decide +kernel
theorem w_x5_understand_36 : Cond.fieldLink RX5 36 "BoltRing$Orders" "flaw" "I" ∈ wsX5_understand := by decide +kernel
theorem w_x5_understand_9 : Cond.fieldLink RX5 9 "BoltRing$Orders" "flawAt" "I" ∈ wsX5_understand := by decide +kernel
theorem w_x5_understand_39 : Cond.fieldLink RX5 39 "BoltRing$Orders" "place" "I" ∈ wsX5_understand := by decide +kernel
theorem w_x5_understand_45 : Cond.fieldLink RX5 45 "BoltRing$Orders" "token" "I" ∈ wsX5_understand := by decide +kernel
theorem in_x5_understand_X5 : ∀ w ∈ wsX50, w ∈ wsX5_understand := by decide +kernel
set_option maxHeartbeats 4000000 in
set_option maxRecDepth 100000 in
theorem x5_understand_bd {κ : KT} {ad : Nat → Nat} {cA : Nat → ClassId} {D : va_G} {Q : State → Prop} {p1 : Int} {s : Mem} (C : CX κ (GA ad cA D) RX5 cX5_understand 3 wsX5_understand x5_understand_rm (some .boolean)) (h : x5_understand p1 s (RT κ (GA ad cA D) ocI Q)) : WM κ (GA ad cA D) 3 Q s 0 [(0, .ref (ad 37)), (1, vI p1)] [] := by
  obtain ⟨Z26, z26⟩ : ∃ Z : Int → Int → Mem → Prop, ∀ x1 x2 s, Z x1 x2 s ↔ WM κ (GA ad cA D) 3 Q s 26 [(0, .ref (ad 37)), (1, vI x1), (2, vI x2)] [] := ⟨fun x1 x2 s => WM κ (GA ad cA D) 3 Q s 26 [(0, .ref (ad 37)), (1, vI x1), (2, vI x2)] [], fun _ _ _ => Iff.rfl⟩
  refine (fun h => ?_) (h Z26 ?_)
  · refine r_aload_n C 0 dX5_understand_0 rfl ?_
    refine r_iconst C dX5_understand_1 ?_
    refine r_puti (j := 3) (jz := 3) C dX5_understand_2 (shA_37) rfl rfl (by decide) in_x5_understand_X5 tyX5 tyX5_ok nmX5 w_x5_understand_33 rfl rfl (by decide +kernel) rfl (fun s1 e_s1 => ?_)
    have h := h s1 e_s1
    refine r_aload_n C 0 dX5_understand_5 rfl ?_
    refine r_iconst C dX5_understand_6 ?_
    refine r_puti (j := 1) (jz := 1) C dX5_understand_7 (shA_37) rfl rfl (by decide) in_x5_understand_X5 tyX5 tyX5_ok nmX5 w_x5_understand_36 rfl rfl (by decide +kernel) rfl (fun s2 e_s2 => ?_)
    have h := h s2 e_s2
    refine r_aload_n C 0 dX5_understand_10 rfl ?_
    refine r_iconst C dX5_understand_11 ?_
    refine r_puti (j := 2) (jz := 2) C dX5_understand_12 (shA_37) rfl rfl (by decide) in_x5_understand_X5 tyX5 tyX5_ok nmX5 w_x5_understand_9 rfl rfl (by decide +kernel) rfl (fun s3 e_s3 => ?_)
    have h := h s3 e_s3
    refine r_aload_n C 0 dX5_understand_15 rfl ?_
    refine r_iconst C dX5_understand_16 ?_
    refine r_puti (j := 8) (jz := 8) C dX5_understand_17 (shA_37) rfl rfl (by decide) in_x5_understand_X5 tyX5 tyX5_ok nmX5 w_x5_understand_39 rfl rfl (by decide +kernel) rfl (fun s4 e_s4 => ?_)
    have h := h s4 e_s4
    refine r_aload_n C 0 dX5_understand_20 rfl ?_
    refine r_callV (As := []) (o := 37) (n := 0) C dX5_understand_21 (x5_goOn_ct κ.1.2.1 ad cA D s4) gX5_understand_X5_goOn rfl ⟨rfl, rfl⟩ (by decide +kernel) (by decide) (shA_37) rfl rfl rfl (Nat.le_of_ble_eq_true rfl) (fun _ => rfl) ?_
    refine x5_goOn_mono h (fun _ s5 h => ?_)
    refine r_iconst C dX5_understand_24 ?_
    refine r_istore_n (ls' := [(2, vI (0 : Int)), (0, .ref (ad 37)), (1, vI p1)]) C dX5_understand_25 rfl (by decide) rfl ?_
    exact r_perm [1, 2, 0] rfl ((z26 _ _ _).1 h)
  · intro x1 x2 s h
    refine (z26 _ _ _).2 ?_
    refine r_iload_n C 2 dX5_understand_26 rfl ?_
    refine r_sipush C dX5_understand_27 (by decide) ?_
    refine r_icmp_gt (tgt := 72) C dX5_understand_30 (by decide) ⟨h.1, fun c12 => ?_, fun c12 => ?_⟩
    · have h := h.2.1 c12
      refine r_iconst C dX5_understand_72 ?_
      exact r_zreturn C dX5_understand_73 h
    · have h := h.2.2 c12
      refine r_aload_n C 0 dX5_understand_33 rfl ?_
      refine r_get (j := 9) (jz := 9) (v := vI (s 37 (9 : Int))) C dX5_understand_34 (shA_37) rfl rfl (by decide) in_x5_understand_X5 w_x5_understand_45 rfl rfl rfl ?_
      refine r_bipush C dX5_understand_37 (by decide) ?_
      refine r_icmp_eq (tgt := 72) C dX5_understand_39 (by decide) ⟨h.1, fun c11 => ?_, fun c11 => ?_⟩
      · have h := h.2.1 c11
        refine r_iconst C dX5_understand_72 ?_
        exact r_zreturn C dX5_understand_73 h
      · have h := h.2.2 c11
        refine r_aload_n C 0 dX5_understand_42 rfl ?_
        refine r_iload_n C 1 dX5_understand_43 rfl ?_
        refine r_callV (As := [vI x1]) (o := 37) (n := 1) C dX5_understand_44 (x5_takeClause_ct κ.1.2.1 ad cA D x1 s) gX5_understand_X5_takeClause rfl ⟨rfl, rfl⟩ (by decide +kernel) (by decide) (shA_37) rfl rfl rfl (Nat.le_of_ble_eq_true rfl) (fun _ => rfl) ?_
        refine x5_takeClause_mono h (fun r7 s6 h => ?_)
        refine r_if_ne (tgt := 52) C dX5_understand_47 (by decide) ⟨h.1, fun c10 => ?_, fun c10 => ?_⟩
        · have h := h.2.1 c10
          refine r_aload_n C 0 dX5_understand_52 rfl ?_
          refine r_dup C dX5_understand_53 rfl ?_
          refine r_get (j := 3) (jz := 3) (v := vI (s6 37 (3 : Int))) C dX5_understand_54 (shA_37) rfl rfl (by decide) in_x5_understand_X5 w_x5_understand_33 rfl rfl rfl ?_
          refine r_iconst C dX5_understand_57 ?_
          refine r_iadd C dX5_understand_58 ?_
          refine r_puti (j := 3) (jz := 3) C dX5_understand_59 (shA_37) rfl rfl (by decide) in_x5_understand_X5 tyX5 tyX5_ok nmX5 w_x5_understand_33 rfl rfl (by decide +kernel) rfl (fun s8 e_s8 => ?_)
          have h := h s8 e_s8
          refine r_aload_n C 0 dX5_understand_62 rfl ?_
          refine r_callV (As := []) (o := 37) (n := 0) C dX5_understand_63 (x5_goOn_ct κ.1.2.1 ad cA D s8) gX5_understand_X5_goOn rfl ⟨rfl, rfl⟩ (by decide +kernel) (by decide) (shA_37) rfl rfl rfl (Nat.le_of_ble_eq_true rfl) (fun _ => rfl) ?_
          refine x5_goOn_mono h (fun _ s9 h => ?_)
          refine r_iinc (j := 2) (ls' := [(2, vI (x2 + (1 : Int))), (0, .ref (ad 37)), (1, vI x1)]) C dX5_understand_66 rfl (by decide) rfl ?_
          refine r_goto (tgt := 26) C dX5_understand_69 (by decide) ?_
          exact r_perm [1, 2, 0] rfl ((z26 _ _ _).1 h)
        · have h := h.2.2 c10
          refine r_iconst C dX5_understand_50 ?_
          exact r_zreturn C dX5_understand_51 h
theorem x5_understand_ct (l : Launch) (ad : Nat → Nat) (cA : Nat → ClassId) (D : va_G) (p1 : Int) (s : Mem) : MG l yX5_understand wsX5_understand x5_understand_rm ocI [.ref (ad 37), vI p1] (GA ad cA D) s (x5_understand p1 s) :=
  m_met (own := RX5) (nL := 3) (by decide) rfl rfl (Nat.le_of_ble_eq_true rfl) rfl rfl rfl (fun κ hl C Q Pst hW hQ => x5_understand_bd C (x5_understand_mono hW hQ))
