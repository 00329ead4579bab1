def x8_clauseOf  (s : Mem) (Q : Int → Mem → Prop) : Prop :=
  x8_isWord (4 : Int) (100 : Int) (114 : Int) (97 : Int) (119 : Int) (0 : Int) s (fun r2 s1 => InI r2 ∧ (r2 = (0 : Int) → x8_isWord (4 : Int) (112 : Int) (97 : Int) (115 : Int) (115 : Int) (0 : Int) s1 (fun r4 s3 => InI r4 ∧ (r4 = (0 : Int) → x8_isWord (4 : Int) (108 : Int) (111 : Int) (97 : Int) (100 : Int) (0 : Int) s3 (fun r6 s5 => InI r6 ∧ (r6 = (0 : Int) → x8_isWord (5 : Int) (98 : Int) (114 : Int) (101 : Int) (97 : Int) (107 : Int) s5 (fun r8 s7 => InI r8 ∧ (r8 = (0 : Int) → x8_isWord (4 : Int) (109 : Int) (101 : Int) (110 : Int) (100 : Int) (0 : Int) s7 (fun r10 s9 => InI r10 ∧ (r10 = (0 : Int) → x8_isWord (3 : Int) (114 : Int) (111 : Int) (119 : Int) (0 : Int) (0 : Int) s9 (fun r12 s11 => InI r12 ∧ (r12 = (0 : Int) → Q (-1 : Int) s11) ∧ (¬ r12 = (0 : Int) → Q (5 : Int) s11))) ∧ (¬ r10 = (0 : Int) → Q (4 : Int) s9))) ∧ (¬ r8 = (0 : Int) → Q (3 : Int) s7))) ∧ (¬ r6 = (0 : Int) → Q (2 : Int) s5))) ∧ (¬ r4 = (0 : Int) → Q (1 : Int) s3))) ∧ (¬ r2 = (0 : Int) → Q (0 : Int) s1))
theorem x8_clauseOf_mono {Q R : Int → Mem → Prop}  {s : Mem} (h : x8_clauseOf  s Q) (hQ : ∀ r s, Q r s → R r s) : x8_clauseOf  s R :=
  x8_isWord_mono h (fun r2 s1 h => ⟨h.1, fun c => have h := h.2.1 c; x8_isWord_mono h (fun r4 s3 h => ⟨h.1, fun c => have h := h.2.1 c; x8_isWord_mono h (fun r6 s5 h => ⟨h.1, fun c => have h := h.2.1 c; x8_isWord_mono h (fun r8 s7 h => ⟨h.1, fun c => have h := h.2.1 c; x8_isWord_mono h (fun r10 s9 h => ⟨h.1, fun c => have h := h.2.1 c; x8_isWord_mono h (fun r12 s11 h => ⟨h.1, fun c => have h := h.2.1 c; hQ _ _ h, fun c => have h := h.2.2 c; hQ _ _ h⟩), fun c => have h := h.2.2 c; hQ _ _ h⟩), fun c => have h := h.2.2 c; hQ _ _ h⟩), fun c => have h := h.2.2 c; hQ _ _ h⟩), fun c => have h := h.2.2 c; hQ _ _ h⟩), fun c => have h := h.2.2 c; hQ _ _ h⟩)
def x8_clauseOf_rm : Room := { frames := 1, cells := 0, slots := 0, locals := 28 }
set_option maxHeartbeats 4000000 in
set_option maxRecDepth 100000 in
theorem x8_clauseOf_bd {κ : KT} {ad : Nat → Nat} {cA : Nat → ClassId} {D : va_G} {Q : State → Prop}  {s : Mem} (C : CX κ (GB ad cA D) RX8 cX8_clauseOf 1 wsX8_clauseOf x8_clauseOf_rm (some .int)) (h : x8_clauseOf  s (RT κ (GB ad cA D) ocI Q)) : WM κ (GB ad cA D) 1 Q s 0 [(0, .ref (ad 0))] [] := by
  refine r_aload_n C 0 dX8_clauseOf_0 rfl ?_
  refine r_iconst C dX8_clauseOf_1 ?_
  refine r_bipush C dX8_clauseOf_2 (by decide) ?_
  refine r_bipush C dX8_clauseOf_4 (by decide) ?_
  refine r_bipush C dX8_clauseOf_6 (by decide) ?_
  refine r_bipush C dX8_clauseOf_8 (by decide) ?_
  refine r_iconst C dX8_clauseOf_10 ?_
  refine r_callV (As := [vI (4 : Int), vI (100 : Int), vI (114 : Int), vI (97 : Int), vI (119 : Int), vI (0 : Int)]) (o := 0) (n := 6) C dX8_clauseOf_11 (x8_isWord_ct κ.1.2.1 ad cA D (4 : Int) (100 : Int) (114 : Int) (97 : Int) (119 : Int) (0 : Int) s) gX8_clauseOf_X8_isWord rfl ⟨rfl, rfl⟩ (by decide +kernel) (by decide) (shB_0) rfl rfl rfl (Nat.le_of_ble_eq_true rfl) (fun _ => rfl) ?_
  refine x8_isWord_mono h (fun r2 s1 h => ?_)
  refine r_if_eq (tgt := 19) C dX8_clauseOf_14 (by decide) ⟨h.1, fun c18 => ?_, fun c18 => ?_⟩
  · have h := h.2.1 c18
    refine r_aload_n C 0 dX8_clauseOf_19 rfl ?_
    refine r_iconst C dX8_clauseOf_20 ?_
    refine r_bipush C dX8_clauseOf_21 (by decide) ?_
    refine r_bipush C dX8_clauseOf_23 (by decide) ?_
    refine r_bipush C dX8_clauseOf_25 (by decide) ?_
    refine r_bipush C dX8_clauseOf_27 (by decide) ?_
    refine r_iconst C dX8_clauseOf_29 ?_
    refine r_callV (As := [vI (4 : Int), vI (112 : Int), vI (97 : Int), vI (115 : Int), vI (115 : Int), vI (0 : Int)]) (o := 0) (n := 6) C dX8_clauseOf_30 (x8_isWord_ct κ.1.2.1 ad cA D (4 : Int) (112 : Int) (97 : Int) (115 : Int) (115 : Int) (0 : Int) s1) gX8_clauseOf_X8_isWord rfl ⟨rfl, rfl⟩ (by decide +kernel) (by decide) (shB_0) rfl rfl rfl (Nat.le_of_ble_eq_true rfl) (fun _ => rfl) ?_
    refine x8_isWord_mono h (fun r4 s3 h => ?_)
    refine r_if_eq (tgt := 38) C dX8_clauseOf_33 (by decide) ⟨h.1, fun c17 => ?_, fun c17 => ?_⟩
    · have h := h.2.1 c17
      refine r_aload_n C 0 dX8_clauseOf_38 rfl ?_
      refine r_iconst C dX8_clauseOf_39 ?_
      refine r_bipush C dX8_clauseOf_40 (by decide) ?_
      refine r_bipush C dX8_clauseOf_42 (by decide) ?_
      refine r_bipush C dX8_clauseOf_44 (by decide) ?_
      refine r_bipush C dX8_clauseOf_46 (by decide) ?_
      refine r_iconst C dX8_clauseOf_48 ?_
      refine r_callV (As := [vI (4 : Int), vI (108 : Int), vI (111 : Int), vI (97 : Int), vI (100 : Int), vI (0 : Int)]) (o := 0) (n := 6) C dX8_clauseOf_49 (x8_isWord_ct κ.1.2.1 ad cA D (4 : Int) (108 : Int) (111 : Int) (97 : Int) (100 : Int) (0 : Int) s3) gX8_clauseOf_X8_isWord rfl ⟨rfl, rfl⟩ (by decide +kernel) (by decide) (shB_0) rfl rfl rfl (Nat.le_of_ble_eq_true rfl) (fun _ => rfl) ?_
      refine x8_isWord_mono h (fun r6 s5 h => ?_)
      refine r_if_eq (tgt := 57) C dX8_clauseOf_52 (by decide) ⟨h.1, fun c16 => ?_, fun c16 => ?_⟩
      · have h := h.2.1 c16
        refine r_aload_n C 0 dX8_clauseOf_57 rfl ?_
        refine r_iconst C dX8_clauseOf_58 ?_
        refine r_bipush C dX8_clauseOf_59 (by decide) ?_
        refine r_bipush C dX8_clauseOf_61 (by decide) ?_
        refine r_bipush C dX8_clauseOf_63 (by decide) ?_
        refine r_bipush C dX8_clauseOf_65 (by decide) ?_
        refine r_bipush C dX8_clauseOf_67 (by decide) ?_
        refine r_callV (As := [vI (5 : Int), vI (98 : Int), vI (114 : Int), vI (101 : Int), vI (97 : Int), vI (107 : Int)]) (o := 0) (n := 6) C dX8_clauseOf_69 (x8_isWord_ct κ.1.2.1 ad cA D (5 : Int) (98 : Int) (114 : Int) (101 : Int) (97 : Int) (107 : Int) s5) gX8_clauseOf_X8_isWord rfl ⟨rfl, rfl⟩ (by decide +kernel) (by decide) (shB_0) rfl rfl rfl (Nat.le_of_ble_eq_true rfl) (fun _ => rfl) ?_
        refine x8_isWord_mono h (fun r8 s7 h => ?_)
        refine r_if_eq (tgt := 77) C dX8_clauseOf_72 (by decide) ⟨h.1, fun c15 => ?_, fun c15 => ?_⟩
        · have h := h.2.1 c15
          refine r_aload_n C 0 dX8_clauseOf_77 rfl ?_
          refine r_iconst C dX8_clauseOf_78 ?_
          refine r_bipush C dX8_clauseOf_79 (by decide) ?_
          refine r_bipush C dX8_clauseOf_81 (by decide) ?_
          refine r_bipush C dX8_clauseOf_83 (by decide) ?_
          refine r_bipush C dX8_clauseOf_85 (by decide) ?_
          refine r_iconst C dX8_clauseOf_87 ?_
          refine r_callV (As := [vI (4 : Int), vI (109 : Int), vI (101 : Int), vI (110 : Int), vI (100 : Int), vI (0 : Int)]) (o := 0) (n := 6) C dX8_clauseOf_88 (x8_isWord_ct κ.1.2.1 ad cA D (4 : Int) (109 : Int) (101 : Int) (110 : Int) (100 : Int) (0 : Int) s7) gX8_clauseOf_X8_isWord rfl ⟨rfl, rfl⟩ (by decide +kernel) (by decide) (shB_0) rfl rfl rfl (Nat.le_of_ble_eq_true rfl) (fun _ => rfl) ?_
          refine x8_isWord_mono h (fun r10 s9 h => ?_)
          refine r_if_eq (tgt := 96) C dX8_clauseOf_91 (by decide) ⟨h.1, fun c14 => ?_, fun c14 => ?_⟩
          · have h := h.2.1 c14
            refine r_aload_n C 0 dX8_clauseOf_96 rfl ?_
            refine r_iconst C dX8_clauseOf_97 ?_
            refine r_bipush C dX8_clauseOf_98 (by decide) ?_
            refine r_bipush C dX8_clauseOf_100 (by decide) ?_
            refine r_bipush C dX8_clauseOf_102 (by decide) ?_
            refine r_iconst C dX8_clauseOf_104 ?_
            refine r_iconst C dX8_clauseOf_105 ?_
            refine r_callV (As := [vI (3 : Int), vI (114 : Int), vI (111 : Int), vI (119 : Int), vI (0 : Int), vI (0 : Int)]) (o := 0) (n := 6) C dX8_clauseOf_106 (x8_isWord_ct κ.1.2.1 ad cA D (3 : Int) (114 : Int) (111 : Int) (119 : Int) (0 : Int) (0 : Int) s9) gX8_clauseOf_X8_isWord rfl ⟨rfl, rfl⟩ (by decide +kernel) (by decide) (shB_0) rfl rfl rfl (Nat.le_of_ble_eq_true rfl) (fun _ => rfl) ?_
            refine x8_isWord_mono h (fun r12 s11 h => ?_)
            refine r_if_eq (tgt := 116) C dX8_clauseOf_109 (by decide) ⟨h.1, fun c13 => ?_, fun c13 => ?_⟩
            · have h := h.2.1 c13
              refine r_iconst C dX8_clauseOf_116 ?_
              exact r_ireturn C dX8_clauseOf_117 h
            · have h := h.2.2 c13
              refine r_iconst C dX8_clauseOf_112 ?_
              refine r_goto (tgt := 117) C dX8_clauseOf_113 (by decide) ?_
              exact r_ireturn C dX8_clauseOf_117 h
          · have h := h.2.2 c14
            refine r_iconst C dX8_clauseOf_94 ?_
            exact r_ireturn C dX8_clauseOf_95 h
        · have h := h.2.2 c15
          refine r_iconst C dX8_clauseOf_75 ?_
          exact r_ireturn C dX8_clauseOf_76 h
      · have h := h.2.2 c16
        refine r_iconst C dX8_clauseOf_55 ?_
        exact r_ireturn C dX8_clauseOf_56 h
    · have h := h.2.2 c17
      refine r_iconst C dX8_clauseOf_36 ?_
      exact r_ireturn C dX8_clauseOf_37 h
  · have h := h.2.2 c18
    refine r_iconst C dX8_clauseOf_17 ?_
    exact r_ireturn C dX8_clauseOf_18 h
theorem x8_clauseOf_ct (l : Launch) (ad : Nat → Nat) (cA : Nat → ClassId) (D : va_G)  (s : Mem) : MG l yX8_clauseOf wsX8_clauseOf x8_clauseOf_rm ocI [.ref (ad 0)] (GB ad cA D) s (x8_clauseOf  s) :=
  m_met (own := RX8) (nL := 1) (by decide) rfl rfl (Nat.le_of_ble_eq_true rfl) rfl rfl rfl (fun κ hl C Q Pst hW hQ => x8_clauseOf_bd C (x8_clauseOf_mono hW hQ))

def x8_takeNumber_be (X41 : Int → Int → Int → Mem → Prop) (X120 : Int → Int → Int → Mem → Prop) (X152 : Int → Int → Mem → Prop) (Q : Int → Mem → Prop) (p1 : Int) (p2 : Int) (s : Mem) : Prop :=
  x8_here s (fun r2 s1 => ∀ s3 : Mem, s3 = m_upd s1 0 (34 : Int) (s1 0 (31 : Int)) → (InI r2) ∧ x8_in r2 (48 : Int) (57 : Int) s3 (fun r5 s4 => x8_want r5 (1 : Int) (s4 0 (31 : Int)) s4 (fun r7 s6 => InI r7 ∧ (¬ r7 = (0 : Int) → X41 p1 p2 (0 : Int) s6) ∧ (r7 = (0 : Int) → Q (0 : Int) s6))))
def x8_takeNumber_b41 (X41 : Int → Int → Int → Mem → Prop) (X120 : Int → Int → Int → Mem → Prop) (X152 : Int → Int → Mem → Prop) (Q : Int → Mem → Prop) (x1 : Int) (x2 : Int) (x4 : Int) (s : Mem) : Prop :=
  (InI (s 0 (31 : Int)) ∧ InI (s 0 (30 : Int))) ∧ ((s 0 (30 : Int)) ≤ (s 0 (31 : Int)) → X120 x1 x2 x4 s) ∧ ((s 0 (31 : Int)) < (s 0 (30 : Int)) → ((0 : Int) ≤ (s 0 (31 : Int)) ∧ (s 0 (31 : Int)) < 160) ∧ (InI (s 19 (s 0 (31 : Int)))) ∧ x8_in (s 19 (s 0 (31 : Int))) (48 : Int) (57 : Int) s (fun r10 s9 => InI r10 ∧ (r10 = (0 : Int) → X120 x1 x2 x4 s9) ∧ (¬ r10 = (0 : Int) → (InI x4 ∧ InI (9999 : Int)) ∧ (x4 ≤ (9999 : Int) → ((0 : Int) ≤ (s9 0 (31 : Int)) ∧ (s9 0 (31 : Int)) < 160) ∧ ∀ v11 : Int, v11 = ((((10 : Int) * x4) + (s9 19 (s9 0 (31 : Int)))) - (48 : Int)) → ∀ s12 : Mem, s12 = m_upd s9 0 (31 : Int) ((s9 0 (31 : Int)) + (1 : Int)) → X41 x1 x2 v11 s12) ∧ ((9999 : Int) < x4 → ∀ s13 : Mem, s13 = m_upd s9 0 (31 : Int) ((s9 0 (31 : Int)) + (1 : Int)) → X41 x1 x2 x4 s13))))
def x8_takeNumber_b120 (X41 : Int → Int → Int → Mem → Prop) (X120 : Int → Int → Int → Mem → Prop) (X152 : Int → Int → Mem → Prop) (Q : Int → Mem → Prop) (x1 : Int) (x2 : Int) (x4 : Int) (s : Mem) : Prop :=
  (InI ((s 0 (31 : Int)) - (s 0 (34 : Int))) ∧ InI (4 : Int)) ∧ ((4 : Int) ≤ ((s 0 (31 : Int)) - (s 0 (34 : Int))) → X152 x4 (0 : Int) s) ∧ (((s 0 (31 : Int)) - (s 0 (34 : Int))) < (4 : Int) → (InI x4) ∧ (InI x1) ∧ (InI x2) ∧ x8_in x4 x1 x2 s (fun r18 s17 => InI r18 ∧ (r18 = (0 : Int) → X152 x4 (0 : Int) s17) ∧ (¬ r18 = (0 : Int) → X152 x4 (1 : Int) s17)))
def x8_takeNumber_b152 (X41 : Int → Int → Int → Mem → Prop) (X120 : Int → Int → Int → Mem → Prop) (X152 : Int → Int → Mem → Prop) (Q : Int → Mem → Prop) (x4 : Int) (t0 : Int) (s : Mem) : Prop :=
  x8_want t0 (2 : Int) (s 0 (34 : Int)) s (fun r22 s21 => Q x4 s21)
theorem x8_takeNumber_me {X41 Y41 : Int → Int → Int → Mem → Prop} {X120 Y120 : Int → Int → Int → Mem → Prop} {X152 Y152 : Int → Int → Mem → Prop} {Q R : Int → Mem → Prop} (hX41 : ∀ x1 x2 x4 s, X41 x1 x2 x4 s → Y41 x1 x2 x4 s) (hX120 : ∀ x1 x2 x4 s, X120 x1 x2 x4 s → Y120 x1 x2 x4 s) (hX152 : ∀ x4 t0 s, X152 x4 t0 s → Y152 x4 t0 s) (hQ : ∀ r s, Q r s → R r s) {p1 : Int} {p2 : Int} {s : Mem} (h : x8_takeNumber_be X41 X120 X152 Q p1 p2 s) : x8_takeNumber_be Y41 Y120 Y152 R p1 p2 s :=
  x8_here_mono h (fun r2 s1 h => fun s3 e_s3 => have h := h s3 e_s3; ⟨h.1, have h := h.2; x8_in_mono h (fun r5 s4 h => x8_want_mono h (fun r7 s6 h => ⟨h.1, fun c => have h := h.2.1 c; hX41 _ _ _ _ h, fun c => have h := h.2.2 c; hQ _ _ h⟩))⟩)
theorem x8_takeNumber_m41 {X41 Y41 : Int → Int → Int → Mem → Prop} {X120 Y120 : Int → Int → Int → Mem → Prop} {X152 Y152 : Int → Int → Mem → Prop} {Q R : Int → Mem → Prop} (hX41 : ∀ x1 x2 x4 s, X41 x1 x2 x4 s → Y41 x1 x2 x4 s) (hX120 : ∀ x1 x2 x4 s, X120 x1 x2 x4 s → Y120 x1 x2 x4 s) (hX152 : ∀ x4 t0 s, X152 x4 t0 s → Y152 x4 t0 s) (hQ : ∀ r s, Q r s → R r s) {x1 : Int} {x2 : Int} {x4 : Int} {s : Mem} (h : x8_takeNumber_b41 X41 X120 X152 Q x1 x2 x4 s) : x8_takeNumber_b41 Y41 Y120 Y152 R x1 x2 x4 s :=
  ⟨h.1, fun c => have h := h.2.1 c; hX120 _ _ _ _ h, fun c => have h := h.2.2 c; ⟨h.1, have h := h.2; ⟨h.1, have h := h.2; x8_in_mono h (fun r10 s9 h => ⟨h.1, fun c => have h := h.2.1 c; hX120 _ _ _ _ h, fun c => have h := h.2.2 c; ⟨h.1, fun c => have h := h.2.1 c; ⟨h.1, have h := h.2; fun v11 e_v11 => have h := h v11 e_v11; fun s12 e_s12 => have h := h s12 e_s12; hX41 _ _ _ _ h⟩, fun c => have h := h.2.2 c; fun s13 e_s13 => have h := h s13 e_s13; hX41 _ _ _ _ h⟩⟩)⟩⟩⟩
theorem x8_takeNumber_m120 {X41 Y41 : Int → Int → Int → Mem → Prop} {X120 Y120 : Int → Int → Int → Mem → Prop} {X152 Y152 : Int → Int → Mem → Prop} {Q R : Int → Mem → Prop} (hX41 : ∀ x1 x2 x4 s, X41 x1 x2 x4 s → Y41 x1 x2 x4 s) (hX120 : ∀ x1 x2 x4 s, X120 x1 x2 x4 s → Y120 x1 x2 x4 s) (hX152 : ∀ x4 t0 s, X152 x4 t0 s → Y152 x4 t0 s) (hQ : ∀ r s, Q r s → R r s) {x1 : Int} {x2 : Int} {x4 : Int} {s : Mem} (h : x8_takeNumber_b120 X41 X120 X152 Q x1 x2 x4 s) : x8_takeNumber_b120 Y41 Y120 Y152 R x1 x2 x4 s :=
  ⟨h.1, fun c => have h := h.2.1 c; hX152 _ _ _ h, fun c => have h := h.2.2 c; ⟨h.1, have h := h.2; ⟨h.1, have h := h.2; ⟨h.1, have h := h.2; x8_in_mono h (fun r18 s17 h => ⟨h.1, fun c => have h := h.2.1 c; hX152 _ _ _ h, fun c => have h := h.2.2 c; hX152 _ _ _ h⟩)⟩⟩⟩⟩
theorem x8_takeNumber_m152 {X41 Y41 : Int → Int → Int → Mem → Prop} {X120 Y120 : Int → Int → Int → Mem → Prop} {X152 Y152 : Int → Int → Mem → Prop} {Q R : Int → Mem → Prop} (hX41 : ∀ x1 x2 x4 s, X41 x1 x2 x4 s → Y41 x1 x2 x4 s) (hX120 : ∀ x1 x2 x4 s, X120 x1 x2 x4 s → Y120 x1 x2 x4 s) (hX152 : ∀ x4 t0 s, X152 x4 t0 s → Y152 x4 t0 s) (hQ : ∀ r s, Q r s → R r s) {x4 : Int} {t0 : Int} {s : Mem} (h : x8_takeNumber_b152 X41 X120 X152 Q x4 t0 s) : x8_takeNumber_b152 Y41 Y120 Y152 R x4 t0 s :=
  x8_want_mono h (fun r22 s21 h => hQ _ _ h)
def x8_takeNumber (p1 : Int) (p2 : Int) (s : Mem) (Q : Int → Mem → Prop) : Prop := ∀ (X41 : Int → Int → Int → Mem → Prop) (X120 : Int → Int → Int → Mem → Prop) (X152 : Int → Int → Mem → Prop), (∀ x1 x2 x4 s, x8_takeNumber_b41 X41 X120 X152 Q x1 x2 x4 s → X41 x1 x2 x4 s) → (∀ x1 x2 x4 s, x8_takeNumber_b120 X41 X120 X152 Q x1 x2 x4 s → X120 x1 x2 x4 s) → (∀ x4 t0 s, x8_takeNumber_b152 X41 X120 X152 Q x4 t0 s → X152 x4 t0 s) → x8_takeNumber_be X41 X120 X152 Q p1 p2 s
def x8_takeNumber_L41 (Q : Int → Mem → Prop) (x1 : Int) (x2 : Int) (x4 : Int) (s : Mem) : Prop := ∀ (X41 : Int → Int → Int → Mem → Prop) (X120 : Int → Int → Int → Mem → Prop) (X152 : Int → Int → Mem → Prop), (∀ x1 x2 x4 s, x8_takeNumber_b41 X41 X120 X152 Q x1 x2 x4 s → X41 x1 x2 x4 s) → (∀ x1 x2 x4 s, x8_takeNumber_b120 X41 X120 X152 Q x1 x2 x4 s → X120 x1 x2 x4 s) → (∀ x4 t0 s, x8_takeNumber_b152 X41 X120 X152 Q x4 t0 s → X152 x4 t0 s) → X41 x1 x2 x4 s
def x8_takeNumber_L120 (Q : Int → Mem → Prop) (x1 : Int) (x2 : Int) (x4 : Int) (s : Mem) : Prop := ∀ (X41 : Int → Int → Int → Mem → Prop) (X120 : Int → Int → Int → Mem → Prop) (X152 : Int → Int → Mem → Prop), (∀ x1 x2 x4 s, x8_takeNumber_b41 X41 X120 X152 Q x1 x2 x4 s → X41 x1 x2 x4 s) → (∀ x1 x2 x4 s, x8_takeNumber_b120 X41 X120 X152 Q x1 x2 x4 s → X120 x1 x2 x4 s) → (∀ x4 t0 s, x8_takeNumber_b152 X41 X120 X152 Q x4 t0 s → X152 x4 t0 s) → X120 x1 x2 x4 s
def x8_takeNumber_L152 (Q : Int → Mem → Prop) (x4 : Int) (t0 : Int) (s : Mem) : Prop := ∀ (X41 : Int → Int → Int → Mem → Prop) (X120 : Int → Int → Int → Mem → Prop) (X152 : Int → Int → Mem → Prop), (∀ x1 x2 x4 s, x8_takeNumber_b41 X41 X120 X152 Q x1 x2 x4 s → X41 x1 x2 x4 s) → (∀ x1 x2 x4 s, x8_takeNumber_b120 X41 X120 X152 Q x1 x2 x4 s → X120 x1 x2 x4 s) → (∀ x4 t0 s, x8_takeNumber_b152 X41 X120 X152 Q x4 t0 s → X152 x4 t0 s) → X152 x4 t0 s
theorem x8_takeNumber_i {Q : Int → Mem → Prop} {p1 : Int} {p2 : Int} {s : Mem} (h : x8_takeNumber_be (x8_takeNumber_L41 Q) (x8_takeNumber_L120 Q) (x8_takeNumber_L152 Q) Q p1 p2 s) : x8_takeNumber p1 p2 s Q := fun X41 X120 X152 k41 k120 k152 => x8_takeNumber_me (fun _ _ _ _ h => h X41 X120 X152 k41 k120 k152) (fun _ _ _ _ h => h X41 X120 X152 k41 k120 k152) (fun _ _ _ h => h X41 X120 X152 k41 k120 k152) (fun _ _ h => h) h
theorem x8_takeNumber_s41 {Q : Int → Mem → Prop} {x1 : Int} {x2 : Int} {x4 : Int} {s : Mem} (h : x8_takeNumber_b41 (x8_takeNumber_L41 Q) (x8_takeNumber_L120 Q) (x8_takeNumber_L152 Q) Q x1 x2 x4 s) : x8_takeNumber_L41 Q x1 x2 x4 s := fun X41 X120 X152 k41 k120 k152 => k41 _ _ _ _ (x8_takeNumber_m41 (fun _ _ _ _ h => h X41 X120 X152 k41 k120 k152) (fun _ _ _ _ h => h X41 X120 X152 k41 k120 k152) (fun _ _ _ h => h X41 X120 X152 k41 k120 k152) (fun _ _ h => h) h)
theorem x8_takeNumber_s120 {Q : Int → Mem → Prop} {x1 : Int} {x2 : Int} {x4 : Int} {s : Mem} (h : x8_takeNumber_b120 (x8_takeNumber_L41 Q) (x8_takeNumber_L120 Q) (x8_takeNumber_L152 Q) Q x1 x2 x4 s) : x8_takeNumber_L120 Q x1 x2 x4 s := fun X41 X120 X152 k41 k120 k152 => k120 _ _ _ _ (x8_takeNumber_m120 (fun _ _ _ _ h => h X41 X120 X152 k41 k120 k152) (fun _ _ _ _ h => h X41 X120 X152 k41 k120 k152) (fun _ _ _ h => h X41 X120 X152 k41 k120 k152) (fun _ _ h => h) h)
theorem x8_takeNumber_s152 {Q : Int → Mem → Prop} {x4 : Int} {t0 : Int} {s : Mem} (h : x8_takeNumber_b152 (x8_takeNumber_L41 Q) (x8_takeNumber_L120 Q) (x8_takeNumber_L152 Q) Q x4 t0 s) : x8_takeNumber_L152 Q x4 t0 s := fun X41 X120 X152 k41 k120 k152 => k152 _ _ _ (x8_takeNumber_m152 (fun _ _ _ _ h => h X41 X120 X152 k41 k120 k152) (fun _ _ _ _ h => h X41 X120 X152 k41 k120 k152) (fun _ _ _ h => h X41 X120 X152 k41 k120 k152) (fun _ _ h => h) h)
theorem x8_takeNumber_mono {Q R : Int → Mem → Prop} {p1 : Int} {p2 : Int} {s : Mem} (h : x8_takeNumber p1 p2 s Q) (hQ : ∀ r s, Q r s → R r s) : x8_takeNumber p1 p2 s R := fun X41 X120 X152 k41 k120 k152 => x8_takeNumber_me (fun _ _ _ _ h => h) (fun _ _ _ _ h => h) (fun _ _ _ h => h) hQ (h X41 X120 X152 (fun _ _ _ _ h => k41 _ _ _ _ (x8_takeNumber_m41 (fun _ _ _ _ h => h) (fun _ _ _ _ h => h) (fun _ _ _ h => h) hQ h)) (fun _ _ _ _ h => k120 _ _ _ _ (x8_takeNumber_m120 (fun _ _ _ _ h => h) (fun _ _ _ _ h => h) (fun _ _ _ h => h) hQ h)) (fun _ _ _ h => k152 _ _ _ (x8_takeNumber_m152 (fun _ _ _ _ h => h) (fun _ _ _ _ h => h) (fun _ _ _ h => h) hQ h)))
def x8_takeNumber_rm : Room := { frames := 1, cells := 0, slots := 0, locals := 25 }
theorem w_x8_takeNumber_260 : Cond.fieldLink RX8 260 "BoltRingModel" "at" "I" ∈ wsX8_takeNumber := by decide +kernel
theorem w_x8_takeNumber_269 : Cond.fieldLink RX8 269 "BoltRingModel" "from" "I" ∈ wsX8_takeNumber := by decide +kernel
theorem w_x8_takeNumber_283 : Cond.constantLong RX8 283 (48) ∈ wsX8_takeNumber := by decide +kernel
theorem w_x8_takeNumber_285 : Cond.constantLong RX8 285 (57) ∈ wsX8_takeNumber := by decide +kernel
theorem w_x8_takeNumber_163 : Cond.fieldLink RX8 163 "BoltRingModel" "textSize" "I" ∈ wsX8_takeNumber := by decide +kernel
theorem w_x8_takeNumber_66 : Cond.fieldLink RX8 66 "BoltRingModel" "text" "[I" ∈ wsX8_takeNumber := by decide +kernel
theorem in_x8_takeNumber_X8 : ∀ w ∈ wsX80, w ∈ wsX8_takeNumber := by decide +kernel
set_option maxHeartbeats 4000000 in
set_option maxRecDepth 100000 in
theorem x8_takeNumber_bd {κ : KT} {ad : Nat → Nat} {cA : Nat → ClassId} {D : va_G} {Q : State → Prop} {p1 : Int} {p2 : Int} {s : Mem} (C : CX κ (GB ad cA D) RX8 cX8_takeNumber 6 wsX8_takeNumber x8_takeNumber_rm (some .int)) (h : x8_takeNumber p1 p2 s (RT κ (GB ad cA D) ocI Q)) : WM κ (GB ad cA D) 6 Q s 0 [(0, .ref (ad 0)), (1, vI p1), (2, vI p2)] [] := by
  obtain ⟨Z41, z41⟩ : ∃ Z : Int → Int → Int → Mem → Prop, ∀ x1 x2 x4 s, Z x1 x2 x4 s ↔ WM κ (GB ad cA D) 6 Q s 41 [(0, .ref (ad 0)), (1, vI x1), (2, vI x2), (4, vI x4)] [] := ⟨fun x1 x2 x4 s => WM κ (GB ad cA D) 6 Q s 41 [(0, .ref (ad 0)), (1, vI x1), (2, vI x2), (4, vI x4)] [], fun _ _ _ _ => Iff.rfl⟩
  obtain ⟨Z120, z120⟩ : ∃ Z : Int → Int → Int → Mem → Prop, ∀ x1 x2 x4 s, Z x1 x2 x4 s ↔ WM κ (GB ad cA D) 6 Q s 120 [(0, .ref (ad 0)), (1, vI x1), (2, vI x2), (4, vI x4)] [] := ⟨fun x1 x2 x4 s => WM κ (GB ad cA D) 6 Q s 120 [(0, .ref (ad 0)), (1, vI x1), (2, vI x2), (4, vI x4)] [], fun _ _ _ _ => Iff.rfl⟩
  obtain ⟨Z152, z152⟩ : ∃ Z : Int → Int → Mem → Prop, ∀ x4 t0 s, Z x4 t0 s ↔ WM κ (GB ad cA D) 6 Q s 152 [(0, .ref (ad 0)), (4, vI x4)] [vI t0, .ref (ad 0)] := ⟨fun x4 t0 s => WM κ (GB ad cA D) 6 Q s 152 [(0, .ref (ad 0)), (4, vI x4)] [vI t0, .ref (ad 0)], fun _ _ _ => Iff.rfl⟩
  refine (fun h => ?_) (h Z41 Z120 Z152 ?_ ?_ ?_)
  · refine r_aload_n C 0 dX8_takeNumber_0 rfl ?_
    refine r_callV (As := []) (o := 0) (n := 0) C dX8_takeNumber_1 (x8_here_ct κ.1.2.1 ad cA D s) gX8_takeNumber_X8_here rfl ⟨rfl, rfl⟩ (by decide +kernel) (by decide) (shB_0) rfl rfl rfl (Nat.le_of_ble_eq_true rfl) (fun _ => rfl) ?_
    refine x8_here_mono h (fun r2 s1 h => ?_)
    refine r_istore_n (ls' := [(3, vI r2), (0, .ref (ad 0)), (1, vI p1), (2, vI p2)]) C dX8_takeNumber_4 rfl (by decide) rfl ?_
    refine r_aload_n C 1 dX8_takeNumber_5 rfl ?_
    refine r_aload_n C 1 dX8_takeNumber_6 rfl ?_
    refine r_get (j := 31) (jz := 31) (v := vI (s1 0 (31 : Int))) C dX8_takeNumber_7 (shB_0) rfl rfl (by decide) in_x8_takeNumber_X8 w_x8_takeNumber_260 rfl rfl rfl ?_
    refine r_puti (j := 34) (jz := 34) C dX8_takeNumber_10 (shB_0) rfl rfl (by decide) in_x8_takeNumber_X8 tyX8 tyX8_ok nmX8 w_x8_takeNumber_269 rfl rfl (by decide +kernel) rfl (fun s3 e_s3 => ?_)
    have h := h s3 e_s3
    refine r_aload_n C 1 dX8_takeNumber_13 rfl ?_
    refine r_iload_n C 0 dX8_takeNumber_14 rfl ?_
    refine r_i2l C dX8_takeNumber_15 ⟨h.1, ?_⟩
    have h := h.2
    refine r_ldc2 (z := 48) C dX8_takeNumber_16 w_x8_takeNumber_283 rfl ?_
    refine r_ldc2 (z := 57) C dX8_takeNumber_19 w_x8_takeNumber_285 rfl ?_
    refine r_callS (As := [vL r2, vL (48 : Int), vL (57 : Int)]) (n := 3) C dX8_takeNumber_22 (x8_in_ct κ.1.2.1 ad cA D r2 (48 : Int) (57 : Int) s3) gX8_takeNumber_X8_in rfl ⟨rfl, rfl⟩ (by decide +kernel) (by decide) rfl rfl (Nat.le_of_ble_eq_true rfl) (fun _ => rfl) ?_
    refine x8_in_mono h (fun r5 s4 h => ?_)
    refine r_iconst C dX8_takeNumber_25 ?_
    refine r_aload_n C 1 dX8_takeNumber_26 rfl ?_
    refine r_get (j := 31) (jz := 31) (v := vI (s4 0 (31 : Int))) C dX8_takeNumber_27 (shB_0) rfl rfl (by decide) in_x8_takeNumber_X8 w_x8_takeNumber_260 rfl rfl rfl ?_
    refine r_callV (As := [vI r5, vI (1 : Int), vI (s4 0 (31 : Int))]) (o := 0) (n := 3) C dX8_takeNumber_30 (x8_want_ct κ.1.2.1 ad cA D r5 (1 : Int) (s4 0 (31 : Int)) s4) gX8_takeNumber_X8_want rfl ⟨rfl, rfl⟩ (by decide +kernel) (by decide) (shB_0) rfl rfl rfl (Nat.le_of_ble_eq_true rfl) (fun _ => rfl) ?_
    refine x8_want_mono h (fun r7 s6 h => ?_)
    refine r_if_ne (tgt := 38) C dX8_takeNumber_33 (by decide) ⟨h.1, fun c8 => ?_, fun c8 => ?_⟩
    · have h := h.2.1 c8
      refine r_iconst C dX8_takeNumber_38 ?_
      refine r_istore (ls' := [(4, vI (0 : Int)), (3, vI r2), (0, .ref (ad 0)), (1, vI p1), (2, vI p2)]) C dX8_takeNumber_39 (by decide) rfl ?_
      exact r_perm [2, 3, 4, 0] rfl ((z41 _ _ _ _).1 h)
    · have h := h.2.2 c8
      refine r_iconst C dX8_takeNumber_36 ?_
      exact r_ireturn C dX8_takeNumber_37 h
  · intro x1 x2 x4 s h
    refine (z41 _ _ _ _).2 ?_
    refine r_aload_n C 0 dX8_takeNumber_41 rfl ?_
    refine r_get (j := 31) (jz := 31) (v := vI (s 0 (31 : Int))) C dX8_takeNumber_42 (shB_0) rfl rfl (by decide) in_x8_takeNumber_X8 w_x8_takeNumber_260 rfl rfl rfl ?_
    refine r_aload_n C 0 dX8_takeNumber_45 rfl ?_
    refine r_get (j := 30) (jz := 30) (v := vI (s 0 (30 : Int))) C dX8_takeNumber_46 (shB_0) rfl rfl (by decide) in_x8_takeNumber_X8 w_x8_takeNumber_163 rfl rfl rfl ?_
    refine r_icmp_ge (tgt := 120) C dX8_takeNumber_49 (by decide) ⟨h.1, fun c16 => ?_, fun c16 => ?_⟩
    · have h := h.2.1 c16
      exact r_perm [0, 1, 2, 3] rfl ((z120 _ _ _ _).1 h)
    · have h := h.2.2 c16
      refine r_aload_n C 0 dX8_takeNumber_52 rfl ?_
      refine r_get (j := 29) (jz := 29) (v := .ref (ad 19)) C dX8_takeNumber_53 (shB_0) rfl rfl (by decide) in_x8_takeNumber_X8 w_x8_takeNumber_66 rfl rfl rfl ?_
      refine r_aload_n C 0 dX8_takeNumber_56 rfl ?_
      refine r_get (j := 31) (jz := 31) (v := vI (s 0 (31 : Int))) C dX8_takeNumber_57 (shB_0) rfl rfl (by decide) in_x8_takeNumber_X8 w_x8_takeNumber_260 rfl rfl rfl ?_
      refine r_iald (nz := 160) C dX8_takeNumber_60 (shB_19) rfl (by decide) ⟨h.1, ?_⟩
      have h := h.2
      refine r_i2l C dX8_takeNumber_61 ⟨h.1, ?_⟩
      have h := h.2
      refine r_ldc2 (z := 48) C dX8_takeNumber_62 w_x8_takeNumber_283 rfl ?_
      refine r_ldc2 (z := 57) C dX8_takeNumber_65 w_x8_takeNumber_285 rfl ?_
      refine r_callS (As := [vL (s 19 (s 0 (31 : Int))), vL (48 : Int), vL (57 : Int)]) (n := 3) C dX8_takeNumber_68 (x8_in_ct κ.1.2.1 ad cA D (s 19 (s 0 (31 : Int))) (48 : Int) (57 : Int) s) gX8_takeNumber_X8_in rfl ⟨rfl, rfl⟩ (by decide +kernel) (by decide) rfl rfl (Nat.le_of_ble_eq_true rfl) (fun _ => rfl) ?_
      refine x8_in_mono h (fun r10 s9 h => ?_)
      refine r_if_eq (tgt := 120) C dX8_takeNumber_71 (by decide) ⟨h.1, fun c15 => ?_, fun c15 => ?_⟩
      · have h := h.2.1 c15
        exact r_perm [0, 1, 2, 3] rfl ((z120 _ _ _ _).1 h)
      · have h := h.2.2 c15
        refine r_iload C 3 dX8_takeNumber_74 rfl ?_
        refine r_sipush C dX8_takeNumber_76 (by decide) ?_
        refine r_icmp_le (tgt := 87) C dX8_takeNumber_79 (by decide) ⟨h.1, fun c14 => ?_, fun c14 => ?_⟩
        · have h := h.2.1 c14
          refine r_bipush C dX8_takeNumber_87 (by decide) ?_
          refine r_iload C 3 dX8_takeNumber_89 rfl ?_
          refine r_imul C dX8_takeNumber_91 ?_
          refine r_aload_n C 0 dX8_takeNumber_92 rfl ?_
          refine r_get (j := 29) (jz := 29) (v := .ref (ad 19)) C dX8_takeNumber_93 (shB_0) rfl rfl (by decide) in_x8_takeNumber_X8 w_x8_takeNumber_66 rfl rfl rfl ?_
          refine r_aload_n C 0 dX8_takeNumber_96 rfl ?_
          refine r_get (j := 31) (jz := 31) (v := vI (s9 0 (31 : Int))) C dX8_takeNumber_97 (shB_0) rfl rfl (by decide) in_x8_takeNumber_X8 w_x8_takeNumber_260 rfl rfl rfl ?_
          refine r_iald (nz := 160) C dX8_takeNumber_100 (shB_19) rfl (by decide) ⟨h.1, ?_⟩
          have h := h.2
          refine r_iadd C dX8_takeNumber_101 ?_
          refine r_bipush C dX8_takeNumber_102 (by decide) ?_
          refine r_isub C dX8_takeNumber_104 ?_
          refine r_topI (fun v11 e_v11 => ?_)
          have h := h v11 e_v11
          refine r_istore (ls' := [(4, vI v11), (0, .ref (ad 0)), (1, vI x1), (2, vI x2)]) C dX8_takeNumber_105 (by decide) rfl ?_
          refine r_aload_n C 1 dX8_takeNumber_107 rfl ?_
          refine r_dup C dX8_takeNumber_108 rfl ?_
          refine r_get (j := 31) (jz := 31) (v := vI (s9 0 (31 : Int))) C dX8_takeNumber_109 (shB_0) rfl rfl (by decide) in_x8_takeNumber_X8 w_x8_takeNumber_260 rfl rfl rfl ?_
          refine r_iconst C dX8_takeNumber_112 ?_
          refine r_iadd C dX8_takeNumber_113 ?_
          refine r_puti (j := 31) (jz := 31) C dX8_takeNumber_114 (shB_0) rfl rfl (by decide) in_x8_takeNumber_X8 tyX8 tyX8_ok nmX8 w_x8_takeNumber_260 rfl rfl (by decide +kernel) rfl (fun s12 e_s12 => ?_)
          have h := h s12 e_s12
          refine r_goto (tgt := 41) C dX8_takeNumber_117 (by decide) ?_
          exact r_perm [1, 2, 3, 0] rfl ((z41 _ _ _ _).1 h)
        · have h := h.2.2 c14
          refine r_iload C 3 dX8_takeNumber_82 rfl ?_
          refine r_goto (tgt := 105) C dX8_takeNumber_84 (by decide) ?_
          refine r_istore (ls' := [(4, vI x4), (0, .ref (ad 0)), (1, vI x1), (2, vI x2)]) C dX8_takeNumber_105 (by decide) rfl ?_
          refine r_aload_n C 1 dX8_takeNumber_107 rfl ?_
          refine r_dup C dX8_takeNumber_108 rfl ?_
          refine r_get (j := 31) (jz := 31) (v := vI (s9 0 (31 : Int))) C dX8_takeNumber_109 (shB_0) rfl rfl (by decide) in_x8_takeNumber_X8 w_x8_takeNumber_260 rfl rfl rfl ?_
          refine r_iconst C dX8_takeNumber_112 ?_
          refine r_iadd C dX8_takeNumber_113 ?_
          refine r_puti (j := 31) (jz := 31) C dX8_takeNumber_114 (shB_0) rfl rfl (by decide) in_x8_takeNumber_X8 tyX8 tyX8_ok nmX8 w_x8_takeNumber_260 rfl rfl (by decide +kernel) rfl (fun s13 e_s13 => ?_)
          have h := h s13 e_s13
          refine r_goto (tgt := 41) C dX8_takeNumber_117 (by decide) ?_
          exact r_perm [1, 2, 3, 0] rfl ((z41 _ _ _ _).1 h)
  · intro x1 x2 x4 s h
    refine (z120 _ _ _ _).2 ?_
    refine r_aload_n C 0 dX8_takeNumber_120 rfl ?_
    refine r_aload_n C 0 dX8_takeNumber_121 rfl ?_
    refine r_get (j := 31) (jz := 31) (v := vI (s 0 (31 : Int))) C dX8_takeNumber_122 (shB_0) rfl rfl (by decide) in_x8_takeNumber_X8 w_x8_takeNumber_260 rfl rfl rfl ?_
    refine r_aload_n C 0 dX8_takeNumber_125 rfl ?_
    refine r_get (j := 34) (jz := 34) (v := vI (s 0 (34 : Int))) C dX8_takeNumber_126 (shB_0) rfl rfl (by decide) in_x8_takeNumber_X8 w_x8_takeNumber_269 rfl rfl rfl ?_
    refine r_isub C dX8_takeNumber_129 ?_
    refine r_iconst C dX8_takeNumber_130 ?_
    refine r_icmp_ge (tgt := 151) C dX8_takeNumber_131 (by decide) ⟨h.1, fun c20 => ?_, fun c20 => ?_⟩
    · have h := h.2.1 c20
      refine r_iconst C dX8_takeNumber_151 ?_
      exact r_perm [0, 3] rfl ((z152 _ _ _).1 h)
    · have h := h.2.2 c20
      refine r_iload C 3 dX8_takeNumber_134 rfl ?_
      refine r_i2l C dX8_takeNumber_136 ⟨h.1, ?_⟩
      have h := h.2
      refine r_iload_n C 1 dX8_takeNumber_137 rfl ?_
      refine r_i2l C dX8_takeNumber_138 ⟨h.1, ?_⟩
      have h := h.2
      refine r_iload_n C 2 dX8_takeNumber_139 rfl ?_
      refine r_i2l C dX8_takeNumber_140 ⟨h.1, ?_⟩
      have h := h.2
      refine r_callS (As := [vL x4, vL x1, vL x2]) (n := 3) C dX8_takeNumber_141 (x8_in_ct κ.1.2.1 ad cA D x4 x1 x2 s) gX8_takeNumber_X8_in rfl ⟨rfl, rfl⟩ (by decide +kernel) (by decide) rfl rfl (Nat.le_of_ble_eq_true rfl) (fun _ => rfl) ?_
      refine x8_in_mono h (fun r18 s17 h => ?_)
      refine r_if_eq (tgt := 151) C dX8_takeNumber_144 (by decide) ⟨h.1, fun c19 => ?_, fun c19 => ?_⟩
      · have h := h.2.1 c19
        refine r_iconst C dX8_takeNumber_151 ?_
        exact r_perm [0, 3] rfl ((z152 _ _ _).1 h)
      · have h := h.2.2 c19
        refine r_iconst C dX8_takeNumber_147 ?_
        refine r_goto (tgt := 152) C dX8_takeNumber_148 (by decide) ?_
        exact r_perm [0, 3] rfl ((z152 _ _ _).1 h)
  · intro x4 t0 s h
    refine (z152 _ _ _).2 ?_
    refine r_iconst C dX8_takeNumber_152 ?_
    refine r_aload_n C 0 dX8_takeNumber_153 rfl ?_
    refine r_get (j := 34) (jz := 34) (v := vI (s 0 (34 : Int))) C dX8_takeNumber_154 (shB_0) rfl rfl (by decide) in_x8_takeNumber_X8 w_x8_takeNumber_269 rfl rfl rfl ?_
    refine r_callV (As := [vI t0, vI (2 : Int), vI (s 0 (34 : Int))]) (o := 0) (n := 3) C dX8_takeNumber_157 (x8_want_ct κ.1.2.1 ad cA D t0 (2 : Int) (s 0 (34 : Int)) s) gX8_takeNumber_X8_want rfl ⟨rfl, rfl⟩ (by decide +kernel) (by decide) (shB_0) rfl rfl rfl (Nat.le_of_ble_eq_true rfl) (fun _ => rfl) ?_
    refine x8_want_mono h (fun r22 s21 h => ?_)
    refine r_istore (ls' := [(5, vI r22), (0, .ref (ad 0)), (4, vI x4)]) C dX8_takeNumber_160 (by decide) rfl ?_
    refine r_iload C 2 dX8_takeNumber_162 rfl ?_
    exact r_ireturn C dX8_takeNumber_164 h
theorem x8_takeNumber_ct (l : Launch) (ad : Nat → Nat) (cA : Nat → ClassId) (D : va_G) (p1 : Int) (p2 : Int) (s : Mem) : MG l yX8_takeNumber wsX8_takeNumber x8_takeNumber_rm ocI [.ref (ad 0), vI p1, vI p2] (GB ad cA D) s (x8_takeNumber p1 p2 s) :=
  m_met (own := RX8) (nL := 6) (by decide) rfl rfl (Nat.le_of_ble_eq_true rfl) rfl rfl rfl (fun κ hl C Q Pst hW hQ => x8_takeNumber_bd C (x8_takeNumber_mono hW hQ))

def x8_takeRow_be (X6 : Int → Int → Int → Mem → Prop) (X45 : Int → Int → Int → Int → Int → Int → Mem → Prop) (X63 : Int → Int → Int → Int → Int → Mem → Prop) (X107 : Int → Int → Mem → Prop) (X133 : Int → Int → Int → Mem → Prop) (X162 : Int → Int → Mem → Prop) (Q : Int → Mem → Prop)  (s : Mem) : Prop :=
  X6 (0 : Int) (0 : Int) (1 : Int) s
def x8_takeRow_b6 (X6 : Int → Int → Int → Mem → Prop) (X45 : Int → Int → Int → Int → Int → Int → Mem → Prop) (X63 : Int → Int → Int → Int → Int → Mem → Prop) (X107 : Int → Int → Mem → Prop) (X133 : Int → Int → Int → Mem → Prop) (X162 : Int → Int → Mem → Prop) (Q : Int → Mem → Prop) (x1 : Int) (x2 : Int) (x3 : Int) (s : Mem) : Prop :=
  InI x3 ∧ (x3 = (0 : Int) → X107 x1 x2 s) ∧ (¬ x3 = (0 : Int) → InI (s 0 (32 : Int)) ∧ (¬ (s 0 (32 : Int)) = (0 : Int) → X107 x1 x2 s) ∧ ((s 0 (32 : Int)) = (0 : Int) → x8_takeNumber (0 : Int) ((s 0 (0 : Int)) - (1 : Int)) s (fun r2 s1 => (InI r2 ∧ InI (30 : Int)) ∧ ((30 : Int) ≤ r2 → X45 x1 x2 x3 r2 (0 : Int) x2 s1) ∧ (r2 < (30 : Int) → X45 x1 x2 x3 r2 r2 x2 s1))))
def x8_takeRow_b45 (X6 : Int → Int → Int → Mem → Prop) (X45 : Int → Int → Int → Int → Int → Int → Mem → Prop) (X63 : Int → Int → Int → Int → Int → Mem → Prop) (X107 : Int → Int → Mem → Prop) (X133 : Int → Int → Int → Mem → Prop) (X162 : Int → Int → Mem → Prop) (Q : Int → Mem → Prop) (x1 : Int) (x2 : Int) (x3 : Int) (x4 : Int) (t0 : Int) (t1 : Int) (s : Mem) : Prop :=
  InI (andI (shrI t1 t0) (1 : Int)) ∧ ((andI (shrI t1 t0) (1 : Int)) = (0 : Int) → X63 x1 x2 x3 x4 (1 : Int) s) ∧ (¬ (andI (shrI t1 t0) (1 : Int)) = (0 : Int) → InI (s 0 (32 : Int)) ∧ ((s 0 (32 : Int)) ≤ (0 : Int) → X63 x1 x2 x3 x4 (0 : Int) s) ∧ ((0 : Int) < (s 0 (32 : Int)) → X63 x1 x2 x3 x4 (1 : Int) s))
def x8_takeRow_b63 (X6 : Int → Int → Int → Mem → Prop) (X45 : Int → Int → Int → Int → Int → Int → Mem → Prop) (X63 : Int → Int → Int → Int → Int → Mem → Prop) (X107 : Int → Int → Mem → Prop) (X133 : Int → Int → Int → Mem → Prop) (X162 : Int → Int → Mem → Prop) (Q : Int → Mem → Prop) (x1 : Int) (x2 : Int) (x3 : Int) (x4 : Int) (t0 : Int) (s : Mem) : Prop :=
  x8_want t0 (3 : Int) (s 0 (34 : Int)) s (fun r9 s8 => InI r9 ∧ (r9 = (0 : Int) → X6 x1 x2 x3 s8) ∧ (¬ r9 = (0 : Int) → ∀ v10 : Int, v10 = (orI x2 (shlI (1 : Int) x4)) → ∀ v11 : Int, v11 = (((10 : Int) * x1) + x4) → x8_here s8 (fun r13 s12 => (InI r13) ∧ x8_in r13 (48 : Int) (57 : Int) s12 (fun r15 s14 => X6 v11 v10 r15 s14))))
def x8_takeRow_b107 (X6 : Int → Int → Int → Mem → Prop) (X45 : Int → Int → Int → Int → Int → Int → Mem → Prop) (X63 : Int → Int → Int → Int → Int → Mem → Prop) (X107 : Int → Int → Mem → Prop) (X133 : Int → Int → Int → Mem → Prop) (X162 : Int → Int → Mem → Prop) (Q : Int → Mem → Prop) (x1 : Int) (x2 : Int) (s : Mem) : Prop :=
  x8_here s (fun r18 s17 => InI (s17 0 (32 : Int)) ∧ (¬ (s17 0 (32 : Int)) = (0 : Int) → Q x1 s17) ∧ ((s17 0 (32 : Int)) = (0 : Int) → (InI r18 ∧ InI (59 : Int)) ∧ (¬ r18 = (59 : Int) → X133 x1 x2 (0 : Int) s17) ∧ (r18 = (59 : Int) → X133 x1 x2 (1 : Int) s17)))
def x8_takeRow_b133 (X6 : Int → Int → Int → Mem → Prop) (X45 : Int → Int → Int → Int → Int → Int → Mem → Prop) (X63 : Int → Int → Int → Int → Int → Mem → Prop) (X107 : Int → Int → Mem → Prop) (X133 : Int → Int → Int → Mem → Prop) (X162 : Int → Int → Mem → Prop) (Q : Int → Mem → Prop) (x1 : Int) (x2 : Int) (t0 : Int) (s : Mem) : Prop :=
  x8_want t0 (1 : Int) (s 0 (31 : Int)) s (fun r22 s21 => InI r22 ∧ (r22 = (0 : Int) → Q x1 s21) ∧ (¬ r22 = (0 : Int) → (InI x2 ∧ InI ((shlI (1 : Int) (s21 0 (0 : Int))) - (1 : Int))) ∧ (¬ x2 = ((shlI (1 : Int) (s21 0 (0 : Int))) - (1 : Int)) → X162 x1 (0 : Int) s21) ∧ (x2 = ((shlI (1 : Int) (s21 0 (0 : Int))) - (1 : Int)) → X162 x1 (1 : Int) s21)))
def x8_takeRow_b162 (X6 : Int → Int → Int → Mem → Prop) (X45 : Int → Int → Int → Int → Int → Int → Mem → Prop) (X63 : Int → Int → Int → Int → Int → Mem → Prop) (X107 : Int → Int → Mem → Prop) (X133 : Int → Int → Int → Mem → Prop) (X162 : Int → Int → Mem → Prop) (Q : Int → Mem → Prop) (x1 : Int) (t0 : Int) (s : Mem) : Prop :=
  x8_want t0 (4 : Int) (s 0 (31 : Int)) s (fun r26 s25 => Q x1 s25)
theorem x8_takeRow_me {X6 Y6 : Int → Int → Int → Mem → Prop} {X45 Y45 : Int → Int → Int → Int → Int → Int → Mem → Prop} {X63 Y63 : Int → Int → Int → Int → Int → Mem → Prop} {X107 Y107 : Int → Int → Mem → Prop} {X133 Y133 : Int → Int → Int → Mem → Prop} {X162 Y162 : Int → Int → Mem → Prop} {Q R : Int → Mem → Prop} (hX6 : ∀ x1 x2 x3 s, X6 x1 x2 x3 s → Y6 x1 x2 x3 s) (hX45 : ∀ x1 x2 x3 x4 t0 t1 s, X45 x1 x2 x3 x4 t0 t1 s → Y45 x1 x2 x3 x4 t0 t1 s) (hX63 : ∀ x1 x2 x3 x4 t0 s, X63 x1 x2 x3 x4 t0 s → Y63 x1 x2 x3 x4 t0 s) (hX107 : ∀ x1 x2 s, X107 x1 x2 s → Y107 x1 x2 s) (hX133 : ∀ x1 x2 t0 s, X133 x1 x2 t0 s → Y133 x1 x2 t0 s) (hX162 : ∀ x1 t0 s, X162 x1 t0 s → Y162 x1 t0 s) (hQ : ∀ r s, Q r s → R r s)  {s : Mem} (h : x8_takeRow_be X6 X45 X63 X107 X133 X162 Q  s) : x8_takeRow_be Y6 Y45 Y63 Y107 Y133 Y162 R  s :=
  hX6 _ _ _ _ h
theorem x8_takeRow_m6 {X6 Y6 : Int → Int → Int → Mem → Prop} {X45 Y45 : Int → Int → Int → Int → Int → Int → Mem → Prop} {X63 Y63 : Int → Int → Int → Int → Int → Mem → Prop} {X107 Y107 : Int → Int → Mem → Prop} {X133 Y133 : Int → Int → Int → Mem → Prop} {X162 Y162 : Int → Int → Mem → Prop} {Q R : Int → Mem → Prop} (hX6 : ∀ x1 x2 x3 s, X6 x1 x2 x3 s → Y6 x1 x2 x3 s) (hX45 : ∀ x1 x2 x3 x4 t0 t1 s, X45 x1 x2 x3 x4 t0 t1 s → Y45 x1 x2 x3 x4 t0 t1 s) (hX63 : ∀ x1 x2 x3 x4 t0 s, X63 x1 x2 x3 x4 t0 s → Y63 x1 x2 x3 x4 t0 s) (hX107 : ∀ x1 x2 s, X107 x1 x2 s → Y107 x1 x2 s) (hX133 : ∀ x1 x2 t0 s, X133 x1 x2 t0 s → Y133 x1 x2 t0 s) (hX162 : ∀ x1 t0 s, X162 x1 t0 s → Y162 x1 t0 s) (hQ : ∀ r s, Q r s → R r s) {x1 : Int} {x2 : Int} {x3 : Int} {s : Mem} (h : x8_takeRow_b6 X6 X45 X63 X107 X133 X162 Q x1 x2 x3 s) : x8_takeRow_b6 Y6 Y45 Y63 Y107 Y133 Y162 R x1 x2 x3 s :=
  ⟨h.1, fun c => have h := h.2.1 c; hX107 _ _ _ h, fun c => have h := h.2.2 c; ⟨h.1, fun c => have h := h.2.1 c; hX107 _ _ _ h, fun c => have h := h.2.2 c; x8_takeNumber_mono h (fun r2 s1 h => ⟨h.1, fun c => have h := h.2.1 c; hX45 _ _ _ _ _ _ _ h, fun c => have h := h.2.2 c; hX45 _ _ _ _ _ _ _ h⟩)⟩⟩
theorem x8_takeRow_m45 {X6 Y6 : Int → Int → Int → Mem → Prop} {X45 Y45 : Int → Int → Int → Int → Int → Int → Mem → Prop} {X63 Y63 : Int → Int → Int → Int → Int → Mem → Prop} {X107 Y107 : Int → Int → Mem → Prop} {X133 Y133 : Int → Int → Int → Mem → Prop} {X162 Y162 : Int → Int → Mem → Prop} {Q R : Int → Mem → Prop} (hX6 : ∀ x1 x2 x3 s, X6 x1 x2 x3 s → Y6 x1 x2 x3 s) (hX45 : ∀ x1 x2 x3 x4 t0 t1 s, X45 x1 x2 x3 x4 t0 t1 s → Y45 x1 x2 x3 x4 t0 t1 s) (hX63 : ∀ x1 x2 x3 x4 t0 s, X63 x1 x2 x3 x4 t0 s → Y63 x1 x2 x3 x4 t0 s) (hX107 : ∀ x1 x2 s, X107 x1 x2 s → Y107 x1 x2 s) (hX133 : ∀ x1 x2 t0 s, X133 x1 x2 t0 s → Y133 x1 x2 t0 s) (hX162 : ∀ x1 t0 s, X162 x1 t0 s → Y162 x1 t0 s) (hQ : ∀ r s, Q r s → R r s) {x1 : Int} {x2 : Int} {x3 : Int} {x4 : Int} {t0 : Int} {t1 : Int} {s : Mem} (h : x8_takeRow_b45 X6 X45 X63 X107 X133 X162 Q x1 x2 x3 x4 t0 t1 s) : x8_takeRow_b45 Y6 Y45 Y63 Y107 Y133 Y162 R x1 x2 x3 x4 t0 t1 s :=
  ⟨h.1, fun c => have h := h.2.1 c; hX63 _ _ _ _ _ _ h, fun c => have h := h.2.2 c; ⟨h.1, fun c => have h := h.2.1 c; hX63 _ _ _ _ _ _ h, fun c => have h := h.2.2 c; hX63 _ _ _ _ _ _ h⟩⟩
theorem x8_takeRow_m63 {X6 Y6 : Int → Int → Int → Mem → Prop} {X45 Y45 : Int → Int → Int → Int → Int → Int → Mem → Prop} {X63 Y63 : Int → Int → Int → Int → Int → Mem → Prop} {X107 Y107 : Int → Int → Mem → Prop} {X133 Y133 : Int → Int → Int → Mem → Prop} {X162 Y162 : Int → Int → Mem → Prop} {Q R : Int → Mem → Prop} (hX6 : ∀ x1 x2 x3 s, X6 x1 x2 x3 s → Y6 x1 x2 x3 s) (hX45 : ∀ x1 x2 x3 x4 t0 t1 s, X45 x1 x2 x3 x4 t0 t1 s → Y45 x1 x2 x3 x4 t0 t1 s) (hX63 : ∀ x1 x2 x3 x4 t0 s, X63 x1 x2 x3 x4 t0 s → Y63 x1 x2 x3 x4 t0 s) (hX107 : ∀ x1 x2 s, X107 x1 x2 s → Y107 x1 x2 s) (hX133 : ∀ x1 x2 t0 s, X133 x1 x2 t0 s → Y133 x1 x2 t0 s) (hX162 : ∀ x1 t0 s, X162 x1 t0 s → Y162 x1 t0 s) (hQ : ∀ r s, Q r s → R r s) {x1 : Int} {x2 : Int} {x3 : Int} {x4 : Int} {t0 : Int} {s : Mem} (h : x8_takeRow_b63 X6 X45 X63 X107 X133 X162 Q x1 x2 x3 x4 t0 s) : x8_takeRow_b63 Y6 Y45 Y63 Y107 Y133 Y162 R x1 x2 x3 x4 t0 s :=
  x8_want_mono h (fun r9 s8 h => ⟨h.1, fun c => have h := h.2.1 c; hX6 _ _ _ _ h, fun c => have h := h.2.2 c; fun v10 e_v10 => have h := h v10 e_v10; fun v11 e_v11 => have h := h v11 e_v11; x8_here_mono h (fun r13 s12 h => ⟨h.1, have h := h.2; x8_in_mono h (fun r15 s14 h => hX6 _ _ _ _ h)⟩)⟩)
theorem x8_takeRow_m107 {X6 Y6 : Int → Int → Int → Mem → Prop} {X45 Y45 : Int → Int → Int → Int → Int → Int → Mem → Prop} {X63 Y63 : Int → Int → Int → Int → Int → Mem → Prop} {X107 Y107 : Int → Int → Mem → Prop} {X133 Y133 : Int → Int → Int → Mem → Prop} {X162 Y162 : Int → Int → Mem → Prop} {Q R : Int → Mem → Prop} (hX6 : ∀ x1 x2 x3 s, X6 x1 x2 x3 s → Y6 x1 x2 x3 s) (hX45 : ∀ x1 x2 x3 x4 t0 t1 s, X45 x1 x2 x3 x4 t0 t1 s → Y45 x1 x2 x3 x4 t0 t1 s) (hX63 : ∀ x1 x2 x3 x4 t0 s, X63 x1 x2 x3 x4 t0 s → Y63 x1 x2 x3 x4 t0 s) (hX107 : ∀ x1 x2 s, X107 x1 x2 s → Y107 x1 x2 s) (hX133 : ∀ x1 x2 t0 s, X133 x1 x2 t0 s → Y133 x1 x2 t0 s) (hX162 : ∀ x1 t0 s, X162 x1 t0 s → Y162 x1 t0 s) (hQ : ∀ r s, Q r s → R r s) {x1 : Int} {x2 : Int} {s : Mem} (h : x8_takeRow_b107 X6 X45 X63 X107 X133 X162 Q x1 x2 s) : x8_takeRow_b107 Y6 Y45 Y63 Y107 Y133 Y162 R x1 x2 s :=
  x8_here_mono h (fun r18 s17 h => ⟨h.1, fun c => have h := h.2.1 c; hQ _ _ h, fun c => have h := h.2.2 c; ⟨h.1, fun c => have h := h.2.1 c; hX133 _ _ _ _ h, fun c => have h := h.2.2 c; hX133 _ _ _ _ h⟩⟩)
theorem x8_takeRow_m133 {X6 Y6 : Int → Int → Int → Mem → Prop} {X45 Y45 : Int → Int → Int → Int → Int → Int → Mem → Prop} {X63 Y63 : Int → Int → Int → Int → Int → Mem → Prop} {X107 Y107 : Int → Int → Mem → Prop} {X133 Y133 : Int → Int → Int → Mem → Prop} {X162 Y162 : Int → Int → Mem → Prop} {Q R : Int → Mem → Prop} (hX6 : ∀ x1 x2 x3 s, X6 x1 x2 x3 s → Y6 x1 x2 x3 s) (hX45 : ∀ x1 x2 x3 x4 t0 t1 s, X45 x1 x2 x3 x4 t0 t1 s → Y45 x1 x2 x3 x4 t0 t1 s) (hX63 : ∀ x1 x2 x3 x4 t0 s, X63 x1 x2 x3 x4 t0 s → Y63 x1 x2 x3 x4 t0 s) (hX107 : ∀ x1 x2 s, X107 x1 x2 s → Y107 x1 x2 s) (hX133 : ∀ x1 x2 t0 s, X133 x1 x2 t0 s → Y133 x1 x2 t0 s) (hX162 : ∀ x1 t0 s, X162 x1 t0 s → Y162 x1 t0 s) (hQ : ∀ r s, Q r s → R r s) {x1 : Int} {x2 : Int} {t0 : Int} {s : Mem} (h : x8_takeRow_b133 X6 X45 X63 X107 X133 X162 Q x1 x2 t0 s) : x8_takeRow_b133 Y6 Y45 Y63 Y107 Y133 Y162 R x1 x2 t0 s :=
  x8_want_mono h (fun r22 s21 h => ⟨h.1, fun c => have h := h.2.1 c; hQ _ _ h, fun c => have h := h.2.2 c; ⟨h.1, fun c => have h := h.2.1 c; hX162 _ _ _ h, fun c => have h := h.2.2 c; hX162 _ _ _ h⟩⟩)
theorem x8_takeRow_m162 {X6 Y6 : Int → Int → Int → Mem → Prop} {X45 Y45 : Int → Int → Int → Int → Int → Int → Mem → Prop} {X63 Y63 : Int → Int → Int → Int → Int → Mem → Prop} {X107 Y107 : Int → Int → Mem → Prop} {X133 Y133 : Int → Int → Int → Mem → Prop} {X162 Y162 : Int → Int → Mem → Prop} {Q R : Int → Mem → Prop} (hX6 : ∀ x1 x2 x3 s, X6 x1 x2 x3 s → Y6 x1 x2 x3 s) (hX45 : ∀ x1 x2 x3 x4 t0 t1 s, X45 x1 x2 x3 x4 t0 t1 s → Y45 x1 x2 x3 x4 t0 t1 s) (hX63 : ∀ x1 x2 x3 x4 t0 s, X63 x1 x2 x3 x4 t0 s → Y63 x1 x2 x3 x4 t0 s) (hX107 : ∀ x1 x2 s, X107 x1 x2 s → Y107 x1 x2 s) (hX133 : ∀ x1 x2 t0 s, X133 x1 x2 t0 s → Y133 x1 x2 t0 s) (hX162 : ∀ x1 t0 s, X162 x1 t0 s → Y162 x1 t0 s) (hQ : ∀ r s, Q r s → R r s) {x1 : Int} {t0 : Int} {s : Mem} (h : x8_takeRow_b162 X6 X45 X63 X107 X133 X162 Q x1 t0 s) : x8_takeRow_b162 Y6 Y45 Y63 Y107 Y133 Y162 R x1 t0 s :=
  x8_want_mono h (fun r26 s25 h => hQ _ _ h)
def x8_takeRow  (s : Mem) (Q : Int → Mem → Prop) : Prop := ∀ (X6 : Int → Int → Int → Mem → Prop) (X45 : Int → Int → Int → Int → Int → Int → Mem → Prop) (X63 : Int → Int → Int → Int → Int → Mem → Prop) (X107 : Int → Int → Mem → Prop) (X133 : Int → Int → Int → Mem → Prop) (X162 : Int → Int → Mem → Prop), (∀ x1 x2 x3 s, x8_takeRow_b6 X6 X45 X63 X107 X133 X162 Q x1 x2 x3 s → X6 x1 x2 x3 s) → (∀ x1 x2 x3 x4 t0 t1 s, x8_takeRow_b45 X6 X45 X63 X107 X133 X162 Q x1 x2 x3 x4 t0 t1 s → X45 x1 x2 x3 x4 t0 t1 s) → (∀ x1 x2 x3 x4 t0 s, x8_takeRow_b63 X6 X45 X63 X107 X133 X162 Q x1 x2 x3 x4 t0 s → X63 x1 x2 x3 x4 t0 s) → (∀ x1 x2 s, x8_takeRow_b107 X6 X45 X63 X107 X133 X162 Q x1 x2 s → X107 x1 x2 s) → (∀ x1 x2 t0 s, x8_takeRow_b133 X6 X45 X63 X107 X133 X162 Q x1 x2 t0 s → X133 x1 x2 t0 s) → (∀ x1 t0 s, x8_takeRow_b162 X6 X45 X63 X107 X133 X162 Q x1 t0 s → X162 x1 t0 s) → x8_takeRow_be X6 X45 X63 X107 X133 X162 Q  s
def x8_takeRow_L6 (Q : Int → Mem → Prop) (x1 : Int) (x2 : Int) (x3 : Int) (s : Mem) : Prop := ∀ (X6 : Int → Int → Int → Mem → Prop) (X45 : Int → Int → Int → Int → Int → Int → Mem → Prop) (X63 : Int → Int → Int → Int → Int → Mem → Prop) (X107 : Int → Int → Mem → Prop) (X133 : Int → Int → Int → Mem → Prop) (X162 : Int → Int → Mem → Prop), (∀ x1 x2 x3 s, x8_takeRow_b6 X6 X45 X63 X107 X133 X162 Q x1 x2 x3 s → X6 x1 x2 x3 s) → (∀ x1 x2 x3 x4 t0 t1 s, x8_takeRow_b45 X6 X45 X63 X107 X133 X162 Q x1 x2 x3 x4 t0 t1 s → X45 x1 x2 x3 x4 t0 t1 s) → (∀ x1 x2 x3 x4 t0 s, x8_takeRow_b63 X6 X45 X63 X107 X133 X162 Q x1 x2 x3 x4 t0 s → X63 x1 x2 x3 x4 t0 s) → (∀ x1 x2 s, x8_takeRow_b107 X6 X45 X63 X107 X133 X162 Q x1 x2 s → X107 x1 x2 s) → (∀ x1 x2 t0 s, x8_takeRow_b133 X6 X45 X63 X107 X133 X162 Q x1 x2 t0 s → X133 x1 x2 t0 s) → (∀ x1 t0 s, x8_takeRow_b162 X6 X45 X63 X107 X133 X162 Q x1 t0 s → X162 x1 t0 s) → X6 x1 x2 x3 s
def x8_takeRow_L45 (Q : Int → Mem → Prop) (x1 : Int) (x2 : Int) (x3 : Int) (x4 : Int) (t0 : Int) (t1 : Int) (s : Mem) : Prop := ∀ (X6 : Int → Int → Int → Mem → Prop) (X45 : Int → Int → Int → Int → Int → Int → Mem → Prop) (X63 : Int → Int → Int → Int → Int → Mem → Prop) (X107 : Int → Int → Mem → Prop) (X133 : Int → Int → Int → Mem → Prop) (X162 : Int → Int → Mem → Prop), (∀ x1 x2 x3 s, x8_takeRow_b6 X6 X45 X63 X107 X133 X162 Q x1 x2 x3 s → X6 x1 x2 x3 s) → (∀ x1 x2 x3 x4 t0 t1 s, x8_takeRow_b45 X6 X45 X63 X107 X133 X162 Q x1 x2 x3 x4 t0 t1 s → X45 x1 x2 x3 x4 t0 t1 s) → (∀ x1 x2 x3 x4 t0 s, x8_takeRow_b63 X6 X45 X63 X107 X133 X162 Q x1 x2 x3 x4 t0 s → X63 x1 x2 x3 x4 t0 s) → (∀ x1 x2 s, x8_takeRow_b107 X6 X45 X63 X107 X133 X162 Q x1 x2 s → X107 x1 x2 s) → (∀ x1 x2 t0 s, x8_takeRow_b133 X6 X45 X63 X107 X133 X162 Q x1 x2 t0 s → X133 x1 x2 t0 s) → (∀ x1 t0 s, x8_takeRow_b162 X6 X45 X63 X107 X133 X162 Q x1 t0 s → X162 x1 t0 s) → X45 x1 x2 x3 x4 t0 t1 s
def x8_takeRow_L63 (Q : Int → Mem → Prop) (x1 : Int) (x2 : Int) (x3 : Int) (x4 : Int) (t0 : Int) (s : Mem) : Prop := ∀ (X6 : Int → Int → Int → Mem → Prop) (X45 : Int → Int → Int → Int → Int → Int → Mem → Prop) (X63 : Int → Int → Int → Int → Int → Mem → Prop) (X107 : Int → Int → Mem → Prop) (X133 : Int → Int → Int → Mem → Prop) (X162 : Int → Int → Mem → Prop), (∀ x1 x2 x3 s, x8_takeRow_b6 X6 X45 X63 X107 X133 X162 Q x1 x2 x3 s → X6 x1 x2 x3 s) → (∀ x1 x2 x3 x4 t0 t1 s, x8_takeRow_b45 X6 X45 X63 X107 X133 X162 Q x1 x2 x3 x4 t0 t1 s → X45 x1 x2 x3 x4 t0 t1 s) → (∀ x1 x2 x3 x4 t0 s, x8_takeRow_b63 X6 X45 X63 X107 X133 X162 Q x1 x2 x3 x4 t0 s → X63 x1 x2 x3 x4 t0 s) → (∀ x1 x2 s, x8_takeRow_b107 X6 X45 X63 X107 X133 X162 Q x1 x2 s → X107 x1 x2 s) → (∀ x1 x2 t0 s, x8_takeRow_b133 X6 X45 X63 X107 X133 X162 Q x1 x2 t0 s → X133 x1 x2 t0 s) → (∀ x1 t0 s, x8_takeRow_b162 X6 X45 X63 X107 X133 X162 Q x1 t0 s → X162 x1 t0 s) → X63 x1 x2 x3 x4 t0 s
def x8_takeRow_L107 (Q : Int → Mem → Prop) (x1 : Int) (x2 : Int) (s : Mem) : Prop := ∀ (X6 : Int → Int → Int → Mem → Prop) (X45 : Int → Int → Int → Int → Int → Int → Mem → Prop) (X63 : Int → Int → Int → Int → Int → Mem → Prop) (X107 : Int → Int → Mem → Prop) (X133 : Int → Int → Int → Mem → Prop) (X162 : Int → Int → Mem → Prop), (∀ x1 x2 x3 s, x8_takeRow_b6 X6 X45 X63 X107 X133 X162 Q x1 x2 x3 s → X6 x1 x2 x3 s) → (∀ x1 x2 x3 x4 t0 t1 s, x8_takeRow_b45 X6 X45 X63 X107 X133 X162 Q x1 x2 x3 x4 t0 t1 s → X45 x1 x2 x3 x4 t0 t1 s) → (∀ x1 x2 x3 x4 t0 s, x8_takeRow_b63 X6 X45 X63 X107 X133 X162 Q x1 x2 x3 x4 t0 s → X63 x1 x2 x3 x4 t0 s) → (∀ x1 x2 s, x8_takeRow_b107 X6 X45 X63 X107 X133 X162 Q x1 x2 s → X107 x1 x2 s) → (∀ x1 x2 t0 s, x8_takeRow_b133 X6 X45 X63 X107 X133 X162 Q x1 x2 t0 s → X133 x1 x2 t0 s) → (∀ x1 t0 s, x8_takeRow_b162 X6 X45 X63 X107 X133 X162 Q x1 t0 s → X162 x1 t0 s) → X107 x1 x2 s
def x8_takeRow_L133 (Q : Int → Mem → Prop) (x1 : Int) (x2 : Int) (t0 : Int) (s : Mem) : Prop := ∀ (X6 : Int → Int → Int → Mem → Prop) (X45 : Int → Int → Int → Int → Int → Int → Mem → Prop) (X63 : Int → Int → Int → Int → Int → Mem → Prop) (X107 : Int → Int → Mem → Prop) (X133 : Int → Int → Int → Mem → Prop) (X162 : Int → Int → Mem → Prop), (∀ x1 x2 x3 s, x8_takeRow_b6 X6 X45 X63 X107 X133 X162 Q x1 x2 x3 s → X6 x1 x2 x3 s) → (∀ x1 x2 x3 x4 t0 t1 s, x8_takeRow_b45 X6 X45 X63 X107 X133 X162 Q x1 x2 x3 x4 t0 t1 s → X45 x1 x2 x3 x4 t0 t1 s) → (∀ x1 x2 x3 x4 t0 s, x8_takeRow_b63 X6 X45 X63 X107 X133 X162 Q x1 x2 x3 x4 t0 s → X63 x1 x2 x3 x4 t0 s) → (∀ x1 x2 s, x8_takeRow_b107 X6 X45 X63 X107 X133 X162 Q x1 x2 s → X107 x1 x2 s) → (∀ x1 x2 t0 s, x8_takeRow_b133 X6 X45 X63 X107 X133 X162 Q x1 x2 t0 s → X133 x1 x2 t0 s) → (∀ x1 t0 s, x8_takeRow_b162 X6 X45 X63 X107 X133 X162 Q x1 t0 s → X162 x1 t0 s) → X133 x1 x2 t0 s
def x8_takeRow_L162 (Q : Int → Mem → Prop) (x1 : Int) (t0 : Int) (s : Mem) : Prop := ∀ (X6 : Int → Int → Int → Mem → Prop) (X45 : Int → Int → Int → Int → Int → Int → Mem → Prop) (X63 : Int → Int → Int → Int → Int → Mem → Prop) (X107 : Int → Int → Mem → Prop) (X133 : Int → Int → Int → Mem → Prop) (X162 : Int → Int → Mem → Prop), (∀ x1 x2 x3 s, x8_takeRow_b6 X6 X45 X63 X107 X133 X162 Q x1 x2 x3 s → X6 x1 x2 x3 s) → (∀ x1 x2 x3 x4 t0 t1 s, x8_takeRow_b45 X6 X45 X63 X107 X133 X162 Q x1 x2 x3 x4 t0 t1 s → X45 x1 x2 x3 x4 t0 t1 s) → (∀ x1 x2 x3 x4 t0 s, x8_takeRow_b63 X6 X45 X63 X107 X133 X162 Q x1 x2 x3 x4 t0 s → X63 x1 x2 x3 x4 t0 s) → (∀ x1 x2 s, x8_takeRow_b107 X6 X45 X63 X107 X133 X162 Q x1 x2 s → X107 x1 x2 s) → (∀ x1 x2 t0 s, x8_takeRow_b133 X6 X45 X63 X107 X133 X162 Q x1 x2 t0 s → X133 x1 x2 t0 s) → (∀ x1 t0 s, x8_takeRow_b162 X6 X45 X63 X107 X133 X162 Q x1 t0 s → X162 x1 t0 s) → X162 x1 t0 s
theorem x8_takeRow_i {Q : Int → Mem → Prop}  {s : Mem} (h : x8_takeRow_be (x8_takeRow_L6 Q) (x8_takeRow_L45 Q) (x8_takeRow_L63 Q) (x8_takeRow_L107 Q) (x8_takeRow_L133 Q) (x8_takeRow_L162 Q) Q  s) : x8_takeRow  s Q := fun X6 X45 X63 X107 X133 X162 k6 k45 k63 k107 k133 k162 => x8_takeRow_me (fun _ _ _ _ h => h X6 X45 X63 X107 X133 X162 k6 k45 k63 k107 k133 k162) (fun _ _ _ _ _ _ _ h => h X6 X45 X63 X107 X133 X162 k6 k45 k63 k107 k133 k162) (fun _ _ _ _ _ _ h => h X6 X45 X63 X107 X133 X162 k6 k45 k63 k107 k133 k162) (fun _ _ _ h => h X6 X45 X63 X107 X133 X162 k6 k45 k63 k107 k133 k162) (fun _ _ _ _ h => h X6 X45 X63 X107 X133 X162 k6 k45 k63 k107 k133 k162) (fun _ _ _ h => h X6 X45 X63 X107 X133 X162 k6 k45 k63 k107 k133 k162) (fun _ _ h => h) h
theorem x8_takeRow_s6 {Q : Int → Mem → Prop} {x1 : Int} {x2 : Int} {x3 : Int} {s : Mem} (h : x8_takeRow_b6 (x8_takeRow_L6 Q) (x8_takeRow_L45 Q) (x8_takeRow_L63 Q) (x8_takeRow_L107 Q) (x8_takeRow_L133 Q) (x8_takeRow_L162 Q) Q x1 x2 x3 s) : x8_takeRow_L6 Q x1 x2 x3 s := fun X6 X45 X63 X107 X133 X162 k6 k45 k63 k107 k133 k162 => k6 _ _ _ _ (x8_takeRow_m6 (fun _ _ _ _ h => h X6 X45 X63 X107 X133 X162 k6 k45 k63 k107 k133 k162) (fun _ _ _ _ _ _ _ h => h X6 X45 X63 X107 X133 X162 k6 k45 k63 k107 k133 k162) (fun _ _ _ _ _ _ h => h X6 X45 X63 X107 X133 X162 k6 k45 k63 k107 k133 k162) (fun _ _ _ h => h X6 X45 X63 X107 X133 X162 k6 k45 k63 k107 k133 k162) (fun _ _ _ _ h => h X6 X45 X63 X107 X133 X162 k6 k45 k63 k107 k133 k162) (fun _ _ _ h => h X6 X45 X63 X107 X133 X162 k6 k45 k63 k107 k133 k162) (fun _ _ h => h) h)
theorem x8_takeRow_s45 {Q : Int → Mem → Prop} {x1 : Int} {x2 : Int} {x3 : Int} {x4 : Int} {t0 : Int} {t1 : Int} {s : Mem} (h : x8_takeRow_b45 (x8_takeRow_L6 Q) (x8_takeRow_L45 Q) (x8_takeRow_L63 Q) (x8_takeRow_L107 Q) (x8_takeRow_L133 Q) (x8_takeRow_L162 Q) Q x1 x2 x3 x4 t0 t1 s) : x8_takeRow_L45 Q x1 x2 x3 x4 t0 t1 s := fun X6 X45 X63 X107 X133 X162 k6 k45 k63 k107 k133 k162 => k45 _ _ _ _ _ _ _ (x8_takeRow_m45 (fun _ _ _ _ h => h X6 X45 X63 X107 X133 X162 k6 k45 k63 k107 k133 k162) (fun _ _ _ _ _ _ _ h => h X6 X45 X63 X107 X133 X162 k6 k45 k63 k107 k133 k162) (fun _ _ _ _ _ _ h => h X6 X45 X63 X107 X133 X162 k6 k45 k63 k107 k133 k162) (fun _ _ _ h => h X6 X45 X63 X107 X133 X162 k6 k45 k63 k107 k133 k162) (fun _ _ _ _ h => h X6 X45 X63 X107 X133 X162 k6 k45 k63 k107 k133 k162) (fun _ _ _ h => h X6 X45 X63 X107 X133 X162 k6 k45 k63 k107 k133 k162) (fun _ _ h => h) h)
theorem x8_takeRow_s63 {Q : Int → Mem → Prop} {x1 : Int} {x2 : Int} {x3 : Int} {x4 : Int} {t0 : Int} {s : Mem} (h : x8_takeRow_b63 (x8_takeRow_L6 Q) (x8_takeRow_L45 Q) (x8_takeRow_L63 Q) (x8_takeRow_L107 Q) (x8_takeRow_L133 Q) (x8_takeRow_L162 Q) Q x1 x2 x3 x4 t0 s) : x8_takeRow_L63 Q x1 x2 x3 x4 t0 s := fun X6 X45 X63 X107 X133 X162 k6 k45 k63 k107 k133 k162 => k63 _ _ _ _ _ _ (x8_takeRow_m63 (fun _ _ _ _ h => h X6 X45 X63 X107 X133 X162 k6 k45 k63 k107 k133 k162) (fun _ _ _ _ _ _ _ h => h X6 X45 X63 X107 X133 X162 k6 k45 k63 k107 k133 k162) (fun _ _ _ _ _ _ h => h X6 X45 X63 X107 X133 X162 k6 k45 k63 k107 k133 k162) (fun _ _ _ h => h X6 X45 X63 X107 X133 X162 k6 k45 k63 k107 k133 k162) (fun _ _ _ _ h => h X6 X45 X63 X107 X133 X162 k6 k45 k63 k107 k133 k162) (fun _ _ _ h => h X6 X45 X63 X107 X133 X162 k6 k45 k63 k107 k133 k162) (fun _ _ h => h) h)
theorem x8_takeRow_s107 {Q : Int → Mem → Prop} {x1 : Int} {x2 : Int} {s : Mem} (h : x8_takeRow_b107 (x8_takeRow_L6 Q) (x8_takeRow_L45 Q) (x8_takeRow_L63 Q) (x8_takeRow_L107 Q) (x8_takeRow_L133 Q) (x8_takeRow_L162 Q) Q x1 x2 s) : x8_takeRow_L107 Q x1 x2 s := fun X6 X45 X63 X107 X133 X162 k6 k45 k63 k107 k133 k162 => k107 _ _ _ (x8_takeRow_m107 (fun _ _ _ _ h => h X6 X45 X63 X107 X133 X162 k6 k45 k63 k107 k133 k162) (fun _ _ _ _ _ _ _ h => h X6 X45 X63 X107 X133 X162 k6 k45 k63 k107 k133 k162) (fun _ _ _ _ _ _ h => h X6 X45 X63 X107 X133 X162 k6 k45 k63 k107 k133 k162) (fun _ _ _ h => h X6 X45 X63 X107 X133 X162 k6 k45 k63 k107 k133 k162) (fun _ _ _ _ h => h X6 X45 X63 X107 X133 X162 k6 k45 k63 k107 k133 k162) (fun _ _ _ h => h X6 X45 X63 X107 X133 X162 k6 k45 k63 k107 k133 k162) (fun _ _ h => h) h)
theorem x8_takeRow_s133 {Q : Int → Mem → Prop} {x1 : Int} {x2 : Int} {t0 : Int} {s : Mem} (h : x8_takeRow_b133 (x8_takeRow_L6 Q) (x8_takeRow_L45 Q) (x8_takeRow_L63 Q) (x8_takeRow_L107 Q) (x8_takeRow_L133 Q) (x8_takeRow_L162 Q) Q x1 x2 t0 s) : x8_takeRow_L133 Q x1 x2 t0 s := fun X6 X45 X63 X107 X133 X162 k6 k45 k63 k107 k133 k162 => k133 _ _ _ _ (x8_takeRow_m133 (fun _ _ _ _ h => h X6 X45 X63 X107 X133 X162 k6 k45 k63 k107 k133 k162) (fun _ _ _ _ _ _ _ h => h X6 X45 X63 X107 X133 X162 k6 k45 k63 k107 k133 k162) (fun _ _ _ _ _ _ h => h X6 X45 X63 X107 X133 X162 k6 k45 k63 k107 k133 k162) (fun _ _ _ h => h X6 X45 X63 X107 X133 X162 k6 k45 k63 k107 k133 k162) (fun _ _ _ _ h => h X6 X45 X63 X107 X133 X162 k6 k45 k63 k107 k133 k162) (fun _ _ _ h => h X6 X45 X63 X107 X133 X162 k6 k45 k63 k107 k133 k162) (fun _ _ h => h) h)
theorem x8_takeRow_s162 {Q : Int → Mem → Prop} {x1 : Int} {t0 : Int} {s : Mem} (h : x8_takeRow_b162 (x8_takeRow_L6 Q) (x8_takeRow_L45 Q) (x8_takeRow_L63 Q) (x8_takeRow_L107 Q) (x8_takeRow_L133 Q) (x8_takeRow_L162 Q) Q x1 t0 s) : x8_takeRow_L162 Q x1 t0 s := fun X6 X45 X63 X107 X133 X162 k6 k45 k63 k107 k133 k162 => k162 _ _ _ (x8_takeRow_m162 (fun _ _ _ _ h => h X6 X45 X63 X107 X133 X162 k6 k45 k63 k107 k133 k162) (fun _ _ _ _ _ _ _ h => h X6 X45 X63 X107 X133 X162 k6 k45 k63 k107 k133 k162) (fun _ _ _ _ _ _ h => h X6 X45 X63 X107 X133 X162 k6 k45 k63 k107 k133 k162) (fun _ _ _ h => h X6 X45 X63 X107 X133 X162 k6 k45 k63 k107 k133 k162) (fun _ _ _ _ h => h X6 X45 X63 X107 X133 X162 k6 k45 k63 k107 k133 k162) (fun _ _ _ h => h X6 X45 X63 X107 X133 X162 k6 k45 k63 k107 k133 k162) (fun _ _ h => h) h)
theorem x8_takeRow_mono {Q R : Int → Mem → Prop}  {s : Mem} (h : x8_takeRow  s Q) (hQ : ∀ r s, Q r s → R r s) : x8_takeRow  s R := fun X6 X45 X63 X107 X133 X162 k6 k45 k63 k107 k133 k162 => x8_takeRow_me (fun _ _ _ _ h => h) (fun _ _ _ _ _ _ _ h => h) (fun _ _ _ _ _ _ h => h) (fun _ _ _ h => h) (fun _ _ _ _ h => h) (fun _ _ _ h => h) hQ (h X6 X45 X63 X107 X133 X162 (fun _ _ _ _ h => k6 _ _ _ _ (x8_takeRow_m6 (fun _ _ _ _ h => h) (fun _ _ _ _ _ _ _ h => h) (fun _ _ _ _ _ _ h => h) (fun _ _ _ h => h) (fun _ _ _ _ h => h) (fun _ _ _ h => h) hQ h)) (fun _ _ _ _ _ _ _ h => k45 _ _ _ _ _ _ _ (x8_takeRow_m45 (fun _ _ _ _ h => h) (fun _ _ _ _ _ _ _ h => h) (fun _ _ _ _ _ _ h => h) (fun _ _ _ h => h) (fun _ _ _ _ h => h) (fun _ _ _ h => h) hQ h)) (fun _ _ _ _ _ _ h => k63 _ _ _ _ _ _ (x8_takeRow_m63 (fun _ _ _ _ h => h) (fun _ _ _ _ _ _ _ h => h) (fun _ _ _ _ _ _ h => h) (fun _ _ _ h => h) (fun _ _ _ _ h => h) (fun _ _ _ h => h) hQ h)) (fun _ _ _ h => k107 _ _ _ (x8_takeRow_m107 (fun _ _ _ _ h => h) (fun _ _ _ _ _ _ _ h => h) (fun _ _ _ _ _ _ h => h) (fun _ _ _ h => h) (fun _ _ _ _ h => h) (fun _ _ _ h => h) hQ h)) (fun _ _ _ _ h => k133 _ _ _ _ (x8_takeRow_m133 (fun _ _ _ _ h => h) (fun _ _ _ _ _ _ _ h => h) (fun _ _ _ _ _ _ h => h) (fun _ _ _ h => h) (fun _ _ _ _ h => h) (fun _ _ _ h => h) hQ h)) (fun _ _ _ h => k162 _ _ _ (x8_takeRow_m162 (fun _ _ _ _ h => h) (fun _ _ _ _ _ _ _ h => h) (fun _ _ _ _ _ _ h => h) (fun _ _ _ h => h) (fun _ _ _ _ h => h) (fun _ _ _ h => h) hQ h)))
def x8_takeRow_rm : Room := { frames := 2, cells := 0, slots := 0, locals := 50 }
theorem w_x8_takeRow_263 : Cond.fieldLink RX8 263 "BoltRingModel" "faultOf" "I" ∈ wsX8_takeRow := by decide +kernel
theorem w_x8_takeRow_86 : Cond.fieldLink RX8 86 "BoltRingModel" "n" "I" ∈ wsX8_takeRow := by decide +kernel
theorem w_x8_takeRow_269 : Cond.fieldLink RX8 269 "BoltRingModel" "from" "I" ∈ wsX8_takeRow := by decide +kernel
theorem w_x8_takeRow_283 : Cond.constantLong RX8 283 (48) ∈ wsX8_takeRow := by decide +kernel
theorem w_x8_takeRow_285 : Cond.constantLong RX8 285 (57) ∈ wsX8_takeRow := by decide +kernel
theorem w_x8_takeRow_260 : Cond.fieldLink RX8 260 "BoltRingModel" "at" "I" ∈ wsX8_takeRow := by decide +kernel
theorem in_x8_takeRow_X8 : ∀ w ∈ wsX80, w ∈ wsX8_takeRow := by decide +kernel
set_option maxHeartbeats 4000000 in
set_option maxRecDepth 100000 in
theorem x8_takeRow_bd {κ : KT} {ad : Nat → Nat} {cA : Nat → ClassId} {D : va_G} {Q : State → Prop}  {s : Mem} (C : CX κ (GB ad cA D) RX8 cX8_takeRow 6 wsX8_takeRow x8_takeRow_rm (some .int)) (h : x8_takeRow  s (RT κ (GB ad cA D) ocI Q)) : WM κ (GB ad cA D) 6 Q s 0 [(0, .ref (ad 0))] [] := by
  obtain ⟨Z6, z6⟩ : ∃ Z : Int → Int → Int → Mem → Prop, ∀ x1 x2 x3 s, Z x1 x2 x3 s ↔ WM κ (GB ad cA D) 6 Q s 6 [(0, .ref (ad 0)), (1, vI x1), (2, vI x2), (3, vI x3)] [] := ⟨fun x1 x2 x3 s => WM κ (GB ad cA D) 6 Q s 6 [(0, .ref (ad 0)), (1, vI x1), (2, vI x2), (3, vI x3)] [], fun _ _ _ _ => Iff.rfl⟩
  obtain ⟨Z45, z45⟩ : ∃ Z : Int → Int → Int → Int → Int → Int → Mem → Prop, ∀ x1 x2 x3 x4 t0 t1 s, Z x1 x2 x3 x4 t0 t1 s ↔ WM κ (GB ad cA D) 6 Q s 45 [(0, .ref (ad 0)), (1, vI x1), (2, vI x2), (3, vI x3), (4, vI x4)] [vI t0, vI t1, .ref (ad 0)] := ⟨fun x1 x2 x3 x4 t0 t1 s => WM κ (GB ad cA D) 6 Q s 45 [(0, .ref (ad 0)), (1, vI x1), (2, vI x2), (3, vI x3), (4, vI x4)] [vI t0, vI t1, .ref (ad 0)], fun _ _ _ _ _ _ _ => Iff.rfl⟩
  obtain ⟨Z63, z63⟩ : ∃ Z : Int → Int → Int → Int → Int → Mem → Prop, ∀ x1 x2 x3 x4 t0 s, Z x1 x2 x3 x4 t0 s ↔ WM κ (GB ad cA D) 6 Q s 63 [(0, .ref (ad 0)), (1, vI x1), (2, vI x2), (3, vI x3), (4, vI x4)] [vI t0, .ref (ad 0)] := ⟨fun x1 x2 x3 x4 t0 s => WM κ (GB ad cA D) 6 Q s 63 [(0, .ref (ad 0)), (1, vI x1), (2, vI x2), (3, vI x3), (4, vI x4)] [vI t0, .ref (ad 0)], fun _ _ _ _ _ _ => Iff.rfl⟩
  obtain ⟨Z107, z107⟩ : ∃ Z : Int → Int → Mem → Prop, ∀ x1 x2 s, Z x1 x2 s ↔ WM κ (GB ad cA D) 6 Q s 107 [(0, .ref (ad 0)), (1, vI x1), (2, vI x2)] [] := ⟨fun x1 x2 s => WM κ (GB ad cA D) 6 Q s 107 [(0, .ref (ad 0)), (1, vI x1), (2, vI x2)] [], fun _ _ _ => Iff.rfl⟩
  obtain ⟨Z133, z133⟩ : ∃ Z : Int → Int → Int → Mem → Prop, ∀ x1 x2 t0 s, Z x1 x2 t0 s ↔ WM κ (GB ad cA D) 6 Q s 133 [(0, .ref (ad 0)), (1, vI x1), (2, vI x2)] [vI t0, .ref (ad 0)] := ⟨fun x1 x2 t0 s => WM κ (GB ad cA D) 6 Q s 133 [(0, .ref (ad 0)), (1, vI x1), (2, vI x2)] [vI t0, .ref (ad 0)], fun _ _ _ _ => Iff.rfl⟩
  obtain ⟨Z162, z162⟩ : ∃ Z : Int → Int → Mem → Prop, ∀ x1 t0 s, Z x1 t0 s ↔ WM κ (GB ad cA D) 6 Q s 162 [(0, .ref (ad 0)), (1, vI x1)] [vI t0, .ref (ad 0)] := ⟨fun x1 t0 s => WM κ (GB ad cA D) 6 Q s 162 [(0, .ref (ad 0)), (1, vI x1)] [vI t0, .ref (ad 0)], fun _ _ _ => Iff.rfl⟩
  refine (fun h => ?_) (h Z6 Z45 Z63 Z107 Z133 Z162 ?_ ?_ ?_ ?_ ?_ ?_)
  · refine r_iconst C dX8_takeRow_0 ?_
    refine r_istore_n (ls' := [(1, vI (0 : Int)), (0, .ref (ad 0))]) C dX8_takeRow_1 rfl (by decide) rfl ?_
    refine r_iconst C dX8_takeRow_2 ?_
    refine r_istore_n (ls' := [(2, vI (0 : Int)), (1, vI (0 : Int)), (0, .ref (ad 0))]) C dX8_takeRow_3 rfl (by decide) rfl ?_
    refine r_iconst C dX8_takeRow_4 ?_
    refine r_istore_n (ls' := [(3, vI (1 : Int)), (2, vI (0 : Int)), (1, vI (0 : Int)), (0, .ref (ad 0))]) C dX8_takeRow_5 rfl (by decide) rfl ?_
    exact r_perm [3, 2, 1, 0] rfl ((z6 _ _ _ _).1 h)
  · intro x1 x2 x3 s h
    refine (z6 _ _ _ _).2 ?_
    refine r_iload_n C 3 dX8_takeRow_6 rfl ?_
    refine r_if_eq (tgt := 107) C dX8_takeRow_7 (by decide) ⟨h.1, fun c5 => ?_, fun c5 => ?_⟩
    · have h := h.2.1 c5
      exact r_perm [0, 1, 2] rfl ((z107 _ _ _).1 h)
    · have h := h.2.2 c5
      refine r_aload_n C 0 dX8_takeRow_10 rfl ?_
      refine r_get (j := 32) (jz := 32) (v := vI (s 0 (32 : Int))) C dX8_takeRow_11 (shB_0) rfl rfl (by decide) in_x8_takeRow_X8 w_x8_takeRow_263 rfl rfl rfl ?_
      refine r_if_ne (tgt := 107) C dX8_takeRow_14 (by decide) ⟨h.1, fun c4 => ?_, fun c4 => ?_⟩
      · have h := h.2.1 c4
        exact r_perm [0, 1, 2] rfl ((z107 _ _ _).1 h)
      · have h := h.2.2 c4
        refine r_aload_n C 0 dX8_takeRow_17 rfl ?_
        refine r_iconst C dX8_takeRow_18 ?_
        refine r_aload_n C 0 dX8_takeRow_19 rfl ?_
        refine r_get (j := 0) (jz := 0) (v := vI (s 0 (0 : Int))) C dX8_takeRow_20 (shB_0) rfl rfl (by decide) in_x8_takeRow_X8 w_x8_takeRow_86 rfl rfl rfl ?_
        refine r_iconst C dX8_takeRow_23 ?_
        refine r_isub C dX8_takeRow_24 ?_
        refine r_callV (As := [vI (0 : Int), vI ((s 0 (0 : Int)) - (1 : Int))]) (o := 0) (n := 2) C dX8_takeRow_25 (x8_takeNumber_ct κ.1.2.1 ad cA D (0 : Int) ((s 0 (0 : Int)) - (1 : Int)) s) gX8_takeRow_X8_takeNumber rfl ⟨rfl, rfl⟩ (by decide +kernel) (by decide) (shB_0) rfl rfl rfl (Nat.le_of_ble_eq_true rfl) (fun _ => rfl) ?_
        refine x8_takeNumber_mono h (fun r2 s1 h => ?_)
        refine r_istore (ls' := [(4, vI r2), (0, .ref (ad 0)), (1, vI x1), (2, vI x2), (3, vI x3)]) C dX8_takeRow_28 (by decide) rfl ?_
        refine r_aload_n C 1 dX8_takeRow_30 rfl ?_
        refine r_iload_n C 3 dX8_takeRow_31 rfl ?_
        refine r_iload C 0 dX8_takeRow_32 rfl ?_
        refine r_bipush C dX8_takeRow_34 (by decide) ?_
        refine r_icmp_ge (tgt := 44) C dX8_takeRow_36 (by decide) ⟨h.1, fun c3 => ?_, fun c3 => ?_⟩
        · have h := h.2.1 c3
          refine r_iconst C dX8_takeRow_44 ?_
          exact r_perm [1, 2, 3, 4, 0] rfl ((z45 _ _ _ _ _ _ _).1 h)
        · have h := h.2.2 c3
          refine r_iload C 0 dX8_takeRow_39 rfl ?_
          refine r_goto (tgt := 45) C dX8_takeRow_41 (by decide) ?_
          exact r_perm [1, 2, 3, 4, 0] rfl ((z45 _ _ _ _ _ _ _).1 h)
  · intro x1 x2 x3 x4 t0 t1 s h
    refine (z45 _ _ _ _ _ _ _).2 ?_
    refine r_ishr C dX8_takeRow_45 ?_
    refine r_iconst C dX8_takeRow_46 ?_
    refine r_iand C dX8_takeRow_47 ?_
    refine r_if_eq (tgt := 58) C dX8_takeRow_48 (by decide) ⟨h.1, fun c7 => ?_, fun c7 => ?_⟩
    · have h := h.2.1 c7
      refine r_iconst C dX8_takeRow_58 ?_
      refine r_goto (tgt := 63) C dX8_takeRow_59 (by decide) ?_
      exact r_perm [0, 1, 2, 3, 4] rfl ((z63 _ _ _ _ _ _).1 h)
    · have h := h.2.2 c7
      refine r_aload_n C 0 dX8_takeRow_51 rfl ?_
      refine r_get (j := 32) (jz := 32) (v := vI (s 0 (32 : Int))) C dX8_takeRow_52 (shB_0) rfl rfl (by decide) in_x8_takeRow_X8 w_x8_takeRow_263 rfl rfl rfl ?_
      refine r_if_le (tgt := 62) C dX8_takeRow_55 (by decide) ⟨h.1, fun c6 => ?_, fun c6 => ?_⟩
      · have h := h.2.1 c6
        refine r_iconst C dX8_takeRow_62 ?_
        exact r_perm [0, 1, 2, 3, 4] rfl ((z63 _ _ _ _ _ _).1 h)
      · have h := h.2.2 c6
        refine r_iconst C dX8_takeRow_58 ?_
        refine r_goto (tgt := 63) C dX8_takeRow_59 (by decide) ?_
        exact r_perm [0, 1, 2, 3, 4] rfl ((z63 _ _ _ _ _ _).1 h)
  · intro x1 x2 x3 x4 t0 s h
    refine (z63 _ _ _ _ _ _).2 ?_
    refine r_iconst C dX8_takeRow_63 ?_
    refine r_aload_n C 0 dX8_takeRow_64 rfl ?_
    refine r_get (j := 34) (jz := 34) (v := vI (s 0 (34 : Int))) C dX8_takeRow_65 (shB_0) rfl rfl (by decide) in_x8_takeRow_X8 w_x8_takeRow_269 rfl rfl rfl ?_
    refine r_callV (As := [vI t0, vI (3 : Int), vI (s 0 (34 : Int))]) (o := 0) (n := 3) C dX8_takeRow_68 (x8_want_ct κ.1.2.1 ad cA D t0 (3 : Int) (s 0 (34 : Int)) s) gX8_takeRow_X8_want rfl ⟨rfl, rfl⟩ (by decide +kernel) (by decide) (shB_0) rfl rfl rfl (Nat.le_of_ble_eq_true rfl) (fun _ => rfl) ?_
    refine x8_want_mono h (fun r9 s8 h => ?_)
    refine r_if_eq (tgt := 104) C dX8_takeRow_71 (by decide) ⟨h.1, fun c16 => ?_, fun c16 => ?_⟩
    · have h := h.2.1 c16
      refine r_goto (tgt := 6) C dX8_takeRow_104 (by decide) ?_
      exact r_perm [0, 1, 2, 3] rfl ((z6 _ _ _ _).1 h)
    · have h := h.2.2 c16
      refine r_iload_n C 2 dX8_takeRow_74 rfl ?_
      refine r_iconst C dX8_takeRow_75 ?_
      refine r_iload C 4 dX8_takeRow_76 rfl ?_
      refine r_ishl C dX8_takeRow_78 ?_
      refine r_ior C dX8_takeRow_79 ?_
      refine r_topI (fun v10 e_v10 => ?_)
      have h := h v10 e_v10
      refine r_istore_n (ls' := [(2, vI v10), (0, .ref (ad 0)), (1, vI x1), (3, vI x3), (4, vI x4)]) C dX8_takeRow_80 rfl (by decide) rfl ?_
      refine r_bipush C dX8_takeRow_81 (by decide) ?_
      refine r_iload_n C 2 dX8_takeRow_83 rfl ?_
      refine r_imul C dX8_takeRow_84 ?_
      refine r_iload C 4 dX8_takeRow_85 rfl ?_
      refine r_iadd C dX8_takeRow_87 ?_
      refine r_topI (fun v11 e_v11 => ?_)
      have h := h v11 e_v11
      refine r_istore_n (ls' := [(1, vI v11), (2, vI v10), (0, .ref (ad 0)), (3, vI x3), (4, vI x4)]) C dX8_takeRow_88 rfl (by decide) rfl ?_
      refine r_aload_n C 2 dX8_takeRow_89 rfl ?_
      refine r_callV (As := []) (o := 0) (n := 0) C dX8_takeRow_90 (x8_here_ct κ.1.2.1 ad cA D s8) gX8_takeRow_X8_here rfl ⟨rfl, rfl⟩ (by decide +kernel) (by decide) (shB_0) rfl rfl rfl (Nat.le_of_ble_eq_true rfl) (fun _ => rfl) ?_
      refine x8_here_mono h (fun r13 s12 h => ?_)
      refine r_i2l C dX8_takeRow_93 ⟨h.1, ?_⟩
      have h := h.2
      refine r_ldc2 (z := 48) C dX8_takeRow_94 w_x8_takeRow_283 rfl ?_
      refine r_ldc2 (z := 57) C dX8_takeRow_97 w_x8_takeRow_285 rfl ?_
      refine r_callS (As := [vL r13, vL (48 : Int), vL (57 : Int)]) (n := 3) C dX8_takeRow_100 (x8_in_ct κ.1.2.1 ad cA D r13 (48 : Int) (57 : Int) s12) gX8_takeRow_X8_in rfl ⟨rfl, rfl⟩ (by decide +kernel) (by decide) rfl rfl (Nat.le_of_ble_eq_true rfl) (fun _ => rfl) ?_
      refine x8_in_mono h (fun r15 s14 h => ?_)
      refine r_istore_n (ls' := [(3, vI r15), (1, vI v11), (2, vI v10), (0, .ref (ad 0)), (4, vI x4)]) C dX8_takeRow_103 rfl (by decide) rfl ?_
      refine r_goto (tgt := 6) C dX8_takeRow_104 (by decide) ?_
      exact r_perm [3, 1, 2, 0] rfl ((z6 _ _ _ _).1 h)
  · intro x1 x2 s h
    refine (z107 _ _ _).2 ?_
    refine r_aload_n C 0 dX8_takeRow_107 rfl ?_
    refine r_callV (As := []) (o := 0) (n := 0) C dX8_takeRow_108 (x8_here_ct κ.1.2.1 ad cA D s) gX8_takeRow_X8_here rfl ⟨rfl, rfl⟩ (by decide +kernel) (by decide) (shB_0) rfl rfl rfl (Nat.le_of_ble_eq_true rfl) (fun _ => rfl) ?_
    refine x8_here_mono h (fun r18 s17 h => ?_)
    refine r_istore (ls' := [(4, vI r18), (0, .ref (ad 0)), (1, vI x1), (2, vI x2)]) C dX8_takeRow_111 (by decide) rfl ?_
    refine r_aload_n C 1 dX8_takeRow_113 rfl ?_
    refine r_get (j := 32) (jz := 32) (v := vI (s17 0 (32 : Int))) C dX8_takeRow_114 (shB_0) rfl rfl (by decide) in_x8_takeRow_X8 w_x8_takeRow_263 rfl rfl rfl ?_
    refine r_if_ne (tgt := 172) C dX8_takeRow_117 (by decide) ⟨h.1, fun c20 => ?_, fun c20 => ?_⟩
    · have h := h.2.1 c20
      refine r_iload_n C 2 dX8_takeRow_172 rfl ?_
      exact r_ireturn C dX8_takeRow_173 h
    · have h := h.2.2 c20
      refine r_aload_n C 1 dX8_takeRow_120 rfl ?_
      refine r_iload C 0 dX8_takeRow_121 rfl ?_
      refine r_bipush C dX8_takeRow_123 (by decide) ?_
      refine r_icmp_ne (tgt := 132) C dX8_takeRow_125 (by decide) ⟨h.1, fun c19 => ?_, fun c19 => ?_⟩
      · have h := h.2.1 c19
        refine r_iconst C dX8_takeRow_132 ?_
        exact r_perm [1, 2, 3] rfl ((z133 _ _ _ _).1 h)
      · have h := h.2.2 c19
        refine r_iconst C dX8_takeRow_128 ?_
        refine r_goto (tgt := 133) C dX8_takeRow_129 (by decide) ?_
        exact r_perm [1, 2, 3] rfl ((z133 _ _ _ _).1 h)
  · intro x1 x2 t0 s h
    refine (z133 _ _ _ _).2 ?_
    refine r_iconst C dX8_takeRow_133 ?_
    refine r_aload_n C 0 dX8_takeRow_134 rfl ?_
    refine r_get (j := 31) (jz := 31) (v := vI (s 0 (31 : Int))) C dX8_takeRow_135 (shB_0) rfl rfl (by decide) in_x8_takeRow_X8 w_x8_takeRow_260 rfl rfl rfl ?_
    refine r_callV (As := [vI t0, vI (1 : Int), vI (s 0 (31 : Int))]) (o := 0) (n := 3) C dX8_takeRow_138 (x8_want_ct κ.1.2.1 ad cA D t0 (1 : Int) (s 0 (31 : Int)) s) gX8_takeRow_X8_want rfl ⟨rfl, rfl⟩ (by decide +kernel) (by decide) (shB_0) rfl rfl rfl (Nat.le_of_ble_eq_true rfl) (fun _ => rfl) ?_
    refine x8_want_mono h (fun r22 s21 h => ?_)
    refine r_if_eq (tgt := 172) C dX8_takeRow_141 (by decide) ⟨h.1, fun c24 => ?_, fun c24 => ?_⟩
    · have h := h.2.1 c24
      refine r_iload_n C 1 dX8_takeRow_172 rfl ?_
      exact r_ireturn C dX8_takeRow_173 h
    · have h := h.2.2 c24
      refine r_aload_n C 0 dX8_takeRow_144 rfl ?_
      refine r_iload_n C 2 dX8_takeRow_145 rfl ?_
      refine r_iconst C dX8_takeRow_146 ?_
      refine r_aload_n C 0 dX8_takeRow_147 rfl ?_
      refine r_get (j := 0) (jz := 0) (v := vI (s21 0 (0 : Int))) C dX8_takeRow_148 (shB_0) rfl rfl (by decide) in_x8_takeRow_X8 w_x8_takeRow_86 rfl rfl rfl ?_
      refine r_ishl C dX8_takeRow_151 ?_
      refine r_iconst C dX8_takeRow_152 ?_
      refine r_isub C dX8_takeRow_153 ?_
      refine r_icmp_ne (tgt := 161) C dX8_takeRow_154 (by decide) ⟨h.1, fun c23 => ?_, fun c23 => ?_⟩
      · have h := h.2.1 c23
        refine r_iconst C dX8_takeRow_161 ?_
        exact r_perm [0, 1] rfl ((z162 _ _ _).1 h)
      · have h := h.2.2 c23
        refine r_iconst C dX8_takeRow_157 ?_
        refine r_goto (tgt := 162) C dX8_takeRow_158 (by decide) ?_
        exact r_perm [0, 1] rfl ((z162 _ _ _).1 h)
  · intro x1 t0 s h
    refine (z162 _ _ _).2 ?_
    refine r_iconst C dX8_takeRow_162 ?_
    refine r_aload_n C 0 dX8_takeRow_163 rfl ?_
    refine r_get (j := 31) (jz := 31) (v := vI (s 0 (31 : Int))) C dX8_takeRow_164 (shB_0) rfl rfl (by decide) in_x8_takeRow_X8 w_x8_takeRow_260 rfl rfl rfl ?_
    refine r_callV (As := [vI t0, vI (4 : Int), vI (s 0 (31 : Int))]) (o := 0) (n := 3) C dX8_takeRow_167 (x8_want_ct κ.1.2.1 ad cA D t0 (4 : Int) (s 0 (31 : Int)) s) gX8_takeRow_X8_want rfl ⟨rfl, rfl⟩ (by decide +kernel) (by decide) (shB_0) rfl rfl rfl (Nat.le_of_ble_eq_true rfl) (fun _ => rfl) ?_
    refine x8_want_mono h (fun r26 s25 h => ?_)
    refine r_istore (ls' := [(5, vI r26), (0, .ref (ad 0)), (1, vI x1)]) C dX8_takeRow_170 (by decide) rfl ?_
    refine r_iload_n C 2 dX8_takeRow_172 rfl ?_
    exact r_ireturn C dX8_takeRow_173 h
theorem x8_takeRow_ct (l : Launch) (ad : Nat → Nat) (cA : Nat → ClassId) (D : va_G)  (s : Mem) : MG l yX8_takeRow wsX8_takeRow x8_takeRow_rm ocI [.ref (ad 0)] (GB ad cA D) s (x8_takeRow  s) :=
  m_met (own := RX8) (nL := 6) (by decide) rfl rfl (Nat.le_of_ble_eq_true rfl) rfl rfl rfl (fun κ hl C Q Pst hW hQ => x8_takeRow_bd C (x8_takeRow_mono hW hQ))

def x8_readClause_be (X19 : Int → Int → Mem → Prop) (X45 : Int → Int → Mem → Prop) (X114 : Int → Int → Int → Mem → Prop) (X124 : Int → Mem → Prop) (X167 : Int → Int → Mem → Prop) (X219 : Mem → Prop) (X243 : Int → Mem → Prop) (Q : Int → Mem → Prop)  (s : Mem) : Prop :=
  x8_takeWord s (fun _ s1 => x8_clauseOf s1 (fun r3 s2 => InI r3 ∧ (r3 < (0 : Int) → X19 r3 (0 : Int) s2) ∧ ((0 : Int) ≤ r3 → X19 r3 (1 : Int) s2)))
def x8_readClause_b19 (X19 : Int → Int → Mem → Prop) (X45 : Int → Int → Mem → Prop) (X114 : Int → Int → Int → Mem → Prop) (X124 : Int → Mem → Prop) (X167 : Int → Int → Mem → Prop) (X219 : Mem → Prop) (X243 : Int → Mem → Prop) (Q : Int → Mem → Prop) (x1 : Int) (t0 : Int) (s : Mem) : Prop :=
  x8_want t0 (1 : Int) (s 0 (34 : Int)) s (fun r6 s5 => InI r6 ∧ (r6 = (0 : Int) → Q (0 : Int) s5) ∧ (¬ r6 = (0 : Int) → (InI (s5 0 (37 : Int)) ∧ InI (12 : Int)) ∧ ((12 : Int) ≤ (s5 0 (37 : Int)) → X45 x1 (0 : Int) s5) ∧ ((s5 0 (37 : Int)) < (12 : Int) → X45 x1 (1 : Int) s5)))
def x8_readClause_b45 (X19 : Int → Int → Mem → Prop) (X45 : Int → Int → Mem → Prop) (X114 : Int → Int → Int → Mem → Prop) (X124 : Int → Mem → Prop) (X167 : Int → Int → Mem → Prop) (X219 : Mem → Prop) (X243 : Int → Mem → Prop) (Q : Int → Mem → Prop) (x1 : Int) (t0 : Int) (s : Mem) : Prop :=
  x8_want t0 (5 : Int) (s 0 (34 : Int)) s (fun r10 s9 => InI r10 ∧ (¬ r10 = (0 : Int) → ((0 : Int) ≤ (s9 0 (37 : Int)) ∧ (s9 0 (37 : Int)) < 12) ∧ ∀ s11 : Mem, s11 = m_upd s9 20 (s9 0 (37 : Int)) x1 → (InI x1 ∧ InI (5 : Int)) ∧ (¬ x1 = (5 : Int) → (InI x1 ∧ InI (1 : Int)) ∧ (¬ x1 = (1 : Int) → x8_takeNumber (0 : Int) ((s11 0 (0 : Int)) - (1 : Int)) s11 (fun r13 s12 => X114 x1 r13 (s11 0 (37 : Int)) s12)) ∧ (x1 = (1 : Int) → x8_takeNumber (1 : Int) (900 : Int) s11 (fun r15 s14 => X114 x1 r15 (s11 0 (37 : Int)) s14))) ∧ (x1 = (5 : Int) → x8_takeRow s11 (fun r18 s17 => X114 x1 r18 (s11 0 (37 : Int)) s17))) ∧ (r10 = (0 : Int) → Q (0 : Int) s9))
def x8_readClause_b114 (X19 : Int → Int → Mem → Prop) (X45 : Int → Int → Mem → Prop) (X114 : Int → Int → Int → Mem → Prop) (X124 : Int → Mem → Prop) (X167 : Int → Int → Mem → Prop) (X219 : Mem → Prop) (X243 : Int → Mem → Prop) (Q : Int → Mem → Prop) (x1 : Int) (t0 : Int) (t1 : Int) (s : Mem) : Prop :=
  ((0 : Int) ≤ t1 ∧ t1 < 12) ∧ ∀ s21 : Mem, s21 = m_upd s 21 t1 t0 → InI x1 ∧ (x1 = (0 : Int) → X124 x1 s21) ∧ (¬ x1 = (0 : Int) → (InI x1 ∧ InI (2 : Int)) ∧ (¬ x1 = (2 : Int) → X219 s21) ∧ (x1 = (2 : Int) → X124 x1 s21))
def x8_readClause_b124 (X19 : Int → Int → Mem → Prop) (X45 : Int → Int → Mem → Prop) (X114 : Int → Int → Int → Mem → Prop) (X124 : Int → Mem → Prop) (X167 : Int → Int → Mem → Prop) (X219 : Mem → Prop) (X243 : Int → Mem → Prop) (Q : Int → Mem → Prop) (x1 : Int) (s : Mem) : Prop :=
  InI (s 0 (32 : Int)) ∧ (¬ (s 0 (32 : Int)) = (0 : Int) → X219 s) ∧ ((s 0 (32 : Int)) = (0 : Int) → x8_takeWord s (fun _ s24 => InI x1 ∧ (¬ x1 = (0 : Int) → x8_isWord (2 : Int) (98 : Int) (121 : Int) (0 : Int) (0 : Int) (0 : Int) s24 (fun r26 s25 => X167 x1 r26 s25)) ∧ (x1 = (0 : Int) → x8_isWord (2 : Int) (116 : Int) (111 : Int) (0 : Int) (0 : Int) (0 : Int) s24 (fun r28 s27 => X167 x1 r28 s27))))
def x8_readClause_b167 (X19 : Int → Int → Mem → Prop) (X45 : Int → Int → Mem → Prop) (X114 : Int → Int → Int → Mem → Prop) (X124 : Int → Mem → Prop) (X167 : Int → Int → Mem → Prop) (X219 : Mem → Prop) (X243 : Int → Mem → Prop) (Q : Int → Mem → Prop) (x1 : Int) (t0 : Int) (s : Mem) : Prop :=
  x8_want t0 (1 : Int) (s 0 (34 : Int)) s (fun r32 s31 => InI (s31 0 (32 : Int)) ∧ ((s31 0 (32 : Int)) ≤ (0 : Int) → InI x1 ∧ (¬ x1 = (0 : Int) → x8_takeNumber (0 : Int) (200 : Int) s31 (fun r34 s33 => ((0 : Int) ≤ (s31 0 (37 : Int)) ∧ (s31 0 (37 : Int)) < 12) ∧ ∀ s35 : Mem, s35 = m_upd s33 22 (s31 0 (37 : Int)) r34 → X219 s35)) ∧ (x1 = (0 : Int) → x8_takeNumber (1 : Int) (900 : Int) s31 (fun r37 s36 => ((0 : Int) ≤ (s31 0 (37 : Int)) ∧ (s31 0 (37 : Int)) < 12) ∧ ∀ s38 : Mem, s38 = m_upd s36 22 (s31 0 (37 : Int)) r37 → X219 s38))) ∧ ((0 : Int) < (s31 0 (32 : Int)) → ((0 : Int) ≤ (s31 0 (37 : Int)) ∧ (s31 0 (37 : Int)) < 12) ∧ ∀ s40 : Mem, s40 = m_upd s31 22 (s31 0 (37 : Int)) (0 : Int) → X219 s40))
def x8_readClause_b219 (X19 : Int → Int → Mem → Prop) (X45 : Int → Int → Mem → Prop) (X114 : Int → Int → Int → Mem → Prop) (X124 : Int → Mem → Prop) (X167 : Int → Int → Mem → Prop) (X219 : Mem → Prop) (X243 : Int → Mem → Prop) (Q : Int → Mem → Prop)  (s : Mem) : Prop :=
  x8_here s (fun r43 s42 => InI (s42 0 (32 : Int)) ∧ (¬ (s42 0 (32 : Int)) = (0 : Int) → Q (0 : Int) s42) ∧ ((s42 0 (32 : Int)) = (0 : Int) → (InI r43 ∧ InI (59 : Int)) ∧ (¬ r43 = (59 : Int) → X243 (0 : Int) s42) ∧ (r43 = (59 : Int) → X243 (1 : Int) s42)))
def x8_readClause_b243 (X19 : Int → Int → Mem → Prop) (X45 : Int → Int → Mem → Prop) (X114 : Int → Int → Int → Mem → Prop) (X124 : Int → Mem → Prop) (X167 : Int → Int → Mem → Prop) (X219 : Mem → Prop) (X243 : Int → Mem → Prop) (Q : Int → Mem → Prop) (t0 : Int) (s : Mem) : Prop :=
  x8_want t0 (1 : Int) (s 0 (31 : Int)) s (fun r47 s46 => InI r47 ∧ (r47 = (0 : Int) → Q (0 : Int) s46) ∧ (¬ r47 = (0 : Int) → ∀ s48 : Mem, s48 = m_upd s46 0 (31 : Int) ((s46 0 (31 : Int)) + (1 : Int)) → ∀ s49 : Mem, s49 = m_upd s48 0 (37 : Int) ((s48 0 (37 : Int)) + (1 : Int)) → Q (0 : Int) s49))
theorem x8_readClause_me {X19 Y19 : Int → Int → Mem → Prop} {X45 Y45 : Int → Int → Mem → Prop} {X114 Y114 : Int → Int → Int → Mem → Prop} {X124 Y124 : Int → Mem → Prop} {X167 Y167 : Int → Int → Mem → Prop} {X219 Y219 : Mem → Prop} {X243 Y243 : Int → Mem → Prop} {Q R : Int → Mem → Prop} (hX19 : ∀ x1 t0 s, X19 x1 t0 s → Y19 x1 t0 s) (hX45 : ∀ x1 t0 s, X45 x1 t0 s → Y45 x1 t0 s) (hX114 : ∀ x1 t0 t1 s, X114 x1 t0 t1 s → Y114 x1 t0 t1 s) (hX124 : ∀ x1 s, X124 x1 s → Y124 x1 s) (hX167 : ∀ x1 t0 s, X167 x1 t0 s → Y167 x1 t0 s) (hX219 : ∀ s, X219 s → Y219 s) (hX243 : ∀ t0 s, X243 t0 s → Y243 t0 s) (hQ : ∀ r s, Q r s → R r s)  {s : Mem} (h : x8_readClause_be X19 X45 X114 X124 X167 X219 X243 Q  s) : x8_readClause_be Y19 Y45 Y114 Y124 Y167 Y219 Y243 R  s :=
  x8_takeWord_mono h (fun _ s1 h => x8_clauseOf_mono h (fun r3 s2 h => ⟨h.1, fun c => have h := h.2.1 c; hX19 _ _ _ h, fun c => have h := h.2.2 c; hX19 _ _ _ h⟩))
theorem x8_readClause_m19 {X19 Y19 : Int → Int → Mem → Prop} {X45 Y45 : Int → Int → Mem → Prop} {X114 Y114 : Int → Int → Int → Mem → Prop} {X124 Y124 : Int → Mem → Prop} {X167 Y167 : Int → Int → Mem → Prop} {X219 Y219 : Mem → Prop} {X243 Y243 : Int → Mem → Prop} {Q R : Int → Mem → Prop} (hX19 : ∀ x1 t0 s, X19 x1 t0 s → Y19 x1 t0 s) (hX45 : ∀ x1 t0 s, X45 x1 t0 s → Y45 x1 t0 s) (hX114 : ∀ x1 t0 t1 s, X114 x1 t0 t1 s → Y114 x1 t0 t1 s) (hX124 : ∀ x1 s, X124 x1 s → Y124 x1 s) (hX167 : ∀ x1 t0 s, X167 x1 t0 s → Y167 x1 t0 s) (hX219 : ∀ s, X219 s → Y219 s) (hX243 : ∀ t0 s, X243 t0 s → Y243 t0 s) (hQ : ∀ r s, Q r s → R r s) {x1 : Int} {t0 : Int} {s : Mem} (h : x8_readClause_b19 X19 X45 X114 X124 X167 X219 X243 Q x1 t0 s) : x8_readClause_b19 Y19 Y45 Y114 Y124 Y167 Y219 Y243 R x1 t0 s :=
  x8_want_mono h (fun r6 s5 h => ⟨h.1, fun c => have h := h.2.1 c; hQ _ _ h, fun c => have h := h.2.2 c; ⟨h.1, fun c => have h := h.2.1 c; hX45 _ _ _ h, fun c => have h := h.2.2 c; hX45 _ _ _ h⟩⟩)
theorem x8_readClause_m45 {X19 Y19 : Int → Int → Mem → Prop} {X45 Y45 : Int → Int → Mem → Prop} {X114 Y114 : Int → Int → Int → Mem → Prop} {X124 Y124 : Int → Mem → Prop} {X167 Y167 : Int → Int → Mem → Prop} {X219 Y219 : Mem → Prop} {X243 Y243 : Int → Mem → Prop} {Q R : Int → Mem → Prop} (hX19 : ∀ x1 t0 s, X19 x1 t0 s → Y19 x1 t0 s) (hX45 : ∀ x1 t0 s, X45 x1 t0 s → Y45 x1 t0 s) (hX114 : ∀ x1 t0 t1 s, X114 x1 t0 t1 s → Y114 x1 t0 t1 s) (hX124 : ∀ x1 s, X124 x1 s → Y124 x1 s) (hX167 : ∀ x1 t0 s, X167 x1 t0 s → Y167 x1 t0 s) (hX219 : ∀ s, X219 s → Y219 s) (hX243 : ∀ t0 s, X243 t0 s → Y243 t0 s) (hQ : ∀ r s, Q r s → R r s) {x1 : Int} {t0 : Int} {s : Mem} (h : x8_readClause_b45 X19 X45 X114 X124 X167 X219 X243 Q x1 t0 s) : x8_readClause_b45 Y19 Y45 Y114 Y124 Y167 Y219 Y243 R x1 t0 s :=
  x8_want_mono h (fun r10 s9 h => ⟨h.1, fun c => have h := h.2.1 c; ⟨h.1, have h := h.2; fun s11 e_s11 => have h := h s11 e_s11; ⟨h.1, fun c => have h := h.2.1 c; ⟨h.1, fun c => have h := h.2.1 c; x8_takeNumber_mono h (fun r13 s12 h => hX114 _ _ _ _ h), fun c => have h := h.2.2 c; x8_takeNumber_mono h (fun r15 s14 h => hX114 _ _ _ _ h)⟩, fun c => have h := h.2.2 c; x8_takeRow_mono h (fun r18 s17 h => hX114 _ _ _ _ h)⟩⟩, fun c => have h := h.2.2 c; hQ _ _ h⟩)
theorem x8_readClause_m114 {X19 Y19 : Int → Int → Mem → Prop} {X45 Y45 : Int → Int → Mem → Prop} {X114 Y114 : Int → Int → Int → Mem → Prop} {X124 Y124 : Int → Mem → Prop} {X167 Y167 : Int → Int → Mem → Prop} {X219 Y219 : Mem → Prop} {X243 Y243 : Int → Mem → Prop} {Q R : Int → Mem → Prop} (hX19 : ∀ x1 t0 s, X19 x1 t0 s → Y19 x1 t0 s) (hX45 : ∀ x1 t0 s, X45 x1 t0 s → Y45 x1 t0 s) (hX114 : ∀ x1 t0 t1 s, X114 x1 t0 t1 s → Y114 x1 t0 t1 s) (hX124 : ∀ x1 s, X124 x1 s → Y124 x1 s) (hX167 : ∀ x1 t0 s, X167 x1 t0 s → Y167 x1 t0 s) (hX219 : ∀ s, X219 s → Y219 s) (hX243 : ∀ t0 s, X243 t0 s → Y243 t0 s) (hQ : ∀ r s, Q r s → R r s) {x1 : Int} {t0 : Int} {t1 : Int} {s : Mem} (h : x8_readClause_b114 X19 X45 X114 X124 X167 X219 X243 Q x1 t0 t1 s) : x8_readClause_b114 Y19 Y45 Y114 Y124 Y167 Y219 Y243 R x1 t0 t1 s :=
  ⟨h.1, have h := h.2; fun s21 e_s21 => have h := h s21 e_s21; ⟨h.1, fun c => have h := h.2.1 c; hX124 _ _ h, fun c => have h := h.2.2 c; ⟨h.1, fun c => have h := h.2.1 c; hX219 _ h, fun c => have h := h.2.2 c; hX124 _ _ h⟩⟩⟩
theorem x8_readClause_m124 {X19 Y19 : Int → Int → Mem → Prop} {X45 Y45 : Int → Int → Mem → Prop} {X114 Y114 : Int → Int → Int → Mem → Prop} {X124 Y124 : Int → Mem → Prop} {X167 Y167 : Int → Int → Mem → Prop} {X219 Y219 : Mem → Prop} {X243 Y243 : Int → Mem → Prop} {Q R : Int → Mem → Prop} (hX19 : ∀ x1 t0 s, X19 x1 t0 s → Y19 x1 t0 s) (hX45 : ∀ x1 t0 s, X45 x1 t0 s → Y45 x1 t0 s) (hX114 : ∀ x1 t0 t1 s, X114 x1 t0 t1 s → Y114 x1 t0 t1 s) (hX124 : ∀ x1 s, X124 x1 s → Y124 x1 s) (hX167 : ∀ x1 t0 s, X167 x1 t0 s → Y167 x1 t0 s) (hX219 : ∀ s, X219 s → Y219 s) (hX243 : ∀ t0 s, X243 t0 s → Y243 t0 s) (hQ : ∀ r s, Q r s → R r s) {x1 : Int} {s : Mem} (h : x8_readClause_b124 X19 X45 X114 X124 X167 X219 X243 Q x1 s) : x8_readClause_b124 Y19 Y45 Y114 Y124 Y167 Y219 Y243 R x1 s :=
  ⟨h.1, fun c => have h := h.2.1 c; hX219 _ h, fun c => have h := h.2.2 c; x8_takeWord_mono h (fun _ s24 h => ⟨h.1, fun c => have h := h.2.1 c; x8_isWord_mono h (fun r26 s25 h => hX167 _ _ _ h), fun c => have h := h.2.2 c; x8_isWord_mono h (fun r28 s27 h => hX167 _ _ _ h)⟩)⟩
theorem x8_readClause_m167 {X19 Y19 : Int → Int → Mem → Prop} {X45 Y45 : Int → Int → Mem → Prop} {X114 Y114 : Int → Int → Int → Mem → Prop} {X124 Y124 : Int → Mem → Prop} {X167 Y167 : Int → Int → Mem → Prop} {X219 Y219 : Mem → Prop} {X243 Y243 : Int → Mem → Prop} {Q R : Int → Mem → Prop} (hX19 : ∀ x1 t0 s, X19 x1 t0 s → Y19 x1 t0 s) (hX45 : ∀ x1 t0 s, X45 x1 t0 s → Y45 x1 t0 s) (hX114 : ∀ x1 t0 t1 s, X114 x1 t0 t1 s → Y114 x1 t0 t1 s) (hX124 : ∀ x1 s, X124 x1 s → Y124 x1 s) (hX167 : ∀ x1 t0 s, X167 x1 t0 s → Y167 x1 t0 s) (hX219 : ∀ s, X219 s → Y219 s) (hX243 : ∀ t0 s, X243 t0 s → Y243 t0 s) (hQ : ∀ r s, Q r s → R r s) {x1 : Int} {t0 : Int} {s : Mem} (h : x8_readClause_b167 X19 X45 X114 X124 X167 X219 X243 Q x1 t0 s) : x8_readClause_b167 Y19 Y45 Y114 Y124 Y167 Y219 Y243 R x1 t0 s :=
  x8_want_mono h (fun r32 s31 h => ⟨h.1, fun c => have h := h.2.1 c; ⟨h.1, fun c => have h := h.2.1 c; x8_takeNumber_mono h (fun r34 s33 h => ⟨h.1, have h := h.2; fun s35 e_s35 => have h := h s35 e_s35; hX219 _ h⟩), fun c => have h := h.2.2 c; x8_takeNumber_mono h (fun r37 s36 h => ⟨h.1, have h := h.2; fun s38 e_s38 => have h := h s38 e_s38; hX219 _ h⟩)⟩, fun c => have h := h.2.2 c; ⟨h.1, have h := h.2; fun s40 e_s40 => have h := h s40 e_s40; hX219 _ h⟩⟩)
theorem x8_readClause_m219 {X19 Y19 : Int → Int → Mem → Prop} {X45 Y45 : Int → Int → Mem → Prop} {X114 Y114 : Int → Int → Int → Mem → Prop} {X124 Y124 : Int → Mem → Prop} {X167 Y167 : Int → Int → Mem → Prop} {X219 Y219 : Mem → Prop} {X243 Y243 : Int → Mem → Prop} {Q R : Int → Mem → Prop} (hX19 : ∀ x1 t0 s, X19 x1 t0 s → Y19 x1 t0 s) (hX45 : ∀ x1 t0 s, X45 x1 t0 s → Y45 x1 t0 s) (hX114 : ∀ x1 t0 t1 s, X114 x1 t0 t1 s → Y114 x1 t0 t1 s) (hX124 : ∀ x1 s, X124 x1 s → Y124 x1 s) (hX167 : ∀ x1 t0 s, X167 x1 t0 s → Y167 x1 t0 s) (hX219 : ∀ s, X219 s → Y219 s) (hX243 : ∀ t0 s, X243 t0 s → Y243 t0 s) (hQ : ∀ r s, Q r s → R r s)  {s : Mem} (h : x8_readClause_b219 X19 X45 X114 X124 X167 X219 X243 Q  s) : x8_readClause_b219 Y19 Y45 Y114 Y124 Y167 Y219 Y243 R  s :=
  x8_here_mono h (fun r43 s42 h => ⟨h.1, fun c => have h := h.2.1 c; hQ _ _ h, fun c => have h := h.2.2 c; ⟨h.1, fun c => have h := h.2.1 c; hX243 _ _ h, fun c => have h := h.2.2 c; hX243 _ _ h⟩⟩)
theorem x8_readClause_m243 {X19 Y19 : Int → Int → Mem → Prop} {X45 Y45 : Int → Int → Mem → Prop} {X114 Y114 : Int → Int → Int → Mem → Prop} {X124 Y124 : Int → Mem → Prop} {X167 Y167 : Int → Int → Mem → Prop} {X219 Y219 : Mem → Prop} {X243 Y243 : Int → Mem → Prop} {Q R : Int → Mem → Prop} (hX19 : ∀ x1 t0 s, X19 x1 t0 s → Y19 x1 t0 s) (hX45 : ∀ x1 t0 s, X45 x1 t0 s → Y45 x1 t0 s) (hX114 : ∀ x1 t0 t1 s, X114 x1 t0 t1 s → Y114 x1 t0 t1 s) (hX124 : ∀ x1 s, X124 x1 s → Y124 x1 s) (hX167 : ∀ x1 t0 s, X167 x1 t0 s → Y167 x1 t0 s) (hX219 : ∀ s, X219 s → Y219 s) (hX243 : ∀ t0 s, X243 t0 s → Y243 t0 s) (hQ : ∀ r s, Q r s → R r s) {t0 : Int} {s : Mem} (h : x8_readClause_b243 X19 X45 X114 X124 X167 X219 X243 Q t0 s) : x8_readClause_b243 Y19 Y45 Y114 Y124 Y167 Y219 Y243 R t0 s :=
  x8_want_mono h (fun r47 s46 h => ⟨h.1, fun c => have h := h.2.1 c; hQ _ _ h, fun c => have h := h.2.2 c; fun s48 e_s48 => have h := h s48 e_s48; fun s49 e_s49 => have h := h s49 e_s49; hQ _ _ h⟩)
def x8_readClause  (s : Mem) (Q : Int → Mem → Prop) : Prop := ∀ (X19 : Int → Int → Mem → Prop) (X45 : Int → Int → Mem → Prop) (X114 : Int → Int → Int → Mem → Prop) (X124 : Int → Mem → Prop) (X167 : Int → Int → Mem → Prop) (X219 : Mem → Prop) (X243 : Int → Mem → Prop), (∀ x1 t0 s, x8_readClause_b19 X19 X45 X114 X124 X167 X219 X243 Q x1 t0 s → X19 x1 t0 s) → (∀ x1 t0 s, x8_readClause_b45 X19 X45 X114 X124 X167 X219 X243 Q x1 t0 s → X45 x1 t0 s) → (∀ x1 t0 t1 s, x8_readClause_b114 X19 X45 X114 X124 X167 X219 X243 Q x1 t0 t1 s → X114 x1 t0 t1 s) → (∀ x1 s, x8_readClause_b124 X19 X45 X114 X124 X167 X219 X243 Q x1 s → X124 x1 s) → (∀ x1 t0 s, x8_readClause_b167 X19 X45 X114 X124 X167 X219 X243 Q x1 t0 s → X167 x1 t0 s) → (∀ s, x8_readClause_b219 X19 X45 X114 X124 X167 X219 X243 Q s → X219 s) → (∀ t0 s, x8_readClause_b243 X19 X45 X114 X124 X167 X219 X243 Q t0 s → X243 t0 s) → x8_readClause_be X19 X45 X114 X124 X167 X219 X243 Q  s
def x8_readClause_L19 (Q : Int → Mem → Prop) (x1 : Int) (t0 : Int) (s : Mem) : Prop := ∀ (X19 : Int → Int → Mem → Prop) (X45 : Int → Int → Mem → Prop) (X114 : Int → Int → Int → Mem → Prop) (X124 : Int → Mem → Prop) (X167 : Int → Int → Mem → Prop) (X219 : Mem → Prop) (X243 : Int → Mem → Prop), (∀ x1 t0 s, x8_readClause_b19 X19 X45 X114 X124 X167 X219 X243 Q x1 t0 s → X19 x1 t0 s) → (∀ x1 t0 s, x8_readClause_b45 X19 X45 X114 X124 X167 X219 X243 Q x1 t0 s → X45 x1 t0 s) → (∀ x1 t0 t1 s, x8_readClause_b114 X19 X45 X114 X124 X167 X219 X243 Q x1 t0 t1 s → X114 x1 t0 t1 s) → (∀ x1 s, x8_readClause_b124 X19 X45 X114 X124 X167 X219 X243 Q x1 s → X124 x1 s) → (∀ x1 t0 s, x8_readClause_b167 X19 X45 X114 X124 X167 X219 X243 Q x1 t0 s → X167 x1 t0 s) → (∀ s, x8_readClause_b219 X19 X45 X114 X124 X167 X219 X243 Q s → X219 s) → (∀ t0 s, x8_readClause_b243 X19 X45 X114 X124 X167 X219 X243 Q t0 s → X243 t0 s) → X19 x1 t0 s
def x8_readClause_L45 (Q : Int → Mem → Prop) (x1 : Int) (t0 : Int) (s : Mem) : Prop := ∀ (X19 : Int → Int → Mem → Prop) (X45 : Int → Int → Mem → Prop) (X114 : Int → Int → Int → Mem → Prop) (X124 : Int → Mem → Prop) (X167 : Int → Int → Mem → Prop) (X219 : Mem → Prop) (X243 : Int → Mem → Prop), (∀ x1 t0 s, x8_readClause_b19 X19 X45 X114 X124 X167 X219 X243 Q x1 t0 s → X19 x1 t0 s) → (∀ x1 t0 s, x8_readClause_b45 X19 X45 X114 X124 X167 X219 X243 Q x1 t0 s → X45 x1 t0 s) → (∀ x1 t0 t1 s, x8_readClause_b114 X19 X45 X114 X124 X167 X219 X243 Q x1 t0 t1 s → X114 x1 t0 t1 s) → (∀ x1 s, x8_readClause_b124 X19 X45 X114 X124 X167 X219 X243 Q x1 s → X124 x1 s) → (∀ x1 t0 s, x8_readClause_b167 X19 X45 X114 X124 X167 X219 X243 Q x1 t0 s → X167 x1 t0 s) → (∀ s, x8_readClause_b219 X19 X45 X114 X124 X167 X219 X243 Q s → X219 s) → (∀ t0 s, x8_readClause_b243 X19 X45 X114 X124 X167 X219 X243 Q t0 s → X243 t0 s) → X45 x1 t0 s
def x8_readClause_L114 (Q : Int → Mem → Prop) (x1 : Int) (t0 : Int) (t1 : Int) (s : Mem) : Prop := ∀ (X19 : Int → Int → Mem → Prop) (X45 : Int → Int → Mem → Prop) (X114 : Int → Int → Int → Mem → Prop) (X124 : Int → Mem → Prop) (X167 : Int → Int → Mem → Prop) (X219 : Mem → Prop) (X243 : Int → Mem → Prop), (∀ x1 t0 s, x8_readClause_b19 X19 X45 X114 X124 X167 X219 X243 Q x1 t0 s → X19 x1 t0 s) → (∀ x1 t0 s, x8_readClause_b45 X19 X45 X114 X124 X167 X219 X243 Q x1 t0 s → X45 x1 t0 s) → (∀ x1 t0 t1 s, x8_readClause_b114 X19 X45 X114 X124 X167 X219 X243 Q x1 t0 t1 s → X114 x1 t0 t1 s) → (∀ x1 s, x8_readClause_b124 X19 X45 X114 X124 X167 X219 X243 Q x1 s → X124 x1 s) → (∀ x1 t0 s, x8_readClause_b167 X19 X45 X114 X124 X167 X219 X243 Q x1 t0 s → X167 x1 t0 s) → (∀ s, x8_readClause_b219 X19 X45 X114 X124 X167 X219 X243 Q s → X219 s) → (∀ t0 s, x8_readClause_b243 X19 X45 X114 X124 X167 X219 X243 Q t0 s → X243 t0 s) → X114 x1 t0 t1 s
def x8_readClause_L124 (Q : Int → Mem → Prop) (x1 : Int) (s : Mem) : Prop := ∀ (X19 : Int → Int → Mem → Prop) (X45 : Int → Int → Mem → Prop) (X114 : Int → Int → Int → Mem → Prop) (X124 : Int → Mem → Prop) (X167 : Int → Int → Mem → Prop) (X219 : Mem → Prop) (X243 : Int → Mem → Prop), (∀ x1 t0 s, x8_readClause_b19 X19 X45 X114 X124 X167 X219 X243 Q x1 t0 s → X19 x1 t0 s) → (∀ x1 t0 s, x8_readClause_b45 X19 X45 X114 X124 X167 X219 X243 Q x1 t0 s → X45 x1 t0 s) → (∀ x1 t0 t1 s, x8_readClause_b114 X19 X45 X114 X124 X167 X219 X243 Q x1 t0 t1 s → X114 x1 t0 t1 s) → (∀ x1 s, x8_readClause_b124 X19 X45 X114 X124 X167 X219 X243 Q x1 s → X124 x1 s) → (∀ x1 t0 s, x8_readClause_b167 X19 X45 X114 X124 X167 X219 X243 Q x1 t0 s → X167 x1 t0 s) → (∀ s, x8_readClause_b219 X19 X45 X114 X124 X167 X219 X243 Q s → X219 s) → (∀ t0 s, x8_readClause_b243 X19 X45 X114 X124 X167 X219 X243 Q t0 s → X243 t0 s) → X124 x1 s
def x8_readClause_L167 (Q : Int → Mem → Prop) (x1 : Int) (t0 : Int) (s : Mem) : Prop := ∀ (X19 : Int → Int → Mem → Prop) (X45 : Int → Int → Mem → Prop) (X114 : Int → Int → Int → Mem → Prop) (X124 : Int → Mem → Prop) (X167 : Int → Int → Mem → Prop) (X219 : Mem → Prop) (X243 : Int → Mem → Prop), (∀ x1 t0 s, x8_readClause_b19 X19 X45 X114 X124 X167 X219 X243 Q x1 t0 s → X19 x1 t0 s) → (∀ x1 t0 s, x8_readClause_b45 X19 X45 X114 X124 X167 X219 X243 Q x1 t0 s → X45 x1 t0 s) → (∀ x1 t0 t1 s, x8_readClause_b114 X19 X45 X114 X124 X167 X219 X243 Q x1 t0 t1 s → X114 x1 t0 t1 s) → (∀ x1 s, x8_readClause_b124 X19 X45 X114 X124 X167 X219 X243 Q x1 s → X124 x1 s) → (∀ x1 t0 s, x8_readClause_b167 X19 X45 X114 X124 X167 X219 X243 Q x1 t0 s → X167 x1 t0 s) → (∀ s, x8_readClause_b219 X19 X45 X114 X124 X167 X219 X243 Q s → X219 s) → (∀ t0 s, x8_readClause_b243 X19 X45 X114 X124 X167 X219 X243 Q t0 s → X243 t0 s) → X167 x1 t0 s
def x8_readClause_L219 (Q : Int → Mem → Prop)  (s : Mem) : Prop := ∀ (X19 : Int → Int → Mem → Prop) (X45 : Int → Int → Mem → Prop) (X114 : Int → Int → Int → Mem → Prop) (X124 : Int → Mem → Prop) (X167 : Int → Int → Mem → Prop) (X219 : Mem → Prop) (X243 : Int → Mem → Prop), (∀ x1 t0 s, x8_readClause_b19 X19 X45 X114 X124 X167 X219 X243 Q x1 t0 s → X19 x1 t0 s) → (∀ x1 t0 s, x8_readClause_b45 X19 X45 X114 X124 X167 X219 X243 Q x1 t0 s → X45 x1 t0 s) → (∀ x1 t0 t1 s, x8_readClause_b114 X19 X45 X114 X124 X167 X219 X243 Q x1 t0 t1 s → X114 x1 t0 t1 s) → (∀ x1 s, x8_readClause_b124 X19 X45 X114 X124 X167 X219 X243 Q x1 s → X124 x1 s) → (∀ x1 t0 s, x8_readClause_b167 X19 X45 X114 X124 X167 X219 X243 Q x1 t0 s → X167 x1 t0 s) → (∀ s, x8_readClause_b219 X19 X45 X114 X124 X167 X219 X243 Q s → X219 s) → (∀ t0 s, x8_readClause_b243 X19 X45 X114 X124 X167 X219 X243 Q t0 s → X243 t0 s) → X219  s
def x8_readClause_L243 (Q : Int → Mem → Prop) (t0 : Int) (s : Mem) : Prop := ∀ (X19 : Int → Int → Mem → Prop) (X45 : Int → Int → Mem → Prop) (X114 : Int → Int → Int → Mem → Prop) (X124 : Int → Mem → Prop) (X167 : Int → Int → Mem → Prop) (X219 : Mem → Prop) (X243 : Int → Mem → Prop), (∀ x1 t0 s, x8_readClause_b19 X19 X45 X114 X124 X167 X219 X243 Q x1 t0 s → X19 x1 t0 s) → (∀ x1 t0 s, x8_readClause_b45 X19 X45 X114 X124 X167 X219 X243 Q x1 t0 s → X45 x1 t0 s) → (∀ x1 t0 t1 s, x8_readClause_b114 X19 X45 X114 X124 X167 X219 X243 Q x1 t0 t1 s → X114 x1 t0 t1 s) → (∀ x1 s, x8_readClause_b124 X19 X45 X114 X124 X167 X219 X243 Q x1 s → X124 x1 s) → (∀ x1 t0 s, x8_readClause_b167 X19 X45 X114 X124 X167 X219 X243 Q x1 t0 s → X167 x1 t0 s) → (∀ s, x8_readClause_b219 X19 X45 X114 X124 X167 X219 X243 Q s → X219 s) → (∀ t0 s, x8_readClause_b243 X19 X45 X114 X124 X167 X219 X243 Q t0 s → X243 t0 s) → X243 t0 s
theorem x8_readClause_i {Q : Int → Mem → Prop}  {s : Mem} (h : x8_readClause_be (x8_readClause_L19 Q) (x8_readClause_L45 Q) (x8_readClause_L114 Q) (x8_readClause_L124 Q) (x8_readClause_L167 Q) (x8_readClause_L219 Q) (x8_readClause_L243 Q) Q  s) : x8_readClause  s Q := fun X19 X45 X114 X124 X167 X219 X243 k19 k45 k114 k124 k167 k219 k243 => x8_readClause_me (fun _ _ _ h => h X19 X45 X114 X124 X167 X219 X243 k19 k45 k114 k124 k167 k219 k243) (fun _ _ _ h => h X19 X45 X114 X124 X167 X219 X243 k19 k45 k114 k124 k167 k219 k243) (fun _ _ _ _ h => h X19 X45 X114 X124 X167 X219 X243 k19 k45 k114 k124 k167 k219 k243) (fun _ _ h => h X19 X45 X114 X124 X167 X219 X243 k19 k45 k114 k124 k167 k219 k243) (fun _ _ _ h => h X19 X45 X114 X124 X167 X219 X243 k19 k45 k114 k124 k167 k219 k243) (fun _ h => h X19 X45 X114 X124 X167 X219 X243 k19 k45 k114 k124 k167 k219 k243) (fun _ _ h => h X19 X45 X114 X124 X167 X219 X243 k19 k45 k114 k124 k167 k219 k243) (fun _ _ h => h) h
theorem x8_readClause_s19 {Q : Int → Mem → Prop} {x1 : Int} {t0 : Int} {s : Mem} (h : x8_readClause_b19 (x8_readClause_L19 Q) (x8_readClause_L45 Q) (x8_readClause_L114 Q) (x8_readClause_L124 Q) (x8_readClause_L167 Q) (x8_readClause_L219 Q) (x8_readClause_L243 Q) Q x1 t0 s) : x8_readClause_L19 Q x1 t0 s := fun X19 X45 X114 X124 X167 X219 X243 k19 k45 k114 k124 k167 k219 k243 => k19 _ _ _ (x8_readClause_m19 (fun _ _ _ h => h X19 X45 X114 X124 X167 X219 X243 k19 k45 k114 k124 k167 k219 k243) (fun _ _ _ h => h X19 X45 X114 X124 X167 X219 X243 k19 k45 k114 k124 k167 k219 k243) (fun _ _ _ _ h => h X19 X45 X114 X124 X167 X219 X243 k19 k45 k114 k124 k167 k219 k243) (fun _ _ h => h X19 X45 X114 X124 X167 X219 X243 k19 k45 k114 k124 k167 k219 k243) (fun _ _ _ h => h X19 X45 X114 X124 X167 X219 X243 k19 k45 k114 k124 k167 k219 k243) (fun _ h => h X19 X45 X114 X124 X167 X219 X243 k19 k45 k114 k124 k167 k219 k243) (fun _ _ h => h X19 X45 X114 X124 X167 X219 X243 k19 k45 k114 k124 k167 k219 k243) (fun _ _ h => h) h)
theorem x8_readClause_s45 {Q : Int → Mem → Prop} {x1 : Int} {t0 : Int} {s : Mem} (h : x8_readClause_b45 (x8_readClause_L19 Q) (x8_readClause_L45 Q) (x8_readClause_L114 Q) (x8_readClause_L124 Q) (x8_readClause_L167 Q) (x8_readClause_L219 Q) (x8_readClause_L243 Q) Q x1 t0 s) : x8_readClause_L45 Q x1 t0 s := fun X19 X45 X114 X124 X167 X219 X243 k19 k45 k114 k124 k167 k219 k243 => k45 _ _ _ (x8_readClause_m45 (fun _ _ _ h => h X19 X45 X114 X124 X167 X219 X243 k19 k45 k114 k124 k167 k219 k243) (fun _ _ _ h => h X19 X45 X114 X124 X167 X219 X243 k19 k45 k114 k124 k167 k219 k243) (fun _ _ _ _ h => h X19 X45 X114 X124 X167 X219 X243 k19 k45 k114 k124 k167 k219 k243) (fun _ _ h => h X19 X45 X114 X124 X167 X219 X243 k19 k45 k114 k124 k167 k219 k243) (fun _ _ _ h => h X19 X45 X114 X124 X167 X219 X243 k19 k45 k114 k124 k167 k219 k243) (fun _ h => h X19 X45 X114 X124 X167 X219 X243 k19 k45 k114 k124 k167 k219 k243) (fun _ _ h => h X19 X45 X114 X124 X167 X219 X243 k19 k45 k114 k124 k167 k219 k243) (fun _ _ h => h) h)
theorem x8_readClause_s114 {Q : Int → Mem → Prop} {x1 : Int} {t0 : Int} {t1 : Int} {s : Mem} (h : x8_readClause_b114 (x8_readClause_L19 Q) (x8_readClause_L45 Q) (x8_readClause_L114 Q) (x8_readClause_L124 Q) (x8_readClause_L167 Q) (x8_readClause_L219 Q) (x8_readClause_L243 Q) Q x1 t0 t1 s) : x8_readClause_L114 Q x1 t0 t1 s := fun X19 X45 X114 X124 X167 X219 X243 k19 k45 k114 k124 k167 k219 k243 => k114 _ _ _ _ (x8_readClause_m114 (fun _ _ _ h => h X19 X45 X114 X124 X167 X219 X243 k19 k45 k114 k124 k167 k219 k243) (fun _ _ _ h => h X19 X45 X114 X124 X167 X219 X243 k19 k45 k114 k124 k167 k219 k243) (fun _ _ _ _ h => h X19 X45 X114 X124 X167 X219 X243 k19 k45 k114 k124 k167 k219 k243) (fun _ _ h => h X19 X45 X114 X124 X167 X219 X243 k19 k45 k114 k124 k167 k219 k243) (fun _ _ _ h => h X19 X45 X114 X124 X167 X219 X243 k19 k45 k114 k124 k167 k219 k243) (fun _ h => h X19 X45 X114 X124 X167 X219 X243 k19 k45 k114 k124 k167 k219 k243) (fun _ _ h => h X19 X45 X114 X124 X167 X219 X243 k19 k45 k114 k124 k167 k219 k243) (fun _ _ h => h) h)
theorem x8_readClause_s124 {Q : Int → Mem → Prop} {x1 : Int} {s : Mem} (h : x8_readClause_b124 (x8_readClause_L19 Q) (x8_readClause_L45 Q) (x8_readClause_L114 Q) (x8_readClause_L124 Q) (x8_readClause_L167 Q) (x8_readClause_L219 Q) (x8_readClause_L243 Q) Q x1 s) : x8_readClause_L124 Q x1 s := fun X19 X45 X114 X124 X167 X219 X243 k19 k45 k114 k124 k167 k219 k243 => k124 _ _ (x8_readClause_m124 (fun _ _ _ h => h X19 X45 X114 X124 X167 X219 X243 k19 k45 k114 k124 k167 k219 k243) (fun _ _ _ h => h X19 X45 X114 X124 X167 X219 X243 k19 k45 k114 k124 k167 k219 k243) (fun _ _ _ _ h => h X19 X45 X114 X124 X167 X219 X243 k19 k45 k114 k124 k167 k219 k243) (fun _ _ h => h X19 X45 X114 X124 X167 X219 X243 k19 k45 k114 k124 k167 k219 k243) (fun _ _ _ h => h X19 X45 X114 X124 X167 X219 X243 k19 k45 k114 k124 k167 k219 k243) (fun _ h => h X19 X45 X114 X124 X167 X219 X243 k19 k45 k114 k124 k167 k219 k243) (fun _ _ h => h X19 X45 X114 X124 X167 X219 X243 k19 k45 k114 k124 k167 k219 k243) (fun _ _ h => h) h)
theorem x8_readClause_s167 {Q : Int → Mem → Prop} {x1 : Int} {t0 : Int} {s : Mem} (h : x8_readClause_b167 (x8_readClause_L19 Q) (x8_readClause_L45 Q) (x8_readClause_L114 Q) (x8_readClause_L124 Q) (x8_readClause_L167 Q) (x8_readClause_L219 Q) (x8_readClause_L243 Q) Q x1 t0 s) : x8_readClause_L167 Q x1 t0 s := fun X19 X45 X114 X124 X167 X219 X243 k19 k45 k114 k124 k167 k219 k243 => k167 _ _ _ (x8_readClause_m167 (fun _ _ _ h => h X19 X45 X114 X124 X167 X219 X243 k19 k45 k114 k124 k167 k219 k243) (fun _ _ _ h => h X19 X45 X114 X124 X167 X219 X243 k19 k45 k114 k124 k167 k219 k243) (fun _ _ _ _ h => h X19 X45 X114 X124 X167 X219 X243 k19 k45 k114 k124 k167 k219 k243) (fun _ _ h => h X19 X45 X114 X124 X167 X219 X243 k19 k45 k114 k124 k167 k219 k243) (fun _ _ _ h => h X19 X45 X114 X124 X167 X219 X243 k19 k45 k114 k124 k167 k219 k243) (fun _ h => h X19 X45 X114 X124 X167 X219 X243 k19 k45 k114 k124 k167 k219 k243) (fun _ _ h => h X19 X45 X114 X124 X167 X219 X243 k19 k45 k114 k124 k167 k219 k243) (fun _ _ h => h) h)
theorem x8_readClause_s219 {Q : Int → Mem → Prop}  {s : Mem} (h : x8_readClause_b219 (x8_readClause_L19 Q) (x8_readClause_L45 Q) (x8_readClause_L114 Q) (x8_readClause_L124 Q) (x8_readClause_L167 Q) (x8_readClause_L219 Q) (x8_readClause_L243 Q) Q  s) : x8_readClause_L219 Q  s := fun X19 X45 X114 X124 X167 X219 X243 k19 k45 k114 k124 k167 k219 k243 => k219  _ (x8_readClause_m219 (fun _ _ _ h => h X19 X45 X114 X124 X167 X219 X243 k19 k45 k114 k124 k167 k219 k243) (fun _ _ _ h => h X19 X45 X114 X124 X167 X219 X243 k19 k45 k114 k124 k167 k219 k243) (fun _ _ _ _ h => h X19 X45 X114 X124 X167 X219 X243 k19 k45 k114 k124 k167 k219 k243) (fun _ _ h => h X19 X45 X114 X124 X167 X219 X243 k19 k45 k114 k124 k167 k219 k243) (fun _ _ _ h => h X19 X45 X114 X124 X167 X219 X243 k19 k45 k114 k124 k167 k219 k243) (fun _ h => h X19 X45 X114 X124 X167 X219 X243 k19 k45 k114 k124 k167 k219 k243) (fun _ _ h => h X19 X45 X114 X124 X167 X219 X243 k19 k45 k114 k124 k167 k219 k243) (fun _ _ h => h) h)
theorem x8_readClause_s243 {Q : Int → Mem → Prop} {t0 : Int} {s : Mem} (h : x8_readClause_b243 (x8_readClause_L19 Q) (x8_readClause_L45 Q) (x8_readClause_L114 Q) (x8_readClause_L124 Q) (x8_readClause_L167 Q) (x8_readClause_L219 Q) (x8_readClause_L243 Q) Q t0 s) : x8_readClause_L243 Q t0 s := fun X19 X45 X114 X124 X167 X219 X243 k19 k45 k114 k124 k167 k219 k243 => k243 _ _ (x8_readClause_m243 (fun _ _ _ h => h X19 X45 X114 X124 X167 X219 X243 k19 k45 k114 k124 k167 k219 k243) (fun _ _ _ h => h X19 X45 X114 X124 X167 X219 X243 k19 k45 k114 k124 k167 k219 k243) (fun _ _ _ _ h => h X19 X45 X114 X124 X167 X219 X243 k19 k45 k114 k124 k167 k219 k243) (fun _ _ h => h X19 X45 X114 X124 X167 X219 X243 k19 k45 k114 k124 k167 k219 k243) (fun _ _ _ h => h X19 X45 X114 X124 X167 X219 X243 k19 k45 k114 k124 k167 k219 k243) (fun _ h => h X19 X45 X114 X124 X167 X219 X243 k19 k45 k114 k124 k167 k219 k243) (fun _ _ h => h X19 X45 X114 X124 X167 X219 X243 k19 k45 k114 k124 k167 k219 k243) (fun _ _ h => h) h)
theorem x8_readClause_mono {Q R : Int → Mem → Prop}  {s : Mem} (h : x8_readClause  s Q) (hQ : ∀ r s, Q r s → R r s) : x8_readClause  s R := fun X19 X45 X114 X124 X167 X219 X243 k19 k45 k114 k124 k167 k219 k243 => x8_readClause_me (fun _ _ _ h => h) (fun _ _ _ h => h) (fun _ _ _ _ h => h) (fun _ _ h => h) (fun _ _ _ h => h) (fun _ h => h) (fun _ _ h => h) hQ (h X19 X45 X114 X124 X167 X219 X243 (fun _ _ _ h => k19 _ _ _ (x8_readClause_m19 (fun _ _ _ h => h) (fun _ _ _ h => h) (fun _ _ _ _ h => h) (fun _ _ h => h) (fun _ _ _ h => h) (fun _ h => h) (fun _ _ h => h) hQ h)) (fun _ _ _ h => k45 _ _ _ (x8_readClause_m45 (fun _ _ _ h => h) (fun _ _ _ h => h) (fun _ _ _ _ h => h) (fun _ _ h => h) (fun _ _ _ h => h) (fun _ h => h) (fun _ _ h => h) hQ h)) (fun _ _ _ _ h => k114 _ _ _ _ (x8_readClause_m114 (fun _ _ _ h => h) (fun _ _ _ h => h) (fun _ _ _ _ h => h) (fun _ _ h => h) (fun _ _ _ h => h) (fun _ h => h) (fun _ _ h => h) hQ h)) (fun _ _ h => k124 _ _ (x8_readClause_m124 (fun _ _ _ h => h) (fun _ _ _ h => h) (fun _ _ _ _ h => h) (fun _ _ h => h) (fun _ _ _ h => h) (fun _ h => h) (fun _ _ h => h) hQ h)) (fun _ _ _ h => k167 _ _ _ (x8_readClause_m167 (fun _ _ _ h => h) (fun _ _ _ h => h) (fun _ _ _ _ h => h) (fun _ _ h => h) (fun _ _ _ h => h) (fun _ h => h) (fun _ _ h => h) hQ h)) (fun _ h => k219  _ (x8_readClause_m219 (fun _ _ _ h => h) (fun _ _ _ h => h) (fun _ _ _ _ h => h) (fun _ _ h => h) (fun _ _ _ h => h) (fun _ h => h) (fun _ _ h => h) hQ h)) (fun _ _ h => k243 _ _ (x8_readClause_m243 (fun _ _ _ h => h) (fun _ _ _ h => h) (fun _ _ _ _ h => h) (fun _ _ h => h) (fun _ _ _ h => h) (fun _ h => h) (fun _ _ h => h) hQ h)))
def x8_readClause_rm : Room := { frames := 3, cells := 0, slots := 0, locals := 75 }
theorem w_x8_readClause_269 : Cond.fieldLink RX8 269 "BoltRingModel" "from" "I" ∈ wsX8_readClause := by decide +kernel
theorem w_x8_readClause_300 : Cond.fieldLink RX8 300 "BoltRingModel" "clauses" "I" ∈ wsX8_readClause := by decide +kernel
theorem w_x8_readClause_73 : Cond.fieldLink RX8 73 "BoltRingModel" "clause" "[I" ∈ wsX8_readClause := by decide +kernel
theorem w_x8_readClause_76 : Cond.fieldLink RX8 76 "BoltRingModel" "first" "[I" ∈ wsX8_readClause := by decide +kernel
theorem w_x8_readClause_86 : Cond.fieldLink RX8 86 "BoltRingModel" "n" "I" ∈ wsX8_readClause := by decide +kernel
theorem w_x8_readClause_263 : Cond.fieldLink RX8 263 "BoltRingModel" "faultOf" "I" ∈ wsX8_readClause := by decide +kernel
theorem w_x8_readClause_79 : Cond.fieldLink RX8 79 "BoltRingModel" "second" "[I" ∈ wsX8_readClause := by decide +kernel
theorem w_x8_readClause_260 : Cond.fieldLink RX8 260 "BoltRingModel" "at" "I" ∈ wsX8_readClause := by decide +kernel
theorem in_x8_readClause_X8 : ∀ w ∈ wsX80, w ∈ wsX8_readClause := by decide +kernel
set_option maxHeartbeats 4000000 in
set_option maxRecDepth 100000 in
theorem x8_readClause_bd {κ : KT} {ad : Nat → Nat} {cA : Nat → ClassId} {D : va_G} {Q : State → Prop}  {s : Mem} (C : CX κ (GB ad cA D) RX8 cX8_readClause 3 wsX8_readClause x8_readClause_rm none) (h : x8_readClause  s (RT κ (GB ad cA D) ocV Q)) : WM κ (GB ad cA D) 3 Q s 0 [(0, .ref (ad 0))] [] := by
  obtain ⟨Z19, z19⟩ : ∃ Z : Int → Int → Mem → Prop, ∀ x1 t0 s, Z x1 t0 s ↔ WM κ (GB ad cA D) 3 Q s 19 [(0, .ref (ad 0)), (1, vI x1)] [vI t0, .ref (ad 0)] := ⟨fun x1 t0 s => WM κ (GB ad cA D) 3 Q s 19 [(0, .ref (ad 0)), (1, vI x1)] [vI t0, .ref (ad 0)], fun _ _ _ => Iff.rfl⟩
  obtain ⟨Z45, z45⟩ : ∃ Z : Int → Int → Mem → Prop, ∀ x1 t0 s, Z x1 t0 s ↔ WM κ (GB ad cA D) 3 Q s 45 [(0, .ref (ad 0)), (1, vI x1)] [vI t0, .ref (ad 0)] := ⟨fun x1 t0 s => WM κ (GB ad cA D) 3 Q s 45 [(0, .ref (ad 0)), (1, vI x1)] [vI t0, .ref (ad 0)], fun _ _ _ => Iff.rfl⟩
  obtain ⟨Z114, z114⟩ : ∃ Z : Int → Int → Int → Mem → Prop, ∀ x1 t0 t1 s, Z x1 t0 t1 s ↔ WM κ (GB ad cA D) 3 Q s 114 [(0, .ref (ad 0)), (1, vI x1)] [vI t0, vI t1, .ref (ad 21)] := ⟨fun x1 t0 t1 s => WM κ (GB ad cA D) 3 Q s 114 [(0, .ref (ad 0)), (1, vI x1)] [vI t0, vI t1, .ref (ad 21)], fun _ _ _ _ => Iff.rfl⟩
  obtain ⟨Z124, z124⟩ : ∃ Z : Int → Mem → Prop, ∀ x1 s, Z x1 s ↔ WM κ (GB ad cA D) 3 Q s 124 [(0, .ref (ad 0)), (1, vI x1)] [] := ⟨fun x1 s => WM κ (GB ad cA D) 3 Q s 124 [(0, .ref (ad 0)), (1, vI x1)] [], fun _ _ => Iff.rfl⟩
  obtain ⟨Z167, z167⟩ : ∃ Z : Int → Int → Mem → Prop, ∀ x1 t0 s, Z x1 t0 s ↔ WM κ (GB ad cA D) 3 Q s 167 [(0, .ref (ad 0)), (1, vI x1)] [vI t0, .ref (ad 0)] := ⟨fun x1 t0 s => WM κ (GB ad cA D) 3 Q s 167 [(0, .ref (ad 0)), (1, vI x1)] [vI t0, .ref (ad 0)], fun _ _ _ => Iff.rfl⟩
  obtain ⟨Z219, z219⟩ : ∃ Z : Mem → Prop, ∀ s, Z s ↔ WM κ (GB ad cA D) 3 Q s 219 [(0, .ref (ad 0))] [] := ⟨fun s => WM κ (GB ad cA D) 3 Q s 219 [(0, .ref (ad 0))] [], fun _ => Iff.rfl⟩
  obtain ⟨Z243, z243⟩ : ∃ Z : Int → Mem → Prop, ∀ t0 s, Z t0 s ↔ WM κ (GB ad cA D) 3 Q s 243 [(0, .ref (ad 0))] [vI t0, .ref (ad 0)] := ⟨fun t0 s => WM κ (GB ad cA D) 3 Q s 243 [(0, .ref (ad 0))] [vI t0, .ref (ad 0)], fun _ _ => Iff.rfl⟩
  refine (fun h => ?_) (h Z19 Z45 Z114 Z124 Z167 Z219 Z243 ?_ ?_ ?_ ?_ ?_ ?_ ?_)
  · refine r_aload_n C 0 dX8_readClause_0 rfl ?_
    refine r_callV (As := []) (o := 0) (n := 0) C dX8_readClause_1 (x8_takeWord_ct κ.1.2.1 ad cA D s) gX8_readClause_X8_takeWord rfl ⟨rfl, rfl⟩ (by decide +kernel) (by decide) (shB_0) rfl rfl rfl (Nat.le_of_ble_eq_true rfl) (fun _ => rfl) ?_
    refine x8_takeWord_mono h (fun _ s1 h => ?_)
    refine r_aload_n C 0 dX8_readClause_4 rfl ?_
    refine r_callV (As := []) (o := 0) (n := 0) C dX8_readClause_5 (x8_clauseOf_ct κ.1.2.1 ad cA D s1) gX8_readClause_X8_clauseOf rfl ⟨rfl, rfl⟩ (by decide +kernel) (by decide) (shB_0) rfl rfl rfl (Nat.le_of_ble_eq_true rfl) (fun _ => rfl) ?_
    refine x8_clauseOf_mono h (fun r3 s2 h => ?_)
    refine r_istore_n (ls' := [(1, vI r3), (0, .ref (ad 0))]) C dX8_readClause_8 rfl (by decide) rfl ?_
    refine r_aload_n C 1 dX8_readClause_9 rfl ?_
    refine r_iload_n C 0 dX8_readClause_10 rfl ?_
    refine r_if_lt (tgt := 18) C dX8_readClause_11 (by decide) ⟨h.1, fun c4 => ?_, fun c4 => ?_⟩
    · have h := h.2.1 c4
      refine r_iconst C dX8_readClause_18 ?_
      exact r_perm [1, 0] rfl ((z19 _ _ _).1 h)
    · have h := h.2.2 c4
      refine r_iconst C dX8_readClause_14 ?_
      refine r_goto (tgt := 19) C dX8_readClause_15 (by decide) ?_
      exact r_perm [1, 0] rfl ((z19 _ _ _).1 h)
  · intro x1 t0 s h
    refine (z19 _ _ _).2 ?_
    refine r_iconst C dX8_readClause_19 ?_
    refine r_aload_n C 0 dX8_readClause_20 rfl ?_
    refine r_get (j := 34) (jz := 34) (v := vI (s 0 (34 : Int))) C dX8_readClause_21 (shB_0) rfl rfl (by decide) in_x8_readClause_X8 w_x8_readClause_269 rfl rfl rfl ?_
    refine r_callV (As := [vI t0, vI (1 : Int), vI (s 0 (34 : Int))]) (o := 0) (n := 3) C dX8_readClause_24 (x8_want_ct κ.1.2.1 ad cA D t0 (1 : Int) (s 0 (34 : Int)) s) gX8_readClause_X8_want rfl ⟨rfl, rfl⟩ (by decide +kernel) (by decide) (shB_0) rfl rfl rfl (Nat.le_of_ble_eq_true rfl) (fun _ => rfl) ?_
    refine x8_want_mono h (fun r6 s5 h => ?_)
    refine r_if_eq (tgt := 56) C dX8_readClause_27 (by decide) ⟨h.1, fun c8 => ?_, fun c8 => ?_⟩
    · have h := h.2.1 c8
      exact r_return C dX8_readClause_56 h
    · have h := h.2.2 c8
      refine r_aload_n C 0 dX8_readClause_30 rfl ?_
      refine r_aload_n C 0 dX8_readClause_31 rfl ?_
      refine r_get (j := 37) (jz := 37) (v := vI (s5 0 (37 : Int))) C dX8_readClause_32 (shB_0) rfl rfl (by decide) in_x8_readClause_X8 w_x8_readClause_300 rfl rfl rfl ?_
      refine r_bipush C dX8_readClause_35 (by decide) ?_
      refine r_icmp_ge (tgt := 44) C dX8_readClause_37 (by decide) ⟨h.1, fun c7 => ?_, fun c7 => ?_⟩
      · have h := h.2.1 c7
        refine r_iconst C dX8_readClause_44 ?_
        exact r_perm [0, 1] rfl ((z45 _ _ _).1 h)
      · have h := h.2.2 c7
        refine r_iconst C dX8_readClause_40 ?_
        refine r_goto (tgt := 45) C dX8_readClause_41 (by decide) ?_
        exact r_perm [0, 1] rfl ((z45 _ _ _).1 h)
  · intro x1 t0 s h
    refine (z45 _ _ _).2 ?_
    refine r_iconst C dX8_readClause_45 ?_
    refine r_aload_n C 0 dX8_readClause_46 rfl ?_
    refine r_get (j := 34) (jz := 34) (v := vI (s 0 (34 : Int))) C dX8_readClause_47 (shB_0) rfl rfl (by decide) in_x8_readClause_X8 w_x8_readClause_269 rfl rfl rfl ?_
    refine r_callV (As := [vI t0, vI (5 : Int), vI (s 0 (34 : Int))]) (o := 0) (n := 3) C dX8_readClause_50 (x8_want_ct κ.1.2.1 ad cA D t0 (5 : Int) (s 0 (34 : Int)) s) gX8_readClause_X8_want rfl ⟨rfl, rfl⟩ (by decide +kernel) (by decide) (shB_0) rfl rfl rfl (Nat.le_of_ble_eq_true rfl) (fun _ => rfl) ?_
    refine x8_want_mono h (fun r10 s9 h => ?_)
    refine r_if_ne (tgt := 57) C dX8_readClause_53 (by decide) ⟨h.1, fun c20 => ?_, fun c20 => ?_⟩
    · have h := h.2.1 c20
      refine r_aload_n C 0 dX8_readClause_57 rfl ?_
      refine r_get (j := 38) (jz := 38) (v := .ref (ad 20)) C dX8_readClause_58 (shB_0) rfl rfl (by decide) in_x8_readClause_X8 w_x8_readClause_73 rfl rfl rfl ?_
      refine r_aload_n C 0 dX8_readClause_61 rfl ?_
      refine r_get (j := 37) (jz := 37) (v := vI (s9 0 (37 : Int))) C dX8_readClause_62 (shB_0) rfl rfl (by decide) in_x8_readClause_X8 w_x8_readClause_300 rfl rfl rfl ?_
      refine r_iload_n C 1 dX8_readClause_65 rfl ?_
      refine r_iast (nz := 12) C dX8_readClause_66 (shB_20) rfl (by decide) ⟨h.1, fun s11 e_s11 => ?_⟩
      have h := h.2 s11 e_s11
      refine r_aload_n C 0 dX8_readClause_67 rfl ?_
      refine r_get (j := 39) (jz := 39) (v := .ref (ad 21)) C dX8_readClause_68 (shB_0) rfl rfl (by decide) in_x8_readClause_X8 w_x8_readClause_76 rfl rfl rfl ?_
      refine r_aload_n C 0 dX8_readClause_71 rfl ?_
      refine r_get (j := 37) (jz := 37) (v := vI (s11 0 (37 : Int))) C dX8_readClause_72 (shB_0) rfl rfl (by decide) in_x8_readClause_X8 w_x8_readClause_300 rfl rfl rfl ?_
      refine r_iload_n C 1 dX8_readClause_75 rfl ?_
      refine r_iconst C dX8_readClause_76 ?_
      refine r_icmp_ne (tgt := 87) C dX8_readClause_77 (by decide) ⟨h.1, fun c19 => ?_, fun c19 => ?_⟩
      · have h := h.2.1 c19
        refine r_iload_n C 1 dX8_readClause_87 rfl ?_
        refine r_iconst C dX8_readClause_88 ?_
        refine r_icmp_ne (tgt := 103) C dX8_readClause_89 (by decide) ⟨h.1, fun c16 => ?_, fun c16 => ?_⟩
        · have h := h.2.1 c16
          refine r_aload_n C 0 dX8_readClause_103 rfl ?_
          refine r_iconst C dX8_readClause_104 ?_
          refine r_aload_n C 0 dX8_readClause_105 rfl ?_
          refine r_get (j := 0) (jz := 0) (v := vI (s11 0 (0 : Int))) C dX8_readClause_106 (shB_0) rfl rfl (by decide) in_x8_readClause_X8 w_x8_readClause_86 rfl rfl rfl ?_
          refine r_iconst C dX8_readClause_109 ?_
          refine r_isub C dX8_readClause_110 ?_
          refine r_callV (As := [vI (0 : Int), vI ((s11 0 (0 : Int)) - (1 : Int))]) (o := 0) (n := 2) C dX8_readClause_111 (x8_takeNumber_ct κ.1.2.1 ad cA D (0 : Int) ((s11 0 (0 : Int)) - (1 : Int)) s11) gX8_readClause_X8_takeNumber rfl ⟨rfl, rfl⟩ (by decide +kernel) (by decide) (shB_0) rfl rfl rfl (Nat.le_of_ble_eq_true rfl) (fun _ => rfl) ?_
          refine x8_takeNumber_mono h (fun r13 s12 h => ?_)
          exact r_perm [0, 1] rfl ((z114 _ _ _ _).1 h)
        · have h := h.2.2 c16
          refine r_aload_n C 0 dX8_readClause_92 rfl ?_
          refine r_iconst C dX8_readClause_93 ?_
          refine r_sipush C dX8_readClause_94 (by decide) ?_
          refine r_callV (As := [vI (1 : Int), vI (900 : Int)]) (o := 0) (n := 2) C dX8_readClause_97 (x8_takeNumber_ct κ.1.2.1 ad cA D (1 : Int) (900 : Int) s11) gX8_readClause_X8_takeNumber rfl ⟨rfl, rfl⟩ (by decide +kernel) (by decide) (shB_0) rfl rfl rfl (Nat.le_of_ble_eq_true rfl) (fun _ => rfl) ?_
          refine x8_takeNumber_mono h (fun r15 s14 h => ?_)
          refine r_goto (tgt := 114) C dX8_readClause_100 (by decide) ?_
          exact r_perm [0, 1] rfl ((z114 _ _ _ _).1 h)
      · have h := h.2.2 c19
        refine r_aload_n C 0 dX8_readClause_80 rfl ?_
        refine r_callV (As := []) (o := 0) (n := 0) C dX8_readClause_81 (x8_takeRow_ct κ.1.2.1 ad cA D s11) gX8_readClause_X8_takeRow rfl ⟨rfl, rfl⟩ (by decide +kernel) (by decide) (shB_0) rfl rfl rfl (Nat.le_of_ble_eq_true rfl) (fun _ => rfl) ?_
        refine x8_takeRow_mono h (fun r18 s17 h => ?_)
        refine r_goto (tgt := 114) C dX8_readClause_84 (by decide) ?_
        exact r_perm [0, 1] rfl ((z114 _ _ _ _).1 h)
    · have h := h.2.2 c20
      exact r_return C dX8_readClause_56 h
  · intro x1 t0 t1 s h
    refine (z114 _ _ _ _).2 ?_
    refine r_iast (nz := 12) C dX8_readClause_114 (shB_21) rfl (by decide) ⟨h.1, fun s21 e_s21 => ?_⟩
    have h := h.2 s21 e_s21
    refine r_iload_n C 1 dX8_readClause_115 rfl ?_
    refine r_if_eq (tgt := 124) C dX8_readClause_116 (by decide) ⟨h.1, fun c23 => ?_, fun c23 => ?_⟩
    · have h := h.2.1 c23
      exact r_perm [0, 1] rfl ((z124 _ _).1 h)
    · have h := h.2.2 c23
      refine r_iload_n C 1 dX8_readClause_119 rfl ?_
      refine r_iconst C dX8_readClause_120 ?_
      refine r_icmp_ne (tgt := 219) C dX8_readClause_121 (by decide) ⟨h.1, fun c22 => ?_, fun c22 => ?_⟩
      · have h := h.2.1 c22
        exact r_perm [0] rfl ((z219 _).1 h)
      · have h := h.2.2 c22
        exact r_perm [0, 1] rfl ((z124 _ _).1 h)
  · intro x1 s h
    refine (z124 _ _).2 ?_
    refine r_aload_n C 0 dX8_readClause_124 rfl ?_
    refine r_get (j := 32) (jz := 32) (v := vI (s 0 (32 : Int))) C dX8_readClause_125 (shB_0) rfl rfl (by decide) in_x8_readClause_X8 w_x8_readClause_263 rfl rfl rfl ?_
    refine r_if_ne (tgt := 219) C dX8_readClause_128 (by decide) ⟨h.1, fun c30 => ?_, fun c30 => ?_⟩
    · have h := h.2.1 c30
      exact r_perm [0] rfl ((z219 _).1 h)
    · have h := h.2.2 c30
      refine r_aload_n C 0 dX8_readClause_131 rfl ?_
      refine r_callV (As := []) (o := 0) (n := 0) C dX8_readClause_132 (x8_takeWord_ct κ.1.2.1 ad cA D s) gX8_readClause_X8_takeWord rfl ⟨rfl, rfl⟩ (by decide +kernel) (by decide) (shB_0) rfl rfl rfl (Nat.le_of_ble_eq_true rfl) (fun _ => rfl) ?_
      refine x8_takeWord_mono h (fun _ s24 h => ?_)
      refine r_aload_n C 0 dX8_readClause_135 rfl ?_
      refine r_iload_n C 1 dX8_readClause_136 rfl ?_
      refine r_if_ne (tgt := 155) C dX8_readClause_137 (by decide) ⟨h.1, fun c29 => ?_, fun c29 => ?_⟩
      · have h := h.2.1 c29
        refine r_aload_n C 0 dX8_readClause_155 rfl ?_
        refine r_iconst C dX8_readClause_156 ?_
        refine r_bipush C dX8_readClause_157 (by decide) ?_
        refine r_bipush C dX8_readClause_159 (by decide) ?_
        refine r_iconst C dX8_readClause_161 ?_
        refine r_iconst C dX8_readClause_162 ?_
        refine r_iconst C dX8_readClause_163 ?_
        refine r_callV (As := [vI (2 : Int), vI (98 : Int), vI (121 : Int), vI (0 : Int), vI (0 : Int), vI (0 : Int)]) (o := 0) (n := 6) C dX8_readClause_164 (x8_isWord_ct κ.1.2.1 ad cA D (2 : Int) (98 : Int) (121 : Int) (0 : Int) (0 : Int) (0 : Int) s24) gX8_readClause_X8_isWord rfl ⟨rfl, rfl⟩ (by decide +kernel) (by decide) (shB_0) rfl rfl rfl (Nat.le_of_ble_eq_true rfl) (fun _ => rfl) ?_
        refine x8_isWord_mono h (fun r26 s25 h => ?_)
        exact r_perm [0, 1] rfl ((z167 _ _ _).1 h)
      · have h := h.2.2 c29
        refine r_aload_n C 0 dX8_readClause_140 rfl ?_
        refine r_iconst C dX8_readClause_141 ?_
        refine r_bipush C dX8_readClause_142 (by decide) ?_
        refine r_bipush C dX8_readClause_144 (by decide) ?_
        refine r_iconst C dX8_readClause_146 ?_
        refine r_iconst C dX8_readClause_147 ?_
        refine r_iconst C dX8_readClause_148 ?_
        refine r_callV (As := [vI (2 : Int), vI (116 : Int), vI (111 : Int), vI (0 : Int), vI (0 : Int), vI (0 : Int)]) (o := 0) (n := 6) C dX8_readClause_149 (x8_isWord_ct κ.1.2.1 ad cA D (2 : Int) (116 : Int) (111 : Int) (0 : Int) (0 : Int) (0 : Int) s24) gX8_readClause_X8_isWord rfl ⟨rfl, rfl⟩ (by decide +kernel) (by decide) (shB_0) rfl rfl rfl (Nat.le_of_ble_eq_true rfl) (fun _ => rfl) ?_
        refine x8_isWord_mono h (fun r28 s27 h => ?_)
        refine r_goto (tgt := 167) C dX8_readClause_152 (by decide) ?_
        exact r_perm [0, 1] rfl ((z167 _ _ _).1 h)
  · intro x1 t0 s h
    refine (z167 _ _ _).2 ?_
    refine r_iconst C dX8_readClause_167 ?_
    refine r_aload_n C 0 dX8_readClause_168 rfl ?_
    refine r_get (j := 34) (jz := 34) (v := vI (s 0 (34 : Int))) C dX8_readClause_169 (shB_0) rfl rfl (by decide) in_x8_readClause_X8 w_x8_readClause_269 rfl rfl rfl ?_
    refine r_callV (As := [vI t0, vI (1 : Int), vI (s 0 (34 : Int))]) (o := 0) (n := 3) C dX8_readClause_172 (x8_want_ct κ.1.2.1 ad cA D t0 (1 : Int) (s 0 (34 : Int)) s) gX8_readClause_X8_want rfl ⟨rfl, rfl⟩ (by decide +kernel) (by decide) (shB_0) rfl rfl rfl (Nat.le_of_ble_eq_true rfl) (fun _ => rfl) ?_
    refine x8_want_mono h (fun r32 s31 h => ?_)
    refine r_istore_n (ls' := [(2, vI r32), (0, .ref (ad 0)), (1, vI x1)]) C dX8_readClause_175 rfl (by decide) rfl ?_
    refine r_aload_n C 1 dX8_readClause_176 rfl ?_
    refine r_get (j := 40) (jz := 40) (v := .ref (ad 22)) C dX8_readClause_177 (shB_0) rfl rfl (by decide) in_x8_readClause_X8 w_x8_readClause_79 rfl rfl rfl ?_
    refine r_aload_n C 1 dX8_readClause_180 rfl ?_
    refine r_get (j := 37) (jz := 37) (v := vI (s31 0 (37 : Int))) C dX8_readClause_181 (shB_0) rfl rfl (by decide) in_x8_readClause_X8 w_x8_readClause_300 rfl rfl rfl ?_
    refine r_aload_n C 1 dX8_readClause_184 rfl ?_
    refine r_get (j := 32) (jz := 32) (v := vI (s31 0 (32 : Int))) C dX8_readClause_185 (shB_0) rfl rfl (by decide) in_x8_readClause_X8 w_x8_readClause_263 rfl rfl rfl ?_
    refine r_if_le (tgt := 195) C dX8_readClause_188 (by decide) ⟨h.1, fun c41 => ?_, fun c41 => ?_⟩
    · have h := h.2.1 c41
      refine r_iload_n C 2 dX8_readClause_195 rfl ?_
      refine r_if_ne (tgt := 210) C dX8_readClause_196 (by decide) ⟨h.1, fun c39 => ?_, fun c39 => ?_⟩
      · have h := h.2.1 c39
        refine r_aload_n C 1 dX8_readClause_210 rfl ?_
        refine r_iconst C dX8_readClause_211 ?_
        refine r_sipush C dX8_readClause_212 (by decide) ?_
        refine r_callV (As := [vI (0 : Int), vI (200 : Int)]) (o := 0) (n := 2) C dX8_readClause_215 (x8_takeNumber_ct κ.1.2.1 ad cA D (0 : Int) (200 : Int) s31) gX8_readClause_X8_takeNumber rfl ⟨rfl, rfl⟩ (by decide +kernel) (by decide) (shB_0) rfl rfl rfl (Nat.le_of_ble_eq_true rfl) (fun _ => rfl) ?_
        refine x8_takeNumber_mono h (fun r34 s33 h => ?_)
        refine r_iast (nz := 12) C dX8_readClause_218 (shB_22) rfl (by decide) ⟨h.1, fun s35 e_s35 => ?_⟩
        have h := h.2 s35 e_s35
        exact r_perm [1] rfl ((z219 _).1 h)
      · have h := h.2.2 c39
        refine r_aload_n C 1 dX8_readClause_199 rfl ?_
        refine r_iconst C dX8_readClause_200 ?_
        refine r_sipush C dX8_readClause_201 (by decide) ?_
        refine r_callV (As := [vI (1 : Int), vI (900 : Int)]) (o := 0) (n := 2) C dX8_readClause_204 (x8_takeNumber_ct κ.1.2.1 ad cA D (1 : Int) (900 : Int) s31) gX8_readClause_X8_takeNumber rfl ⟨rfl, rfl⟩ (by decide +kernel) (by decide) (shB_0) rfl rfl rfl (Nat.le_of_ble_eq_true rfl) (fun _ => rfl) ?_
        refine x8_takeNumber_mono h (fun r37 s36 h => ?_)
        refine r_goto (tgt := 218) C dX8_readClause_207 (by decide) ?_
        refine r_iast (nz := 12) C dX8_readClause_218 (shB_22) rfl (by decide) ⟨h.1, fun s38 e_s38 => ?_⟩
        have h := h.2 s38 e_s38
        exact r_perm [1] rfl ((z219 _).1 h)
    · have h := h.2.2 c41
      refine r_iconst C dX8_readClause_191 ?_
      refine r_goto (tgt := 218) C dX8_readClause_192 (by decide) ?_
      refine r_iast (nz := 12) C dX8_readClause_218 (shB_22) rfl (by decide) ⟨h.1, fun s40 e_s40 => ?_⟩
      have h := h.2 s40 e_s40
      exact r_perm [1] rfl ((z219 _).1 h)
  · intro s h
    refine (z219 _).2 ?_
    refine r_aload_n C 0 dX8_readClause_219 rfl ?_
    refine r_callV (As := []) (o := 0) (n := 0) C dX8_readClause_220 (x8_here_ct κ.1.2.1 ad cA D s) gX8_readClause_X8_here rfl ⟨rfl, rfl⟩ (by decide +kernel) (by decide) (shB_0) rfl rfl rfl (Nat.le_of_ble_eq_true rfl) (fun _ => rfl) ?_
    refine x8_here_mono h (fun r43 s42 h => ?_)
    refine r_istore_n (ls' := [(2, vI r43), (0, .ref (ad 0))]) C dX8_readClause_223 rfl (by decide) rfl ?_
    refine r_aload_n C 1 dX8_readClause_224 rfl ?_
    refine r_get (j := 32) (jz := 32) (v := vI (s42 0 (32 : Int))) C dX8_readClause_225 (shB_0) rfl rfl (by decide) in_x8_readClause_X8 w_x8_readClause_263 rfl rfl rfl ?_
    refine r_if_ne (tgt := 274) C dX8_readClause_228 (by decide) ⟨h.1, fun c45 => ?_, fun c45 => ?_⟩
    · have h := h.2.1 c45
      exact r_return C dX8_readClause_274 h
    · have h := h.2.2 c45
      refine r_aload_n C 1 dX8_readClause_231 rfl ?_
      refine r_iload_n C 0 dX8_readClause_232 rfl ?_
      refine r_bipush C dX8_readClause_233 (by decide) ?_
      refine r_icmp_ne (tgt := 242) C dX8_readClause_235 (by decide) ⟨h.1, fun c44 => ?_, fun c44 => ?_⟩
      · have h := h.2.1 c44
        refine r_iconst C dX8_readClause_242 ?_
        exact r_perm [1] rfl ((z243 _ _).1 h)
      · have h := h.2.2 c44
        refine r_iconst C dX8_readClause_238 ?_
        refine r_goto (tgt := 243) C dX8_readClause_239 (by decide) ?_
        exact r_perm [1] rfl ((z243 _ _).1 h)
  · intro t0 s h
    refine (z243 _ _).2 ?_
    refine r_iconst C dX8_readClause_243 ?_
    refine r_aload_n C 0 dX8_readClause_244 rfl ?_
    refine r_get (j := 31) (jz := 31) (v := vI (s 0 (31 : Int))) C dX8_readClause_245 (shB_0) rfl rfl (by decide) in_x8_readClause_X8 w_x8_readClause_260 rfl rfl rfl ?_
    refine r_callV (As := [vI t0, vI (1 : Int), vI (s 0 (31 : Int))]) (o := 0) (n := 3) C dX8_readClause_248 (x8_want_ct κ.1.2.1 ad cA D t0 (1 : Int) (s 0 (31 : Int)) s) gX8_readClause_X8_want rfl ⟨rfl, rfl⟩ (by decide +kernel) (by decide) (shB_0) rfl rfl rfl (Nat.le_of_ble_eq_true rfl) (fun _ => rfl) ?_
    refine x8_want_mono h (fun r47 s46 h => ?_)
    refine r_if_eq (tgt := 274) C dX8_readClause_251 (by decide) ⟨h.1, fun c50 => ?_, fun c50 => ?_⟩
    · have h := h.2.1 c50
      exact r_return C dX8_readClause_274 h
    · have h := h.2.2 c50
      refine r_aload_n C 0 dX8_readClause_254 rfl ?_
      refine r_dup C dX8_readClause_255 rfl ?_
      refine r_get (j := 31) (jz := 31) (v := vI (s46 0 (31 : Int))) C dX8_readClause_256 (shB_0) rfl rfl (by decide) in_x8_readClause_X8 w_x8_readClause_260 rfl rfl rfl ?_
      refine r_iconst C dX8_readClause_259 ?_
      refine r_iadd C dX8_readClause_260 ?_
      refine r_puti (j := 31) (jz := 31) C dX8_readClause_261 (shB_0) rfl rfl (by decide) in_x8_readClause_X8 tyX8 tyX8_ok nmX8 w_x8_readClause_260 rfl rfl (by decide +kernel) rfl (fun s48 e_s48 => ?_)
      have h := h s48 e_s48
      refine r_aload_n C 0 dX8_readClause_264 rfl ?_
      refine r_dup C dX8_readClause_265 rfl ?_
      refine r_get (j := 37) (jz := 37) (v := vI (s48 0 (37 : Int))) C dX8_readClause_266 (shB_0) rfl rfl (by decide) in_x8_readClause_X8 w_x8_readClause_300 rfl rfl rfl ?_
      refine r_iconst C dX8_readClause_269 ?_
      refine r_iadd C dX8_readClause_270 ?_
      refine r_puti (j := 37) (jz := 37) C dX8_readClause_271 (shB_0) rfl rfl (by decide) in_x8_readClause_X8 tyX8 tyX8_ok nmX8 w_x8_readClause_300 rfl rfl (by decide +kernel) rfl (fun s49 e_s49 => ?_)
      have h := h s49 e_s49
      exact r_return C dX8_readClause_274 h
theorem x8_readClause_ct (l : Launch) (ad : Nat → Nat) (cA : Nat → ClassId) (D : va_G)  (s : Mem) : MG l yX8_readClause wsX8_readClause x8_readClause_rm ocV [.ref (ad 0)] (GB ad cA D) s (x8_readClause  s) :=
  m_met (own := RX8) (nL := 3) (by decide) rfl rfl (Nat.le_of_ble_eq_true rfl) rfl rfl rfl (fun κ hl C Q Pst hW hQ => x8_readClause_bd C (x8_readClause_mono hW hQ))
