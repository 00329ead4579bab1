def xL_cell (e : Nat → Nat) (p1 : Int) (s : Mem) (Q : Int → Mem → Prop) : Prop :=
  (InI p1 ∧ InI (m_L e)) ∧ ((m_L e) ≤ p1 → Q ((747796405 : Int) * (p1 + (1 : Int))) s) ∧ (p1 < (m_L e) → ((0 : Int) ≤ p1 ∧ p1 < m_L e) ∧ Q (m_x e p1) s)
theorem xL_cell_mono {Q R : Int → Mem → Prop} {e : Nat → Nat} {p1 : Int} {s : Mem} (h : xL_cell e p1 s Q) (hQ : ∀ r s, Q r s → R r s) : xL_cell e p1 s R :=
  ⟨h.1, fun c => have h := h.2.1 c; hQ _ _ h, fun c => have h := h.2.2 c; ⟨h.1, have h := h.2; hQ _ _ h⟩⟩
def xL_cell_rm : Room := { frames := 0, cells := 0, slots := 0, locals := 0 }
theorem w_xL_cell_7 : Cond.constant RL 7 (747796405) ∈ wsL_cell := by decide +kernel
set_option maxHeartbeats 4000000 in
set_option maxRecDepth 100000 in
theorem xL_cell_bd {κ : KT} {ad : Nat → Nat} {cA : Nat → ClassId} {D : va_G} {Q : State → Prop} {p1 : Int} {s : Mem} (C : CX κ (GA ad cA D) RL cL_cell 2 wsL_cell xL_cell_rm (some .int)) (h : xL_cell ad p1 s (RT κ (GA ad cA D) ocI Q)) : WM κ (GA ad cA D) 2 Q s 0 [(0, .ref (ad 1000)), (1, vI p1)] [] := by
  refine r_iload_n C 1 dL_cell_0 rfl ?_
  refine r_aload_n C 0 dL_cell_1 rfl ?_
  refine r_slen C dL_cell_2 ?_
  refine r_icmp_ge (tgt := 12) C dL_cell_3 (by decide) ⟨h.1, fun c1 => ?_, fun c1 => ?_⟩
  · have h := h.2.1 c1
    refine r_ldc (z := 747796405) C dL_cell_12 w_xL_cell_7 rfl ?_
    refine r_iload_n C 1 dL_cell_14 rfl ?_
    refine r_iconst C dL_cell_15 ?_
    refine r_iadd C dL_cell_16 ?_
    refine r_imul C dL_cell_17 ?_
    exact r_ireturn C dL_cell_18 h
  · have h := h.2.2 c1
    refine r_aload_n C 0 dL_cell_6 rfl ?_
    refine r_iload_n C 1 dL_cell_7 rfl ?_
    refine r_sald C dL_cell_8 ⟨h.1, ?_⟩
    have h := h.2
    refine r_goto (tgt := 18) C dL_cell_9 (by decide) ?_
    exact r_ireturn C dL_cell_18 h
theorem xL_cell_ct (l : Launch) (ad : Nat → Nat) (cA : Nat → ClassId) (D : va_G) (p1 : Int) (s : Mem) : MG l yL_cell wsL_cell xL_cell_rm ocI [.ref (ad 1000), vI p1] (GA ad cA D) s (xL_cell ad p1 s) :=
  m_met (own := RL) (nL := 2) (by decide) rfl rfl (Nat.le_of_ble_eq_true rfl) rfl rfl rfl (fun κ hl C Q Pst hW hQ => xL_cell_bd C (xL_cell_mono hW hQ))

def xL_low (p0 : Int) (p1 : Int) (s : Mem) (Q : Int → Mem → Prop) : Prop :=
  (InI (andI p0 (2147483647 : Int)) ∧ InI p1 ∧ ¬ p1 = 0) ∧ Q (Int.tmod (andI p0 (2147483647 : Int)) p1) s
theorem xL_low_mono {Q R : Int → Mem → Prop} {p0 : Int} {p1 : Int} {s : Mem} (h : xL_low p0 p1 s Q) (hQ : ∀ r s, Q r s → R r s) : xL_low p0 p1 s R :=
  ⟨h.1, have h := h.2; hQ _ _ h⟩
def xL_low_rm : Room := { frames := 0, cells := 0, slots := 0, locals := 0 }
theorem w_xL_low_8 : Cond.constant RL 8 (2147483647) ∈ wsL_low := by decide +kernel
set_option maxHeartbeats 4000000 in
set_option maxRecDepth 100000 in
theorem xL_low_bd {κ : KT} {ad : Nat → Nat} {cA : Nat → ClassId} {D : va_G} {Q : State → Prop} {p0 : Int} {p1 : Int} {s : Mem} (C : CX κ (GA ad cA D) RL cL_low 2 wsL_low xL_low_rm (some .int)) (h : xL_low p0 p1 s (RT κ (GA ad cA D) ocI Q)) : WM κ (GA ad cA D) 2 Q s 0 [(0, vI p0), (1, vI p1)] [] := by
  refine r_iload_n C 0 dL_low_0 rfl ?_
  refine r_ldc (z := 2147483647) C dL_low_1 w_xL_low_8 rfl ?_
  refine r_iand C dL_low_3 ?_
  refine r_iload_n C 1 dL_low_4 rfl ?_
  refine r_irem C dL_low_5 ⟨h.1, ?_⟩
  have h := h.2
  exact r_ireturn C dL_low_6 h
theorem xL_low_ct (l : Launch) (ad : Nat → Nat) (cA : Nat → ClassId) (D : va_G) (p0 : Int) (p1 : Int) (s : Mem) : MG l yL_low wsL_low xL_low_rm ocI [vI p0, vI p1] (GA ad cA D) s (xL_low p0 p1 s) :=
  m_met (own := RL) (nL := 2) (by decide) rfl rfl (Nat.le_of_ble_eq_true rfl) rfl rfl rfl (fun κ hl C Q Pst hW hQ => xL_low_bd C (xL_low_mono hW hQ))

def xL_make_be (X25 : Int → Int → Mem → Prop) (X111 : Int → Int → Int → Int → Int → Int → Mem → Prop) (X152 : Int → Int → Int → Int → Int → Int → Mem → Prop) (Q : Int → Mem → Prop) (e : Nat → Nat) (p2 : Int) (s : Mem) : Prop :=
  xL_cell e (1 : Int) s (fun r2 s1 => xL_low r2 (9 : Int) s1 (fun r4 s3 => x7_joint p2 ((1 : Int) + r4) s3 (fun r6 s5 => (InI r6 ∧ InI p2) ∧ (r6 = p2 → X25 p2 (0 : Int) s5) ∧ (¬ r6 = p2 → ((0 : Int) ≤ (0 : Int) ∧ (0 : Int) ≤ 1) ∧ Q (0 : Int) s5))))
def xL_make_b25 (e : Nat → Nat) (X25 : Int → Int → Mem → Prop) (X111 : Int → Int → Int → Int → Int → Int → Mem → Prop) (X152 : Int → Int → Int → Int → Int → Int → Mem → Prop) (Q : Int → Mem → Prop) (x2 : Int) (x3 : Int) (s : Mem) : Prop :=
  (InI x3 ∧ InI x2) ∧ (x2 ≤ x3 → ((0 : Int) ≤ (1 : Int) ∧ (1 : Int) ≤ 1) ∧ Q (1 : Int) s) ∧ (x3 < x2 → xL_cell e ((2 : Int) + x3) s (fun r9 s8 => xL_low r9 (9 : Int) s8 (fun r11 s10 => x7_set x3 (0 : Int) ((1 : Int) + r11) s10 (fun r13 s12 => (InI r13 ∧ InI (5 : Int)) ∧ (¬ r13 = (5 : Int) → ((0 : Int) ≤ (0 : Int) ∧ (0 : Int) ≤ 1) ∧ Q (0 : Int) s12) ∧ (r13 = (5 : Int) → xL_cell e ((10 : Int) + x3) s12 (fun r15 s14 => xL_low r15 (9 : Int) s14 (fun r17 s16 => x7_set x3 (1 : Int) ((1 : Int) + r17) s16 (fun r19 s18 => (InI r19 ∧ InI (3 : Int)) ∧ (¬ r19 = (3 : Int) → ((0 : Int) ≤ (0 : Int) ∧ (0 : Int) ≤ 1) ∧ Q (0 : Int) s18) ∧ (r19 = (3 : Int) → xL_cell e ((20 : Int) + x3) s18 (fun r21 s20 => xL_cell e (26 : Int) s20 (fun r23 s22 => xL_low r23 (2 : Int) s22 (fun r25 s24 => InI r25 ∧ (¬ r25 = (0 : Int) → X111 x2 x3 (20 : Int) r21 (2 : Int) x3 s24) ∧ (r25 = (0 : Int) → X111 x2 x3 (201 : Int) r21 (2 : Int) x3 s24)))))))))))))
def xL_make_b111 (e : Nat → Nat) (X25 : Int → Int → Mem → Prop) (X111 : Int → Int → Int → Int → Int → Int → Mem → Prop) (X152 : Int → Int → Int → Int → Int → Int → Mem → Prop) (Q : Int → Mem → Prop) (x2 : Int) (x3 : Int) (t0 : Int) (t1 : Int) (t2 : Int) (t3 : Int) (s : Mem) : Prop :=
  xL_low t1 t0 s (fun r31 s30 => x7_set t3 t2 r31 s30 (fun r33 s32 => InI r33 ∧ (¬ r33 = (0 : Int) → ((0 : Int) ≤ (0 : Int) ∧ (0 : Int) ≤ 1) ∧ Q (0 : Int) s32) ∧ (r33 = (0 : Int) → xL_cell e ((30 : Int) + x3) s32 (fun r35 s34 => xL_cell e (27 : Int) s34 (fun r37 s36 => xL_low r37 (2 : Int) s36 (fun r39 s38 => InI r39 ∧ (¬ r39 = (0 : Int) → X152 x2 x3 (10 : Int) r35 (3 : Int) x3 s38) ∧ (r39 = (0 : Int) → X152 x2 x3 (201 : Int) r35 (3 : Int) x3 s38)))))))
def xL_make_b152 (e : Nat → Nat) (X25 : Int → Int → Mem → Prop) (X111 : Int → Int → Int → Int → Int → Int → Mem → Prop) (X152 : Int → Int → Int → Int → Int → Int → Mem → Prop) (Q : Int → Mem → Prop) (x2 : Int) (x3 : Int) (t0 : Int) (t1 : Int) (t2 : Int) (t3 : Int) (s : Mem) : Prop :=
  xL_low t1 t0 s (fun r43 s42 => x7_set t3 t2 r43 s42 (fun r45 s44 => InI r45 ∧ (r45 = (0 : Int) → InI x3 ∧ (x3 ≤ (0 : Int) → X25 x2 (x3 + (1 : Int)) s44) ∧ ((0 : Int) < x3 → xL_cell e ((40 : Int) + x3) s44 (fun r47 s46 => xL_low r47 (5 : Int) s46 (fun r49 s48 => InI r49 ∧ (¬ r49 = (0 : Int) → X25 x2 (x3 + (1 : Int)) s48) ∧ (r49 = (0 : Int) → x7_broken x3 (1 : Int) s48 (fun r51 s50 => InI r51 ∧ (r51 = (0 : Int) → X25 x2 (x3 + (1 : Int)) s50) ∧ (¬ r51 = (0 : Int) → ((0 : Int) ≤ (0 : Int) ∧ (0 : Int) ≤ 1) ∧ Q (0 : Int) s50))))))) ∧ (¬ r45 = (0 : Int) → ((0 : Int) ≤ (0 : Int) ∧ (0 : Int) ≤ 1) ∧ Q (0 : Int) s44)))
theorem xL_make_me {X25 Y25 : Int → Int → Mem → Prop} {X111 Y111 : Int → Int → Int → Int → Int → Int → Mem → Prop} {X152 Y152 : Int → Int → Int → Int → Int → Int → Mem → Prop} {Q R : Int → Mem → Prop} (hX25 : ∀ x2 x3 s, X25 x2 x3 s → Y25 x2 x3 s) (hX111 : ∀ x2 x3 t0 t1 t2 t3 s, X111 x2 x3 t0 t1 t2 t3 s → Y111 x2 x3 t0 t1 t2 t3 s) (hX152 : ∀ x2 x3 t0 t1 t2 t3 s, X152 x2 x3 t0 t1 t2 t3 s → Y152 x2 x3 t0 t1 t2 t3 s) (hQ : ∀ r s, Q r s → R r s) {e : Nat → Nat} {p2 : Int} {s : Mem} (h : xL_make_be X25 X111 X152 Q e p2 s) : xL_make_be Y25 Y111 Y152 R e p2 s :=
  xL_cell_mono h (fun r2 s1 h => xL_low_mono h (fun r4 s3 h => x7_joint_mono h (fun r6 s5 h => ⟨h.1, fun c => have h := h.2.1 c; hX25 _ _ _ h, fun c => have h := h.2.2 c; ⟨h.1, hQ _ _ h.2⟩⟩)))
theorem xL_make_m25 {e : Nat → Nat} {X25 Y25 : Int → Int → Mem → Prop} {X111 Y111 : Int → Int → Int → Int → Int → Int → Mem → Prop} {X152 Y152 : Int → Int → Int → Int → Int → Int → Mem → Prop} {Q R : Int → Mem → Prop} (hX25 : ∀ x2 x3 s, X25 x2 x3 s → Y25 x2 x3 s) (hX111 : ∀ x2 x3 t0 t1 t2 t3 s, X111 x2 x3 t0 t1 t2 t3 s → Y111 x2 x3 t0 t1 t2 t3 s) (hX152 : ∀ x2 x3 t0 t1 t2 t3 s, X152 x2 x3 t0 t1 t2 t3 s → Y152 x2 x3 t0 t1 t2 t3 s) (hQ : ∀ r s, Q r s → R r s) {x2 : Int} {x3 : Int} {s : Mem} (h : xL_make_b25 e X25 X111 X152 Q x2 x3 s) : xL_make_b25 e Y25 Y111 Y152 R x2 x3 s :=
  ⟨h.1, fun c => have h := h.2.1 c; ⟨h.1, hQ _ _ h.2⟩, fun c => have h := h.2.2 c; xL_cell_mono h (fun r9 s8 h => xL_low_mono h (fun r11 s10 h => x7_set_mono h (fun r13 s12 h => ⟨h.1, fun c => have h := h.2.1 c; ⟨h.1, hQ _ _ h.2⟩, fun c => have h := h.2.2 c; xL_cell_mono h (fun r15 s14 h => xL_low_mono h (fun r17 s16 h => x7_set_mono h (fun r19 s18 h => ⟨h.1, fun c => have h := h.2.1 c; ⟨h.1, hQ _ _ h.2⟩, fun c => have h := h.2.2 c; xL_cell_mono h (fun r21 s20 h => xL_cell_mono h (fun r23 s22 h => xL_low_mono h (fun r25 s24 h => ⟨h.1, fun c => have h := h.2.1 c; hX111 _ _ _ _ _ _ _ h, fun c => have h := h.2.2 c; hX111 _ _ _ _ _ _ _ h⟩)))⟩)))⟩)))⟩
theorem xL_make_m111 {e : Nat → Nat} {X25 Y25 : Int → Int → Mem → Prop} {X111 Y111 : Int → Int → Int → Int → Int → Int → Mem → Prop} {X152 Y152 : Int → Int → Int → Int → Int → Int → Mem → Prop} {Q R : Int → Mem → Prop} (hX25 : ∀ x2 x3 s, X25 x2 x3 s → Y25 x2 x3 s) (hX111 : ∀ x2 x3 t0 t1 t2 t3 s, X111 x2 x3 t0 t1 t2 t3 s → Y111 x2 x3 t0 t1 t2 t3 s) (hX152 : ∀ x2 x3 t0 t1 t2 t3 s, X152 x2 x3 t0 t1 t2 t3 s → Y152 x2 x3 t0 t1 t2 t3 s) (hQ : ∀ r s, Q r s → R r s) {x2 : Int} {x3 : Int} {t0 : Int} {t1 : Int} {t2 : Int} {t3 : Int} {s : Mem} (h : xL_make_b111 e X25 X111 X152 Q x2 x3 t0 t1 t2 t3 s) : xL_make_b111 e Y25 Y111 Y152 R x2 x3 t0 t1 t2 t3 s :=
  xL_low_mono h (fun r31 s30 h => x7_set_mono h (fun r33 s32 h => ⟨h.1, fun c => have h := h.2.1 c; ⟨h.1, hQ _ _ h.2⟩, fun c => have h := h.2.2 c; xL_cell_mono h (fun r35 s34 h => xL_cell_mono h (fun r37 s36 h => xL_low_mono h (fun r39 s38 h => ⟨h.1, fun c => have h := h.2.1 c; hX152 _ _ _ _ _ _ _ h, fun c => have h := h.2.2 c; hX152 _ _ _ _ _ _ _ h⟩)))⟩))
theorem xL_make_m152 {e : Nat → Nat} {X25 Y25 : Int → Int → Mem → Prop} {X111 Y111 : Int → Int → Int → Int → Int → Int → Mem → Prop} {X152 Y152 : Int → Int → Int → Int → Int → Int → Mem → Prop} {Q R : Int → Mem → Prop} (hX25 : ∀ x2 x3 s, X25 x2 x3 s → Y25 x2 x3 s) (hX111 : ∀ x2 x3 t0 t1 t2 t3 s, X111 x2 x3 t0 t1 t2 t3 s → Y111 x2 x3 t0 t1 t2 t3 s) (hX152 : ∀ x2 x3 t0 t1 t2 t3 s, X152 x2 x3 t0 t1 t2 t3 s → Y152 x2 x3 t0 t1 t2 t3 s) (hQ : ∀ r s, Q r s → R r s) {x2 : Int} {x3 : Int} {t0 : Int} {t1 : Int} {t2 : Int} {t3 : Int} {s : Mem} (h : xL_make_b152 e X25 X111 X152 Q x2 x3 t0 t1 t2 t3 s) : xL_make_b152 e Y25 Y111 Y152 R x2 x3 t0 t1 t2 t3 s :=
  xL_low_mono h (fun r43 s42 h => x7_set_mono h (fun r45 s44 h => ⟨h.1, fun c => have h := h.2.1 c; ⟨h.1, fun c => have h := h.2.1 c; hX25 _ _ _ h, fun c => have h := h.2.2 c; xL_cell_mono h (fun r47 s46 h => xL_low_mono h (fun r49 s48 h => ⟨h.1, fun c => have h := h.2.1 c; hX25 _ _ _ h, fun c => have h := h.2.2 c; x7_broken_mono h (fun r51 s50 h => ⟨h.1, fun c => have h := h.2.1 c; hX25 _ _ _ h, fun c => have h := h.2.2 c; ⟨h.1, hQ _ _ h.2⟩⟩)⟩))⟩, fun c => have h := h.2.2 c; ⟨h.1, hQ _ _ h.2⟩⟩))
def xL_make (e : Nat → Nat) (p2 : Int) (s : Mem) (Q : Int → Mem → Prop) : Prop := ∀ (X25 : Int → Int → Mem → Prop) (X111 : Int → Int → Int → Int → Int → Int → Mem → Prop) (X152 : Int → Int → Int → Int → Int → Int → Mem → Prop), (∀ x2 x3 s, xL_make_b25 e X25 X111 X152 Q x2 x3 s → X25 x2 x3 s) → (∀ x2 x3 t0 t1 t2 t3 s, xL_make_b111 e X25 X111 X152 Q x2 x3 t0 t1 t2 t3 s → X111 x2 x3 t0 t1 t2 t3 s) → (∀ x2 x3 t0 t1 t2 t3 s, xL_make_b152 e X25 X111 X152 Q x2 x3 t0 t1 t2 t3 s → X152 x2 x3 t0 t1 t2 t3 s) → xL_make_be X25 X111 X152 Q e p2 s
def xL_make_L25 (e : Nat → Nat) (Q : Int → Mem → Prop) (x2 : Int) (x3 : Int) (s : Mem) : Prop := ∀ (X25 : Int → Int → Mem → Prop) (X111 : Int → Int → Int → Int → Int → Int → Mem → Prop) (X152 : Int → Int → Int → Int → Int → Int → Mem → Prop), (∀ x2 x3 s, xL_make_b25 e X25 X111 X152 Q x2 x3 s → X25 x2 x3 s) → (∀ x2 x3 t0 t1 t2 t3 s, xL_make_b111 e X25 X111 X152 Q x2 x3 t0 t1 t2 t3 s → X111 x2 x3 t0 t1 t2 t3 s) → (∀ x2 x3 t0 t1 t2 t3 s, xL_make_b152 e X25 X111 X152 Q x2 x3 t0 t1 t2 t3 s → X152 x2 x3 t0 t1 t2 t3 s) → X25 x2 x3 s
def xL_make_L111 (e : Nat → Nat) (Q : Int → Mem → Prop) (x2 : Int) (x3 : Int) (t0 : Int) (t1 : Int) (t2 : Int) (t3 : Int) (s : Mem) : Prop := ∀ (X25 : Int → Int → Mem → Prop) (X111 : Int → Int → Int → Int → Int → Int → Mem → Prop) (X152 : Int → Int → Int → Int → Int → Int → Mem → Prop), (∀ x2 x3 s, xL_make_b25 e X25 X111 X152 Q x2 x3 s → X25 x2 x3 s) → (∀ x2 x3 t0 t1 t2 t3 s, xL_make_b111 e X25 X111 X152 Q x2 x3 t0 t1 t2 t3 s → X111 x2 x3 t0 t1 t2 t3 s) → (∀ x2 x3 t0 t1 t2 t3 s, xL_make_b152 e X25 X111 X152 Q x2 x3 t0 t1 t2 t3 s → X152 x2 x3 t0 t1 t2 t3 s) → X111 x2 x3 t0 t1 t2 t3 s
def xL_make_L152 (e : Nat → Nat) (Q : Int → Mem → Prop) (x2 : Int) (x3 : Int) (t0 : Int) (t1 : Int) (t2 : Int) (t3 : Int) (s : Mem) : Prop := ∀ (X25 : Int → Int → Mem → Prop) (X111 : Int → Int → Int → Int → Int → Int → Mem → Prop) (X152 : Int → Int → Int → Int → Int → Int → Mem → Prop), (∀ x2 x3 s, xL_make_b25 e X25 X111 X152 Q x2 x3 s → X25 x2 x3 s) → (∀ x2 x3 t0 t1 t2 t3 s, xL_make_b111 e X25 X111 X152 Q x2 x3 t0 t1 t2 t3 s → X111 x2 x3 t0 t1 t2 t3 s) → (∀ x2 x3 t0 t1 t2 t3 s, xL_make_b152 e X25 X111 X152 Q x2 x3 t0 t1 t2 t3 s → X152 x2 x3 t0 t1 t2 t3 s) → X152 x2 x3 t0 t1 t2 t3 s
theorem xL_make_i {Q : Int → Mem → Prop} {e : Nat → Nat} {p2 : Int} {s : Mem} (h : xL_make_be (xL_make_L25 e Q) (xL_make_L111 e Q) (xL_make_L152 e Q) Q e p2 s) : xL_make e p2 s Q := fun X25 X111 X152 k25 k111 k152 => xL_make_me (fun _ _ _ h => h X25 X111 X152 k25 k111 k152) (fun _ _ _ _ _ _ _ h => h X25 X111 X152 k25 k111 k152) (fun _ _ _ _ _ _ _ h => h X25 X111 X152 k25 k111 k152) (fun _ _ h => h) h
theorem xL_make_s25 {e : Nat → Nat} {Q : Int → Mem → Prop} {x2 : Int} {x3 : Int} {s : Mem} (h : xL_make_b25 e (xL_make_L25 e Q) (xL_make_L111 e Q) (xL_make_L152 e Q) Q x2 x3 s) : xL_make_L25 e Q x2 x3 s := fun X25 X111 X152 k25 k111 k152 => k25 _ _ _ (xL_make_m25 (fun _ _ _ h => h X25 X111 X152 k25 k111 k152) (fun _ _ _ _ _ _ _ h => h X25 X111 X152 k25 k111 k152) (fun _ _ _ _ _ _ _ h => h X25 X111 X152 k25 k111 k152) (fun _ _ h => h) h)
theorem xL_make_s111 {e : Nat → Nat} {Q : Int → Mem → Prop} {x2 : Int} {x3 : Int} {t0 : Int} {t1 : Int} {t2 : Int} {t3 : Int} {s : Mem} (h : xL_make_b111 e (xL_make_L25 e Q) (xL_make_L111 e Q) (xL_make_L152 e Q) Q x2 x3 t0 t1 t2 t3 s) : xL_make_L111 e Q x2 x3 t0 t1 t2 t3 s := fun X25 X111 X152 k25 k111 k152 => k111 _ _ _ _ _ _ _ (xL_make_m111 (fun _ _ _ h => h X25 X111 X152 k25 k111 k152) (fun _ _ _ _ _ _ _ h => h X25 X111 X152 k25 k111 k152) (fun _ _ _ _ _ _ _ h => h X25 X111 X152 k25 k111 k152) (fun _ _ h => h) h)
theorem xL_make_s152 {e : Nat → Nat} {Q : Int → Mem → Prop} {x2 : Int} {x3 : Int} {t0 : Int} {t1 : Int} {t2 : Int} {t3 : Int} {s : Mem} (h : xL_make_b152 e (xL_make_L25 e Q) (xL_make_L111 e Q) (xL_make_L152 e Q) Q x2 x3 t0 t1 t2 t3 s) : xL_make_L152 e Q x2 x3 t0 t1 t2 t3 s := fun X25 X111 X152 k25 k111 k152 => k152 _ _ _ _ _ _ _ (xL_make_m152 (fun _ _ _ h => h X25 X111 X152 k25 k111 k152) (fun _ _ _ _ _ _ _ h => h X25 X111 X152 k25 k111 k152) (fun _ _ _ _ _ _ _ h => h X25 X111 X152 k25 k111 k152) (fun _ _ h => h) h)
theorem xL_make_mono {Q R : Int → Mem → Prop} {e : Nat → Nat} {p2 : Int} {s : Mem} (h : xL_make e p2 s Q) (hQ : ∀ r s, Q r s → R r s) : xL_make e p2 s R := fun X25 X111 X152 k25 k111 k152 => xL_make_me (fun _ _ _ h => h) (fun _ _ _ _ _ _ _ h => h) (fun _ _ _ _ _ _ _ h => h) hQ (h X25 X111 X152 (fun _ _ _ h => k25 _ _ _ (xL_make_m25 (fun _ _ _ h => h) (fun _ _ _ _ _ _ _ h => h) (fun _ _ _ _ _ _ _ h => h) hQ h)) (fun _ _ _ _ _ _ _ h => k111 _ _ _ _ _ _ _ (xL_make_m111 (fun _ _ _ h => h) (fun _ _ _ _ _ _ _ h => h) (fun _ _ _ _ _ _ _ h => h) hQ h)) (fun _ _ _ _ _ _ _ h => k152 _ _ _ _ _ _ _ (xL_make_m152 (fun _ _ _ h => h) (fun _ _ _ _ _ _ _ h => h) (fun _ _ _ _ _ _ _ h => h) hQ h)))
def xL_make_rm : Room := { frames := 3, cells := 0, slots := 0, locals := 65 }
set_option maxHeartbeats 4000000 in
set_option maxRecDepth 100000 in
theorem xL_make_bd {κ : KT} {ad : Nat → Nat} {cA : Nat → ClassId} {D : va_G} {Q : State → Prop} {p2 : Int} {s : Mem} (C : CX κ (GA ad cA D) RL cL_make 4 wsL_make xL_make_rm (some .boolean)) (h : xL_make ad p2 s (RT κ (GA ad cA D) ocI Q)) : WM κ (GA ad cA D) 4 Q s 0 [(0, .ref (ad 0)), (1, .ref (ad 1000)), (2, vI p2)] [] := by
  obtain ⟨Z25, z25⟩ : ∃ Z : Int → Int → Mem → Prop, ∀ x2 x3 s, Z x2 x3 s ↔ WM κ (GA ad cA D) 4 Q s 25 [(0, .ref (ad 0)), (1, .ref (ad 1000)), (2, vI x2), (3, vI x3)] [] := ⟨fun x2 x3 s => WM κ (GA ad cA D) 4 Q s 25 [(0, .ref (ad 0)), (1, .ref (ad 1000)), (2, vI x2), (3, vI x3)] [], fun _ _ _ => Iff.rfl⟩
  obtain ⟨Z111, z111⟩ : ∃ Z : Int → Int → Int → Int → Int → Int → Mem → Prop, ∀ x2 x3 t0 t1 t2 t3 s, Z x2 x3 t0 t1 t2 t3 s ↔ WM κ (GA ad cA D) 4 Q s 111 [(0, .ref (ad 0)), (1, .ref (ad 1000)), (2, vI x2), (3, vI x3)] [vI t0, vI t1, vI t2, vI t3, .ref (ad 0)] := ⟨fun x2 x3 t0 t1 t2 t3 s => WM κ (GA ad cA D) 4 Q s 111 [(0, .ref (ad 0)), (1, .ref (ad 1000)), (2, vI x2), (3, vI x3)] [vI t0, vI t1, vI t2, vI t3, .ref (ad 0)], fun _ _ _ _ _ _ _ => Iff.rfl⟩
  obtain ⟨Z152, z152⟩ : ∃ Z : Int → Int → Int → Int → Int → Int → Mem → Prop, ∀ x2 x3 t0 t1 t2 t3 s, Z x2 x3 t0 t1 t2 t3 s ↔ WM κ (GA ad cA D) 4 Q s 152 [(0, .ref (ad 0)), (1, .ref (ad 1000)), (2, vI x2), (3, vI x3)] [vI t0, vI t1, vI t2, vI t3, .ref (ad 0)] := ⟨fun x2 x3 t0 t1 t2 t3 s => WM κ (GA ad cA D) 4 Q s 152 [(0, .ref (ad 0)), (1, .ref (ad 1000)), (2, vI x2), (3, vI x3)] [vI t0, vI t1, vI t2, vI t3, .ref (ad 0)], fun _ _ _ _ _ _ _ => Iff.rfl⟩
  refine (fun h => ?_) (h Z25 Z111 Z152 ?_ ?_ ?_)
  · refine r_aload_n C 0 dL_make_0 rfl ?_
    refine r_iload_n C 2 dL_make_1 rfl ?_
    refine r_iconst C dL_make_2 ?_
    refine r_aload_n C 1 dL_make_3 rfl ?_
    refine r_iconst C dL_make_4 ?_
    refine r_callS (As := [.ref (ad 1000), vI (1 : Int)]) (n := 2) C dL_make_5 (xL_cell_ct κ.1.2.1 ad cA D (1 : Int) s) gL_make_L_cell rfl ⟨rfl, rfl⟩ (by decide +kernel) (by decide) rfl rfl (Nat.le_of_ble_eq_true rfl) (fun _ => rfl) ?_
    refine xL_cell_mono h (fun r2 s1 h => ?_)
    refine r_bipush C dL_make_8 (by decide) ?_
    refine r_callS (As := [vI r2, vI (9 : Int)]) (n := 2) C dL_make_10 (xL_low_ct κ.1.2.1 ad cA D r2 (9 : Int) s1) gL_make_L_low rfl ⟨rfl, rfl⟩ (by decide +kernel) (by decide) rfl rfl (Nat.le_of_ble_eq_true rfl) (fun _ => rfl) ?_
    refine xL_low_mono h (fun r4 s3 h => ?_)
    refine r_iadd C dL_make_13 ?_
    refine r_callV (As := [vI p2, vI ((1 : Int) + r4)]) (o := 0) (n := 2) C dL_make_14 (x7_joint_ct κ.1.2.1 ad cA D p2 ((1 : Int) + r4) s3) gL_make_X7_joint rfl ⟨rfl, rfl⟩ (by decide +kernel) (by decide) (shA_0) rfl rfl rfl (Nat.le_of_ble_eq_true rfl) (fun _ => rfl) ?_
    refine x7_joint_mono h (fun r6 s5 h => ?_)
    refine r_iload_n C 2 dL_make_17 rfl ?_
    refine r_icmp_eq (tgt := 23) C dL_make_18 (by decide) ⟨h.1, fun c7 => ?_, fun c7 => ?_⟩
    · have h := h.2.1 c7
      refine r_iconst C dL_make_23 ?_
      refine r_istore_n (ls' := [(3, vI (0 : Int)), (0, .ref (ad 0)), (1, .ref (ad 1000)), (2, vI p2)]) C dL_make_24 rfl (by decide) rfl ?_
      exact r_perm [1, 2, 3, 0] rfl ((z25 _ _ _).1 h)
    · have h := h.2.2 c7
      refine r_iconst C dL_make_21 ?_
      exact r_zreturn C dL_make_22 h
  · intro x2 x3 s h
    refine (z25 _ _ _).2 ?_
    refine r_iload_n C 3 dL_make_25 rfl ?_
    refine r_iload_n C 2 dL_make_26 rfl ?_
    refine r_icmp_ge (tgt := 199) C dL_make_27 (by decide) ⟨h.1, fun c29 => ?_, fun c29 => ?_⟩
    · have h := h.2.1 c29
      refine r_iconst C dL_make_199 ?_
      exact r_zreturn C dL_make_200 h
    · have h := h.2.2 c29
      refine r_aload_n C 0 dL_make_30 rfl ?_
      refine r_iload_n C 3 dL_make_31 rfl ?_
      refine r_iconst C dL_make_32 ?_
      refine r_iconst C dL_make_33 ?_
      refine r_aload_n C 1 dL_make_34 rfl ?_
      refine r_iconst C dL_make_35 ?_
      refine r_iload_n C 3 dL_make_36 rfl ?_
      refine r_iadd C dL_make_37 ?_
      refine r_callS (As := [.ref (ad 1000), vI ((2 : Int) + x3)]) (n := 2) C dL_make_38 (xL_cell_ct κ.1.2.1 ad cA D ((2 : Int) + x3) s) gL_make_L_cell rfl ⟨rfl, rfl⟩ (by decide +kernel) (by decide) rfl rfl (Nat.le_of_ble_eq_true rfl) (fun _ => rfl) ?_
      refine xL_cell_mono h (fun r9 s8 h => ?_)
      refine r_bipush C dL_make_41 (by decide) ?_
      refine r_callS (As := [vI r9, vI (9 : Int)]) (n := 2) C dL_make_43 (xL_low_ct κ.1.2.1 ad cA D r9 (9 : Int) s8) gL_make_L_low rfl ⟨rfl, rfl⟩ (by decide +kernel) (by decide) rfl rfl (Nat.le_of_ble_eq_true rfl) (fun _ => rfl) ?_
      refine xL_low_mono h (fun r11 s10 h => ?_)
      refine r_iadd C dL_make_46 ?_
      refine r_callV (As := [vI x3, vI (0 : Int), vI ((1 : Int) + r11)]) (o := 0) (n := 3) C dL_make_47 (x7_set_ct κ.1.2.1 ad cA D x3 (0 : Int) ((1 : Int) + r11) s10) gL_make_X7_set rfl ⟨rfl, rfl⟩ (by decide +kernel) (by decide) (shA_0) rfl rfl rfl (Nat.le_of_ble_eq_true rfl) (fun _ => rfl) ?_
      refine x7_set_mono h (fun r13 s12 h => ?_)
      refine r_iconst C dL_make_50 ?_
      refine r_icmp_ne (tgt := 161) C dL_make_51 (by decide) ⟨h.1, fun c28 => ?_, fun c28 => ?_⟩
      · have h := h.2.1 c28
        refine r_iconst C dL_make_161 ?_
        exact r_zreturn C dL_make_162 h
      · have h := h.2.2 c28
        refine r_aload_n C 0 dL_make_54 rfl ?_
        refine r_iload_n C 3 dL_make_55 rfl ?_
        refine r_iconst C dL_make_56 ?_
        refine r_iconst C dL_make_57 ?_
        refine r_aload_n C 1 dL_make_58 rfl ?_
        refine r_bipush C dL_make_59 (by decide) ?_
        refine r_iload_n C 3 dL_make_61 rfl ?_
        refine r_iadd C dL_make_62 ?_
        refine r_callS (As := [.ref (ad 1000), vI ((10 : Int) + x3)]) (n := 2) C dL_make_63 (xL_cell_ct κ.1.2.1 ad cA D ((10 : Int) + x3) s12) gL_make_L_cell rfl ⟨rfl, rfl⟩ (by decide +kernel) (by decide) rfl rfl (Nat.le_of_ble_eq_true rfl) (fun _ => rfl) ?_
        refine xL_cell_mono h (fun r15 s14 h => ?_)
        refine r_bipush C dL_make_66 (by decide) ?_
        refine r_callS (As := [vI r15, vI (9 : Int)]) (n := 2) C dL_make_68 (xL_low_ct κ.1.2.1 ad cA D r15 (9 : Int) s14) gL_make_L_low rfl ⟨rfl, rfl⟩ (by decide +kernel) (by decide) rfl rfl (Nat.le_of_ble_eq_true rfl) (fun _ => rfl) ?_
        refine xL_low_mono h (fun r17 s16 h => ?_)
        refine r_iadd C dL_make_71 ?_
        refine r_callV (As := [vI x3, vI (1 : Int), vI ((1 : Int) + r17)]) (o := 0) (n := 3) C dL_make_72 (x7_set_ct κ.1.2.1 ad cA D x3 (1 : Int) ((1 : Int) + r17) s16) gL_make_X7_set rfl ⟨rfl, rfl⟩ (by decide +kernel) (by decide) (shA_0) rfl rfl rfl (Nat.le_of_ble_eq_true rfl) (fun _ => rfl) ?_
        refine x7_set_mono h (fun r19 s18 h => ?_)
        refine r_iconst C dL_make_75 ?_
        refine r_icmp_ne (tgt := 161) C dL_make_76 (by decide) ⟨h.1, fun c27 => ?_, fun c27 => ?_⟩
        · have h := h.2.1 c27
          refine r_iconst C dL_make_161 ?_
          exact r_zreturn C dL_make_162 h
        · have h := h.2.2 c27
          refine r_aload_n C 0 dL_make_79 rfl ?_
          refine r_iload_n C 3 dL_make_80 rfl ?_
          refine r_iconst C dL_make_81 ?_
          refine r_aload_n C 1 dL_make_82 rfl ?_
          refine r_bipush C dL_make_83 (by decide) ?_
          refine r_iload_n C 3 dL_make_85 rfl ?_
          refine r_iadd C dL_make_86 ?_
          refine r_callS (As := [.ref (ad 1000), vI ((20 : Int) + x3)]) (n := 2) C dL_make_87 (xL_cell_ct κ.1.2.1 ad cA D ((20 : Int) + x3) s18) gL_make_L_cell rfl ⟨rfl, rfl⟩ (by decide +kernel) (by decide) rfl rfl (Nat.le_of_ble_eq_true rfl) (fun _ => rfl) ?_
          refine xL_cell_mono h (fun r21 s20 h => ?_)
          refine r_aload_n C 1 dL_make_90 rfl ?_
          refine r_bipush C dL_make_91 (by decide) ?_
          refine r_callS (As := [.ref (ad 1000), vI (26 : Int)]) (n := 2) C dL_make_93 (xL_cell_ct κ.1.2.1 ad cA D (26 : Int) s20) gL_make_L_cell rfl ⟨rfl, rfl⟩ (by decide +kernel) (by decide) rfl rfl (Nat.le_of_ble_eq_true rfl) (fun _ => rfl) ?_
          refine xL_cell_mono h (fun r23 s22 h => ?_)
          refine r_iconst C dL_make_96 ?_
          refine r_callS (As := [vI r23, vI (2 : Int)]) (n := 2) C dL_make_97 (xL_low_ct κ.1.2.1 ad cA D r23 (2 : Int) s22) gL_make_L_low rfl ⟨rfl, rfl⟩ (by decide +kernel) (by decide) rfl rfl (Nat.le_of_ble_eq_true rfl) (fun _ => rfl) ?_
          refine xL_low_mono h (fun r25 s24 h => ?_)
          refine r_if_ne (tgt := 109) C dL_make_100 (by decide) ⟨h.1, fun c26 => ?_, fun c26 => ?_⟩
          · have h := h.2.1 c26
            refine r_bipush C dL_make_109 (by decide) ?_
            exact r_perm [0, 1, 2, 3] rfl ((z111 _ _ _ _ _ _ _).1 h)
          · have h := h.2.2 c26
            refine r_sipush C dL_make_103 (by decide) ?_
            refine r_goto (tgt := 111) C dL_make_106 (by decide) ?_
            exact r_perm [0, 1, 2, 3] rfl ((z111 _ _ _ _ _ _ _).1 h)
  · intro x2 x3 t0 t1 t2 t3 s h
    refine (z111 _ _ _ _ _ _ _).2 ?_
    refine r_callS (As := [vI t1, vI t0]) (n := 2) C dL_make_111 (xL_low_ct κ.1.2.1 ad cA D t1 t0 s) gL_make_L_low rfl ⟨rfl, rfl⟩ (by decide +kernel) (by decide) rfl rfl (Nat.le_of_ble_eq_true rfl) (fun _ => rfl) ?_
    refine xL_low_mono h (fun r31 s30 h => ?_)
    refine r_callV (As := [vI t3, vI t2, vI r31]) (o := 0) (n := 3) C dL_make_114 (x7_set_ct κ.1.2.1 ad cA D t3 t2 r31 s30) gL_make_X7_set rfl ⟨rfl, rfl⟩ (by decide +kernel) (by decide) (shA_0) rfl rfl rfl (Nat.le_of_ble_eq_true rfl) (fun _ => rfl) ?_
    refine x7_set_mono h (fun r33 s32 h => ?_)
    refine r_if_ne (tgt := 161) C dL_make_117 (by decide) ⟨h.1, fun c41 => ?_, fun c41 => ?_⟩
    · have h := h.2.1 c41
      refine r_iconst C dL_make_161 ?_
      exact r_zreturn C dL_make_162 h
    · have h := h.2.2 c41
      refine r_aload_n C 0 dL_make_120 rfl ?_
      refine r_iload_n C 3 dL_make_121 rfl ?_
      refine r_iconst C dL_make_122 ?_
      refine r_aload_n C 1 dL_make_123 rfl ?_
      refine r_bipush C dL_make_124 (by decide) ?_
      refine r_iload_n C 3 dL_make_126 rfl ?_
      refine r_iadd C dL_make_127 ?_
      refine r_callS (As := [.ref (ad 1000), vI ((30 : Int) + x3)]) (n := 2) C dL_make_128 (xL_cell_ct κ.1.2.1 ad cA D ((30 : Int) + x3) s32) gL_make_L_cell rfl ⟨rfl, rfl⟩ (by decide +kernel) (by decide) rfl rfl (Nat.le_of_ble_eq_true rfl) (fun _ => rfl) ?_
      refine xL_cell_mono h (fun r35 s34 h => ?_)
      refine r_aload_n C 1 dL_make_131 rfl ?_
      refine r_bipush C dL_make_132 (by decide) ?_
      refine r_callS (As := [.ref (ad 1000), vI (27 : Int)]) (n := 2) C dL_make_134 (xL_cell_ct κ.1.2.1 ad cA D (27 : Int) s34) gL_make_L_cell rfl ⟨rfl, rfl⟩ (by decide +kernel) (by decide) rfl rfl (Nat.le_of_ble_eq_true rfl) (fun _ => rfl) ?_
      refine xL_cell_mono h (fun r37 s36 h => ?_)
      refine r_iconst C dL_make_137 ?_
      refine r_callS (As := [vI r37, vI (2 : Int)]) (n := 2) C dL_make_138 (xL_low_ct κ.1.2.1 ad cA D r37 (2 : Int) s36) gL_make_L_low rfl ⟨rfl, rfl⟩ (by decide +kernel) (by decide) rfl rfl (Nat.le_of_ble_eq_true rfl) (fun _ => rfl) ?_
      refine xL_low_mono h (fun r39 s38 h => ?_)
      refine r_if_ne (tgt := 150) C dL_make_141 (by decide) ⟨h.1, fun c40 => ?_, fun c40 => ?_⟩
      · have h := h.2.1 c40
        refine r_bipush C dL_make_150 (by decide) ?_
        exact r_perm [0, 1, 2, 3] rfl ((z152 _ _ _ _ _ _ _).1 h)
      · have h := h.2.2 c40
        refine r_sipush C dL_make_144 (by decide) ?_
        refine r_goto (tgt := 152) C dL_make_147 (by decide) ?_
        exact r_perm [0, 1, 2, 3] rfl ((z152 _ _ _ _ _ _ _).1 h)
  · intro x2 x3 t0 t1 t2 t3 s h
    refine (z152 _ _ _ _ _ _ _).2 ?_
    refine r_callS (As := [vI t1, vI t0]) (n := 2) C dL_make_152 (xL_low_ct κ.1.2.1 ad cA D t1 t0 s) gL_make_L_low rfl ⟨rfl, rfl⟩ (by decide +kernel) (by decide) rfl rfl (Nat.le_of_ble_eq_true rfl) (fun _ => rfl) ?_
    refine xL_low_mono h (fun r43 s42 h => ?_)
    refine r_callV (As := [vI t3, vI t2, vI r43]) (o := 0) (n := 3) C dL_make_155 (x7_set_ct κ.1.2.1 ad cA D t3 t2 r43 s42) gL_make_X7_set rfl ⟨rfl, rfl⟩ (by decide +kernel) (by decide) (shA_0) rfl rfl rfl (Nat.le_of_ble_eq_true rfl) (fun _ => rfl) ?_
    refine x7_set_mono h (fun r45 s44 h => ?_)
    refine r_if_eq (tgt := 163) C dL_make_158 (by decide) ⟨h.1, fun c55 => ?_, fun c55 => ?_⟩
    · have h := h.2.1 c55
      refine r_iload_n C 3 dL_make_163 rfl ?_
      refine r_if_le (tgt := 193) C dL_make_164 (by decide) ⟨h.1, fun c54 => ?_, fun c54 => ?_⟩
      · have h := h.2.1 c54
        refine r_iinc (j := 3) (ls' := [(3, vI (x3 + (1 : Int))), (0, .ref (ad 0)), (1, .ref (ad 1000)), (2, vI x2)]) C dL_make_193 rfl (by decide) rfl ?_
        refine r_goto (tgt := 25) C dL_make_196 (by decide) ?_
        exact r_perm [1, 2, 3, 0] rfl ((z25 _ _ _).1 h)
      · have h := h.2.2 c54
        refine r_aload_n C 1 dL_make_167 rfl ?_
        refine r_bipush C dL_make_168 (by decide) ?_
        refine r_iload_n C 3 dL_make_170 rfl ?_
        refine r_iadd C dL_make_171 ?_
        refine r_callS (As := [.ref (ad 1000), vI ((40 : Int) + x3)]) (n := 2) C dL_make_172 (xL_cell_ct κ.1.2.1 ad cA D ((40 : Int) + x3) s44) gL_make_L_cell rfl ⟨rfl, rfl⟩ (by decide +kernel) (by decide) rfl rfl (Nat.le_of_ble_eq_true rfl) (fun _ => rfl) ?_
        refine xL_cell_mono h (fun r47 s46 h => ?_)
        refine r_iconst C dL_make_175 ?_
        refine r_callS (As := [vI r47, vI (5 : Int)]) (n := 2) C dL_make_176 (xL_low_ct κ.1.2.1 ad cA D r47 (5 : Int) s46) gL_make_L_low rfl ⟨rfl, rfl⟩ (by decide +kernel) (by decide) rfl rfl (Nat.le_of_ble_eq_true rfl) (fun _ => rfl) ?_
        refine xL_low_mono h (fun r49 s48 h => ?_)
        refine r_if_ne (tgt := 193) C dL_make_179 (by decide) ⟨h.1, fun c53 => ?_, fun c53 => ?_⟩
        · have h := h.2.1 c53
          refine r_iinc (j := 3) (ls' := [(3, vI (x3 + (1 : Int))), (0, .ref (ad 0)), (1, .ref (ad 1000)), (2, vI x2)]) C dL_make_193 rfl (by decide) rfl ?_
          refine r_goto (tgt := 25) C dL_make_196 (by decide) ?_
          exact r_perm [1, 2, 3, 0] rfl ((z25 _ _ _).1 h)
        · have h := h.2.2 c53
          refine r_aload_n C 0 dL_make_182 rfl ?_
          refine r_iload_n C 3 dL_make_183 rfl ?_
          refine r_iconst C dL_make_184 ?_
          refine r_callV (As := [vI x3, vI (1 : Int)]) (o := 0) (n := 2) C dL_make_185 (x7_broken_ct κ.1.2.1 ad cA D x3 (1 : Int) s48) gL_make_X7_broken rfl ⟨rfl, rfl⟩ (by decide +kernel) (by decide) (shA_0) rfl rfl rfl (Nat.le_of_ble_eq_true rfl) (fun _ => rfl) ?_
          refine x7_broken_mono h (fun r51 s50 h => ?_)
          refine r_if_eq (tgt := 193) C dL_make_188 (by decide) ⟨h.1, fun c52 => ?_, fun c52 => ?_⟩
          · have h := h.2.1 c52
            refine r_iinc (j := 3) (ls' := [(3, vI (x3 + (1 : Int))), (0, .ref (ad 0)), (1, .ref (ad 1000)), (2, vI x2)]) C dL_make_193 rfl (by decide) rfl ?_
            refine r_goto (tgt := 25) C dL_make_196 (by decide) ?_
            exact r_perm [1, 2, 3, 0] rfl ((z25 _ _ _).1 h)
          · have h := h.2.2 c52
            refine r_iconst C dL_make_191 ?_
            exact r_zreturn C dL_make_192 h
    · have h := h.2.2 c55
      refine r_iconst C dL_make_161 ?_
      exact r_zreturn C dL_make_162 h
theorem xL_make_ct (l : Launch) (ad : Nat → Nat) (cA : Nat → ClassId) (D : va_G) (p2 : Int) (s : Mem) : MG l yL_make wsL_make xL_make_rm ocI [.ref (ad 0), .ref (ad 1000), vI p2] (GA ad cA D) s (xL_make ad p2 s) :=
  m_met (own := RL) (nL := 4) (by decide) rfl rfl (Nat.le_of_ble_eq_true rfl) rfl rfl rfl (fun κ hl C Q Pst hW hQ => xL_make_bd C (xL_make_mono hW hQ))
