def x8_weighed_be (X9 : Int → Int → Int → Int → Int → Mem → Prop) (X110 : Int → Int → Int → Int → Int → Mem → Prop) (Q : Int → Mem → Prop) (p1 : Int) (p2 : Int) (p3 : Int) (s : Mem) : Prop :=
  X9 p2 p3 (1 : Int) p1 (0 : Int) s
def x8_weighed_b9 (X9 : Int → Int → Int → Int → Int → Mem → Prop) (X110 : Int → Int → Int → Int → Int → Mem → Prop) (Q : Int → Mem → Prop) (x2 : Int) (x3 : Int) (x4 : Int) (x6 : Int) (x7 : Int) (s : Mem) : Prop :=
  (InI x7 ∧ InI (s 0 (0 : Int))) ∧ ((s 0 (0 : Int)) ≤ x7 → (InL x4 ∧ InL (0 : Int)) ∧ (¬ x4 = (0 : Int) → x8_findLifts s (fun _ s1 => X110 x2 x3 x4 (1 : Int) (0 : Int) s1)) ∧ (x4 = (0 : Int) → Q (0 : Int) s)) ∧ (x7 < (s 0 (0 : Int)) → ((0 : Int) ≤ x7 ∧ x7 < 6) ∧ InI (s 5 x7) ∧ (¬ (s 5 x7) = (0 : Int) → X9 x2 x3 x4 x6 (x7 + (1 : Int)) s) ∧ ((s 5 x7) = (0 : Int) → (InI x6 ∧ InI (3 : Int) ∧ ¬ (3 : Int) = 0) ∧ (InI x6 ∧ InI (3 : Int) ∧ ¬ (3 : Int) = 0) ∧ ((0 : Int) ≤ (Int.tmod x6 (3 : Int)) ∧ (Int.tmod x6 (3 : Int)) < 3) ∧ (InI (s 8 (Int.tmod x6 (3 : Int)))) ∧ ∀ v3 : Int, v3 = (x4 * (s 8 (Int.tmod x6 (3 : Int)))) → ((0 : Int) ≤ x7 ∧ x7 < 6) ∧ ∀ v4 : Int, v4 = (((s 16 x7) + (Int.tmod x6 (3 : Int))) - (1 : Int)) → InI v4 ∧ ((0 : Int) ≤ v4 → ((0 : Int) ≤ x7 ∧ x7 < 6) ∧ ∀ s5 : Mem, s5 = m_upd s 3 x7 v4 → X9 x2 x3 v3 (Int.tdiv x6 (3 : Int)) (x7 + (1 : Int)) s5) ∧ (v4 < (0 : Int) → ((0 : Int) ≤ x7 ∧ x7 < 6) ∧ ∀ s6 : Mem, s6 = m_upd s 3 x7 (0 : Int) → X9 x2 x3 v3 (Int.tdiv x6 (3 : Int)) (x7 + (1 : Int)) s6)))
def x8_weighed_b110 (X9 : Int → Int → Int → Int → Int → Mem → Prop) (X110 : Int → Int → Int → Int → Int → Mem → Prop) (Q : Int → Mem → Prop) (x2 : Int) (x3 : Int) (x4 : Int) (x7 : Int) (x8 : Int) (s : Mem) : Prop :=
  (InI x8 ∧ InI (s 0 (0 : Int))) ∧ ((s 0 (0 : Int)) ≤ x8 → InI x7 ∧ (x7 = (0 : Int) → Q (0 : Int) s) ∧ (¬ x7 = (0 : Int) → Q x4 s)) ∧ (x8 < (s 0 (0 : Int)) → InI x7 ∧ (x7 = (0 : Int) → X110 x2 x3 x4 (0 : Int) (x8 + (1 : Int)) s) ∧ (¬ x7 = (0 : Int) → ((0 : Int) ≤ x8 ∧ x8 < 6) ∧ InI (s 5 x8) ∧ (¬ (s 5 x8) = (0 : Int) → X110 x2 x3 x4 (1 : Int) (x8 + (1 : Int)) s) ∧ ((s 5 x8) = (0 : Int) → x8_isWithin x8 x2 x3 s (fun r12 s11 => InI r12 ∧ (r12 = (0 : Int) → X110 x2 x3 x4 (0 : Int) (x8 + (1 : Int)) s11) ∧ (¬ r12 = (0 : Int) → X110 x2 x3 x4 (1 : Int) (x8 + (1 : Int)) s11)))))
theorem x8_weighed_me {X9 Y9 : Int → Int → Int → Int → Int → Mem → Prop} {X110 Y110 : Int → Int → Int → Int → Int → Mem → Prop} {Q R : Int → Mem → Prop} (hX9 : ∀ x2 x3 x4 x6 x7 s, X9 x2 x3 x4 x6 x7 s → Y9 x2 x3 x4 x6 x7 s) (hX110 : ∀ x2 x3 x4 x7 x8 s, X110 x2 x3 x4 x7 x8 s → Y110 x2 x3 x4 x7 x8 s) (hQ : ∀ r s, Q r s → R r s) {p1 : Int} {p2 : Int} {p3 : Int} {s : Mem} (h : x8_weighed_be X9 X110 Q p1 p2 p3 s) : x8_weighed_be Y9 Y110 R p1 p2 p3 s :=
  hX9 _ _ _ _ _ _ h
theorem x8_weighed_m9 {X9 Y9 : Int → Int → Int → Int → Int → Mem → Prop} {X110 Y110 : Int → Int → Int → Int → Int → Mem → Prop} {Q R : Int → Mem → Prop} (hX9 : ∀ x2 x3 x4 x6 x7 s, X9 x2 x3 x4 x6 x7 s → Y9 x2 x3 x4 x6 x7 s) (hX110 : ∀ x2 x3 x4 x7 x8 s, X110 x2 x3 x4 x7 x8 s → Y110 x2 x3 x4 x7 x8 s) (hQ : ∀ r s, Q r s → R r s) {x2 : Int} {x3 : Int} {x4 : Int} {x6 : Int} {x7 : Int} {s : Mem} (h : x8_weighed_b9 X9 X110 Q x2 x3 x4 x6 x7 s) : x8_weighed_b9 Y9 Y110 R x2 x3 x4 x6 x7 s :=
  ⟨h.1, fun c => have h := h.2.1 c; ⟨h.1, fun c => have h := h.2.1 c; x8_findLifts_mono h (fun _ s1 h => hX110 _ _ _ _ _ _ h), fun c => have h := h.2.2 c; hQ _ _ h⟩, fun c => have h := h.2.2 c; ⟨h.1, have h := h.2; ⟨h.1, fun c => have h := h.2.1 c; hX9 _ _ _ _ _ _ h, fun c => have h := h.2.2 c; ⟨h.1, have h := h.2; ⟨h.1, have h := h.2; ⟨h.1, have h := h.2; ⟨h.1, have h := h.2; fun v3 e_v3 => have h := h v3 e_v3; ⟨h.1, have h := h.2; fun v4 e_v4 => have h := h v4 e_v4; ⟨h.1, fun c => have h := h.2.1 c; ⟨h.1, have h := h.2; fun s5 e_s5 => have h := h s5 e_s5; hX9 _ _ _ _ _ _ h⟩, fun c => have h := h.2.2 c; ⟨h.1, have h := h.2; fun s6 e_s6 => have h := h s6 e_s6; hX9 _ _ _ _ _ _ h⟩⟩⟩⟩⟩⟩⟩⟩⟩⟩
theorem x8_weighed_m110 {X9 Y9 : Int → Int → Int → Int → Int → Mem → Prop} {X110 Y110 : Int → Int → Int → Int → Int → Mem → Prop} {Q R : Int → Mem → Prop} (hX9 : ∀ x2 x3 x4 x6 x7 s, X9 x2 x3 x4 x6 x7 s → Y9 x2 x3 x4 x6 x7 s) (hX110 : ∀ x2 x3 x4 x7 x8 s, X110 x2 x3 x4 x7 x8 s → Y110 x2 x3 x4 x7 x8 s) (hQ : ∀ r s, Q r s → R r s) {x2 : Int} {x3 : Int} {x4 : Int} {x7 : Int} {x8 : Int} {s : Mem} (h : x8_weighed_b110 X9 X110 Q x2 x3 x4 x7 x8 s) : x8_weighed_b110 Y9 Y110 R x2 x3 x4 x7 x8 s :=
  ⟨h.1, fun c => have h := h.2.1 c; ⟨h.1, fun c => have h := h.2.1 c; hQ _ _ h, fun c => have h := h.2.2 c; hQ _ _ h⟩, fun c => have h := h.2.2 c; ⟨h.1, fun c => have h := h.2.1 c; hX110 _ _ _ _ _ _ h, fun c => have h := h.2.2 c; ⟨h.1, have h := h.2; ⟨h.1, fun c => have h := h.2.1 c; hX110 _ _ _ _ _ _ h, fun c => have h := h.2.2 c; x8_isWithin_mono h (fun r12 s11 h => ⟨h.1, fun c => have h := h.2.1 c; hX110 _ _ _ _ _ _ h, fun c => have h := h.2.2 c; hX110 _ _ _ _ _ _ h⟩)⟩⟩⟩⟩
def x8_weighed (p1 : Int) (p2 : Int) (p3 : Int) (s : Mem) (Q : Int → Mem → Prop) : Prop := ∀ (X9 : Int → Int → Int → Int → Int → Mem → Prop) (X110 : Int → Int → Int → Int → Int → Mem → Prop), (∀ x2 x3 x4 x6 x7 s, x8_weighed_b9 X9 X110 Q x2 x3 x4 x6 x7 s → X9 x2 x3 x4 x6 x7 s) → (∀ x2 x3 x4 x7 x8 s, x8_weighed_b110 X9 X110 Q x2 x3 x4 x7 x8 s → X110 x2 x3 x4 x7 x8 s) → x8_weighed_be X9 X110 Q p1 p2 p3 s
def x8_weighed_L9 (Q : Int → Mem → Prop) (x2 : Int) (x3 : Int) (x4 : Int) (x6 : Int) (x7 : Int) (s : Mem) : Prop := ∀ (X9 : Int → Int → Int → Int → Int → Mem → Prop) (X110 : Int → Int → Int → Int → Int → Mem → Prop), (∀ x2 x3 x4 x6 x7 s, x8_weighed_b9 X9 X110 Q x2 x3 x4 x6 x7 s → X9 x2 x3 x4 x6 x7 s) → (∀ x2 x3 x4 x7 x8 s, x8_weighed_b110 X9 X110 Q x2 x3 x4 x7 x8 s → X110 x2 x3 x4 x7 x8 s) → X9 x2 x3 x4 x6 x7 s
def x8_weighed_L110 (Q : Int → Mem → Prop) (x2 : Int) (x3 : Int) (x4 : Int) (x7 : Int) (x8 : Int) (s : Mem) : Prop := ∀ (X9 : Int → Int → Int → Int → Int → Mem → Prop) (X110 : Int → Int → Int → Int → Int → Mem → Prop), (∀ x2 x3 x4 x6 x7 s, x8_weighed_b9 X9 X110 Q x2 x3 x4 x6 x7 s → X9 x2 x3 x4 x6 x7 s) → (∀ x2 x3 x4 x7 x8 s, x8_weighed_b110 X9 X110 Q x2 x3 x4 x7 x8 s → X110 x2 x3 x4 x7 x8 s) → X110 x2 x3 x4 x7 x8 s
theorem x8_weighed_i {Q : Int → Mem → Prop} {p1 : Int} {p2 : Int} {p3 : Int} {s : Mem} (h : x8_weighed_be (x8_weighed_L9 Q) (x8_weighed_L110 Q) Q p1 p2 p3 s) : x8_weighed p1 p2 p3 s Q := fun X9 X110 k9 k110 => x8_weighed_me (fun _ _ _ _ _ _ h => h X9 X110 k9 k110) (fun _ _ _ _ _ _ h => h X9 X110 k9 k110) (fun _ _ h => h) h
theorem x8_weighed_s9 {Q : Int → Mem → Prop} {x2 : Int} {x3 : Int} {x4 : Int} {x6 : Int} {x7 : Int} {s : Mem} (h : x8_weighed_b9 (x8_weighed_L9 Q) (x8_weighed_L110 Q) Q x2 x3 x4 x6 x7 s) : x8_weighed_L9 Q x2 x3 x4 x6 x7 s := fun X9 X110 k9 k110 => k9 _ _ _ _ _ _ (x8_weighed_m9 (fun _ _ _ _ _ _ h => h X9 X110 k9 k110) (fun _ _ _ _ _ _ h => h X9 X110 k9 k110) (fun _ _ h => h) h)
theorem x8_weighed_s110 {Q : Int → Mem → Prop} {x2 : Int} {x3 : Int} {x4 : Int} {x7 : Int} {x8 : Int} {s : Mem} (h : x8_weighed_b110 (x8_weighed_L9 Q) (x8_weighed_L110 Q) Q x2 x3 x4 x7 x8 s) : x8_weighed_L110 Q x2 x3 x4 x7 x8 s := fun X9 X110 k9 k110 => k110 _ _ _ _ _ _ (x8_weighed_m110 (fun _ _ _ _ _ _ h => h X9 X110 k9 k110) (fun _ _ _ _ _ _ h => h X9 X110 k9 k110) (fun _ _ h => h) h)
theorem x8_weighed_mono {Q R : Int → Mem → Prop} {p1 : Int} {p2 : Int} {p3 : Int} {s : Mem} (h : x8_weighed p1 p2 p3 s Q) (hQ : ∀ r s, Q r s → R r s) : x8_weighed p1 p2 p3 s R := fun X9 X110 k9 k110 => x8_weighed_me (fun _ _ _ _ _ _ h => h) (fun _ _ _ _ _ _ h => h) hQ (h X9 X110 (fun _ _ _ _ _ _ h => k9 _ _ _ _ _ _ (x8_weighed_m9 (fun _ _ _ _ _ _ h => h) (fun _ _ _ _ _ _ h => h) hQ h)) (fun _ _ _ _ _ _ h => k110 _ _ _ _ _ _ (x8_weighed_m110 (fun _ _ _ _ _ _ h => h) (fun _ _ _ _ _ _ h => h) hQ h)))
def x8_weighed_rm : Room := { frames := 3, cells := 0, slots := 0, locals := 72 }
theorem w_x8_weighed_86 : Cond.fieldLink RX8 86 "BoltRingModel" "n" "I" ∈ wsX8_weighed := by decide +kernel
theorem w_x8_weighed_22 : Cond.fieldLink RX8 22 "BoltRingModel" "isBroken" "[Z" ∈ wsX8_weighed := by decide +kernel
theorem w_x8_weighed_32 : Cond.fieldLink RX8 32 "BoltRingModel" "weight" "[I" ∈ wsX8_weighed := by decide +kernel
theorem w_x8_weighed_57 : Cond.fieldLink RX8 57 "BoltRingModel" "kept" "[I" ∈ wsX8_weighed := by decide +kernel
theorem w_x8_weighed_16 : Cond.fieldLink RX8 16 "BoltRingModel" "turns" "[I" ∈ wsX8_weighed := by decide +kernel
theorem in_x8_weighed_X8 : ∀ w ∈ wsX80, w ∈ wsX8_weighed := by decide +kernel
set_option maxHeartbeats 4000000 in
set_option maxRecDepth 100000 in
theorem x8_weighed_bd {κ : KT} {ad : Nat → Nat} {cA : Nat → ClassId} {D : va_G} {Q : State → Prop} {p1 : Int} {p2 : Int} {p3 : Int} {s : Mem} (C : CX κ (GB ad cA D) RX8 cX8_weighed 10 wsX8_weighed x8_weighed_rm (some .long)) (h : x8_weighed p1 p2 p3 s (RT κ (GB ad cA D) ocL Q)) : WM κ (GB ad cA D) 10 Q s 0 [(0, .ref (ad 0)), (1, vI p1), (2, vI p2), (3, vI p3)] [] := by
  obtain ⟨Z9, z9⟩ : ∃ Z : Int → Int → Int → Int → Int → Mem → Prop, ∀ x2 x3 x4 x6 x7 s, Z x2 x3 x4 x6 x7 s ↔ WM κ (GB ad cA D) 10 Q s 9 [(0, .ref (ad 0)), (2, vI x2), (3, vI x3), (4, vL x4), (6, vI x6), (7, vI x7)] [] := ⟨fun x2 x3 x4 x6 x7 s => WM κ (GB ad cA D) 10 Q s 9 [(0, .ref (ad 0)), (2, vI x2), (3, vI x3), (4, vL x4), (6, vI x6), (7, vI x7)] [], fun _ _ _ _ _ _ => Iff.rfl⟩
  obtain ⟨Z110, z110⟩ : ∃ Z : Int → Int → Int → Int → Int → Mem → Prop, ∀ x2 x3 x4 x7 x8 s, Z x2 x3 x4 x7 x8 s ↔ WM κ (GB ad cA D) 10 Q s 110 [(0, .ref (ad 0)), (2, vI x2), (3, vI x3), (4, vL x4), (7, vI x7), (8, vI x8)] [] := ⟨fun x2 x3 x4 x7 x8 s => WM κ (GB ad cA D) 10 Q s 110 [(0, .ref (ad 0)), (2, vI x2), (3, vI x3), (4, vL x4), (7, vI x7), (8, vI x8)] [], fun _ _ _ _ _ _ => Iff.rfl⟩
  refine (fun h => ?_) (h Z9 Z110 ?_ ?_)
  · refine r_lconst (z := 1) C dX8_weighed_0 rfl ?_
    refine r_lstore (ls' := [(4, vL (1 : Int)), (0, .ref (ad 0)), (1, vI p1), (2, vI p2), (3, vI p3)]) C dX8_weighed_1 (by decide) rfl ?_
    refine r_iload_n C 2 dX8_weighed_3 rfl ?_
    refine r_istore (ls' := [(6, vI p1), (4, vL (1 : Int)), (0, .ref (ad 0)), (1, vI p1), (2, vI p2), (3, vI p3)]) C dX8_weighed_4 (by decide) rfl ?_
    refine r_iconst C dX8_weighed_6 ?_
    refine r_istore (ls' := [(7, vI (0 : Int)), (6, vI p1), (4, vL (1 : Int)), (0, .ref (ad 0)), (1, vI p1), (2, vI p2), (3, vI p3)]) C dX8_weighed_7 (by decide) rfl ?_
    exact r_perm [3, 5, 6, 2, 1, 0] rfl ((z9 _ _ _ _ _ _).1 h)
  · intro x2 x3 x4 x6 x7 s h
    refine (z9 _ _ _ _ _ _).2 ?_
    refine r_iload C 5 dX8_weighed_9 rfl ?_
    refine r_aload_n C 0 dX8_weighed_11 rfl ?_
    refine r_get (j := 0) (jz := 0) (v := vI (s 0 (0 : Int))) C dX8_weighed_12 (shB_0) rfl rfl (by decide) in_x8_weighed_X8 w_x8_weighed_86 rfl rfl rfl ?_
    refine r_icmp_ge (tgt := 91) C dX8_weighed_15 (by decide) ⟨h.1, fun c9 => ?_, fun c9 => ?_⟩
    · have h := h.2.1 c9
      refine r_lload C 3 dX8_weighed_91 rfl ?_
      refine r_lconst (z := 0) C dX8_weighed_93 rfl ?_
      refine r_lcmp_ne (tgt := 100) C dX8_weighed_94 dX8_weighed_95 (by decide) ⟨h.1, fun c2 => ?_, fun c2 => ?_⟩
      · have h := h.2.1 c2
        refine r_aload_n C 0 dX8_weighed_100 rfl ?_
        refine r_callV (As := []) (o := 0) (n := 0) C dX8_weighed_101 (x8_findLifts_ct κ.1.2.1 ad cA D s) gX8_weighed_X8_findLifts rfl ⟨rfl, rfl⟩ (by decide +kernel) (by decide) (shB_0) rfl rfl rfl (Nat.le_of_ble_eq_true rfl) (fun _ => rfl) ?_
        refine x8_findLifts_mono h (fun _ s1 h => ?_)
        refine r_iconst C dX8_weighed_104 ?_
        refine r_istore (ls' := [(7, vI (1 : Int)), (0, .ref (ad 0)), (2, vI x2), (3, vI x3), (4, vL x4), (6, vI x6)]) C dX8_weighed_105 (by decide) rfl ?_
        refine r_iconst C dX8_weighed_107 ?_
        refine r_istore (ls' := [(8, vI (0 : Int)), (7, vI (1 : Int)), (0, .ref (ad 0)), (2, vI x2), (3, vI x3), (4, vL x4), (6, vI x6)]) C dX8_weighed_108 (by decide) rfl ?_
        exact r_perm [2, 3, 4, 5, 1, 0] rfl ((z110 _ _ _ _ _ _).1 h)
      · have h := h.2.2 c2
        refine r_lconst (z := 0) C dX8_weighed_98 rfl ?_
        exact r_lreturn C dX8_weighed_99 h
    · have h := h.2.2 c9
      refine r_aload_n C 0 dX8_weighed_18 rfl ?_
      refine r_get (j := 6) (jz := 6) (v := .ref (ad 5)) C dX8_weighed_19 (shB_0) rfl rfl (by decide) in_x8_weighed_X8 w_x8_weighed_22 rfl rfl rfl ?_
      refine r_iload C 5 dX8_weighed_22 rfl ?_
      refine r_zald (nz := 6) C dX8_weighed_24 (shB_5) rfl (by decide) ⟨h.1, ?_⟩
      have h := h.2
      refine r_if_ne (tgt := 85) C dX8_weighed_25 (by decide) ⟨h.1, fun c8 => ?_, fun c8 => ?_⟩
      · have h := h.2.1 c8
        refine r_iinc (j := 5) (ls' := [(7, vI (x7 + (1 : Int))), (0, .ref (ad 0)), (2, vI x2), (3, vI x3), (4, vL x4), (6, vI x6)]) C dX8_weighed_85 rfl (by decide) rfl ?_
        refine r_goto (tgt := 9) C dX8_weighed_88 (by decide) ?_
        exact r_perm [1, 2, 3, 4, 5, 0] rfl ((z9 _ _ _ _ _ _).1 h)
      · have h := h.2.2 c8
        refine r_iload C 4 dX8_weighed_28 rfl ?_
        refine r_iconst C dX8_weighed_30 ?_
        refine r_irem C dX8_weighed_31 ⟨h.1, ?_⟩
        have h := h.2
        refine r_istore (ls' := [(8, vI (Int.tmod x6 (3 : Int))), (0, .ref (ad 0)), (2, vI x2), (3, vI x3), (4, vL x4), (6, vI x6), (7, vI x7)]) C dX8_weighed_32 (by decide) rfl ?_
        refine r_iload C 5 dX8_weighed_34 rfl ?_
        refine r_iconst C dX8_weighed_36 ?_
        refine r_idiv C dX8_weighed_37 ⟨h.1, ?_⟩
        have h := h.2
        refine r_istore (ls' := [(6, vI (Int.tdiv x6 (3 : Int))), (8, vI (Int.tmod x6 (3 : Int))), (0, .ref (ad 0)), (2, vI x2), (3, vI x3), (4, vL x4), (7, vI x7)]) C dX8_weighed_38 (by decide) rfl ?_
        refine r_lload C 5 dX8_weighed_40 rfl ?_
        refine r_aload_n C 2 dX8_weighed_42 rfl ?_
        refine r_get (j := 10) (jz := 10) (v := .ref (ad 8)) C dX8_weighed_43 (shB_0) rfl rfl (by decide) in_x8_weighed_X8 w_x8_weighed_32 rfl rfl rfl ?_
        refine r_iload C 1 dX8_weighed_46 rfl ?_
        refine r_iald (nz := 3) C dX8_weighed_48 (shB_8) rfl (by decide) ⟨h.1, ?_⟩
        have h := h.2
        refine r_i2l C dX8_weighed_49 ⟨h.1, ?_⟩
        have h := h.2
        refine r_lmul C dX8_weighed_50 ?_
        refine r_topL (fun v3 e_v3 => ?_)
        have h := h v3 e_v3
        refine r_lstore (ls' := [(4, vL v3), (6, vI (Int.tdiv x6 (3 : Int))), (8, vI (Int.tmod x6 (3 : Int))), (0, .ref (ad 0)), (2, vI x2), (3, vI x3), (7, vI x7)]) C dX8_weighed_51 (by decide) rfl ?_
        refine r_aload_n C 3 dX8_weighed_53 rfl ?_
        refine r_get (j := 20) (jz := 20) (v := .ref (ad 16)) C dX8_weighed_54 (shB_0) rfl rfl (by decide) in_x8_weighed_X8 w_x8_weighed_57 rfl rfl rfl ?_
        refine r_iload C 6 dX8_weighed_57 rfl ?_
        refine r_iald (nz := 6) C dX8_weighed_59 (shB_16) rfl (by decide) ⟨h.1, ?_⟩
        have h := h.2
        refine r_iload C 2 dX8_weighed_60 rfl ?_
        refine r_iadd C dX8_weighed_62 ?_
        refine r_iconst C dX8_weighed_63 ?_
        refine r_isub C dX8_weighed_64 ?_
        refine r_topI (fun v4 e_v4 => ?_)
        have h := h v4 e_v4
        refine r_istore (ls' := [(9, vI v4), (4, vL v3), (6, vI (Int.tdiv x6 (3 : Int))), (8, vI (Int.tmod x6 (3 : Int))), (0, .ref (ad 0)), (2, vI x2), (3, vI x3), (7, vI x7)]) C dX8_weighed_65 (by decide) rfl ?_
        refine r_aload_n C 4 dX8_weighed_67 rfl ?_
        refine r_get (j := 4) (jz := 4) (v := .ref (ad 3)) C dX8_weighed_68 (shB_0) rfl rfl (by decide) in_x8_weighed_X8 w_x8_weighed_16 rfl rfl rfl ?_
        refine r_iload C 7 dX8_weighed_71 rfl ?_
        refine r_iload C 0 dX8_weighed_73 rfl ?_
        refine r_if_ge (tgt := 82) C dX8_weighed_75 (by decide) ⟨h.1, fun c7 => ?_, fun c7 => ?_⟩
        · have h := h.2.1 c7
          refine r_iload C 0 dX8_weighed_82 rfl ?_
          refine r_iast (nz := 6) C dX8_weighed_84 (shB_3) rfl (by decide) ⟨h.1, fun s5 e_s5 => ?_⟩
          have h := h.2 s5 e_s5
          refine r_iinc (j := 7) (ls' := [(7, vI (x7 + (1 : Int))), (9, vI v4), (4, vL v3), (6, vI (Int.tdiv x6 (3 : Int))), (8, vI (Int.tmod x6 (3 : Int))), (0, .ref (ad 0)), (2, vI x2), (3, vI x3)]) C dX8_weighed_85 rfl (by decide) rfl ?_
          refine r_goto (tgt := 9) C dX8_weighed_88 (by decide) ?_
          exact r_perm [5, 6, 7, 2, 3, 0] rfl ((z9 _ _ _ _ _ _).1 h)
        · have h := h.2.2 c7
          refine r_iconst C dX8_weighed_78 ?_
          refine r_goto (tgt := 84) C dX8_weighed_79 (by decide) ?_
          refine r_iast (nz := 6) C dX8_weighed_84 (shB_3) rfl (by decide) ⟨h.1, fun s6 e_s6 => ?_⟩
          have h := h.2 s6 e_s6
          refine r_iinc (j := 7) (ls' := [(7, vI (x7 + (1 : Int))), (9, vI v4), (4, vL v3), (6, vI (Int.tdiv x6 (3 : Int))), (8, vI (Int.tmod x6 (3 : Int))), (0, .ref (ad 0)), (2, vI x2), (3, vI x3)]) C dX8_weighed_85 rfl (by decide) rfl ?_
          refine r_goto (tgt := 9) C dX8_weighed_88 (by decide) ?_
          exact r_perm [5, 6, 7, 2, 3, 0] rfl ((z9 _ _ _ _ _ _).1 h)
  · intro x2 x3 x4 x7 x8 s h
    refine (z110 _ _ _ _ _ _).2 ?_
    refine r_iload C 5 dX8_weighed_110 rfl ?_
    refine r_aload_n C 0 dX8_weighed_112 rfl ?_
    refine r_get (j := 0) (jz := 0) (v := vI (s 0 (0 : Int))) C dX8_weighed_113 (shB_0) rfl rfl (by decide) in_x8_weighed_X8 w_x8_weighed_86 rfl rfl rfl ?_
    refine r_icmp_ge (tgt := 158) C dX8_weighed_116 (by decide) ⟨h.1, fun c16 => ?_, fun c16 => ?_⟩
    · have h := h.2.1 c16
      refine r_iload C 4 dX8_weighed_158 rfl ?_
      refine r_if_eq (tgt := 168) C dX8_weighed_160 (by decide) ⟨h.1, fun c10 => ?_, fun c10 => ?_⟩
      · have h := h.2.1 c10
        refine r_lconst (z := 0) C dX8_weighed_168 rfl ?_
        exact r_lreturn C dX8_weighed_169 h
      · have h := h.2.2 c10
        refine r_lload C 3 dX8_weighed_163 rfl ?_
        refine r_goto (tgt := 169) C dX8_weighed_165 (by decide) ?_
        exact r_lreturn C dX8_weighed_169 h
    · have h := h.2.2 c16
      refine r_iload C 4 dX8_weighed_119 rfl ?_
      refine r_if_eq (tgt := 149) C dX8_weighed_121 (by decide) ⟨h.1, fun c15 => ?_, fun c15 => ?_⟩
      · have h := h.2.1 c15
        refine r_iconst C dX8_weighed_149 ?_
        refine r_istore (ls' := [(7, vI (0 : Int)), (0, .ref (ad 0)), (2, vI x2), (3, vI x3), (4, vL x4), (8, vI x8)]) C dX8_weighed_150 (by decide) rfl ?_
        refine r_iinc (j := 5) (ls' := [(8, vI (x8 + (1 : Int))), (7, vI (0 : Int)), (0, .ref (ad 0)), (2, vI x2), (3, vI x3), (4, vL x4)]) C dX8_weighed_152 rfl (by decide) rfl ?_
        refine r_goto (tgt := 110) C dX8_weighed_155 (by decide) ?_
        exact r_perm [2, 3, 4, 5, 1, 0] rfl ((z110 _ _ _ _ _ _).1 h)
      · have h := h.2.2 c15
        refine r_aload_n C 0 dX8_weighed_124 rfl ?_
        refine r_get (j := 6) (jz := 6) (v := .ref (ad 5)) C dX8_weighed_125 (shB_0) rfl rfl (by decide) in_x8_weighed_X8 w_x8_weighed_22 rfl rfl rfl ?_
        refine r_iload C 5 dX8_weighed_128 rfl ?_
        refine r_zald (nz := 6) C dX8_weighed_130 (shB_5) rfl (by decide) ⟨h.1, ?_⟩
        have h := h.2
        refine r_if_ne (tgt := 145) C dX8_weighed_131 (by decide) ⟨h.1, fun c14 => ?_, fun c14 => ?_⟩
        · have h := h.2.1 c14
          refine r_iconst C dX8_weighed_145 ?_
          refine r_goto (tgt := 150) C dX8_weighed_146 (by decide) ?_
          refine r_istore (ls' := [(7, vI (1 : Int)), (0, .ref (ad 0)), (2, vI x2), (3, vI x3), (4, vL x4), (8, vI x8)]) C dX8_weighed_150 (by decide) rfl ?_
          refine r_iinc (j := 5) (ls' := [(8, vI (x8 + (1 : Int))), (7, vI (1 : Int)), (0, .ref (ad 0)), (2, vI x2), (3, vI x3), (4, vL x4)]) C dX8_weighed_152 rfl (by decide) rfl ?_
          refine r_goto (tgt := 110) C dX8_weighed_155 (by decide) ?_
          exact r_perm [2, 3, 4, 5, 1, 0] rfl ((z110 _ _ _ _ _ _).1 h)
        · have h := h.2.2 c14
          refine r_aload_n C 0 dX8_weighed_134 rfl ?_
          refine r_iload C 5 dX8_weighed_135 rfl ?_
          refine r_iload_n C 1 dX8_weighed_137 rfl ?_
          refine r_iload_n C 2 dX8_weighed_138 rfl ?_
          refine r_callV (As := [vI x8, vI x2, vI x3]) (o := 0) (n := 3) C dX8_weighed_139 (x8_isWithin_ct κ.1.2.1 ad cA D x8 x2 x3 s) gX8_weighed_X8_isWithin rfl ⟨rfl, rfl⟩ (by decide +kernel) (by decide) (shB_0) rfl rfl rfl (Nat.le_of_ble_eq_true rfl) (fun _ => rfl) ?_
          refine x8_isWithin_mono h (fun r12 s11 h => ?_)
          refine r_if_eq (tgt := 149) C dX8_weighed_142 (by decide) ⟨h.1, fun c13 => ?_, fun c13 => ?_⟩
          · have h := h.2.1 c13
            refine r_iconst C dX8_weighed_149 ?_
            refine r_istore (ls' := [(7, vI (0 : Int)), (0, .ref (ad 0)), (2, vI x2), (3, vI x3), (4, vL x4), (8, vI x8)]) C dX8_weighed_150 (by decide) rfl ?_
            refine r_iinc (j := 5) (ls' := [(8, vI (x8 + (1 : Int))), (7, vI (0 : Int)), (0, .ref (ad 0)), (2, vI x2), (3, vI x3), (4, vL x4)]) C dX8_weighed_152 rfl (by decide) rfl ?_
            refine r_goto (tgt := 110) C dX8_weighed_155 (by decide) ?_
            exact r_perm [2, 3, 4, 5, 1, 0] rfl ((z110 _ _ _ _ _ _).1 h)
          · have h := h.2.2 c13
            refine r_iconst C dX8_weighed_145 ?_
            refine r_goto (tgt := 150) C dX8_weighed_146 (by decide) ?_
            refine r_istore (ls' := [(7, vI (1 : Int)), (0, .ref (ad 0)), (2, vI x2), (3, vI x3), (4, vL x4), (8, vI x8)]) C dX8_weighed_150 (by decide) rfl ?_
            refine r_iinc (j := 5) (ls' := [(8, vI (x8 + (1 : Int))), (7, vI (1 : Int)), (0, .ref (ad 0)), (2, vI x2), (3, vI x3), (4, vL x4)]) C dX8_weighed_152 rfl (by decide) rfl ?_
            refine r_goto (tgt := 110) C dX8_weighed_155 (by decide) ?_
            exact r_perm [2, 3, 4, 5, 1, 0] rfl ((z110 _ _ _ _ _ _).1 h)
theorem x8_weighed_ct (l : Launch) (ad : Nat → Nat) (cA : Nat → ClassId) (D : va_G) (p1 : Int) (p2 : Int) (p3 : Int) (s : Mem) : MG l yX8_weighed wsX8_weighed x8_weighed_rm ocL [.ref (ad 0), vI p1, vI p2, vI p3] (GB ad cA D) s (x8_weighed p1 p2 p3 s) :=
  m_met (own := RX8) (nL := 10) (by decide) rfl rfl (Nat.le_of_ble_eq_true rfl) rfl rfl rfl (fun κ hl C Q Pst hW hQ => x8_weighed_bd C (x8_weighed_mono hW hQ))

def x8_chance_be (X45 : Int → Int → Int → Int → Int → Int → Mem → Prop) (X98 : Int → Int → Int → Int → Int → Int → Int → Mem → Prop) (Q : Int → Mem → Prop) (p1 : Int) (p2 : Int) (p3 : Int) (s : Mem) : Prop :=
  (InI p1) ∧ (InI p2) ∧ x8_in p1 (0 : Int) p2 s (fun r2 s1 => InI r2 ∧ (r2 = (0 : Int) → Q (-100002 : Int) s1) ∧ (¬ r2 = (0 : Int) → (InI p2 ∧ InI (2000 : Int)) ∧ ((2000 : Int) < p2 → Q (-100002 : Int) s1) ∧ (p2 ≤ (2000 : Int) → (InI p3) ∧ x8_in p3 (0 : Int) (1 : Int) s1 (fun r4 s3 => InI r4 ∧ (¬ r4 = (0 : Int) → x8_keep s3 (fun _ s5 => X45 p1 p2 p3 (1 : Int) (1 : Int) (0 : Int) s5)) ∧ (r4 = (0 : Int) → Q (-100002 : Int) s3)))))
def x8_chance_b45 (X45 : Int → Int → Int → Int → Int → Int → Mem → Prop) (X98 : Int → Int → Int → Int → Int → Int → Int → Mem → Prop) (Q : Int → Mem → Prop) (x1 : Int) (x2 : Int) (x3 : Int) (x4 : Int) (x5 : Int) (x7 : Int) (s : Mem) : Prop :=
  x8_whole s (fun r10 s9 => (InI x7 ∧ InI r10) ∧ (r10 ≤ x7 → X98 x1 x2 x3 x4 x5 (0 : Int) (0 : Int) s9) ∧ (x7 < r10 → ((0 : Int) ≤ (0 : Int) ∧ (0 : Int) < 3) ∧ ((0 : Int) ≤ (1 : Int) ∧ (1 : Int) < 3) ∧ ((0 : Int) ≤ (2 : Int) ∧ (2 : Int) < 3) ∧ (InI (((s9 8 (0 : Int)) + (s9 8 (1 : Int))) + (s9 8 (2 : Int)))) ∧ ∀ v11 : Int, v11 = (x5 * (((s9 8 (0 : Int)) + (s9 8 (1 : Int))) + (s9 8 (2 : Int)))) → X45 x1 x2 x3 (x4 * (3 : Int)) v11 (x7 + (1 : Int)) s9))
def x8_chance_b98 (X45 : Int → Int → Int → Int → Int → Int → Mem → Prop) (X98 : Int → Int → Int → Int → Int → Int → Int → Mem → Prop) (Q : Int → Mem → Prop) (x1 : Int) (x2 : Int) (x3 : Int) (x4 : Int) (x5 : Int) (x7 : Int) (x9 : Int) (s : Mem) : Prop :=
  (InI x9 ∧ InI x4) ∧ (x4 ≤ x9 → x8_back s (fun _ s13 => x8_gcd x7 x5 s13 (fun r15 s14 => InI x3 ∧ (¬ x3 = (0 : Int) → (InL x5 ∧ InL r15 ∧ ¬ r15 = 0) ∧ Q (Int.tdiv x5 r15) s14) ∧ (x3 = (0 : Int) → (InL x7 ∧ InL r15 ∧ ¬ r15 = 0) ∧ Q (Int.tdiv x7 r15) s14)))) ∧ (x9 < x4 → x8_weighed x9 x1 x2 s (fun r18 s17 => X98 x1 x2 x3 x4 x5 (x7 + r18) (x9 + (1 : Int)) s17))
theorem x8_chance_me {X45 Y45 : Int → Int → Int → Int → Int → Int → Mem → Prop} {X98 Y98 : Int → Int → Int → Int → Int → Int → Int → Mem → Prop} {Q R : Int → Mem → Prop} (hX45 : ∀ x1 x2 x3 x4 x5 x7 s, X45 x1 x2 x3 x4 x5 x7 s → Y45 x1 x2 x3 x4 x5 x7 s) (hX98 : ∀ x1 x2 x3 x4 x5 x7 x9 s, X98 x1 x2 x3 x4 x5 x7 x9 s → Y98 x1 x2 x3 x4 x5 x7 x9 s) (hQ : ∀ r s, Q r s → R r s) {p1 : Int} {p2 : Int} {p3 : Int} {s : Mem} (h : x8_chance_be X45 X98 Q p1 p2 p3 s) : x8_chance_be Y45 Y98 R p1 p2 p3 s :=
  ⟨h.1, have h := h.2; ⟨h.1, have h := h.2; x8_in_mono h (fun r2 s1 h => ⟨h.1, fun c => have h := h.2.1 c; hQ _ _ h, fun c => have h := h.2.2 c; ⟨h.1, fun c => have h := h.2.1 c; hQ _ _ h, fun c => have h := h.2.2 c; ⟨h.1, have h := h.2; x8_in_mono h (fun r4 s3 h => ⟨h.1, fun c => have h := h.2.1 c; x8_keep_mono h (fun _ s5 h => hX45 _ _ _ _ _ _ _ h), fun c => have h := h.2.2 c; hQ _ _ h⟩)⟩⟩⟩)⟩⟩
theorem x8_chance_m45 {X45 Y45 : Int → Int → Int → Int → Int → Int → Mem → Prop} {X98 Y98 : Int → Int → Int → Int → Int → Int → Int → Mem → Prop} {Q R : Int → Mem → Prop} (hX45 : ∀ x1 x2 x3 x4 x5 x7 s, X45 x1 x2 x3 x4 x5 x7 s → Y45 x1 x2 x3 x4 x5 x7 s) (hX98 : ∀ x1 x2 x3 x4 x5 x7 x9 s, X98 x1 x2 x3 x4 x5 x7 x9 s → Y98 x1 x2 x3 x4 x5 x7 x9 s) (hQ : ∀ r s, Q r s → R r s) {x1 : Int} {x2 : Int} {x3 : Int} {x4 : Int} {x5 : Int} {x7 : Int} {s : Mem} (h : x8_chance_b45 X45 X98 Q x1 x2 x3 x4 x5 x7 s) : x8_chance_b45 Y45 Y98 R x1 x2 x3 x4 x5 x7 s :=
  x8_whole_mono h (fun r10 s9 h => ⟨h.1, fun c => have h := h.2.1 c; hX98 _ _ _ _ _ _ _ _ h, fun c => have h := h.2.2 c; ⟨h.1, have h := h.2; ⟨h.1, have h := h.2; ⟨h.1, have h := h.2; ⟨h.1, have h := h.2; fun v11 e_v11 => have h := h v11 e_v11; hX45 _ _ _ _ _ _ _ h⟩⟩⟩⟩⟩)
theorem x8_chance_m98 {X45 Y45 : Int → Int → Int → Int → Int → Int → Mem → Prop} {X98 Y98 : Int → Int → Int → Int → Int → Int → Int → Mem → Prop} {Q R : Int → Mem → Prop} (hX45 : ∀ x1 x2 x3 x4 x5 x7 s, X45 x1 x2 x3 x4 x5 x7 s → Y45 x1 x2 x3 x4 x5 x7 s) (hX98 : ∀ x1 x2 x3 x4 x5 x7 x9 s, X98 x1 x2 x3 x4 x5 x7 x9 s → Y98 x1 x2 x3 x4 x5 x7 x9 s) (hQ : ∀ r s, Q r s → R r s) {x1 : Int} {x2 : Int} {x3 : Int} {x4 : Int} {x5 : Int} {x7 : Int} {x9 : Int} {s : Mem} (h : x8_chance_b98 X45 X98 Q x1 x2 x3 x4 x5 x7 x9 s) : x8_chance_b98 Y45 Y98 R x1 x2 x3 x4 x5 x7 x9 s :=
  ⟨h.1, fun c => have h := h.2.1 c; x8_back_mono h (fun _ s13 h => x8_gcd_mono h (fun r15 s14 h => ⟨h.1, fun c => have h := h.2.1 c; ⟨h.1, have h := h.2; hQ _ _ h⟩, fun c => have h := h.2.2 c; ⟨h.1, have h := h.2; hQ _ _ h⟩⟩)), fun c => have h := h.2.2 c; x8_weighed_mono h (fun r18 s17 h => hX98 _ _ _ _ _ _ _ _ h)⟩
def x8_chance (p1 : Int) (p2 : Int) (p3 : Int) (s : Mem) (Q : Int → Mem → Prop) : Prop := ∀ (X45 : Int → Int → Int → Int → Int → Int → Mem → Prop) (X98 : Int → Int → Int → Int → Int → Int → Int → Mem → Prop), (∀ x1 x2 x3 x4 x5 x7 s, x8_chance_b45 X45 X98 Q x1 x2 x3 x4 x5 x7 s → X45 x1 x2 x3 x4 x5 x7 s) → (∀ x1 x2 x3 x4 x5 x7 x9 s, x8_chance_b98 X45 X98 Q x1 x2 x3 x4 x5 x7 x9 s → X98 x1 x2 x3 x4 x5 x7 x9 s) → x8_chance_be X45 X98 Q p1 p2 p3 s
def x8_chance_L45 (Q : Int → Mem → Prop) (x1 : Int) (x2 : Int) (x3 : Int) (x4 : Int) (x5 : Int) (x7 : Int) (s : Mem) : Prop := ∀ (X45 : Int → Int → Int → Int → Int → Int → Mem → Prop) (X98 : Int → Int → Int → Int → Int → Int → Int → Mem → Prop), (∀ x1 x2 x3 x4 x5 x7 s, x8_chance_b45 X45 X98 Q x1 x2 x3 x4 x5 x7 s → X45 x1 x2 x3 x4 x5 x7 s) → (∀ x1 x2 x3 x4 x5 x7 x9 s, x8_chance_b98 X45 X98 Q x1 x2 x3 x4 x5 x7 x9 s → X98 x1 x2 x3 x4 x5 x7 x9 s) → X45 x1 x2 x3 x4 x5 x7 s
def x8_chance_L98 (Q : Int → Mem → Prop) (x1 : Int) (x2 : Int) (x3 : Int) (x4 : Int) (x5 : Int) (x7 : Int) (x9 : Int) (s : Mem) : Prop := ∀ (X45 : Int → Int → Int → Int → Int → Int → Mem → Prop) (X98 : Int → Int → Int → Int → Int → Int → Int → Mem → Prop), (∀ x1 x2 x3 x4 x5 x7 s, x8_chance_b45 X45 X98 Q x1 x2 x3 x4 x5 x7 s → X45 x1 x2 x3 x4 x5 x7 s) → (∀ x1 x2 x3 x4 x5 x7 x9 s, x8_chance_b98 X45 X98 Q x1 x2 x3 x4 x5 x7 x9 s → X98 x1 x2 x3 x4 x5 x7 x9 s) → X98 x1 x2 x3 x4 x5 x7 x9 s
theorem x8_chance_i {Q : Int → Mem → Prop} {p1 : Int} {p2 : Int} {p3 : Int} {s : Mem} (h : x8_chance_be (x8_chance_L45 Q) (x8_chance_L98 Q) Q p1 p2 p3 s) : x8_chance p1 p2 p3 s Q := fun X45 X98 k45 k98 => x8_chance_me (fun _ _ _ _ _ _ _ h => h X45 X98 k45 k98) (fun _ _ _ _ _ _ _ _ h => h X45 X98 k45 k98) (fun _ _ h => h) h
theorem x8_chance_s45 {Q : Int → Mem → Prop} {x1 : Int} {x2 : Int} {x3 : Int} {x4 : Int} {x5 : Int} {x7 : Int} {s : Mem} (h : x8_chance_b45 (x8_chance_L45 Q) (x8_chance_L98 Q) Q x1 x2 x3 x4 x5 x7 s) : x8_chance_L45 Q x1 x2 x3 x4 x5 x7 s := fun X45 X98 k45 k98 => k45 _ _ _ _ _ _ _ (x8_chance_m45 (fun _ _ _ _ _ _ _ h => h X45 X98 k45 k98) (fun _ _ _ _ _ _ _ _ h => h X45 X98 k45 k98) (fun _ _ h => h) h)
theorem x8_chance_s98 {Q : Int → Mem → Prop} {x1 : Int} {x2 : Int} {x3 : Int} {x4 : Int} {x5 : Int} {x7 : Int} {x9 : Int} {s : Mem} (h : x8_chance_b98 (x8_chance_L45 Q) (x8_chance_L98 Q) Q x1 x2 x3 x4 x5 x7 x9 s) : x8_chance_L98 Q x1 x2 x3 x4 x5 x7 x9 s := fun X45 X98 k45 k98 => k98 _ _ _ _ _ _ _ _ (x8_chance_m98 (fun _ _ _ _ _ _ _ h => h X45 X98 k45 k98) (fun _ _ _ _ _ _ _ _ h => h X45 X98 k45 k98) (fun _ _ h => h) h)
theorem x8_chance_mono {Q R : Int → Mem → Prop} {p1 : Int} {p2 : Int} {p3 : Int} {s : Mem} (h : x8_chance p1 p2 p3 s Q) (hQ : ∀ r s, Q r s → R r s) : x8_chance p1 p2 p3 s R := fun X45 X98 k45 k98 => x8_chance_me (fun _ _ _ _ _ _ _ h => h) (fun _ _ _ _ _ _ _ _ h => h) hQ (h X45 X98 (fun _ _ _ _ _ _ _ h => k45 _ _ _ _ _ _ _ (x8_chance_m45 (fun _ _ _ _ _ _ _ h => h) (fun _ _ _ _ _ _ _ _ h => h) hQ h)) (fun _ _ _ _ _ _ _ _ h => k98 _ _ _ _ _ _ _ _ (x8_chance_m98 (fun _ _ _ _ _ _ _ h => h) (fun _ _ _ _ _ _ _ _ h => h) hQ h)))
def x8_chance_rm : Room := { frames := 4, cells := 0, slots := 0, locals := 101 }
theorem w_x8_chance_157 : Cond.constantLong RX8 157 (-100002) ∈ wsX8_chance := by decide +kernel
theorem w_x8_chance_32 : Cond.fieldLink RX8 32 "BoltRingModel" "weight" "[I" ∈ wsX8_chance := by decide +kernel
theorem in_x8_chance_X8 : ∀ w ∈ wsX80, w ∈ wsX8_chance := by decide +kernel
set_option maxHeartbeats 4000000 in
set_option maxRecDepth 100000 in
theorem x8_chance_bd {κ : KT} {ad : Nat → Nat} {cA : Nat → ClassId} {D : va_G} {Q : State → Prop} {p1 : Int} {p2 : Int} {p3 : Int} {s : Mem} (C : CX κ (GB ad cA D) RX8 cX8_chance 11 wsX8_chance x8_chance_rm (some .long)) (h : x8_chance p1 p2 p3 s (RT κ (GB ad cA D) ocL Q)) : WM κ (GB ad cA D) 11 Q s 0 [(0, .ref (ad 0)), (1, vI p1), (2, vI p2), (3, vI p3)] [] := by
  obtain ⟨Z45, z45⟩ : ∃ Z : Int → Int → Int → Int → Int → Int → Mem → Prop, ∀ x1 x2 x3 x4 x5 x7 s, Z x1 x2 x3 x4 x5 x7 s ↔ WM κ (GB ad cA D) 11 Q s 45 [(0, .ref (ad 0)), (1, vI x1), (2, vI x2), (3, vI x3), (4, vI x4), (5, vL x5), (7, vI x7)] [] := ⟨fun x1 x2 x3 x4 x5 x7 s => WM κ (GB ad cA D) 11 Q s 45 [(0, .ref (ad 0)), (1, vI x1), (2, vI x2), (3, vI x3), (4, vI x4), (5, vL x5), (7, vI x7)] [], fun _ _ _ _ _ _ _ => Iff.rfl⟩
  obtain ⟨Z98, z98⟩ : ∃ Z : Int → Int → Int → Int → Int → Int → Int → Mem → Prop, ∀ x1 x2 x3 x4 x5 x7 x9 s, Z x1 x2 x3 x4 x5 x7 x9 s ↔ WM κ (GB ad cA D) 11 Q s 98 [(0, .ref (ad 0)), (1, vI x1), (2, vI x2), (3, vI x3), (4, vI x4), (5, vL x5), (7, vL x7), (9, vI x9)] [] := ⟨fun x1 x2 x3 x4 x5 x7 x9 s => WM κ (GB ad cA D) 11 Q s 98 [(0, .ref (ad 0)), (1, vI x1), (2, vI x2), (3, vI x3), (4, vI x4), (5, vL x5), (7, vL x7), (9, vI x9)] [], fun _ _ _ _ _ _ _ _ => Iff.rfl⟩
  refine (fun h => ?_) (h Z45 Z98 ?_ ?_)
  · refine r_iload_n C 1 dX8_chance_0 rfl ?_
    refine r_i2l C dX8_chance_1 ⟨h.1, ?_⟩
    have h := h.2
    refine r_lconst (z := 0) C dX8_chance_2 rfl ?_
    refine r_iload_n C 2 dX8_chance_3 rfl ?_
    refine r_i2l C dX8_chance_4 ⟨h.1, ?_⟩
    have h := h.2
    refine r_callS (As := [vL p1, vL (0 : Int), vL p2]) (n := 3) C dX8_chance_5 (x8_in_ct κ.1.2.1 ad cA D p1 (0 : Int) p2 s) gX8_chance_X8_in rfl ⟨rfl, rfl⟩ (by decide +kernel) (by decide) rfl rfl (Nat.le_of_ble_eq_true rfl) (fun _ => rfl) ?_
    refine x8_in_mono h (fun r2 s1 h => ?_)
    refine r_if_eq (tgt := 28) C dX8_chance_8 (by decide) ⟨h.1, fun c8 => ?_, fun c8 => ?_⟩
    · have h := h.2.1 c8
      refine r_ldc2 (z := -100002) C dX8_chance_28 w_x8_chance_157 rfl ?_
      exact r_lreturn C dX8_chance_31 h
    · have h := h.2.2 c8
      refine r_iload_n C 2 dX8_chance_11 rfl ?_
      refine r_sipush C dX8_chance_12 (by decide) ?_
      refine r_icmp_gt (tgt := 28) C dX8_chance_15 (by decide) ⟨h.1, fun c7 => ?_, fun c7 => ?_⟩
      · have h := h.2.1 c7
        refine r_ldc2 (z := -100002) C dX8_chance_28 w_x8_chance_157 rfl ?_
        exact r_lreturn C dX8_chance_31 h
      · have h := h.2.2 c7
        refine r_iload_n C 3 dX8_chance_18 rfl ?_
        refine r_i2l C dX8_chance_19 ⟨h.1, ?_⟩
        have h := h.2
        refine r_lconst (z := 0) C dX8_chance_20 rfl ?_
        refine r_lconst (z := 1) C dX8_chance_21 rfl ?_
        refine r_callS (As := [vL p3, vL (0 : Int), vL (1 : Int)]) (n := 3) C dX8_chance_22 (x8_in_ct κ.1.2.1 ad cA D p3 (0 : Int) (1 : Int) s1) gX8_chance_X8_in rfl ⟨rfl, rfl⟩ (by decide +kernel) (by decide) rfl rfl (Nat.le_of_ble_eq_true rfl) (fun _ => rfl) ?_
        refine x8_in_mono h (fun r4 s3 h => ?_)
        refine r_if_ne (tgt := 32) C dX8_chance_25 (by decide) ⟨h.1, fun c6 => ?_, fun c6 => ?_⟩
        · have h := h.2.1 c6
          refine r_aload_n C 0 dX8_chance_32 rfl ?_
          refine r_callV (As := []) (o := 0) (n := 0) C dX8_chance_33 (x8_keep_ct κ.1.2.1 ad cA D s3) gX8_chance_X8_keep rfl ⟨rfl, rfl⟩ (by decide +kernel) (by decide) (shB_0) rfl rfl rfl (Nat.le_of_ble_eq_true rfl) (fun _ => rfl) ?_
          refine x8_keep_mono h (fun _ s5 h => ?_)
          refine r_iconst C dX8_chance_36 ?_
          refine r_istore (ls' := [(4, vI (1 : Int)), (0, .ref (ad 0)), (1, vI p1), (2, vI p2), (3, vI p3)]) C dX8_chance_37 (by decide) rfl ?_
          refine r_lconst (z := 1) C dX8_chance_39 rfl ?_
          refine r_lstore (ls' := [(5, vL (1 : Int)), (4, vI (1 : Int)), (0, .ref (ad 0)), (1, vI p1), (2, vI p2), (3, vI p3)]) C dX8_chance_40 (by decide) rfl ?_
          refine r_iconst C dX8_chance_42 ?_
          refine r_istore (ls' := [(7, vI (0 : Int)), (5, vL (1 : Int)), (4, vI (1 : Int)), (0, .ref (ad 0)), (1, vI p1), (2, vI p2), (3, vI p3)]) C dX8_chance_43 (by decide) rfl ?_
          exact r_perm [3, 4, 5, 6, 2, 1, 0] rfl ((z45 _ _ _ _ _ _ _).1 h)
        · have h := h.2.2 c6
          refine r_ldc2 (z := -100002) C dX8_chance_28 w_x8_chance_157 rfl ?_
          exact r_lreturn C dX8_chance_31 h
  · intro x1 x2 x3 x4 x5 x7 s h
    refine (z45 _ _ _ _ _ _ _).2 ?_
    refine r_iload C 6 dX8_chance_45 rfl ?_
    refine r_aload_n C 0 dX8_chance_47 rfl ?_
    refine r_callV (As := []) (o := 0) (n := 0) C dX8_chance_48 (x8_whole_ct κ.1.2.1 ad cA D s) gX8_chance_X8_whole rfl ⟨rfl, rfl⟩ (by decide +kernel) (by decide) (shB_0) rfl rfl rfl (Nat.le_of_ble_eq_true rfl) (fun _ => rfl) ?_
    refine x8_whole_mono h (fun r10 s9 h => ?_)
    refine r_icmp_ge (tgt := 92) C dX8_chance_51 (by decide) ⟨h.1, fun c12 => ?_, fun c12 => ?_⟩
    · have h := h.2.1 c12
      refine r_lconst (z := 0) C dX8_chance_92 rfl ?_
      refine r_lstore (ls' := [(7, vL (0 : Int)), (0, .ref (ad 0)), (1, vI x1), (2, vI x2), (3, vI x3), (4, vI x4), (5, vL x5)]) C dX8_chance_93 (by decide) rfl ?_
      refine r_iconst C dX8_chance_95 ?_
      refine r_istore (ls' := [(9, vI (0 : Int)), (7, vL (0 : Int)), (0, .ref (ad 0)), (1, vI x1), (2, vI x2), (3, vI x3), (4, vI x4), (5, vL x5)]) C dX8_chance_96 (by decide) rfl ?_
      exact r_perm [2, 3, 4, 5, 6, 7, 1, 0] rfl ((z98 _ _ _ _ _ _ _ _).1 h)
    · have h := h.2.2 c12
      refine r_iload C 4 dX8_chance_54 rfl ?_
      refine r_iconst C dX8_chance_56 ?_
      refine r_imul C dX8_chance_57 ?_
      refine r_istore (ls' := [(4, vI (x4 * (3 : Int))), (0, .ref (ad 0)), (1, vI x1), (2, vI x2), (3, vI x3), (5, vL x5), (7, vI x7)]) C dX8_chance_58 (by decide) rfl ?_
      refine r_lload C 5 dX8_chance_60 rfl ?_
      refine r_aload_n C 1 dX8_chance_62 rfl ?_
      refine r_get (j := 10) (jz := 10) (v := .ref (ad 8)) C dX8_chance_63 (shB_0) rfl rfl (by decide) in_x8_chance_X8 w_x8_chance_32 rfl rfl rfl ?_
      refine r_iconst C dX8_chance_66 ?_
      refine r_iald (nz := 3) C dX8_chance_67 (shB_8) rfl (by decide) ⟨h.1, ?_⟩
      have h := h.2
      refine r_aload_n C 1 dX8_chance_68 rfl ?_
      refine r_get (j := 10) (jz := 10) (v := .ref (ad 8)) C dX8_chance_69 (shB_0) rfl rfl (by decide) in_x8_chance_X8 w_x8_chance_32 rfl rfl rfl ?_
      refine r_iconst C dX8_chance_72 ?_
      refine r_iald (nz := 3) C dX8_chance_73 (shB_8) rfl (by decide) ⟨h.1, ?_⟩
      have h := h.2
      refine r_iadd C dX8_chance_74 ?_
      refine r_aload_n C 1 dX8_chance_75 rfl ?_
      refine r_get (j := 10) (jz := 10) (v := .ref (ad 8)) C dX8_chance_76 (shB_0) rfl rfl (by decide) in_x8_chance_X8 w_x8_chance_32 rfl rfl rfl ?_
      refine r_iconst C dX8_chance_79 ?_
      refine r_iald (nz := 3) C dX8_chance_80 (shB_8) rfl (by decide) ⟨h.1, ?_⟩
      have h := h.2
      refine r_iadd C dX8_chance_81 ?_
      refine r_i2l C dX8_chance_82 ⟨h.1, ?_⟩
      have h := h.2
      refine r_lmul C dX8_chance_83 ?_
      refine r_topL (fun v11 e_v11 => ?_)
      have h := h v11 e_v11
      refine r_lstore (ls' := [(5, vL v11), (4, vI (x4 * (3 : Int))), (0, .ref (ad 0)), (1, vI x1), (2, vI x2), (3, vI x3), (7, vI x7)]) C dX8_chance_84 (by decide) rfl ?_
      refine r_iinc (j := 6) (ls' := [(7, vI (x7 + (1 : Int))), (5, vL v11), (4, vI (x4 * (3 : Int))), (0, .ref (ad 0)), (1, vI x1), (2, vI x2), (3, vI x3)]) C dX8_chance_86 rfl (by decide) rfl ?_
      refine r_goto (tgt := 45) C dX8_chance_89 (by decide) ?_
      exact r_perm [3, 4, 5, 6, 2, 1, 0] rfl ((z45 _ _ _ _ _ _ _).1 h)
  · intro x1 x2 x3 x4 x5 x7 x9 s h
    refine (z98 _ _ _ _ _ _ _ _).2 ?_
    refine r_iload C 7 dX8_chance_98 rfl ?_
    refine r_iload C 4 dX8_chance_100 rfl ?_
    refine r_icmp_ge (tgt := 124) C dX8_chance_102 (by decide) ⟨h.1, fun c19 => ?_, fun c19 => ?_⟩
    · have h := h.2.1 c19
      refine r_aload_n C 0 dX8_chance_124 rfl ?_
      refine r_callV (As := []) (o := 0) (n := 0) C dX8_chance_125 (x8_back_ct κ.1.2.1 ad cA D s) gX8_chance_X8_back rfl ⟨rfl, rfl⟩ (by decide +kernel) (by decide) (shB_0) rfl rfl rfl (Nat.le_of_ble_eq_true rfl) (fun _ => rfl) ?_
      refine x8_back_mono h (fun _ s13 h => ?_)
      refine r_lload C 6 dX8_chance_128 rfl ?_
      refine r_lload C 5 dX8_chance_130 rfl ?_
      refine r_callS (As := [vL x7, vL x5]) (n := 2) C dX8_chance_132 (x8_gcd_ct κ.1.2.1 ad cA D x7 x5 s13) gX8_chance_X8_gcd rfl ⟨rfl, rfl⟩ (by decide +kernel) (by decide) rfl rfl (Nat.le_of_ble_eq_true rfl) (fun _ => rfl) ?_
      refine x8_gcd_mono h (fun r15 s14 h => ?_)
      refine r_lstore (ls' := [(9, vL r15), (0, .ref (ad 0)), (1, vI x1), (2, vI x2), (3, vI x3), (4, vI x4), (5, vL x5), (7, vL x7)]) C dX8_chance_135 (by decide) rfl ?_
      refine r_iload_n C 4 dX8_chance_137 rfl ?_
      refine r_if_ne (tgt := 149) C dX8_chance_138 (by decide) ⟨h.1, fun c16 => ?_, fun c16 => ?_⟩
      · have h := h.2.1 c16
        refine r_lload C 6 dX8_chance_149 rfl ?_
        refine r_lload C 0 dX8_chance_151 rfl ?_
        refine r_ldiv C dX8_chance_153 ⟨h.1, ?_⟩
        have h := h.2
        exact r_lreturn C dX8_chance_154 h
      · have h := h.2.2 c16
        refine r_lload C 7 dX8_chance_141 rfl ?_
        refine r_lload C 0 dX8_chance_143 rfl ?_
        refine r_ldiv C dX8_chance_145 ⟨h.1, ?_⟩
        have h := h.2
        refine r_goto (tgt := 154) C dX8_chance_146 (by decide) ?_
        exact r_lreturn C dX8_chance_154 h
    · have h := h.2.2 c19
      refine r_lload C 6 dX8_chance_105 rfl ?_
      refine r_aload_n C 0 dX8_chance_107 rfl ?_
      refine r_iload C 7 dX8_chance_108 rfl ?_
      refine r_iload_n C 1 dX8_chance_110 rfl ?_
      refine r_iload_n C 2 dX8_chance_111 rfl ?_
      refine r_callV (As := [vI x9, vI x1, vI x2]) (o := 0) (n := 3) C dX8_chance_112 (x8_weighed_ct κ.1.2.1 ad cA D x9 x1 x2 s) gX8_chance_X8_weighed rfl ⟨rfl, rfl⟩ (by decide +kernel) (by decide) (shB_0) rfl rfl rfl (Nat.le_of_ble_eq_true rfl) (fun _ => rfl) ?_
      refine x8_weighed_mono h (fun r18 s17 h => ?_)
      refine r_ladd C dX8_chance_115 ?_
      refine r_lstore (ls' := [(7, vL (x7 + r18)), (0, .ref (ad 0)), (1, vI x1), (2, vI x2), (3, vI x3), (4, vI x4), (5, vL x5), (9, vI x9)]) C dX8_chance_116 (by decide) rfl ?_
      refine r_iinc (j := 7) (ls' := [(9, vI (x9 + (1 : Int))), (7, vL (x7 + r18)), (0, .ref (ad 0)), (1, vI x1), (2, vI x2), (3, vI x3), (4, vI x4), (5, vL x5)]) C dX8_chance_118 rfl (by decide) rfl ?_
      refine r_goto (tgt := 98) C dX8_chance_121 (by decide) ?_
      exact r_perm [2, 3, 4, 5, 6, 7, 1, 0] rfl ((z98 _ _ _ _ _ _ _ _).1 h)
theorem x8_chance_ct (l : Launch) (ad : Nat → Nat) (cA : Nat → ClassId) (D : va_G) (p1 : Int) (p2 : Int) (p3 : Int) (s : Mem) : MG l yX8_chance wsX8_chance x8_chance_rm ocL [.ref (ad 0), vI p1, vI p2, vI p3] (GB ad cA D) s (x8_chance p1 p2 p3 s) :=
  m_met (own := RX8) (nL := 11) (by decide) rfl rfl (Nat.le_of_ble_eq_true rfl) rfl rfl rfl (fun κ hl C Q Pst hW hQ => x8_chance_bd C (x8_chance_mono hW hQ))

def x8_reading (p1 : Int) (p2 : Int) (p3 : Int) (s : Mem) (Q : Int → Mem → Prop) : Prop :=
  x8_noBolt p1 s (fun r2 s1 => InI r2 ∧ (r2 = (0 : Int) → (InI p2) ∧ (InI p3) ∧ x8_in p2 (0 : Int) p3 s1 (fun r4 s3 => InI r4 ∧ (r4 = (0 : Int) → Q (-100002 : Int) s3) ∧ (¬ r4 = (0 : Int) → (InI p3 ∧ InI (2000 : Int)) ∧ (p3 ≤ (2000 : Int) → (((0 : Int) ≤ p1 ∧ p1 < 6) ∧ (0 : Int) ≤ (1 : Int) ∧ (1 : Int) ≤ 1) ∧ ∀ s5 : Mem, s5 = m_upd s3 9 p1 (1 : Int) → ((0 : Int) ≤ p1 ∧ p1 < 6) ∧ ∀ s6 : Mem, s6 = m_upd s5 10 p1 p2 → ((0 : Int) ≤ p1 ∧ p1 < 6) ∧ ∀ s7 : Mem, s7 = m_upd s6 11 p1 p3 → x8_count (6 : Int) s7 (fun r9 s8 => Q r9 s8)) ∧ ((2000 : Int) < p3 → Q (-100002 : Int) s3)))) ∧ (¬ r2 = (0 : Int) → Q (-100001 : Int) s1))
theorem x8_reading_mono {Q R : Int → Mem → Prop} {p1 : Int} {p2 : Int} {p3 : Int} {s : Mem} (h : x8_reading p1 p2 p3 s Q) (hQ : ∀ r s, Q r s → R r s) : x8_reading p1 p2 p3 s R :=
  x8_noBolt_mono h (fun r2 s1 h => ⟨h.1, fun c => have h := h.2.1 c; ⟨h.1, have h := h.2; ⟨h.1, have h := h.2; x8_in_mono h (fun r4 s3 h => ⟨h.1, fun c => have h := h.2.1 c; hQ _ _ h, fun c => have h := h.2.2 c; ⟨h.1, fun c => have h := h.2.1 c; ⟨h.1, have h := h.2; fun s5 e_s5 => have h := h s5 e_s5; ⟨h.1, have h := h.2; fun s6 e_s6 => have h := h s6 e_s6; ⟨h.1, have h := h.2; fun s7 e_s7 => have h := h s7 e_s7; x8_count_mono h (fun r9 s8 h => hQ _ _ h)⟩⟩⟩, fun c => have h := h.2.2 c; hQ _ _ h⟩⟩)⟩⟩, fun c => have h := h.2.2 c; hQ _ _ h⟩)
def x8_reading_rm : Room := { frames := 4, cells := 0, slots := 0, locals := 98 }
theorem w_x8_reading_105 : Cond.constant RX8 105 (-100002) ∈ wsX8_reading := by decide +kernel
theorem w_x8_reading_35 : Cond.fieldLink RX8 35 "BoltRingModel" "isRead" "[Z" ∈ wsX8_reading := by decide +kernel
theorem w_x8_reading_38 : Cond.fieldLink RX8 38 "BoltRingModel" "readLow" "[I" ∈ wsX8_reading := by decide +kernel
theorem w_x8_reading_41 : Cond.fieldLink RX8 41 "BoltRingModel" "readHigh" "[I" ∈ wsX8_reading := by decide +kernel
theorem w_x8_reading_110 : Cond.constant RX8 110 (-100001) ∈ wsX8_reading := by decide +kernel
theorem in_x8_reading_X8 : ∀ w ∈ wsX80, w ∈ wsX8_reading := by decide +kernel
set_option maxHeartbeats 4000000 in
set_option maxRecDepth 100000 in
theorem x8_reading_bd {κ : KT} {ad : Nat → Nat} {cA : Nat → ClassId} {D : va_G} {Q : State → Prop} {p1 : Int} {p2 : Int} {p3 : Int} {s : Mem} (C : CX κ (GB ad cA D) RX8 cX8_reading 4 wsX8_reading x8_reading_rm (some .int)) (h : x8_reading p1 p2 p3 s (RT κ (GB ad cA D) ocI Q)) : WM κ (GB ad cA D) 4 Q s 0 [(0, .ref (ad 0)), (1, vI p1), (2, vI p2), (3, vI p3)] [] := by
  refine r_aload_n C 0 dX8_reading_0 rfl ?_
  refine r_iload_n C 1 dX8_reading_1 rfl ?_
  refine r_callV (As := [vI p1]) (o := 0) (n := 1) C dX8_reading_2 (x8_noBolt_ct κ.1.2.1 ad cA D p1 s) gX8_reading_X8_noBolt rfl ⟨rfl, rfl⟩ (by decide +kernel) (by decide) (shB_0) rfl rfl rfl (Nat.le_of_ble_eq_true rfl) (fun _ => rfl) ?_
  refine x8_noBolt_mono h (fun r2 s1 h => ?_)
  refine r_if_eq (tgt := 11) C dX8_reading_5 (by decide) ⟨h.1, fun c12 => ?_, fun c12 => ?_⟩
  · have h := h.2.1 c12
    refine r_iload_n C 2 dX8_reading_11 rfl ?_
    refine r_i2l C dX8_reading_12 ⟨h.1, ?_⟩
    have h := h.2
    refine r_lconst (z := 0) C dX8_reading_13 rfl ?_
    refine r_iload_n C 3 dX8_reading_14 rfl ?_
    refine r_i2l C dX8_reading_15 ⟨h.1, ?_⟩
    have h := h.2
    refine r_callS (As := [vL p2, vL (0 : Int), vL p3]) (n := 3) C dX8_reading_16 (x8_in_ct κ.1.2.1 ad cA D p2 (0 : Int) p3 s1) gX8_reading_X8_in rfl ⟨rfl, rfl⟩ (by decide +kernel) (by decide) rfl rfl (Nat.le_of_ble_eq_true rfl) (fun _ => rfl) ?_
    refine x8_in_mono h (fun r4 s3 h => ?_)
    refine r_if_eq (tgt := 29) C dX8_reading_19 (by decide) ⟨h.1, fun c11 => ?_, fun c11 => ?_⟩
    · have h := h.2.1 c11
      refine r_ldc (z := -100002) C dX8_reading_29 w_x8_reading_105 rfl ?_
      exact r_ireturn C dX8_reading_31 h
    · have h := h.2.2 c11
      refine r_iload_n C 3 dX8_reading_22 rfl ?_
      refine r_sipush C dX8_reading_23 (by decide) ?_
      refine r_icmp_le (tgt := 32) C dX8_reading_26 (by decide) ⟨h.1, fun c10 => ?_, fun c10 => ?_⟩
      · have h := h.2.1 c10
        refine r_aload_n C 0 dX8_reading_32 rfl ?_
        refine r_get (j := 11) (jz := 11) (v := .ref (ad 9)) C dX8_reading_33 (shB_0) rfl rfl (by decide) in_x8_reading_X8 w_x8_reading_35 rfl rfl rfl ?_
        refine r_iload_n C 1 dX8_reading_36 rfl ?_
        refine r_iconst C dX8_reading_37 ?_
        refine r_zast (nz := 6) C dX8_reading_38 (shB_9) rfl (by decide) ⟨h.1, fun s5 e_s5 => ?_⟩
        have h := h.2 s5 e_s5
        refine r_aload_n C 0 dX8_reading_39 rfl ?_
        refine r_get (j := 12) (jz := 12) (v := .ref (ad 10)) C dX8_reading_40 (shB_0) rfl rfl (by decide) in_x8_reading_X8 w_x8_reading_38 rfl rfl rfl ?_
        refine r_iload_n C 1 dX8_reading_43 rfl ?_
        refine r_iload_n C 2 dX8_reading_44 rfl ?_
        refine r_iast (nz := 6) C dX8_reading_45 (shB_10) rfl (by decide) ⟨h.1, fun s6 e_s6 => ?_⟩
        have h := h.2 s6 e_s6
        refine r_aload_n C 0 dX8_reading_46 rfl ?_
        refine r_get (j := 13) (jz := 13) (v := .ref (ad 11)) C dX8_reading_47 (shB_0) rfl rfl (by decide) in_x8_reading_X8 w_x8_reading_41 rfl rfl rfl ?_
        refine r_iload_n C 1 dX8_reading_50 rfl ?_
        refine r_iload_n C 3 dX8_reading_51 rfl ?_
        refine r_iast (nz := 6) C dX8_reading_52 (shB_11) rfl (by decide) ⟨h.1, fun s7 e_s7 => ?_⟩
        have h := h.2 s7 e_s7
        refine r_aload_n C 0 dX8_reading_53 rfl ?_
        refine r_bipush C dX8_reading_54 (by decide) ?_
        refine r_callV (As := [vI (6 : Int)]) (o := 0) (n := 1) C dX8_reading_56 (x8_count_ct κ.1.2.1 ad cA D (6 : Int) s7) gX8_reading_X8_count rfl ⟨rfl, rfl⟩ (by decide +kernel) (by decide) (shB_0) rfl rfl rfl (Nat.le_of_ble_eq_true rfl) (fun _ => rfl) ?_
        refine x8_count_mono h (fun r9 s8 h => ?_)
        exact r_ireturn C dX8_reading_59 h
      · have h := h.2.2 c10
        refine r_ldc (z := -100002) C dX8_reading_29 w_x8_reading_105 rfl ?_
        exact r_ireturn C dX8_reading_31 h
  · have h := h.2.2 c12
    refine r_ldc (z := -100001) C dX8_reading_8 w_x8_reading_110 rfl ?_
    exact r_ireturn C dX8_reading_10 h
theorem x8_reading_ct (l : Launch) (ad : Nat → Nat) (cA : Nat → ClassId) (D : va_G) (p1 : Int) (p2 : Int) (p3 : Int) (s : Mem) : MG l yX8_reading wsX8_reading x8_reading_rm ocI [.ref (ad 0), vI p1, vI p2, vI p3] (GB ad cA D) s (x8_reading p1 p2 p3 s) :=
  m_met (own := RX8) (nL := 4) (by decide) rfl rfl (Nat.le_of_ble_eq_true rfl) rfl rfl rfl (fun κ hl C Q Pst hW hQ => x8_reading_bd C (x8_reading_mono hW hQ))

def x8_forget_be (X9 : Int → Int → Mem → Prop) (Q : Int → Mem → Prop)  (s : Mem) : Prop :=
  x8_count (6 : Int) s (fun r2 s1 => X9 r2 (0 : Int) s1)
def x8_forget_b9 (X9 : Int → Int → Mem → Prop) (Q : Int → Mem → Prop) (x1 : Int) (x2 : Int) (s : Mem) : Prop :=
  (InI x2 ∧ InI (s 0 (0 : Int))) ∧ ((s 0 (0 : Int)) ≤ x2 → Q x1 s) ∧ (x2 < (s 0 (0 : Int)) → (((0 : Int) ≤ x2 ∧ x2 < 6) ∧ (0 : Int) ≤ (0 : Int) ∧ (0 : Int) ≤ 1) ∧ ∀ s3 : Mem, s3 = m_upd s 9 x2 (0 : Int) → X9 x1 (x2 + (1 : Int)) s3)
theorem x8_forget_me {X9 Y9 : Int → Int → Mem → Prop} {Q R : Int → Mem → Prop} (hX9 : ∀ x1 x2 s, X9 x1 x2 s → Y9 x1 x2 s) (hQ : ∀ r s, Q r s → R r s)  {s : Mem} (h : x8_forget_be X9 Q  s) : x8_forget_be Y9 R  s :=
  x8_count_mono h (fun r2 s1 h => hX9 _ _ _ h)
theorem x8_forget_m9 {X9 Y9 : Int → Int → Mem → Prop} {Q R : Int → Mem → Prop} (hX9 : ∀ x1 x2 s, X9 x1 x2 s → Y9 x1 x2 s) (hQ : ∀ r s, Q r s → R r s) {x1 : Int} {x2 : Int} {s : Mem} (h : x8_forget_b9 X9 Q x1 x2 s) : x8_forget_b9 Y9 R x1 x2 s :=
  ⟨h.1, fun c => have h := h.2.1 c; hQ _ _ h, fun c => have h := h.2.2 c; ⟨h.1, have h := h.2; fun s3 e_s3 => have h := h s3 e_s3; hX9 _ _ _ h⟩⟩
def x8_forget  (s : Mem) (Q : Int → Mem → Prop) : Prop := ∀ (X9 : Int → Int → Mem → Prop), (∀ x1 x2 s, x8_forget_b9 X9 Q x1 x2 s → X9 x1 x2 s) → x8_forget_be X9 Q  s
def x8_forget_L9 (Q : Int → Mem → Prop) (x1 : Int) (x2 : Int) (s : Mem) : Prop := ∀ (X9 : Int → Int → Mem → Prop), (∀ x1 x2 s, x8_forget_b9 X9 Q x1 x2 s → X9 x1 x2 s) → X9 x1 x2 s
theorem x8_forget_i {Q : Int → Mem → Prop}  {s : Mem} (h : x8_forget_be (x8_forget_L9 Q) Q  s) : x8_forget  s Q := fun X9 k9 => x8_forget_me (fun _ _ _ h => h X9 k9) (fun _ _ h => h) h
theorem x8_forget_s9 {Q : Int → Mem → Prop} {x1 : Int} {x2 : Int} {s : Mem} (h : x8_forget_b9 (x8_forget_L9 Q) Q x1 x2 s) : x8_forget_L9 Q x1 x2 s := fun X9 k9 => k9 _ _ _ (x8_forget_m9 (fun _ _ _ h => h X9 k9) (fun _ _ h => h) h)
theorem x8_forget_mono {Q R : Int → Mem → Prop}  {s : Mem} (h : x8_forget  s Q) (hQ : ∀ r s, Q r s → R r s) : x8_forget  s R := fun X9 k9 => x8_forget_me (fun _ _ _ h => h) hQ (h X9 (fun _ _ _ h => k9 _ _ _ (x8_forget_m9 (fun _ _ _ h => h) hQ h)))
def x8_forget_rm : Room := { frames := 4, cells := 0, slots := 0, locals := 98 }
theorem w_x8_forget_86 : Cond.fieldLink RX8 86 "BoltRingModel" "n" "I" ∈ wsX8_forget := by decide +kernel
theorem w_x8_forget_35 : Cond.fieldLink RX8 35 "BoltRingModel" "isRead" "[Z" ∈ wsX8_forget := by decide +kernel
theorem in_x8_forget_X8 : ∀ w ∈ wsX80, w ∈ wsX8_forget := by decide +kernel
set_option maxHeartbeats 4000000 in
set_option maxRecDepth 100000 in
theorem x8_forget_bd {κ : KT} {ad : Nat → Nat} {cA : Nat → ClassId} {D : va_G} {Q : State → Prop}  {s : Mem} (C : CX κ (GB ad cA D) RX8 cX8_forget 3 wsX8_forget x8_forget_rm (some .int)) (h : x8_forget  s (RT κ (GB ad cA D) ocI Q)) : WM κ (GB ad cA D) 3 Q s 0 [(0, .ref (ad 0))] [] := by
  obtain ⟨Z9, z9⟩ : ∃ Z : Int → Int → Mem → Prop, ∀ x1 x2 s, Z x1 x2 s ↔ WM κ (GB ad cA D) 3 Q s 9 [(0, .ref (ad 0)), (1, vI x1), (2, vI x2)] [] := ⟨fun x1 x2 s => WM κ (GB ad cA D) 3 Q s 9 [(0, .ref (ad 0)), (1, vI x1), (2, vI x2)] [], fun _ _ _ => Iff.rfl⟩
  refine (fun h => ?_) (h Z9 ?_)
  · refine r_aload_n C 0 dX8_forget_0 rfl ?_
    refine r_bipush C dX8_forget_1 (by decide) ?_
    refine r_callV (As := [vI (6 : Int)]) (o := 0) (n := 1) C dX8_forget_3 (x8_count_ct κ.1.2.1 ad cA D (6 : Int) s) gX8_forget_X8_count rfl ⟨rfl, rfl⟩ (by decide +kernel) (by decide) (shB_0) rfl rfl rfl (Nat.le_of_ble_eq_true rfl) (fun _ => rfl) ?_
    refine x8_count_mono h (fun r2 s1 h => ?_)
    refine r_istore_n (ls' := [(1, vI r2), (0, .ref (ad 0))]) C dX8_forget_6 rfl (by decide) rfl ?_
    refine r_iconst C dX8_forget_7 ?_
    refine r_istore_n (ls' := [(2, vI (0 : Int)), (1, vI r2), (0, .ref (ad 0))]) C dX8_forget_8 rfl (by decide) rfl ?_
    exact r_perm [2, 1, 0] rfl ((z9 _ _ _).1 h)
  · intro x1 x2 s h
    refine (z9 _ _ _).2 ?_
    refine r_iload_n C 2 dX8_forget_9 rfl ?_
    refine r_aload_n C 0 dX8_forget_10 rfl ?_
    refine r_get (j := 0) (jz := 0) (v := vI (s 0 (0 : Int))) C dX8_forget_11 (shB_0) rfl rfl (by decide) in_x8_forget_X8 w_x8_forget_86 rfl rfl rfl ?_
    refine r_icmp_ge (tgt := 30) C dX8_forget_14 (by decide) ⟨h.1, fun c4 => ?_, fun c4 => ?_⟩
    · have h := h.2.1 c4
      refine r_iload_n C 1 dX8_forget_30 rfl ?_
      exact r_ireturn C dX8_forget_31 h
    · have h := h.2.2 c4
      refine r_aload_n C 0 dX8_forget_17 rfl ?_
      refine r_get (j := 11) (jz := 11) (v := .ref (ad 9)) C dX8_forget_18 (shB_0) rfl rfl (by decide) in_x8_forget_X8 w_x8_forget_35 rfl rfl rfl ?_
      refine r_iload_n C 2 dX8_forget_21 rfl ?_
      refine r_iconst C dX8_forget_22 ?_
      refine r_zast (nz := 6) C dX8_forget_23 (shB_9) rfl (by decide) ⟨h.1, fun s3 e_s3 => ?_⟩
      have h := h.2 s3 e_s3
      refine r_iinc (j := 2) (ls' := [(2, vI (x2 + (1 : Int))), (0, .ref (ad 0)), (1, vI x1)]) C dX8_forget_24 rfl (by decide) rfl ?_
      refine r_goto (tgt := 9) C dX8_forget_27 (by decide) ?_
      exact r_perm [1, 2, 0] rfl ((z9 _ _ _).1 h)
theorem x8_forget_ct (l : Launch) (ad : Nat → Nat) (cA : Nat → ClassId) (D : va_G)  (s : Mem) : MG l yX8_forget wsX8_forget x8_forget_rm ocI [.ref (ad 0)] (GB ad cA D) s (x8_forget  s) :=
  m_met (own := RX8) (nL := 3) (by decide) rfl rfl (Nat.le_of_ble_eq_true rfl) rfl rfl rfl (fun κ hl C Q Pst hW hQ => x8_forget_bd C (x8_forget_mono hW hQ))

def x8_isFit_be (X8 : Int → Int → Mem → Prop) (Q : Int → Mem → Prop)  (s : Mem) : Prop :=
  x8_findLifts s (fun _ s1 => X8 (1 : Int) (0 : Int) s1)
def x8_isFit_b8 (X8 : Int → Int → Mem → Prop) (Q : Int → Mem → Prop) (x1 : Int) (x2 : Int) (s : Mem) : Prop :=
  (InI x2 ∧ InI (s 0 (0 : Int))) ∧ ((s 0 (0 : Int)) ≤ x2 → ((0 : Int) ≤ x1 ∧ x1 ≤ 1) ∧ Q x1 s) ∧ (x2 < (s 0 (0 : Int)) → InI x1 ∧ (x1 = (0 : Int) → X8 (0 : Int) (x2 + (1 : Int)) s) ∧ (¬ x1 = (0 : Int) → ((0 : Int) ≤ x2 ∧ x2 < 6) ∧ InI (s 9 x2) ∧ ((s 9 x2) = (0 : Int) → X8 (1 : Int) (x2 + (1 : Int)) s) ∧ (¬ (s 9 x2) = (0 : Int) → ((0 : Int) ≤ x2 ∧ x2 < 6) ∧ ((0 : Int) ≤ x2 ∧ x2 < 6) ∧ x8_isWithin x2 (s 10 x2) (s 11 x2) s (fun r3 s2 => InI r3 ∧ (r3 = (0 : Int) → X8 (0 : Int) (x2 + (1 : Int)) s2) ∧ (¬ r3 = (0 : Int) → X8 (1 : Int) (x2 + (1 : Int)) s2)))))
theorem x8_isFit_me {X8 Y8 : Int → Int → Mem → Prop} {Q R : Int → Mem → Prop} (hX8 : ∀ x1 x2 s, X8 x1 x2 s → Y8 x1 x2 s) (hQ : ∀ r s, Q r s → R r s)  {s : Mem} (h : x8_isFit_be X8 Q  s) : x8_isFit_be Y8 R  s :=
  x8_findLifts_mono h (fun _ s1 h => hX8 _ _ _ h)
theorem x8_isFit_m8 {X8 Y8 : Int → Int → Mem → Prop} {Q R : Int → Mem → Prop} (hX8 : ∀ x1 x2 s, X8 x1 x2 s → Y8 x1 x2 s) (hQ : ∀ r s, Q r s → R r s) {x1 : Int} {x2 : Int} {s : Mem} (h : x8_isFit_b8 X8 Q x1 x2 s) : x8_isFit_b8 Y8 R x1 x2 s :=
  ⟨h.1, fun c => have h := h.2.1 c; ⟨h.1, hQ _ _ h.2⟩, fun c => have h := h.2.2 c; ⟨h.1, fun c => have h := h.2.1 c; hX8 _ _ _ h, fun c => have h := h.2.2 c; ⟨h.1, have h := h.2; ⟨h.1, fun c => have h := h.2.1 c; hX8 _ _ _ h, fun c => have h := h.2.2 c; ⟨h.1, have h := h.2; ⟨h.1, have h := h.2; x8_isWithin_mono h (fun r3 s2 h => ⟨h.1, fun c => have h := h.2.1 c; hX8 _ _ _ h, fun c => have h := h.2.2 c; hX8 _ _ _ h⟩)⟩⟩⟩⟩⟩⟩
def x8_isFit  (s : Mem) (Q : Int → Mem → Prop) : Prop := ∀ (X8 : Int → Int → Mem → Prop), (∀ x1 x2 s, x8_isFit_b8 X8 Q x1 x2 s → X8 x1 x2 s) → x8_isFit_be X8 Q  s
def x8_isFit_L8 (Q : Int → Mem → Prop) (x1 : Int) (x2 : Int) (s : Mem) : Prop := ∀ (X8 : Int → Int → Mem → Prop), (∀ x1 x2 s, x8_isFit_b8 X8 Q x1 x2 s → X8 x1 x2 s) → X8 x1 x2 s
theorem x8_isFit_i {Q : Int → Mem → Prop}  {s : Mem} (h : x8_isFit_be (x8_isFit_L8 Q) Q  s) : x8_isFit  s Q := fun X8 k8 => x8_isFit_me (fun _ _ _ h => h X8 k8) (fun _ _ h => h) h
theorem x8_isFit_s8 {Q : Int → Mem → Prop} {x1 : Int} {x2 : Int} {s : Mem} (h : x8_isFit_b8 (x8_isFit_L8 Q) Q x1 x2 s) : x8_isFit_L8 Q x1 x2 s := fun X8 k8 => k8 _ _ _ (x8_isFit_m8 (fun _ _ _ h => h X8 k8) (fun _ _ h => h) h)
theorem x8_isFit_mono {Q R : Int → Mem → Prop}  {s : Mem} (h : x8_isFit  s Q) (hQ : ∀ r s, Q r s → R r s) : x8_isFit  s R := fun X8 k8 => x8_isFit_me (fun _ _ _ h => h) hQ (h X8 (fun _ _ _ h => k8 _ _ _ (x8_isFit_m8 (fun _ _ _ h => h) hQ h)))
def x8_isFit_rm : Room := { frames := 3, cells := 0, slots := 0, locals := 72 }
theorem w_x8_isFit_86 : Cond.fieldLink RX8 86 "BoltRingModel" "n" "I" ∈ wsX8_isFit := by decide +kernel
theorem w_x8_isFit_35 : Cond.fieldLink RX8 35 "BoltRingModel" "isRead" "[Z" ∈ wsX8_isFit := by decide +kernel
theorem w_x8_isFit_38 : Cond.fieldLink RX8 38 "BoltRingModel" "readLow" "[I" ∈ wsX8_isFit := by decide +kernel
theorem w_x8_isFit_41 : Cond.fieldLink RX8 41 "BoltRingModel" "readHigh" "[I" ∈ wsX8_isFit := by decide +kernel
theorem in_x8_isFit_X8 : ∀ w ∈ wsX80, w ∈ wsX8_isFit := by decide +kernel
set_option maxHeartbeats 4000000 in
set_option maxRecDepth 100000 in
theorem x8_isFit_bd {κ : KT} {ad : Nat → Nat} {cA : Nat → ClassId} {D : va_G} {Q : State → Prop}  {s : Mem} (C : CX κ (GB ad cA D) RX8 cX8_isFit 3 wsX8_isFit x8_isFit_rm (some .boolean)) (h : x8_isFit  s (RT κ (GB ad cA D) ocI Q)) : WM κ (GB ad cA D) 3 Q s 0 [(0, .ref (ad 0))] [] := by
  obtain ⟨Z8, z8⟩ : ∃ Z : Int → Int → Mem → Prop, ∀ x1 x2 s, Z x1 x2 s ↔ WM κ (GB ad cA D) 3 Q s 8 [(0, .ref (ad 0)), (1, vI x1), (2, vI x2)] [] := ⟨fun x1 x2 s => WM κ (GB ad cA D) 3 Q s 8 [(0, .ref (ad 0)), (1, vI x1), (2, vI x2)] [], fun _ _ _ => Iff.rfl⟩
  refine (fun h => ?_) (h Z8 ?_)
  · refine r_aload_n C 0 dX8_isFit_0 rfl ?_
    refine r_callV (As := []) (o := 0) (n := 0) C dX8_isFit_1 (x8_findLifts_ct κ.1.2.1 ad cA D s) gX8_isFit_X8_findLifts rfl ⟨rfl, rfl⟩ (by decide +kernel) (by decide) (shB_0) rfl rfl rfl (Nat.le_of_ble_eq_true rfl) (fun _ => rfl) ?_
    refine x8_findLifts_mono h (fun _ s1 h => ?_)
    refine r_iconst C dX8_isFit_4 ?_
    refine r_istore_n (ls' := [(1, vI (1 : Int)), (0, .ref (ad 0))]) C dX8_isFit_5 rfl (by decide) rfl ?_
    refine r_iconst C dX8_isFit_6 ?_
    refine r_istore_n (ls' := [(2, vI (0 : Int)), (1, vI (1 : Int)), (0, .ref (ad 0))]) C dX8_isFit_7 rfl (by decide) rfl ?_
    exact r_perm [2, 1, 0] rfl ((z8 _ _ _).1 h)
  · intro x1 x2 s h
    refine (z8 _ _ _).2 ?_
    refine r_iload_n C 2 dX8_isFit_8 rfl ?_
    refine r_aload_n C 0 dX8_isFit_9 rfl ?_
    refine r_get (j := 0) (jz := 0) (v := vI (s 0 (0 : Int))) C dX8_isFit_10 (shB_0) rfl rfl (by decide) in_x8_isFit_X8 w_x8_isFit_86 rfl rfl rfl ?_
    refine r_icmp_ge (tgt := 61) C dX8_isFit_13 (by decide) ⟨h.1, fun c7 => ?_, fun c7 => ?_⟩
    · have h := h.2.1 c7
      refine r_iload_n C 1 dX8_isFit_61 rfl ?_
      exact r_zreturn C dX8_isFit_62 h
    · have h := h.2.2 c7
      refine r_iload_n C 1 dX8_isFit_16 rfl ?_
      refine r_if_eq (tgt := 53) C dX8_isFit_17 (by decide) ⟨h.1, fun c6 => ?_, fun c6 => ?_⟩
      · have h := h.2.1 c6
        refine r_iconst C dX8_isFit_53 ?_
        refine r_istore_n (ls' := [(1, vI (0 : Int)), (0, .ref (ad 0)), (2, vI x2)]) C dX8_isFit_54 rfl (by decide) rfl ?_
        refine r_iinc (j := 2) (ls' := [(2, vI (x2 + (1 : Int))), (1, vI (0 : Int)), (0, .ref (ad 0))]) C dX8_isFit_55 rfl (by decide) rfl ?_
        refine r_goto (tgt := 8) C dX8_isFit_58 (by decide) ?_
        exact r_perm [2, 1, 0] rfl ((z8 _ _ _).1 h)
      · have h := h.2.2 c6
        refine r_aload_n C 0 dX8_isFit_20 rfl ?_
        refine r_get (j := 11) (jz := 11) (v := .ref (ad 9)) C dX8_isFit_21 (shB_0) rfl rfl (by decide) in_x8_isFit_X8 w_x8_isFit_35 rfl rfl rfl ?_
        refine r_iload_n C 2 dX8_isFit_24 rfl ?_
        refine r_zald (nz := 6) C dX8_isFit_25 (shB_9) rfl (by decide) ⟨h.1, ?_⟩
        have h := h.2
        refine r_if_eq (tgt := 49) C dX8_isFit_26 (by decide) ⟨h.1, fun c5 => ?_, fun c5 => ?_⟩
        · have h := h.2.1 c5
          refine r_iconst C dX8_isFit_49 ?_
          refine r_goto (tgt := 54) C dX8_isFit_50 (by decide) ?_
          refine r_istore_n (ls' := [(1, vI (1 : Int)), (0, .ref (ad 0)), (2, vI x2)]) C dX8_isFit_54 rfl (by decide) rfl ?_
          refine r_iinc (j := 2) (ls' := [(2, vI (x2 + (1 : Int))), (1, vI (1 : Int)), (0, .ref (ad 0))]) C dX8_isFit_55 rfl (by decide) rfl ?_
          refine r_goto (tgt := 8) C dX8_isFit_58 (by decide) ?_
          exact r_perm [2, 1, 0] rfl ((z8 _ _ _).1 h)
        · have h := h.2.2 c5
          refine r_aload_n C 0 dX8_isFit_29 rfl ?_
          refine r_iload_n C 2 dX8_isFit_30 rfl ?_
          refine r_aload_n C 0 dX8_isFit_31 rfl ?_
          refine r_get (j := 12) (jz := 12) (v := .ref (ad 10)) C dX8_isFit_32 (shB_0) rfl rfl (by decide) in_x8_isFit_X8 w_x8_isFit_38 rfl rfl rfl ?_
          refine r_iload_n C 2 dX8_isFit_35 rfl ?_
          refine r_iald (nz := 6) C dX8_isFit_36 (shB_10) rfl (by decide) ⟨h.1, ?_⟩
          have h := h.2
          refine r_aload_n C 0 dX8_isFit_37 rfl ?_
          refine r_get (j := 13) (jz := 13) (v := .ref (ad 11)) C dX8_isFit_38 (shB_0) rfl rfl (by decide) in_x8_isFit_X8 w_x8_isFit_41 rfl rfl rfl ?_
          refine r_iload_n C 2 dX8_isFit_41 rfl ?_
          refine r_iald (nz := 6) C dX8_isFit_42 (shB_11) rfl (by decide) ⟨h.1, ?_⟩
          have h := h.2
          refine r_callV (As := [vI x2, vI (s 10 x2), vI (s 11 x2)]) (o := 0) (n := 3) C dX8_isFit_43 (x8_isWithin_ct κ.1.2.1 ad cA D x2 (s 10 x2) (s 11 x2) s) gX8_isFit_X8_isWithin rfl ⟨rfl, rfl⟩ (by decide +kernel) (by decide) (shB_0) rfl rfl rfl (Nat.le_of_ble_eq_true rfl) (fun _ => rfl) ?_
          refine x8_isWithin_mono h (fun r3 s2 h => ?_)
          refine r_if_eq (tgt := 53) C dX8_isFit_46 (by decide) ⟨h.1, fun c4 => ?_, fun c4 => ?_⟩
          · have h := h.2.1 c4
            refine r_iconst C dX8_isFit_53 ?_
            refine r_istore_n (ls' := [(1, vI (0 : Int)), (0, .ref (ad 0)), (2, vI x2)]) C dX8_isFit_54 rfl (by decide) rfl ?_
            refine r_iinc (j := 2) (ls' := [(2, vI (x2 + (1 : Int))), (1, vI (0 : Int)), (0, .ref (ad 0))]) C dX8_isFit_55 rfl (by decide) rfl ?_
            refine r_goto (tgt := 8) C dX8_isFit_58 (by decide) ?_
            exact r_perm [2, 1, 0] rfl ((z8 _ _ _).1 h)
          · have h := h.2.2 c4
            refine r_iconst C dX8_isFit_49 ?_
            refine r_goto (tgt := 54) C dX8_isFit_50 (by decide) ?_
            refine r_istore_n (ls' := [(1, vI (1 : Int)), (0, .ref (ad 0)), (2, vI x2)]) C dX8_isFit_54 rfl (by decide) rfl ?_
            refine r_iinc (j := 2) (ls' := [(2, vI (x2 + (1 : Int))), (1, vI (1 : Int)), (0, .ref (ad 0))]) C dX8_isFit_55 rfl (by decide) rfl ?_
            refine r_goto (tgt := 8) C dX8_isFit_58 (by decide) ?_
            exact r_perm [2, 1, 0] rfl ((z8 _ _ _).1 h)
theorem x8_isFit_ct (l : Launch) (ad : Nat → Nat) (cA : Nat → ClassId) (D : va_G)  (s : Mem) : MG l yX8_isFit wsX8_isFit x8_isFit_rm ocI [.ref (ad 0)] (GB ad cA D) s (x8_isFit  s) :=
  m_met (own := RX8) (nL := 3) (by decide) rfl rfl (Nat.le_of_ble_eq_true rfl) rfl rfl rfl (fun κ hl C Q Pst hW hQ => x8_isFit_bd C (x8_isFit_mono hW hQ))

def x8_fit  (s : Mem) (Q : Int → Mem → Prop) : Prop :=
  x8_isFit s (fun r2 s1 => x8_bit r2 s1 (fun r4 s3 => Q r4 s3))
theorem x8_fit_mono {Q R : Int → Mem → Prop}  {s : Mem} (h : x8_fit  s Q) (hQ : ∀ r s, Q r s → R r s) : x8_fit  s R :=
  x8_isFit_mono h (fun r2 s1 h => x8_bit_mono h (fun r4 s3 h => hQ _ _ h))
def x8_fit_rm : Room := { frames := 4, cells := 0, slots := 0, locals := 94 }
set_option maxHeartbeats 4000000 in
set_option maxRecDepth 100000 in
theorem x8_fit_bd {κ : KT} {ad : Nat → Nat} {cA : Nat → ClassId} {D : va_G} {Q : State → Prop}  {s : Mem} (C : CX κ (GB ad cA D) RX8 cX8_fit 1 wsX8_fit x8_fit_rm (some .int)) (h : x8_fit  s (RT κ (GB ad cA D) ocI Q)) : WM κ (GB ad cA D) 1 Q s 0 [(0, .ref (ad 0))] [] := by
  refine r_aload_n C 0 dX8_fit_0 rfl ?_
  refine r_callV (As := []) (o := 0) (n := 0) C dX8_fit_1 (x8_isFit_ct κ.1.2.1 ad cA D s) gX8_fit_X8_isFit rfl ⟨rfl, rfl⟩ (by decide +kernel) (by decide) (shB_0) rfl rfl rfl (Nat.le_of_ble_eq_true rfl) (fun _ => rfl) ?_
  refine x8_isFit_mono h (fun r2 s1 h => ?_)
  refine r_callS (As := [vI r2]) (n := 1) C dX8_fit_4 (x8_bit_ct κ.1.2.1 ad cA D r2 s1) gX8_fit_X8_bit rfl ⟨rfl, rfl⟩ (by decide +kernel) (by decide) rfl rfl (Nat.le_of_ble_eq_true rfl) (fun _ => rfl) ?_
  refine x8_bit_mono h (fun r4 s3 h => ?_)
  exact r_ireturn C dX8_fit_7 h
theorem x8_fit_ct (l : Launch) (ad : Nat → Nat) (cA : Nat → ClassId) (D : va_G)  (s : Mem) : MG l yX8_fit wsX8_fit x8_fit_rm ocI [.ref (ad 0)] (GB ad cA D) s (x8_fit  s) :=
  m_met (own := RX8) (nL := 1) (by decide) rfl rfl (Nat.le_of_ble_eq_true rfl) rfl rfl rfl (fun κ hl C Q Pst hW hQ => x8_fit_bd C (x8_fit_mono hW hQ))

def x8_suspect_be (X7 : Int → Int → Int → Int → Mem → Prop) (X29 : Int → Int → Int → Int → Int → Int → Mem → Prop) (Q : Int → Mem → Prop) (p1 : Int) (s : Mem) : Prop :=
  X7 p1 (0 : Int) (-1 : Int) (0 : Int) s
def x8_suspect_b7 (X7 : Int → Int → Int → Int → Mem → Prop) (X29 : Int → Int → Int → Int → Int → Int → Mem → Prop) (Q : Int → Mem → Prop) (x1 : Int) (x2 : Int) (x3 : Int) (x4 : Int) (s : Mem) : Prop :=
  (InI x4 ∧ InI (s 0 (0 : Int))) ∧ ((s 0 (0 : Int)) ≤ x4 → (InI x1 ∧ InI (-1 : Int)) ∧ (¬ x1 = (-1 : Int) → Q x3 s) ∧ (x1 = (-1 : Int) → Q x2 s)) ∧ (x4 < (s 0 (0 : Int)) → ((0 : Int) ≤ x4 ∧ x4 < 6) ∧ X29 x1 x2 x3 x4 (s 3 x4) (-3 : Int) s)
def x8_suspect_b29 (X7 : Int → Int → Int → Int → Mem → Prop) (X29 : Int → Int → Int → Int → Int → Int → Mem → Prop) (Q : Int → Mem → Prop) (x1 : Int) (x2 : Int) (x3 : Int) (x4 : Int) (x5 : Int) (x6 : Int) (s : Mem) : Prop :=
  (InI x6 ∧ InI (4 : Int)) ∧ ((4 : Int) ≤ x6 → ((0 : Int) ≤ x4 ∧ x4 < 6) ∧ ∀ s3 : Mem, s3 = m_upd s 3 x4 x5 → X7 x1 x2 x3 (x4 + (1 : Int)) s3) ∧ (x6 < (4 : Int) → InI x6 ∧ (x6 = (0 : Int) → X29 x1 x2 x3 x4 x5 (x6 + (1 : Int)) s) ∧ (¬ x6 = (0 : Int) → ((0 : Int) ≤ x4 ∧ x4 < 6) ∧ InI (s 5 x4) ∧ (¬ (s 5 x4) = (0 : Int) → X29 x1 x2 x3 x4 x5 (x6 + (1 : Int)) s) ∧ ((s 5 x4) = (0 : Int) → (InI (x5 + x6)) ∧ x8_in (x5 + x6) (0 : Int) (200 : Int) s (fun r5 s4 => InI r5 ∧ (r5 = (0 : Int) → X29 x1 x2 x3 x4 x5 (x6 + (1 : Int)) s4) ∧ (¬ r5 = (0 : Int) → ((0 : Int) ≤ x4 ∧ x4 < 6) ∧ ∀ s6 : Mem, s6 = m_upd s4 3 x4 (x5 + x6) → x8_isFit s6 (fun r8 s7 => InI r8 ∧ (r8 = (0 : Int) → X29 x1 x2 x3 x4 x5 (x6 + (1 : Int)) s7) ∧ (¬ r8 = (0 : Int) → (InI x2 ∧ InI x1) ∧ (¬ x2 = x1 → X29 x1 (x2 + (1 : Int)) x3 x4 x5 (x6 + (1 : Int)) s7) ∧ (x2 = x1 → ∀ v9 : Int, v9 = ((((10 : Int) * x4) + x6) + (3 : Int)) → X29 x1 (x2 + (1 : Int)) v9 x4 x5 (x6 + (1 : Int)) s7))))))))
theorem x8_suspect_me {X7 Y7 : Int → Int → Int → Int → Mem → Prop} {X29 Y29 : Int → Int → Int → Int → Int → Int → Mem → Prop} {Q R : Int → Mem → Prop} (hX7 : ∀ x1 x2 x3 x4 s, X7 x1 x2 x3 x4 s → Y7 x1 x2 x3 x4 s) (hX29 : ∀ x1 x2 x3 x4 x5 x6 s, X29 x1 x2 x3 x4 x5 x6 s → Y29 x1 x2 x3 x4 x5 x6 s) (hQ : ∀ r s, Q r s → R r s) {p1 : Int} {s : Mem} (h : x8_suspect_be X7 X29 Q p1 s) : x8_suspect_be Y7 Y29 R p1 s :=
  hX7 _ _ _ _ _ h
theorem x8_suspect_m7 {X7 Y7 : Int → Int → Int → Int → Mem → Prop} {X29 Y29 : Int → Int → Int → Int → Int → Int → Mem → Prop} {Q R : Int → Mem → Prop} (hX7 : ∀ x1 x2 x3 x4 s, X7 x1 x2 x3 x4 s → Y7 x1 x2 x3 x4 s) (hX29 : ∀ x1 x2 x3 x4 x5 x6 s, X29 x1 x2 x3 x4 x5 x6 s → Y29 x1 x2 x3 x4 x5 x6 s) (hQ : ∀ r s, Q r s → R r s) {x1 : Int} {x2 : Int} {x3 : Int} {x4 : Int} {s : Mem} (h : x8_suspect_b7 X7 X29 Q x1 x2 x3 x4 s) : x8_suspect_b7 Y7 Y29 R x1 x2 x3 x4 s :=
  ⟨h.1, fun c => have h := h.2.1 c; ⟨h.1, fun c => have h := h.2.1 c; hQ _ _ h, fun c => have h := h.2.2 c; hQ _ _ h⟩, fun c => have h := h.2.2 c; ⟨h.1, have h := h.2; hX29 _ _ _ _ _ _ _ h⟩⟩
theorem x8_suspect_m29 {X7 Y7 : Int → Int → Int → Int → Mem → Prop} {X29 Y29 : Int → Int → Int → Int → Int → Int → Mem → Prop} {Q R : Int → Mem → Prop} (hX7 : ∀ x1 x2 x3 x4 s, X7 x1 x2 x3 x4 s → Y7 x1 x2 x3 x4 s) (hX29 : ∀ x1 x2 x3 x4 x5 x6 s, X29 x1 x2 x3 x4 x5 x6 s → Y29 x1 x2 x3 x4 x5 x6 s) (hQ : ∀ r s, Q r s → R r s) {x1 : Int} {x2 : Int} {x3 : Int} {x4 : Int} {x5 : Int} {x6 : Int} {s : Mem} (h : x8_suspect_b29 X7 X29 Q x1 x2 x3 x4 x5 x6 s) : x8_suspect_b29 Y7 Y29 R x1 x2 x3 x4 x5 x6 s :=
  ⟨h.1, fun c => have h := h.2.1 c; ⟨h.1, have h := h.2; fun s3 e_s3 => have h := h s3 e_s3; hX7 _ _ _ _ _ h⟩, fun c => have h := h.2.2 c; ⟨h.1, fun c => have h := h.2.1 c; hX29 _ _ _ _ _ _ _ h, fun c => have h := h.2.2 c; ⟨h.1, have h := h.2; ⟨h.1, fun c => have h := h.2.1 c; hX29 _ _ _ _ _ _ _ h, fun c => have h := h.2.2 c; ⟨h.1, have h := h.2; x8_in_mono h (fun r5 s4 h => ⟨h.1, fun c => have h := h.2.1 c; hX29 _ _ _ _ _ _ _ h, fun c => have h := h.2.2 c; ⟨h.1, have h := h.2; fun s6 e_s6 => have h := h s6 e_s6; x8_isFit_mono h (fun r8 s7 h => ⟨h.1, fun c => have h := h.2.1 c; hX29 _ _ _ _ _ _ _ h, fun c => have h := h.2.2 c; ⟨h.1, fun c => have h := h.2.1 c; hX29 _ _ _ _ _ _ _ h, fun c => have h := h.2.2 c; fun v9 e_v9 => have h := h v9 e_v9; hX29 _ _ _ _ _ _ _ h⟩⟩)⟩⟩)⟩⟩⟩⟩⟩
def x8_suspect (p1 : Int) (s : Mem) (Q : Int → Mem → Prop) : Prop := ∀ (X7 : Int → Int → Int → Int → Mem → Prop) (X29 : Int → Int → Int → Int → Int → Int → Mem → Prop), (∀ x1 x2 x3 x4 s, x8_suspect_b7 X7 X29 Q x1 x2 x3 x4 s → X7 x1 x2 x3 x4 s) → (∀ x1 x2 x3 x4 x5 x6 s, x8_suspect_b29 X7 X29 Q x1 x2 x3 x4 x5 x6 s → X29 x1 x2 x3 x4 x5 x6 s) → x8_suspect_be X7 X29 Q p1 s
def x8_suspect_L7 (Q : Int → Mem → Prop) (x1 : Int) (x2 : Int) (x3 : Int) (x4 : Int) (s : Mem) : Prop := ∀ (X7 : Int → Int → Int → Int → Mem → Prop) (X29 : Int → Int → Int → Int → Int → Int → Mem → Prop), (∀ x1 x2 x3 x4 s, x8_suspect_b7 X7 X29 Q x1 x2 x3 x4 s → X7 x1 x2 x3 x4 s) → (∀ x1 x2 x3 x4 x5 x6 s, x8_suspect_b29 X7 X29 Q x1 x2 x3 x4 x5 x6 s → X29 x1 x2 x3 x4 x5 x6 s) → X7 x1 x2 x3 x4 s
def x8_suspect_L29 (Q : Int → Mem → Prop) (x1 : Int) (x2 : Int) (x3 : Int) (x4 : Int) (x5 : Int) (x6 : Int) (s : Mem) : Prop := ∀ (X7 : Int → Int → Int → Int → Mem → Prop) (X29 : Int → Int → Int → Int → Int → Int → Mem → Prop), (∀ x1 x2 x3 x4 s, x8_suspect_b7 X7 X29 Q x1 x2 x3 x4 s → X7 x1 x2 x3 x4 s) → (∀ x1 x2 x3 x4 x5 x6 s, x8_suspect_b29 X7 X29 Q x1 x2 x3 x4 x5 x6 s → X29 x1 x2 x3 x4 x5 x6 s) → X29 x1 x2 x3 x4 x5 x6 s
theorem x8_suspect_i {Q : Int → Mem → Prop} {p1 : Int} {s : Mem} (h : x8_suspect_be (x8_suspect_L7 Q) (x8_suspect_L29 Q) Q p1 s) : x8_suspect p1 s Q := fun X7 X29 k7 k29 => x8_suspect_me (fun _ _ _ _ _ h => h X7 X29 k7 k29) (fun _ _ _ _ _ _ _ h => h X7 X29 k7 k29) (fun _ _ h => h) h
theorem x8_suspect_s7 {Q : Int → Mem → Prop} {x1 : Int} {x2 : Int} {x3 : Int} {x4 : Int} {s : Mem} (h : x8_suspect_b7 (x8_suspect_L7 Q) (x8_suspect_L29 Q) Q x1 x2 x3 x4 s) : x8_suspect_L7 Q x1 x2 x3 x4 s := fun X7 X29 k7 k29 => k7 _ _ _ _ _ (x8_suspect_m7 (fun _ _ _ _ _ h => h X7 X29 k7 k29) (fun _ _ _ _ _ _ _ h => h X7 X29 k7 k29) (fun _ _ h => h) h)
theorem x8_suspect_s29 {Q : Int → Mem → Prop} {x1 : Int} {x2 : Int} {x3 : Int} {x4 : Int} {x5 : Int} {x6 : Int} {s : Mem} (h : x8_suspect_b29 (x8_suspect_L7 Q) (x8_suspect_L29 Q) Q x1 x2 x3 x4 x5 x6 s) : x8_suspect_L29 Q x1 x2 x3 x4 x5 x6 s := fun X7 X29 k7 k29 => k29 _ _ _ _ _ _ _ (x8_suspect_m29 (fun _ _ _ _ _ h => h X7 X29 k7 k29) (fun _ _ _ _ _ _ _ h => h X7 X29 k7 k29) (fun _ _ h => h) h)
theorem x8_suspect_mono {Q R : Int → Mem → Prop} {p1 : Int} {s : Mem} (h : x8_suspect p1 s Q) (hQ : ∀ r s, Q r s → R r s) : x8_suspect p1 s R := fun X7 X29 k7 k29 => x8_suspect_me (fun _ _ _ _ _ h => h) (fun _ _ _ _ _ _ _ h => h) hQ (h X7 X29 (fun _ _ _ _ _ h => k7 _ _ _ _ _ (x8_suspect_m7 (fun _ _ _ _ _ h => h) (fun _ _ _ _ _ _ _ h => h) hQ h)) (fun _ _ _ _ _ _ _ h => k29 _ _ _ _ _ _ _ (x8_suspect_m29 (fun _ _ _ _ _ h => h) (fun _ _ _ _ _ _ _ h => h) hQ h)))
def x8_suspect_rm : Room := { frames := 4, cells := 0, slots := 0, locals := 94 }
theorem w_x8_suspect_86 : Cond.fieldLink RX8 86 "BoltRingModel" "n" "I" ∈ wsX8_suspect := by decide +kernel
theorem w_x8_suspect_16 : Cond.fieldLink RX8 16 "BoltRingModel" "turns" "[I" ∈ wsX8_suspect := by decide +kernel
theorem w_x8_suspect_22 : Cond.fieldLink RX8 22 "BoltRingModel" "isBroken" "[Z" ∈ wsX8_suspect := by decide +kernel
theorem w_x8_suspect_111 : Cond.constantLong RX8 111 (200) ∈ wsX8_suspect := by decide +kernel
theorem in_x8_suspect_X8 : ∀ w ∈ wsX80, w ∈ wsX8_suspect := by decide +kernel
set_option maxHeartbeats 4000000 in
set_option maxRecDepth 100000 in
theorem x8_suspect_bd {κ : KT} {ad : Nat → Nat} {cA : Nat → ClassId} {D : va_G} {Q : State → Prop} {p1 : Int} {s : Mem} (C : CX κ (GB ad cA D) RX8 cX8_suspect 7 wsX8_suspect x8_suspect_rm (some .int)) (h : x8_suspect p1 s (RT κ (GB ad cA D) ocI Q)) : WM κ (GB ad cA D) 7 Q s 0 [(0, .ref (ad 0)), (1, vI p1)] [] := by
  obtain ⟨Z7, z7⟩ : ∃ Z : Int → Int → Int → Int → Mem → Prop, ∀ x1 x2 x3 x4 s, Z x1 x2 x3 x4 s ↔ WM κ (GB ad cA D) 7 Q s 7 [(0, .ref (ad 0)), (1, vI x1), (2, vI x2), (3, vI x3), (4, vI x4)] [] := ⟨fun x1 x2 x3 x4 s => WM κ (GB ad cA D) 7 Q s 7 [(0, .ref (ad 0)), (1, vI x1), (2, vI x2), (3, vI x3), (4, vI x4)] [], fun _ _ _ _ _ => Iff.rfl⟩
  obtain ⟨Z29, z29⟩ : ∃ Z : Int → Int → Int → Int → Int → Int → Mem → Prop, ∀ x1 x2 x3 x4 x5 x6 s, Z x1 x2 x3 x4 x5 x6 s ↔ WM κ (GB ad cA D) 7 Q s 29 [(0, .ref (ad 0)), (1, vI x1), (2, vI x2), (3, vI x3), (4, vI x4), (5, vI x5), (6, vI x6)] [] := ⟨fun x1 x2 x3 x4 x5 x6 s => WM κ (GB ad cA D) 7 Q s 29 [(0, .ref (ad 0)), (1, vI x1), (2, vI x2), (3, vI x3), (4, vI x4), (5, vI x5), (6, vI x6)] [], fun _ _ _ _ _ _ _ => Iff.rfl⟩
  refine (fun h => ?_) (h Z7 Z29 ?_ ?_)
  · refine r_iconst C dX8_suspect_0 ?_
    refine r_istore_n (ls' := [(2, vI (0 : Int)), (0, .ref (ad 0)), (1, vI p1)]) C dX8_suspect_1 rfl (by decide) rfl ?_
    refine r_iconst C dX8_suspect_2 ?_
    refine r_istore_n (ls' := [(3, vI (-1 : Int)), (2, vI (0 : Int)), (0, .ref (ad 0)), (1, vI p1)]) C dX8_suspect_3 rfl (by decide) rfl ?_
    refine r_iconst C dX8_suspect_4 ?_
    refine r_istore (ls' := [(4, vI (0 : Int)), (3, vI (-1 : Int)), (2, vI (0 : Int)), (0, .ref (ad 0)), (1, vI p1)]) C dX8_suspect_5 (by decide) rfl ?_
    exact r_perm [3, 4, 2, 1, 0] rfl ((z7 _ _ _ _ _).1 h)
  · intro x1 x2 x3 x4 s h
    refine (z7 _ _ _ _ _).2 ?_
    refine r_iload C 4 dX8_suspect_7 rfl ?_
    refine r_aload_n C 0 dX8_suspect_9 rfl ?_
    refine r_get (j := 0) (jz := 0) (v := vI (s 0 (0 : Int))) C dX8_suspect_10 (shB_0) rfl rfl (by decide) in_x8_suspect_X8 w_x8_suspect_86 rfl rfl rfl ?_
    refine r_icmp_ge (tgt := 129) C dX8_suspect_13 (by decide) ⟨h.1, fun c2 => ?_, fun c2 => ?_⟩
    · have h := h.2.1 c2
      refine r_iload_n C 1 dX8_suspect_129 rfl ?_
      refine r_iconst C dX8_suspect_130 ?_
      refine r_icmp_ne (tgt := 138) C dX8_suspect_131 (by decide) ⟨h.1, fun c1 => ?_, fun c1 => ?_⟩
      · have h := h.2.1 c1
        refine r_iload_n C 3 dX8_suspect_138 rfl ?_
        exact r_ireturn C dX8_suspect_139 h
      · have h := h.2.2 c1
        refine r_iload_n C 2 dX8_suspect_134 rfl ?_
        refine r_goto (tgt := 139) C dX8_suspect_135 (by decide) ?_
        exact r_ireturn C dX8_suspect_139 h
    · have h := h.2.2 c2
      refine r_aload_n C 0 dX8_suspect_16 rfl ?_
      refine r_get (j := 4) (jz := 4) (v := .ref (ad 3)) C dX8_suspect_17 (shB_0) rfl rfl (by decide) in_x8_suspect_X8 w_x8_suspect_16 rfl rfl rfl ?_
      refine r_iload C 4 dX8_suspect_20 rfl ?_
      refine r_iald (nz := 6) C dX8_suspect_22 (shB_3) rfl (by decide) ⟨h.1, ?_⟩
      have h := h.2
      refine r_istore (ls' := [(5, vI (s 3 x4)), (0, .ref (ad 0)), (1, vI x1), (2, vI x2), (3, vI x3), (4, vI x4)]) C dX8_suspect_23 (by decide) rfl ?_
      refine r_bipush C dX8_suspect_25 (by decide) ?_
      refine r_istore (ls' := [(6, vI (-3 : Int)), (5, vI (s 3 x4)), (0, .ref (ad 0)), (1, vI x1), (2, vI x2), (3, vI x3), (4, vI x4)]) C dX8_suspect_27 (by decide) rfl ?_
      exact r_perm [2, 3, 4, 5, 6, 1, 0] rfl ((z29 _ _ _ _ _ _ _).1 h)
  · intro x1 x2 x3 x4 x5 x6 s h
    refine (z29 _ _ _ _ _ _ _).2 ?_
    refine r_iload C 6 dX8_suspect_29 rfl ?_
    refine r_iconst C dX8_suspect_31 ?_
    refine r_icmp_ge (tgt := 114) C dX8_suspect_32 (by decide) ⟨h.1, fun c15 => ?_, fun c15 => ?_⟩
    · have h := h.2.1 c15
      refine r_aload_n C 0 dX8_suspect_114 rfl ?_
      refine r_get (j := 4) (jz := 4) (v := .ref (ad 3)) C dX8_suspect_115 (shB_0) rfl rfl (by decide) in_x8_suspect_X8 w_x8_suspect_16 rfl rfl rfl ?_
      refine r_iload C 4 dX8_suspect_118 rfl ?_
      refine r_iload C 5 dX8_suspect_120 rfl ?_
      refine r_iast (nz := 6) C dX8_suspect_122 (shB_3) rfl (by decide) ⟨h.1, fun s3 e_s3 => ?_⟩
      have h := h.2 s3 e_s3
      refine r_iinc (j := 4) (ls' := [(4, vI (x4 + (1 : Int))), (0, .ref (ad 0)), (1, vI x1), (2, vI x2), (3, vI x3), (5, vI x5), (6, vI x6)]) C dX8_suspect_123 rfl (by decide) rfl ?_
      refine r_goto (tgt := 7) C dX8_suspect_126 (by decide) ?_
      exact r_perm [1, 2, 3, 4, 0] rfl ((z7 _ _ _ _ _).1 h)
    · have h := h.2.2 c15
      refine r_iload C 6 dX8_suspect_35 rfl ?_
      refine r_if_eq (tgt := 108) C dX8_suspect_37 (by decide) ⟨h.1, fun c14 => ?_, fun c14 => ?_⟩
      · have h := h.2.1 c14
        refine r_iinc (j := 6) (ls' := [(6, vI (x6 + (1 : Int))), (0, .ref (ad 0)), (1, vI x1), (2, vI x2), (3, vI x3), (4, vI x4), (5, vI x5)]) C dX8_suspect_108 rfl (by decide) rfl ?_
        refine r_goto (tgt := 29) C dX8_suspect_111 (by decide) ?_
        exact r_perm [1, 2, 3, 4, 5, 6, 0] rfl ((z29 _ _ _ _ _ _ _).1 h)
      · have h := h.2.2 c14
        refine r_aload_n C 0 dX8_suspect_40 rfl ?_
        refine r_get (j := 6) (jz := 6) (v := .ref (ad 5)) C dX8_suspect_41 (shB_0) rfl rfl (by decide) in_x8_suspect_X8 w_x8_suspect_22 rfl rfl rfl ?_
        refine r_iload C 4 dX8_suspect_44 rfl ?_
        refine r_zald (nz := 6) C dX8_suspect_46 (shB_5) rfl (by decide) ⟨h.1, ?_⟩
        have h := h.2
        refine r_if_ne (tgt := 108) C dX8_suspect_47 (by decide) ⟨h.1, fun c13 => ?_, fun c13 => ?_⟩
        · have h := h.2.1 c13
          refine r_iinc (j := 6) (ls' := [(6, vI (x6 + (1 : Int))), (0, .ref (ad 0)), (1, vI x1), (2, vI x2), (3, vI x3), (4, vI x4), (5, vI x5)]) C dX8_suspect_108 rfl (by decide) rfl ?_
          refine r_goto (tgt := 29) C dX8_suspect_111 (by decide) ?_
          exact r_perm [1, 2, 3, 4, 5, 6, 0] rfl ((z29 _ _ _ _ _ _ _).1 h)
        · have h := h.2.2 c13
          refine r_iload C 5 dX8_suspect_50 rfl ?_
          refine r_iload C 6 dX8_suspect_52 rfl ?_
          refine r_iadd C dX8_suspect_54 ?_
          refine r_i2l C dX8_suspect_55 ⟨h.1, ?_⟩
          have h := h.2
          refine r_lconst (z := 0) C dX8_suspect_56 rfl ?_
          refine r_ldc2 (z := 200) C dX8_suspect_57 w_x8_suspect_111 rfl ?_
          refine r_callS (As := [vL (x5 + x6), vL (0 : Int), vL (200 : Int)]) (n := 3) C dX8_suspect_60 (x8_in_ct κ.1.2.1 ad cA D (x5 + x6) (0 : Int) (200 : Int) s) gX8_suspect_X8_in rfl ⟨rfl, rfl⟩ (by decide +kernel) (by decide) rfl rfl (Nat.le_of_ble_eq_true rfl) (fun _ => rfl) ?_
          refine x8_in_mono h (fun r5 s4 h => ?_)
          refine r_if_eq (tgt := 108) C dX8_suspect_63 (by decide) ⟨h.1, fun c12 => ?_, fun c12 => ?_⟩
          · have h := h.2.1 c12
            refine r_iinc (j := 6) (ls' := [(6, vI (x6 + (1 : Int))), (0, .ref (ad 0)), (1, vI x1), (2, vI x2), (3, vI x3), (4, vI x4), (5, vI x5)]) C dX8_suspect_108 rfl (by decide) rfl ?_
            refine r_goto (tgt := 29) C dX8_suspect_111 (by decide) ?_
            exact r_perm [1, 2, 3, 4, 5, 6, 0] rfl ((z29 _ _ _ _ _ _ _).1 h)
          · have h := h.2.2 c12
            refine r_aload_n C 0 dX8_suspect_66 rfl ?_
            refine r_get (j := 4) (jz := 4) (v := .ref (ad 3)) C dX8_suspect_67 (shB_0) rfl rfl (by decide) in_x8_suspect_X8 w_x8_suspect_16 rfl rfl rfl ?_
            refine r_iload C 4 dX8_suspect_70 rfl ?_
            refine r_iload C 5 dX8_suspect_72 rfl ?_
            refine r_iload C 6 dX8_suspect_74 rfl ?_
            refine r_iadd C dX8_suspect_76 ?_
            refine r_iast (nz := 6) C dX8_suspect_77 (shB_3) rfl (by decide) ⟨h.1, fun s6 e_s6 => ?_⟩
            have h := h.2 s6 e_s6
            refine r_aload_n C 0 dX8_suspect_78 rfl ?_
            refine r_callV (As := []) (o := 0) (n := 0) C dX8_suspect_79 (x8_isFit_ct κ.1.2.1 ad cA D s6) gX8_suspect_X8_isFit rfl ⟨rfl, rfl⟩ (by decide +kernel) (by decide) (shB_0) rfl rfl rfl (Nat.le_of_ble_eq_true rfl) (fun _ => rfl) ?_
            refine x8_isFit_mono h (fun r8 s7 h => ?_)
            refine r_if_eq (tgt := 108) C dX8_suspect_82 (by decide) ⟨h.1, fun c11 => ?_, fun c11 => ?_⟩
            · have h := h.2.1 c11
              refine r_iinc (j := 6) (ls' := [(6, vI (x6 + (1 : Int))), (0, .ref (ad 0)), (1, vI x1), (2, vI x2), (3, vI x3), (4, vI x4), (5, vI x5)]) C dX8_suspect_108 rfl (by decide) rfl ?_
              refine r_goto (tgt := 29) C dX8_suspect_111 (by decide) ?_
              exact r_perm [1, 2, 3, 4, 5, 6, 0] rfl ((z29 _ _ _ _ _ _ _).1 h)
            · have h := h.2.2 c11
              refine r_iload_n C 2 dX8_suspect_85 rfl ?_
              refine r_iload_n C 1 dX8_suspect_86 rfl ?_
              refine r_icmp_ne (tgt := 103) C dX8_suspect_87 (by decide) ⟨h.1, fun c10 => ?_, fun c10 => ?_⟩
              · have h := h.2.1 c10
                refine r_iload_n C 3 dX8_suspect_103 rfl ?_
                refine r_istore_n (ls' := [(3, vI x3), (0, .ref (ad 0)), (1, vI x1), (2, vI x2), (4, vI x4), (5, vI x5), (6, vI x6)]) C dX8_suspect_104 rfl (by decide) rfl ?_
                refine r_iinc (j := 3) (ls' := [(2, vI (x2 + (1 : Int))), (3, vI x3), (0, .ref (ad 0)), (1, vI x1), (4, vI x4), (5, vI x5), (6, vI x6)]) C dX8_suspect_105 rfl (by decide) rfl ?_
                refine r_iinc (j := 6) (ls' := [(6, vI (x6 + (1 : Int))), (2, vI (x2 + (1 : Int))), (3, vI x3), (0, .ref (ad 0)), (1, vI x1), (4, vI x4), (5, vI x5)]) C dX8_suspect_108 rfl (by decide) rfl ?_
                refine r_goto (tgt := 29) C dX8_suspect_111 (by decide) ?_
                exact r_perm [3, 4, 1, 2, 5, 6, 0] rfl ((z29 _ _ _ _ _ _ _).1 h)
              · have h := h.2.2 c10
                refine r_bipush C dX8_suspect_90 (by decide) ?_
                refine r_iload C 4 dX8_suspect_92 rfl ?_
                refine r_imul C dX8_suspect_94 ?_
                refine r_iload C 6 dX8_suspect_95 rfl ?_
                refine r_iadd C dX8_suspect_97 ?_
                refine r_iconst C dX8_suspect_98 ?_
                refine r_iadd C dX8_suspect_99 ?_
                refine r_goto (tgt := 104) C dX8_suspect_100 (by decide) ?_
                refine r_topI (fun v9 e_v9 => ?_)
                have h := h v9 e_v9
                refine r_istore_n (ls' := [(3, vI v9), (0, .ref (ad 0)), (1, vI x1), (2, vI x2), (4, vI x4), (5, vI x5), (6, vI x6)]) C dX8_suspect_104 rfl (by decide) rfl ?_
                refine r_iinc (j := 3) (ls' := [(2, vI (x2 + (1 : Int))), (3, vI v9), (0, .ref (ad 0)), (1, vI x1), (4, vI x4), (5, vI x5), (6, vI x6)]) C dX8_suspect_105 rfl (by decide) rfl ?_
                refine r_iinc (j := 6) (ls' := [(6, vI (x6 + (1 : Int))), (2, vI (x2 + (1 : Int))), (3, vI v9), (0, .ref (ad 0)), (1, vI x1), (4, vI x4), (5, vI x5)]) C dX8_suspect_108 rfl (by decide) rfl ?_
                refine r_goto (tgt := 29) C dX8_suspect_111 (by decide) ?_
                exact r_perm [3, 4, 1, 2, 5, 6, 0] rfl ((z29 _ _ _ _ _ _ _).1 h)
theorem x8_suspect_ct (l : Launch) (ad : Nat → Nat) (cA : Nat → ClassId) (D : va_G) (p1 : Int) (s : Mem) : MG l yX8_suspect wsX8_suspect x8_suspect_rm ocI [.ref (ad 0), vI p1] (GB ad cA D) s (x8_suspect p1 s) :=
  m_met (own := RX8) (nL := 7) (by decide) rfl rfl (Nat.le_of_ble_eq_true rfl) rfl rfl rfl (fun κ hl C Q Pst hW hQ => x8_suspect_bd C (x8_suspect_mono hW hQ))

def x8_feed_be (X35 : Int → Int → Mem → Prop) (Q : Int → Mem → Prop) (p1 : Int) (p2 : Int) (s : Mem) : Prop :=
  (InI p1) ∧ x8_in p1 (1 : Int) (8 : Int) s (fun r2 s1 => InI r2 ∧ (¬ r2 = (0 : Int) → (InI ((s1 0 (30 : Int)) + p1) ∧ InI (160 : Int)) ∧ (((s1 0 (30 : Int)) + p1) ≤ (160 : Int) → X35 p2 (p1 - (1 : Int)) s1) ∧ ((160 : Int) < ((s1 0 (30 : Int)) + p1) → Q (-100004 : Int) s1)) ∧ (r2 = (0 : Int) → Q (-100002 : Int) s1))
def x8_feed_b35 (X35 : Int → Int → Mem → Prop) (Q : Int → Mem → Prop) (x2 : Int) (x4 : Int) (s : Mem) : Prop :=
  InI x4 ∧ (x4 < (0 : Int) → Q (s 0 (30 : Int)) s) ∧ ((0 : Int) ≤ x4 → ((0 : Int) ≤ (s 0 (30 : Int)) ∧ (s 0 (30 : Int)) < 160) ∧ ∀ s5 : Mem, s5 = m_upd s 19 (s 0 (30 : Int)) (andL (shrL x2 ((8 : Int) * x4)) (255 : Int)) → ∀ s6 : Mem, s6 = m_upd s5 0 (30 : Int) ((s5 0 (30 : Int)) + (1 : Int)) → X35 x2 (x4 + (-1 : Int)) s6)
theorem x8_feed_me {X35 Y35 : Int → Int → Mem → Prop} {Q R : Int → Mem → Prop} (hX35 : ∀ x2 x4 s, X35 x2 x4 s → Y35 x2 x4 s) (hQ : ∀ r s, Q r s → R r s) {p1 : Int} {p2 : Int} {s : Mem} (h : x8_feed_be X35 Q p1 p2 s) : x8_feed_be Y35 R p1 p2 s :=
  ⟨h.1, have h := h.2; x8_in_mono h (fun r2 s1 h => ⟨h.1, fun c => have h := h.2.1 c; ⟨h.1, fun c => have h := h.2.1 c; hX35 _ _ _ h, fun c => have h := h.2.2 c; hQ _ _ h⟩, fun c => have h := h.2.2 c; hQ _ _ h⟩)⟩
theorem x8_feed_m35 {X35 Y35 : Int → Int → Mem → Prop} {Q R : Int → Mem → Prop} (hX35 : ∀ x2 x4 s, X35 x2 x4 s → Y35 x2 x4 s) (hQ : ∀ r s, Q r s → R r s) {x2 : Int} {x4 : Int} {s : Mem} (h : x8_feed_b35 X35 Q x2 x4 s) : x8_feed_b35 Y35 R x2 x4 s :=
  ⟨h.1, fun c => have h := h.2.1 c; hQ _ _ h, fun c => have h := h.2.2 c; ⟨h.1, have h := h.2; fun s5 e_s5 => have h := h s5 e_s5; fun s6 e_s6 => have h := h s6 e_s6; hX35 _ _ _ h⟩⟩
def x8_feed (p1 : Int) (p2 : Int) (s : Mem) (Q : Int → Mem → Prop) : Prop := ∀ (X35 : Int → Int → Mem → Prop), (∀ x2 x4 s, x8_feed_b35 X35 Q x2 x4 s → X35 x2 x4 s) → x8_feed_be X35 Q p1 p2 s
def x8_feed_L35 (Q : Int → Mem → Prop) (x2 : Int) (x4 : Int) (s : Mem) : Prop := ∀ (X35 : Int → Int → Mem → Prop), (∀ x2 x4 s, x8_feed_b35 X35 Q x2 x4 s → X35 x2 x4 s) → X35 x2 x4 s
theorem x8_feed_i {Q : Int → Mem → Prop} {p1 : Int} {p2 : Int} {s : Mem} (h : x8_feed_be (x8_feed_L35 Q) Q p1 p2 s) : x8_feed p1 p2 s Q := fun X35 k35 => x8_feed_me (fun _ _ _ h => h X35 k35) (fun _ _ h => h) h
theorem x8_feed_s35 {Q : Int → Mem → Prop} {x2 : Int} {x4 : Int} {s : Mem} (h : x8_feed_b35 (x8_feed_L35 Q) Q x2 x4 s) : x8_feed_L35 Q x2 x4 s := fun X35 k35 => k35 _ _ _ (x8_feed_m35 (fun _ _ _ h => h X35 k35) (fun _ _ h => h) h)
theorem x8_feed_mono {Q R : Int → Mem → Prop} {p1 : Int} {p2 : Int} {s : Mem} (h : x8_feed p1 p2 s Q) (hQ : ∀ r s, Q r s → R r s) : x8_feed p1 p2 s R := fun X35 k35 => x8_feed_me (fun _ _ _ h => h) hQ (h X35 (fun _ _ _ h => k35 _ _ _ (x8_feed_m35 (fun _ _ _ h => h) hQ h)))
def x8_feed_rm : Room := { frames := 1, cells := 0, slots := 0, locals := 25 }
theorem w_x8_feed_256 : Cond.constantLong RX8 256 (8) ∈ wsX8_feed := by decide +kernel
theorem w_x8_feed_163 : Cond.fieldLink RX8 163 "BoltRingModel" "textSize" "I" ∈ wsX8_feed := by decide +kernel
theorem w_x8_feed_220 : Cond.constant RX8 220 (-100004) ∈ wsX8_feed := by decide +kernel
theorem w_x8_feed_105 : Cond.constant RX8 105 (-100002) ∈ wsX8_feed := by decide +kernel
theorem w_x8_feed_66 : Cond.fieldLink RX8 66 "BoltRingModel" "text" "[I" ∈ wsX8_feed := by decide +kernel
theorem w_x8_feed_258 : Cond.constantLong RX8 258 (255) ∈ wsX8_feed := by decide +kernel
theorem in_x8_feed_X8 : ∀ w ∈ wsX80, w ∈ wsX8_feed := by decide +kernel
set_option maxHeartbeats 4000000 in
set_option maxRecDepth 100000 in
theorem x8_feed_bd {κ : KT} {ad : Nat → Nat} {cA : Nat → ClassId} {D : va_G} {Q : State → Prop} {p1 : Int} {p2 : Int} {s : Mem} (C : CX κ (GB ad cA D) RX8 cX8_feed 5 wsX8_feed x8_feed_rm (some .int)) (h : x8_feed p1 p2 s (RT κ (GB ad cA D) ocI Q)) : WM κ (GB ad cA D) 5 Q s 0 [(0, .ref (ad 0)), (1, vI p1), (2, vL p2)] [] := by
  obtain ⟨Z35, z35⟩ : ∃ Z : Int → Int → Mem → Prop, ∀ x2 x4 s, Z x2 x4 s ↔ WM κ (GB ad cA D) 5 Q s 35 [(0, .ref (ad 0)), (2, vL x2), (4, vI x4)] [] := ⟨fun x2 x4 s => WM κ (GB ad cA D) 5 Q s 35 [(0, .ref (ad 0)), (2, vL x2), (4, vI x4)] [], fun _ _ _ => Iff.rfl⟩
  refine (fun h => ?_) (h Z35 ?_)
  · refine r_iload_n C 1 dX8_feed_0 rfl ?_
    refine r_i2l C dX8_feed_1 ⟨h.1, ?_⟩
    have h := h.2
    refine r_lconst (z := 1) C dX8_feed_2 rfl ?_
    refine r_ldc2 (z := 8) C dX8_feed_3 w_x8_feed_256 rfl ?_
    refine r_callS (As := [vL p1, vL (1 : Int), vL (8 : Int)]) (n := 3) C dX8_feed_6 (x8_in_ct κ.1.2.1 ad cA D p1 (1 : Int) (8 : Int) s) gX8_feed_X8_in rfl ⟨rfl, rfl⟩ (by decide +kernel) (by decide) rfl rfl (Nat.le_of_ble_eq_true rfl) (fun _ => rfl) ?_
    refine x8_in_mono h (fun r2 s1 h => ?_)
    refine r_if_ne (tgt := 15) C dX8_feed_9 (by decide) ⟨h.1, fun c4 => ?_, fun c4 => ?_⟩
    · have h := h.2.1 c4
      refine r_aload_n C 0 dX8_feed_15 rfl ?_
      refine r_get (j := 30) (jz := 30) (v := vI (s1 0 (30 : Int))) C dX8_feed_16 (shB_0) rfl rfl (by decide) in_x8_feed_X8 w_x8_feed_163 rfl rfl rfl ?_
      refine r_iload_n C 1 dX8_feed_19 rfl ?_
      refine r_iadd C dX8_feed_20 ?_
      refine r_sipush C dX8_feed_21 (by decide) ?_
      refine r_icmp_le (tgt := 30) C dX8_feed_24 (by decide) ⟨h.1, fun c3 => ?_, fun c3 => ?_⟩
      · have h := h.2.1 c3
        refine r_iload_n C 1 dX8_feed_30 rfl ?_
        refine r_iconst C dX8_feed_31 ?_
        refine r_isub C dX8_feed_32 ?_
        refine r_istore (ls' := [(4, vI (p1 - (1 : Int))), (0, .ref (ad 0)), (1, vI p1), (2, vL p2)]) C dX8_feed_33 (by decide) rfl ?_
        exact r_perm [1, 3, 0] rfl ((z35 _ _ _).1 h)
      · have h := h.2.2 c3
        refine r_ldc (z := -100004) C dX8_feed_27 w_x8_feed_220 rfl ?_
        exact r_ireturn C dX8_feed_29 h
    · have h := h.2.2 c4
      refine r_ldc (z := -100002) C dX8_feed_12 w_x8_feed_105 rfl ?_
      exact r_ireturn C dX8_feed_14 h
  · intro x2 x4 s h
    refine (z35 _ _ _).2 ?_
    refine r_iload C 2 dX8_feed_35 rfl ?_
    refine r_if_lt (tgt := 77) C dX8_feed_37 (by decide) ⟨h.1, fun c7 => ?_, fun c7 => ?_⟩
    · have h := h.2.1 c7
      refine r_aload_n C 0 dX8_feed_77 rfl ?_
      refine r_get (j := 30) (jz := 30) (v := vI (s 0 (30 : Int))) C dX8_feed_78 (shB_0) rfl rfl (by decide) in_x8_feed_X8 w_x8_feed_163 rfl rfl rfl ?_
      exact r_ireturn C dX8_feed_81 h
    · have h := h.2.2 c7
      refine r_aload_n C 0 dX8_feed_40 rfl ?_
      refine r_get (j := 29) (jz := 29) (v := .ref (ad 19)) C dX8_feed_41 (shB_0) rfl rfl (by decide) in_x8_feed_X8 w_x8_feed_66 rfl rfl rfl ?_
      refine r_aload_n C 0 dX8_feed_44 rfl ?_
      refine r_get (j := 30) (jz := 30) (v := vI (s 0 (30 : Int))) C dX8_feed_45 (shB_0) rfl rfl (by decide) in_x8_feed_X8 w_x8_feed_163 rfl rfl rfl ?_
      refine r_lload_n C 1 dX8_feed_48 rfl ?_
      refine r_bipush C dX8_feed_49 (by decide) ?_
      refine r_iload C 2 dX8_feed_51 rfl ?_
      refine r_imul C dX8_feed_53 ?_
      refine r_lshr C dX8_feed_54 ?_
      refine r_ldc2 (z := 255) C dX8_feed_55 w_x8_feed_258 rfl ?_
      refine r_land C dX8_feed_58 ?_
      refine r_l2i C dX8_feed_59 ?_
      refine r_iast (nz := 160) C dX8_feed_60 (shB_19) rfl (by decide) ⟨h.1, fun s5 e_s5 => ?_⟩
      have h := h.2 s5 e_s5
      refine r_aload_n C 0 dX8_feed_61 rfl ?_
      refine r_dup C dX8_feed_62 rfl ?_
      refine r_get (j := 30) (jz := 30) (v := vI (s5 0 (30 : Int))) C dX8_feed_63 (shB_0) rfl rfl (by decide) in_x8_feed_X8 w_x8_feed_163 rfl rfl rfl ?_
      refine r_iconst C dX8_feed_66 ?_
      refine r_iadd C dX8_feed_67 ?_
      refine r_puti (j := 30) (jz := 30) C dX8_feed_68 (shB_0) rfl rfl (by decide) in_x8_feed_X8 tyX8 tyX8_ok nmX8 w_x8_feed_163 rfl rfl (by decide +kernel) rfl (fun s6 e_s6 => ?_)
      have h := h s6 e_s6
      refine r_iinc (j := 2) (ls' := [(4, vI (x4 + (-1 : Int))), (0, .ref (ad 0)), (2, vL x2)]) C dX8_feed_71 rfl (by decide) rfl ?_
      refine r_goto (tgt := 35) C dX8_feed_74 (by decide) ?_
      exact r_perm [1, 2, 0] rfl ((z35 _ _ _).1 h)
theorem x8_feed_ct (l : Launch) (ad : Nat → Nat) (cA : Nat → ClassId) (D : va_G) (p1 : Int) (p2 : Int) (s : Mem) : MG l yX8_feed wsX8_feed x8_feed_rm ocI [.ref (ad 0), vI p1, vL p2] (GB ad cA D) s (x8_feed p1 p2 s) :=
  m_met (own := RX8) (nL := 5) (by decide) rfl rfl (Nat.le_of_ble_eq_true rfl) rfl rfl rfl (fun κ hl C Q Pst hW hQ => x8_feed_bd C (x8_feed_mono hW hQ))

def x8_here_be (X0 : Mem → Prop) (X38 : Mem → Prop) (Q : Int → Mem → Prop)  (s : Mem) : Prop :=
  (InI (s 0 (31 : Int)) ∧ InI (s 0 (30 : Int))) ∧ ((s 0 (30 : Int)) ≤ (s 0 (31 : Int)) → X38 s) ∧ ((s 0 (31 : Int)) < (s 0 (30 : Int)) → ((0 : Int) ≤ (s 0 (31 : Int)) ∧ (s 0 (31 : Int)) < 160) ∧ (InI (s 19 (s 0 (31 : Int))) ∧ InI (32 : Int)) ∧ (¬ (s 19 (s 0 (31 : Int))) = (32 : Int) → X38 s) ∧ ((s 19 (s 0 (31 : Int))) = (32 : Int) → ∀ s1 : Mem, s1 = m_upd s 0 (31 : Int) ((s 0 (31 : Int)) + (1 : Int)) → X0 s1))
def x8_here_b0 (X0 : Mem → Prop) (X38 : Mem → Prop) (Q : Int → Mem → Prop)  (s : Mem) : Prop :=
  (InI (s 0 (31 : Int)) ∧ InI (s 0 (30 : Int))) ∧ ((s 0 (30 : Int)) ≤ (s 0 (31 : Int)) → X38 s) ∧ ((s 0 (31 : Int)) < (s 0 (30 : Int)) → ((0 : Int) ≤ (s 0 (31 : Int)) ∧ (s 0 (31 : Int)) < 160) ∧ (InI (s 19 (s 0 (31 : Int))) ∧ InI (32 : Int)) ∧ (¬ (s 19 (s 0 (31 : Int))) = (32 : Int) → X38 s) ∧ ((s 19 (s 0 (31 : Int))) = (32 : Int) → ∀ s1 : Mem, s1 = m_upd s 0 (31 : Int) ((s 0 (31 : Int)) + (1 : Int)) → X0 s1))
def x8_here_b38 (X0 : Mem → Prop) (X38 : Mem → Prop) (Q : Int → Mem → Prop)  (s : Mem) : Prop :=
  (InI (s 0 (31 : Int)) ∧ InI (s 0 (30 : Int))) ∧ ((s 0 (30 : Int)) ≤ (s 0 (31 : Int)) → Q (-1 : Int) s) ∧ ((s 0 (31 : Int)) < (s 0 (30 : Int)) → ((0 : Int) ≤ (s 0 (31 : Int)) ∧ (s 0 (31 : Int)) < 160) ∧ Q (s 19 (s 0 (31 : Int))) s)
theorem x8_here_me {X0 Y0 : Mem → Prop} {X38 Y38 : Mem → Prop} {Q R : Int → Mem → Prop} (hX0 : ∀ s, X0 s → Y0 s) (hX38 : ∀ s, X38 s → Y38 s) (hQ : ∀ r s, Q r s → R r s)  {s : Mem} (h : x8_here_be X0 X38 Q  s) : x8_here_be Y0 Y38 R  s :=
  ⟨h.1, fun c => have h := h.2.1 c; hX38 _ h, fun c => have h := h.2.2 c; ⟨h.1, have h := h.2; ⟨h.1, fun c => have h := h.2.1 c; hX38 _ h, fun c => have h := h.2.2 c; fun s1 e_s1 => have h := h s1 e_s1; hX0 _ h⟩⟩⟩
theorem x8_here_m0 {X0 Y0 : Mem → Prop} {X38 Y38 : Mem → Prop} {Q R : Int → Mem → Prop} (hX0 : ∀ s, X0 s → Y0 s) (hX38 : ∀ s, X38 s → Y38 s) (hQ : ∀ r s, Q r s → R r s)  {s : Mem} (h : x8_here_b0 X0 X38 Q  s) : x8_here_b0 Y0 Y38 R  s :=
  ⟨h.1, fun c => have h := h.2.1 c; hX38 _ h, fun c => have h := h.2.2 c; ⟨h.1, have h := h.2; ⟨h.1, fun c => have h := h.2.1 c; hX38 _ h, fun c => have h := h.2.2 c; fun s1 e_s1 => have h := h s1 e_s1; hX0 _ h⟩⟩⟩
theorem x8_here_m38 {X0 Y0 : Mem → Prop} {X38 Y38 : Mem → Prop} {Q R : Int → Mem → Prop} (hX0 : ∀ s, X0 s → Y0 s) (hX38 : ∀ s, X38 s → Y38 s) (hQ : ∀ r s, Q r s → R r s)  {s : Mem} (h : x8_here_b38 X0 X38 Q  s) : x8_here_b38 Y0 Y38 R  s :=
  ⟨h.1, fun c => have h := h.2.1 c; hQ _ _ h, fun c => have h := h.2.2 c; ⟨h.1, have h := h.2; hQ _ _ h⟩⟩
def x8_here  (s : Mem) (Q : Int → Mem → Prop) : Prop := ∀ (X0 : Mem → Prop) (X38 : Mem → Prop), (∀ s, x8_here_b0 X0 X38 Q s → X0 s) → (∀ s, x8_here_b38 X0 X38 Q s → X38 s) → x8_here_be X0 X38 Q  s
def x8_here_L0 (Q : Int → Mem → Prop)  (s : Mem) : Prop := ∀ (X0 : Mem → Prop) (X38 : Mem → Prop), (∀ s, x8_here_b0 X0 X38 Q s → X0 s) → (∀ s, x8_here_b38 X0 X38 Q s → X38 s) → X0  s
def x8_here_L38 (Q : Int → Mem → Prop)  (s : Mem) : Prop := ∀ (X0 : Mem → Prop) (X38 : Mem → Prop), (∀ s, x8_here_b0 X0 X38 Q s → X0 s) → (∀ s, x8_here_b38 X0 X38 Q s → X38 s) → X38  s
theorem x8_here_i {Q : Int → Mem → Prop}  {s : Mem} (h : x8_here_be (x8_here_L0 Q) (x8_here_L38 Q) Q  s) : x8_here  s Q := fun X0 X38 k0 k38 => x8_here_me (fun _ h => h X0 X38 k0 k38) (fun _ h => h X0 X38 k0 k38) (fun _ _ h => h) h
theorem x8_here_s0 {Q : Int → Mem → Prop}  {s : Mem} (h : x8_here_b0 (x8_here_L0 Q) (x8_here_L38 Q) Q  s) : x8_here_L0 Q  s := fun X0 X38 k0 k38 => k0  _ (x8_here_m0 (fun _ h => h X0 X38 k0 k38) (fun _ h => h X0 X38 k0 k38) (fun _ _ h => h) h)
theorem x8_here_s38 {Q : Int → Mem → Prop}  {s : Mem} (h : x8_here_b38 (x8_here_L0 Q) (x8_here_L38 Q) Q  s) : x8_here_L38 Q  s := fun X0 X38 k0 k38 => k38  _ (x8_here_m38 (fun _ h => h X0 X38 k0 k38) (fun _ h => h X0 X38 k0 k38) (fun _ _ h => h) h)
theorem x8_here_mono {Q R : Int → Mem → Prop}  {s : Mem} (h : x8_here  s Q) (hQ : ∀ r s, Q r s → R r s) : x8_here  s R := fun X0 X38 k0 k38 => x8_here_me (fun _ h => h) (fun _ h => h) hQ (h X0 X38 (fun _ h => k0  _ (x8_here_m0 (fun _ h => h) (fun _ h => h) hQ h)) (fun _ h => k38  _ (x8_here_m38 (fun _ h => h) (fun _ h => h) hQ h)))
def x8_here_rm : Room := { frames := 0, cells := 0, slots := 0, locals := 0 }
theorem w_x8_here_260 : Cond.fieldLink RX8 260 "BoltRingModel" "at" "I" ∈ wsX8_here := by decide +kernel
theorem w_x8_here_163 : Cond.fieldLink RX8 163 "BoltRingModel" "textSize" "I" ∈ wsX8_here := by decide +kernel
theorem w_x8_here_66 : Cond.fieldLink RX8 66 "BoltRingModel" "text" "[I" ∈ wsX8_here := by decide +kernel
theorem in_x8_here_X8 : ∀ w ∈ wsX80, w ∈ wsX8_here := by decide +kernel
set_option maxHeartbeats 4000000 in
set_option maxRecDepth 100000 in
theorem x8_here_bd {κ : KT} {ad : Nat → Nat} {cA : Nat → ClassId} {D : va_G} {Q : State → Prop}  {s : Mem} (C : CX κ (GB ad cA D) RX8 cX8_here 1 wsX8_here x8_here_rm (some .int)) (h : x8_here  s (RT κ (GB ad cA D) ocI Q)) : WM κ (GB ad cA D) 1 Q s 0 [(0, .ref (ad 0))] [] := by
  obtain ⟨Z0, z0⟩ : ∃ Z : Mem → Prop, ∀ s, Z s ↔ WM κ (GB ad cA D) 1 Q s 0 [(0, .ref (ad 0))] [] := ⟨fun s => WM κ (GB ad cA D) 1 Q s 0 [(0, .ref (ad 0))] [], fun _ => Iff.rfl⟩
  obtain ⟨Z38, z38⟩ : ∃ Z : Mem → Prop, ∀ s, Z s ↔ WM κ (GB ad cA D) 1 Q s 38 [(0, .ref (ad 0))] [] := ⟨fun s => WM κ (GB ad cA D) 1 Q s 38 [(0, .ref (ad 0))] [], fun _ => Iff.rfl⟩
  refine (fun h => ?_) (h Z0 Z38 ?_ ?_)
  · refine r_aload_n C 0 dX8_here_0 rfl ?_
    refine r_get (j := 31) (jz := 31) (v := vI (s 0 (31 : Int))) C dX8_here_1 (shB_0) rfl rfl (by decide) in_x8_here_X8 w_x8_here_260 rfl rfl rfl ?_
    refine r_aload_n C 0 dX8_here_4 rfl ?_
    refine r_get (j := 30) (jz := 30) (v := vI (s 0 (30 : Int))) C dX8_here_5 (shB_0) rfl rfl (by decide) in_x8_here_X8 w_x8_here_163 rfl rfl rfl ?_
    refine r_icmp_ge (tgt := 38) C dX8_here_8 (by decide) ⟨h.1, fun c3 => ?_, fun c3 => ?_⟩
    · have h := h.2.1 c3
      exact r_perm [0] rfl ((z38 _).1 h)
    · have h := h.2.2 c3
      refine r_aload_n C 0 dX8_here_11 rfl ?_
      refine r_get (j := 29) (jz := 29) (v := .ref (ad 19)) C dX8_here_12 (shB_0) rfl rfl (by decide) in_x8_here_X8 w_x8_here_66 rfl rfl rfl ?_
      refine r_aload_n C 0 dX8_here_15 rfl ?_
      refine r_get (j := 31) (jz := 31) (v := vI (s 0 (31 : Int))) C dX8_here_16 (shB_0) rfl rfl (by decide) in_x8_here_X8 w_x8_here_260 rfl rfl rfl ?_
      refine r_iald (nz := 160) C dX8_here_19 (shB_19) rfl (by decide) ⟨h.1, ?_⟩
      have h := h.2
      refine r_bipush C dX8_here_20 (by decide) ?_
      refine r_icmp_ne (tgt := 38) C dX8_here_22 (by decide) ⟨h.1, fun c2 => ?_, fun c2 => ?_⟩
      · have h := h.2.1 c2
        exact r_perm [0] rfl ((z38 _).1 h)
      · have h := h.2.2 c2
        refine r_aload_n C 0 dX8_here_25 rfl ?_
        refine r_dup C dX8_here_26 rfl ?_
        refine r_get (j := 31) (jz := 31) (v := vI (s 0 (31 : Int))) C dX8_here_27 (shB_0) rfl rfl (by decide) in_x8_here_X8 w_x8_here_260 rfl rfl rfl ?_
        refine r_iconst C dX8_here_30 ?_
        refine r_iadd C dX8_here_31 ?_
        refine r_puti (j := 31) (jz := 31) C dX8_here_32 (shB_0) rfl rfl (by decide) in_x8_here_X8 tyX8 tyX8_ok nmX8 w_x8_here_260 rfl rfl (by decide +kernel) rfl (fun s1 e_s1 => ?_)
        have h := h s1 e_s1
        refine r_goto (tgt := 0) C dX8_here_35 (by decide) ?_
        exact r_perm [0] rfl ((z0 _).1 h)
  · intro s h
    refine (z0 _).2 ?_
    refine r_aload_n C 0 dX8_here_0 rfl ?_
    refine r_get (j := 31) (jz := 31) (v := vI (s 0 (31 : Int))) C dX8_here_1 (shB_0) rfl rfl (by decide) in_x8_here_X8 w_x8_here_260 rfl rfl rfl ?_
    refine r_aload_n C 0 dX8_here_4 rfl ?_
    refine r_get (j := 30) (jz := 30) (v := vI (s 0 (30 : Int))) C dX8_here_5 (shB_0) rfl rfl (by decide) in_x8_here_X8 w_x8_here_163 rfl rfl rfl ?_
    refine r_icmp_ge (tgt := 38) C dX8_here_8 (by decide) ⟨h.1, fun c3 => ?_, fun c3 => ?_⟩
    · have h := h.2.1 c3
      exact r_perm [0] rfl ((z38 _).1 h)
    · have h := h.2.2 c3
      refine r_aload_n C 0 dX8_here_11 rfl ?_
      refine r_get (j := 29) (jz := 29) (v := .ref (ad 19)) C dX8_here_12 (shB_0) rfl rfl (by decide) in_x8_here_X8 w_x8_here_66 rfl rfl rfl ?_
      refine r_aload_n C 0 dX8_here_15 rfl ?_
      refine r_get (j := 31) (jz := 31) (v := vI (s 0 (31 : Int))) C dX8_here_16 (shB_0) rfl rfl (by decide) in_x8_here_X8 w_x8_here_260 rfl rfl rfl ?_
      refine r_iald (nz := 160) C dX8_here_19 (shB_19) rfl (by decide) ⟨h.1, ?_⟩
      have h := h.2
      refine r_bipush C dX8_here_20 (by decide) ?_
      refine r_icmp_ne (tgt := 38) C dX8_here_22 (by decide) ⟨h.1, fun c2 => ?_, fun c2 => ?_⟩
      · have h := h.2.1 c2
        exact r_perm [0] rfl ((z38 _).1 h)
      · have h := h.2.2 c2
        refine r_aload_n C 0 dX8_here_25 rfl ?_
        refine r_dup C dX8_here_26 rfl ?_
        refine r_get (j := 31) (jz := 31) (v := vI (s 0 (31 : Int))) C dX8_here_27 (shB_0) rfl rfl (by decide) in_x8_here_X8 w_x8_here_260 rfl rfl rfl ?_
        refine r_iconst C dX8_here_30 ?_
        refine r_iadd C dX8_here_31 ?_
        refine r_puti (j := 31) (jz := 31) C dX8_here_32 (shB_0) rfl rfl (by decide) in_x8_here_X8 tyX8 tyX8_ok nmX8 w_x8_here_260 rfl rfl (by decide +kernel) rfl (fun s1 e_s1 => ?_)
        have h := h s1 e_s1
        refine r_goto (tgt := 0) C dX8_here_35 (by decide) ?_
        exact r_perm [0] rfl ((z0 _).1 h)
  · intro s h
    refine (z38 _).2 ?_
    refine r_aload_n C 0 dX8_here_38 rfl ?_
    refine r_get (j := 31) (jz := 31) (v := vI (s 0 (31 : Int))) C dX8_here_39 (shB_0) rfl rfl (by decide) in_x8_here_X8 w_x8_here_260 rfl rfl rfl ?_
    refine r_aload_n C 0 dX8_here_42 rfl ?_
    refine r_get (j := 30) (jz := 30) (v := vI (s 0 (30 : Int))) C dX8_here_43 (shB_0) rfl rfl (by decide) in_x8_here_X8 w_x8_here_163 rfl rfl rfl ?_
    refine r_icmp_ge (tgt := 61) C dX8_here_46 (by decide) ⟨h.1, fun c4 => ?_, fun c4 => ?_⟩
    · have h := h.2.1 c4
      refine r_iconst C dX8_here_61 ?_
      exact r_ireturn C dX8_here_62 h
    · have h := h.2.2 c4
      refine r_aload_n C 0 dX8_here_49 rfl ?_
      refine r_get (j := 29) (jz := 29) (v := .ref (ad 19)) C dX8_here_50 (shB_0) rfl rfl (by decide) in_x8_here_X8 w_x8_here_66 rfl rfl rfl ?_
      refine r_aload_n C 0 dX8_here_53 rfl ?_
      refine r_get (j := 31) (jz := 31) (v := vI (s 0 (31 : Int))) C dX8_here_54 (shB_0) rfl rfl (by decide) in_x8_here_X8 w_x8_here_260 rfl rfl rfl ?_
      refine r_iald (nz := 160) C dX8_here_57 (shB_19) rfl (by decide) ⟨h.1, ?_⟩
      have h := h.2
      refine r_goto (tgt := 62) C dX8_here_58 (by decide) ?_
      exact r_ireturn C dX8_here_62 h
theorem x8_here_ct (l : Launch) (ad : Nat → Nat) (cA : Nat → ClassId) (D : va_G)  (s : Mem) : MG l yX8_here wsX8_here x8_here_rm ocI [.ref (ad 0)] (GB ad cA D) s (x8_here  s) :=
  m_met (own := RX8) (nL := 1) (by decide) rfl rfl (Nat.le_of_ble_eq_true rfl) rfl rfl rfl (fun κ hl C Q Pst hW hQ => x8_here_bd C (x8_here_mono hW hQ))

def x8_want (p1 : Int) (p2 : Int) (p3 : Int) (s : Mem) (Q : Int → Mem → Prop) : Prop :=
  InI p1 ∧ (¬ p1 = (0 : Int) → InI (s 0 (32 : Int)) ∧ (¬ (s 0 (32 : Int)) = (0 : Int) → ((0 : Int) ≤ (0 : Int) ∧ (0 : Int) ≤ 1) ∧ Q (0 : Int) s) ∧ ((s 0 (32 : Int)) = (0 : Int) → ((0 : Int) ≤ (1 : Int) ∧ (1 : Int) ≤ 1) ∧ Q (1 : Int) s)) ∧ (p1 = (0 : Int) → InI (s 0 (32 : Int)) ∧ (¬ (s 0 (32 : Int)) = (0 : Int) → InI (s 0 (32 : Int)) ∧ (¬ (s 0 (32 : Int)) = (0 : Int) → ((0 : Int) ≤ (0 : Int) ∧ (0 : Int) ≤ 1) ∧ Q (0 : Int) s) ∧ ((s 0 (32 : Int)) = (0 : Int) → ((0 : Int) ≤ (1 : Int) ∧ (1 : Int) ≤ 1) ∧ Q (1 : Int) s)) ∧ ((s 0 (32 : Int)) = (0 : Int) → ∀ s3 : Mem, s3 = m_upd s 0 (32 : Int) p2 → ∀ s4 : Mem, s4 = m_upd s3 0 (33 : Int) p3 → InI (s4 0 (32 : Int)) ∧ (¬ (s4 0 (32 : Int)) = (0 : Int) → ((0 : Int) ≤ (0 : Int) ∧ (0 : Int) ≤ 1) ∧ Q (0 : Int) s4) ∧ ((s4 0 (32 : Int)) = (0 : Int) → ((0 : Int) ≤ (1 : Int) ∧ (1 : Int) ≤ 1) ∧ Q (1 : Int) s4)))
theorem x8_want_mono {Q R : Int → Mem → Prop} {p1 : Int} {p2 : Int} {p3 : Int} {s : Mem} (h : x8_want p1 p2 p3 s Q) (hQ : ∀ r s, Q r s → R r s) : x8_want p1 p2 p3 s R :=
  ⟨h.1, fun c => have h := h.2.1 c; ⟨h.1, fun c => have h := h.2.1 c; ⟨h.1, hQ _ _ h.2⟩, fun c => have h := h.2.2 c; ⟨h.1, hQ _ _ h.2⟩⟩, fun c => have h := h.2.2 c; ⟨h.1, fun c => have h := h.2.1 c; ⟨h.1, fun c => have h := h.2.1 c; ⟨h.1, hQ _ _ h.2⟩, fun c => have h := h.2.2 c; ⟨h.1, hQ _ _ h.2⟩⟩, fun c => have h := h.2.2 c; fun s3 e_s3 => have h := h s3 e_s3; fun s4 e_s4 => have h := h s4 e_s4; ⟨h.1, fun c => have h := h.2.1 c; ⟨h.1, hQ _ _ h.2⟩, fun c => have h := h.2.2 c; ⟨h.1, hQ _ _ h.2⟩⟩⟩⟩
def x8_want_rm : Room := { frames := 0, cells := 0, slots := 0, locals := 0 }
theorem w_x8_want_263 : Cond.fieldLink RX8 263 "BoltRingModel" "faultOf" "I" ∈ wsX8_want := by decide +kernel
theorem w_x8_want_69 : Cond.fieldLink RX8 69 "BoltRingModel" "place" "I" ∈ wsX8_want := by decide +kernel
theorem in_x8_want_X8 : ∀ w ∈ wsX80, w ∈ wsX8_want := by decide +kernel
set_option maxHeartbeats 4000000 in
set_option maxRecDepth 100000 in
theorem x8_want_bd {κ : KT} {ad : Nat → Nat} {cA : Nat → ClassId} {D : va_G} {Q : State → Prop} {p1 : Int} {p2 : Int} {p3 : Int} {s : Mem} (C : CX κ (GB ad cA D) RX8 cX8_want 4 wsX8_want x8_want_rm (some .boolean)) (h : x8_want p1 p2 p3 s (RT κ (GB ad cA D) ocI Q)) : WM κ (GB ad cA D) 4 Q s 0 [(0, .ref (ad 0)), (1, vI p1), (2, vI p2), (3, vI p3)] [] := by
  refine r_iload_n C 1 dX8_want_0 rfl ?_
  refine r_if_ne (tgt := 21) C dX8_want_1 (by decide) ⟨h.1, fun c7 => ?_, fun c7 => ?_⟩
  · have h := h.2.1 c7
    refine r_aload_n C 0 dX8_want_21 rfl ?_
    refine r_get (j := 32) (jz := 32) (v := vI (s 0 (32 : Int))) C dX8_want_22 (shB_0) rfl rfl (by decide) in_x8_want_X8 w_x8_want_263 rfl rfl rfl ?_
    refine r_if_ne (tgt := 32) C dX8_want_25 (by decide) ⟨h.1, fun c1 => ?_, fun c1 => ?_⟩
    · have h := h.2.1 c1
      refine r_iconst C dX8_want_32 ?_
      exact r_zreturn C dX8_want_33 h
    · have h := h.2.2 c1
      refine r_iconst C dX8_want_28 ?_
      refine r_goto (tgt := 33) C dX8_want_29 (by decide) ?_
      exact r_zreturn C dX8_want_33 h
  · have h := h.2.2 c7
    refine r_aload_n C 0 dX8_want_4 rfl ?_
    refine r_get (j := 32) (jz := 32) (v := vI (s 0 (32 : Int))) C dX8_want_5 (shB_0) rfl rfl (by decide) in_x8_want_X8 w_x8_want_263 rfl rfl rfl ?_
    refine r_if_ne (tgt := 21) C dX8_want_8 (by decide) ⟨h.1, fun c6 => ?_, fun c6 => ?_⟩
    · have h := h.2.1 c6
      refine r_aload_n C 0 dX8_want_21 rfl ?_
      refine r_get (j := 32) (jz := 32) (v := vI (s 0 (32 : Int))) C dX8_want_22 (shB_0) rfl rfl (by decide) in_x8_want_X8 w_x8_want_263 rfl rfl rfl ?_
      refine r_if_ne (tgt := 32) C dX8_want_25 (by decide) ⟨h.1, fun c2 => ?_, fun c2 => ?_⟩
      · have h := h.2.1 c2
        refine r_iconst C dX8_want_32 ?_
        exact r_zreturn C dX8_want_33 h
      · have h := h.2.2 c2
        refine r_iconst C dX8_want_28 ?_
        refine r_goto (tgt := 33) C dX8_want_29 (by decide) ?_
        exact r_zreturn C dX8_want_33 h
    · have h := h.2.2 c6
      refine r_aload_n C 0 dX8_want_11 rfl ?_
      refine r_iload_n C 2 dX8_want_12 rfl ?_
      refine r_puti (j := 32) (jz := 32) C dX8_want_13 (shB_0) rfl rfl (by decide) in_x8_want_X8 tyX8 tyX8_ok nmX8 w_x8_want_263 rfl rfl (by decide +kernel) rfl (fun s3 e_s3 => ?_)
      have h := h s3 e_s3
      refine r_aload_n C 0 dX8_want_16 rfl ?_
      refine r_iload_n C 3 dX8_want_17 rfl ?_
      refine r_puti (j := 33) (jz := 33) C dX8_want_18 (shB_0) rfl rfl (by decide) in_x8_want_X8 tyX8 tyX8_ok nmX8 w_x8_want_69 rfl rfl (by decide +kernel) rfl (fun s4 e_s4 => ?_)
      have h := h s4 e_s4
      refine r_aload_n C 0 dX8_want_21 rfl ?_
      refine r_get (j := 32) (jz := 32) (v := vI (s4 0 (32 : Int))) C dX8_want_22 (shB_0) rfl rfl (by decide) in_x8_want_X8 w_x8_want_263 rfl rfl rfl ?_
      refine r_if_ne (tgt := 32) C dX8_want_25 (by decide) ⟨h.1, fun c5 => ?_, fun c5 => ?_⟩
      · have h := h.2.1 c5
        refine r_iconst C dX8_want_32 ?_
        exact r_zreturn C dX8_want_33 h
      · have h := h.2.2 c5
        refine r_iconst C dX8_want_28 ?_
        refine r_goto (tgt := 33) C dX8_want_29 (by decide) ?_
        exact r_zreturn C dX8_want_33 h
theorem x8_want_ct (l : Launch) (ad : Nat → Nat) (cA : Nat → ClassId) (D : va_G) (p1 : Int) (p2 : Int) (p3 : Int) (s : Mem) : MG l yX8_want wsX8_want x8_want_rm ocI [.ref (ad 0), vI p1, vI p2, vI p3] (GB ad cA D) s (x8_want p1 p2 p3 s) :=
  m_met (own := RX8) (nL := 4) (by decide) rfl rfl (Nat.le_of_ble_eq_true rfl) rfl rfl rfl (fun κ hl C Q Pst hW hQ => x8_want_bd C (x8_want_mono hW hQ))

def x8_takeWord_be (X13 : Mem → Prop) (Q : Int → Mem → Prop)  (s : Mem) : Prop :=
  x8_here s (fun r2 s1 => ∀ s3 : Mem, s3 = m_upd s1 0 (34 : Int) (s1 0 (31 : Int)) → X13 s3)
def x8_takeWord_b13 (X13 : Mem → Prop) (Q : Int → Mem → Prop)  (s : Mem) : Prop :=
  (InI (s 0 (31 : Int)) ∧ InI (s 0 (30 : Int))) ∧ ((s 0 (30 : Int)) ≤ (s 0 (31 : Int)) → ∀ s4 : Mem, s4 = m_upd s 0 (35 : Int) ((s 0 (31 : Int)) - (s 0 (34 : Int))) → Q (0 : Int) s4) ∧ ((s 0 (31 : Int)) < (s 0 (30 : Int)) → ((0 : Int) ≤ (s 0 (31 : Int)) ∧ (s 0 (31 : Int)) < 160) ∧ (InI (s 19 (s 0 (31 : Int)))) ∧ x8_in (s 19 (s 0 (31 : Int))) (97 : Int) (122 : Int) s (fun r6 s5 => InI r6 ∧ (r6 = (0 : Int) → ∀ s7 : Mem, s7 = m_upd s5 0 (35 : Int) ((s5 0 (31 : Int)) - (s5 0 (34 : Int))) → Q (0 : Int) s7) ∧ (¬ r6 = (0 : Int) → ∀ s8 : Mem, s8 = m_upd s5 0 (31 : Int) ((s5 0 (31 : Int)) + (1 : Int)) → X13 s8)))
theorem x8_takeWord_me {X13 Y13 : Mem → Prop} {Q R : Int → Mem → Prop} (hX13 : ∀ s, X13 s → Y13 s) (hQ : ∀ r s, Q r s → R r s)  {s : Mem} (h : x8_takeWord_be X13 Q  s) : x8_takeWord_be Y13 R  s :=
  x8_here_mono h (fun r2 s1 h => fun s3 e_s3 => have h := h s3 e_s3; hX13 _ h)
theorem x8_takeWord_m13 {X13 Y13 : Mem → Prop} {Q R : Int → Mem → Prop} (hX13 : ∀ s, X13 s → Y13 s) (hQ : ∀ r s, Q r s → R r s)  {s : Mem} (h : x8_takeWord_b13 X13 Q  s) : x8_takeWord_b13 Y13 R  s :=
  ⟨h.1, fun c => have h := h.2.1 c; fun s4 e_s4 => have h := h s4 e_s4; hQ _ _ h, fun c => have h := h.2.2 c; ⟨h.1, have h := h.2; ⟨h.1, have h := h.2; x8_in_mono h (fun r6 s5 h => ⟨h.1, fun c => have h := h.2.1 c; fun s7 e_s7 => have h := h s7 e_s7; hQ _ _ h, fun c => have h := h.2.2 c; fun s8 e_s8 => have h := h s8 e_s8; hX13 _ h⟩)⟩⟩⟩
def x8_takeWord  (s : Mem) (Q : Int → Mem → Prop) : Prop := ∀ (X13 : Mem → Prop), (∀ s, x8_takeWord_b13 X13 Q s → X13 s) → x8_takeWord_be X13 Q  s
def x8_takeWord_L13 (Q : Int → Mem → Prop)  (s : Mem) : Prop := ∀ (X13 : Mem → Prop), (∀ s, x8_takeWord_b13 X13 Q s → X13 s) → X13  s
theorem x8_takeWord_i {Q : Int → Mem → Prop}  {s : Mem} (h : x8_takeWord_be (x8_takeWord_L13 Q) Q  s) : x8_takeWord  s Q := fun X13 k13 => x8_takeWord_me (fun _ h => h X13 k13) (fun _ _ h => h) h
theorem x8_takeWord_s13 {Q : Int → Mem → Prop}  {s : Mem} (h : x8_takeWord_b13 (x8_takeWord_L13 Q) Q  s) : x8_takeWord_L13 Q  s := fun X13 k13 => k13  _ (x8_takeWord_m13 (fun _ h => h X13 k13) (fun _ _ h => h) h)
theorem x8_takeWord_mono {Q R : Int → Mem → Prop}  {s : Mem} (h : x8_takeWord  s Q) (hQ : ∀ r s, Q r s → R r s) : x8_takeWord  s R := fun X13 k13 => x8_takeWord_me (fun _ h => h) hQ (h X13 (fun _ h => k13  _ (x8_takeWord_m13 (fun _ h => h) hQ h)))
def x8_takeWord_rm : Room := { frames := 1, cells := 0, slots := 0, locals := 25 }
theorem w_x8_takeWord_260 : Cond.fieldLink RX8 260 "BoltRingModel" "at" "I" ∈ wsX8_takeWord := by decide +kernel
theorem w_x8_takeWord_269 : Cond.fieldLink RX8 269 "BoltRingModel" "from" "I" ∈ wsX8_takeWord := by decide +kernel
theorem w_x8_takeWord_163 : Cond.fieldLink RX8 163 "BoltRingModel" "textSize" "I" ∈ wsX8_takeWord := by decide +kernel
theorem w_x8_takeWord_276 : Cond.fieldLink RX8 276 "BoltRingModel" "letters" "I" ∈ wsX8_takeWord := by decide +kernel
theorem w_x8_takeWord_66 : Cond.fieldLink RX8 66 "BoltRingModel" "text" "[I" ∈ wsX8_takeWord := by decide +kernel
theorem w_x8_takeWord_272 : Cond.constantLong RX8 272 (97) ∈ wsX8_takeWord := by decide +kernel
theorem w_x8_takeWord_274 : Cond.constantLong RX8 274 (122) ∈ wsX8_takeWord := by decide +kernel
theorem in_x8_takeWord_X8 : ∀ w ∈ wsX80, w ∈ wsX8_takeWord := by decide +kernel
set_option maxHeartbeats 4000000 in
set_option maxRecDepth 100000 in
theorem x8_takeWord_bd {κ : KT} {ad : Nat → Nat} {cA : Nat → ClassId} {D : va_G} {Q : State → Prop}  {s : Mem} (C : CX κ (GB ad cA D) RX8 cX8_takeWord 2 wsX8_takeWord x8_takeWord_rm none) (h : x8_takeWord  s (RT κ (GB ad cA D) ocV Q)) : WM κ (GB ad cA D) 2 Q s 0 [(0, .ref (ad 0))] [] := by
  obtain ⟨Z13, z13⟩ : ∃ Z : Mem → Prop, ∀ s, Z s ↔ WM κ (GB ad cA D) 2 Q s 13 [(0, .ref (ad 0))] [] := ⟨fun s => WM κ (GB ad cA D) 2 Q s 13 [(0, .ref (ad 0))] [], fun _ => Iff.rfl⟩
  refine (fun h => ?_) (h Z13 ?_)
  · refine r_aload_n C 0 dX8_takeWord_0 rfl ?_
    refine r_callV (As := []) (o := 0) (n := 0) C dX8_takeWord_1 (x8_here_ct κ.1.2.1 ad cA D s) gX8_takeWord_X8_here rfl ⟨rfl, rfl⟩ (by decide +kernel) (by decide) (shB_0) rfl rfl rfl (Nat.le_of_ble_eq_true rfl) (fun _ => rfl) ?_
    refine x8_here_mono h (fun r2 s1 h => ?_)
    refine r_istore_n (ls' := [(1, vI r2), (0, .ref (ad 0))]) C dX8_takeWord_4 rfl (by decide) rfl ?_
    refine r_aload_n C 1 dX8_takeWord_5 rfl ?_
    refine r_aload_n C 1 dX8_takeWord_6 rfl ?_
    refine r_get (j := 31) (jz := 31) (v := vI (s1 0 (31 : Int))) C dX8_takeWord_7 (shB_0) rfl rfl (by decide) in_x8_takeWord_X8 w_x8_takeWord_260 rfl rfl rfl ?_
    refine r_puti (j := 34) (jz := 34) C dX8_takeWord_10 (shB_0) rfl rfl (by decide) in_x8_takeWord_X8 tyX8 tyX8_ok nmX8 w_x8_takeWord_269 rfl rfl (by decide +kernel) rfl (fun s3 e_s3 => ?_)
    have h := h s3 e_s3
    exact r_perm [1] rfl ((z13 _).1 h)
  · intro s h
    refine (z13 _).2 ?_
    refine r_aload_n C 0 dX8_takeWord_13 rfl ?_
    refine r_get (j := 31) (jz := 31) (v := vI (s 0 (31 : Int))) C dX8_takeWord_14 (shB_0) rfl rfl (by decide) in_x8_takeWord_X8 w_x8_takeWord_260 rfl rfl rfl ?_
    refine r_aload_n C 0 dX8_takeWord_17 rfl ?_
    refine r_get (j := 30) (jz := 30) (v := vI (s 0 (30 : Int))) C dX8_takeWord_18 (shB_0) rfl rfl (by decide) in_x8_takeWord_X8 w_x8_takeWord_163 rfl rfl rfl ?_
    refine r_icmp_ge (tgt := 59) C dX8_takeWord_21 (by decide) ⟨h.1, fun c10 => ?_, fun c10 => ?_⟩
    · have h := h.2.1 c10
      refine r_aload_n C 0 dX8_takeWord_59 rfl ?_
      refine r_aload_n C 0 dX8_takeWord_60 rfl ?_
      refine r_get (j := 31) (jz := 31) (v := vI (s 0 (31 : Int))) C dX8_takeWord_61 (shB_0) rfl rfl (by decide) in_x8_takeWord_X8 w_x8_takeWord_260 rfl rfl rfl ?_
      refine r_aload_n C 0 dX8_takeWord_64 rfl ?_
      refine r_get (j := 34) (jz := 34) (v := vI (s 0 (34 : Int))) C dX8_takeWord_65 (shB_0) rfl rfl (by decide) in_x8_takeWord_X8 w_x8_takeWord_269 rfl rfl rfl ?_
      refine r_isub C dX8_takeWord_68 ?_
      refine r_puti (j := 35) (jz := 35) C dX8_takeWord_69 (shB_0) rfl rfl (by decide) in_x8_takeWord_X8 tyX8 tyX8_ok nmX8 w_x8_takeWord_276 rfl rfl (by decide +kernel) rfl (fun s4 e_s4 => ?_)
      have h := h s4 e_s4
      exact r_return C dX8_takeWord_72 h
    · have h := h.2.2 c10
      refine r_aload_n C 0 dX8_takeWord_24 rfl ?_
      refine r_get (j := 29) (jz := 29) (v := .ref (ad 19)) C dX8_takeWord_25 (shB_0) rfl rfl (by decide) in_x8_takeWord_X8 w_x8_takeWord_66 rfl rfl rfl ?_
      refine r_aload_n C 0 dX8_takeWord_28 rfl ?_
      refine r_get (j := 31) (jz := 31) (v := vI (s 0 (31 : Int))) C dX8_takeWord_29 (shB_0) rfl rfl (by decide) in_x8_takeWord_X8 w_x8_takeWord_260 rfl rfl rfl ?_
      refine r_iald (nz := 160) C dX8_takeWord_32 (shB_19) rfl (by decide) ⟨h.1, ?_⟩
      have h := h.2
      refine r_i2l C dX8_takeWord_33 ⟨h.1, ?_⟩
      have h := h.2
      refine r_ldc2 (z := 97) C dX8_takeWord_34 w_x8_takeWord_272 rfl ?_
      refine r_ldc2 (z := 122) C dX8_takeWord_37 w_x8_takeWord_274 rfl ?_
      refine r_callS (As := [vL (s 19 (s 0 (31 : Int))), vL (97 : Int), vL (122 : Int)]) (n := 3) C dX8_takeWord_40 (x8_in_ct κ.1.2.1 ad cA D (s 19 (s 0 (31 : Int))) (97 : Int) (122 : Int) s) gX8_takeWord_X8_in rfl ⟨rfl, rfl⟩ (by decide +kernel) (by decide) rfl rfl (Nat.le_of_ble_eq_true rfl) (fun _ => rfl) ?_
      refine x8_in_mono h (fun r6 s5 h => ?_)
      refine r_if_eq (tgt := 59) C dX8_takeWord_43 (by decide) ⟨h.1, fun c9 => ?_, fun c9 => ?_⟩
      · have h := h.2.1 c9
        refine r_aload_n C 0 dX8_takeWord_59 rfl ?_
        refine r_aload_n C 0 dX8_takeWord_60 rfl ?_
        refine r_get (j := 31) (jz := 31) (v := vI (s5 0 (31 : Int))) C dX8_takeWord_61 (shB_0) rfl rfl (by decide) in_x8_takeWord_X8 w_x8_takeWord_260 rfl rfl rfl ?_
        refine r_aload_n C 0 dX8_takeWord_64 rfl ?_
        refine r_get (j := 34) (jz := 34) (v := vI (s5 0 (34 : Int))) C dX8_takeWord_65 (shB_0) rfl rfl (by decide) in_x8_takeWord_X8 w_x8_takeWord_269 rfl rfl rfl ?_
        refine r_isub C dX8_takeWord_68 ?_
        refine r_puti (j := 35) (jz := 35) C dX8_takeWord_69 (shB_0) rfl rfl (by decide) in_x8_takeWord_X8 tyX8 tyX8_ok nmX8 w_x8_takeWord_276 rfl rfl (by decide +kernel) rfl (fun s7 e_s7 => ?_)
        have h := h s7 e_s7
        exact r_return C dX8_takeWord_72 h
      · have h := h.2.2 c9
        refine r_aload_n C 0 dX8_takeWord_46 rfl ?_
        refine r_dup C dX8_takeWord_47 rfl ?_
        refine r_get (j := 31) (jz := 31) (v := vI (s5 0 (31 : Int))) C dX8_takeWord_48 (shB_0) rfl rfl (by decide) in_x8_takeWord_X8 w_x8_takeWord_260 rfl rfl rfl ?_
        refine r_iconst C dX8_takeWord_51 ?_
        refine r_iadd C dX8_takeWord_52 ?_
        refine r_puti (j := 31) (jz := 31) C dX8_takeWord_53 (shB_0) rfl rfl (by decide) in_x8_takeWord_X8 tyX8 tyX8_ok nmX8 w_x8_takeWord_260 rfl rfl (by decide +kernel) rfl (fun s8 e_s8 => ?_)
        have h := h s8 e_s8
        refine r_goto (tgt := 13) C dX8_takeWord_56 (by decide) ?_
        exact r_perm [0] rfl ((z13 _).1 h)
theorem x8_takeWord_ct (l : Launch) (ad : Nat → Nat) (cA : Nat → ClassId) (D : va_G)  (s : Mem) : MG l yX8_takeWord wsX8_takeWord x8_takeWord_rm ocV [.ref (ad 0)] (GB ad cA D) s (x8_takeWord  s) :=
  m_met (own := RX8) (nL := 2) (by decide) rfl rfl (Nat.le_of_ble_eq_true rfl) rfl rfl rfl (fun κ hl C Q Pst hW hQ => x8_takeWord_bd C (x8_takeWord_mono hW hQ))

def x8_isWord_be (X18 : Int → Int → Int → Int → Int → Int → Int → Int → Mem → Prop) (X84 : Int → Int → Int → Int → Int → Int → Int → Int → Int → Mem → Prop) (Q : Int → Mem → Prop) (p1 : Int) (p2 : Int) (p3 : Int) (p4 : Int) (p5 : Int) (p6 : Int) (s : Mem) : Prop :=
  (InI (s 0 (35 : Int)) ∧ InI p1) ∧ (¬ (s 0 (35 : Int)) = p1 → X18 p1 p2 p3 p4 p5 p6 (0 : Int) (0 : Int) s) ∧ ((s 0 (35 : Int)) = p1 → X18 p1 p2 p3 p4 p5 p6 (1 : Int) (0 : Int) s)
def x8_isWord_b18 (X18 : Int → Int → Int → Int → Int → Int → Int → Int → Mem → Prop) (X84 : Int → Int → Int → Int → Int → Int → Int → Int → Int → Mem → Prop) (Q : Int → Mem → Prop) (x1 : Int) (x2 : Int) (x3 : Int) (x4 : Int) (x5 : Int) (x6 : Int) (x7 : Int) (x8 : Int) (s : Mem) : Prop :=
  (InI x8 ∧ InI x1) ∧ (x1 ≤ x8 → ((0 : Int) ≤ x7 ∧ x7 ≤ 1) ∧ Q x7 s) ∧ (x8 < x1 → InI x7 ∧ (x7 = (0 : Int) → ((0 : Int) ≤ x7 ∧ x7 ≤ 1) ∧ Q x7 s) ∧ (¬ x7 = (0 : Int) → ((0 : Int) ≤ ((s 0 (34 : Int)) + x8) ∧ ((s 0 (34 : Int)) + x8) < 160) ∧ InI x8 ∧ (¬ x8 = (0 : Int) → (InI x8 ∧ InI (1 : Int)) ∧ (¬ x8 = (1 : Int) → (InI x8 ∧ InI (2 : Int)) ∧ (¬ x8 = (2 : Int) → (InI x8 ∧ InI (3 : Int)) ∧ (¬ x8 = (3 : Int) → X84 x1 x2 x3 x4 x5 x6 x8 x6 (s 19 ((s 0 (34 : Int)) + x8)) s) ∧ (x8 = (3 : Int) → X84 x1 x2 x3 x4 x5 x6 x8 x5 (s 19 ((s 0 (34 : Int)) + x8)) s)) ∧ (x8 = (2 : Int) → X84 x1 x2 x3 x4 x5 x6 x8 x4 (s 19 ((s 0 (34 : Int)) + x8)) s)) ∧ (x8 = (1 : Int) → X84 x1 x2 x3 x4 x5 x6 x8 x3 (s 19 ((s 0 (34 : Int)) + x8)) s)) ∧ (x8 = (0 : Int) → X84 x1 x2 x3 x4 x5 x6 x8 x2 (s 19 ((s 0 (34 : Int)) + x8)) s)))
def x8_isWord_b84 (X18 : Int → Int → Int → Int → Int → Int → Int → Int → Mem → Prop) (X84 : Int → Int → Int → Int → Int → Int → Int → Int → Int → Mem → Prop) (Q : Int → Mem → Prop) (x1 : Int) (x2 : Int) (x3 : Int) (x4 : Int) (x5 : Int) (x6 : Int) (x8 : Int) (t0 : Int) (t1 : Int) (s : Mem) : Prop :=
  (InI t1 ∧ InI t0) ∧ (¬ t1 = t0 → X18 x1 x2 x3 x4 x5 x6 (0 : Int) (x8 + (1 : Int)) s) ∧ (t1 = t0 → X18 x1 x2 x3 x4 x5 x6 (1 : Int) (x8 + (1 : Int)) s)
theorem x8_isWord_me {X18 Y18 : Int → Int → Int → Int → Int → Int → Int → Int → Mem → Prop} {X84 Y84 : Int → Int → Int → Int → Int → Int → Int → Int → Int → Mem → Prop} {Q R : Int → Mem → Prop} (hX18 : ∀ x1 x2 x3 x4 x5 x6 x7 x8 s, X18 x1 x2 x3 x4 x5 x6 x7 x8 s → Y18 x1 x2 x3 x4 x5 x6 x7 x8 s) (hX84 : ∀ x1 x2 x3 x4 x5 x6 x8 t0 t1 s, X84 x1 x2 x3 x4 x5 x6 x8 t0 t1 s → Y84 x1 x2 x3 x4 x5 x6 x8 t0 t1 s) (hQ : ∀ r s, Q r s → R r s) {p1 : Int} {p2 : Int} {p3 : Int} {p4 : Int} {p5 : Int} {p6 : Int} {s : Mem} (h : x8_isWord_be X18 X84 Q p1 p2 p3 p4 p5 p6 s) : x8_isWord_be Y18 Y84 R p1 p2 p3 p4 p5 p6 s :=
  ⟨h.1, fun c => have h := h.2.1 c; hX18 _ _ _ _ _ _ _ _ _ h, fun c => have h := h.2.2 c; hX18 _ _ _ _ _ _ _ _ _ h⟩
theorem x8_isWord_m18 {X18 Y18 : Int → Int → Int → Int → Int → Int → Int → Int → Mem → Prop} {X84 Y84 : Int → Int → Int → Int → Int → Int → Int → Int → Int → Mem → Prop} {Q R : Int → Mem → Prop} (hX18 : ∀ x1 x2 x3 x4 x5 x6 x7 x8 s, X18 x1 x2 x3 x4 x5 x6 x7 x8 s → Y18 x1 x2 x3 x4 x5 x6 x7 x8 s) (hX84 : ∀ x1 x2 x3 x4 x5 x6 x8 t0 t1 s, X84 x1 x2 x3 x4 x5 x6 x8 t0 t1 s → Y84 x1 x2 x3 x4 x5 x6 x8 t0 t1 s) (hQ : ∀ r s, Q r s → R r s) {x1 : Int} {x2 : Int} {x3 : Int} {x4 : Int} {x5 : Int} {x6 : Int} {x7 : Int} {x8 : Int} {s : Mem} (h : x8_isWord_b18 X18 X84 Q x1 x2 x3 x4 x5 x6 x7 x8 s) : x8_isWord_b18 Y18 Y84 R x1 x2 x3 x4 x5 x6 x7 x8 s :=
  ⟨h.1, fun c => have h := h.2.1 c; ⟨h.1, hQ _ _ h.2⟩, fun c => have h := h.2.2 c; ⟨h.1, fun c => have h := h.2.1 c; ⟨h.1, hQ _ _ h.2⟩, fun c => have h := h.2.2 c; ⟨h.1, have h := h.2; ⟨h.1, fun c => have h := h.2.1 c; ⟨h.1, fun c => have h := h.2.1 c; ⟨h.1, fun c => have h := h.2.1 c; ⟨h.1, fun c => have h := h.2.1 c; hX84 _ _ _ _ _ _ _ _ _ _ h, fun c => have h := h.2.2 c; hX84 _ _ _ _ _ _ _ _ _ _ h⟩, fun c => have h := h.2.2 c; hX84 _ _ _ _ _ _ _ _ _ _ h⟩, fun c => have h := h.2.2 c; hX84 _ _ _ _ _ _ _ _ _ _ h⟩, fun c => have h := h.2.2 c; hX84 _ _ _ _ _ _ _ _ _ _ h⟩⟩⟩⟩
theorem x8_isWord_m84 {X18 Y18 : Int → Int → Int → Int → Int → Int → Int → Int → Mem → Prop} {X84 Y84 : Int → Int → Int → Int → Int → Int → Int → Int → Int → Mem → Prop} {Q R : Int → Mem → Prop} (hX18 : ∀ x1 x2 x3 x4 x5 x6 x7 x8 s, X18 x1 x2 x3 x4 x5 x6 x7 x8 s → Y18 x1 x2 x3 x4 x5 x6 x7 x8 s) (hX84 : ∀ x1 x2 x3 x4 x5 x6 x8 t0 t1 s, X84 x1 x2 x3 x4 x5 x6 x8 t0 t1 s → Y84 x1 x2 x3 x4 x5 x6 x8 t0 t1 s) (hQ : ∀ r s, Q r s → R r s) {x1 : Int} {x2 : Int} {x3 : Int} {x4 : Int} {x5 : Int} {x6 : Int} {x8 : Int} {t0 : Int} {t1 : Int} {s : Mem} (h : x8_isWord_b84 X18 X84 Q x1 x2 x3 x4 x5 x6 x8 t0 t1 s) : x8_isWord_b84 Y18 Y84 R x1 x2 x3 x4 x5 x6 x8 t0 t1 s :=
  ⟨h.1, fun c => have h := h.2.1 c; hX18 _ _ _ _ _ _ _ _ _ h, fun c => have h := h.2.2 c; hX18 _ _ _ _ _ _ _ _ _ h⟩
def x8_isWord (p1 : Int) (p2 : Int) (p3 : Int) (p4 : Int) (p5 : Int) (p6 : Int) (s : Mem) (Q : Int → Mem → Prop) : Prop := ∀ (X18 : Int → Int → Int → Int → Int → Int → Int → Int → Mem → Prop) (X84 : Int → Int → Int → Int → Int → Int → Int → Int → Int → Mem → Prop), (∀ x1 x2 x3 x4 x5 x6 x7 x8 s, x8_isWord_b18 X18 X84 Q x1 x2 x3 x4 x5 x6 x7 x8 s → X18 x1 x2 x3 x4 x5 x6 x7 x8 s) → (∀ x1 x2 x3 x4 x5 x6 x8 t0 t1 s, x8_isWord_b84 X18 X84 Q x1 x2 x3 x4 x5 x6 x8 t0 t1 s → X84 x1 x2 x3 x4 x5 x6 x8 t0 t1 s) → x8_isWord_be X18 X84 Q p1 p2 p3 p4 p5 p6 s
def x8_isWord_L18 (Q : Int → Mem → Prop) (x1 : Int) (x2 : Int) (x3 : Int) (x4 : Int) (x5 : Int) (x6 : Int) (x7 : Int) (x8 : Int) (s : Mem) : Prop := ∀ (X18 : Int → Int → Int → Int → Int → Int → Int → Int → Mem → Prop) (X84 : Int → Int → Int → Int → Int → Int → Int → Int → Int → Mem → Prop), (∀ x1 x2 x3 x4 x5 x6 x7 x8 s, x8_isWord_b18 X18 X84 Q x1 x2 x3 x4 x5 x6 x7 x8 s → X18 x1 x2 x3 x4 x5 x6 x7 x8 s) → (∀ x1 x2 x3 x4 x5 x6 x8 t0 t1 s, x8_isWord_b84 X18 X84 Q x1 x2 x3 x4 x5 x6 x8 t0 t1 s → X84 x1 x2 x3 x4 x5 x6 x8 t0 t1 s) → X18 x1 x2 x3 x4 x5 x6 x7 x8 s
def x8_isWord_L84 (Q : Int → Mem → Prop) (x1 : Int) (x2 : Int) (x3 : Int) (x4 : Int) (x5 : Int) (x6 : Int) (x8 : Int) (t0 : Int) (t1 : Int) (s : Mem) : Prop := ∀ (X18 : Int → Int → Int → Int → Int → Int → Int → Int → Mem → Prop) (X84 : Int → Int → Int → Int → Int → Int → Int → Int → Int → Mem → Prop), (∀ x1 x2 x3 x4 x5 x6 x7 x8 s, x8_isWord_b18 X18 X84 Q x1 x2 x3 x4 x5 x6 x7 x8 s → X18 x1 x2 x3 x4 x5 x6 x7 x8 s) → (∀ x1 x2 x3 x4 x5 x6 x8 t0 t1 s, x8_isWord_b84 X18 X84 Q x1 x2 x3 x4 x5 x6 x8 t0 t1 s → X84 x1 x2 x3 x4 x5 x6 x8 t0 t1 s) → X84 x1 x2 x3 x4 x5 x6 x8 t0 t1 s
theorem x8_isWord_i {Q : Int → Mem → Prop} {p1 : Int} {p2 : Int} {p3 : Int} {p4 : Int} {p5 : Int} {p6 : Int} {s : Mem} (h : x8_isWord_be (x8_isWord_L18 Q) (x8_isWord_L84 Q) Q p1 p2 p3 p4 p5 p6 s) : x8_isWord p1 p2 p3 p4 p5 p6 s Q := fun X18 X84 k18 k84 => x8_isWord_me (fun _ _ _ _ _ _ _ _ _ h => h X18 X84 k18 k84) (fun _ _ _ _ _ _ _ _ _ _ h => h X18 X84 k18 k84) (fun _ _ h => h) h
theorem x8_isWord_s18 {Q : Int → Mem → Prop} {x1 : Int} {x2 : Int} {x3 : Int} {x4 : Int} {x5 : Int} {x6 : Int} {x7 : Int} {x8 : Int} {s : Mem} (h : x8_isWord_b18 (x8_isWord_L18 Q) (x8_isWord_L84 Q) Q x1 x2 x3 x4 x5 x6 x7 x8 s) : x8_isWord_L18 Q x1 x2 x3 x4 x5 x6 x7 x8 s := fun X18 X84 k18 k84 => k18 _ _ _ _ _ _ _ _ _ (x8_isWord_m18 (fun _ _ _ _ _ _ _ _ _ h => h X18 X84 k18 k84) (fun _ _ _ _ _ _ _ _ _ _ h => h X18 X84 k18 k84) (fun _ _ h => h) h)
theorem x8_isWord_s84 {Q : Int → Mem → Prop} {x1 : Int} {x2 : Int} {x3 : Int} {x4 : Int} {x5 : Int} {x6 : Int} {x8 : Int} {t0 : Int} {t1 : Int} {s : Mem} (h : x8_isWord_b84 (x8_isWord_L18 Q) (x8_isWord_L84 Q) Q x1 x2 x3 x4 x5 x6 x8 t0 t1 s) : x8_isWord_L84 Q x1 x2 x3 x4 x5 x6 x8 t0 t1 s := fun X18 X84 k18 k84 => k84 _ _ _ _ _ _ _ _ _ _ (x8_isWord_m84 (fun _ _ _ _ _ _ _ _ _ h => h X18 X84 k18 k84) (fun _ _ _ _ _ _ _ _ _ _ h => h X18 X84 k18 k84) (fun _ _ h => h) h)
theorem x8_isWord_mono {Q R : Int → Mem → Prop} {p1 : Int} {p2 : Int} {p3 : Int} {p4 : Int} {p5 : Int} {p6 : Int} {s : Mem} (h : x8_isWord p1 p2 p3 p4 p5 p6 s Q) (hQ : ∀ r s, Q r s → R r s) : x8_isWord p1 p2 p3 p4 p5 p6 s R := fun X18 X84 k18 k84 => x8_isWord_me (fun _ _ _ _ _ _ _ _ _ h => h) (fun _ _ _ _ _ _ _ _ _ _ h => h) hQ (h X18 X84 (fun _ _ _ _ _ _ _ _ _ h => k18 _ _ _ _ _ _ _ _ _ (x8_isWord_m18 (fun _ _ _ _ _ _ _ _ _ h => h) (fun _ _ _ _ _ _ _ _ _ _ h => h) hQ h)) (fun _ _ _ _ _ _ _ _ _ _ h => k84 _ _ _ _ _ _ _ _ _ _ (x8_isWord_m84 (fun _ _ _ _ _ _ _ _ _ h => h) (fun _ _ _ _ _ _ _ _ _ _ h => h) hQ h)))
def x8_isWord_rm : Room := { frames := 0, cells := 0, slots := 0, locals := 0 }
theorem w_x8_isWord_276 : Cond.fieldLink RX8 276 "BoltRingModel" "letters" "I" ∈ wsX8_isWord := by decide +kernel
theorem w_x8_isWord_66 : Cond.fieldLink RX8 66 "BoltRingModel" "text" "[I" ∈ wsX8_isWord := by decide +kernel
theorem w_x8_isWord_269 : Cond.fieldLink RX8 269 "BoltRingModel" "from" "I" ∈ wsX8_isWord := by decide +kernel
theorem in_x8_isWord_X8 : ∀ w ∈ wsX80, w ∈ wsX8_isWord := by decide +kernel
set_option maxHeartbeats 4000000 in
set_option maxRecDepth 100000 in
theorem x8_isWord_bd {κ : KT} {ad : Nat → Nat} {cA : Nat → ClassId} {D : va_G} {Q : State → Prop} {p1 : Int} {p2 : Int} {p3 : Int} {p4 : Int} {p5 : Int} {p6 : Int} {s : Mem} (C : CX κ (GB ad cA D) RX8 cX8_isWord 9 wsX8_isWord x8_isWord_rm (some .boolean)) (h : x8_isWord p1 p2 p3 p4 p5 p6 s (RT κ (GB ad cA D) ocI Q)) : WM κ (GB ad cA D) 9 Q s 0 [(0, .ref (ad 0)), (1, vI p1), (2, vI p2), (3, vI p3), (4, vI p4), (5, vI p5), (6, vI p6)] [] := by
  obtain ⟨Z18, z18⟩ : ∃ Z : Int → Int → Int → Int → Int → Int → Int → Int → Mem → Prop, ∀ x1 x2 x3 x4 x5 x6 x7 x8 s, Z x1 x2 x3 x4 x5 x6 x7 x8 s ↔ WM κ (GB ad cA D) 9 Q s 18 [(0, .ref (ad 0)), (1, vI x1), (2, vI x2), (3, vI x3), (4, vI x4), (5, vI x5), (6, vI x6), (7, vI x7), (8, vI x8)] [] := ⟨fun x1 x2 x3 x4 x5 x6 x7 x8 s => WM κ (GB ad cA D) 9 Q s 18 [(0, .ref (ad 0)), (1, vI x1), (2, vI x2), (3, vI x3), (4, vI x4), (5, vI x5), (6, vI x6), (7, vI x7), (8, vI x8)] [], fun _ _ _ _ _ _ _ _ _ => Iff.rfl⟩
  obtain ⟨Z84, z84⟩ : ∃ Z : Int → Int → Int → Int → Int → Int → Int → Int → Int → Mem → Prop, ∀ x1 x2 x3 x4 x5 x6 x8 t0 t1 s, Z x1 x2 x3 x4 x5 x6 x8 t0 t1 s ↔ WM κ (GB ad cA D) 9 Q s 84 [(0, .ref (ad 0)), (1, vI x1), (2, vI x2), (3, vI x3), (4, vI x4), (5, vI x5), (6, vI x6), (8, vI x8)] [vI t0, vI t1] := ⟨fun x1 x2 x3 x4 x5 x6 x8 t0 t1 s => WM κ (GB ad cA D) 9 Q s 84 [(0, .ref (ad 0)), (1, vI x1), (2, vI x2), (3, vI x3), (4, vI x4), (5, vI x5), (6, vI x6), (8, vI x8)] [vI t0, vI t1], fun _ _ _ _ _ _ _ _ _ _ => Iff.rfl⟩
  refine (fun h => ?_) (h Z18 Z84 ?_ ?_)
  · refine r_aload_n C 0 dX8_isWord_0 rfl ?_
    refine r_get (j := 35) (jz := 35) (v := vI (s 0 (35 : Int))) C dX8_isWord_1 (shB_0) rfl rfl (by decide) in_x8_isWord_X8 w_x8_isWord_276 rfl rfl rfl ?_
    refine r_iload_n C 1 dX8_isWord_4 rfl ?_
    refine r_icmp_ne (tgt := 12) C dX8_isWord_5 (by decide) ⟨h.1, fun c1 => ?_, fun c1 => ?_⟩
    · have h := h.2.1 c1
      refine r_iconst C dX8_isWord_12 ?_
      refine r_istore (ls' := [(7, vI (0 : Int)), (0, .ref (ad 0)), (1, vI p1), (2, vI p2), (3, vI p3), (4, vI p4), (5, vI p5), (6, vI p6)]) C dX8_isWord_13 (by decide) rfl ?_
      refine r_iconst C dX8_isWord_15 ?_
      refine r_istore (ls' := [(8, vI (0 : Int)), (7, vI (0 : Int)), (0, .ref (ad 0)), (1, vI p1), (2, vI p2), (3, vI p3), (4, vI p4), (5, vI p5), (6, vI p6)]) C dX8_isWord_16 (by decide) rfl ?_
      exact r_perm [2, 3, 4, 5, 6, 7, 8, 1, 0] rfl ((z18 _ _ _ _ _ _ _ _ _).1 h)
    · have h := h.2.2 c1
      refine r_iconst C dX8_isWord_8 ?_
      refine r_goto (tgt := 13) C dX8_isWord_9 (by decide) ?_
      refine r_istore (ls' := [(7, vI (1 : Int)), (0, .ref (ad 0)), (1, vI p1), (2, vI p2), (3, vI p3), (4, vI p4), (5, vI p5), (6, vI p6)]) C dX8_isWord_13 (by decide) rfl ?_
      refine r_iconst C dX8_isWord_15 ?_
      refine r_istore (ls' := [(8, vI (0 : Int)), (7, vI (1 : Int)), (0, .ref (ad 0)), (1, vI p1), (2, vI p2), (3, vI p3), (4, vI p4), (5, vI p5), (6, vI p6)]) C dX8_isWord_16 (by decide) rfl ?_
      exact r_perm [2, 3, 4, 5, 6, 7, 8, 1, 0] rfl ((z18 _ _ _ _ _ _ _ _ _).1 h)
  · intro x1 x2 x3 x4 x5 x6 x7 x8 s h
    refine (z18 _ _ _ _ _ _ _ _ _).2 ?_
    refine r_iload C 8 dX8_isWord_18 rfl ?_
    refine r_iload_n C 1 dX8_isWord_20 rfl ?_
    refine r_icmp_ge (tgt := 100) C dX8_isWord_21 (by decide) ⟨h.1, fun c7 => ?_, fun c7 => ?_⟩
    · have h := h.2.1 c7
      refine r_iload C 7 dX8_isWord_100 rfl ?_
      exact r_zreturn C dX8_isWord_102 h
    · have h := h.2.2 c7
      refine r_iload C 7 dX8_isWord_24 rfl ?_
      refine r_if_eq (tgt := 100) C dX8_isWord_26 (by decide) ⟨h.1, fun c6 => ?_, fun c6 => ?_⟩
      · have h := h.2.1 c6
        refine r_iload C 7 dX8_isWord_100 rfl ?_
        exact r_zreturn C dX8_isWord_102 h
      · have h := h.2.2 c6
        refine r_aload_n C 0 dX8_isWord_29 rfl ?_
        refine r_get (j := 29) (jz := 29) (v := .ref (ad 19)) C dX8_isWord_30 (shB_0) rfl rfl (by decide) in_x8_isWord_X8 w_x8_isWord_66 rfl rfl rfl ?_
        refine r_aload_n C 0 dX8_isWord_33 rfl ?_
        refine r_get (j := 34) (jz := 34) (v := vI (s 0 (34 : Int))) C dX8_isWord_34 (shB_0) rfl rfl (by decide) in_x8_isWord_X8 w_x8_isWord_269 rfl rfl rfl ?_
        refine r_iload C 8 dX8_isWord_37 rfl ?_
        refine r_iadd C dX8_isWord_39 ?_
        refine r_iald (nz := 160) C dX8_isWord_40 (shB_19) rfl (by decide) ⟨h.1, ?_⟩
        have h := h.2
        refine r_iload C 8 dX8_isWord_41 rfl ?_
        refine r_if_ne (tgt := 50) C dX8_isWord_43 (by decide) ⟨h.1, fun c5 => ?_, fun c5 => ?_⟩
        · have h := h.2.1 c5
          refine r_iload C 8 dX8_isWord_50 rfl ?_
          refine r_iconst C dX8_isWord_52 ?_
          refine r_icmp_ne (tgt := 60) C dX8_isWord_53 (by decide) ⟨h.1, fun c4 => ?_, fun c4 => ?_⟩
          · have h := h.2.1 c4
            refine r_iload C 8 dX8_isWord_60 rfl ?_
            refine r_iconst C dX8_isWord_62 ?_
            refine r_icmp_ne (tgt := 71) C dX8_isWord_63 (by decide) ⟨h.1, fun c3 => ?_, fun c3 => ?_⟩
            · have h := h.2.1 c3
              refine r_iload C 8 dX8_isWord_71 rfl ?_
              refine r_iconst C dX8_isWord_73 ?_
              refine r_icmp_ne (tgt := 82) C dX8_isWord_74 (by decide) ⟨h.1, fun c2 => ?_, fun c2 => ?_⟩
              · have h := h.2.1 c2
                refine r_iload C 6 dX8_isWord_82 rfl ?_
                exact r_perm [0, 1, 2, 3, 4, 5, 6, 8] rfl ((z84 _ _ _ _ _ _ _ _ _ _).1 h)
              · have h := h.2.2 c2
                refine r_iload C 5 dX8_isWord_77 rfl ?_
                refine r_goto (tgt := 84) C dX8_isWord_79 (by decide) ?_
                exact r_perm [0, 1, 2, 3, 4, 5, 6, 8] rfl ((z84 _ _ _ _ _ _ _ _ _ _).1 h)
            · have h := h.2.2 c3
              refine r_iload C 4 dX8_isWord_66 rfl ?_
              refine r_goto (tgt := 84) C dX8_isWord_68 (by decide) ?_
              exact r_perm [0, 1, 2, 3, 4, 5, 6, 8] rfl ((z84 _ _ _ _ _ _ _ _ _ _).1 h)
          · have h := h.2.2 c4
            refine r_iload_n C 3 dX8_isWord_56 rfl ?_
            refine r_goto (tgt := 84) C dX8_isWord_57 (by decide) ?_
            exact r_perm [0, 1, 2, 3, 4, 5, 6, 8] rfl ((z84 _ _ _ _ _ _ _ _ _ _).1 h)
        · have h := h.2.2 c5
          refine r_iload_n C 2 dX8_isWord_46 rfl ?_
          refine r_goto (tgt := 84) C dX8_isWord_47 (by decide) ?_
          exact r_perm [0, 1, 2, 3, 4, 5, 6, 8] rfl ((z84 _ _ _ _ _ _ _ _ _ _).1 h)
  · intro x1 x2 x3 x4 x5 x6 x8 t0 t1 s h
    refine (z84 _ _ _ _ _ _ _ _ _ _).2 ?_
    refine r_icmp_ne (tgt := 91) C dX8_isWord_84 (by decide) ⟨h.1, fun c8 => ?_, fun c8 => ?_⟩
    · have h := h.2.1 c8
      refine r_iconst C dX8_isWord_91 ?_
      refine r_istore (ls' := [(7, vI (0 : Int)), (0, .ref (ad 0)), (1, vI x1), (2, vI x2), (3, vI x3), (4, vI x4), (5, vI x5), (6, vI x6), (8, vI x8)]) C dX8_isWord_92 (by decide) rfl ?_
      refine r_iinc (j := 8) (ls' := [(8, vI (x8 + (1 : Int))), (7, vI (0 : Int)), (0, .ref (ad 0)), (1, vI x1), (2, vI x2), (3, vI x3), (4, vI x4), (5, vI x5), (6, vI x6)]) C dX8_isWord_94 rfl (by decide) rfl ?_
      refine r_goto (tgt := 18) C dX8_isWord_97 (by decide) ?_
      exact r_perm [2, 3, 4, 5, 6, 7, 8, 1, 0] rfl ((z18 _ _ _ _ _ _ _ _ _).1 h)
    · have h := h.2.2 c8
      refine r_iconst C dX8_isWord_87 ?_
      refine r_goto (tgt := 92) C dX8_isWord_88 (by decide) ?_
      refine r_istore (ls' := [(7, vI (1 : Int)), (0, .ref (ad 0)), (1, vI x1), (2, vI x2), (3, vI x3), (4, vI x4), (5, vI x5), (6, vI x6), (8, vI x8)]) C dX8_isWord_92 (by decide) rfl ?_
      refine r_iinc (j := 8) (ls' := [(8, vI (x8 + (1 : Int))), (7, vI (1 : Int)), (0, .ref (ad 0)), (1, vI x1), (2, vI x2), (3, vI x3), (4, vI x4), (5, vI x5), (6, vI x6)]) C dX8_isWord_94 rfl (by decide) rfl ?_
      refine r_goto (tgt := 18) C dX8_isWord_97 (by decide) ?_
      exact r_perm [2, 3, 4, 5, 6, 7, 8, 1, 0] rfl ((z18 _ _ _ _ _ _ _ _ _).1 h)
theorem x8_isWord_ct (l : Launch) (ad : Nat → Nat) (cA : Nat → ClassId) (D : va_G) (p1 : Int) (p2 : Int) (p3 : Int) (p4 : Int) (p5 : Int) (p6 : Int) (s : Mem) : MG l yX8_isWord wsX8_isWord x8_isWord_rm ocI [.ref (ad 0), vI p1, vI p2, vI p3, vI p4, vI p5, vI p6] (GB ad cA D) s (x8_isWord p1 p2 p3 p4 p5 p6 s) :=
  m_met (own := RX8) (nL := 9) (by decide) rfl rfl (Nat.le_of_ble_eq_true rfl) rfl rfl rfl (fun κ hl C Q Pst hW hQ => x8_isWord_bd C (x8_isWord_mono hW hQ))
