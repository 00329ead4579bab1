def x7_within (p0 : Int) (p1 : Int) (p2 : Int) (s : Mem) (Q : Int → Mem → Prop) : Prop :=
  (InI p0 ∧ InI p1) ∧ (p0 < p1 → ((0 : Int) ≤ (0 : Int) ∧ (0 : Int) ≤ 1) ∧ Q (0 : Int) s) ∧ (p1 ≤ p0 → (InI p0 ∧ InI p2) ∧ (p2 < p0 → ((0 : Int) ≤ (0 : Int) ∧ (0 : Int) ≤ 1) ∧ Q (0 : Int) s) ∧ (p0 ≤ p2 → ((0 : Int) ≤ (1 : Int) ∧ (1 : Int) ≤ 1) ∧ Q (1 : Int) s))
theorem x7_within_mono {Q R : Int → Mem → Prop} {p0 : Int} {p1 : Int} {p2 : Int} {s : Mem} (h : x7_within p0 p1 p2 s Q) (hQ : ∀ r s, Q r s → R r s) : x7_within p0 p1 p2 s R :=
  ⟨h.1, fun c => have h := h.2.1 c; ⟨h.1, hQ _ _ h.2⟩, fun c => have h := h.2.2 c; ⟨h.1, fun c => have h := h.2.1 c; ⟨h.1, hQ _ _ h.2⟩, fun c => have h := h.2.2 c; ⟨h.1, hQ _ _ h.2⟩⟩⟩
def x7_within_rm : Room := { frames := 0, cells := 0, slots := 0, locals := 0 }
set_option maxHeartbeats 4000000 in
set_option maxRecDepth 100000 in
theorem x7_within_bd {κ : KT} {ad : Nat → Nat} {cA : Nat → ClassId} {D : va_G} {Q : State → Prop} {p0 : Int} {p1 : Int} {p2 : Int} {s : Mem} (C : CX κ (GA ad cA D) RX7 cX7_within 3 wsX7_within x7_within_rm (some .boolean)) (h : x7_within p0 p1 p2 s (RT κ (GA ad cA D) ocI Q)) : WM κ (GA ad cA D) 3 Q s 0 [(0, vI p0), (1, vI p1), (2, vI p2)] [] := by
  refine r_iload_n C 0 dX7_within_0 rfl ?_
  refine r_iload_n C 1 dX7_within_1 rfl ?_
  refine r_icmp_lt (tgt := 14) C dX7_within_2 (by decide) ⟨h.1, fun c2 => ?_, fun c2 => ?_⟩
  · have h := h.2.1 c2
    refine r_iconst C dX7_within_14 ?_
    exact r_zreturn C dX7_within_15 h
  · have h := h.2.2 c2
    refine r_iload_n C 0 dX7_within_5 rfl ?_
    refine r_iload_n C 2 dX7_within_6 rfl ?_
    refine r_icmp_gt (tgt := 14) C dX7_within_7 (by decide) ⟨h.1, fun c1 => ?_, fun c1 => ?_⟩
    · have h := h.2.1 c1
      refine r_iconst C dX7_within_14 ?_
      exact r_zreturn C dX7_within_15 h
    · have h := h.2.2 c1
      refine r_iconst C dX7_within_10 ?_
      refine r_goto (tgt := 15) C dX7_within_11 (by decide) ?_
      exact r_zreturn C dX7_within_15 h
theorem x7_within_ct (l : Launch) (ad : Nat → Nat) (cA : Nat → ClassId) (D : va_G) (p0 : Int) (p1 : Int) (p2 : Int) (s : Mem) : MG l yX7_within wsX7_within x7_within_rm ocI [vI p0, vI p1, vI p2] (GA ad cA D) s (x7_within p0 p1 p2 s) :=
  m_met (own := RX7) (nL := 3) (by decide) rfl rfl (Nat.le_of_ble_eq_true rfl) rfl rfl rfl (fun κ hl C Q Pst hW hQ => x7_within_bd C (x7_within_mono hW hQ))

def x7_leastOf (p0 : Int) (s : Mem) (Q : Int → Mem → Prop) : Prop :=
  InI p0 ∧ (p0 = (0 : Int) → Q (1 : Int) s) ∧ (¬ p0 = (0 : Int) → (InI p0 ∧ InI (1 : Int)) ∧ (¬ p0 = (1 : Int) → Q (0 : Int) s) ∧ (p0 = (1 : Int) → Q (1 : Int) s))
theorem x7_leastOf_mono {Q R : Int → Mem → Prop} {p0 : Int} {s : Mem} (h : x7_leastOf p0 s Q) (hQ : ∀ r s, Q r s → R r s) : x7_leastOf p0 s R :=
  ⟨h.1, fun c => have h := h.2.1 c; hQ _ _ h, fun c => have h := h.2.2 c; ⟨h.1, fun c => have h := h.2.1 c; hQ _ _ h, fun c => have h := h.2.2 c; hQ _ _ h⟩⟩
def x7_leastOf_rm : Room := { frames := 0, cells := 0, slots := 0, locals := 0 }
set_option maxHeartbeats 4000000 in
set_option maxRecDepth 100000 in
theorem x7_leastOf_bd {κ : KT} {ad : Nat → Nat} {cA : Nat → ClassId} {D : va_G} {Q : State → Prop} {p0 : Int} {s : Mem} (C : CX κ (GA ad cA D) RX7 cX7_leastOf 1 wsX7_leastOf x7_leastOf_rm (some .int)) (h : x7_leastOf p0 s (RT κ (GA ad cA D) ocI Q)) : WM κ (GA ad cA D) 1 Q s 0 [(0, vI p0)] [] := by
  refine r_iload_n C 0 dX7_leastOf_0 rfl ?_
  refine r_if_eq (tgt := 9) C dX7_leastOf_1 (by decide) ⟨h.1, fun c2 => ?_, fun c2 => ?_⟩
  · have h := h.2.1 c2
    refine r_iconst C dX7_leastOf_9 ?_
    refine r_goto (tgt := 14) C dX7_leastOf_10 (by decide) ?_
    exact r_ireturn C dX7_leastOf_14 h
  · have h := h.2.2 c2
    refine r_iload_n C 0 dX7_leastOf_4 rfl ?_
    refine r_iconst C dX7_leastOf_5 ?_
    refine r_icmp_ne (tgt := 13) C dX7_leastOf_6 (by decide) ⟨h.1, fun c1 => ?_, fun c1 => ?_⟩
    · have h := h.2.1 c1
      refine r_iconst C dX7_leastOf_13 ?_
      exact r_ireturn C dX7_leastOf_14 h
    · have h := h.2.2 c1
      refine r_iconst C dX7_leastOf_9 ?_
      refine r_goto (tgt := 14) C dX7_leastOf_10 (by decide) ?_
      exact r_ireturn C dX7_leastOf_14 h
theorem x7_leastOf_ct (l : Launch) (ad : Nat → Nat) (cA : Nat → ClassId) (D : va_G) (p0 : Int) (s : Mem) : MG l yX7_leastOf wsX7_leastOf x7_leastOf_rm ocI [vI p0] (GA ad cA D) s (x7_leastOf p0 s) :=
  m_met (own := RX7) (nL := 1) (by decide) rfl rfl (Nat.le_of_ble_eq_true rfl) rfl rfl rfl (fun κ hl C Q Pst hW hQ => x7_leastOf_bd C (x7_leastOf_mono hW hQ))

def x7_mostOf (p0 : Int) (s : Mem) (Q : Int → Mem → Prop) : Prop :=
  (InI p0 ∧ InI (2 : Int)) ∧ (¬ p0 = (2 : Int) → (InI p0 ∧ InI (3 : Int)) ∧ (¬ p0 = (3 : Int) → Q (9 : Int) s) ∧ (p0 = (3 : Int) → Q (200 : Int) s)) ∧ (p0 = (2 : Int) → Q (200 : Int) s)
theorem x7_mostOf_mono {Q R : Int → Mem → Prop} {p0 : Int} {s : Mem} (h : x7_mostOf p0 s Q) (hQ : ∀ r s, Q r s → R r s) : x7_mostOf p0 s R :=
  ⟨h.1, fun c => have h := h.2.1 c; ⟨h.1, fun c => have h := h.2.1 c; hQ _ _ h, fun c => have h := h.2.2 c; hQ _ _ h⟩, fun c => have h := h.2.2 c; hQ _ _ h⟩
def x7_mostOf_rm : Room := { frames := 0, cells := 0, slots := 0, locals := 0 }
set_option maxHeartbeats 4000000 in
set_option maxRecDepth 100000 in
theorem x7_mostOf_bd {κ : KT} {ad : Nat → Nat} {cA : Nat → ClassId} {D : va_G} {Q : State → Prop} {p0 : Int} {s : Mem} (C : CX κ (GA ad cA D) RX7 cX7_mostOf 1 wsX7_mostOf x7_mostOf_rm (some .int)) (h : x7_mostOf p0 s (RT κ (GA ad cA D) ocI Q)) : WM κ (GA ad cA D) 1 Q s 0 [(0, vI p0)] [] := by
  refine r_iload_n C 0 dX7_mostOf_0 rfl ?_
  refine r_iconst C dX7_mostOf_1 ?_
  refine r_icmp_ne (tgt := 9) C dX7_mostOf_2 (by decide) ⟨h.1, fun c2 => ?_, fun c2 => ?_⟩
  · have h := h.2.1 c2
    refine r_iload_n C 0 dX7_mostOf_9 rfl ?_
    refine r_iconst C dX7_mostOf_10 ?_
    refine r_icmp_ne (tgt := 20) C dX7_mostOf_11 (by decide) ⟨h.1, fun c1 => ?_, fun c1 => ?_⟩
    · have h := h.2.1 c1
      refine r_bipush C dX7_mostOf_20 (by decide) ?_
      exact r_ireturn C dX7_mostOf_22 h
    · have h := h.2.2 c1
      refine r_sipush C dX7_mostOf_14 (by decide) ?_
      refine r_goto (tgt := 22) C dX7_mostOf_17 (by decide) ?_
      exact r_ireturn C dX7_mostOf_22 h
  · have h := h.2.2 c2
    refine r_sipush C dX7_mostOf_5 (by decide) ?_
    exact r_ireturn C dX7_mostOf_8 h
theorem x7_mostOf_ct (l : Launch) (ad : Nat → Nat) (cA : Nat → ClassId) (D : va_G) (p0 : Int) (s : Mem) : MG l yX7_mostOf wsX7_mostOf x7_mostOf_rm ocI [vI p0] (GA ad cA D) s (x7_mostOf p0 s) :=
  m_met (own := RX7) (nL := 1) (by decide) rfl rfl (Nat.le_of_ble_eq_true rfl) rfl rfl rfl (fun κ hl C Q Pst hW hQ => x7_mostOf_bd C (x7_mostOf_mono hW hQ))

def x7_asNumber (p0 : Int) (s : Mem) (Q : Int → Mem → Prop) : Prop :=
  InI p0 ∧ (p0 = (0 : Int) → Q (0 : Int) s) ∧ (¬ p0 = (0 : Int) → Q (1 : Int) s)
theorem x7_asNumber_mono {Q R : Int → Mem → Prop} {p0 : Int} {s : Mem} (h : x7_asNumber p0 s Q) (hQ : ∀ r s, Q r s → R r s) : x7_asNumber p0 s R :=
  ⟨h.1, fun c => have h := h.2.1 c; hQ _ _ h, fun c => have h := h.2.2 c; hQ _ _ h⟩
def x7_asNumber_rm : Room := { frames := 0, cells := 0, slots := 0, locals := 0 }
set_option maxHeartbeats 4000000 in
set_option maxRecDepth 100000 in
theorem x7_asNumber_bd {κ : KT} {ad : Nat → Nat} {cA : Nat → ClassId} {D : va_G} {Q : State → Prop} {p0 : Int} {s : Mem} (C : CX κ (GA ad cA D) RX7 cX7_asNumber 1 wsX7_asNumber x7_asNumber_rm (some .int)) (h : x7_asNumber p0 s (RT κ (GA ad cA D) ocI Q)) : WM κ (GA ad cA D) 1 Q s 0 [(0, vI p0)] [] := by
  refine r_iload_n C 0 dX7_asNumber_0 rfl ?_
  refine r_if_eq (tgt := 8) C dX7_asNumber_1 (by decide) ⟨h.1, fun c1 => ?_, fun c1 => ?_⟩
  · have h := h.2.1 c1
    refine r_iconst C dX7_asNumber_8 ?_
    exact r_ireturn C dX7_asNumber_9 h
  · have h := h.2.2 c1
    refine r_iconst C dX7_asNumber_4 ?_
    refine r_goto (tgt := 9) C dX7_asNumber_5 (by decide) ?_
    exact r_ireturn C dX7_asNumber_9 h
theorem x7_asNumber_ct (l : Launch) (ad : Nat → Nat) (cA : Nat → ClassId) (D : va_G) (p0 : Int) (s : Mem) : MG l yX7_asNumber wsX7_asNumber x7_asNumber_rm ocI [vI p0] (GA ad cA D) s (x7_asNumber p0 s) :=
  m_met (own := RX7) (nL := 1) (by decide) rfl rfl (Nat.le_of_ble_eq_true rfl) rfl rfl rfl (fun κ hl C Q Pst hW hQ => x7_asNumber_bd C (x7_asNumber_mono hW hQ))

def x7_commonDivisor_be (X3 : Int → Int → Int → Mem → Prop) (Q : Int → Mem → Prop) (p0 : Int) (p2 : Int) (s : Mem) : Prop :=
  X3 p0 p2 (0 : Int) s
def x7_commonDivisor_b3 (X3 : Int → Int → Int → Mem → Prop) (Q : Int → Mem → Prop) (x0 : Int) (x2 : Int) (x4 : Int) (s : Mem) : Prop :=
  (InI x4 ∧ InI (200 : Int)) ∧ ((200 : Int) ≤ x4 → Q x0 s) ∧ (x4 < (200 : Int) → (InL x2 ∧ InL (0 : Int)) ∧ (x2 = (0 : Int) → Q x0 s) ∧ (¬ x2 = (0 : Int) → (InL x0 ∧ InL x2 ∧ ¬ x2 = 0) ∧ X3 x2 (Int.tmod x0 x2) (x4 + (1 : Int)) s))
theorem x7_commonDivisor_me {X3 Y3 : Int → Int → Int → Mem → Prop} {Q R : Int → Mem → Prop} (hX3 : ∀ x0 x2 x4 s, X3 x0 x2 x4 s → Y3 x0 x2 x4 s) (hQ : ∀ r s, Q r s → R r s) {p0 : Int} {p2 : Int} {s : Mem} (h : x7_commonDivisor_be X3 Q p0 p2 s) : x7_commonDivisor_be Y3 R p0 p2 s :=
  hX3 _ _ _ _ h
theorem x7_commonDivisor_m3 {X3 Y3 : Int → Int → Int → Mem → Prop} {Q R : Int → Mem → Prop} (hX3 : ∀ x0 x2 x4 s, X3 x0 x2 x4 s → Y3 x0 x2 x4 s) (hQ : ∀ r s, Q r s → R r s) {x0 : Int} {x2 : Int} {x4 : Int} {s : Mem} (h : x7_commonDivisor_b3 X3 Q x0 x2 x4 s) : x7_commonDivisor_b3 Y3 R x0 x2 x4 s :=
  ⟨h.1, fun c => have h := h.2.1 c; hQ _ _ h, fun c => have h := h.2.2 c; ⟨h.1, fun c => have h := h.2.1 c; hQ _ _ h, fun c => have h := h.2.2 c; ⟨h.1, have h := h.2; hX3 _ _ _ _ h⟩⟩⟩
def x7_commonDivisor (p0 : Int) (p2 : Int) (s : Mem) (Q : Int → Mem → Prop) : Prop := ∀ (X3 : Int → Int → Int → Mem → Prop), (∀ x0 x2 x4 s, x7_commonDivisor_b3 X3 Q x0 x2 x4 s → X3 x0 x2 x4 s) → x7_commonDivisor_be X3 Q p0 p2 s
def x7_commonDivisor_L3 (Q : Int → Mem → Prop) (x0 : Int) (x2 : Int) (x4 : Int) (s : Mem) : Prop := ∀ (X3 : Int → Int → Int → Mem → Prop), (∀ x0 x2 x4 s, x7_commonDivisor_b3 X3 Q x0 x2 x4 s → X3 x0 x2 x4 s) → X3 x0 x2 x4 s
theorem x7_commonDivisor_i {Q : Int → Mem → Prop} {p0 : Int} {p2 : Int} {s : Mem} (h : x7_commonDivisor_be (x7_commonDivisor_L3 Q) Q p0 p2 s) : x7_commonDivisor p0 p2 s Q := fun X3 k3 => x7_commonDivisor_me (fun _ _ _ _ h => h X3 k3) (fun _ _ h => h) h
theorem x7_commonDivisor_s3 {Q : Int → Mem → Prop} {x0 : Int} {x2 : Int} {x4 : Int} {s : Mem} (h : x7_commonDivisor_b3 (x7_commonDivisor_L3 Q) Q x0 x2 x4 s) : x7_commonDivisor_L3 Q x0 x2 x4 s := fun X3 k3 => k3 _ _ _ _ (x7_commonDivisor_m3 (fun _ _ _ _ h => h X3 k3) (fun _ _ h => h) h)
theorem x7_commonDivisor_mono {Q R : Int → Mem → Prop} {p0 : Int} {p2 : Int} {s : Mem} (h : x7_commonDivisor p0 p2 s Q) (hQ : ∀ r s, Q r s → R r s) : x7_commonDivisor p0 p2 s R := fun X3 k3 => x7_commonDivisor_me (fun _ _ _ _ h => h) hQ (h X3 (fun _ _ _ _ h => k3 _ _ _ _ (x7_commonDivisor_m3 (fun _ _ _ _ h => h) hQ h)))
def x7_commonDivisor_rm : Room := { frames := 0, cells := 0, slots := 0, locals := 0 }
set_option maxHeartbeats 4000000 in
set_option maxRecDepth 100000 in
theorem x7_commonDivisor_bd {κ : KT} {ad : Nat → Nat} {cA : Nat → ClassId} {D : va_G} {Q : State → Prop} {p0 : Int} {p2 : Int} {s : Mem} (C : CX κ (GA ad cA D) RX7 cX7_commonDivisor 7 wsX7_commonDivisor x7_commonDivisor_rm (some .long)) (h : x7_commonDivisor p0 p2 s (RT κ (GA ad cA D) ocL Q)) : WM κ (GA ad cA D) 7 Q s 0 [(0, vL p0), (2, vL p2)] [] := by
  obtain ⟨Z3, z3⟩ : ∃ Z : Int → Int → Int → Mem → Prop, ∀ x0 x2 x4 s, Z x0 x2 x4 s ↔ WM κ (GA ad cA D) 7 Q s 3 [(0, vL x0), (2, vL x2), (4, vI x4)] [] := ⟨fun x0 x2 x4 s => WM κ (GA ad cA D) 7 Q s 3 [(0, vL x0), (2, vL x2), (4, vI x4)] [], fun _ _ _ _ => Iff.rfl⟩
  refine (fun h => ?_) (h Z3 ?_)
  · refine r_iconst C dX7_commonDivisor_0 ?_
    refine r_istore (ls' := [(4, vI (0 : Int)), (0, vL p0), (2, vL p2)]) C dX7_commonDivisor_1 (by decide) rfl ?_
    exact r_perm [1, 2, 0] rfl ((z3 _ _ _ _).1 h)
  · intro x0 x2 x4 s h
    refine (z3 _ _ _ _).2 ?_
    refine r_iload C 2 dX7_commonDivisor_3 rfl ?_
    refine r_sipush C dX7_commonDivisor_5 (by decide) ?_
    refine r_icmp_ge (tgt := 33) C dX7_commonDivisor_8 (by decide) ⟨h.1, fun c2 => ?_, fun c2 => ?_⟩
    · have h := h.2.1 c2
      refine r_lload_n C 0 dX7_commonDivisor_33 rfl ?_
      exact r_lreturn C dX7_commonDivisor_34 h
    · have h := h.2.2 c2
      refine r_lload_n C 1 dX7_commonDivisor_11 rfl ?_
      refine r_lconst (z := 0) C dX7_commonDivisor_12 rfl ?_
      refine r_lcmp_eq (tgt := 33) C dX7_commonDivisor_13 dX7_commonDivisor_14 (by decide) ⟨h.1, fun c1 => ?_, fun c1 => ?_⟩
      · have h := h.2.1 c1
        refine r_lload_n C 0 dX7_commonDivisor_33 rfl ?_
        exact r_lreturn C dX7_commonDivisor_34 h
      · have h := h.2.2 c1
        refine r_lload_n C 0 dX7_commonDivisor_17 rfl ?_
        refine r_lload_n C 1 dX7_commonDivisor_18 rfl ?_
        refine r_lrem C dX7_commonDivisor_19 ⟨h.1, ?_⟩
        have h := h.2
        refine r_lstore (ls' := [(5, vL (Int.tmod x0 x2)), (0, vL x0), (2, vL x2), (4, vI x4)]) C dX7_commonDivisor_20 (by decide) rfl ?_
        refine r_lload_n C 2 dX7_commonDivisor_22 rfl ?_
        refine r_lstore_n (ls' := [(0, vL x2), (5, vL (Int.tmod x0 x2)), (2, vL x2), (4, vI x4)]) C dX7_commonDivisor_23 rfl (by decide) rfl ?_
        refine r_lload C 1 dX7_commonDivisor_24 rfl ?_
        refine r_lstore_n (ls' := [(2, vL (Int.tmod x0 x2)), (0, vL x2), (5, vL (Int.tmod x0 x2)), (4, vI x4)]) C dX7_commonDivisor_26 rfl (by decide) rfl ?_
        refine r_iinc (j := 3) (ls' := [(4, vI (x4 + (1 : Int))), (2, vL (Int.tmod x0 x2)), (0, vL x2), (5, vL (Int.tmod x0 x2))]) C dX7_commonDivisor_27 rfl (by decide) rfl ?_
        refine r_goto (tgt := 3) C dX7_commonDivisor_30 (by decide) ?_
        exact r_perm [2, 1, 0] rfl ((z3 _ _ _ _).1 h)
theorem x7_commonDivisor_ct (l : Launch) (ad : Nat → Nat) (cA : Nat → ClassId) (D : va_G) (p0 : Int) (p2 : Int) (s : Mem) : MG l yX7_commonDivisor wsX7_commonDivisor x7_commonDivisor_rm ocL [vL p0, vL p2] (GA ad cA D) s (x7_commonDivisor p0 p2 s) :=
  m_met (own := RX7) (nL := 7) (by decide) rfl rfl (Nat.le_of_ble_eq_true rfl) rfl rfl rfl (fun κ hl C Q Pst hW hQ => x7_commonDivisor_bd C (x7_commonDivisor_mono hW hQ))

def x7_leastTerm_be (X10 : Int → Int → Int → Mem → Prop) (Q : Int → Mem → Prop) (p0 : Int) (p2 : Int) (p4 : Int) (s : Mem) : Prop :=
  InI p4 ∧ (¬ p4 = (0 : Int) → X10 p0 p2 p2 s) ∧ (p4 = (0 : Int) → X10 p0 p2 p0 s)
def x7_leastTerm_b10 (X10 : Int → Int → Int → Mem → Prop) (Q : Int → Mem → Prop) (x0 : Int) (x2 : Int) (t0 : Int) (s : Mem) : Prop :=
  (InL x0) ∧ x7_commonDivisor (if (0 : Int) < x0 then x0 else -x0) x2 s (fun r3 s2 => (InL r3 ∧ InL (0 : Int)) ∧ (¬ r3 = (0 : Int) → (InL t0 ∧ InL r3 ∧ ¬ r3 = 0) ∧ Q (Int.tdiv t0 r3) s2) ∧ (r3 = (0 : Int) → Q t0 s2))
theorem x7_leastTerm_me {X10 Y10 : Int → Int → Int → Mem → Prop} {Q R : Int → Mem → Prop} (hX10 : ∀ x0 x2 t0 s, X10 x0 x2 t0 s → Y10 x0 x2 t0 s) (hQ : ∀ r s, Q r s → R r s) {p0 : Int} {p2 : Int} {p4 : Int} {s : Mem} (h : x7_leastTerm_be X10 Q p0 p2 p4 s) : x7_leastTerm_be Y10 R p0 p2 p4 s :=
  ⟨h.1, fun c => have h := h.2.1 c; hX10 _ _ _ _ h, fun c => have h := h.2.2 c; hX10 _ _ _ _ h⟩
theorem x7_leastTerm_m10 {X10 Y10 : Int → Int → Int → Mem → Prop} {Q R : Int → Mem → Prop} (hX10 : ∀ x0 x2 t0 s, X10 x0 x2 t0 s → Y10 x0 x2 t0 s) (hQ : ∀ r s, Q r s → R r s) {x0 : Int} {x2 : Int} {t0 : Int} {s : Mem} (h : x7_leastTerm_b10 X10 Q x0 x2 t0 s) : x7_leastTerm_b10 Y10 R x0 x2 t0 s :=
  ⟨h.1, have h := h.2; x7_commonDivisor_mono h (fun r3 s2 h => ⟨h.1, fun c => have h := h.2.1 c; ⟨h.1, have h := h.2; hQ _ _ h⟩, fun c => have h := h.2.2 c; hQ _ _ h⟩)⟩
def x7_leastTerm (p0 : Int) (p2 : Int) (p4 : Int) (s : Mem) (Q : Int → Mem → Prop) : Prop := ∀ (X10 : Int → Int → Int → Mem → Prop), (∀ x0 x2 t0 s, x7_leastTerm_b10 X10 Q x0 x2 t0 s → X10 x0 x2 t0 s) → x7_leastTerm_be X10 Q p0 p2 p4 s
def x7_leastTerm_L10 (Q : Int → Mem → Prop) (x0 : Int) (x2 : Int) (t0 : Int) (s : Mem) : Prop := ∀ (X10 : Int → Int → Int → Mem → Prop), (∀ x0 x2 t0 s, x7_leastTerm_b10 X10 Q x0 x2 t0 s → X10 x0 x2 t0 s) → X10 x0 x2 t0 s
theorem x7_leastTerm_i {Q : Int → Mem → Prop} {p0 : Int} {p2 : Int} {p4 : Int} {s : Mem} (h : x7_leastTerm_be (x7_leastTerm_L10 Q) Q p0 p2 p4 s) : x7_leastTerm p0 p2 p4 s Q := fun X10 k10 => x7_leastTerm_me (fun _ _ _ _ h => h X10 k10) (fun _ _ h => h) h
theorem x7_leastTerm_s10 {Q : Int → Mem → Prop} {x0 : Int} {x2 : Int} {t0 : Int} {s : Mem} (h : x7_leastTerm_b10 (x7_leastTerm_L10 Q) Q x0 x2 t0 s) : x7_leastTerm_L10 Q x0 x2 t0 s := fun X10 k10 => k10 _ _ _ _ (x7_leastTerm_m10 (fun _ _ _ _ h => h X10 k10) (fun _ _ h => h) h)
theorem x7_leastTerm_mono {Q R : Int → Mem → Prop} {p0 : Int} {p2 : Int} {p4 : Int} {s : Mem} (h : x7_leastTerm p0 p2 p4 s Q) (hQ : ∀ r s, Q r s → R r s) : x7_leastTerm p0 p2 p4 s R := fun X10 k10 => x7_leastTerm_me (fun _ _ _ _ h => h) hQ (h X10 (fun _ _ _ _ h => k10 _ _ _ _ (x7_leastTerm_m10 (fun _ _ _ _ h => h) hQ h)))
def x7_leastTerm_rm : Room := { frames := 1, cells := 0, slots := 0, locals := 60 }
theorem w_x7_leastTerm_l293 : Cond.methodLink RX7 293 Lib.MathLoose.abs_long.x ∈ wsX7_leastTerm := by decide +kernel
theorem w_x7_leastTerm_s293 : Cond.static Lib.MathLoose.abs_long.x ∈ wsX7_leastTerm := by decide +kernel
theorem w_x7_leastTerm_im : Cond.initialized "java/lang/Math" ∈ wsX7_leastTerm := by decide +kernel
theorem w_x7_leastTerm_c293 : Cond.code Lib.MathLoose.abs_long.x Lib.MathLoose.abs_long.code 2 (some .long) ∈ wsX7_leastTerm := by decide +kernel
set_option maxHeartbeats 4000000 in
set_option maxRecDepth 100000 in
theorem x7_leastTerm_bd {κ : KT} {ad : Nat → Nat} {cA : Nat → ClassId} {D : va_G} {Q : State → Prop} {p0 : Int} {p2 : Int} {p4 : Int} {s : Mem} (C : CX κ (GA ad cA D) RX7 cX7_leastTerm 9 wsX7_leastTerm x7_leastTerm_rm (some .long)) (h : x7_leastTerm p0 p2 p4 s (RT κ (GA ad cA D) ocL Q)) : WM κ (GA ad cA D) 9 Q s 0 [(0, vL p0), (2, vL p2), (4, vI p4)] [] := by
  obtain ⟨Z10, z10⟩ : ∃ Z : Int → Int → Int → Mem → Prop, ∀ x0 x2 t0 s, Z x0 x2 t0 s ↔ WM κ (GA ad cA D) 9 Q s 10 [(0, vL x0), (2, vL x2)] [vL t0] := ⟨fun x0 x2 t0 s => WM κ (GA ad cA D) 9 Q s 10 [(0, vL x0), (2, vL x2)] [vL t0], fun _ _ _ _ => Iff.rfl⟩
  refine (fun h => ?_) (h Z10 ?_)
  · refine r_iload C 2 dX7_leastTerm_0 rfl ?_
    refine r_if_ne (tgt := 9) C dX7_leastTerm_2 (by decide) ⟨h.1, fun c1 => ?_, fun c1 => ?_⟩
    · have h := h.2.1 c1
      refine r_lload_n C 1 dX7_leastTerm_9 rfl ?_
      exact r_perm [0, 1] rfl ((z10 _ _ _ _).1 h)
    · have h := h.2.2 c1
      refine r_lload_n C 0 dX7_leastTerm_5 rfl ?_
      refine r_goto (tgt := 10) C dX7_leastTerm_6 (by decide) ?_
      exact r_perm [0, 1] rfl ((z10 _ _ _ _).1 h)
  · intro x0 x2 t0 s h
    refine (z10 _ _ _ _).2 ?_
    refine r_lstore (ls' := [(5, vL t0), (0, vL x0), (2, vL x2)]) C dX7_leastTerm_10 (by decide) rfl ?_
    refine r_lload_n C 1 dX7_leastTerm_12 rfl ?_
    refine r_absL C dX7_leastTerm_13 w_x7_leastTerm_l293 w_x7_leastTerm_s293 w_x7_leastTerm_im w_x7_leastTerm_c293 (by decide) (Nat.le_of_ble_eq_true rfl) ⟨h.1, ?_⟩
    have h := h.2
    refine r_lload_n C 2 dX7_leastTerm_16 rfl ?_
    refine r_callS (As := [vL (if (0 : Int) < x0 then x0 else -x0), vL x2]) (n := 2) C dX7_leastTerm_17 (x7_commonDivisor_ct κ.1.2.1 ad cA D (if (0 : Int) < x0 then x0 else -x0) x2 s) gX7_leastTerm_X7_commonDivisor rfl ⟨rfl, rfl⟩ (by decide +kernel) (by decide) rfl rfl (Nat.le_of_ble_eq_true rfl) (fun _ => rfl) ?_
    refine x7_commonDivisor_mono h (fun r3 s2 h => ?_)
    refine r_lstore (ls' := [(7, vL r3), (5, vL t0), (0, vL x0), (2, vL x2)]) C dX7_leastTerm_20 (by decide) rfl ?_
    refine r_lload C 0 dX7_leastTerm_22 rfl ?_
    refine r_lconst (z := 0) C dX7_leastTerm_24 rfl ?_
    refine r_lcmp_ne (tgt := 34) C dX7_leastTerm_25 dX7_leastTerm_26 (by decide) ⟨h.1, fun c4 => ?_, fun c4 => ?_⟩
    · have h := h.2.1 c4
      refine r_lload C 1 dX7_leastTerm_34 rfl ?_
      refine r_lload C 0 dX7_leastTerm_36 rfl ?_
      refine r_ldiv C dX7_leastTerm_38 ⟨h.1, ?_⟩
      have h := h.2
      exact r_lreturn C dX7_leastTerm_39 h
    · have h := h.2.2 c4
      refine r_lload C 1 dX7_leastTerm_29 rfl ?_
      refine r_goto (tgt := 39) C dX7_leastTerm_31 (by decide) ?_
      exact r_lreturn C dX7_leastTerm_39 h
theorem x7_leastTerm_ct (l : Launch) (ad : Nat → Nat) (cA : Nat → ClassId) (D : va_G) (p0 : Int) (p2 : Int) (p4 : Int) (s : Mem) : MG l yX7_leastTerm wsX7_leastTerm x7_leastTerm_rm ocL [vL p0, vL p2, vI p4] (GA ad cA D) s (x7_leastTerm p0 p2 p4 s) :=
  m_met (own := RX7) (nL := 9) (by decide) rfl rfl (Nat.le_of_ble_eq_true rfl) rfl rfl rfl (fun κ hl C Q Pst hW hQ => x7_leastTerm_bd C (x7_leastTerm_mono hW hQ))

def x7_wholeFrom (p0 : Int) (p2 : Int) (s : Mem) (Q : Int → Mem → Prop) : Prop :=
  (InL p0 ∧ InL (0 : Int)) ∧ (p0 ≤ (0 : Int) → Q (0 : Int) s) ∧ ((0 : Int) < p0 → (InL p2 ∧ InL (0 : Int)) ∧ ((0 : Int) < p2 → (InL ((p0 + p2) - (1 : Int)) ∧ InL p2 ∧ ¬ p2 = 0) ∧ Q (Int.tdiv ((p0 + p2) - (1 : Int)) p2) s) ∧ (p2 ≤ (0 : Int) → Q (0 : Int) s))
theorem x7_wholeFrom_mono {Q R : Int → Mem → Prop} {p0 : Int} {p2 : Int} {s : Mem} (h : x7_wholeFrom p0 p2 s Q) (hQ : ∀ r s, Q r s → R r s) : x7_wholeFrom p0 p2 s R :=
  ⟨h.1, fun c => have h := h.2.1 c; hQ _ _ h, fun c => have h := h.2.2 c; ⟨h.1, fun c => have h := h.2.1 c; ⟨h.1, have h := h.2; hQ _ _ h⟩, fun c => have h := h.2.2 c; hQ _ _ h⟩⟩
def x7_wholeFrom_rm : Room := { frames := 0, cells := 0, slots := 0, locals := 0 }
set_option maxHeartbeats 4000000 in
set_option maxRecDepth 100000 in
theorem x7_wholeFrom_bd {κ : KT} {ad : Nat → Nat} {cA : Nat → ClassId} {D : va_G} {Q : State → Prop} {p0 : Int} {p2 : Int} {s : Mem} (C : CX κ (GA ad cA D) RX7 cX7_wholeFrom 4 wsX7_wholeFrom x7_wholeFrom_rm (some .long)) (h : x7_wholeFrom p0 p2 s (RT κ (GA ad cA D) ocL Q)) : WM κ (GA ad cA D) 4 Q s 0 [(0, vL p0), (2, vL p2)] [] := by
  refine r_lload_n C 0 dX7_wholeFrom_0 rfl ?_
  refine r_lconst (z := 0) C dX7_wholeFrom_1 rfl ?_
  refine r_lcmp_le (tgt := 12) C dX7_wholeFrom_2 dX7_wholeFrom_3 (by decide) ⟨h.1, fun c2 => ?_, fun c2 => ?_⟩
  · have h := h.2.1 c2
    refine r_lconst (z := 0) C dX7_wholeFrom_12 rfl ?_
    refine r_goto (tgt := 23) C dX7_wholeFrom_13 (by decide) ?_
    exact r_lreturn C dX7_wholeFrom_23 h
  · have h := h.2.2 c2
    refine r_lload_n C 1 dX7_wholeFrom_6 rfl ?_
    refine r_lconst (z := 0) C dX7_wholeFrom_7 rfl ?_
    refine r_lcmp_gt (tgt := 16) C dX7_wholeFrom_8 dX7_wholeFrom_9 (by decide) ⟨h.1, fun c1 => ?_, fun c1 => ?_⟩
    · have h := h.2.1 c1
      refine r_lload_n C 0 dX7_wholeFrom_16 rfl ?_
      refine r_lload_n C 1 dX7_wholeFrom_17 rfl ?_
      refine r_ladd C dX7_wholeFrom_18 ?_
      refine r_lconst (z := 1) C dX7_wholeFrom_19 rfl ?_
      refine r_lsub C dX7_wholeFrom_20 ?_
      refine r_lload_n C 1 dX7_wholeFrom_21 rfl ?_
      refine r_ldiv C dX7_wholeFrom_22 ⟨h.1, ?_⟩
      have h := h.2
      exact r_lreturn C dX7_wholeFrom_23 h
    · have h := h.2.2 c1
      refine r_lconst (z := 0) C dX7_wholeFrom_12 rfl ?_
      refine r_goto (tgt := 23) C dX7_wholeFrom_13 (by decide) ?_
      exact r_lreturn C dX7_wholeFrom_23 h
theorem x7_wholeFrom_ct (l : Launch) (ad : Nat → Nat) (cA : Nat → ClassId) (D : va_G) (p0 : Int) (p2 : Int) (s : Mem) : MG l yX7_wholeFrom wsX7_wholeFrom x7_wholeFrom_rm ocL [vL p0, vL p2] (GA ad cA D) s (x7_wholeFrom p0 p2 s) :=
  m_met (own := RX7) (nL := 4) (by decide) rfl rfl (Nat.le_of_ble_eq_true rfl) rfl rfl rfl (fun κ hl C Q Pst hW hQ => x7_wholeFrom_bd C (x7_wholeFrom_mono hW hQ))

def x7_compareFractions (p0 : Int) (p2 : Int) (p4 : Int) (p6 : Int) (s : Mem) (Q : Int → Mem → Prop) : Prop :=
  (InL p2 ∧ InL (0 : Int)) ∧ (p2 ≤ (0 : Int) → Q (0 : Int) s) ∧ ((0 : Int) < p2 → (InL p6 ∧ InL (0 : Int)) ∧ ((0 : Int) < p6 → (InL p0 ∧ InL p2 ∧ ¬ p2 = 0) ∧ (InL p4 ∧ InL p6 ∧ ¬ p6 = 0) ∧ (InL (Int.tdiv p0 p2) ∧ InL (Int.tdiv p4 p6)) ∧ ((Int.tdiv p0 p2) = (Int.tdiv p4 p6) → (InL p0 ∧ InL p2 ∧ ¬ p2 = 0) ∧ (InL p4 ∧ InL p6 ∧ ¬ p6 = 0) ∧ j13_compare_74951 ((Int.tmod p0 p2) * p6) ((Int.tmod p4 p6) * p2) s (fun r2 s1 => Q r2 s1)) ∧ (¬ (Int.tdiv p0 p2) = (Int.tdiv p4 p6) → j13_compare_74951 (Int.tdiv p0 p2) (Int.tdiv p4 p6) s (fun r4 s3 => Q r4 s3))) ∧ (p6 ≤ (0 : Int) → Q (0 : Int) s))
theorem x7_compareFractions_mono {Q R : Int → Mem → Prop} {p0 : Int} {p2 : Int} {p4 : Int} {p6 : Int} {s : Mem} (h : x7_compareFractions p0 p2 p4 p6 s Q) (hQ : ∀ r s, Q r s → R r s) : x7_compareFractions p0 p2 p4 p6 s R :=
  ⟨h.1, fun c => have h := h.2.1 c; hQ _ _ h, fun c => have h := h.2.2 c; ⟨h.1, fun c => have h := h.2.1 c; ⟨h.1, have h := h.2; ⟨h.1, have h := h.2; ⟨h.1, fun c => have h := h.2.1 c; ⟨h.1, have h := h.2; ⟨h.1, have h := h.2; j13_compare_74951_mono h (fun r2 s1 h => hQ _ _ h)⟩⟩, fun c => have h := h.2.2 c; j13_compare_74951_mono h (fun r4 s3 h => hQ _ _ h)⟩⟩⟩, fun c => have h := h.2.2 c; hQ _ _ h⟩⟩
def x7_compareFractions_rm : Room := { frames := 1, cells := 0, slots := 0, locals := 23 }
set_option maxHeartbeats 4000000 in
set_option maxRecDepth 100000 in
theorem x7_compareFractions_bd {κ : KT} {ad : Nat → Nat} {cA : Nat → ClassId} {D : va_G} {Q : State → Prop} {p0 : Int} {p2 : Int} {p4 : Int} {p6 : Int} {s : Mem} (C : CX κ (GA ad cA D) RX7 cX7_compareFractions 12 wsX7_compareFractions x7_compareFractions_rm (some .int)) (h : x7_compareFractions p0 p2 p4 p6 s (RT κ (GA ad cA D) ocI Q)) : WM κ (GA ad cA D) 12 Q s 0 [(0, vL p0), (2, vL p2), (4, vL p4), (6, vL p6)] [] := by
  refine r_lload_n C 1 dX7_compareFractions_0 rfl ?_
  refine r_lconst (z := 0) C dX7_compareFractions_1 rfl ?_
  refine r_lcmp_le (tgt := 13) C dX7_compareFractions_2 dX7_compareFractions_3 (by decide) ⟨h.1, fun c7 => ?_, fun c7 => ?_⟩
  · have h := h.2.1 c7
    refine r_iconst C dX7_compareFractions_13 ?_
    exact r_ireturn C dX7_compareFractions_14 h
  · have h := h.2.2 c7
    refine r_lload C 3 dX7_compareFractions_6 rfl ?_
    refine r_lconst (z := 0) C dX7_compareFractions_8 rfl ?_
    refine r_lcmp_gt (tgt := 15) C dX7_compareFractions_9 dX7_compareFractions_10 (by decide) ⟨h.1, fun c6 => ?_, fun c6 => ?_⟩
    · have h := h.2.1 c6
      refine r_lload_n C 0 dX7_compareFractions_15 rfl ?_
      refine r_lload_n C 1 dX7_compareFractions_16 rfl ?_
      refine r_ldiv C dX7_compareFractions_17 ⟨h.1, ?_⟩
      have h := h.2
      refine r_lstore (ls' := [(8, vL (Int.tdiv p0 p2)), (0, vL p0), (2, vL p2), (4, vL p4), (6, vL p6)]) C dX7_compareFractions_18 (by decide) rfl ?_
      refine r_lload C 3 dX7_compareFractions_20 rfl ?_
      refine r_lload C 4 dX7_compareFractions_22 rfl ?_
      refine r_ldiv C dX7_compareFractions_24 ⟨h.1, ?_⟩
      have h := h.2
      refine r_lstore (ls' := [(10, vL (Int.tdiv p4 p6)), (8, vL (Int.tdiv p0 p2)), (0, vL p0), (2, vL p2), (4, vL p4), (6, vL p6)]) C dX7_compareFractions_25 (by decide) rfl ?_
      refine r_lload C 1 dX7_compareFractions_27 rfl ?_
      refine r_lload C 0 dX7_compareFractions_29 rfl ?_
      refine r_lcmp_eq (tgt := 43) C dX7_compareFractions_31 dX7_compareFractions_32 (by decide) ⟨h.1, fun c5 => ?_, fun c5 => ?_⟩
      · have h := h.2.1 c5
        refine r_lload_n C 2 dX7_compareFractions_43 rfl ?_
        refine r_lload_n C 3 dX7_compareFractions_44 rfl ?_
        refine r_lrem C dX7_compareFractions_45 ⟨h.1, ?_⟩
        have h := h.2
        refine r_lload C 5 dX7_compareFractions_46 rfl ?_
        refine r_lmul C dX7_compareFractions_48 ?_
        refine r_lload C 4 dX7_compareFractions_49 rfl ?_
        refine r_lload C 5 dX7_compareFractions_51 rfl ?_
        refine r_lrem C dX7_compareFractions_53 ⟨h.1, ?_⟩
        have h := h.2
        refine r_lload_n C 3 dX7_compareFractions_54 rfl ?_
        refine r_lmul C dX7_compareFractions_55 ?_
        refine r_callS (As := [vL ((Int.tmod p0 p2) * p6), vL ((Int.tmod p4 p6) * p2)]) (n := 2) C dX7_compareFractions_56 (j13_compare_74951_ct κ.1.2.1 ad cA D ((Int.tmod p0 p2) * p6) ((Int.tmod p4 p6) * p2) s) gX7_compareFractions_J13_compare_74951 rfl ⟨rfl, rfl⟩ (by decide +kernel) (by decide) rfl rfl (Nat.le_of_ble_eq_true rfl) (fun _ => rfl) ?_
        refine j13_compare_74951_mono h (fun r2 s1 h => ?_)
        exact r_ireturn C dX7_compareFractions_59 h
      · have h := h.2.2 c5
        refine r_lload C 1 dX7_compareFractions_35 rfl ?_
        refine r_lload C 0 dX7_compareFractions_37 rfl ?_
        refine r_callS (As := [vL (Int.tdiv p0 p2), vL (Int.tdiv p4 p6)]) (n := 2) C dX7_compareFractions_39 (j13_compare_74951_ct κ.1.2.1 ad cA D (Int.tdiv p0 p2) (Int.tdiv p4 p6) s) gX7_compareFractions_J13_compare_74951 rfl ⟨rfl, rfl⟩ (by decide +kernel) (by decide) rfl rfl (Nat.le_of_ble_eq_true rfl) (fun _ => rfl) ?_
        refine j13_compare_74951_mono h (fun r4 s3 h => ?_)
        exact r_ireturn C dX7_compareFractions_42 h
    · have h := h.2.2 c6
      refine r_iconst C dX7_compareFractions_13 ?_
      exact r_ireturn C dX7_compareFractions_14 h
theorem x7_compareFractions_ct (l : Launch) (ad : Nat → Nat) (cA : Nat → ClassId) (D : va_G) (p0 : Int) (p2 : Int) (p4 : Int) (p6 : Int) (s : Mem) : MG l yX7_compareFractions wsX7_compareFractions x7_compareFractions_rm ocI [vL p0, vL p2, vL p4, vL p6] (GA ad cA D) s (x7_compareFractions p0 p2 p4 p6 s) :=
  m_met (own := RX7) (nL := 12) (by decide) rfl rfl (Nat.le_of_ble_eq_true rfl) rfl rfl rfl (fun κ hl C Q Pst hW hQ => x7_compareFractions_bd C (x7_compareFractions_mono hW hQ))
