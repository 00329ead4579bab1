def x7_within (p0 : Int) (p1 : Int) (p2 : Int) (s : Mem) (Q : Int → Mem → Prop) : Prop :=
  (InI p0 ∧ InI p1) ∧ (p0 < p1 → ((0 : Int) ≤ (0 : Int) ∧ (0 : Int) ≤ 1) ∧ Q (0 : Int) s) ∧ (p1 ≤ p0 → (InI p0 ∧ InI p2) ∧ (p2 < p0 → ((0 : Int) ≤ (0 : Int) ∧ (0 : Int) ≤ 1) ∧ Q (0 : Int) s) ∧ (p0 ≤ p2 → ((0 : Int) ≤ (1 : Int) ∧ (1 : Int) ≤ 1) ∧ Q (1 : Int) s))
theorem x7_within_mono {Q R : Int → Mem → Prop} {p0 : Int} {p1 : Int} {p2 : Int} {s : Mem} (h : x7_within p0 p1 p2 s Q) (hQ : ∀ r s, Q r s → R r s) : x7_within p0 p1 p2 s R :=
  ⟨h.1, fun c => have h := h.2.1 c; ⟨h.1, hQ _ _ h.2⟩, fun c => have h := h.2.2 c; ⟨h.1, fun c => have h := h.2.1 c; ⟨h.1, hQ _ _ h.2⟩, fun c => have h := h.2.2 c; ⟨h.1, hQ _ _ h.2⟩⟩⟩
def x7_within_rm : Room := { frames := 0, cells := 0, slots := 0, locals := 0 }
set_option maxHeartbeats 4000000 in
set_option maxRecDepth 100000 in
theorem x7_within_bd {κ : KT} {ad : Nat → Nat} {cA : Nat → ClassId} {D : va_G} {Q : State → Prop} {p0 : Int} {p1 : Int} {p2 : Int} {s : Mem} (C : CX κ (GA ad cA D) RX7 cX7_within 3 wsX7_within x7_within_rm (some .boolean)) (h : x7_within p0 p1 p2 s (RT κ (GA ad cA D) ocI Q)) : WM κ (GA ad cA D) 3 Q s 0 [(0, vI p0), (1, vI p1), (2, vI p2)] [] := by
  refine r_iload_n C 0 dX7_within_0 rfl ?_
  refine r_iload_n C 1 dX7_within_1 rfl ?_
  refine r_icmp_lt (tgt := 14) C dX7_within_2 (by decide) ⟨h.1, fun c2 => ?_, fun c2 => ?_⟩
  · have h := h.2.1 c2
    refine r_iconst C dX7_within_14 ?_
    exact r_zreturn C dX7_within_15 h
  · have h := h.2.2 c2
    refine r_iload_n C 0 dX7_within_5 rfl ?_
    refine r_iload_n C 2 dX7_within_6 rfl ?_
    refine r_icmp_gt (tgt := 14) C dX7_within_7 (by decide) ⟨h.1, fun c1 => ?_, fun c1 => ?_⟩
    · have h := h.2.1 c1
      refine r_iconst C dX7_within_14 ?_
      exact r_zreturn C dX7_within_15 h
    · have h := h.2.2 c1
      refine r_iconst C dX7_within_10 ?_
      refine r_goto (tgt := 15) C dX7_within_11 (by decide) ?_
      exact r_zreturn C dX7_within_15 h
theorem x7_within_ct (l : Launch) (ad : Nat → Nat) (cA : Nat → ClassId) (D : va_G) (p0 : Int) (p1 : Int) (p2 : Int) (s : Mem) : MG l yX7_within wsX7_within x7_within_rm ocI [vI p0, vI p1, vI p2] (GA ad cA D) s (x7_within p0 p1 p2 s) :=
  m_met (own := RX7) (nL := 3) (by decide) rfl rfl (Nat.le_of_ble_eq_true rfl) rfl rfl rfl (fun κ hl C Q Pst hW hQ => x7_within_bd C (x7_within_mono hW hQ))

def x7_leastOf (p0 : Int) (s : Mem) (Q : Int → Mem → Prop) : Prop :=
  InI p0 ∧ (p0 = (0 : Int) → Q (1 : Int) s) ∧ (¬ p0 = (0 : Int) → (InI p0 ∧ InI (1 : Int)) ∧ (¬ p0 = (1 : Int) → Q (0 : Int) s) ∧ (p0 = (1 : Int) → Q (1 : Int) s))
theorem x7_leastOf_mono {Q R : Int → Mem → Prop} {p0 : Int} {s : Mem} (h : x7_leastOf p0 s Q) (hQ : ∀ r s, Q r s → R r s) : x7_leastOf p0 s R :=
  ⟨h.1, fun c => have h := h.2.1 c; hQ _ _ h, fun c => have h := h.2.2 c; ⟨h.1, fun c => have h := h.2.1 c; hQ _ _ h, fun c => have h := h.2.2 c; hQ _ _ h⟩⟩
def x7_leastOf_rm : Room := { frames := 0, cells := 0, slots := 0, locals := 0 }
set_option maxHeartbeats 4000000 in
set_option maxRecDepth 100000 in
theorem x7_leastOf_bd {κ : KT} {ad : Nat → Nat} {cA : Nat → ClassId} {D : va_G} {Q : State → Prop} {p0 : Int} {s : Mem} (C : CX κ (GA ad cA D) RX7 cX7_leastOf 1 wsX7_leastOf x7_leastOf_rm (some .int)) (h : x7_leastOf p0 s (RT κ (GA ad cA D) ocI Q)) : WM κ (GA ad cA D) 1 Q s 0 [(0, vI p0)] [] := by
  refine r_iload_n C 0 dX7_leastOf_0 rfl ?_
  refine r_if_eq (tgt := 9) C dX7_leastOf_1 (by decide) ⟨h.1, fun c2 => ?_, fun c2 => ?_⟩
  · have h := h.2.1 c2
    refine r_iconst C dX7_leastOf_9 ?_
    refine r_goto (tgt := 14) C dX7_leastOf_10 (by decide) ?_
    exact r_ireturn C dX7_leastOf_14 h
  · have h := h.2.2 c2
    refine r_iload_n C 0 dX7_leastOf_4 rfl ?_
    refine r_iconst C dX7_leastOf_5 ?_
    refine r_icmp_ne (tgt := 13) C dX7_leastOf_6 (by decide) ⟨h.1, fun c1 => ?_, fun c1 => ?_⟩
    · have h := h.2.1 c1
      refine r_iconst C dX7_leastOf_13 ?_
      exact r_ireturn C dX7_leastOf_14 h
    · have h := h.2.2 c1
      refine r_iconst C dX7_leastOf_9 ?_
      refine r_goto (tgt := 14) C dX7_leastOf_10 (by decide) ?_
      exact r_ireturn C dX7_leastOf_14 h
theorem x7_leastOf_ct (l : Launch) (ad : Nat → Nat) (cA : Nat → ClassId) (D : va_G) (p0 : Int) (s : Mem) : MG l yX7_leastOf wsX7_leastOf x7_leastOf_rm ocI [vI p0] (GA ad cA D) s (x7_leastOf p0 s) :=
  m_met (own := RX7) (nL := 1) (by decide) rfl rfl (Nat.le_of_ble_eq_true rfl) rfl rfl rfl (fun κ hl C Q Pst hW hQ => x7_leastOf_bd C (x7_leastOf_mono hW hQ))

def x7_mostOf (p0 : Int) (s : Mem) (Q : Int → Mem → Prop) : Prop :=
  (InI p0 ∧ InI (2 : Int)) ∧ (¬ p0 = (2 : Int) → (InI p0 ∧ InI (3 : Int)) ∧ (¬ p0 = (3 : Int) → Q (9 : Int) s) ∧ (p0 = (3 : Int) → Q (200 : Int) s)) ∧ (p0 = (2 : Int) → Q (200 : Int) s)
theorem x7_mostOf_mono {Q R : Int → Mem → Prop} {p0 : Int} {s : Mem} (h : x7_mostOf p0 s Q) (hQ : ∀ r s, Q r s → R r s) : x7_mostOf p0 s R :=
  ⟨h.1, fun c => have h := h.2.1 c; ⟨h.1, fun c => have h := h.2.1 c; hQ _ _ h, fun c => have h := h.2.2 c; hQ _ _ h⟩, fun c => have h := h.2.2 c; hQ _ _ h⟩
def x7_mostOf_rm : Room := { frames := 0, cells := 0, slots := 0, locals := 0 }
set_option maxHeartbeats 4000000 in
set_option maxRecDepth 100000 in
theorem x7_mostOf_bd {κ : KT} {ad : Nat → Nat} {cA : Nat → ClassId} {D : va_G} {Q : State → Prop} {p0 : Int} {s : Mem} (C : CX κ (GA ad cA D) RX7 cX7_mostOf 1 wsX7_mostOf x7_mostOf_rm (some .int)) (h : x7_mostOf p0 s (RT κ (GA ad cA D) ocI Q)) : WM κ (GA ad cA D) 1 Q s 0 [(0, vI p0)] [] := by
  refine r_iload_n C 0 dX7_mostOf_0 rfl ?_
  refine r_iconst C dX7_mostOf_1 ?_
  refine r_icmp_ne (tgt := 9) C dX7_mostOf_2 (by decide) ⟨h.1, fun c2 => ?_, fun c2 => ?_⟩
  · have h := h.2.1 c2
    refine r_iload_n C 0 dX7_mostOf_9 rfl ?_
    refine r_iconst C dX7_mostOf_10 ?_
    refine r_icmp_ne (tgt := 20) C dX7_mostOf_11 (by decide) ⟨h.1, fun c1 => ?_, fun c1 => ?_⟩
    · have h := h.2.1 c1
      refine r_bipush C dX7_mostOf_20 (by decide) ?_
      exact r_ireturn C dX7_mostOf_22 h
    · have h := h.2.2 c1
      refine r_sipush C dX7_mostOf_14 (by decide) ?_
      refine r_goto (tgt := 22) C dX7_mostOf_17 (by decide) ?_
      exact r_ireturn C dX7_mostOf_22 h
  · have h := h.2.2 c2
    refine r_sipush C dX7_mostOf_5 (by decide) ?_
    exact r_ireturn C dX7_mostOf_8 h
theorem x7_mostOf_ct (l : Launch) (ad : Nat → Nat) (cA : Nat → ClassId) (D : va_G) (p0 : Int) (s : Mem) : MG l yX7_mostOf wsX7_mostOf x7_mostOf_rm ocI [vI p0] (GA ad cA D) s (x7_mostOf p0 s) :=
  m_met (own := RX7) (nL := 1) (by decide) rfl rfl (Nat.le_of_ble_eq_true rfl) rfl rfl rfl (fun κ hl C Q Pst hW hQ => x7_mostOf_bd C (x7_mostOf_mono hW hQ))

def x7_asNumber (p0 : Int) (s : Mem) (Q : Int → Mem → Prop) : Prop :=
  InI p0 ∧ (p0 = (0 : Int) → Q (0 : Int) s) ∧ (¬ p0 = (0 : Int) → Q (1 : Int) s)
theorem x7_asNumber_mono {Q R : Int → Mem → Prop} {p0 : Int} {s : Mem} (h : x7_asNumber p0 s Q) (hQ : ∀ r s, Q r s → R r s) : x7_asNumber p0 s R :=
  ⟨h.1, fun c => have h := h.2.1 c; hQ _ _ h, fun c => have h := h.2.2 c; hQ _ _ h⟩
def x7_asNumber_rm : Room := { frames := 0, cells := 0, slots := 0, locals := 0 }
set_option maxHeartbeats 4000000 in
set_option maxRecDepth 100000 in
theorem x7_asNumber_bd {κ : KT} {ad : Nat → Nat} {cA : Nat → ClassId} {D : va_G} {Q : State → Prop} {p0 : Int} {s : Mem} (C : CX κ (GA ad cA D) RX7 cX7_asNumber 1 wsX7_asNumber x7_asNumber_rm (some .int)) (h : x7_asNumber p0 s (RT κ (GA ad cA D) ocI Q)) : WM κ (GA ad cA D) 1 Q s 0 [(0, vI p0)] [] := by
  refine r_iload_n C 0 dX7_asNumber_0 rfl ?_
  refine r_if_eq (tgt := 8) C dX7_asNumber_1 (by decide) ⟨h.1, fun c1 => ?_, fun c1 => ?_⟩
  · have h := h.2.1 c1
    refine r_iconst C dX7_asNumber_8 ?_
    exact r_ireturn C dX7_asNumber_9 h
  · have h := h.2.2 c1
    refine r_iconst C dX7_asNumber_4 ?_
    refine r_goto (tgt := 9) C dX7_asNumber_5 (by decide) ?_
    exact r_ireturn C dX7_asNumber_9 h
theorem x7_asNumber_ct (l : Launch) (ad : Nat → Nat) (cA : Nat → ClassId) (D : va_G) (p0 : Int) (s : Mem) : MG l yX7_asNumber wsX7_asNumber x7_asNumber_rm ocI [vI p0] (GA ad cA D) s (x7_asNumber p0 s) :=
  m_met (own := RX7) (nL := 1) (by decide) rfl rfl (Nat.le_of_ble_eq_true rfl) rfl rfl rfl (fun κ hl C Q Pst hW hQ => x7_asNumber_bd C (x7_asNumber_mono hW hQ))

def x7_wholeFrom (p0 : Int) (p2 : Int) (s : Mem) (Q : Int → Mem → Prop) : Prop :=
  (InL p0 ∧ InL (0 : Int)) ∧ (p0 ≤ (0 : Int) → Q (0 : Int) s) ∧ ((0 : Int) < p0 → (InL p2 ∧ InL (0 : Int)) ∧ ((0 : Int) < p2 → (InL ((p0 + p2) - (1 : Int)) ∧ InL p2 ∧ ¬ p2 = 0) ∧ Q (Int.tdiv ((p0 + p2) - (1 : Int)) p2) s) ∧ (p2 ≤ (0 : Int) → Q (0 : Int) s))
theorem x7_wholeFrom_mono {Q R : Int → Mem → Prop} {p0 : Int} {p2 : Int} {s : Mem} (h : x7_wholeFrom p0 p2 s Q) (hQ : ∀ r s, Q r s → R r s) : x7_wholeFrom p0 p2 s R :=
  ⟨h.1, fun c => have h := h.2.1 c; hQ _ _ h, fun c => have h := h.2.2 c; ⟨h.1, fun c => have h := h.2.1 c; ⟨h.1, have h := h.2; hQ _ _ h⟩, fun c => have h := h.2.2 c; hQ _ _ h⟩⟩
def x7_wholeFrom_rm : Room := { frames := 0, cells := 0, slots := 0, locals := 0 }
set_option maxHeartbeats 4000000 in
set_option maxRecDepth 100000 in
theorem x7_wholeFrom_bd {κ : KT} {ad : Nat → Nat} {cA : Nat → ClassId} {D : va_G} {Q : State → Prop} {p0 : Int} {p2 : Int} {s : Mem} (C : CX κ (GA ad cA D) RX7 cX7_wholeFrom 4 wsX7_wholeFrom x7_wholeFrom_rm (some .long)) (h : x7_wholeFrom p0 p2 s (RT κ (GA ad cA D) ocL Q)) : WM κ (GA ad cA D) 4 Q s 0 [(0, vL p0), (2, vL p2)] [] := by
  refine r_lload_n C 0 dX7_wholeFrom_0 rfl ?_
  refine r_lconst (z := 0) C dX7_wholeFrom_1 rfl ?_
  refine r_lcmp_le (tgt := 12) C dX7_wholeFrom_2 dX7_wholeFrom_3 (by decide) ⟨h.1, fun c2 => ?_, fun c2 => ?_⟩
  · have h := h.2.1 c2
    refine r_lconst (z := 0) C dX7_wholeFrom_12 rfl ?_
    refine r_goto (tgt := 23) C dX7_wholeFrom_13 (by decide) ?_
    exact r_lreturn C dX7_wholeFrom_23 h
  · have h := h.2.2 c2
    refine r_lload_n C 1 dX7_wholeFrom_6 rfl ?_
    refine r_lconst (z := 0) C dX7_wholeFrom_7 rfl ?_
    refine r_lcmp_gt (tgt := 16) C dX7_wholeFrom_8 dX7_wholeFrom_9 (by decide) ⟨h.1, fun c1 => ?_, fun c1 => ?_⟩
    · have h := h.2.1 c1
      refine r_lload_n C 0 dX7_wholeFrom_16 rfl ?_
      refine r_lload_n C 1 dX7_wholeFrom_17 rfl ?_
      refine r_ladd C dX7_wholeFrom_18 ?_
      refine r_lconst (z := 1) C dX7_wholeFrom_19 rfl ?_
      refine r_lsub C dX7_wholeFrom_20 ?_
      refine r_lload_n C 1 dX7_wholeFrom_21 rfl ?_
      refine r_ldiv C dX7_wholeFrom_22 ⟨h.1, ?_⟩
      have h := h.2
      exact r_lreturn C dX7_wholeFrom_23 h
    · have h := h.2.2 c1
      refine r_lconst (z := 0) C dX7_wholeFrom_12 rfl ?_
      refine r_goto (tgt := 23) C dX7_wholeFrom_13 (by decide) ?_
      exact r_lreturn C dX7_wholeFrom_23 h
theorem x7_wholeFrom_ct (l : Launch) (ad : Nat → Nat) (cA : Nat → ClassId) (D : va_G) (p0 : Int) (p2 : Int) (s : Mem) : MG l yX7_wholeFrom wsX7_wholeFrom x7_wholeFrom_rm ocL [vL p0, vL p2] (GA ad cA D) s (x7_wholeFrom p0 p2 s) :=
  m_met (own := RX7) (nL := 4) (by decide) rfl rfl (Nat.le_of_ble_eq_true rfl) rfl rfl rfl (fun κ hl C Q Pst hW hQ => x7_wholeFrom_bd C (x7_wholeFrom_mono hW hQ))
