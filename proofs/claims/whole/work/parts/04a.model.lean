def x8_in (p0 : Int) (p2 : Int) (p4 : Int) (s : Mem) (Q : Int → Mem → Prop) : Prop :=
  (InL p0 ∧ InL p2) ∧ (p0 < p2 → ((0 : Int) ≤ (0 : Int) ∧ (0 : Int) ≤ 1) ∧ Q (0 : Int) s) ∧ (p2 ≤ p0 → (InL p0 ∧ InL p4) ∧ (p4 < p0 → ((0 : Int) ≤ (0 : Int) ∧ (0 : Int) ≤ 1) ∧ Q (0 : Int) s) ∧ (p0 ≤ p4 → ((0 : Int) ≤ (1 : Int) ∧ (1 : Int) ≤ 1) ∧ Q (1 : Int) s))
theorem x8_in_mono {Q R : Int → Mem → Prop} {p0 : Int} {p2 : Int} {p4 : Int} {s : Mem} (h : x8_in p0 p2 p4 s Q) (hQ : ∀ r s, Q r s → R r s) : x8_in p0 p2 p4 s R :=
  ⟨h.1, fun c => have h := h.2.1 c; ⟨h.1, hQ _ _ h.2⟩, fun c => have h := h.2.2 c; ⟨h.1, fun c => have h := h.2.1 c; ⟨h.1, hQ _ _ h.2⟩, fun c => have h := h.2.2 c; ⟨h.1, hQ _ _ h.2⟩⟩⟩
def x8_in_rm : Room := { frames := 0, cells := 0, slots := 0, locals := 0 }
set_option maxHeartbeats 4000000 in
set_option maxRecDepth 100000 in
theorem x8_in_bd {κ : KT} {ad : Nat → Nat} {cA : Nat → ClassId} {D : va_G} {Q : State → Prop} {p0 : Int} {p2 : Int} {p4 : Int} {s : Mem} (C : CX κ (GB ad cA D) RX8 cX8_in 6 wsX8_in x8_in_rm (some .boolean)) (h : x8_in p0 p2 p4 s (RT κ (GB ad cA D) ocI Q)) : WM κ (GB ad cA D) 6 Q s 0 [(0, vL p0), (2, vL p2), (4, vL p4)] [] := by
  refine r_lload_n C 0 dX8_in_0 rfl ?_
  refine r_lload_n C 1 dX8_in_1 rfl ?_
  refine r_lcmp_lt (tgt := 17) C dX8_in_2 dX8_in_3 (by decide) ⟨h.1, fun c2 => ?_, fun c2 => ?_⟩
  · have h := h.2.1 c2
    refine r_iconst C dX8_in_17 ?_
    exact r_zreturn C dX8_in_18 h
  · have h := h.2.2 c2
    refine r_lload_n C 0 dX8_in_6 rfl ?_
    refine r_lload C 2 dX8_in_7 rfl ?_
    refine r_lcmp_gt (tgt := 17) C dX8_in_9 dX8_in_10 (by decide) ⟨h.1, fun c1 => ?_, fun c1 => ?_⟩
    · have h := h.2.1 c1
      refine r_iconst C dX8_in_17 ?_
      exact r_zreturn C dX8_in_18 h
    · have h := h.2.2 c1
      refine r_iconst C dX8_in_13 ?_
      refine r_goto (tgt := 18) C dX8_in_14 (by decide) ?_
      exact r_zreturn C dX8_in_18 h
theorem x8_in_ct (l : Launch) (ad : Nat → Nat) (cA : Nat → ClassId) (D : va_G) (p0 : Int) (p2 : Int) (p4 : Int) (s : Mem) : MG l yX8_in wsX8_in x8_in_rm ocI [vL p0, vL p2, vL p4] (GB ad cA D) s (x8_in p0 p2 p4 s) :=
  m_met (own := RX8) (nL := 6) (by decide) rfl rfl (Nat.le_of_ble_eq_true rfl) rfl rfl rfl (fun κ hl C Q Pst hW hQ => x8_in_bd C (x8_in_mono hW hQ))

def x8_bit (p0 : Int) (s : Mem) (Q : Int → Mem → Prop) : Prop :=
  InI p0 ∧ (p0 = (0 : Int) → Q (0 : Int) s) ∧ (¬ p0 = (0 : Int) → Q (1 : Int) s)
theorem x8_bit_mono {Q R : Int → Mem → Prop} {p0 : Int} {s : Mem} (h : x8_bit p0 s Q) (hQ : ∀ r s, Q r s → R r s) : x8_bit p0 s R :=
  ⟨h.1, fun c => have h := h.2.1 c; hQ _ _ h, fun c => have h := h.2.2 c; hQ _ _ h⟩
def x8_bit_rm : Room := { frames := 0, cells := 0, slots := 0, locals := 0 }
set_option maxHeartbeats 4000000 in
set_option maxRecDepth 100000 in
theorem x8_bit_bd {κ : KT} {ad : Nat → Nat} {cA : Nat → ClassId} {D : va_G} {Q : State → Prop} {p0 : Int} {s : Mem} (C : CX κ (GB ad cA D) RX8 cX8_bit 1 wsX8_bit x8_bit_rm (some .int)) (h : x8_bit p0 s (RT κ (GB ad cA D) ocI Q)) : WM κ (GB ad cA D) 1 Q s 0 [(0, vI p0)] [] := by
  refine r_iload_n C 0 dX8_bit_0 rfl ?_
  refine r_if_eq (tgt := 8) C dX8_bit_1 (by decide) ⟨h.1, fun c1 => ?_, fun c1 => ?_⟩
  · have h := h.2.1 c1
    refine r_iconst C dX8_bit_8 ?_
    exact r_ireturn C dX8_bit_9 h
  · have h := h.2.2 c1
    refine r_iconst C dX8_bit_4 ?_
    refine r_goto (tgt := 9) C dX8_bit_5 (by decide) ?_
    exact r_ireturn C dX8_bit_9 h
theorem x8_bit_ct (l : Launch) (ad : Nat → Nat) (cA : Nat → ClassId) (D : va_G) (p0 : Int) (s : Mem) : MG l yX8_bit wsX8_bit x8_bit_rm ocI [vI p0] (GB ad cA D) s (x8_bit p0 s) :=
  m_met (own := RX8) (nL := 1) (by decide) rfl rfl (Nat.le_of_ble_eq_true rfl) rfl rfl rfl (fun κ hl C Q Pst hW hQ => x8_bit_bd C (x8_bit_mono hW hQ))

def x8_gcd_be (X18 : Int → Int → Mem → Prop) (Q : Int → Mem → Prop) (p0 : Int) (p2 : Int) (s : Mem) : Prop :=
  (InL p0 ∧ InL (0 : Int)) ∧ ((0 : Int) ≤ p0 → X18 p0 p2 s) ∧ (p0 < (0 : Int) → X18 ((0 : Int) - p0) p2 s)
def x8_gcd_b18 (X18 : Int → Int → Mem → Prop) (Q : Int → Mem → Prop) (x4 : Int) (x6 : Int) (s : Mem) : Prop :=
  (InL x6 ∧ InL (0 : Int)) ∧ (x6 = (0 : Int) → Q x4 s) ∧ (¬ x6 = (0 : Int) → (InL x4 ∧ InL x6 ∧ ¬ x6 = 0) ∧ X18 x6 (Int.tmod x4 x6) s)
theorem x8_gcd_me {X18 Y18 : Int → Int → Mem → Prop} {Q R : Int → Mem → Prop} (hX18 : ∀ x4 x6 s, X18 x4 x6 s → Y18 x4 x6 s) (hQ : ∀ r s, Q r s → R r s) {p0 : Int} {p2 : Int} {s : Mem} (h : x8_gcd_be X18 Q p0 p2 s) : x8_gcd_be Y18 R p0 p2 s :=
  ⟨h.1, fun c => have h := h.2.1 c; hX18 _ _ _ h, fun c => have h := h.2.2 c; hX18 _ _ _ h⟩
theorem x8_gcd_m18 {X18 Y18 : Int → Int → Mem → Prop} {Q R : Int → Mem → Prop} (hX18 : ∀ x4 x6 s, X18 x4 x6 s → Y18 x4 x6 s) (hQ : ∀ r s, Q r s → R r s) {x4 : Int} {x6 : Int} {s : Mem} (h : x8_gcd_b18 X18 Q x4 x6 s) : x8_gcd_b18 Y18 R x4 x6 s :=
  ⟨h.1, fun c => have h := h.2.1 c; hQ _ _ h, fun c => have h := h.2.2 c; ⟨h.1, have h := h.2; hX18 _ _ _ h⟩⟩
def x8_gcd (p0 : Int) (p2 : Int) (s : Mem) (Q : Int → Mem → Prop) : Prop := ∀ (X18 : Int → Int → Mem → Prop), (∀ x4 x6 s, x8_gcd_b18 X18 Q x4 x6 s → X18 x4 x6 s) → x8_gcd_be X18 Q p0 p2 s
def x8_gcd_L18 (Q : Int → Mem → Prop) (x4 : Int) (x6 : Int) (s : Mem) : Prop := ∀ (X18 : Int → Int → Mem → Prop), (∀ x4 x6 s, x8_gcd_b18 X18 Q x4 x6 s → X18 x4 x6 s) → X18 x4 x6 s
theorem x8_gcd_i {Q : Int → Mem → Prop} {p0 : Int} {p2 : Int} {s : Mem} (h : x8_gcd_be (x8_gcd_L18 Q) Q p0 p2 s) : x8_gcd p0 p2 s Q := fun X18 k18 => x8_gcd_me (fun _ _ _ h => h X18 k18) (fun _ _ h => h) h
theorem x8_gcd_s18 {Q : Int → Mem → Prop} {x4 : Int} {x6 : Int} {s : Mem} (h : x8_gcd_b18 (x8_gcd_L18 Q) Q x4 x6 s) : x8_gcd_L18 Q x4 x6 s := fun X18 k18 => k18 _ _ _ (x8_gcd_m18 (fun _ _ _ h => h X18 k18) (fun _ _ h => h) h)
theorem x8_gcd_mono {Q R : Int → Mem → Prop} {p0 : Int} {p2 : Int} {s : Mem} (h : x8_gcd p0 p2 s Q) (hQ : ∀ r s, Q r s → R r s) : x8_gcd p0 p2 s R := fun X18 k18 => x8_gcd_me (fun _ _ _ h => h) hQ (h X18 (fun _ _ _ h => k18 _ _ _ (x8_gcd_m18 (fun _ _ _ h => h) hQ h)))
def x8_gcd_rm : Room := { frames := 0, cells := 0, slots := 0, locals := 0 }
set_option maxHeartbeats 4000000 in
set_option maxRecDepth 100000 in
theorem x8_gcd_bd {κ : KT} {ad : Nat → Nat} {cA : Nat → ClassId} {D : va_G} {Q : State → Prop} {p0 : Int} {p2 : Int} {s : Mem} (C : CX κ (GB ad cA D) RX8 cX8_gcd 10 wsX8_gcd x8_gcd_rm (some .long)) (h : x8_gcd p0 p2 s (RT κ (GB ad cA D) ocL Q)) : WM κ (GB ad cA D) 10 Q s 0 [(0, vL p0), (2, vL p2)] [] := by
  obtain ⟨Z18, z18⟩ : ∃ Z : Int → Int → Mem → Prop, ∀ x4 x6 s, Z x4 x6 s ↔ WM κ (GB ad cA D) 10 Q s 18 [(4, vL x4), (6, vL x6)] [] := ⟨fun x4 x6 s => WM κ (GB ad cA D) 10 Q s 18 [(4, vL x4), (6, vL x6)] [], fun _ _ _ => Iff.rfl⟩
  refine (fun h => ?_) (h Z18 ?_)
  · refine r_lload_n C 0 dX8_gcd_0 rfl ?_
    refine r_lconst (z := 0) C dX8_gcd_1 rfl ?_
    refine r_lcmp_ge (tgt := 12) C dX8_gcd_2 dX8_gcd_3 (by decide) ⟨h.1, fun c1 => ?_, fun c1 => ?_⟩
    · have h := h.2.1 c1
      refine r_lload_n C 0 dX8_gcd_12 rfl ?_
      refine r_lstore (ls' := [(4, vL p0), (0, vL p0), (2, vL p2)]) C dX8_gcd_13 (by decide) rfl ?_
      refine r_lload_n C 2 dX8_gcd_15 rfl ?_
      refine r_lstore (ls' := [(6, vL p2), (4, vL p0), (0, vL p0), (2, vL p2)]) C dX8_gcd_16 (by decide) rfl ?_
      exact r_perm [1, 0] rfl ((z18 _ _ _).1 h)
    · have h := h.2.2 c1
      refine r_lconst (z := 0) C dX8_gcd_6 rfl ?_
      refine r_lload_n C 0 dX8_gcd_7 rfl ?_
      refine r_lsub C dX8_gcd_8 ?_
      refine r_goto (tgt := 13) C dX8_gcd_9 (by decide) ?_
      refine r_lstore (ls' := [(4, vL ((0 : Int) - p0)), (0, vL p0), (2, vL p2)]) C dX8_gcd_13 (by decide) rfl ?_
      refine r_lload_n C 2 dX8_gcd_15 rfl ?_
      refine r_lstore (ls' := [(6, vL p2), (4, vL ((0 : Int) - p0)), (0, vL p0), (2, vL p2)]) C dX8_gcd_16 (by decide) rfl ?_
      exact r_perm [1, 0] rfl ((z18 _ _ _).1 h)
  · intro x4 x6 s h
    refine (z18 _ _ _).2 ?_
    refine r_lload C 1 dX8_gcd_18 rfl ?_
    refine r_lconst (z := 0) C dX8_gcd_20 rfl ?_
    refine r_lcmp_eq (tgt := 43) C dX8_gcd_21 dX8_gcd_22 (by decide) ⟨h.1, fun c2 => ?_, fun c2 => ?_⟩
    · have h := h.2.1 c2
      refine r_lload C 0 dX8_gcd_43 rfl ?_
      exact r_lreturn C dX8_gcd_45 h
    · have h := h.2.2 c2
      refine r_lload C 0 dX8_gcd_25 rfl ?_
      refine r_lload C 1 dX8_gcd_27 rfl ?_
      refine r_lrem C dX8_gcd_29 ⟨h.1, ?_⟩
      have h := h.2
      refine r_lstore (ls' := [(8, vL (Int.tmod x4 x6)), (4, vL x4), (6, vL x6)]) C dX8_gcd_30 (by decide) rfl ?_
      refine r_lload C 2 dX8_gcd_32 rfl ?_
      refine r_lstore (ls' := [(4, vL x6), (8, vL (Int.tmod x4 x6)), (6, vL x6)]) C dX8_gcd_34 (by decide) rfl ?_
      refine r_lload C 1 dX8_gcd_36 rfl ?_
      refine r_lstore (ls' := [(6, vL (Int.tmod x4 x6)), (4, vL x6), (8, vL (Int.tmod x4 x6))]) C dX8_gcd_38 (by decide) rfl ?_
      refine r_goto (tgt := 18) C dX8_gcd_40 (by decide) ?_
      exact r_perm [1, 0] rfl ((z18 _ _ _).1 h)
theorem x8_gcd_ct (l : Launch) (ad : Nat → Nat) (cA : Nat → ClassId) (D : va_G) (p0 : Int) (p2 : Int) (s : Mem) : MG l yX8_gcd wsX8_gcd x8_gcd_rm ocL [vL p0, vL p2] (GB ad cA D) s (x8_gcd p0 p2 s) :=
  m_met (own := RX8) (nL := 10) (by decide) rfl rfl (Nat.le_of_ble_eq_true rfl) rfl rfl rfl (fun κ hl C Q Pst hW hQ => x8_gcd_bd C (x8_gcd_mono hW hQ))

def x8_held_be (X17 : Int → Int → Int → Int → Int → Mem → Prop) (X85 : Int → Int → Int → Mem → Prop) (Q : Int → Mem → Prop) (p0 : Int) (p2 : Int) (p4 : Int) (p6 : Int) (s : Mem) : Prop :=
  X17 p0 p2 p4 p6 (1 : Int) s
def x8_held_b17 (X17 : Int → Int → Int → Int → Int → Mem → Prop) (X85 : Int → Int → Int → Mem → Prop) (Q : Int → Mem → Prop) (x8 : Int) (x10 : Int) (x12 : Int) (x14 : Int) (x16 : Int) (s : Mem) : Prop :=
  (InL x8 ∧ InL x10 ∧ ¬ x10 = 0) ∧ (InL x12 ∧ InL x14 ∧ ¬ x14 = 0) ∧ (InL (Int.tdiv x8 x10) ∧ InL (Int.tdiv x12 x14)) ∧ ((Int.tdiv x8 x10) = (Int.tdiv x12 x14) → (InL x8 ∧ InL x10 ∧ ¬ x10 = 0) ∧ (InL x12 ∧ InL x14 ∧ ¬ x14 = 0) ∧ (InL (Int.tmod x8 x10) ∧ InL (0 : Int)) ∧ ((Int.tmod x8 x10) = (0 : Int) → X85 (Int.tmod x8 x10) (Int.tmod x12 x14) x16 s) ∧ (¬ (Int.tmod x8 x10) = (0 : Int) → (InL (Int.tmod x12 x14) ∧ InL (0 : Int)) ∧ (¬ (Int.tmod x12 x14) = (0 : Int) → X17 x10 (Int.tmod x8 x10) x14 (Int.tmod x12 x14) ((0 : Int) - x16) s) ∧ ((Int.tmod x12 x14) = (0 : Int) → X85 (Int.tmod x8 x10) (Int.tmod x12 x14) x16 s))) ∧ (¬ (Int.tdiv x8 x10) = (Int.tdiv x12 x14) → (InL (Int.tdiv x8 x10) ∧ InL (Int.tdiv x12 x14)) ∧ ((Int.tdiv x12 x14) ≤ (Int.tdiv x8 x10) → Q x16 s) ∧ ((Int.tdiv x8 x10) < (Int.tdiv x12 x14) → Q ((0 : Int) - x16) s))
def x8_held_b85 (X17 : Int → Int → Int → Int → Int → Mem → Prop) (X85 : Int → Int → Int → Mem → Prop) (Q : Int → Mem → Prop) (x8 : Int) (x12 : Int) (x16 : Int) (s : Mem) : Prop :=
  (InL x8 ∧ InL x12) ∧ (¬ x8 = x12 → (InL x8 ∧ InL (0 : Int)) ∧ (¬ x8 = (0 : Int) → Q x16 s) ∧ (x8 = (0 : Int) → Q ((0 : Int) - x16) s)) ∧ (x8 = x12 → Q (0 : Int) s)
theorem x8_held_me {X17 Y17 : Int → Int → Int → Int → Int → Mem → Prop} {X85 Y85 : Int → Int → Int → Mem → Prop} {Q R : Int → Mem → Prop} (hX17 : ∀ x8 x10 x12 x14 x16 s, X17 x8 x10 x12 x14 x16 s → Y17 x8 x10 x12 x14 x16 s) (hX85 : ∀ x8 x12 x16 s, X85 x8 x12 x16 s → Y85 x8 x12 x16 s) (hQ : ∀ r s, Q r s → R r s) {p0 : Int} {p2 : Int} {p4 : Int} {p6 : Int} {s : Mem} (h : x8_held_be X17 X85 Q p0 p2 p4 p6 s) : x8_held_be Y17 Y85 R p0 p2 p4 p6 s :=
  hX17 _ _ _ _ _ _ h
theorem x8_held_m17 {X17 Y17 : Int → Int → Int → Int → Int → Mem → Prop} {X85 Y85 : Int → Int → Int → Mem → Prop} {Q R : Int → Mem → Prop} (hX17 : ∀ x8 x10 x12 x14 x16 s, X17 x8 x10 x12 x14 x16 s → Y17 x8 x10 x12 x14 x16 s) (hX85 : ∀ x8 x12 x16 s, X85 x8 x12 x16 s → Y85 x8 x12 x16 s) (hQ : ∀ r s, Q r s → R r s) {x8 : Int} {x10 : Int} {x12 : Int} {x14 : Int} {x16 : Int} {s : Mem} (h : x8_held_b17 X17 X85 Q x8 x10 x12 x14 x16 s) : x8_held_b17 Y17 Y85 R x8 x10 x12 x14 x16 s :=
  ⟨h.1, have h := h.2; ⟨h.1, have h := h.2; ⟨h.1, fun c => have h := h.2.1 c; ⟨h.1, have h := h.2; ⟨h.1, have h := h.2; ⟨h.1, fun c => have h := h.2.1 c; hX85 _ _ _ _ h, fun c => have h := h.2.2 c; ⟨h.1, fun c => have h := h.2.1 c; hX17 _ _ _ _ _ _ h, fun c => have h := h.2.2 c; hX85 _ _ _ _ h⟩⟩⟩⟩, fun c => have h := h.2.2 c; ⟨h.1, fun c => have h := h.2.1 c; hQ _ _ h, fun c => have h := h.2.2 c; hQ _ _ h⟩⟩⟩⟩
theorem x8_held_m85 {X17 Y17 : Int → Int → Int → Int → Int → Mem → Prop} {X85 Y85 : Int → Int → Int → Mem → Prop} {Q R : Int → Mem → Prop} (hX17 : ∀ x8 x10 x12 x14 x16 s, X17 x8 x10 x12 x14 x16 s → Y17 x8 x10 x12 x14 x16 s) (hX85 : ∀ x8 x12 x16 s, X85 x8 x12 x16 s → Y85 x8 x12 x16 s) (hQ : ∀ r s, Q r s → R r s) {x8 : Int} {x12 : Int} {x16 : Int} {s : Mem} (h : x8_held_b85 X17 X85 Q x8 x12 x16 s) : x8_held_b85 Y17 Y85 R x8 x12 x16 s :=
  ⟨h.1, fun c => have h := h.2.1 c; ⟨h.1, fun c => have h := h.2.1 c; hQ _ _ h, fun c => have h := h.2.2 c; hQ _ _ h⟩, fun c => have h := h.2.2 c; hQ _ _ h⟩
def x8_held (p0 : Int) (p2 : Int) (p4 : Int) (p6 : Int) (s : Mem) (Q : Int → Mem → Prop) : Prop := ∀ (X17 : Int → Int → Int → Int → Int → Mem → Prop) (X85 : Int → Int → Int → Mem → Prop), (∀ x8 x10 x12 x14 x16 s, x8_held_b17 X17 X85 Q x8 x10 x12 x14 x16 s → X17 x8 x10 x12 x14 x16 s) → (∀ x8 x12 x16 s, x8_held_b85 X17 X85 Q x8 x12 x16 s → X85 x8 x12 x16 s) → x8_held_be X17 X85 Q p0 p2 p4 p6 s
def x8_held_L17 (Q : Int → Mem → Prop) (x8 : Int) (x10 : Int) (x12 : Int) (x14 : Int) (x16 : Int) (s : Mem) : Prop := ∀ (X17 : Int → Int → Int → Int → Int → Mem → Prop) (X85 : Int → Int → Int → Mem → Prop), (∀ x8 x10 x12 x14 x16 s, x8_held_b17 X17 X85 Q x8 x10 x12 x14 x16 s → X17 x8 x10 x12 x14 x16 s) → (∀ x8 x12 x16 s, x8_held_b85 X17 X85 Q x8 x12 x16 s → X85 x8 x12 x16 s) → X17 x8 x10 x12 x14 x16 s
def x8_held_L85 (Q : Int → Mem → Prop) (x8 : Int) (x12 : Int) (x16 : Int) (s : Mem) : Prop := ∀ (X17 : Int → Int → Int → Int → Int → Mem → Prop) (X85 : Int → Int → Int → Mem → Prop), (∀ x8 x10 x12 x14 x16 s, x8_held_b17 X17 X85 Q x8 x10 x12 x14 x16 s → X17 x8 x10 x12 x14 x16 s) → (∀ x8 x12 x16 s, x8_held_b85 X17 X85 Q x8 x12 x16 s → X85 x8 x12 x16 s) → X85 x8 x12 x16 s
theorem x8_held_i {Q : Int → Mem → Prop} {p0 : Int} {p2 : Int} {p4 : Int} {p6 : Int} {s : Mem} (h : x8_held_be (x8_held_L17 Q) (x8_held_L85 Q) Q p0 p2 p4 p6 s) : x8_held p0 p2 p4 p6 s Q := fun X17 X85 k17 k85 => x8_held_me (fun _ _ _ _ _ _ h => h X17 X85 k17 k85) (fun _ _ _ _ h => h X17 X85 k17 k85) (fun _ _ h => h) h
theorem x8_held_s17 {Q : Int → Mem → Prop} {x8 : Int} {x10 : Int} {x12 : Int} {x14 : Int} {x16 : Int} {s : Mem} (h : x8_held_b17 (x8_held_L17 Q) (x8_held_L85 Q) Q x8 x10 x12 x14 x16 s) : x8_held_L17 Q x8 x10 x12 x14 x16 s := fun X17 X85 k17 k85 => k17 _ _ _ _ _ _ (x8_held_m17 (fun _ _ _ _ _ _ h => h X17 X85 k17 k85) (fun _ _ _ _ h => h X17 X85 k17 k85) (fun _ _ h => h) h)
theorem x8_held_s85 {Q : Int → Mem → Prop} {x8 : Int} {x12 : Int} {x16 : Int} {s : Mem} (h : x8_held_b85 (x8_held_L17 Q) (x8_held_L85 Q) Q x8 x12 x16 s) : x8_held_L85 Q x8 x12 x16 s := fun X17 X85 k17 k85 => k85 _ _ _ _ (x8_held_m85 (fun _ _ _ _ _ _ h => h X17 X85 k17 k85) (fun _ _ _ _ h => h X17 X85 k17 k85) (fun _ _ h => h) h)
theorem x8_held_mono {Q R : Int → Mem → Prop} {p0 : Int} {p2 : Int} {p4 : Int} {p6 : Int} {s : Mem} (h : x8_held p0 p2 p4 p6 s Q) (hQ : ∀ r s, Q r s → R r s) : x8_held p0 p2 p4 p6 s R := fun X17 X85 k17 k85 => x8_held_me (fun _ _ _ _ _ _ h => h) (fun _ _ _ _ h => h) hQ (h X17 X85 (fun _ _ _ _ _ _ h => k17 _ _ _ _ _ _ (x8_held_m17 (fun _ _ _ _ _ _ h => h) (fun _ _ _ _ h => h) hQ h)) (fun _ _ _ _ h => k85 _ _ _ _ (x8_held_m85 (fun _ _ _ _ _ _ h => h) (fun _ _ _ _ h => h) hQ h)))
def x8_held_rm : Room := { frames := 0, cells := 0, slots := 0, locals := 0 }
set_option maxHeartbeats 4000000 in
set_option maxRecDepth 100000 in
theorem x8_held_bd {κ : KT} {ad : Nat → Nat} {cA : Nat → ClassId} {D : va_G} {Q : State → Prop} {p0 : Int} {p2 : Int} {p4 : Int} {p6 : Int} {s : Mem} (C : CX κ (GB ad cA D) RX8 cX8_held 23 wsX8_held x8_held_rm (some .int)) (h : x8_held p0 p2 p4 p6 s (RT κ (GB ad cA D) ocI Q)) : WM κ (GB ad cA D) 23 Q s 0 [(0, vL p0), (2, vL p2), (4, vL p4), (6, vL p6)] [] := by
  obtain ⟨Z17, z17⟩ : ∃ Z : Int → Int → Int → Int → Int → Mem → Prop, ∀ x8 x10 x12 x14 x16 s, Z x8 x10 x12 x14 x16 s ↔ WM κ (GB ad cA D) 23 Q s 17 [(8, vL x8), (10, vL x10), (12, vL x12), (14, vL x14), (16, vI x16)] [] := ⟨fun x8 x10 x12 x14 x16 s => WM κ (GB ad cA D) 23 Q s 17 [(8, vL x8), (10, vL x10), (12, vL x12), (14, vL x14), (16, vI x16)] [], fun _ _ _ _ _ _ => Iff.rfl⟩
  obtain ⟨Z85, z85⟩ : ∃ Z : Int → Int → Int → Mem → Prop, ∀ x8 x12 x16 s, Z x8 x12 x16 s ↔ WM κ (GB ad cA D) 23 Q s 85 [(8, vL x8), (12, vL x12), (16, vI x16)] [] := ⟨fun x8 x12 x16 s => WM κ (GB ad cA D) 23 Q s 85 [(8, vL x8), (12, vL x12), (16, vI x16)] [], fun _ _ _ _ => Iff.rfl⟩
  refine (fun h => ?_) (h Z17 Z85 ?_ ?_)
  · refine r_lload_n C 0 dX8_held_0 rfl ?_
    refine r_lstore (ls' := [(8, vL p0), (0, vL p0), (2, vL p2), (4, vL p4), (6, vL p6)]) C dX8_held_1 (by decide) rfl ?_
    refine r_lload_n C 2 dX8_held_3 rfl ?_
    refine r_lstore (ls' := [(10, vL p2), (8, vL p0), (0, vL p0), (2, vL p2), (4, vL p4), (6, vL p6)]) C dX8_held_4 (by decide) rfl ?_
    refine r_lload C 4 dX8_held_6 rfl ?_
    refine r_lstore (ls' := [(12, vL p4), (10, vL p2), (8, vL p0), (0, vL p0), (2, vL p2), (4, vL p4), (6, vL p6)]) C dX8_held_8 (by decide) rfl ?_
    refine r_lload C 6 dX8_held_10 rfl ?_
    refine r_lstore (ls' := [(14, vL p6), (12, vL p4), (10, vL p2), (8, vL p0), (0, vL p0), (2, vL p2), (4, vL p4), (6, vL p6)]) C dX8_held_12 (by decide) rfl ?_
    refine r_iconst C dX8_held_14 ?_
    refine r_istore (ls' := [(16, vI (1 : Int)), (14, vL p6), (12, vL p4), (10, vL p2), (8, vL p0), (0, vL p0), (2, vL p2), (4, vL p4), (6, vL p6)]) C dX8_held_15 (by decide) rfl ?_
    exact r_perm [4, 3, 2, 1, 0] rfl ((z17 _ _ _ _ _ _).1 h)
  · intro x8 x10 x12 x14 x16 s h
    refine (z17 _ _ _ _ _ _).2 ?_
    refine r_lload C 0 dX8_held_17 rfl ?_
    refine r_lload C 1 dX8_held_19 rfl ?_
    refine r_ldiv C dX8_held_21 ⟨h.1, ?_⟩
    have h := h.2
    refine r_lstore (ls' := [(17, vL (Int.tdiv x8 x10)), (8, vL x8), (10, vL x10), (12, vL x12), (14, vL x14), (16, vI x16)]) C dX8_held_22 (by decide) rfl ?_
    refine r_lload C 3 dX8_held_24 rfl ?_
    refine r_lload C 4 dX8_held_26 rfl ?_
    refine r_ldiv C dX8_held_28 ⟨h.1, ?_⟩
    have h := h.2
    refine r_lstore (ls' := [(19, vL (Int.tdiv x12 x14)), (17, vL (Int.tdiv x8 x10)), (8, vL x8), (10, vL x10), (12, vL x12), (14, vL x14), (16, vI x16)]) C dX8_held_29 (by decide) rfl ?_
    refine r_lload C 1 dX8_held_31 rfl ?_
    refine r_lload C 0 dX8_held_33 rfl ?_
    refine r_lcmp_eq (tgt := 57) C dX8_held_35 dX8_held_36 (by decide) ⟨h.1, fun c4 => ?_, fun c4 => ?_⟩
    · have h := h.2.1 c4
      refine r_lload C 2 dX8_held_57 rfl ?_
      refine r_lload C 3 dX8_held_59 rfl ?_
      refine r_lrem C dX8_held_61 ⟨h.1, ?_⟩
      have h := h.2
      refine r_lstore (ls' := [(8, vL (Int.tmod x8 x10)), (19, vL (Int.tdiv x12 x14)), (17, vL (Int.tdiv x8 x10)), (10, vL x10), (12, vL x12), (14, vL x14), (16, vI x16)]) C dX8_held_62 (by decide) rfl ?_
      refine r_lload C 4 dX8_held_64 rfl ?_
      refine r_lload C 5 dX8_held_66 rfl ?_
      refine r_lrem C dX8_held_68 ⟨h.1, ?_⟩
      have h := h.2
      refine r_lstore (ls' := [(12, vL (Int.tmod x12 x14)), (8, vL (Int.tmod x8 x10)), (19, vL (Int.tdiv x12 x14)), (17, vL (Int.tdiv x8 x10)), (10, vL x10), (14, vL x14), (16, vI x16)]) C dX8_held_69 (by decide) rfl ?_
      refine r_lload C 1 dX8_held_71 rfl ?_
      refine r_lconst (z := 0) C dX8_held_73 rfl ?_
      refine r_lcmp_eq (tgt := 85) C dX8_held_74 dX8_held_75 (by decide) ⟨h.1, fun c2 => ?_, fun c2 => ?_⟩
      · have h := h.2.1 c2
        exact r_perm [1, 0, 6] rfl ((z85 _ _ _ _).1 h)
      · have h := h.2.2 c2
        refine r_lload C 0 dX8_held_78 rfl ?_
        refine r_lconst (z := 0) C dX8_held_80 rfl ?_
        refine r_lcmp_ne (tgt := 114) C dX8_held_81 dX8_held_82 (by decide) ⟨h.1, fun c1 => ?_, fun c1 => ?_⟩
        · have h := h.2.1 c1
          refine r_lload C 1 dX8_held_114 rfl ?_
          refine r_lstore (ls' := [(21, vL (Int.tmod x8 x10)), (12, vL (Int.tmod x12 x14)), (8, vL (Int.tmod x8 x10)), (19, vL (Int.tdiv x12 x14)), (17, vL (Int.tdiv x8 x10)), (10, vL x10), (14, vL x14), (16, vI x16)]) C dX8_held_116 (by decide) rfl ?_
          refine r_lload C 5 dX8_held_118 rfl ?_
          refine r_lstore (ls' := [(8, vL x10), (21, vL (Int.tmod x8 x10)), (12, vL (Int.tmod x12 x14)), (19, vL (Int.tdiv x12 x14)), (17, vL (Int.tdiv x8 x10)), (10, vL x10), (14, vL x14), (16, vI x16)]) C dX8_held_120 (by decide) rfl ?_
          refine r_lload C 1 dX8_held_122 rfl ?_
          refine r_lstore (ls' := [(10, vL (Int.tmod x8 x10)), (8, vL x10), (21, vL (Int.tmod x8 x10)), (12, vL (Int.tmod x12 x14)), (19, vL (Int.tdiv x12 x14)), (17, vL (Int.tdiv x8 x10)), (14, vL x14), (16, vI x16)]) C dX8_held_124 (by decide) rfl ?_
          refine r_lload C 3 dX8_held_126 rfl ?_
          refine r_lstore (ls' := [(21, vL (Int.tmod x12 x14)), (10, vL (Int.tmod x8 x10)), (8, vL x10), (12, vL (Int.tmod x12 x14)), (19, vL (Int.tdiv x12 x14)), (17, vL (Int.tdiv x8 x10)), (14, vL x14), (16, vI x16)]) C dX8_held_128 (by decide) rfl ?_
          refine r_lload C 6 dX8_held_130 rfl ?_
          refine r_lstore (ls' := [(12, vL x14), (21, vL (Int.tmod x12 x14)), (10, vL (Int.tmod x8 x10)), (8, vL x10), (19, vL (Int.tdiv x12 x14)), (17, vL (Int.tdiv x8 x10)), (14, vL x14), (16, vI x16)]) C dX8_held_132 (by decide) rfl ?_
          refine r_lload C 1 dX8_held_134 rfl ?_
          refine r_lstore (ls' := [(14, vL (Int.tmod x12 x14)), (12, vL x14), (21, vL (Int.tmod x12 x14)), (10, vL (Int.tmod x8 x10)), (8, vL x10), (19, vL (Int.tdiv x12 x14)), (17, vL (Int.tdiv x8 x10)), (16, vI x16)]) C dX8_held_136 (by decide) rfl ?_
          refine r_iconst C dX8_held_138 ?_
          refine r_iload C 7 dX8_held_139 rfl ?_
          refine r_isub C dX8_held_141 ?_
          refine r_istore (ls' := [(16, vI ((0 : Int) - x16)), (14, vL (Int.tmod x12 x14)), (12, vL x14), (21, vL (Int.tmod x12 x14)), (10, vL (Int.tmod x8 x10)), (8, vL x10), (19, vL (Int.tdiv x12 x14)), (17, vL (Int.tdiv x8 x10))]) C dX8_held_142 (by decide) rfl ?_
          refine r_goto (tgt := 17) C dX8_held_144 (by decide) ?_
          exact r_perm [5, 4, 2, 1, 0] rfl ((z17 _ _ _ _ _ _).1 h)
        · have h := h.2.2 c1
          exact r_perm [1, 0, 6] rfl ((z85 _ _ _ _).1 h)
    · have h := h.2.2 c4
      refine r_lload C 1 dX8_held_39 rfl ?_
      refine r_lload C 0 dX8_held_41 rfl ?_
      refine r_lcmp_ge (tgt := 54) C dX8_held_43 dX8_held_44 (by decide) ⟨h.1, fun c3 => ?_, fun c3 => ?_⟩
      · have h := h.2.1 c3
        refine r_iload C 6 dX8_held_54 rfl ?_
        exact r_ireturn C dX8_held_56 h
      · have h := h.2.2 c3
        refine r_iconst C dX8_held_47 ?_
        refine r_iload C 6 dX8_held_48 rfl ?_
        refine r_isub C dX8_held_50 ?_
        refine r_goto (tgt := 56) C dX8_held_51 (by decide) ?_
        exact r_ireturn C dX8_held_56 h
  · intro x8 x12 x16 s h
    refine (z85 _ _ _ _).2 ?_
    refine r_lload C 0 dX8_held_85 rfl ?_
    refine r_lload C 1 dX8_held_87 rfl ?_
    refine r_lcmp_ne (tgt := 97) C dX8_held_89 dX8_held_90 (by decide) ⟨h.1, fun c6 => ?_, fun c6 => ?_⟩
    · have h := h.2.1 c6
      refine r_lload C 0 dX8_held_97 rfl ?_
      refine r_lconst (z := 0) C dX8_held_99 rfl ?_
      refine r_lcmp_ne (tgt := 111) C dX8_held_100 dX8_held_101 (by decide) ⟨h.1, fun c5 => ?_, fun c5 => ?_⟩
      · have h := h.2.1 c5
        refine r_iload C 2 dX8_held_111 rfl ?_
        exact r_ireturn C dX8_held_113 h
      · have h := h.2.2 c5
        refine r_iconst C dX8_held_104 ?_
        refine r_iload C 2 dX8_held_105 rfl ?_
        refine r_isub C dX8_held_107 ?_
        refine r_goto (tgt := 113) C dX8_held_108 (by decide) ?_
        exact r_ireturn C dX8_held_113 h
    · have h := h.2.2 c6
      refine r_iconst C dX8_held_93 ?_
      refine r_goto (tgt := 113) C dX8_held_94 (by decide) ?_
      exact r_ireturn C dX8_held_113 h
theorem x8_held_ct (l : Launch) (ad : Nat → Nat) (cA : Nat → ClassId) (D : va_G) (p0 : Int) (p2 : Int) (p4 : Int) (p6 : Int) (s : Mem) : MG l yX8_held wsX8_held x8_held_rm ocI [vL p0, vL p2, vL p4, vL p6] (GB ad cA D) s (x8_held p0 p2 p4 p6 s) :=
  m_met (own := RX8) (nL := 23) (by decide) rfl rfl (Nat.le_of_ble_eq_true rfl) rfl rfl rfl (fun κ hl C Q Pst hW hQ => x8_held_bd C (x8_held_mono hW hQ))

def x8_lay_be (X12 : Int → Mem → Prop) (Q : Int → Mem → Prop) (p1 : Int) (p2 : Int) (s : Mem) : Prop :=
  ∀ s1 : Mem, s1 = m_upd s 0 (0 : Int) p1 → ∀ s2 : Mem, s2 = m_upd s1 0 (1 : Int) p2 → X12 (0 : Int) s2
def x8_lay_b12 (X12 : Int → Mem → Prop) (Q : Int → Mem → Prop) (x3 : Int) (s : Mem) : Prop :=
  (InI x3 ∧ InI (s 0 (0 : Int))) ∧ ((s 0 (0 : Int)) ≤ x3 → ∀ s3 : Mem, s3 = m_upd s 0 (8 : Int) (0 : Int) → ((0 : Int) ≤ (0 : Int) ∧ (0 : Int) < 3) ∧ ∀ s4 : Mem, s4 = m_upd s3 8 (0 : Int) (1 : Int) → ((0 : Int) ≤ (1 : Int) ∧ (1 : Int) < 3) ∧ ∀ s5 : Mem, s5 = m_upd s4 8 (1 : Int) (2 : Int) → ((0 : Int) ≤ (2 : Int) ∧ (2 : Int) < 3) ∧ ∀ s6 : Mem, s6 = m_upd s5 8 (2 : Int) (1 : Int) → Q (0 : Int) s6) ∧ (x3 < (s 0 (0 : Int)) → ((0 : Int) ≤ x3 ∧ x3 < 6) ∧ ∀ s7 : Mem, s7 = m_upd s 1 x3 (5 : Int) → ((0 : Int) ≤ x3 ∧ x3 < 6) ∧ ∀ s8 : Mem, s8 = m_upd s7 2 x3 (3 : Int) → ((0 : Int) ≤ x3 ∧ x3 < 6) ∧ ∀ s9 : Mem, s9 = m_upd s8 3 x3 (0 : Int) → ((0 : Int) ≤ x3 ∧ x3 < 6) ∧ ∀ s10 : Mem, s10 = m_upd s9 4 x3 (0 : Int) → (((0 : Int) ≤ x3 ∧ x3 < 6) ∧ (0 : Int) ≤ (0 : Int) ∧ (0 : Int) ≤ 1) ∧ ∀ s11 : Mem, s11 = m_upd s10 5 x3 (0 : Int) → ((0 : Int) ≤ x3 ∧ x3 < 6) ∧ ∀ s12 : Mem, s12 = m_upd s11 6 x3 x3 → (((0 : Int) ≤ x3 ∧ x3 < 6) ∧ (0 : Int) ≤ (0 : Int) ∧ (0 : Int) ≤ 1) ∧ ∀ s13 : Mem, s13 = m_upd s12 9 x3 (0 : Int) → X12 (x3 + (1 : Int)) s13)
theorem x8_lay_me {X12 Y12 : Int → Mem → Prop} {Q R : Int → Mem → Prop} (hX12 : ∀ x3 s, X12 x3 s → Y12 x3 s) (hQ : ∀ r s, Q r s → R r s) {p1 : Int} {p2 : Int} {s : Mem} (h : x8_lay_be X12 Q p1 p2 s) : x8_lay_be Y12 R p1 p2 s :=
  fun s1 e_s1 => have h := h s1 e_s1; fun s2 e_s2 => have h := h s2 e_s2; hX12 _ _ h
theorem x8_lay_m12 {X12 Y12 : Int → Mem → Prop} {Q R : Int → Mem → Prop} (hX12 : ∀ x3 s, X12 x3 s → Y12 x3 s) (hQ : ∀ r s, Q r s → R r s) {x3 : Int} {s : Mem} (h : x8_lay_b12 X12 Q x3 s) : x8_lay_b12 Y12 R x3 s :=
  ⟨h.1, fun c => have h := h.2.1 c; fun s3 e_s3 => have h := h s3 e_s3; ⟨h.1, have h := h.2; fun s4 e_s4 => have h := h s4 e_s4; ⟨h.1, have h := h.2; fun s5 e_s5 => have h := h s5 e_s5; ⟨h.1, have h := h.2; fun s6 e_s6 => have h := h s6 e_s6; hQ _ _ h⟩⟩⟩, fun c => have h := h.2.2 c; ⟨h.1, have h := h.2; fun s7 e_s7 => have h := h s7 e_s7; ⟨h.1, have h := h.2; fun s8 e_s8 => have h := h s8 e_s8; ⟨h.1, have h := h.2; fun s9 e_s9 => have h := h s9 e_s9; ⟨h.1, have h := h.2; fun s10 e_s10 => have h := h s10 e_s10; ⟨h.1, have h := h.2; fun s11 e_s11 => have h := h s11 e_s11; ⟨h.1, have h := h.2; fun s12 e_s12 => have h := h s12 e_s12; ⟨h.1, have h := h.2; fun s13 e_s13 => have h := h s13 e_s13; hX12 _ _ h⟩⟩⟩⟩⟩⟩⟩⟩
def x8_lay (p1 : Int) (p2 : Int) (s : Mem) (Q : Int → Mem → Prop) : Prop := ∀ (X12 : Int → Mem → Prop), (∀ x3 s, x8_lay_b12 X12 Q x3 s → X12 x3 s) → x8_lay_be X12 Q p1 p2 s
def x8_lay_L12 (Q : Int → Mem → Prop) (x3 : Int) (s : Mem) : Prop := ∀ (X12 : Int → Mem → Prop), (∀ x3 s, x8_lay_b12 X12 Q x3 s → X12 x3 s) → X12 x3 s
theorem x8_lay_i {Q : Int → Mem → Prop} {p1 : Int} {p2 : Int} {s : Mem} (h : x8_lay_be (x8_lay_L12 Q) Q p1 p2 s) : x8_lay p1 p2 s Q := fun X12 k12 => x8_lay_me (fun _ _ h => h X12 k12) (fun _ _ h => h) h
theorem x8_lay_s12 {Q : Int → Mem → Prop} {x3 : Int} {s : Mem} (h : x8_lay_b12 (x8_lay_L12 Q) Q x3 s) : x8_lay_L12 Q x3 s := fun X12 k12 => k12 _ _ (x8_lay_m12 (fun _ _ h => h X12 k12) (fun _ _ h => h) h)
theorem x8_lay_mono {Q R : Int → Mem → Prop} {p1 : Int} {p2 : Int} {s : Mem} (h : x8_lay p1 p2 s Q) (hQ : ∀ r s, Q r s → R r s) : x8_lay p1 p2 s R := fun X12 k12 => x8_lay_me (fun _ _ h => h) hQ (h X12 (fun _ _ h => k12 _ _ (x8_lay_m12 (fun _ _ h => h) hQ h)))
def x8_lay_rm : Room := { frames := 0, cells := 0, slots := 0, locals := 0 }
theorem w_x8_lay_86 : Cond.fieldLink RX8 86 "BoltRingModel" "n" "I" ∈ wsX8_lay := by decide +kernel
theorem w_x8_lay_89 : Cond.fieldLink RX8 89 "BoltRingModel" "rib" "I" ∈ wsX8_lay := by decide +kernel
theorem w_x8_lay_92 : Cond.fieldLink RX8 92 "BoltRingModel" "cases" "I" ∈ wsX8_lay := by decide +kernel
theorem w_x8_lay_32 : Cond.fieldLink RX8 32 "BoltRingModel" "weight" "[I" ∈ wsX8_lay := by decide +kernel
theorem w_x8_lay_7 : Cond.fieldLink RX8 7 "BoltRingModel" "stiff" "[I" ∈ wsX8_lay := by decide +kernel
theorem w_x8_lay_13 : Cond.fieldLink RX8 13 "BoltRingModel" "pad" "[I" ∈ wsX8_lay := by decide +kernel
theorem w_x8_lay_16 : Cond.fieldLink RX8 16 "BoltRingModel" "turns" "[I" ∈ wsX8_lay := by decide +kernel
theorem w_x8_lay_19 : Cond.fieldLink RX8 19 "BoltRingModel" "load" "[I" ∈ wsX8_lay := by decide +kernel
theorem w_x8_lay_22 : Cond.fieldLink RX8 22 "BoltRingModel" "isBroken" "[Z" ∈ wsX8_lay := by decide +kernel
theorem w_x8_lay_26 : Cond.fieldLink RX8 26 "BoltRingModel" "row" "[I" ∈ wsX8_lay := by decide +kernel
theorem w_x8_lay_35 : Cond.fieldLink RX8 35 "BoltRingModel" "isRead" "[Z" ∈ wsX8_lay := by decide +kernel
theorem in_x8_lay_X8 : ∀ w ∈ wsX80, w ∈ wsX8_lay := by decide +kernel
set_option maxHeartbeats 4000000 in
set_option maxRecDepth 100000 in
theorem x8_lay_bd {κ : KT} {ad : Nat → Nat} {cA : Nat → ClassId} {D : va_G} {Q : State → Prop} {p1 : Int} {p2 : Int} {s : Mem} (C : CX κ (GB ad cA D) RX8 cX8_lay 4 wsX8_lay x8_lay_rm none) (h : x8_lay p1 p2 s (RT κ (GB ad cA D) ocV Q)) : WM κ (GB ad cA D) 4 Q s 0 [(0, .ref (ad 0)), (1, vI p1), (2, vI p2)] [] := by
  obtain ⟨Z12, z12⟩ : ∃ Z : Int → Mem → Prop, ∀ x3 s, Z x3 s ↔ WM κ (GB ad cA D) 4 Q s 12 [(0, .ref (ad 0)), (3, vI x3)] [] := ⟨fun x3 s => WM κ (GB ad cA D) 4 Q s 12 [(0, .ref (ad 0)), (3, vI x3)] [], fun _ _ => Iff.rfl⟩
  refine (fun h => ?_) (h Z12 ?_)
  · refine r_aload_n C 0 dX8_lay_0 rfl ?_
    refine r_iload_n C 1 dX8_lay_1 rfl ?_
    refine r_puti (j := 0) (jz := 0) C dX8_lay_2 (shB_0) rfl rfl (by decide) in_x8_lay_X8 tyX8 tyX8_ok nmX8 w_x8_lay_86 rfl rfl (by decide +kernel) rfl (fun s1 e_s1 => ?_)
    have h := h s1 e_s1
    refine r_aload_n C 0 dX8_lay_5 rfl ?_
    refine r_iload_n C 2 dX8_lay_6 rfl ?_
    refine r_puti (j := 1) (jz := 1) C dX8_lay_7 (shB_0) rfl rfl (by decide) in_x8_lay_X8 tyX8 tyX8_ok nmX8 w_x8_lay_89 rfl rfl (by decide +kernel) rfl (fun s2 e_s2 => ?_)
    have h := h s2 e_s2
    refine r_iconst C dX8_lay_10 ?_
    refine r_istore_n (ls' := [(3, vI (0 : Int)), (0, .ref (ad 0)), (1, vI p1), (2, vI p2)]) C dX8_lay_11 rfl (by decide) rfl ?_
    exact r_perm [1, 0] rfl ((z12 _ _).1 h)
  · intro x3 s h
    refine (z12 _ _).2 ?_
    refine r_iload_n C 1 dX8_lay_12 rfl ?_
    refine r_aload_n C 0 dX8_lay_13 rfl ?_
    refine r_get (j := 0) (jz := 0) (v := vI (s 0 (0 : Int))) C dX8_lay_14 (shB_0) rfl rfl (by decide) in_x8_lay_X8 w_x8_lay_86 rfl rfl rfl ?_
    refine r_icmp_ge (tgt := 75) C dX8_lay_17 (by decide) ⟨h.1, fun c14 => ?_, fun c14 => ?_⟩
    · have h := h.2.1 c14
      refine r_aload_n C 0 dX8_lay_75 rfl ?_
      refine r_iconst C dX8_lay_76 ?_
      refine r_puti (j := 8) (jz := 8) C dX8_lay_77 (shB_0) rfl rfl (by decide) in_x8_lay_X8 tyX8 tyX8_ok nmX8 w_x8_lay_92 rfl rfl (by decide +kernel) rfl (fun s3 e_s3 => ?_)
      have h := h s3 e_s3
      refine r_aload_n C 0 dX8_lay_80 rfl ?_
      refine r_get (j := 10) (jz := 10) (v := .ref (ad 8)) C dX8_lay_81 (shB_0) rfl rfl (by decide) in_x8_lay_X8 w_x8_lay_32 rfl rfl rfl ?_
      refine r_iconst C dX8_lay_84 ?_
      refine r_iconst C dX8_lay_85 ?_
      refine r_iast (nz := 3) C dX8_lay_86 (shB_8) rfl (by decide) ⟨h.1, fun s4 e_s4 => ?_⟩
      have h := h.2 s4 e_s4
      refine r_aload_n C 0 dX8_lay_87 rfl ?_
      refine r_get (j := 10) (jz := 10) (v := .ref (ad 8)) C dX8_lay_88 (shB_0) rfl rfl (by decide) in_x8_lay_X8 w_x8_lay_32 rfl rfl rfl ?_
      refine r_iconst C dX8_lay_91 ?_
      refine r_iconst C dX8_lay_92 ?_
      refine r_iast (nz := 3) C dX8_lay_93 (shB_8) rfl (by decide) ⟨h.1, fun s5 e_s5 => ?_⟩
      have h := h.2 s5 e_s5
      refine r_aload_n C 0 dX8_lay_94 rfl ?_
      refine r_get (j := 10) (jz := 10) (v := .ref (ad 8)) C dX8_lay_95 (shB_0) rfl rfl (by decide) in_x8_lay_X8 w_x8_lay_32 rfl rfl rfl ?_
      refine r_iconst C dX8_lay_98 ?_
      refine r_iconst C dX8_lay_99 ?_
      refine r_iast (nz := 3) C dX8_lay_100 (shB_8) rfl (by decide) ⟨h.1, fun s6 e_s6 => ?_⟩
      have h := h.2 s6 e_s6
      exact r_return C dX8_lay_101 h
    · have h := h.2.2 c14
      refine r_aload_n C 0 dX8_lay_20 rfl ?_
      refine r_get (j := 2) (jz := 2) (v := .ref (ad 1)) C dX8_lay_21 (shB_0) rfl rfl (by decide) in_x8_lay_X8 w_x8_lay_7 rfl rfl rfl ?_
      refine r_iload_n C 1 dX8_lay_24 rfl ?_
      refine r_iconst C dX8_lay_25 ?_
      refine r_iast (nz := 6) C dX8_lay_26 (shB_1) rfl (by decide) ⟨h.1, fun s7 e_s7 => ?_⟩
      have h := h.2 s7 e_s7
      refine r_aload_n C 0 dX8_lay_27 rfl ?_
      refine r_get (j := 3) (jz := 3) (v := .ref (ad 2)) C dX8_lay_28 (shB_0) rfl rfl (by decide) in_x8_lay_X8 w_x8_lay_13 rfl rfl rfl ?_
      refine r_iload_n C 1 dX8_lay_31 rfl ?_
      refine r_iconst C dX8_lay_32 ?_
      refine r_iast (nz := 6) C dX8_lay_33 (shB_2) rfl (by decide) ⟨h.1, fun s8 e_s8 => ?_⟩
      have h := h.2 s8 e_s8
      refine r_aload_n C 0 dX8_lay_34 rfl ?_
      refine r_get (j := 4) (jz := 4) (v := .ref (ad 3)) C dX8_lay_35 (shB_0) rfl rfl (by decide) in_x8_lay_X8 w_x8_lay_16 rfl rfl rfl ?_
      refine r_iload_n C 1 dX8_lay_38 rfl ?_
      refine r_iconst C dX8_lay_39 ?_
      refine r_iast (nz := 6) C dX8_lay_40 (shB_3) rfl (by decide) ⟨h.1, fun s9 e_s9 => ?_⟩
      have h := h.2 s9 e_s9
      refine r_aload_n C 0 dX8_lay_41 rfl ?_
      refine r_get (j := 5) (jz := 5) (v := .ref (ad 4)) C dX8_lay_42 (shB_0) rfl rfl (by decide) in_x8_lay_X8 w_x8_lay_19 rfl rfl rfl ?_
      refine r_iload_n C 1 dX8_lay_45 rfl ?_
      refine r_iconst C dX8_lay_46 ?_
      refine r_iast (nz := 6) C dX8_lay_47 (shB_4) rfl (by decide) ⟨h.1, fun s10 e_s10 => ?_⟩
      have h := h.2 s10 e_s10
      refine r_aload_n C 0 dX8_lay_48 rfl ?_
      refine r_get (j := 6) (jz := 6) (v := .ref (ad 5)) C dX8_lay_49 (shB_0) rfl rfl (by decide) in_x8_lay_X8 w_x8_lay_22 rfl rfl rfl ?_
      refine r_iload_n C 1 dX8_lay_52 rfl ?_
      refine r_iconst C dX8_lay_53 ?_
      refine r_zast (nz := 6) C dX8_lay_54 (shB_5) rfl (by decide) ⟨h.1, fun s11 e_s11 => ?_⟩
      have h := h.2 s11 e_s11
      refine r_aload_n C 0 dX8_lay_55 rfl ?_
      refine r_get (j := 7) (jz := 7) (v := .ref (ad 6)) C dX8_lay_56 (shB_0) rfl rfl (by decide) in_x8_lay_X8 w_x8_lay_26 rfl rfl rfl ?_
      refine r_iload_n C 1 dX8_lay_59 rfl ?_
      refine r_iload_n C 1 dX8_lay_60 rfl ?_
      refine r_iast (nz := 6) C dX8_lay_61 (shB_6) rfl (by decide) ⟨h.1, fun s12 e_s12 => ?_⟩
      have h := h.2 s12 e_s12
      refine r_aload_n C 0 dX8_lay_62 rfl ?_
      refine r_get (j := 11) (jz := 11) (v := .ref (ad 9)) C dX8_lay_63 (shB_0) rfl rfl (by decide) in_x8_lay_X8 w_x8_lay_35 rfl rfl rfl ?_
      refine r_iload_n C 1 dX8_lay_66 rfl ?_
      refine r_iconst C dX8_lay_67 ?_
      refine r_zast (nz := 6) C dX8_lay_68 (shB_9) rfl (by decide) ⟨h.1, fun s13 e_s13 => ?_⟩
      have h := h.2 s13 e_s13
      refine r_iinc (j := 1) (ls' := [(3, vI (x3 + (1 : Int))), (0, .ref (ad 0))]) C dX8_lay_69 rfl (by decide) rfl ?_
      refine r_goto (tgt := 12) C dX8_lay_72 (by decide) ?_
      exact r_perm [1, 0] rfl ((z12 _ _).1 h)
theorem x8_lay_ct (l : Launch) (ad : Nat → Nat) (cA : Nat → ClassId) (D : va_G) (p1 : Int) (p2 : Int) (s : Mem) : MG l yX8_lay wsX8_lay x8_lay_rm ocV [.ref (ad 0), vI p1, vI p2] (GB ad cA D) s (x8_lay p1 p2 s) :=
  m_met (own := RX8) (nL := 4) (by decide) rfl rfl (Nat.le_of_ble_eq_true rfl) rfl rfl rfl (fun κ hl C Q Pst hW hQ => x8_lay_bd C (x8_lay_mono hW hQ))

def x8_joint (p1 : Int) (p2 : Int) (s : Mem) (Q : Int → Mem → Prop) : Prop :=
  (InI p1) ∧ x8_in p1 (3 : Int) (6 : Int) s (fun r2 s1 => InI r2 ∧ (r2 = (0 : Int) → Q (-100002 : Int) s1) ∧ (¬ r2 = (0 : Int) → (InI p2) ∧ x8_in p2 (1 : Int) (9 : Int) s1 (fun r4 s3 => InI r4 ∧ (¬ r4 = (0 : Int) → x8_lay p1 p2 s3 (fun _ s5 => Q (s5 0 (0 : Int)) s5)) ∧ (r4 = (0 : Int) → Q (-100002 : Int) s3))))
theorem x8_joint_mono {Q R : Int → Mem → Prop} {p1 : Int} {p2 : Int} {s : Mem} (h : x8_joint p1 p2 s Q) (hQ : ∀ r s, Q r s → R r s) : x8_joint p1 p2 s R :=
  ⟨h.1, have h := h.2; x8_in_mono h (fun r2 s1 h => ⟨h.1, fun c => have h := h.2.1 c; hQ _ _ h, fun c => have h := h.2.2 c; ⟨h.1, have h := h.2; x8_in_mono h (fun r4 s3 h => ⟨h.1, fun c => have h := h.2.1 c; x8_lay_mono h (fun _ s5 h => hQ _ _ h), fun c => have h := h.2.2 c; hQ _ _ h⟩)⟩⟩)⟩
def x8_joint_rm : Room := { frames := 1, cells := 0, slots := 0, locals := 25 }
theorem w_x8_joint_95 : Cond.constantLong RX8 95 (3) ∈ wsX8_joint := by decide +kernel
theorem w_x8_joint_97 : Cond.constantLong RX8 97 (6) ∈ wsX8_joint := by decide +kernel
theorem w_x8_joint_105 : Cond.constant RX8 105 (-100002) ∈ wsX8_joint := by decide +kernel
theorem w_x8_joint_103 : Cond.constantLong RX8 103 (9) ∈ wsX8_joint := by decide +kernel
theorem w_x8_joint_86 : Cond.fieldLink RX8 86 "BoltRingModel" "n" "I" ∈ wsX8_joint := by decide +kernel
theorem in_x8_joint_X8 : ∀ w ∈ wsX80, w ∈ wsX8_joint := by decide +kernel
set_option maxHeartbeats 4000000 in
set_option maxRecDepth 100000 in
theorem x8_joint_bd {κ : KT} {ad : Nat → Nat} {cA : Nat → ClassId} {D : va_G} {Q : State → Prop} {p1 : Int} {p2 : Int} {s : Mem} (C : CX κ (GB ad cA D) RX8 cX8_joint 3 wsX8_joint x8_joint_rm (some .int)) (h : x8_joint p1 p2 s (RT κ (GB ad cA D) ocI Q)) : WM κ (GB ad cA D) 3 Q s 0 [(0, .ref (ad 0)), (1, vI p1), (2, vI p2)] [] := by
  refine r_iload_n C 1 dX8_joint_0 rfl ?_
  refine r_i2l C dX8_joint_1 ⟨h.1, ?_⟩
  have h := h.2
  refine r_ldc2 (z := 3) C dX8_joint_2 w_x8_joint_95 rfl ?_
  refine r_ldc2 (z := 6) C dX8_joint_5 w_x8_joint_97 rfl ?_
  refine r_callS (As := [vL p1, vL (3 : Int), vL (6 : Int)]) (n := 3) C dX8_joint_8 (x8_in_ct κ.1.2.1 ad cA D p1 (3 : Int) (6 : Int) s) gX8_joint_X8_in rfl ⟨rfl, rfl⟩ (by decide +kernel) (by decide) rfl rfl (Nat.le_of_ble_eq_true rfl) (fun _ => rfl) ?_
  refine x8_in_mono h (fun r2 s1 h => ?_)
  refine r_if_eq (tgt := 26) C dX8_joint_11 (by decide) ⟨h.1, fun c7 => ?_, fun c7 => ?_⟩
  · have h := h.2.1 c7
    refine r_ldc (z := -100002) C dX8_joint_26 w_x8_joint_105 rfl ?_
    exact r_ireturn C dX8_joint_28 h
  · have h := h.2.2 c7
    refine r_iload_n C 2 dX8_joint_14 rfl ?_
    refine r_i2l C dX8_joint_15 ⟨h.1, ?_⟩
    have h := h.2
    refine r_lconst (z := 1) C dX8_joint_16 rfl ?_
    refine r_ldc2 (z := 9) C dX8_joint_17 w_x8_joint_103 rfl ?_
    refine r_callS (As := [vL p2, vL (1 : Int), vL (9 : Int)]) (n := 3) C dX8_joint_20 (x8_in_ct κ.1.2.1 ad cA D p2 (1 : Int) (9 : Int) s1) gX8_joint_X8_in rfl ⟨rfl, rfl⟩ (by decide +kernel) (by decide) rfl rfl (Nat.le_of_ble_eq_true rfl) (fun _ => rfl) ?_
    refine x8_in_mono h (fun r4 s3 h => ?_)
    refine r_if_ne (tgt := 29) C dX8_joint_23 (by decide) ⟨h.1, fun c6 => ?_, fun c6 => ?_⟩
    · have h := h.2.1 c6
      refine r_aload_n C 0 dX8_joint_29 rfl ?_
      refine r_iload_n C 1 dX8_joint_30 rfl ?_
      refine r_iload_n C 2 dX8_joint_31 rfl ?_
      refine r_callV (As := [vI p1, vI p2]) (o := 0) (n := 2) C dX8_joint_32 (x8_lay_ct κ.1.2.1 ad cA D p1 p2 s3) gX8_joint_X8_lay rfl ⟨rfl, rfl⟩ (by decide +kernel) (by decide) (shB_0) rfl rfl rfl (Nat.le_of_ble_eq_true rfl) (fun _ => rfl) ?_
      refine x8_lay_mono h (fun _ s5 h => ?_)
      refine r_aload_n C 0 dX8_joint_35 rfl ?_
      refine r_get (j := 0) (jz := 0) (v := vI (s5 0 (0 : Int))) C dX8_joint_36 (shB_0) rfl rfl (by decide) in_x8_joint_X8 w_x8_joint_86 rfl rfl rfl ?_
      exact r_ireturn C dX8_joint_39 h
    · have h := h.2.2 c6
      refine r_ldc (z := -100002) C dX8_joint_26 w_x8_joint_105 rfl ?_
      exact r_ireturn C dX8_joint_28 h
theorem x8_joint_ct (l : Launch) (ad : Nat → Nat) (cA : Nat → ClassId) (D : va_G) (p1 : Int) (p2 : Int) (s : Mem) : MG l yX8_joint wsX8_joint x8_joint_rm ocI [.ref (ad 0), vI p1, vI p2] (GB ad cA D) s (x8_joint p1 p2 s) :=
  m_met (own := RX8) (nL := 3) (by decide) rfl rfl (Nat.le_of_ble_eq_true rfl) rfl rfl rfl (fun κ hl C Q Pst hW hQ => x8_joint_bd C (x8_joint_mono hW hQ))

def x8_noBolt (p1 : Int) (s : Mem) (Q : Int → Mem → Prop) : Prop :=
  (InI p1) ∧ (InI ((s 0 (0 : Int)) - (1 : Int))) ∧ x8_in p1 (0 : Int) ((s 0 (0 : Int)) - (1 : Int)) s (fun r2 s1 => InI r2 ∧ (¬ r2 = (0 : Int) → ((0 : Int) ≤ (0 : Int) ∧ (0 : Int) ≤ 1) ∧ Q (0 : Int) s1) ∧ (r2 = (0 : Int) → ((0 : Int) ≤ (1 : Int) ∧ (1 : Int) ≤ 1) ∧ Q (1 : Int) s1))
theorem x8_noBolt_mono {Q R : Int → Mem → Prop} {p1 : Int} {s : Mem} (h : x8_noBolt p1 s Q) (hQ : ∀ r s, Q r s → R r s) : x8_noBolt p1 s R :=
  ⟨h.1, have h := h.2; ⟨h.1, have h := h.2; x8_in_mono h (fun r2 s1 h => ⟨h.1, fun c => have h := h.2.1 c; ⟨h.1, hQ _ _ h.2⟩, fun c => have h := h.2.2 c; ⟨h.1, hQ _ _ h.2⟩⟩)⟩⟩
def x8_noBolt_rm : Room := { frames := 1, cells := 0, slots := 0, locals := 25 }
theorem w_x8_noBolt_86 : Cond.fieldLink RX8 86 "BoltRingModel" "n" "I" ∈ wsX8_noBolt := by decide +kernel
theorem in_x8_noBolt_X8 : ∀ w ∈ wsX80, w ∈ wsX8_noBolt := by decide +kernel
set_option maxHeartbeats 4000000 in
set_option maxRecDepth 100000 in
theorem x8_noBolt_bd {κ : KT} {ad : Nat → Nat} {cA : Nat → ClassId} {D : va_G} {Q : State → Prop} {p1 : Int} {s : Mem} (C : CX κ (GB ad cA D) RX8 cX8_noBolt 2 wsX8_noBolt x8_noBolt_rm (some .boolean)) (h : x8_noBolt p1 s (RT κ (GB ad cA D) ocI Q)) : WM κ (GB ad cA D) 2 Q s 0 [(0, .ref (ad 0)), (1, vI p1)] [] := by
  refine r_iload_n C 1 dX8_noBolt_0 rfl ?_
  refine r_i2l C dX8_noBolt_1 ⟨h.1, ?_⟩
  have h := h.2
  refine r_lconst (z := 0) C dX8_noBolt_2 rfl ?_
  refine r_aload_n C 0 dX8_noBolt_3 rfl ?_
  refine r_get (j := 0) (jz := 0) (v := vI (s 0 (0 : Int))) C dX8_noBolt_4 (shB_0) rfl rfl (by decide) in_x8_noBolt_X8 w_x8_noBolt_86 rfl rfl rfl ?_
  refine r_iconst C dX8_noBolt_7 ?_
  refine r_isub C dX8_noBolt_8 ?_
  refine r_i2l C dX8_noBolt_9 ⟨h.1, ?_⟩
  have h := h.2
  refine r_callS (As := [vL p1, vL (0 : Int), vL ((s 0 (0 : Int)) - (1 : Int))]) (n := 3) C dX8_noBolt_10 (x8_in_ct κ.1.2.1 ad cA D p1 (0 : Int) ((s 0 (0 : Int)) - (1 : Int)) s) gX8_noBolt_X8_in rfl ⟨rfl, rfl⟩ (by decide +kernel) (by decide) rfl rfl (Nat.le_of_ble_eq_true rfl) (fun _ => rfl) ?_
  refine x8_in_mono h (fun r2 s1 h => ?_)
  refine r_if_ne (tgt := 20) C dX8_noBolt_13 (by decide) ⟨h.1, fun c3 => ?_, fun c3 => ?_⟩
  · have h := h.2.1 c3
    refine r_iconst C dX8_noBolt_20 ?_
    exact r_zreturn C dX8_noBolt_21 h
  · have h := h.2.2 c3
    refine r_iconst C dX8_noBolt_16 ?_
    refine r_goto (tgt := 21) C dX8_noBolt_17 (by decide) ?_
    exact r_zreturn C dX8_noBolt_21 h
theorem x8_noBolt_ct (l : Launch) (ad : Nat → Nat) (cA : Nat → ClassId) (D : va_G) (p1 : Int) (s : Mem) : MG l yX8_noBolt wsX8_noBolt x8_noBolt_rm ocI [.ref (ad 0), vI p1] (GB ad cA D) s (x8_noBolt p1 s) :=
  m_met (own := RX8) (nL := 2) (by decide) rfl rfl (Nat.le_of_ble_eq_true rfl) rfl rfl rfl (fun κ hl C Q Pst hW hQ => x8_noBolt_bd C (x8_noBolt_mono hW hQ))

def x8_set_be (X49 : Int → Int → Int → Int → Int → Int → Mem → Prop) (X105 : Int → Int → Int → Int → Mem → Prop) (Q : Int → Mem → Prop) (p1 : Int) (p2 : Int) (p3 : Int) (s : Mem) : Prop :=
  x8_noBolt p1 s (fun r2 s1 => InI r2 ∧ (r2 = (0 : Int) → (InI p2) ∧ x8_in p2 (0 : Int) (3 : Int) s1 (fun r4 s3 => InI r4 ∧ (r4 = (0 : Int) → Q (-100002 : Int) s3) ∧ (¬ r4 = (0 : Int) → (InI p3) ∧ (InI p2 ∧ InI (2 : Int)) ∧ ((2 : Int) ≤ p2 → (InI p2 ∧ InI (2 : Int)) ∧ ((2 : Int) ≤ p2 → X49 p1 p2 p3 (200 : Int) (0 : Int) p3 s3) ∧ (p2 < (2 : Int) → X49 p1 p2 p3 (9 : Int) (0 : Int) p3 s3)) ∧ (p2 < (2 : Int) → (InI p2 ∧ InI (2 : Int)) ∧ ((2 : Int) ≤ p2 → X49 p1 p2 p3 (200 : Int) (1 : Int) p3 s3) ∧ (p2 < (2 : Int) → X49 p1 p2 p3 (9 : Int) (1 : Int) p3 s3))))) ∧ (¬ r2 = (0 : Int) → Q (-100001 : Int) s1))
def x8_set_b49 (X49 : Int → Int → Int → Int → Int → Int → Mem → Prop) (X105 : Int → Int → Int → Int → Mem → Prop) (Q : Int → Mem → Prop) (x1 : Int) (x2 : Int) (x3 : Int) (t0 : Int) (t1 : Int) (t2 : Int) (s : Mem) : Prop :=
  x8_in t2 t1 t0 s (fun r11 s10 => InI r11 ∧ (¬ r11 = (0 : Int) → InI x2 ∧ (¬ x2 = (0 : Int) → (InI x2 ∧ InI (1 : Int)) ∧ (¬ x2 = (1 : Int) → (InI x2 ∧ InI (2 : Int)) ∧ (¬ x2 = (2 : Int) → ((0 : Int) ≤ x1 ∧ x1 < 6) ∧ X105 x1 x2 x3 (s10 4 x1) s10) ∧ (x2 = (2 : Int) → ((0 : Int) ≤ x1 ∧ x1 < 6) ∧ X105 x1 x2 x3 (s10 3 x1) s10)) ∧ (x2 = (1 : Int) → ((0 : Int) ≤ x1 ∧ x1 < 6) ∧ X105 x1 x2 x3 (s10 2 x1) s10)) ∧ (x2 = (0 : Int) → ((0 : Int) ≤ x1 ∧ x1 < 6) ∧ X105 x1 x2 x3 (s10 1 x1) s10)) ∧ (r11 = (0 : Int) → Q (-100002 : Int) s10))
def x8_set_b105 (X49 : Int → Int → Int → Int → Int → Int → Mem → Prop) (X105 : Int → Int → Int → Int → Mem → Prop) (Q : Int → Mem → Prop) (x1 : Int) (x2 : Int) (x3 : Int) (t0 : Int) (s : Mem) : Prop :=
  InI x2 ∧ (¬ x2 = (0 : Int) → (InI x2 ∧ InI (1 : Int)) ∧ (¬ x2 = (1 : Int) → (InI x2 ∧ InI (2 : Int)) ∧ (¬ x2 = (2 : Int) → ((0 : Int) ≤ x1 ∧ x1 < 6) ∧ ∀ s16 : Mem, s16 = m_upd s 4 x1 x3 → Q t0 s16) ∧ (x2 = (2 : Int) → ((0 : Int) ≤ x1 ∧ x1 < 6) ∧ ∀ s17 : Mem, s17 = m_upd s 3 x1 x3 → Q t0 s17)) ∧ (x2 = (1 : Int) → ((0 : Int) ≤ x1 ∧ x1 < 6) ∧ ∀ s19 : Mem, s19 = m_upd s 2 x1 x3 → Q t0 s19)) ∧ (x2 = (0 : Int) → ((0 : Int) ≤ x1 ∧ x1 < 6) ∧ ∀ s21 : Mem, s21 = m_upd s 1 x1 x3 → Q t0 s21)
theorem x8_set_me {X49 Y49 : Int → Int → Int → Int → Int → Int → Mem → Prop} {X105 Y105 : Int → Int → Int → Int → Mem → Prop} {Q R : Int → Mem → Prop} (hX49 : ∀ x1 x2 x3 t0 t1 t2 s, X49 x1 x2 x3 t0 t1 t2 s → Y49 x1 x2 x3 t0 t1 t2 s) (hX105 : ∀ x1 x2 x3 t0 s, X105 x1 x2 x3 t0 s → Y105 x1 x2 x3 t0 s) (hQ : ∀ r s, Q r s → R r s) {p1 : Int} {p2 : Int} {p3 : Int} {s : Mem} (h : x8_set_be X49 X105 Q p1 p2 p3 s) : x8_set_be Y49 Y105 R p1 p2 p3 s :=
  x8_noBolt_mono h (fun r2 s1 h => ⟨h.1, fun c => have h := h.2.1 c; ⟨h.1, have h := h.2; x8_in_mono h (fun r4 s3 h => ⟨h.1, fun c => have h := h.2.1 c; hQ _ _ h, fun c => have h := h.2.2 c; ⟨h.1, have h := h.2; ⟨h.1, fun c => have h := h.2.1 c; ⟨h.1, fun c => have h := h.2.1 c; hX49 _ _ _ _ _ _ _ h, fun c => have h := h.2.2 c; hX49 _ _ _ _ _ _ _ h⟩, fun c => have h := h.2.2 c; ⟨h.1, fun c => have h := h.2.1 c; hX49 _ _ _ _ _ _ _ h, fun c => have h := h.2.2 c; hX49 _ _ _ _ _ _ _ h⟩⟩⟩⟩)⟩, fun c => have h := h.2.2 c; hQ _ _ h⟩)
theorem x8_set_m49 {X49 Y49 : Int → Int → Int → Int → Int → Int → Mem → Prop} {X105 Y105 : Int → Int → Int → Int → Mem → Prop} {Q R : Int → Mem → Prop} (hX49 : ∀ x1 x2 x3 t0 t1 t2 s, X49 x1 x2 x3 t0 t1 t2 s → Y49 x1 x2 x3 t0 t1 t2 s) (hX105 : ∀ x1 x2 x3 t0 s, X105 x1 x2 x3 t0 s → Y105 x1 x2 x3 t0 s) (hQ : ∀ r s, Q r s → R r s) {x1 : Int} {x2 : Int} {x3 : Int} {t0 : Int} {t1 : Int} {t2 : Int} {s : Mem} (h : x8_set_b49 X49 X105 Q x1 x2 x3 t0 t1 t2 s) : x8_set_b49 Y49 Y105 R x1 x2 x3 t0 t1 t2 s :=
  x8_in_mono h (fun r11 s10 h => ⟨h.1, fun c => have h := h.2.1 c; ⟨h.1, fun c => have h := h.2.1 c; ⟨h.1, fun c => have h := h.2.1 c; ⟨h.1, fun c => have h := h.2.1 c; ⟨h.1, have h := h.2; hX105 _ _ _ _ _ h⟩, fun c => have h := h.2.2 c; ⟨h.1, have h := h.2; hX105 _ _ _ _ _ h⟩⟩, fun c => have h := h.2.2 c; ⟨h.1, have h := h.2; hX105 _ _ _ _ _ h⟩⟩, fun c => have h := h.2.2 c; ⟨h.1, have h := h.2; hX105 _ _ _ _ _ h⟩⟩, fun c => have h := h.2.2 c; hQ _ _ h⟩)
theorem x8_set_m105 {X49 Y49 : Int → Int → Int → Int → Int → Int → Mem → Prop} {X105 Y105 : Int → Int → Int → Int → Mem → Prop} {Q R : Int → Mem → Prop} (hX49 : ∀ x1 x2 x3 t0 t1 t2 s, X49 x1 x2 x3 t0 t1 t2 s → Y49 x1 x2 x3 t0 t1 t2 s) (hX105 : ∀ x1 x2 x3 t0 s, X105 x1 x2 x3 t0 s → Y105 x1 x2 x3 t0 s) (hQ : ∀ r s, Q r s → R r s) {x1 : Int} {x2 : Int} {x3 : Int} {t0 : Int} {s : Mem} (h : x8_set_b105 X49 X105 Q x1 x2 x3 t0 s) : x8_set_b105 Y49 Y105 R x1 x2 x3 t0 s :=
  ⟨h.1, fun c => have h := h.2.1 c; ⟨h.1, fun c => have h := h.2.1 c; ⟨h.1, fun c => have h := h.2.1 c; ⟨h.1, have h := h.2; fun s16 e_s16 => have h := h s16 e_s16; hQ _ _ h⟩, fun c => have h := h.2.2 c; ⟨h.1, have h := h.2; fun s17 e_s17 => have h := h s17 e_s17; hQ _ _ h⟩⟩, fun c => have h := h.2.2 c; ⟨h.1, have h := h.2; fun s19 e_s19 => have h := h s19 e_s19; hQ _ _ h⟩⟩, fun c => have h := h.2.2 c; ⟨h.1, have h := h.2; fun s21 e_s21 => have h := h s21 e_s21; hQ _ _ h⟩⟩
def x8_set (p1 : Int) (p2 : Int) (p3 : Int) (s : Mem) (Q : Int → Mem → Prop) : Prop := ∀ (X49 : Int → Int → Int → Int → Int → Int → Mem → Prop) (X105 : Int → Int → Int → Int → Mem → Prop), (∀ x1 x2 x3 t0 t1 t2 s, x8_set_b49 X49 X105 Q x1 x2 x3 t0 t1 t2 s → X49 x1 x2 x3 t0 t1 t2 s) → (∀ x1 x2 x3 t0 s, x8_set_b105 X49 X105 Q x1 x2 x3 t0 s → X105 x1 x2 x3 t0 s) → x8_set_be X49 X105 Q p1 p2 p3 s
def x8_set_L49 (Q : Int → Mem → Prop) (x1 : Int) (x2 : Int) (x3 : Int) (t0 : Int) (t1 : Int) (t2 : Int) (s : Mem) : Prop := ∀ (X49 : Int → Int → Int → Int → Int → Int → Mem → Prop) (X105 : Int → Int → Int → Int → Mem → Prop), (∀ x1 x2 x3 t0 t1 t2 s, x8_set_b49 X49 X105 Q x1 x2 x3 t0 t1 t2 s → X49 x1 x2 x3 t0 t1 t2 s) → (∀ x1 x2 x3 t0 s, x8_set_b105 X49 X105 Q x1 x2 x3 t0 s → X105 x1 x2 x3 t0 s) → X49 x1 x2 x3 t0 t1 t2 s
def x8_set_L105 (Q : Int → Mem → Prop) (x1 : Int) (x2 : Int) (x3 : Int) (t0 : Int) (s : Mem) : Prop := ∀ (X49 : Int → Int → Int → Int → Int → Int → Mem → Prop) (X105 : Int → Int → Int → Int → Mem → Prop), (∀ x1 x2 x3 t0 t1 t2 s, x8_set_b49 X49 X105 Q x1 x2 x3 t0 t1 t2 s → X49 x1 x2 x3 t0 t1 t2 s) → (∀ x1 x2 x3 t0 s, x8_set_b105 X49 X105 Q x1 x2 x3 t0 s → X105 x1 x2 x3 t0 s) → X105 x1 x2 x3 t0 s
theorem x8_set_i {Q : Int → Mem → Prop} {p1 : Int} {p2 : Int} {p3 : Int} {s : Mem} (h : x8_set_be (x8_set_L49 Q) (x8_set_L105 Q) Q p1 p2 p3 s) : x8_set p1 p2 p3 s Q := fun X49 X105 k49 k105 => x8_set_me (fun _ _ _ _ _ _ _ h => h X49 X105 k49 k105) (fun _ _ _ _ _ h => h X49 X105 k49 k105) (fun _ _ h => h) h
theorem x8_set_s49 {Q : Int → Mem → Prop} {x1 : Int} {x2 : Int} {x3 : Int} {t0 : Int} {t1 : Int} {t2 : Int} {s : Mem} (h : x8_set_b49 (x8_set_L49 Q) (x8_set_L105 Q) Q x1 x2 x3 t0 t1 t2 s) : x8_set_L49 Q x1 x2 x3 t0 t1 t2 s := fun X49 X105 k49 k105 => k49 _ _ _ _ _ _ _ (x8_set_m49 (fun _ _ _ _ _ _ _ h => h X49 X105 k49 k105) (fun _ _ _ _ _ h => h X49 X105 k49 k105) (fun _ _ h => h) h)
theorem x8_set_s105 {Q : Int → Mem → Prop} {x1 : Int} {x2 : Int} {x3 : Int} {t0 : Int} {s : Mem} (h : x8_set_b105 (x8_set_L49 Q) (x8_set_L105 Q) Q x1 x2 x3 t0 s) : x8_set_L105 Q x1 x2 x3 t0 s := fun X49 X105 k49 k105 => k105 _ _ _ _ _ (x8_set_m105 (fun _ _ _ _ _ _ _ h => h X49 X105 k49 k105) (fun _ _ _ _ _ h => h X49 X105 k49 k105) (fun _ _ h => h) h)
theorem x8_set_mono {Q R : Int → Mem → Prop} {p1 : Int} {p2 : Int} {p3 : Int} {s : Mem} (h : x8_set p1 p2 p3 s Q) (hQ : ∀ r s, Q r s → R r s) : x8_set p1 p2 p3 s R := fun X49 X105 k49 k105 => x8_set_me (fun _ _ _ _ _ _ _ h => h) (fun _ _ _ _ _ h => h) hQ (h X49 X105 (fun _ _ _ _ _ _ _ h => k49 _ _ _ _ _ _ _ (x8_set_m49 (fun _ _ _ _ _ _ _ h => h) (fun _ _ _ _ _ h => h) hQ h)) (fun _ _ _ _ _ h => k105 _ _ _ _ _ (x8_set_m105 (fun _ _ _ _ _ _ _ h => h) (fun _ _ _ _ _ h => h) hQ h)))
def x8_set_rm : Room := { frames := 2, cells := 0, slots := 0, locals := 46 }
theorem w_x8_set_95 : Cond.constantLong RX8 95 (3) ∈ wsX8_set := by decide +kernel
theorem w_x8_set_105 : Cond.constant RX8 105 (-100002) ∈ wsX8_set := by decide +kernel
theorem w_x8_set_111 : Cond.constantLong RX8 111 (200) ∈ wsX8_set := by decide +kernel
theorem w_x8_set_103 : Cond.constantLong RX8 103 (9) ∈ wsX8_set := by decide +kernel
theorem w_x8_set_110 : Cond.constant RX8 110 (-100001) ∈ wsX8_set := by decide +kernel
theorem w_x8_set_19 : Cond.fieldLink RX8 19 "BoltRingModel" "load" "[I" ∈ wsX8_set := by decide +kernel
theorem w_x8_set_16 : Cond.fieldLink RX8 16 "BoltRingModel" "turns" "[I" ∈ wsX8_set := by decide +kernel
theorem w_x8_set_13 : Cond.fieldLink RX8 13 "BoltRingModel" "pad" "[I" ∈ wsX8_set := by decide +kernel
theorem w_x8_set_7 : Cond.fieldLink RX8 7 "BoltRingModel" "stiff" "[I" ∈ wsX8_set := by decide +kernel
theorem in_x8_set_X8 : ∀ w ∈ wsX80, w ∈ wsX8_set := by decide +kernel
set_option maxHeartbeats 4000000 in
set_option maxRecDepth 100000 in
theorem x8_set_bd {κ : KT} {ad : Nat → Nat} {cA : Nat → ClassId} {D : va_G} {Q : State → Prop} {p1 : Int} {p2 : Int} {p3 : Int} {s : Mem} (C : CX κ (GB ad cA D) RX8 cX8_set 5 wsX8_set x8_set_rm (some .int)) (h : x8_set p1 p2 p3 s (RT κ (GB ad cA D) ocI Q)) : WM κ (GB ad cA D) 5 Q s 0 [(0, .ref (ad 0)), (1, vI p1), (2, vI p2), (3, vI p3)] [] := by
  obtain ⟨Z49, z49⟩ : ∃ Z : Int → Int → Int → Int → Int → Int → Mem → Prop, ∀ x1 x2 x3 t0 t1 t2 s, Z x1 x2 x3 t0 t1 t2 s ↔ WM κ (GB ad cA D) 5 Q s 49 [(0, .ref (ad 0)), (1, vI x1), (2, vI x2), (3, vI x3)] [vL t0, vL t1, vL t2] := ⟨fun x1 x2 x3 t0 t1 t2 s => WM κ (GB ad cA D) 5 Q s 49 [(0, .ref (ad 0)), (1, vI x1), (2, vI x2), (3, vI x3)] [vL t0, vL t1, vL t2], fun _ _ _ _ _ _ _ => Iff.rfl⟩
  obtain ⟨Z105, z105⟩ : ∃ Z : Int → Int → Int → Int → Mem → Prop, ∀ x1 x2 x3 t0 s, Z x1 x2 x3 t0 s ↔ WM κ (GB ad cA D) 5 Q s 105 [(0, .ref (ad 0)), (1, vI x1), (2, vI x2), (3, vI x3)] [vI t0] := ⟨fun x1 x2 x3 t0 s => WM κ (GB ad cA D) 5 Q s 105 [(0, .ref (ad 0)), (1, vI x1), (2, vI x2), (3, vI x3)] [vI t0], fun _ _ _ _ _ => Iff.rfl⟩
  refine (fun h => ?_) (h Z49 Z105 ?_ ?_)
  · refine r_aload_n C 0 dX8_set_0 rfl ?_
    refine r_iload_n C 1 dX8_set_1 rfl ?_
    refine r_callV (As := [vI p1]) (o := 0) (n := 1) C dX8_set_2 (x8_noBolt_ct κ.1.2.1 ad cA D p1 s) gX8_set_X8_noBolt rfl ⟨rfl, rfl⟩ (by decide +kernel) (by decide) (shB_0) rfl rfl rfl (Nat.le_of_ble_eq_true rfl) (fun _ => rfl) ?_
    refine x8_noBolt_mono h (fun r2 s1 h => ?_)
    refine r_if_eq (tgt := 11) C dX8_set_5 (by decide) ⟨h.1, fun c9 => ?_, fun c9 => ?_⟩
    · have h := h.2.1 c9
      refine r_iload_n C 2 dX8_set_11 rfl ?_
      refine r_i2l C dX8_set_12 ⟨h.1, ?_⟩
      have h := h.2
      refine r_lconst (z := 0) C dX8_set_13 rfl ?_
      refine r_ldc2 (z := 3) C dX8_set_14 w_x8_set_95 rfl ?_
      refine r_callS (As := [vL p2, vL (0 : Int), vL (3 : Int)]) (n := 3) C dX8_set_17 (x8_in_ct κ.1.2.1 ad cA D p2 (0 : Int) (3 : Int) s1) gX8_set_X8_in rfl ⟨rfl, rfl⟩ (by decide +kernel) (by decide) rfl rfl (Nat.le_of_ble_eq_true rfl) (fun _ => rfl) ?_
      refine x8_in_mono h (fun r4 s3 h => ?_)
      refine r_if_eq (tgt := 55) C dX8_set_20 (by decide) ⟨h.1, fun c8 => ?_, fun c8 => ?_⟩
      · have h := h.2.1 c8
        refine r_ldc (z := -100002) C dX8_set_55 w_x8_set_105 rfl ?_
        exact r_ireturn C dX8_set_57 h
      · have h := h.2.2 c8
        refine r_iload_n C 3 dX8_set_23 rfl ?_
        refine r_i2l C dX8_set_24 ⟨h.1, ?_⟩
        have h := h.2
        refine r_iload_n C 2 dX8_set_25 rfl ?_
        refine r_iconst C dX8_set_26 ?_
        refine r_icmp_ge (tgt := 34) C dX8_set_27 (by decide) ⟨h.1, fun c7 => ?_, fun c7 => ?_⟩
        · have h := h.2.1 c7
          refine r_lconst (z := 0) C dX8_set_34 rfl ?_
          refine r_iload_n C 2 dX8_set_35 rfl ?_
          refine r_iconst C dX8_set_36 ?_
          refine r_icmp_ge (tgt := 46) C dX8_set_37 (by decide) ⟨h.1, fun c5 => ?_, fun c5 => ?_⟩
          · have h := h.2.1 c5
            refine r_ldc2 (z := 200) C dX8_set_46 w_x8_set_111 rfl ?_
            exact r_perm [0, 1, 2, 3] rfl ((z49 _ _ _ _ _ _ _).1 h)
          · have h := h.2.2 c5
            refine r_ldc2 (z := 9) C dX8_set_40 w_x8_set_103 rfl ?_
            refine r_goto (tgt := 49) C dX8_set_43 (by decide) ?_
            exact r_perm [0, 1, 2, 3] rfl ((z49 _ _ _ _ _ _ _).1 h)
        · have h := h.2.2 c7
          refine r_lconst (z := 1) C dX8_set_30 rfl ?_
          refine r_goto (tgt := 35) C dX8_set_31 (by decide) ?_
          refine r_iload_n C 2 dX8_set_35 rfl ?_
          refine r_iconst C dX8_set_36 ?_
          refine r_icmp_ge (tgt := 46) C dX8_set_37 (by decide) ⟨h.1, fun c6 => ?_, fun c6 => ?_⟩
          · have h := h.2.1 c6
            refine r_ldc2 (z := 200) C dX8_set_46 w_x8_set_111 rfl ?_
            exact r_perm [0, 1, 2, 3] rfl ((z49 _ _ _ _ _ _ _).1 h)
          · have h := h.2.2 c6
            refine r_ldc2 (z := 9) C dX8_set_40 w_x8_set_103 rfl ?_
            refine r_goto (tgt := 49) C dX8_set_43 (by decide) ?_
            exact r_perm [0, 1, 2, 3] rfl ((z49 _ _ _ _ _ _ _).1 h)
    · have h := h.2.2 c9
      refine r_ldc (z := -100001) C dX8_set_8 w_x8_set_110 rfl ?_
      exact r_ireturn C dX8_set_10 h
  · intro x1 x2 x3 t0 t1 t2 s h
    refine (z49 _ _ _ _ _ _ _).2 ?_
    refine r_callS (As := [vL t2, vL t1, vL t0]) (n := 3) C dX8_set_49 (x8_in_ct κ.1.2.1 ad cA D t2 t1 t0 s) gX8_set_X8_in rfl ⟨rfl, rfl⟩ (by decide +kernel) (by decide) rfl rfl (Nat.le_of_ble_eq_true rfl) (fun _ => rfl) ?_
    refine x8_in_mono h (fun r11 s10 h => ?_)
    refine r_if_ne (tgt := 58) C dX8_set_52 (by decide) ⟨h.1, fun c15 => ?_, fun c15 => ?_⟩
    · have h := h.2.1 c15
      refine r_iload_n C 2 dX8_set_58 rfl ?_
      refine r_if_ne (tgt := 71) C dX8_set_59 (by decide) ⟨h.1, fun c14 => ?_, fun c14 => ?_⟩
      · have h := h.2.1 c14
        refine r_iload_n C 2 dX8_set_71 rfl ?_
        refine r_iconst C dX8_set_72 ?_
        refine r_icmp_ne (tgt := 85) C dX8_set_73 (by decide) ⟨h.1, fun c13 => ?_, fun c13 => ?_⟩
        · have h := h.2.1 c13
          refine r_iload_n C 2 dX8_set_85 rfl ?_
          refine r_iconst C dX8_set_86 ?_
          refine r_icmp_ne (tgt := 99) C dX8_set_87 (by decide) ⟨h.1, fun c12 => ?_, fun c12 => ?_⟩
          · have h := h.2.1 c12
            refine r_aload_n C 0 dX8_set_99 rfl ?_
            refine r_get (j := 5) (jz := 5) (v := .ref (ad 4)) C dX8_set_100 (shB_0) rfl rfl (by decide) in_x8_set_X8 w_x8_set_19 rfl rfl rfl ?_
            refine r_iload_n C 1 dX8_set_103 rfl ?_
            refine r_iald (nz := 6) C dX8_set_104 (shB_4) rfl (by decide) ⟨h.1, ?_⟩
            have h := h.2
            exact r_perm [0, 1, 2, 3] rfl ((z105 _ _ _ _ _).1 h)
          · have h := h.2.2 c12
            refine r_aload_n C 0 dX8_set_90 rfl ?_
            refine r_get (j := 4) (jz := 4) (v := .ref (ad 3)) C dX8_set_91 (shB_0) rfl rfl (by decide) in_x8_set_X8 w_x8_set_16 rfl rfl rfl ?_
            refine r_iload_n C 1 dX8_set_94 rfl ?_
            refine r_iald (nz := 6) C dX8_set_95 (shB_3) rfl (by decide) ⟨h.1, ?_⟩
            have h := h.2
            refine r_goto (tgt := 105) C dX8_set_96 (by decide) ?_
            exact r_perm [0, 1, 2, 3] rfl ((z105 _ _ _ _ _).1 h)
        · have h := h.2.2 c13
          refine r_aload_n C 0 dX8_set_76 rfl ?_
          refine r_get (j := 3) (jz := 3) (v := .ref (ad 2)) C dX8_set_77 (shB_0) rfl rfl (by decide) in_x8_set_X8 w_x8_set_13 rfl rfl rfl ?_
          refine r_iload_n C 1 dX8_set_80 rfl ?_
          refine r_iald (nz := 6) C dX8_set_81 (shB_2) rfl (by decide) ⟨h.1, ?_⟩
          have h := h.2
          refine r_goto (tgt := 105) C dX8_set_82 (by decide) ?_
          exact r_perm [0, 1, 2, 3] rfl ((z105 _ _ _ _ _).1 h)
      · have h := h.2.2 c14
        refine r_aload_n C 0 dX8_set_62 rfl ?_
        refine r_get (j := 2) (jz := 2) (v := .ref (ad 1)) C dX8_set_63 (shB_0) rfl rfl (by decide) in_x8_set_X8 w_x8_set_7 rfl rfl rfl ?_
        refine r_iload_n C 1 dX8_set_66 rfl ?_
        refine r_iald (nz := 6) C dX8_set_67 (shB_1) rfl (by decide) ⟨h.1, ?_⟩
        have h := h.2
        refine r_goto (tgt := 105) C dX8_set_68 (by decide) ?_
        exact r_perm [0, 1, 2, 3] rfl ((z105 _ _ _ _ _).1 h)
    · have h := h.2.2 c15
      refine r_ldc (z := -100002) C dX8_set_55 w_x8_set_105 rfl ?_
      exact r_ireturn C dX8_set_57 h
  · intro x1 x2 x3 t0 s h
    refine (z105 _ _ _ _ _).2 ?_
    refine r_istore (ls' := [(4, vI t0), (0, .ref (ad 0)), (1, vI x1), (2, vI x2), (3, vI x3)]) C dX8_set_105 (by decide) rfl ?_
    refine r_iload_n C 3 dX8_set_107 rfl ?_
    refine r_if_ne (tgt := 121) C dX8_set_108 (by decide) ⟨h.1, fun c22 => ?_, fun c22 => ?_⟩
    · have h := h.2.1 c22
      refine r_iload_n C 3 dX8_set_121 rfl ?_
      refine r_iconst C dX8_set_122 ?_
      refine r_icmp_ne (tgt := 136) C dX8_set_123 (by decide) ⟨h.1, fun c20 => ?_, fun c20 => ?_⟩
      · have h := h.2.1 c20
        refine r_iload_n C 3 dX8_set_136 rfl ?_
        refine r_iconst C dX8_set_137 ?_
        refine r_icmp_ne (tgt := 151) C dX8_set_138 (by decide) ⟨h.1, fun c18 => ?_, fun c18 => ?_⟩
        · have h := h.2.1 c18
          refine r_aload_n C 1 dX8_set_151 rfl ?_
          refine r_get (j := 5) (jz := 5) (v := .ref (ad 4)) C dX8_set_152 (shB_0) rfl rfl (by decide) in_x8_set_X8 w_x8_set_19 rfl rfl rfl ?_
          refine r_iload_n C 2 dX8_set_155 rfl ?_
          refine r_iload_n C 4 dX8_set_156 rfl ?_
          refine r_iast (nz := 6) C dX8_set_157 (shB_4) rfl (by decide) ⟨h.1, fun s16 e_s16 => ?_⟩
          have h := h.2 s16 e_s16
          refine r_iload C 0 dX8_set_158 rfl ?_
          exact r_ireturn C dX8_set_160 h
        · have h := h.2.2 c18
          refine r_aload_n C 1 dX8_set_141 rfl ?_
          refine r_get (j := 4) (jz := 4) (v := .ref (ad 3)) C dX8_set_142 (shB_0) rfl rfl (by decide) in_x8_set_X8 w_x8_set_16 rfl rfl rfl ?_
          refine r_iload_n C 2 dX8_set_145 rfl ?_
          refine r_iload_n C 4 dX8_set_146 rfl ?_
          refine r_iast (nz := 6) C dX8_set_147 (shB_3) rfl (by decide) ⟨h.1, fun s17 e_s17 => ?_⟩
          have h := h.2 s17 e_s17
          refine r_goto (tgt := 158) C dX8_set_148 (by decide) ?_
          refine r_iload C 0 dX8_set_158 rfl ?_
          exact r_ireturn C dX8_set_160 h
      · have h := h.2.2 c20
        refine r_aload_n C 1 dX8_set_126 rfl ?_
        refine r_get (j := 3) (jz := 3) (v := .ref (ad 2)) C dX8_set_127 (shB_0) rfl rfl (by decide) in_x8_set_X8 w_x8_set_13 rfl rfl rfl ?_
        refine r_iload_n C 2 dX8_set_130 rfl ?_
        refine r_iload_n C 4 dX8_set_131 rfl ?_
        refine r_iast (nz := 6) C dX8_set_132 (shB_2) rfl (by decide) ⟨h.1, fun s19 e_s19 => ?_⟩
        have h := h.2 s19 e_s19
        refine r_goto (tgt := 158) C dX8_set_133 (by decide) ?_
        refine r_iload C 0 dX8_set_158 rfl ?_
        exact r_ireturn C dX8_set_160 h
    · have h := h.2.2 c22
      refine r_aload_n C 1 dX8_set_111 rfl ?_
      refine r_get (j := 2) (jz := 2) (v := .ref (ad 1)) C dX8_set_112 (shB_0) rfl rfl (by decide) in_x8_set_X8 w_x8_set_7 rfl rfl rfl ?_
      refine r_iload_n C 2 dX8_set_115 rfl ?_
      refine r_iload_n C 4 dX8_set_116 rfl ?_
      refine r_iast (nz := 6) C dX8_set_117 (shB_1) rfl (by decide) ⟨h.1, fun s21 e_s21 => ?_⟩
      have h := h.2 s21 e_s21
      refine r_goto (tgt := 158) C dX8_set_118 (by decide) ?_
      refine r_iload C 0 dX8_set_158 rfl ?_
      exact r_ireturn C dX8_set_160 h
theorem x8_set_ct (l : Launch) (ad : Nat → Nat) (cA : Nat → ClassId) (D : va_G) (p1 : Int) (p2 : Int) (p3 : Int) (s : Mem) : MG l yX8_set wsX8_set x8_set_rm ocI [.ref (ad 0), vI p1, vI p2, vI p3] (GB ad cA D) s (x8_set p1 p2 p3 s) :=
  m_met (own := RX8) (nL := 5) (by decide) rfl rfl (Nat.le_of_ble_eq_true rfl) rfl rfl rfl (fun κ hl C Q Pst hW hQ => x8_set_bd C (x8_set_mono hW hQ))

def x8_whole_be (X4 : Int → Int → Mem → Prop) (Q : Int → Mem → Prop)  (s : Mem) : Prop :=
  X4 (0 : Int) (0 : Int) s
def x8_whole_b4 (X4 : Int → Int → Mem → Prop) (Q : Int → Mem → Prop) (x1 : Int) (x2 : Int) (s : Mem) : Prop :=
  (InI x2 ∧ InI (s 0 (0 : Int))) ∧ ((s 0 (0 : Int)) ≤ x2 → Q x1 s) ∧ (x2 < (s 0 (0 : Int)) → ((0 : Int) ≤ x2 ∧ x2 < 6) ∧ InI (s 5 x2) ∧ (¬ (s 5 x2) = (0 : Int) → x8_bit (0 : Int) s (fun r2 s1 => X4 (x1 + r2) (x2 + (1 : Int)) s1)) ∧ ((s 5 x2) = (0 : Int) → x8_bit (1 : Int) s (fun r4 s3 => X4 (x1 + r4) (x2 + (1 : Int)) s3)))
theorem x8_whole_me {X4 Y4 : Int → Int → Mem → Prop} {Q R : Int → Mem → Prop} (hX4 : ∀ x1 x2 s, X4 x1 x2 s → Y4 x1 x2 s) (hQ : ∀ r s, Q r s → R r s)  {s : Mem} (h : x8_whole_be X4 Q  s) : x8_whole_be Y4 R  s :=
  hX4 _ _ _ h
theorem x8_whole_m4 {X4 Y4 : Int → Int → Mem → Prop} {Q R : Int → Mem → Prop} (hX4 : ∀ x1 x2 s, X4 x1 x2 s → Y4 x1 x2 s) (hQ : ∀ r s, Q r s → R r s) {x1 : Int} {x2 : Int} {s : Mem} (h : x8_whole_b4 X4 Q x1 x2 s) : x8_whole_b4 Y4 R x1 x2 s :=
  ⟨h.1, fun c => have h := h.2.1 c; hQ _ _ h, fun c => have h := h.2.2 c; ⟨h.1, have h := h.2; ⟨h.1, fun c => have h := h.2.1 c; x8_bit_mono h (fun r2 s1 h => hX4 _ _ _ h), fun c => have h := h.2.2 c; x8_bit_mono h (fun r4 s3 h => hX4 _ _ _ h)⟩⟩⟩
def x8_whole  (s : Mem) (Q : Int → Mem → Prop) : Prop := ∀ (X4 : Int → Int → Mem → Prop), (∀ x1 x2 s, x8_whole_b4 X4 Q x1 x2 s → X4 x1 x2 s) → x8_whole_be X4 Q  s
def x8_whole_L4 (Q : Int → Mem → Prop) (x1 : Int) (x2 : Int) (s : Mem) : Prop := ∀ (X4 : Int → Int → Mem → Prop), (∀ x1 x2 s, x8_whole_b4 X4 Q x1 x2 s → X4 x1 x2 s) → X4 x1 x2 s
theorem x8_whole_i {Q : Int → Mem → Prop}  {s : Mem} (h : x8_whole_be (x8_whole_L4 Q) Q  s) : x8_whole  s Q := fun X4 k4 => x8_whole_me (fun _ _ _ h => h X4 k4) (fun _ _ h => h) h
theorem x8_whole_s4 {Q : Int → Mem → Prop} {x1 : Int} {x2 : Int} {s : Mem} (h : x8_whole_b4 (x8_whole_L4 Q) Q x1 x2 s) : x8_whole_L4 Q x1 x2 s := fun X4 k4 => k4 _ _ _ (x8_whole_m4 (fun _ _ _ h => h X4 k4) (fun _ _ h => h) h)
theorem x8_whole_mono {Q R : Int → Mem → Prop}  {s : Mem} (h : x8_whole  s Q) (hQ : ∀ r s, Q r s → R r s) : x8_whole  s R := fun X4 k4 => x8_whole_me (fun _ _ _ h => h) hQ (h X4 (fun _ _ _ h => k4 _ _ _ (x8_whole_m4 (fun _ _ _ h => h) hQ h)))
def x8_whole_rm : Room := { frames := 1, cells := 0, slots := 0, locals := 20 }
theorem w_x8_whole_86 : Cond.fieldLink RX8 86 "BoltRingModel" "n" "I" ∈ wsX8_whole := by decide +kernel
theorem w_x8_whole_22 : Cond.fieldLink RX8 22 "BoltRingModel" "isBroken" "[Z" ∈ wsX8_whole := by decide +kernel
theorem in_x8_whole_X8 : ∀ w ∈ wsX80, w ∈ wsX8_whole := by decide +kernel
set_option maxHeartbeats 4000000 in
set_option maxRecDepth 100000 in
theorem x8_whole_bd {κ : KT} {ad : Nat → Nat} {cA : Nat → ClassId} {D : va_G} {Q : State → Prop}  {s : Mem} (C : CX κ (GB ad cA D) RX8 cX8_whole 3 wsX8_whole x8_whole_rm (some .int)) (h : x8_whole  s (RT κ (GB ad cA D) ocI Q)) : WM κ (GB ad cA D) 3 Q s 0 [(0, .ref (ad 0))] [] := by
  obtain ⟨Z4, z4⟩ : ∃ Z : Int → Int → Mem → Prop, ∀ x1 x2 s, Z x1 x2 s ↔ WM κ (GB ad cA D) 3 Q s 4 [(0, .ref (ad 0)), (1, vI x1), (2, vI x2)] [] := ⟨fun x1 x2 s => WM κ (GB ad cA D) 3 Q s 4 [(0, .ref (ad 0)), (1, vI x1), (2, vI x2)] [], fun _ _ _ => Iff.rfl⟩
  refine (fun h => ?_) (h Z4 ?_)
  · refine r_iconst C dX8_whole_0 ?_
    refine r_istore_n (ls' := [(1, vI (0 : Int)), (0, .ref (ad 0))]) C dX8_whole_1 rfl (by decide) rfl ?_
    refine r_iconst C dX8_whole_2 ?_
    refine r_istore_n (ls' := [(2, vI (0 : Int)), (1, vI (0 : Int)), (0, .ref (ad 0))]) C dX8_whole_3 rfl (by decide) rfl ?_
    exact r_perm [2, 1, 0] rfl ((z4 _ _ _).1 h)
  · intro x1 x2 s h
    refine (z4 _ _ _).2 ?_
    refine r_iload_n C 2 dX8_whole_4 rfl ?_
    refine r_aload_n C 0 dX8_whole_5 rfl ?_
    refine r_get (j := 0) (jz := 0) (v := vI (s 0 (0 : Int))) C dX8_whole_6 (shB_0) rfl rfl (by decide) in_x8_whole_X8 w_x8_whole_86 rfl rfl rfl ?_
    refine r_icmp_ge (tgt := 38) C dX8_whole_9 (by decide) ⟨h.1, fun c6 => ?_, fun c6 => ?_⟩
    · have h := h.2.1 c6
      refine r_iload_n C 1 dX8_whole_38 rfl ?_
      exact r_ireturn C dX8_whole_39 h
    · have h := h.2.2 c6
      refine r_iload_n C 1 dX8_whole_12 rfl ?_
      refine r_aload_n C 0 dX8_whole_13 rfl ?_
      refine r_get (j := 6) (jz := 6) (v := .ref (ad 5)) C dX8_whole_14 (shB_0) rfl rfl (by decide) in_x8_whole_X8 w_x8_whole_22 rfl rfl rfl ?_
      refine r_iload_n C 2 dX8_whole_17 rfl ?_
      refine r_zald (nz := 6) C dX8_whole_18 (shB_5) rfl (by decide) ⟨h.1, ?_⟩
      have h := h.2
      refine r_if_ne (tgt := 26) C dX8_whole_19 (by decide) ⟨h.1, fun c5 => ?_, fun c5 => ?_⟩
      · have h := h.2.1 c5
        refine r_iconst C dX8_whole_26 ?_
        refine r_callS (As := [vI (0 : Int)]) (n := 1) C dX8_whole_27 (x8_bit_ct κ.1.2.1 ad cA D (0 : Int) s) gX8_whole_X8_bit rfl ⟨rfl, rfl⟩ (by decide +kernel) (by decide) rfl rfl (Nat.le_of_ble_eq_true rfl) (fun _ => rfl) ?_
        refine x8_bit_mono h (fun r2 s1 h => ?_)
        refine r_iadd C dX8_whole_30 ?_
        refine r_istore_n (ls' := [(1, vI (x1 + r2)), (0, .ref (ad 0)), (2, vI x2)]) C dX8_whole_31 rfl (by decide) rfl ?_
        refine r_iinc (j := 2) (ls' := [(2, vI (x2 + (1 : Int))), (1, vI (x1 + r2)), (0, .ref (ad 0))]) C dX8_whole_32 rfl (by decide) rfl ?_
        refine r_goto (tgt := 4) C dX8_whole_35 (by decide) ?_
        exact r_perm [2, 1, 0] rfl ((z4 _ _ _).1 h)
      · have h := h.2.2 c5
        refine r_iconst C dX8_whole_22 ?_
        refine r_goto (tgt := 27) C dX8_whole_23 (by decide) ?_
        refine r_callS (As := [vI (1 : Int)]) (n := 1) C dX8_whole_27 (x8_bit_ct κ.1.2.1 ad cA D (1 : Int) s) gX8_whole_X8_bit rfl ⟨rfl, rfl⟩ (by decide +kernel) (by decide) rfl rfl (Nat.le_of_ble_eq_true rfl) (fun _ => rfl) ?_
        refine x8_bit_mono h (fun r4 s3 h => ?_)
        refine r_iadd C dX8_whole_30 ?_
        refine r_istore_n (ls' := [(1, vI (x1 + r4)), (0, .ref (ad 0)), (2, vI x2)]) C dX8_whole_31 rfl (by decide) rfl ?_
        refine r_iinc (j := 2) (ls' := [(2, vI (x2 + (1 : Int))), (1, vI (x1 + r4)), (0, .ref (ad 0))]) C dX8_whole_32 rfl (by decide) rfl ?_
        refine r_goto (tgt := 4) C dX8_whole_35 (by decide) ?_
        exact r_perm [2, 1, 0] rfl ((z4 _ _ _).1 h)
theorem x8_whole_ct (l : Launch) (ad : Nat → Nat) (cA : Nat → ClassId) (D : va_G)  (s : Mem) : MG l yX8_whole wsX8_whole x8_whole_rm ocI [.ref (ad 0)] (GB ad cA D) s (x8_whole  s) :=
  m_met (own := RX8) (nL := 3) (by decide) rfl rfl (Nat.le_of_ble_eq_true rfl) rfl rfl rfl (fun κ hl C Q Pst hW hQ => x8_whole_bd C (x8_whole_mono hW hQ))

def x8_broken_be (X35 : Int → Int → Mem → Prop) (Q : Int → Mem → Prop) (p1 : Int) (p2 : Int) (s : Mem) : Prop :=
  x8_noBolt p1 s (fun r2 s1 => InI r2 ∧ (r2 = (0 : Int) → InI p2 ∧ (p2 = (0 : Int) → X35 p1 p2 s1) ∧ (¬ p2 = (0 : Int) → ((0 : Int) ≤ p1 ∧ p1 < 6) ∧ InI (s1 5 p1) ∧ (¬ (s1 5 p1) = (0 : Int) → X35 p1 p2 s1) ∧ ((s1 5 p1) = (0 : Int) → x8_whole s1 (fun r4 s3 => (InI r4 ∧ InI (1 : Int)) ∧ (¬ r4 = (1 : Int) → X35 p1 p2 s3) ∧ (r4 = (1 : Int) → Q (-100003 : Int) s3))))) ∧ (¬ r2 = (0 : Int) → Q (-100001 : Int) s1))
def x8_broken_b35 (X35 : Int → Int → Mem → Prop) (Q : Int → Mem → Prop) (x1 : Int) (x2 : Int) (s : Mem) : Prop :=
  ((0 : Int) ≤ x1 ∧ x1 < 6) ∧ x8_bit (s 5 x1) s (fun r10 s9 => (((0 : Int) ≤ x1 ∧ x1 < 6) ∧ (0 : Int) ≤ x2 ∧ x2 ≤ 1) ∧ ∀ s11 : Mem, s11 = m_upd s9 5 x1 x2 → Q r10 s11)
theorem x8_broken_me {X35 Y35 : Int → Int → Mem → Prop} {Q R : Int → Mem → Prop} (hX35 : ∀ x1 x2 s, X35 x1 x2 s → Y35 x1 x2 s) (hQ : ∀ r s, Q r s → R r s) {p1 : Int} {p2 : Int} {s : Mem} (h : x8_broken_be X35 Q p1 p2 s) : x8_broken_be Y35 R p1 p2 s :=
  x8_noBolt_mono h (fun r2 s1 h => ⟨h.1, fun c => have h := h.2.1 c; ⟨h.1, fun c => have h := h.2.1 c; hX35 _ _ _ h, fun c => have h := h.2.2 c; ⟨h.1, have h := h.2; ⟨h.1, fun c => have h := h.2.1 c; hX35 _ _ _ h, fun c => have h := h.2.2 c; x8_whole_mono h (fun r4 s3 h => ⟨h.1, fun c => have h := h.2.1 c; hX35 _ _ _ h, fun c => have h := h.2.2 c; hQ _ _ h⟩)⟩⟩⟩, fun c => have h := h.2.2 c; hQ _ _ h⟩)
theorem x8_broken_m35 {X35 Y35 : Int → Int → Mem → Prop} {Q R : Int → Mem → Prop} (hX35 : ∀ x1 x2 s, X35 x1 x2 s → Y35 x1 x2 s) (hQ : ∀ r s, Q r s → R r s) {x1 : Int} {x2 : Int} {s : Mem} (h : x8_broken_b35 X35 Q x1 x2 s) : x8_broken_b35 Y35 R x1 x2 s :=
  ⟨h.1, have h := h.2; x8_bit_mono h (fun r10 s9 h => ⟨h.1, have h := h.2; fun s11 e_s11 => have h := h s11 e_s11; hQ _ _ h⟩)⟩
def x8_broken (p1 : Int) (p2 : Int) (s : Mem) (Q : Int → Mem → Prop) : Prop := ∀ (X35 : Int → Int → Mem → Prop), (∀ x1 x2 s, x8_broken_b35 X35 Q x1 x2 s → X35 x1 x2 s) → x8_broken_be X35 Q p1 p2 s
def x8_broken_L35 (Q : Int → Mem → Prop) (x1 : Int) (x2 : Int) (s : Mem) : Prop := ∀ (X35 : Int → Int → Mem → Prop), (∀ x1 x2 s, x8_broken_b35 X35 Q x1 x2 s → X35 x1 x2 s) → X35 x1 x2 s
theorem x8_broken_i {Q : Int → Mem → Prop} {p1 : Int} {p2 : Int} {s : Mem} (h : x8_broken_be (x8_broken_L35 Q) Q p1 p2 s) : x8_broken p1 p2 s Q := fun X35 k35 => x8_broken_me (fun _ _ _ h => h X35 k35) (fun _ _ h => h) h
theorem x8_broken_s35 {Q : Int → Mem → Prop} {x1 : Int} {x2 : Int} {s : Mem} (h : x8_broken_b35 (x8_broken_L35 Q) Q x1 x2 s) : x8_broken_L35 Q x1 x2 s := fun X35 k35 => k35 _ _ _ (x8_broken_m35 (fun _ _ _ h => h X35 k35) (fun _ _ h => h) h)
theorem x8_broken_mono {Q R : Int → Mem → Prop} {p1 : Int} {p2 : Int} {s : Mem} (h : x8_broken p1 p2 s Q) (hQ : ∀ r s, Q r s → R r s) : x8_broken p1 p2 s R := fun X35 k35 => x8_broken_me (fun _ _ _ h => h) hQ (h X35 (fun _ _ _ h => k35 _ _ _ (x8_broken_m35 (fun _ _ _ h => h) hQ h)))
def x8_broken_rm : Room := { frames := 2, cells := 0, slots := 0, locals := 46 }
theorem w_x8_broken_22 : Cond.fieldLink RX8 22 "BoltRingModel" "isBroken" "[Z" ∈ wsX8_broken := by decide +kernel
theorem w_x8_broken_121 : Cond.constant RX8 121 (-100003) ∈ wsX8_broken := by decide +kernel
theorem w_x8_broken_110 : Cond.constant RX8 110 (-100001) ∈ wsX8_broken := by decide +kernel
theorem in_x8_broken_X8 : ∀ w ∈ wsX80, w ∈ wsX8_broken := by decide +kernel
set_option maxHeartbeats 4000000 in
set_option maxRecDepth 100000 in
theorem x8_broken_bd {κ : KT} {ad : Nat → Nat} {cA : Nat → ClassId} {D : va_G} {Q : State → Prop} {p1 : Int} {p2 : Int} {s : Mem} (C : CX κ (GB ad cA D) RX8 cX8_broken 4 wsX8_broken x8_broken_rm (some .int)) (h : x8_broken p1 p2 s (RT κ (GB ad cA D) ocI Q)) : WM κ (GB ad cA D) 4 Q s 0 [(0, .ref (ad 0)), (1, vI p1), (2, vI p2)] [] := by
  obtain ⟨Z35, z35⟩ : ∃ Z : Int → Int → Mem → Prop, ∀ x1 x2 s, Z x1 x2 s ↔ WM κ (GB ad cA D) 4 Q s 35 [(0, .ref (ad 0)), (1, vI x1), (2, vI x2)] [] := ⟨fun x1 x2 s => WM κ (GB ad cA D) 4 Q s 35 [(0, .ref (ad 0)), (1, vI x1), (2, vI x2)] [], fun _ _ _ => Iff.rfl⟩
  refine (fun h => ?_) (h Z35 ?_)
  · refine r_aload_n C 0 dX8_broken_0 rfl ?_
    refine r_iload_n C 1 dX8_broken_1 rfl ?_
    refine r_callV (As := [vI p1]) (o := 0) (n := 1) C dX8_broken_2 (x8_noBolt_ct κ.1.2.1 ad cA D p1 s) gX8_broken_X8_noBolt rfl ⟨rfl, rfl⟩ (by decide +kernel) (by decide) (shB_0) rfl rfl rfl (Nat.le_of_ble_eq_true rfl) (fun _ => rfl) ?_
    refine x8_noBolt_mono h (fun r2 s1 h => ?_)
    refine r_if_eq (tgt := 11) C dX8_broken_5 (by decide) ⟨h.1, fun c8 => ?_, fun c8 => ?_⟩
    · have h := h.2.1 c8
      refine r_iload_n C 2 dX8_broken_11 rfl ?_
      refine r_if_eq (tgt := 35) C dX8_broken_12 (by decide) ⟨h.1, fun c7 => ?_, fun c7 => ?_⟩
      · have h := h.2.1 c7
        exact r_perm [0, 1, 2] rfl ((z35 _ _ _).1 h)
      · have h := h.2.2 c7
        refine r_aload_n C 0 dX8_broken_15 rfl ?_
        refine r_get (j := 6) (jz := 6) (v := .ref (ad 5)) C dX8_broken_16 (shB_0) rfl rfl (by decide) in_x8_broken_X8 w_x8_broken_22 rfl rfl rfl ?_
        refine r_iload_n C 1 dX8_broken_19 rfl ?_
        refine r_zald (nz := 6) C dX8_broken_20 (shB_5) rfl (by decide) ⟨h.1, ?_⟩
        have h := h.2
        refine r_if_ne (tgt := 35) C dX8_broken_21 (by decide) ⟨h.1, fun c6 => ?_, fun c6 => ?_⟩
        · have h := h.2.1 c6
          exact r_perm [0, 1, 2] rfl ((z35 _ _ _).1 h)
        · have h := h.2.2 c6
          refine r_aload_n C 0 dX8_broken_24 rfl ?_
          refine r_callV (As := []) (o := 0) (n := 0) C dX8_broken_25 (x8_whole_ct κ.1.2.1 ad cA D s1) gX8_broken_X8_whole rfl ⟨rfl, rfl⟩ (by decide +kernel) (by decide) (shB_0) rfl rfl rfl (Nat.le_of_ble_eq_true rfl) (fun _ => rfl) ?_
          refine x8_whole_mono h (fun r4 s3 h => ?_)
          refine r_iconst C dX8_broken_28 ?_
          refine r_icmp_ne (tgt := 35) C dX8_broken_29 (by decide) ⟨h.1, fun c5 => ?_, fun c5 => ?_⟩
          · have h := h.2.1 c5
            exact r_perm [0, 1, 2] rfl ((z35 _ _ _).1 h)
          · have h := h.2.2 c5
            refine r_ldc (z := -100003) C dX8_broken_32 w_x8_broken_121 rfl ?_
            exact r_ireturn C dX8_broken_34 h
    · have h := h.2.2 c8
      refine r_ldc (z := -100001) C dX8_broken_8 w_x8_broken_110 rfl ?_
      exact r_ireturn C dX8_broken_10 h
  · intro x1 x2 s h
    refine (z35 _ _ _).2 ?_
    refine r_aload_n C 0 dX8_broken_35 rfl ?_
    refine r_get (j := 6) (jz := 6) (v := .ref (ad 5)) C dX8_broken_36 (shB_0) rfl rfl (by decide) in_x8_broken_X8 w_x8_broken_22 rfl rfl rfl ?_
    refine r_iload_n C 1 dX8_broken_39 rfl ?_
    refine r_zald (nz := 6) C dX8_broken_40 (shB_5) rfl (by decide) ⟨h.1, ?_⟩
    have h := h.2
    refine r_callS (As := [vI (s 5 x1)]) (n := 1) C dX8_broken_41 (x8_bit_ct κ.1.2.1 ad cA D (s 5 x1) s) gX8_broken_X8_bit rfl ⟨rfl, rfl⟩ (by decide +kernel) (by decide) rfl rfl (Nat.le_of_ble_eq_true rfl) (fun _ => rfl) ?_
    refine x8_bit_mono h (fun r10 s9 h => ?_)
    refine r_istore_n (ls' := [(3, vI r10), (0, .ref (ad 0)), (1, vI x1), (2, vI x2)]) C dX8_broken_44 rfl (by decide) rfl ?_
    refine r_aload_n C 1 dX8_broken_45 rfl ?_
    refine r_get (j := 6) (jz := 6) (v := .ref (ad 5)) C dX8_broken_46 (shB_0) rfl rfl (by decide) in_x8_broken_X8 w_x8_broken_22 rfl rfl rfl ?_
    refine r_iload_n C 2 dX8_broken_49 rfl ?_
    refine r_iload_n C 3 dX8_broken_50 rfl ?_
    refine r_zast (nz := 6) C dX8_broken_51 (shB_5) rfl (by decide) ⟨h.1, fun s11 e_s11 => ?_⟩
    have h := h.2 s11 e_s11
    refine r_iload_n C 0 dX8_broken_52 rfl ?_
    exact r_ireturn C dX8_broken_53 h
theorem x8_broken_ct (l : Launch) (ad : Nat → Nat) (cA : Nat → ClassId) (D : va_G) (p1 : Int) (p2 : Int) (s : Mem) : MG l yX8_broken wsX8_broken x8_broken_rm ocI [.ref (ad 0), vI p1, vI p2] (GB ad cA D) s (x8_broken p1 p2 s) :=
  m_met (own := RX8) (nL := 4) (by decide) rfl rfl (Nat.le_of_ble_eq_true rfl) rfl rfl rfl (fun κ hl C Q Pst hW hQ => x8_broken_bd C (x8_broken_mono hW hQ))

def x8_layTable_be (X2 : Int → Mem → Prop) (X12 : Int → Int → Mem → Prop) (X62 : Int → Int → Mem → Prop) (X77 : Int → Int → Int → Mem → Prop) (X111 : Int → Int → Int → Int → Int → Int → Mem → Prop) (X127 : Int → Int → Int → Int → Int → Mem → Prop) (X147 : Int → Int → Int → Mem → Prop) (X165 : Int → Int → Int → Int → Mem → Prop) (X243 : Int → Int → Int → Mem → Prop) (Q : Int → Mem → Prop)  (s : Mem) : Prop :=
  X2 (0 : Int) s
def x8_layTable_b2 (X2 : Int → Mem → Prop) (X12 : Int → Int → Mem → Prop) (X62 : Int → Int → Mem → Prop) (X77 : Int → Int → Int → Mem → Prop) (X111 : Int → Int → Int → Int → Int → Int → Mem → Prop) (X127 : Int → Int → Int → Int → Int → Mem → Prop) (X147 : Int → Int → Int → Mem → Prop) (X165 : Int → Int → Int → Int → Mem → Prop) (X243 : Int → Int → Int → Mem → Prop) (Q : Int → Mem → Prop) (x1 : Int) (s : Mem) : Prop :=
  (InI x1 ∧ InI (s 0 (0 : Int))) ∧ ((s 0 (0 : Int)) ≤ x1 → Q (0 : Int) s) ∧ (x1 < (s 0 (0 : Int)) → X12 x1 (0 : Int) s)
def x8_layTable_b12 (X2 : Int → Mem → Prop) (X12 : Int → Int → Mem → Prop) (X62 : Int → Int → Mem → Prop) (X77 : Int → Int → Int → Mem → Prop) (X111 : Int → Int → Int → Int → Int → Int → Mem → Prop) (X127 : Int → Int → Int → Int → Int → Mem → Prop) (X147 : Int → Int → Int → Mem → Prop) (X165 : Int → Int → Int → Int → Mem → Prop) (X243 : Int → Int → Int → Mem → Prop) (Q : Int → Mem → Prop) (x1 : Int) (x2 : Int) (s : Mem) : Prop :=
  (InI x2 ∧ InI (s 0 (0 : Int))) ∧ ((s 0 (0 : Int)) < x2 → ((0 : Int) ≤ x1 ∧ x1 < 6) ∧ (InI (s 14 x1) ∧ InI (2 : Int)) ∧ ((2 : Int) ≤ (s 14 x1) → X62 x1 (0 : Int) s) ∧ ((s 14 x1) < (2 : Int) → ((0 : Int) ≤ x1 ∧ x1 < 6) ∧ InI (s 5 x1) ∧ (¬ (s 5 x1) = (0 : Int) → X62 x1 (0 : Int) s) ∧ ((s 5 x1) = (0 : Int) → X62 x1 (1 : Int) s))) ∧ (x2 ≤ (s 0 (0 : Int)) → ((0 : Int) ≤ (((7 : Int) * x1) + x2) ∧ (((7 : Int) * x1) + x2) < 42) ∧ ∀ s4 : Mem, s4 = m_upd s 13 (((7 : Int) * x1) + x2) (0 : Int) → X12 x1 (x2 + (1 : Int)) s4)
def x8_layTable_b62 (X2 : Int → Mem → Prop) (X12 : Int → Int → Mem → Prop) (X62 : Int → Int → Mem → Prop) (X77 : Int → Int → Int → Mem → Prop) (X111 : Int → Int → Int → Int → Int → Int → Mem → Prop) (X127 : Int → Int → Int → Int → Int → Mem → Prop) (X147 : Int → Int → Int → Mem → Prop) (X165 : Int → Int → Int → Int → Mem → Prop) (X243 : Int → Int → Int → Mem → Prop) (Q : Int → Mem → Prop) (x1 : Int) (t0 : Int) (s : Mem) : Prop :=
  ((0 : Int) ≤ x1 ∧ x1 < 6) ∧ InI (s 14 x1) ∧ ((s 14 x1) ≤ (0 : Int) → X77 x1 t0 (0 : Int) s) ∧ ((0 : Int) < (s 14 x1) → X77 x1 t0 (1 : Int) s)
def x8_layTable_b77 (X2 : Int → Mem → Prop) (X12 : Int → Int → Mem → Prop) (X62 : Int → Int → Mem → Prop) (X77 : Int → Int → Int → Mem → Prop) (X111 : Int → Int → Int → Int → Int → Int → Mem → Prop) (X127 : Int → Int → Int → Int → Int → Mem → Prop) (X147 : Int → Int → Int → Mem → Prop) (X165 : Int → Int → Int → Int → Mem → Prop) (X243 : Int → Int → Int → Mem → Prop) (Q : Int → Mem → Prop) (x1 : Int) (x2 : Int) (t0 : Int) (s : Mem) : Prop :=
  (InI (s 0 (1 : Int))) ∧ InI x2 ∧ (x2 = (0 : Int) → X111 x1 x2 t0 (0 : Int) ((2 : Int) * (s 0 (1 : Int))) (((7 : Int) * x1) + x1) s) ∧ (¬ x2 = (0 : Int) → ((0 : Int) ≤ x1 ∧ x1 < 6) ∧ X111 x1 x2 t0 (s 1 x1) ((2 : Int) * (s 0 (1 : Int))) (((7 : Int) * x1) + x1) s)
def x8_layTable_b111 (X2 : Int → Mem → Prop) (X12 : Int → Int → Mem → Prop) (X62 : Int → Int → Mem → Prop) (X77 : Int → Int → Int → Mem → Prop) (X111 : Int → Int → Int → Int → Int → Int → Mem → Prop) (X127 : Int → Int → Int → Int → Int → Mem → Prop) (X147 : Int → Int → Int → Mem → Prop) (X165 : Int → Int → Int → Int → Mem → Prop) (X243 : Int → Int → Int → Mem → Prop) (Q : Int → Mem → Prop) (x1 : Int) (x2 : Int) (x3 : Int) (t0 : Int) (t1 : Int) (t2 : Int) (s : Mem) : Prop :=
  (InI t0) ∧ InI x3 ∧ (x3 = (0 : Int) → X127 x1 x2 (0 : Int) (t1 + t0) t2 s) ∧ (¬ x3 = (0 : Int) → ((0 : Int) ≤ x1 ∧ x1 < 6) ∧ X127 x1 x2 (s 2 x1) (t1 + t0) t2 s)
def x8_layTable_b127 (X2 : Int → Mem → Prop) (X12 : Int → Int → Mem → Prop) (X62 : Int → Int → Mem → Prop) (X77 : Int → Int → Int → Mem → Prop) (X111 : Int → Int → Int → Int → Int → Int → Mem → Prop) (X127 : Int → Int → Int → Int → Int → Mem → Prop) (X147 : Int → Int → Int → Mem → Prop) (X165 : Int → Int → Int → Int → Mem → Prop) (X243 : Int → Int → Int → Mem → Prop) (Q : Int → Mem → Prop) (x1 : Int) (x2 : Int) (t0 : Int) (t1 : Int) (t2 : Int) (s : Mem) : Prop :=
  (InI t0) ∧ ((0 : Int) ≤ t2 ∧ t2 < 42) ∧ ∀ s9 : Mem, s9 = m_upd s 13 t2 (t1 + t0) → (InI (x1 + (1 : Int)) ∧ InI (s9 0 (0 : Int))) ∧ (¬ (x1 + (1 : Int)) = (s9 0 (0 : Int)) → X147 x1 x2 (x1 + (1 : Int)) s9) ∧ ((x1 + (1 : Int)) = (s9 0 (0 : Int)) → X147 x1 x2 (0 : Int) s9)
def x8_layTable_b147 (X2 : Int → Mem → Prop) (X12 : Int → Int → Mem → Prop) (X62 : Int → Int → Mem → Prop) (X77 : Int → Int → Int → Mem → Prop) (X111 : Int → Int → Int → Int → Int → Int → Mem → Prop) (X127 : Int → Int → Int → Int → Int → Mem → Prop) (X147 : Int → Int → Int → Mem → Prop) (X165 : Int → Int → Int → Int → Mem → Prop) (X243 : Int → Int → Int → Mem → Prop) (Q : Int → Mem → Prop) (x1 : Int) (x2 : Int) (t0 : Int) (s : Mem) : Prop :=
  InI x1 ∧ (¬ x1 = (0 : Int) → X165 x1 x2 t0 (x1 - (1 : Int)) s) ∧ (x1 = (0 : Int) → X165 x1 x2 t0 ((s 0 (0 : Int)) - (1 : Int)) s)
def x8_layTable_b165 (X2 : Int → Mem → Prop) (X12 : Int → Int → Mem → Prop) (X62 : Int → Int → Mem → Prop) (X77 : Int → Int → Int → Mem → Prop) (X111 : Int → Int → Int → Int → Int → Int → Mem → Prop) (X127 : Int → Int → Int → Int → Int → Mem → Prop) (X147 : Int → Int → Int → Mem → Prop) (X165 : Int → Int → Int → Int → Mem → Prop) (X243 : Int → Int → Int → Mem → Prop) (Q : Int → Mem → Prop) (x1 : Int) (x2 : Int) (x4 : Int) (t0 : Int) (s : Mem) : Prop :=
  ((0 : Int) ≤ (((7 : Int) * x1) + x4) ∧ (((7 : Int) * x1) + x4) < 42) ∧ (InI (s 0 (1 : Int))) ∧ ((0 : Int) ≤ (((7 : Int) * x1) + x4) ∧ (((7 : Int) * x1) + x4) < 42) ∧ ∀ s12 : Mem, s12 = m_upd s 13 (((7 : Int) * x1) + x4) ((s 13 (((7 : Int) * x1) + x4)) - (s 0 (1 : Int))) → ((0 : Int) ≤ (((7 : Int) * x1) + t0) ∧ (((7 : Int) * x1) + t0) < 42) ∧ (InI (s12 0 (1 : Int))) ∧ ((0 : Int) ≤ (((7 : Int) * x1) + t0) ∧ (((7 : Int) * x1) + t0) < 42) ∧ ∀ s13 : Mem, s13 = m_upd s12 13 (((7 : Int) * x1) + t0) ((s12 13 (((7 : Int) * x1) + t0)) - (s12 0 (1 : Int))) → InI x2 ∧ (x2 = (0 : Int) → X243 x1 (0 : Int) (((7 : Int) * x1) + (s13 0 (0 : Int))) s13) ∧ (¬ x2 = (0 : Int) → ((0 : Int) ≤ x1 ∧ x1 < 6) ∧ (InI (s13 1 x1)) ∧ ((0 : Int) ≤ x1 ∧ x1 < 6) ∧ (InI (s13 3 x1)) ∧ X243 x1 ((s13 1 x1) * (s13 3 x1)) (((7 : Int) * x1) + (s13 0 (0 : Int))) s13)
def x8_layTable_b243 (X2 : Int → Mem → Prop) (X12 : Int → Int → Mem → Prop) (X62 : Int → Int → Mem → Prop) (X77 : Int → Int → Int → Mem → Prop) (X111 : Int → Int → Int → Int → Int → Int → Mem → Prop) (X127 : Int → Int → Int → Int → Int → Mem → Prop) (X147 : Int → Int → Int → Mem → Prop) (X165 : Int → Int → Int → Int → Mem → Prop) (X243 : Int → Int → Int → Mem → Prop) (Q : Int → Mem → Prop) (x1 : Int) (t0 : Int) (t1 : Int) (s : Mem) : Prop :=
  ((0 : Int) ≤ x1 ∧ x1 < 6) ∧ (InI (s 4 x1)) ∧ ((0 : Int) ≤ t1 ∧ t1 < 42) ∧ ∀ s15 : Mem, s15 = m_upd s 13 t1 (t0 - (s 4 x1)) → X2 (x1 + (1 : Int)) s15
theorem x8_layTable_me {X2 Y2 : Int → Mem → Prop} {X12 Y12 : Int → Int → Mem → Prop} {X62 Y62 : Int → Int → Mem → Prop} {X77 Y77 : Int → Int → Int → Mem → Prop} {X111 Y111 : Int → Int → Int → Int → Int → Int → Mem → Prop} {X127 Y127 : Int → Int → Int → Int → Int → Mem → Prop} {X147 Y147 : Int → Int → Int → Mem → Prop} {X165 Y165 : Int → Int → Int → Int → Mem → Prop} {X243 Y243 : Int → Int → Int → Mem → Prop} {Q R : Int → Mem → Prop} (hX2 : ∀ x1 s, X2 x1 s → Y2 x1 s) (hX12 : ∀ x1 x2 s, X12 x1 x2 s → Y12 x1 x2 s) (hX62 : ∀ x1 t0 s, X62 x1 t0 s → Y62 x1 t0 s) (hX77 : ∀ x1 x2 t0 s, X77 x1 x2 t0 s → Y77 x1 x2 t0 s) (hX111 : ∀ x1 x2 x3 t0 t1 t2 s, X111 x1 x2 x3 t0 t1 t2 s → Y111 x1 x2 x3 t0 t1 t2 s) (hX127 : ∀ x1 x2 t0 t1 t2 s, X127 x1 x2 t0 t1 t2 s → Y127 x1 x2 t0 t1 t2 s) (hX147 : ∀ x1 x2 t0 s, X147 x1 x2 t0 s → Y147 x1 x2 t0 s) (hX165 : ∀ x1 x2 x4 t0 s, X165 x1 x2 x4 t0 s → Y165 x1 x2 x4 t0 s) (hX243 : ∀ x1 t0 t1 s, X243 x1 t0 t1 s → Y243 x1 t0 t1 s) (hQ : ∀ r s, Q r s → R r s)  {s : Mem} (h : x8_layTable_be X2 X12 X62 X77 X111 X127 X147 X165 X243 Q  s) : x8_layTable_be Y2 Y12 Y62 Y77 Y111 Y127 Y147 Y165 Y243 R  s :=
  hX2 _ _ h
theorem x8_layTable_m2 {X2 Y2 : Int → Mem → Prop} {X12 Y12 : Int → Int → Mem → Prop} {X62 Y62 : Int → Int → Mem → Prop} {X77 Y77 : Int → Int → Int → Mem → Prop} {X111 Y111 : Int → Int → Int → Int → Int → Int → Mem → Prop} {X127 Y127 : Int → Int → Int → Int → Int → Mem → Prop} {X147 Y147 : Int → Int → Int → Mem → Prop} {X165 Y165 : Int → Int → Int → Int → Mem → Prop} {X243 Y243 : Int → Int → Int → Mem → Prop} {Q R : Int → Mem → Prop} (hX2 : ∀ x1 s, X2 x1 s → Y2 x1 s) (hX12 : ∀ x1 x2 s, X12 x1 x2 s → Y12 x1 x2 s) (hX62 : ∀ x1 t0 s, X62 x1 t0 s → Y62 x1 t0 s) (hX77 : ∀ x1 x2 t0 s, X77 x1 x2 t0 s → Y77 x1 x2 t0 s) (hX111 : ∀ x1 x2 x3 t0 t1 t2 s, X111 x1 x2 x3 t0 t1 t2 s → Y111 x1 x2 x3 t0 t1 t2 s) (hX127 : ∀ x1 x2 t0 t1 t2 s, X127 x1 x2 t0 t1 t2 s → Y127 x1 x2 t0 t1 t2 s) (hX147 : ∀ x1 x2 t0 s, X147 x1 x2 t0 s → Y147 x1 x2 t0 s) (hX165 : ∀ x1 x2 x4 t0 s, X165 x1 x2 x4 t0 s → Y165 x1 x2 x4 t0 s) (hX243 : ∀ x1 t0 t1 s, X243 x1 t0 t1 s → Y243 x1 t0 t1 s) (hQ : ∀ r s, Q r s → R r s) {x1 : Int} {s : Mem} (h : x8_layTable_b2 X2 X12 X62 X77 X111 X127 X147 X165 X243 Q x1 s) : x8_layTable_b2 Y2 Y12 Y62 Y77 Y111 Y127 Y147 Y165 Y243 R x1 s :=
  ⟨h.1, fun c => have h := h.2.1 c; hQ _ _ h, fun c => have h := h.2.2 c; hX12 _ _ _ h⟩
theorem x8_layTable_m12 {X2 Y2 : Int → Mem → Prop} {X12 Y12 : Int → Int → Mem → Prop} {X62 Y62 : Int → Int → Mem → Prop} {X77 Y77 : Int → Int → Int → Mem → Prop} {X111 Y111 : Int → Int → Int → Int → Int → Int → Mem → Prop} {X127 Y127 : Int → Int → Int → Int → Int → Mem → Prop} {X147 Y147 : Int → Int → Int → Mem → Prop} {X165 Y165 : Int → Int → Int → Int → Mem → Prop} {X243 Y243 : Int → Int → Int → Mem → Prop} {Q R : Int → Mem → Prop} (hX2 : ∀ x1 s, X2 x1 s → Y2 x1 s) (hX12 : ∀ x1 x2 s, X12 x1 x2 s → Y12 x1 x2 s) (hX62 : ∀ x1 t0 s, X62 x1 t0 s → Y62 x1 t0 s) (hX77 : ∀ x1 x2 t0 s, X77 x1 x2 t0 s → Y77 x1 x2 t0 s) (hX111 : ∀ x1 x2 x3 t0 t1 t2 s, X111 x1 x2 x3 t0 t1 t2 s → Y111 x1 x2 x3 t0 t1 t2 s) (hX127 : ∀ x1 x2 t0 t1 t2 s, X127 x1 x2 t0 t1 t2 s → Y127 x1 x2 t0 t1 t2 s) (hX147 : ∀ x1 x2 t0 s, X147 x1 x2 t0 s → Y147 x1 x2 t0 s) (hX165 : ∀ x1 x2 x4 t0 s, X165 x1 x2 x4 t0 s → Y165 x1 x2 x4 t0 s) (hX243 : ∀ x1 t0 t1 s, X243 x1 t0 t1 s → Y243 x1 t0 t1 s) (hQ : ∀ r s, Q r s → R r s) {x1 : Int} {x2 : Int} {s : Mem} (h : x8_layTable_b12 X2 X12 X62 X77 X111 X127 X147 X165 X243 Q x1 x2 s) : x8_layTable_b12 Y2 Y12 Y62 Y77 Y111 Y127 Y147 Y165 Y243 R x1 x2 s :=
  ⟨h.1, fun c => have h := h.2.1 c; ⟨h.1, have h := h.2; ⟨h.1, fun c => have h := h.2.1 c; hX62 _ _ _ h, fun c => have h := h.2.2 c; ⟨h.1, have h := h.2; ⟨h.1, fun c => have h := h.2.1 c; hX62 _ _ _ h, fun c => have h := h.2.2 c; hX62 _ _ _ h⟩⟩⟩⟩, fun c => have h := h.2.2 c; ⟨h.1, have h := h.2; fun s4 e_s4 => have h := h s4 e_s4; hX12 _ _ _ h⟩⟩
theorem x8_layTable_m62 {X2 Y2 : Int → Mem → Prop} {X12 Y12 : Int → Int → Mem → Prop} {X62 Y62 : Int → Int → Mem → Prop} {X77 Y77 : Int → Int → Int → Mem → Prop} {X111 Y111 : Int → Int → Int → Int → Int → Int → Mem → Prop} {X127 Y127 : Int → Int → Int → Int → Int → Mem → Prop} {X147 Y147 : Int → Int → Int → Mem → Prop} {X165 Y165 : Int → Int → Int → Int → Mem → Prop} {X243 Y243 : Int → Int → Int → Mem → Prop} {Q R : Int → Mem → Prop} (hX2 : ∀ x1 s, X2 x1 s → Y2 x1 s) (hX12 : ∀ x1 x2 s, X12 x1 x2 s → Y12 x1 x2 s) (hX62 : ∀ x1 t0 s, X62 x1 t0 s → Y62 x1 t0 s) (hX77 : ∀ x1 x2 t0 s, X77 x1 x2 t0 s → Y77 x1 x2 t0 s) (hX111 : ∀ x1 x2 x3 t0 t1 t2 s, X111 x1 x2 x3 t0 t1 t2 s → Y111 x1 x2 x3 t0 t1 t2 s) (hX127 : ∀ x1 x2 t0 t1 t2 s, X127 x1 x2 t0 t1 t2 s → Y127 x1 x2 t0 t1 t2 s) (hX147 : ∀ x1 x2 t0 s, X147 x1 x2 t0 s → Y147 x1 x2 t0 s) (hX165 : ∀ x1 x2 x4 t0 s, X165 x1 x2 x4 t0 s → Y165 x1 x2 x4 t0 s) (hX243 : ∀ x1 t0 t1 s, X243 x1 t0 t1 s → Y243 x1 t0 t1 s) (hQ : ∀ r s, Q r s → R r s) {x1 : Int} {t0 : Int} {s : Mem} (h : x8_layTable_b62 X2 X12 X62 X77 X111 X127 X147 X165 X243 Q x1 t0 s) : x8_layTable_b62 Y2 Y12 Y62 Y77 Y111 Y127 Y147 Y165 Y243 R x1 t0 s :=
  ⟨h.1, have h := h.2; ⟨h.1, fun c => have h := h.2.1 c; hX77 _ _ _ _ h, fun c => have h := h.2.2 c; hX77 _ _ _ _ h⟩⟩
theorem x8_layTable_m77 {X2 Y2 : Int → Mem → Prop} {X12 Y12 : Int → Int → Mem → Prop} {X62 Y62 : Int → Int → Mem → Prop} {X77 Y77 : Int → Int → Int → Mem → Prop} {X111 Y111 : Int → Int → Int → Int → Int → Int → Mem → Prop} {X127 Y127 : Int → Int → Int → Int → Int → Mem → Prop} {X147 Y147 : Int → Int → Int → Mem → Prop} {X165 Y165 : Int → Int → Int → Int → Mem → Prop} {X243 Y243 : Int → Int → Int → Mem → Prop} {Q R : Int → Mem → Prop} (hX2 : ∀ x1 s, X2 x1 s → Y2 x1 s) (hX12 : ∀ x1 x2 s, X12 x1 x2 s → Y12 x1 x2 s) (hX62 : ∀ x1 t0 s, X62 x1 t0 s → Y62 x1 t0 s) (hX77 : ∀ x1 x2 t0 s, X77 x1 x2 t0 s → Y77 x1 x2 t0 s) (hX111 : ∀ x1 x2 x3 t0 t1 t2 s, X111 x1 x2 x3 t0 t1 t2 s → Y111 x1 x2 x3 t0 t1 t2 s) (hX127 : ∀ x1 x2 t0 t1 t2 s, X127 x1 x2 t0 t1 t2 s → Y127 x1 x2 t0 t1 t2 s) (hX147 : ∀ x1 x2 t0 s, X147 x1 x2 t0 s → Y147 x1 x2 t0 s) (hX165 : ∀ x1 x2 x4 t0 s, X165 x1 x2 x4 t0 s → Y165 x1 x2 x4 t0 s) (hX243 : ∀ x1 t0 t1 s, X243 x1 t0 t1 s → Y243 x1 t0 t1 s) (hQ : ∀ r s, Q r s → R r s) {x1 : Int} {x2 : Int} {t0 : Int} {s : Mem} (h : x8_layTable_b77 X2 X12 X62 X77 X111 X127 X147 X165 X243 Q x1 x2 t0 s) : x8_layTable_b77 Y2 Y12 Y62 Y77 Y111 Y127 Y147 Y165 Y243 R x1 x2 t0 s :=
  ⟨h.1, have h := h.2; ⟨h.1, fun c => have h := h.2.1 c; hX111 _ _ _ _ _ _ _ h, fun c => have h := h.2.2 c; ⟨h.1, have h := h.2; hX111 _ _ _ _ _ _ _ h⟩⟩⟩
theorem x8_layTable_m111 {X2 Y2 : Int → Mem → Prop} {X12 Y12 : Int → Int → Mem → Prop} {X62 Y62 : Int → Int → Mem → Prop} {X77 Y77 : Int → Int → Int → Mem → Prop} {X111 Y111 : Int → Int → Int → Int → Int → Int → Mem → Prop} {X127 Y127 : Int → Int → Int → Int → Int → Mem → Prop} {X147 Y147 : Int → Int → Int → Mem → Prop} {X165 Y165 : Int → Int → Int → Int → Mem → Prop} {X243 Y243 : Int → Int → Int → Mem → Prop} {Q R : Int → Mem → Prop} (hX2 : ∀ x1 s, X2 x1 s → Y2 x1 s) (hX12 : ∀ x1 x2 s, X12 x1 x2 s → Y12 x1 x2 s) (hX62 : ∀ x1 t0 s, X62 x1 t0 s → Y62 x1 t0 s) (hX77 : ∀ x1 x2 t0 s, X77 x1 x2 t0 s → Y77 x1 x2 t0 s) (hX111 : ∀ x1 x2 x3 t0 t1 t2 s, X111 x1 x2 x3 t0 t1 t2 s → Y111 x1 x2 x3 t0 t1 t2 s) (hX127 : ∀ x1 x2 t0 t1 t2 s, X127 x1 x2 t0 t1 t2 s → Y127 x1 x2 t0 t1 t2 s) (hX147 : ∀ x1 x2 t0 s, X147 x1 x2 t0 s → Y147 x1 x2 t0 s) (hX165 : ∀ x1 x2 x4 t0 s, X165 x1 x2 x4 t0 s → Y165 x1 x2 x4 t0 s) (hX243 : ∀ x1 t0 t1 s, X243 x1 t0 t1 s → Y243 x1 t0 t1 s) (hQ : ∀ r s, Q r s → R r s) {x1 : Int} {x2 : Int} {x3 : Int} {t0 : Int} {t1 : Int} {t2 : Int} {s : Mem} (h : x8_layTable_b111 X2 X12 X62 X77 X111 X127 X147 X165 X243 Q x1 x2 x3 t0 t1 t2 s) : x8_layTable_b111 Y2 Y12 Y62 Y77 Y111 Y127 Y147 Y165 Y243 R x1 x2 x3 t0 t1 t2 s :=
  ⟨h.1, have h := h.2; ⟨h.1, fun c => have h := h.2.1 c; hX127 _ _ _ _ _ _ h, fun c => have h := h.2.2 c; ⟨h.1, have h := h.2; hX127 _ _ _ _ _ _ h⟩⟩⟩
theorem x8_layTable_m127 {X2 Y2 : Int → Mem → Prop} {X12 Y12 : Int → Int → Mem → Prop} {X62 Y62 : Int → Int → Mem → Prop} {X77 Y77 : Int → Int → Int → Mem → Prop} {X111 Y111 : Int → Int → Int → Int → Int → Int → Mem → Prop} {X127 Y127 : Int → Int → Int → Int → Int → Mem → Prop} {X147 Y147 : Int → Int → Int → Mem → Prop} {X165 Y165 : Int → Int → Int → Int → Mem → Prop} {X243 Y243 : Int → Int → Int → Mem → Prop} {Q R : Int → Mem → Prop} (hX2 : ∀ x1 s, X2 x1 s → Y2 x1 s) (hX12 : ∀ x1 x2 s, X12 x1 x2 s → Y12 x1 x2 s) (hX62 : ∀ x1 t0 s, X62 x1 t0 s → Y62 x1 t0 s) (hX77 : ∀ x1 x2 t0 s, X77 x1 x2 t0 s → Y77 x1 x2 t0 s) (hX111 : ∀ x1 x2 x3 t0 t1 t2 s, X111 x1 x2 x3 t0 t1 t2 s → Y111 x1 x2 x3 t0 t1 t2 s) (hX127 : ∀ x1 x2 t0 t1 t2 s, X127 x1 x2 t0 t1 t2 s → Y127 x1 x2 t0 t1 t2 s) (hX147 : ∀ x1 x2 t0 s, X147 x1 x2 t0 s → Y147 x1 x2 t0 s) (hX165 : ∀ x1 x2 x4 t0 s, X165 x1 x2 x4 t0 s → Y165 x1 x2 x4 t0 s) (hX243 : ∀ x1 t0 t1 s, X243 x1 t0 t1 s → Y243 x1 t0 t1 s) (hQ : ∀ r s, Q r s → R r s) {x1 : Int} {x2 : Int} {t0 : Int} {t1 : Int} {t2 : Int} {s : Mem} (h : x8_layTable_b127 X2 X12 X62 X77 X111 X127 X147 X165 X243 Q x1 x2 t0 t1 t2 s) : x8_layTable_b127 Y2 Y12 Y62 Y77 Y111 Y127 Y147 Y165 Y243 R x1 x2 t0 t1 t2 s :=
  ⟨h.1, have h := h.2; ⟨h.1, have h := h.2; fun s9 e_s9 => have h := h s9 e_s9; ⟨h.1, fun c => have h := h.2.1 c; hX147 _ _ _ _ h, fun c => have h := h.2.2 c; hX147 _ _ _ _ h⟩⟩⟩
theorem x8_layTable_m147 {X2 Y2 : Int → Mem → Prop} {X12 Y12 : Int → Int → Mem → Prop} {X62 Y62 : Int → Int → Mem → Prop} {X77 Y77 : Int → Int → Int → Mem → Prop} {X111 Y111 : Int → Int → Int → Int → Int → Int → Mem → Prop} {X127 Y127 : Int → Int → Int → Int → Int → Mem → Prop} {X147 Y147 : Int → Int → Int → Mem → Prop} {X165 Y165 : Int → Int → Int → Int → Mem → Prop} {X243 Y243 : Int → Int → Int → Mem → Prop} {Q R : Int → Mem → Prop} (hX2 : ∀ x1 s, X2 x1 s → Y2 x1 s) (hX12 : ∀ x1 x2 s, X12 x1 x2 s → Y12 x1 x2 s) (hX62 : ∀ x1 t0 s, X62 x1 t0 s → Y62 x1 t0 s) (hX77 : ∀ x1 x2 t0 s, X77 x1 x2 t0 s → Y77 x1 x2 t0 s) (hX111 : ∀ x1 x2 x3 t0 t1 t2 s, X111 x1 x2 x3 t0 t1 t2 s → Y111 x1 x2 x3 t0 t1 t2 s) (hX127 : ∀ x1 x2 t0 t1 t2 s, X127 x1 x2 t0 t1 t2 s → Y127 x1 x2 t0 t1 t2 s) (hX147 : ∀ x1 x2 t0 s, X147 x1 x2 t0 s → Y147 x1 x2 t0 s) (hX165 : ∀ x1 x2 x4 t0 s, X165 x1 x2 x4 t0 s → Y165 x1 x2 x4 t0 s) (hX243 : ∀ x1 t0 t1 s, X243 x1 t0 t1 s → Y243 x1 t0 t1 s) (hQ : ∀ r s, Q r s → R r s) {x1 : Int} {x2 : Int} {t0 : Int} {s : Mem} (h : x8_layTable_b147 X2 X12 X62 X77 X111 X127 X147 X165 X243 Q x1 x2 t0 s) : x8_layTable_b147 Y2 Y12 Y62 Y77 Y111 Y127 Y147 Y165 Y243 R x1 x2 t0 s :=
  ⟨h.1, fun c => have h := h.2.1 c; hX165 _ _ _ _ _ h, fun c => have h := h.2.2 c; hX165 _ _ _ _ _ h⟩
theorem x8_layTable_m165 {X2 Y2 : Int → Mem → Prop} {X12 Y12 : Int → Int → Mem → Prop} {X62 Y62 : Int → Int → Mem → Prop} {X77 Y77 : Int → Int → Int → Mem → Prop} {X111 Y111 : Int → Int → Int → Int → Int → Int → Mem → Prop} {X127 Y127 : Int → Int → Int → Int → Int → Mem → Prop} {X147 Y147 : Int → Int → Int → Mem → Prop} {X165 Y165 : Int → Int → Int → Int → Mem → Prop} {X243 Y243 : Int → Int → Int → Mem → Prop} {Q R : Int → Mem → Prop} (hX2 : ∀ x1 s, X2 x1 s → Y2 x1 s) (hX12 : ∀ x1 x2 s, X12 x1 x2 s → Y12 x1 x2 s) (hX62 : ∀ x1 t0 s, X62 x1 t0 s → Y62 x1 t0 s) (hX77 : ∀ x1 x2 t0 s, X77 x1 x2 t0 s → Y77 x1 x2 t0 s) (hX111 : ∀ x1 x2 x3 t0 t1 t2 s, X111 x1 x2 x3 t0 t1 t2 s → Y111 x1 x2 x3 t0 t1 t2 s) (hX127 : ∀ x1 x2 t0 t1 t2 s, X127 x1 x2 t0 t1 t2 s → Y127 x1 x2 t0 t1 t2 s) (hX147 : ∀ x1 x2 t0 s, X147 x1 x2 t0 s → Y147 x1 x2 t0 s) (hX165 : ∀ x1 x2 x4 t0 s, X165 x1 x2 x4 t0 s → Y165 x1 x2 x4 t0 s) (hX243 : ∀ x1 t0 t1 s, X243 x1 t0 t1 s → Y243 x1 t0 t1 s) (hQ : ∀ r s, Q r s → R r s) {x1 : Int} {x2 : Int} {x4 : Int} {t0 : Int} {s : Mem} (h : x8_layTable_b165 X2 X12 X62 X77 X111 X127 X147 X165 X243 Q x1 x2 x4 t0 s) : x8_layTable_b165 Y2 Y12 Y62 Y77 Y111 Y127 Y147 Y165 Y243 R x1 x2 x4 t0 s :=
  ⟨h.1, have h := h.2; ⟨h.1, have h := h.2; ⟨h.1, have h := h.2; fun s12 e_s12 => have h := h s12 e_s12; ⟨h.1, have h := h.2; ⟨h.1, have h := h.2; ⟨h.1, have h := h.2; fun s13 e_s13 => have h := h s13 e_s13; ⟨h.1, fun c => have h := h.2.1 c; hX243 _ _ _ _ h, fun c => have h := h.2.2 c; ⟨h.1, have h := h.2; ⟨h.1, have h := h.2; ⟨h.1, have h := h.2; ⟨h.1, have h := h.2; hX243 _ _ _ _ h⟩⟩⟩⟩⟩⟩⟩⟩⟩⟩⟩
theorem x8_layTable_m243 {X2 Y2 : Int → Mem → Prop} {X12 Y12 : Int → Int → Mem → Prop} {X62 Y62 : Int → Int → Mem → Prop} {X77 Y77 : Int → Int → Int → Mem → Prop} {X111 Y111 : Int → Int → Int → Int → Int → Int → Mem → Prop} {X127 Y127 : Int → Int → Int → Int → Int → Mem → Prop} {X147 Y147 : Int → Int → Int → Mem → Prop} {X165 Y165 : Int → Int → Int → Int → Mem → Prop} {X243 Y243 : Int → Int → Int → Mem → Prop} {Q R : Int → Mem → Prop} (hX2 : ∀ x1 s, X2 x1 s → Y2 x1 s) (hX12 : ∀ x1 x2 s, X12 x1 x2 s → Y12 x1 x2 s) (hX62 : ∀ x1 t0 s, X62 x1 t0 s → Y62 x1 t0 s) (hX77 : ∀ x1 x2 t0 s, X77 x1 x2 t0 s → Y77 x1 x2 t0 s) (hX111 : ∀ x1 x2 x3 t0 t1 t2 s, X111 x1 x2 x3 t0 t1 t2 s → Y111 x1 x2 x3 t0 t1 t2 s) (hX127 : ∀ x1 x2 t0 t1 t2 s, X127 x1 x2 t0 t1 t2 s → Y127 x1 x2 t0 t1 t2 s) (hX147 : ∀ x1 x2 t0 s, X147 x1 x2 t0 s → Y147 x1 x2 t0 s) (hX165 : ∀ x1 x2 x4 t0 s, X165 x1 x2 x4 t0 s → Y165 x1 x2 x4 t0 s) (hX243 : ∀ x1 t0 t1 s, X243 x1 t0 t1 s → Y243 x1 t0 t1 s) (hQ : ∀ r s, Q r s → R r s) {x1 : Int} {t0 : Int} {t1 : Int} {s : Mem} (h : x8_layTable_b243 X2 X12 X62 X77 X111 X127 X147 X165 X243 Q x1 t0 t1 s) : x8_layTable_b243 Y2 Y12 Y62 Y77 Y111 Y127 Y147 Y165 Y243 R x1 t0 t1 s :=
  ⟨h.1, have h := h.2; ⟨h.1, have h := h.2; ⟨h.1, have h := h.2; fun s15 e_s15 => have h := h s15 e_s15; hX2 _ _ h⟩⟩⟩
def x8_layTable  (s : Mem) (Q : Int → Mem → Prop) : Prop := ∀ (X2 : Int → Mem → Prop) (X12 : Int → Int → Mem → Prop) (X62 : Int → Int → Mem → Prop) (X77 : Int → Int → Int → Mem → Prop) (X111 : Int → Int → Int → Int → Int → Int → Mem → Prop) (X127 : Int → Int → Int → Int → Int → Mem → Prop) (X147 : Int → Int → Int → Mem → Prop) (X165 : Int → Int → Int → Int → Mem → Prop) (X243 : Int → Int → Int → Mem → Prop), (∀ x1 s, x8_layTable_b2 X2 X12 X62 X77 X111 X127 X147 X165 X243 Q x1 s → X2 x1 s) → (∀ x1 x2 s, x8_layTable_b12 X2 X12 X62 X77 X111 X127 X147 X165 X243 Q x1 x2 s → X12 x1 x2 s) → (∀ x1 t0 s, x8_layTable_b62 X2 X12 X62 X77 X111 X127 X147 X165 X243 Q x1 t0 s → X62 x1 t0 s) → (∀ x1 x2 t0 s, x8_layTable_b77 X2 X12 X62 X77 X111 X127 X147 X165 X243 Q x1 x2 t0 s → X77 x1 x2 t0 s) → (∀ x1 x2 x3 t0 t1 t2 s, x8_layTable_b111 X2 X12 X62 X77 X111 X127 X147 X165 X243 Q x1 x2 x3 t0 t1 t2 s → X111 x1 x2 x3 t0 t1 t2 s) → (∀ x1 x2 t0 t1 t2 s, x8_layTable_b127 X2 X12 X62 X77 X111 X127 X147 X165 X243 Q x1 x2 t0 t1 t2 s → X127 x1 x2 t0 t1 t2 s) → (∀ x1 x2 t0 s, x8_layTable_b147 X2 X12 X62 X77 X111 X127 X147 X165 X243 Q x1 x2 t0 s → X147 x1 x2 t0 s) → (∀ x1 x2 x4 t0 s, x8_layTable_b165 X2 X12 X62 X77 X111 X127 X147 X165 X243 Q x1 x2 x4 t0 s → X165 x1 x2 x4 t0 s) → (∀ x1 t0 t1 s, x8_layTable_b243 X2 X12 X62 X77 X111 X127 X147 X165 X243 Q x1 t0 t1 s → X243 x1 t0 t1 s) → x8_layTable_be X2 X12 X62 X77 X111 X127 X147 X165 X243 Q  s
def x8_layTable_L2 (Q : Int → Mem → Prop) (x1 : Int) (s : Mem) : Prop := ∀ (X2 : Int → Mem → Prop) (X12 : Int → Int → Mem → Prop) (X62 : Int → Int → Mem → Prop) (X77 : Int → Int → Int → Mem → Prop) (X111 : Int → Int → Int → Int → Int → Int → Mem → Prop) (X127 : Int → Int → Int → Int → Int → Mem → Prop) (X147 : Int → Int → Int → Mem → Prop) (X165 : Int → Int → Int → Int → Mem → Prop) (X243 : Int → Int → Int → Mem → Prop), (∀ x1 s, x8_layTable_b2 X2 X12 X62 X77 X111 X127 X147 X165 X243 Q x1 s → X2 x1 s) → (∀ x1 x2 s, x8_layTable_b12 X2 X12 X62 X77 X111 X127 X147 X165 X243 Q x1 x2 s → X12 x1 x2 s) → (∀ x1 t0 s, x8_layTable_b62 X2 X12 X62 X77 X111 X127 X147 X165 X243 Q x1 t0 s → X62 x1 t0 s) → (∀ x1 x2 t0 s, x8_layTable_b77 X2 X12 X62 X77 X111 X127 X147 X165 X243 Q x1 x2 t0 s → X77 x1 x2 t0 s) → (∀ x1 x2 x3 t0 t1 t2 s, x8_layTable_b111 X2 X12 X62 X77 X111 X127 X147 X165 X243 Q x1 x2 x3 t0 t1 t2 s → X111 x1 x2 x3 t0 t1 t2 s) → (∀ x1 x2 t0 t1 t2 s, x8_layTable_b127 X2 X12 X62 X77 X111 X127 X147 X165 X243 Q x1 x2 t0 t1 t2 s → X127 x1 x2 t0 t1 t2 s) → (∀ x1 x2 t0 s, x8_layTable_b147 X2 X12 X62 X77 X111 X127 X147 X165 X243 Q x1 x2 t0 s → X147 x1 x2 t0 s) → (∀ x1 x2 x4 t0 s, x8_layTable_b165 X2 X12 X62 X77 X111 X127 X147 X165 X243 Q x1 x2 x4 t0 s → X165 x1 x2 x4 t0 s) → (∀ x1 t0 t1 s, x8_layTable_b243 X2 X12 X62 X77 X111 X127 X147 X165 X243 Q x1 t0 t1 s → X243 x1 t0 t1 s) → X2 x1 s
def x8_layTable_L12 (Q : Int → Mem → Prop) (x1 : Int) (x2 : Int) (s : Mem) : Prop := ∀ (X2 : Int → Mem → Prop) (X12 : Int → Int → Mem → Prop) (X62 : Int → Int → Mem → Prop) (X77 : Int → Int → Int → Mem → Prop) (X111 : Int → Int → Int → Int → Int → Int → Mem → Prop) (X127 : Int → Int → Int → Int → Int → Mem → Prop) (X147 : Int → Int → Int → Mem → Prop) (X165 : Int → Int → Int → Int → Mem → Prop) (X243 : Int → Int → Int → Mem → Prop), (∀ x1 s, x8_layTable_b2 X2 X12 X62 X77 X111 X127 X147 X165 X243 Q x1 s → X2 x1 s) → (∀ x1 x2 s, x8_layTable_b12 X2 X12 X62 X77 X111 X127 X147 X165 X243 Q x1 x2 s → X12 x1 x2 s) → (∀ x1 t0 s, x8_layTable_b62 X2 X12 X62 X77 X111 X127 X147 X165 X243 Q x1 t0 s → X62 x1 t0 s) → (∀ x1 x2 t0 s, x8_layTable_b77 X2 X12 X62 X77 X111 X127 X147 X165 X243 Q x1 x2 t0 s → X77 x1 x2 t0 s) → (∀ x1 x2 x3 t0 t1 t2 s, x8_layTable_b111 X2 X12 X62 X77 X111 X127 X147 X165 X243 Q x1 x2 x3 t0 t1 t2 s → X111 x1 x2 x3 t0 t1 t2 s) → (∀ x1 x2 t0 t1 t2 s, x8_layTable_b127 X2 X12 X62 X77 X111 X127 X147 X165 X243 Q x1 x2 t0 t1 t2 s → X127 x1 x2 t0 t1 t2 s) → (∀ x1 x2 t0 s, x8_layTable_b147 X2 X12 X62 X77 X111 X127 X147 X165 X243 Q x1 x2 t0 s → X147 x1 x2 t0 s) → (∀ x1 x2 x4 t0 s, x8_layTable_b165 X2 X12 X62 X77 X111 X127 X147 X165 X243 Q x1 x2 x4 t0 s → X165 x1 x2 x4 t0 s) → (∀ x1 t0 t1 s, x8_layTable_b243 X2 X12 X62 X77 X111 X127 X147 X165 X243 Q x1 t0 t1 s → X243 x1 t0 t1 s) → X12 x1 x2 s
def x8_layTable_L62 (Q : Int → Mem → Prop) (x1 : Int) (t0 : Int) (s : Mem) : Prop := ∀ (X2 : Int → Mem → Prop) (X12 : Int → Int → Mem → Prop) (X62 : Int → Int → Mem → Prop) (X77 : Int → Int → Int → Mem → Prop) (X111 : Int → Int → Int → Int → Int → Int → Mem → Prop) (X127 : Int → Int → Int → Int → Int → Mem → Prop) (X147 : Int → Int → Int → Mem → Prop) (X165 : Int → Int → Int → Int → Mem → Prop) (X243 : Int → Int → Int → Mem → Prop), (∀ x1 s, x8_layTable_b2 X2 X12 X62 X77 X111 X127 X147 X165 X243 Q x1 s → X2 x1 s) → (∀ x1 x2 s, x8_layTable_b12 X2 X12 X62 X77 X111 X127 X147 X165 X243 Q x1 x2 s → X12 x1 x2 s) → (∀ x1 t0 s, x8_layTable_b62 X2 X12 X62 X77 X111 X127 X147 X165 X243 Q x1 t0 s → X62 x1 t0 s) → (∀ x1 x2 t0 s, x8_layTable_b77 X2 X12 X62 X77 X111 X127 X147 X165 X243 Q x1 x2 t0 s → X77 x1 x2 t0 s) → (∀ x1 x2 x3 t0 t1 t2 s, x8_layTable_b111 X2 X12 X62 X77 X111 X127 X147 X165 X243 Q x1 x2 x3 t0 t1 t2 s → X111 x1 x2 x3 t0 t1 t2 s) → (∀ x1 x2 t0 t1 t2 s, x8_layTable_b127 X2 X12 X62 X77 X111 X127 X147 X165 X243 Q x1 x2 t0 t1 t2 s → X127 x1 x2 t0 t1 t2 s) → (∀ x1 x2 t0 s, x8_layTable_b147 X2 X12 X62 X77 X111 X127 X147 X165 X243 Q x1 x2 t0 s → X147 x1 x2 t0 s) → (∀ x1 x2 x4 t0 s, x8_layTable_b165 X2 X12 X62 X77 X111 X127 X147 X165 X243 Q x1 x2 x4 t0 s → X165 x1 x2 x4 t0 s) → (∀ x1 t0 t1 s, x8_layTable_b243 X2 X12 X62 X77 X111 X127 X147 X165 X243 Q x1 t0 t1 s → X243 x1 t0 t1 s) → X62 x1 t0 s
def x8_layTable_L77 (Q : Int → Mem → Prop) (x1 : Int) (x2 : Int) (t0 : Int) (s : Mem) : Prop := ∀ (X2 : Int → Mem → Prop) (X12 : Int → Int → Mem → Prop) (X62 : Int → Int → Mem → Prop) (X77 : Int → Int → Int → Mem → Prop) (X111 : Int → Int → Int → Int → Int → Int → Mem → Prop) (X127 : Int → Int → Int → Int → Int → Mem → Prop) (X147 : Int → Int → Int → Mem → Prop) (X165 : Int → Int → Int → Int → Mem → Prop) (X243 : Int → Int → Int → Mem → Prop), (∀ x1 s, x8_layTable_b2 X2 X12 X62 X77 X111 X127 X147 X165 X243 Q x1 s → X2 x1 s) → (∀ x1 x2 s, x8_layTable_b12 X2 X12 X62 X77 X111 X127 X147 X165 X243 Q x1 x2 s → X12 x1 x2 s) → (∀ x1 t0 s, x8_layTable_b62 X2 X12 X62 X77 X111 X127 X147 X165 X243 Q x1 t0 s → X62 x1 t0 s) → (∀ x1 x2 t0 s, x8_layTable_b77 X2 X12 X62 X77 X111 X127 X147 X165 X243 Q x1 x2 t0 s → X77 x1 x2 t0 s) → (∀ x1 x2 x3 t0 t1 t2 s, x8_layTable_b111 X2 X12 X62 X77 X111 X127 X147 X165 X243 Q x1 x2 x3 t0 t1 t2 s → X111 x1 x2 x3 t0 t1 t2 s) → (∀ x1 x2 t0 t1 t2 s, x8_layTable_b127 X2 X12 X62 X77 X111 X127 X147 X165 X243 Q x1 x2 t0 t1 t2 s → X127 x1 x2 t0 t1 t2 s) → (∀ x1 x2 t0 s, x8_layTable_b147 X2 X12 X62 X77 X111 X127 X147 X165 X243 Q x1 x2 t0 s → X147 x1 x2 t0 s) → (∀ x1 x2 x4 t0 s, x8_layTable_b165 X2 X12 X62 X77 X111 X127 X147 X165 X243 Q x1 x2 x4 t0 s → X165 x1 x2 x4 t0 s) → (∀ x1 t0 t1 s, x8_layTable_b243 X2 X12 X62 X77 X111 X127 X147 X165 X243 Q x1 t0 t1 s → X243 x1 t0 t1 s) → X77 x1 x2 t0 s
def x8_layTable_L111 (Q : Int → Mem → Prop) (x1 : Int) (x2 : Int) (x3 : Int) (t0 : Int) (t1 : Int) (t2 : Int) (s : Mem) : Prop := ∀ (X2 : Int → Mem → Prop) (X12 : Int → Int → Mem → Prop) (X62 : Int → Int → Mem → Prop) (X77 : Int → Int → Int → Mem → Prop) (X111 : Int → Int → Int → Int → Int → Int → Mem → Prop) (X127 : Int → Int → Int → Int → Int → Mem → Prop) (X147 : Int → Int → Int → Mem → Prop) (X165 : Int → Int → Int → Int → Mem → Prop) (X243 : Int → Int → Int → Mem → Prop), (∀ x1 s, x8_layTable_b2 X2 X12 X62 X77 X111 X127 X147 X165 X243 Q x1 s → X2 x1 s) → (∀ x1 x2 s, x8_layTable_b12 X2 X12 X62 X77 X111 X127 X147 X165 X243 Q x1 x2 s → X12 x1 x2 s) → (∀ x1 t0 s, x8_layTable_b62 X2 X12 X62 X77 X111 X127 X147 X165 X243 Q x1 t0 s → X62 x1 t0 s) → (∀ x1 x2 t0 s, x8_layTable_b77 X2 X12 X62 X77 X111 X127 X147 X165 X243 Q x1 x2 t0 s → X77 x1 x2 t0 s) → (∀ x1 x2 x3 t0 t1 t2 s, x8_layTable_b111 X2 X12 X62 X77 X111 X127 X147 X165 X243 Q x1 x2 x3 t0 t1 t2 s → X111 x1 x2 x3 t0 t1 t2 s) → (∀ x1 x2 t0 t1 t2 s, x8_layTable_b127 X2 X12 X62 X77 X111 X127 X147 X165 X243 Q x1 x2 t0 t1 t2 s → X127 x1 x2 t0 t1 t2 s) → (∀ x1 x2 t0 s, x8_layTable_b147 X2 X12 X62 X77 X111 X127 X147 X165 X243 Q x1 x2 t0 s → X147 x1 x2 t0 s) → (∀ x1 x2 x4 t0 s, x8_layTable_b165 X2 X12 X62 X77 X111 X127 X147 X165 X243 Q x1 x2 x4 t0 s → X165 x1 x2 x4 t0 s) → (∀ x1 t0 t1 s, x8_layTable_b243 X2 X12 X62 X77 X111 X127 X147 X165 X243 Q x1 t0 t1 s → X243 x1 t0 t1 s) → X111 x1 x2 x3 t0 t1 t2 s
def x8_layTable_L127 (Q : Int → Mem → Prop) (x1 : Int) (x2 : Int) (t0 : Int) (t1 : Int) (t2 : Int) (s : Mem) : Prop := ∀ (X2 : Int → Mem → Prop) (X12 : Int → Int → Mem → Prop) (X62 : Int → Int → Mem → Prop) (X77 : Int → Int → Int → Mem → Prop) (X111 : Int → Int → Int → Int → Int → Int → Mem → Prop) (X127 : Int → Int → Int → Int → Int → Mem → Prop) (X147 : Int → Int → Int → Mem → Prop) (X165 : Int → Int → Int → Int → Mem → Prop) (X243 : Int → Int → Int → Mem → Prop), (∀ x1 s, x8_layTable_b2 X2 X12 X62 X77 X111 X127 X147 X165 X243 Q x1 s → X2 x1 s) → (∀ x1 x2 s, x8_layTable_b12 X2 X12 X62 X77 X111 X127 X147 X165 X243 Q x1 x2 s → X12 x1 x2 s) → (∀ x1 t0 s, x8_layTable_b62 X2 X12 X62 X77 X111 X127 X147 X165 X243 Q x1 t0 s → X62 x1 t0 s) → (∀ x1 x2 t0 s, x8_layTable_b77 X2 X12 X62 X77 X111 X127 X147 X165 X243 Q x1 x2 t0 s → X77 x1 x2 t0 s) → (∀ x1 x2 x3 t0 t1 t2 s, x8_layTable_b111 X2 X12 X62 X77 X111 X127 X147 X165 X243 Q x1 x2 x3 t0 t1 t2 s → X111 x1 x2 x3 t0 t1 t2 s) → (∀ x1 x2 t0 t1 t2 s, x8_layTable_b127 X2 X12 X62 X77 X111 X127 X147 X165 X243 Q x1 x2 t0 t1 t2 s → X127 x1 x2 t0 t1 t2 s) → (∀ x1 x2 t0 s, x8_layTable_b147 X2 X12 X62 X77 X111 X127 X147 X165 X243 Q x1 x2 t0 s → X147 x1 x2 t0 s) → (∀ x1 x2 x4 t0 s, x8_layTable_b165 X2 X12 X62 X77 X111 X127 X147 X165 X243 Q x1 x2 x4 t0 s → X165 x1 x2 x4 t0 s) → (∀ x1 t0 t1 s, x8_layTable_b243 X2 X12 X62 X77 X111 X127 X147 X165 X243 Q x1 t0 t1 s → X243 x1 t0 t1 s) → X127 x1 x2 t0 t1 t2 s
def x8_layTable_L147 (Q : Int → Mem → Prop) (x1 : Int) (x2 : Int) (t0 : Int) (s : Mem) : Prop := ∀ (X2 : Int → Mem → Prop) (X12 : Int → Int → Mem → Prop) (X62 : Int → Int → Mem → Prop) (X77 : Int → Int → Int → Mem → Prop) (X111 : Int → Int → Int → Int → Int → Int → Mem → Prop) (X127 : Int → Int → Int → Int → Int → Mem → Prop) (X147 : Int → Int → Int → Mem → Prop) (X165 : Int → Int → Int → Int → Mem → Prop) (X243 : Int → Int → Int → Mem → Prop), (∀ x1 s, x8_layTable_b2 X2 X12 X62 X77 X111 X127 X147 X165 X243 Q x1 s → X2 x1 s) → (∀ x1 x2 s, x8_layTable_b12 X2 X12 X62 X77 X111 X127 X147 X165 X243 Q x1 x2 s → X12 x1 x2 s) → (∀ x1 t0 s, x8_layTable_b62 X2 X12 X62 X77 X111 X127 X147 X165 X243 Q x1 t0 s → X62 x1 t0 s) → (∀ x1 x2 t0 s, x8_layTable_b77 X2 X12 X62 X77 X111 X127 X147 X165 X243 Q x1 x2 t0 s → X77 x1 x2 t0 s) → (∀ x1 x2 x3 t0 t1 t2 s, x8_layTable_b111 X2 X12 X62 X77 X111 X127 X147 X165 X243 Q x1 x2 x3 t0 t1 t2 s → X111 x1 x2 x3 t0 t1 t2 s) → (∀ x1 x2 t0 t1 t2 s, x8_layTable_b127 X2 X12 X62 X77 X111 X127 X147 X165 X243 Q x1 x2 t0 t1 t2 s → X127 x1 x2 t0 t1 t2 s) → (∀ x1 x2 t0 s, x8_layTable_b147 X2 X12 X62 X77 X111 X127 X147 X165 X243 Q x1 x2 t0 s → X147 x1 x2 t0 s) → (∀ x1 x2 x4 t0 s, x8_layTable_b165 X2 X12 X62 X77 X111 X127 X147 X165 X243 Q x1 x2 x4 t0 s → X165 x1 x2 x4 t0 s) → (∀ x1 t0 t1 s, x8_layTable_b243 X2 X12 X62 X77 X111 X127 X147 X165 X243 Q x1 t0 t1 s → X243 x1 t0 t1 s) → X147 x1 x2 t0 s
def x8_layTable_L165 (Q : Int → Mem → Prop) (x1 : Int) (x2 : Int) (x4 : Int) (t0 : Int) (s : Mem) : Prop := ∀ (X2 : Int → Mem → Prop) (X12 : Int → Int → Mem → Prop) (X62 : Int → Int → Mem → Prop) (X77 : Int → Int → Int → Mem → Prop) (X111 : Int → Int → Int → Int → Int → Int → Mem → Prop) (X127 : Int → Int → Int → Int → Int → Mem → Prop) (X147 : Int → Int → Int → Mem → Prop) (X165 : Int → Int → Int → Int → Mem → Prop) (X243 : Int → Int → Int → Mem → Prop), (∀ x1 s, x8_layTable_b2 X2 X12 X62 X77 X111 X127 X147 X165 X243 Q x1 s → X2 x1 s) → (∀ x1 x2 s, x8_layTable_b12 X2 X12 X62 X77 X111 X127 X147 X165 X243 Q x1 x2 s → X12 x1 x2 s) → (∀ x1 t0 s, x8_layTable_b62 X2 X12 X62 X77 X111 X127 X147 X165 X243 Q x1 t0 s → X62 x1 t0 s) → (∀ x1 x2 t0 s, x8_layTable_b77 X2 X12 X62 X77 X111 X127 X147 X165 X243 Q x1 x2 t0 s → X77 x1 x2 t0 s) → (∀ x1 x2 x3 t0 t1 t2 s, x8_layTable_b111 X2 X12 X62 X77 X111 X127 X147 X165 X243 Q x1 x2 x3 t0 t1 t2 s → X111 x1 x2 x3 t0 t1 t2 s) → (∀ x1 x2 t0 t1 t2 s, x8_layTable_b127 X2 X12 X62 X77 X111 X127 X147 X165 X243 Q x1 x2 t0 t1 t2 s → X127 x1 x2 t0 t1 t2 s) → (∀ x1 x2 t0 s, x8_layTable_b147 X2 X12 X62 X77 X111 X127 X147 X165 X243 Q x1 x2 t0 s → X147 x1 x2 t0 s) → (∀ x1 x2 x4 t0 s, x8_layTable_b165 X2 X12 X62 X77 X111 X127 X147 X165 X243 Q x1 x2 x4 t0 s → X165 x1 x2 x4 t0 s) → (∀ x1 t0 t1 s, x8_layTable_b243 X2 X12 X62 X77 X111 X127 X147 X165 X243 Q x1 t0 t1 s → X243 x1 t0 t1 s) → X165 x1 x2 x4 t0 s
def x8_layTable_L243 (Q : Int → Mem → Prop) (x1 : Int) (t0 : Int) (t1 : Int) (s : Mem) : Prop := ∀ (X2 : Int → Mem → Prop) (X12 : Int → Int → Mem → Prop) (X62 : Int → Int → Mem → Prop) (X77 : Int → Int → Int → Mem → Prop) (X111 : Int → Int → Int → Int → Int → Int → Mem → Prop) (X127 : Int → Int → Int → Int → Int → Mem → Prop) (X147 : Int → Int → Int → Mem → Prop) (X165 : Int → Int → Int → Int → Mem → Prop) (X243 : Int → Int → Int → Mem → Prop), (∀ x1 s, x8_layTable_b2 X2 X12 X62 X77 X111 X127 X147 X165 X243 Q x1 s → X2 x1 s) → (∀ x1 x2 s, x8_layTable_b12 X2 X12 X62 X77 X111 X127 X147 X165 X243 Q x1 x2 s → X12 x1 x2 s) → (∀ x1 t0 s, x8_layTable_b62 X2 X12 X62 X77 X111 X127 X147 X165 X243 Q x1 t0 s → X62 x1 t0 s) → (∀ x1 x2 t0 s, x8_layTable_b77 X2 X12 X62 X77 X111 X127 X147 X165 X243 Q x1 x2 t0 s → X77 x1 x2 t0 s) → (∀ x1 x2 x3 t0 t1 t2 s, x8_layTable_b111 X2 X12 X62 X77 X111 X127 X147 X165 X243 Q x1 x2 x3 t0 t1 t2 s → X111 x1 x2 x3 t0 t1 t2 s) → (∀ x1 x2 t0 t1 t2 s, x8_layTable_b127 X2 X12 X62 X77 X111 X127 X147 X165 X243 Q x1 x2 t0 t1 t2 s → X127 x1 x2 t0 t1 t2 s) → (∀ x1 x2 t0 s, x8_layTable_b147 X2 X12 X62 X77 X111 X127 X147 X165 X243 Q x1 x2 t0 s → X147 x1 x2 t0 s) → (∀ x1 x2 x4 t0 s, x8_layTable_b165 X2 X12 X62 X77 X111 X127 X147 X165 X243 Q x1 x2 x4 t0 s → X165 x1 x2 x4 t0 s) → (∀ x1 t0 t1 s, x8_layTable_b243 X2 X12 X62 X77 X111 X127 X147 X165 X243 Q x1 t0 t1 s → X243 x1 t0 t1 s) → X243 x1 t0 t1 s
theorem x8_layTable_i {Q : Int → Mem → Prop}  {s : Mem} (h : x8_layTable_be (x8_layTable_L2 Q) (x8_layTable_L12 Q) (x8_layTable_L62 Q) (x8_layTable_L77 Q) (x8_layTable_L111 Q) (x8_layTable_L127 Q) (x8_layTable_L147 Q) (x8_layTable_L165 Q) (x8_layTable_L243 Q) Q  s) : x8_layTable  s Q := fun X2 X12 X62 X77 X111 X127 X147 X165 X243 k2 k12 k62 k77 k111 k127 k147 k165 k243 => x8_layTable_me (fun _ _ h => h X2 X12 X62 X77 X111 X127 X147 X165 X243 k2 k12 k62 k77 k111 k127 k147 k165 k243) (fun _ _ _ h => h X2 X12 X62 X77 X111 X127 X147 X165 X243 k2 k12 k62 k77 k111 k127 k147 k165 k243) (fun _ _ _ h => h X2 X12 X62 X77 X111 X127 X147 X165 X243 k2 k12 k62 k77 k111 k127 k147 k165 k243) (fun _ _ _ _ h => h X2 X12 X62 X77 X111 X127 X147 X165 X243 k2 k12 k62 k77 k111 k127 k147 k165 k243) (fun _ _ _ _ _ _ _ h => h X2 X12 X62 X77 X111 X127 X147 X165 X243 k2 k12 k62 k77 k111 k127 k147 k165 k243) (fun _ _ _ _ _ _ h => h X2 X12 X62 X77 X111 X127 X147 X165 X243 k2 k12 k62 k77 k111 k127 k147 k165 k243) (fun _ _ _ _ h => h X2 X12 X62 X77 X111 X127 X147 X165 X243 k2 k12 k62 k77 k111 k127 k147 k165 k243) (fun _ _ _ _ _ h => h X2 X12 X62 X77 X111 X127 X147 X165 X243 k2 k12 k62 k77 k111 k127 k147 k165 k243) (fun _ _ _ _ h => h X2 X12 X62 X77 X111 X127 X147 X165 X243 k2 k12 k62 k77 k111 k127 k147 k165 k243) (fun _ _ h => h) h
theorem x8_layTable_s2 {Q : Int → Mem → Prop} {x1 : Int} {s : Mem} (h : x8_layTable_b2 (x8_layTable_L2 Q) (x8_layTable_L12 Q) (x8_layTable_L62 Q) (x8_layTable_L77 Q) (x8_layTable_L111 Q) (x8_layTable_L127 Q) (x8_layTable_L147 Q) (x8_layTable_L165 Q) (x8_layTable_L243 Q) Q x1 s) : x8_layTable_L2 Q x1 s := fun X2 X12 X62 X77 X111 X127 X147 X165 X243 k2 k12 k62 k77 k111 k127 k147 k165 k243 => k2 _ _ (x8_layTable_m2 (fun _ _ h => h X2 X12 X62 X77 X111 X127 X147 X165 X243 k2 k12 k62 k77 k111 k127 k147 k165 k243) (fun _ _ _ h => h X2 X12 X62 X77 X111 X127 X147 X165 X243 k2 k12 k62 k77 k111 k127 k147 k165 k243) (fun _ _ _ h => h X2 X12 X62 X77 X111 X127 X147 X165 X243 k2 k12 k62 k77 k111 k127 k147 k165 k243) (fun _ _ _ _ h => h X2 X12 X62 X77 X111 X127 X147 X165 X243 k2 k12 k62 k77 k111 k127 k147 k165 k243) (fun _ _ _ _ _ _ _ h => h X2 X12 X62 X77 X111 X127 X147 X165 X243 k2 k12 k62 k77 k111 k127 k147 k165 k243) (fun _ _ _ _ _ _ h => h X2 X12 X62 X77 X111 X127 X147 X165 X243 k2 k12 k62 k77 k111 k127 k147 k165 k243) (fun _ _ _ _ h => h X2 X12 X62 X77 X111 X127 X147 X165 X243 k2 k12 k62 k77 k111 k127 k147 k165 k243) (fun _ _ _ _ _ h => h X2 X12 X62 X77 X111 X127 X147 X165 X243 k2 k12 k62 k77 k111 k127 k147 k165 k243) (fun _ _ _ _ h => h X2 X12 X62 X77 X111 X127 X147 X165 X243 k2 k12 k62 k77 k111 k127 k147 k165 k243) (fun _ _ h => h) h)
theorem x8_layTable_s12 {Q : Int → Mem → Prop} {x1 : Int} {x2 : Int} {s : Mem} (h : x8_layTable_b12 (x8_layTable_L2 Q) (x8_layTable_L12 Q) (x8_layTable_L62 Q) (x8_layTable_L77 Q) (x8_layTable_L111 Q) (x8_layTable_L127 Q) (x8_layTable_L147 Q) (x8_layTable_L165 Q) (x8_layTable_L243 Q) Q x1 x2 s) : x8_layTable_L12 Q x1 x2 s := fun X2 X12 X62 X77 X111 X127 X147 X165 X243 k2 k12 k62 k77 k111 k127 k147 k165 k243 => k12 _ _ _ (x8_layTable_m12 (fun _ _ h => h X2 X12 X62 X77 X111 X127 X147 X165 X243 k2 k12 k62 k77 k111 k127 k147 k165 k243) (fun _ _ _ h => h X2 X12 X62 X77 X111 X127 X147 X165 X243 k2 k12 k62 k77 k111 k127 k147 k165 k243) (fun _ _ _ h => h X2 X12 X62 X77 X111 X127 X147 X165 X243 k2 k12 k62 k77 k111 k127 k147 k165 k243) (fun _ _ _ _ h => h X2 X12 X62 X77 X111 X127 X147 X165 X243 k2 k12 k62 k77 k111 k127 k147 k165 k243) (fun _ _ _ _ _ _ _ h => h X2 X12 X62 X77 X111 X127 X147 X165 X243 k2 k12 k62 k77 k111 k127 k147 k165 k243) (fun _ _ _ _ _ _ h => h X2 X12 X62 X77 X111 X127 X147 X165 X243 k2 k12 k62 k77 k111 k127 k147 k165 k243) (fun _ _ _ _ h => h X2 X12 X62 X77 X111 X127 X147 X165 X243 k2 k12 k62 k77 k111 k127 k147 k165 k243) (fun _ _ _ _ _ h => h X2 X12 X62 X77 X111 X127 X147 X165 X243 k2 k12 k62 k77 k111 k127 k147 k165 k243) (fun _ _ _ _ h => h X2 X12 X62 X77 X111 X127 X147 X165 X243 k2 k12 k62 k77 k111 k127 k147 k165 k243) (fun _ _ h => h) h)
theorem x8_layTable_s62 {Q : Int → Mem → Prop} {x1 : Int} {t0 : Int} {s : Mem} (h : x8_layTable_b62 (x8_layTable_L2 Q) (x8_layTable_L12 Q) (x8_layTable_L62 Q) (x8_layTable_L77 Q) (x8_layTable_L111 Q) (x8_layTable_L127 Q) (x8_layTable_L147 Q) (x8_layTable_L165 Q) (x8_layTable_L243 Q) Q x1 t0 s) : x8_layTable_L62 Q x1 t0 s := fun X2 X12 X62 X77 X111 X127 X147 X165 X243 k2 k12 k62 k77 k111 k127 k147 k165 k243 => k62 _ _ _ (x8_layTable_m62 (fun _ _ h => h X2 X12 X62 X77 X111 X127 X147 X165 X243 k2 k12 k62 k77 k111 k127 k147 k165 k243) (fun _ _ _ h => h X2 X12 X62 X77 X111 X127 X147 X165 X243 k2 k12 k62 k77 k111 k127 k147 k165 k243) (fun _ _ _ h => h X2 X12 X62 X77 X111 X127 X147 X165 X243 k2 k12 k62 k77 k111 k127 k147 k165 k243) (fun _ _ _ _ h => h X2 X12 X62 X77 X111 X127 X147 X165 X243 k2 k12 k62 k77 k111 k127 k147 k165 k243) (fun _ _ _ _ _ _ _ h => h X2 X12 X62 X77 X111 X127 X147 X165 X243 k2 k12 k62 k77 k111 k127 k147 k165 k243) (fun _ _ _ _ _ _ h => h X2 X12 X62 X77 X111 X127 X147 X165 X243 k2 k12 k62 k77 k111 k127 k147 k165 k243) (fun _ _ _ _ h => h X2 X12 X62 X77 X111 X127 X147 X165 X243 k2 k12 k62 k77 k111 k127 k147 k165 k243) (fun _ _ _ _ _ h => h X2 X12 X62 X77 X111 X127 X147 X165 X243 k2 k12 k62 k77 k111 k127 k147 k165 k243) (fun _ _ _ _ h => h X2 X12 X62 X77 X111 X127 X147 X165 X243 k2 k12 k62 k77 k111 k127 k147 k165 k243) (fun _ _ h => h) h)
theorem x8_layTable_s77 {Q : Int → Mem → Prop} {x1 : Int} {x2 : Int} {t0 : Int} {s : Mem} (h : x8_layTable_b77 (x8_layTable_L2 Q) (x8_layTable_L12 Q) (x8_layTable_L62 Q) (x8_layTable_L77 Q) (x8_layTable_L111 Q) (x8_layTable_L127 Q) (x8_layTable_L147 Q) (x8_layTable_L165 Q) (x8_layTable_L243 Q) Q x1 x2 t0 s) : x8_layTable_L77 Q x1 x2 t0 s := fun X2 X12 X62 X77 X111 X127 X147 X165 X243 k2 k12 k62 k77 k111 k127 k147 k165 k243 => k77 _ _ _ _ (x8_layTable_m77 (fun _ _ h => h X2 X12 X62 X77 X111 X127 X147 X165 X243 k2 k12 k62 k77 k111 k127 k147 k165 k243) (fun _ _ _ h => h X2 X12 X62 X77 X111 X127 X147 X165 X243 k2 k12 k62 k77 k111 k127 k147 k165 k243) (fun _ _ _ h => h X2 X12 X62 X77 X111 X127 X147 X165 X243 k2 k12 k62 k77 k111 k127 k147 k165 k243) (fun _ _ _ _ h => h X2 X12 X62 X77 X111 X127 X147 X165 X243 k2 k12 k62 k77 k111 k127 k147 k165 k243) (fun _ _ _ _ _ _ _ h => h X2 X12 X62 X77 X111 X127 X147 X165 X243 k2 k12 k62 k77 k111 k127 k147 k165 k243) (fun _ _ _ _ _ _ h => h X2 X12 X62 X77 X111 X127 X147 X165 X243 k2 k12 k62 k77 k111 k127 k147 k165 k243) (fun _ _ _ _ h => h X2 X12 X62 X77 X111 X127 X147 X165 X243 k2 k12 k62 k77 k111 k127 k147 k165 k243) (fun _ _ _ _ _ h => h X2 X12 X62 X77 X111 X127 X147 X165 X243 k2 k12 k62 k77 k111 k127 k147 k165 k243) (fun _ _ _ _ h => h X2 X12 X62 X77 X111 X127 X147 X165 X243 k2 k12 k62 k77 k111 k127 k147 k165 k243) (fun _ _ h => h) h)
theorem x8_layTable_s111 {Q : Int → Mem → Prop} {x1 : Int} {x2 : Int} {x3 : Int} {t0 : Int} {t1 : Int} {t2 : Int} {s : Mem} (h : x8_layTable_b111 (x8_layTable_L2 Q) (x8_layTable_L12 Q) (x8_layTable_L62 Q) (x8_layTable_L77 Q) (x8_layTable_L111 Q) (x8_layTable_L127 Q) (x8_layTable_L147 Q) (x8_layTable_L165 Q) (x8_layTable_L243 Q) Q x1 x2 x3 t0 t1 t2 s) : x8_layTable_L111 Q x1 x2 x3 t0 t1 t2 s := fun X2 X12 X62 X77 X111 X127 X147 X165 X243 k2 k12 k62 k77 k111 k127 k147 k165 k243 => k111 _ _ _ _ _ _ _ (x8_layTable_m111 (fun _ _ h => h X2 X12 X62 X77 X111 X127 X147 X165 X243 k2 k12 k62 k77 k111 k127 k147 k165 k243) (fun _ _ _ h => h X2 X12 X62 X77 X111 X127 X147 X165 X243 k2 k12 k62 k77 k111 k127 k147 k165 k243) (fun _ _ _ h => h X2 X12 X62 X77 X111 X127 X147 X165 X243 k2 k12 k62 k77 k111 k127 k147 k165 k243) (fun _ _ _ _ h => h X2 X12 X62 X77 X111 X127 X147 X165 X243 k2 k12 k62 k77 k111 k127 k147 k165 k243) (fun _ _ _ _ _ _ _ h => h X2 X12 X62 X77 X111 X127 X147 X165 X243 k2 k12 k62 k77 k111 k127 k147 k165 k243) (fun _ _ _ _ _ _ h => h X2 X12 X62 X77 X111 X127 X147 X165 X243 k2 k12 k62 k77 k111 k127 k147 k165 k243) (fun _ _ _ _ h => h X2 X12 X62 X77 X111 X127 X147 X165 X243 k2 k12 k62 k77 k111 k127 k147 k165 k243) (fun _ _ _ _ _ h => h X2 X12 X62 X77 X111 X127 X147 X165 X243 k2 k12 k62 k77 k111 k127 k147 k165 k243) (fun _ _ _ _ h => h X2 X12 X62 X77 X111 X127 X147 X165 X243 k2 k12 k62 k77 k111 k127 k147 k165 k243) (fun _ _ h => h) h)
theorem x8_layTable_s127 {Q : Int → Mem → Prop} {x1 : Int} {x2 : Int} {t0 : Int} {t1 : Int} {t2 : Int} {s : Mem} (h : x8_layTable_b127 (x8_layTable_L2 Q) (x8_layTable_L12 Q) (x8_layTable_L62 Q) (x8_layTable_L77 Q) (x8_layTable_L111 Q) (x8_layTable_L127 Q) (x8_layTable_L147 Q) (x8_layTable_L165 Q) (x8_layTable_L243 Q) Q x1 x2 t0 t1 t2 s) : x8_layTable_L127 Q x1 x2 t0 t1 t2 s := fun X2 X12 X62 X77 X111 X127 X147 X165 X243 k2 k12 k62 k77 k111 k127 k147 k165 k243 => k127 _ _ _ _ _ _ (x8_layTable_m127 (fun _ _ h => h X2 X12 X62 X77 X111 X127 X147 X165 X243 k2 k12 k62 k77 k111 k127 k147 k165 k243) (fun _ _ _ h => h X2 X12 X62 X77 X111 X127 X147 X165 X243 k2 k12 k62 k77 k111 k127 k147 k165 k243) (fun _ _ _ h => h X2 X12 X62 X77 X111 X127 X147 X165 X243 k2 k12 k62 k77 k111 k127 k147 k165 k243) (fun _ _ _ _ h => h X2 X12 X62 X77 X111 X127 X147 X165 X243 k2 k12 k62 k77 k111 k127 k147 k165 k243) (fun _ _ _ _ _ _ _ h => h X2 X12 X62 X77 X111 X127 X147 X165 X243 k2 k12 k62 k77 k111 k127 k147 k165 k243) (fun _ _ _ _ _ _ h => h X2 X12 X62 X77 X111 X127 X147 X165 X243 k2 k12 k62 k77 k111 k127 k147 k165 k243) (fun _ _ _ _ h => h X2 X12 X62 X77 X111 X127 X147 X165 X243 k2 k12 k62 k77 k111 k127 k147 k165 k243) (fun _ _ _ _ _ h => h X2 X12 X62 X77 X111 X127 X147 X165 X243 k2 k12 k62 k77 k111 k127 k147 k165 k243) (fun _ _ _ _ h => h X2 X12 X62 X77 X111 X127 X147 X165 X243 k2 k12 k62 k77 k111 k127 k147 k165 k243) (fun _ _ h => h) h)
theorem x8_layTable_s147 {Q : Int → Mem → Prop} {x1 : Int} {x2 : Int} {t0 : Int} {s : Mem} (h : x8_layTable_b147 (x8_layTable_L2 Q) (x8_layTable_L12 Q) (x8_layTable_L62 Q) (x8_layTable_L77 Q) (x8_layTable_L111 Q) (x8_layTable_L127 Q) (x8_layTable_L147 Q) (x8_layTable_L165 Q) (x8_layTable_L243 Q) Q x1 x2 t0 s) : x8_layTable_L147 Q x1 x2 t0 s := fun X2 X12 X62 X77 X111 X127 X147 X165 X243 k2 k12 k62 k77 k111 k127 k147 k165 k243 => k147 _ _ _ _ (x8_layTable_m147 (fun _ _ h => h X2 X12 X62 X77 X111 X127 X147 X165 X243 k2 k12 k62 k77 k111 k127 k147 k165 k243) (fun _ _ _ h => h X2 X12 X62 X77 X111 X127 X147 X165 X243 k2 k12 k62 k77 k111 k127 k147 k165 k243) (fun _ _ _ h => h X2 X12 X62 X77 X111 X127 X147 X165 X243 k2 k12 k62 k77 k111 k127 k147 k165 k243) (fun _ _ _ _ h => h X2 X12 X62 X77 X111 X127 X147 X165 X243 k2 k12 k62 k77 k111 k127 k147 k165 k243) (fun _ _ _ _ _ _ _ h => h X2 X12 X62 X77 X111 X127 X147 X165 X243 k2 k12 k62 k77 k111 k127 k147 k165 k243) (fun _ _ _ _ _ _ h => h X2 X12 X62 X77 X111 X127 X147 X165 X243 k2 k12 k62 k77 k111 k127 k147 k165 k243) (fun _ _ _ _ h => h X2 X12 X62 X77 X111 X127 X147 X165 X243 k2 k12 k62 k77 k111 k127 k147 k165 k243) (fun _ _ _ _ _ h => h X2 X12 X62 X77 X111 X127 X147 X165 X243 k2 k12 k62 k77 k111 k127 k147 k165 k243) (fun _ _ _ _ h => h X2 X12 X62 X77 X111 X127 X147 X165 X243 k2 k12 k62 k77 k111 k127 k147 k165 k243) (fun _ _ h => h) h)
theorem x8_layTable_s165 {Q : Int → Mem → Prop} {x1 : Int} {x2 : Int} {x4 : Int} {t0 : Int} {s : Mem} (h : x8_layTable_b165 (x8_layTable_L2 Q) (x8_layTable_L12 Q) (x8_layTable_L62 Q) (x8_layTable_L77 Q) (x8_layTable_L111 Q) (x8_layTable_L127 Q) (x8_layTable_L147 Q) (x8_layTable_L165 Q) (x8_layTable_L243 Q) Q x1 x2 x4 t0 s) : x8_layTable_L165 Q x1 x2 x4 t0 s := fun X2 X12 X62 X77 X111 X127 X147 X165 X243 k2 k12 k62 k77 k111 k127 k147 k165 k243 => k165 _ _ _ _ _ (x8_layTable_m165 (fun _ _ h => h X2 X12 X62 X77 X111 X127 X147 X165 X243 k2 k12 k62 k77 k111 k127 k147 k165 k243) (fun _ _ _ h => h X2 X12 X62 X77 X111 X127 X147 X165 X243 k2 k12 k62 k77 k111 k127 k147 k165 k243) (fun _ _ _ h => h X2 X12 X62 X77 X111 X127 X147 X165 X243 k2 k12 k62 k77 k111 k127 k147 k165 k243) (fun _ _ _ _ h => h X2 X12 X62 X77 X111 X127 X147 X165 X243 k2 k12 k62 k77 k111 k127 k147 k165 k243) (fun _ _ _ _ _ _ _ h => h X2 X12 X62 X77 X111 X127 X147 X165 X243 k2 k12 k62 k77 k111 k127 k147 k165 k243) (fun _ _ _ _ _ _ h => h X2 X12 X62 X77 X111 X127 X147 X165 X243 k2 k12 k62 k77 k111 k127 k147 k165 k243) (fun _ _ _ _ h => h X2 X12 X62 X77 X111 X127 X147 X165 X243 k2 k12 k62 k77 k111 k127 k147 k165 k243) (fun _ _ _ _ _ h => h X2 X12 X62 X77 X111 X127 X147 X165 X243 k2 k12 k62 k77 k111 k127 k147 k165 k243) (fun _ _ _ _ h => h X2 X12 X62 X77 X111 X127 X147 X165 X243 k2 k12 k62 k77 k111 k127 k147 k165 k243) (fun _ _ h => h) h)
theorem x8_layTable_s243 {Q : Int → Mem → Prop} {x1 : Int} {t0 : Int} {t1 : Int} {s : Mem} (h : x8_layTable_b243 (x8_layTable_L2 Q) (x8_layTable_L12 Q) (x8_layTable_L62 Q) (x8_layTable_L77 Q) (x8_layTable_L111 Q) (x8_layTable_L127 Q) (x8_layTable_L147 Q) (x8_layTable_L165 Q) (x8_layTable_L243 Q) Q x1 t0 t1 s) : x8_layTable_L243 Q x1 t0 t1 s := fun X2 X12 X62 X77 X111 X127 X147 X165 X243 k2 k12 k62 k77 k111 k127 k147 k165 k243 => k243 _ _ _ _ (x8_layTable_m243 (fun _ _ h => h X2 X12 X62 X77 X111 X127 X147 X165 X243 k2 k12 k62 k77 k111 k127 k147 k165 k243) (fun _ _ _ h => h X2 X12 X62 X77 X111 X127 X147 X165 X243 k2 k12 k62 k77 k111 k127 k147 k165 k243) (fun _ _ _ h => h X2 X12 X62 X77 X111 X127 X147 X165 X243 k2 k12 k62 k77 k111 k127 k147 k165 k243) (fun _ _ _ _ h => h X2 X12 X62 X77 X111 X127 X147 X165 X243 k2 k12 k62 k77 k111 k127 k147 k165 k243) (fun _ _ _ _ _ _ _ h => h X2 X12 X62 X77 X111 X127 X147 X165 X243 k2 k12 k62 k77 k111 k127 k147 k165 k243) (fun _ _ _ _ _ _ h => h X2 X12 X62 X77 X111 X127 X147 X165 X243 k2 k12 k62 k77 k111 k127 k147 k165 k243) (fun _ _ _ _ h => h X2 X12 X62 X77 X111 X127 X147 X165 X243 k2 k12 k62 k77 k111 k127 k147 k165 k243) (fun _ _ _ _ _ h => h X2 X12 X62 X77 X111 X127 X147 X165 X243 k2 k12 k62 k77 k111 k127 k147 k165 k243) (fun _ _ _ _ h => h X2 X12 X62 X77 X111 X127 X147 X165 X243 k2 k12 k62 k77 k111 k127 k147 k165 k243) (fun _ _ h => h) h)
theorem x8_layTable_mono {Q R : Int → Mem → Prop}  {s : Mem} (h : x8_layTable  s Q) (hQ : ∀ r s, Q r s → R r s) : x8_layTable  s R := fun X2 X12 X62 X77 X111 X127 X147 X165 X243 k2 k12 k62 k77 k111 k127 k147 k165 k243 => x8_layTable_me (fun _ _ h => h) (fun _ _ _ h => h) (fun _ _ _ h => h) (fun _ _ _ _ h => h) (fun _ _ _ _ _ _ _ h => h) (fun _ _ _ _ _ _ h => h) (fun _ _ _ _ h => h) (fun _ _ _ _ _ h => h) (fun _ _ _ _ h => h) hQ (h X2 X12 X62 X77 X111 X127 X147 X165 X243 (fun _ _ h => k2 _ _ (x8_layTable_m2 (fun _ _ h => h) (fun _ _ _ h => h) (fun _ _ _ h => h) (fun _ _ _ _ h => h) (fun _ _ _ _ _ _ _ h => h) (fun _ _ _ _ _ _ h => h) (fun _ _ _ _ h => h) (fun _ _ _ _ _ h => h) (fun _ _ _ _ h => h) hQ h)) (fun _ _ _ h => k12 _ _ _ (x8_layTable_m12 (fun _ _ h => h) (fun _ _ _ h => h) (fun _ _ _ h => h) (fun _ _ _ _ h => h) (fun _ _ _ _ _ _ _ h => h) (fun _ _ _ _ _ _ h => h) (fun _ _ _ _ h => h) (fun _ _ _ _ _ h => h) (fun _ _ _ _ h => h) hQ h)) (fun _ _ _ h => k62 _ _ _ (x8_layTable_m62 (fun _ _ h => h) (fun _ _ _ h => h) (fun _ _ _ h => h) (fun _ _ _ _ h => h) (fun _ _ _ _ _ _ _ h => h) (fun _ _ _ _ _ _ h => h) (fun _ _ _ _ h => h) (fun _ _ _ _ _ h => h) (fun _ _ _ _ h => h) hQ h)) (fun _ _ _ _ h => k77 _ _ _ _ (x8_layTable_m77 (fun _ _ h => h) (fun _ _ _ h => h) (fun _ _ _ h => h) (fun _ _ _ _ h => h) (fun _ _ _ _ _ _ _ h => h) (fun _ _ _ _ _ _ h => h) (fun _ _ _ _ h => h) (fun _ _ _ _ _ h => h) (fun _ _ _ _ h => h) hQ h)) (fun _ _ _ _ _ _ _ h => k111 _ _ _ _ _ _ _ (x8_layTable_m111 (fun _ _ h => h) (fun _ _ _ h => h) (fun _ _ _ h => h) (fun _ _ _ _ h => h) (fun _ _ _ _ _ _ _ h => h) (fun _ _ _ _ _ _ h => h) (fun _ _ _ _ h => h) (fun _ _ _ _ _ h => h) (fun _ _ _ _ h => h) hQ h)) (fun _ _ _ _ _ _ h => k127 _ _ _ _ _ _ (x8_layTable_m127 (fun _ _ h => h) (fun _ _ _ h => h) (fun _ _ _ h => h) (fun _ _ _ _ h => h) (fun _ _ _ _ _ _ _ h => h) (fun _ _ _ _ _ _ h => h) (fun _ _ _ _ h => h) (fun _ _ _ _ _ h => h) (fun _ _ _ _ h => h) hQ h)) (fun _ _ _ _ h => k147 _ _ _ _ (x8_layTable_m147 (fun _ _ h => h) (fun _ _ _ h => h) (fun _ _ _ h => h) (fun _ _ _ _ h => h) (fun _ _ _ _ _ _ _ h => h) (fun _ _ _ _ _ _ h => h) (fun _ _ _ _ h => h) (fun _ _ _ _ _ h => h) (fun _ _ _ _ h => h) hQ h)) (fun _ _ _ _ _ h => k165 _ _ _ _ _ (x8_layTable_m165 (fun _ _ h => h) (fun _ _ _ h => h) (fun _ _ _ h => h) (fun _ _ _ _ h => h) (fun _ _ _ _ _ _ _ h => h) (fun _ _ _ _ _ _ h => h) (fun _ _ _ _ h => h) (fun _ _ _ _ _ h => h) (fun _ _ _ _ h => h) hQ h)) (fun _ _ _ _ h => k243 _ _ _ _ (x8_layTable_m243 (fun _ _ h => h) (fun _ _ _ h => h) (fun _ _ _ h => h) (fun _ _ _ _ h => h) (fun _ _ _ _ _ _ _ h => h) (fun _ _ _ _ _ _ h => h) (fun _ _ _ _ h => h) (fun _ _ _ _ _ h => h) (fun _ _ _ _ h => h) hQ h)))
def x8_layTable_rm : Room := { frames := 0, cells := 0, slots := 0, locals := 0 }
theorem w_x8_layTable_86 : Cond.fieldLink RX8 86 "BoltRingModel" "n" "I" ∈ wsX8_layTable := by decide +kernel
theorem w_x8_layTable_51 : Cond.fieldLink RX8 51 "BoltRingModel" "way" "[I" ∈ wsX8_layTable := by decide +kernel
theorem w_x8_layTable_22 : Cond.fieldLink RX8 22 "BoltRingModel" "isBroken" "[Z" ∈ wsX8_layTable := by decide +kernel
theorem w_x8_layTable_48 : Cond.fieldLink RX8 48 "BoltRingModel" "table" "[J" ∈ wsX8_layTable := by decide +kernel
theorem w_x8_layTable_122 : Cond.constantLong RX8 122 (2) ∈ wsX8_layTable := by decide +kernel
theorem w_x8_layTable_89 : Cond.fieldLink RX8 89 "BoltRingModel" "rib" "I" ∈ wsX8_layTable := by decide +kernel
theorem w_x8_layTable_7 : Cond.fieldLink RX8 7 "BoltRingModel" "stiff" "[I" ∈ wsX8_layTable := by decide +kernel
theorem w_x8_layTable_13 : Cond.fieldLink RX8 13 "BoltRingModel" "pad" "[I" ∈ wsX8_layTable := by decide +kernel
theorem w_x8_layTable_16 : Cond.fieldLink RX8 16 "BoltRingModel" "turns" "[I" ∈ wsX8_layTable := by decide +kernel
theorem w_x8_layTable_19 : Cond.fieldLink RX8 19 "BoltRingModel" "load" "[I" ∈ wsX8_layTable := by decide +kernel
theorem in_x8_layTable_X8 : ∀ w ∈ wsX80, w ∈ wsX8_layTable := by decide +kernel
set_option maxHeartbeats 4000000 in
set_option maxRecDepth 100000 in
theorem x8_layTable_bd {κ : KT} {ad : Nat → Nat} {cA : Nat → ClassId} {D : va_G} {Q : State → Prop}  {s : Mem} (C : CX κ (GB ad cA D) RX8 cX8_layTable 6 wsX8_layTable x8_layTable_rm none) (h : x8_layTable  s (RT κ (GB ad cA D) ocV Q)) : WM κ (GB ad cA D) 6 Q s 0 [(0, .ref (ad 0))] [] := by
  obtain ⟨Z2, z2⟩ : ∃ Z : Int → Mem → Prop, ∀ x1 s, Z x1 s ↔ WM κ (GB ad cA D) 6 Q s 2 [(0, .ref (ad 0)), (1, vI x1)] [] := ⟨fun x1 s => WM κ (GB ad cA D) 6 Q s 2 [(0, .ref (ad 0)), (1, vI x1)] [], fun _ _ => Iff.rfl⟩
  obtain ⟨Z12, z12⟩ : ∃ Z : Int → Int → Mem → Prop, ∀ x1 x2 s, Z x1 x2 s ↔ WM κ (GB ad cA D) 6 Q s 12 [(0, .ref (ad 0)), (1, vI x1), (2, vI x2)] [] := ⟨fun x1 x2 s => WM κ (GB ad cA D) 6 Q s 12 [(0, .ref (ad 0)), (1, vI x1), (2, vI x2)] [], fun _ _ _ => Iff.rfl⟩
  obtain ⟨Z62, z62⟩ : ∃ Z : Int → Int → Mem → Prop, ∀ x1 t0 s, Z x1 t0 s ↔ WM κ (GB ad cA D) 6 Q s 62 [(0, .ref (ad 0)), (1, vI x1)] [vI t0] := ⟨fun x1 t0 s => WM κ (GB ad cA D) 6 Q s 62 [(0, .ref (ad 0)), (1, vI x1)] [vI t0], fun _ _ _ => Iff.rfl⟩
  obtain ⟨Z77, z77⟩ : ∃ Z : Int → Int → Int → Mem → Prop, ∀ x1 x2 t0 s, Z x1 x2 t0 s ↔ WM κ (GB ad cA D) 6 Q s 77 [(0, .ref (ad 0)), (1, vI x1), (2, vI x2)] [vI t0] := ⟨fun x1 x2 t0 s => WM κ (GB ad cA D) 6 Q s 77 [(0, .ref (ad 0)), (1, vI x1), (2, vI x2)] [vI t0], fun _ _ _ _ => Iff.rfl⟩
  obtain ⟨Z111, z111⟩ : ∃ Z : Int → Int → Int → Int → Int → Int → Mem → Prop, ∀ x1 x2 x3 t0 t1 t2 s, Z x1 x2 x3 t0 t1 t2 s ↔ WM κ (GB ad cA D) 6 Q s 111 [(0, .ref (ad 0)), (1, vI x1), (2, vI x2), (3, vI x3)] [vI t0, vL t1, vI t2, .ref (ad 13)] := ⟨fun x1 x2 x3 t0 t1 t2 s => WM κ (GB ad cA D) 6 Q s 111 [(0, .ref (ad 0)), (1, vI x1), (2, vI x2), (3, vI x3)] [vI t0, vL t1, vI t2, .ref (ad 13)], fun _ _ _ _ _ _ _ => Iff.rfl⟩
  obtain ⟨Z127, z127⟩ : ∃ Z : Int → Int → Int → Int → Int → Mem → Prop, ∀ x1 x2 t0 t1 t2 s, Z x1 x2 t0 t1 t2 s ↔ WM κ (GB ad cA D) 6 Q s 127 [(0, .ref (ad 0)), (1, vI x1), (2, vI x2)] [vI t0, vL t1, vI t2, .ref (ad 13)] := ⟨fun x1 x2 t0 t1 t2 s => WM κ (GB ad cA D) 6 Q s 127 [(0, .ref (ad 0)), (1, vI x1), (2, vI x2)] [vI t0, vL t1, vI t2, .ref (ad 13)], fun _ _ _ _ _ _ => Iff.rfl⟩
  obtain ⟨Z147, z147⟩ : ∃ Z : Int → Int → Int → Mem → Prop, ∀ x1 x2 t0 s, Z x1 x2 t0 s ↔ WM κ (GB ad cA D) 6 Q s 147 [(0, .ref (ad 0)), (1, vI x1), (2, vI x2)] [vI t0] := ⟨fun x1 x2 t0 s => WM κ (GB ad cA D) 6 Q s 147 [(0, .ref (ad 0)), (1, vI x1), (2, vI x2)] [vI t0], fun _ _ _ _ => Iff.rfl⟩
  obtain ⟨Z165, z165⟩ : ∃ Z : Int → Int → Int → Int → Mem → Prop, ∀ x1 x2 x4 t0 s, Z x1 x2 x4 t0 s ↔ WM κ (GB ad cA D) 6 Q s 165 [(0, .ref (ad 0)), (1, vI x1), (2, vI x2), (4, vI x4)] [vI t0] := ⟨fun x1 x2 x4 t0 s => WM κ (GB ad cA D) 6 Q s 165 [(0, .ref (ad 0)), (1, vI x1), (2, vI x2), (4, vI x4)] [vI t0], fun _ _ _ _ _ => Iff.rfl⟩
  obtain ⟨Z243, z243⟩ : ∃ Z : Int → Int → Int → Mem → Prop, ∀ x1 t0 t1 s, Z x1 t0 t1 s ↔ WM κ (GB ad cA D) 6 Q s 243 [(0, .ref (ad 0)), (1, vI x1)] [vL t0, vI t1, .ref (ad 13)] := ⟨fun x1 t0 t1 s => WM κ (GB ad cA D) 6 Q s 243 [(0, .ref (ad 0)), (1, vI x1)] [vL t0, vI t1, .ref (ad 13)], fun _ _ _ _ => Iff.rfl⟩
  refine (fun h => ?_) (h Z2 Z12 Z62 Z77 Z111 Z127 Z147 Z165 Z243 ?_ ?_ ?_ ?_ ?_ ?_ ?_ ?_ ?_)
  · refine r_iconst C dX8_layTable_0 ?_
    refine r_istore_n (ls' := [(1, vI (0 : Int)), (0, .ref (ad 0))]) C dX8_layTable_1 rfl (by decide) rfl ?_
    exact r_perm [1, 0] rfl ((z2 _ _).1 h)
  · intro x1 s h
    refine (z2 _ _).2 ?_
    refine r_iload_n C 1 dX8_layTable_2 rfl ?_
    refine r_aload_n C 0 dX8_layTable_3 rfl ?_
    refine r_get (j := 0) (jz := 0) (v := vI (s 0 (0 : Int))) C dX8_layTable_4 (shB_0) rfl rfl (by decide) in_x8_layTable_X8 w_x8_layTable_86 rfl rfl rfl ?_
    refine r_icmp_ge (tgt := 258) C dX8_layTable_7 (by decide) ⟨h.1, fun c1 => ?_, fun c1 => ?_⟩
    · have h := h.2.1 c1
      exact r_return C dX8_layTable_258 h
    · have h := h.2.2 c1
      refine r_iconst C dX8_layTable_10 ?_
      refine r_istore_n (ls' := [(2, vI (0 : Int)), (0, .ref (ad 0)), (1, vI x1)]) C dX8_layTable_11 rfl (by decide) rfl ?_
      exact r_perm [1, 2, 0] rfl ((z12 _ _ _).1 h)
  · intro x1 x2 s h
    refine (z12 _ _ _).2 ?_
    refine r_iload_n C 2 dX8_layTable_12 rfl ?_
    refine r_aload_n C 0 dX8_layTable_13 rfl ?_
    refine r_get (j := 0) (jz := 0) (v := vI (s 0 (0 : Int))) C dX8_layTable_14 (shB_0) rfl rfl (by decide) in_x8_layTable_X8 w_x8_layTable_86 rfl rfl rfl ?_
    refine r_icmp_gt (tgt := 38) C dX8_layTable_17 (by decide) ⟨h.1, fun c5 => ?_, fun c5 => ?_⟩
    · have h := h.2.1 c5
      refine r_aload_n C 0 dX8_layTable_38 rfl ?_
      refine r_get (j := 17) (jz := 17) (v := .ref (ad 14)) C dX8_layTable_39 (shB_0) rfl rfl (by decide) in_x8_layTable_X8 w_x8_layTable_51 rfl rfl rfl ?_
      refine r_iload_n C 1 dX8_layTable_42 rfl ?_
      refine r_iald (nz := 6) C dX8_layTable_43 (shB_14) rfl (by decide) ⟨h.1, ?_⟩
      have h := h.2
      refine r_iconst C dX8_layTable_44 ?_
      refine r_icmp_ge (tgt := 61) C dX8_layTable_45 (by decide) ⟨h.1, fun c3 => ?_, fun c3 => ?_⟩
      · have h := h.2.1 c3
        refine r_iconst C dX8_layTable_61 ?_
        exact r_perm [0, 1] rfl ((z62 _ _ _).1 h)
      · have h := h.2.2 c3
        refine r_aload_n C 0 dX8_layTable_48 rfl ?_
        refine r_get (j := 6) (jz := 6) (v := .ref (ad 5)) C dX8_layTable_49 (shB_0) rfl rfl (by decide) in_x8_layTable_X8 w_x8_layTable_22 rfl rfl rfl ?_
        refine r_iload_n C 1 dX8_layTable_52 rfl ?_
        refine r_zald (nz := 6) C dX8_layTable_53 (shB_5) rfl (by decide) ⟨h.1, ?_⟩
        have h := h.2
        refine r_if_ne (tgt := 61) C dX8_layTable_54 (by decide) ⟨h.1, fun c2 => ?_, fun c2 => ?_⟩
        · have h := h.2.1 c2
          refine r_iconst C dX8_layTable_61 ?_
          exact r_perm [0, 1] rfl ((z62 _ _ _).1 h)
        · have h := h.2.2 c2
          refine r_iconst C dX8_layTable_57 ?_
          refine r_goto (tgt := 62) C dX8_layTable_58 (by decide) ?_
          exact r_perm [0, 1] rfl ((z62 _ _ _).1 h)
    · have h := h.2.2 c5
      refine r_aload_n C 0 dX8_layTable_20 rfl ?_
      refine r_get (j := 16) (jz := 16) (v := .ref (ad 13)) C dX8_layTable_21 (shB_0) rfl rfl (by decide) in_x8_layTable_X8 w_x8_layTable_48 rfl rfl rfl ?_
      refine r_bipush C dX8_layTable_24 (by decide) ?_
      refine r_iload_n C 1 dX8_layTable_26 rfl ?_
      refine r_imul C dX8_layTable_27 ?_
      refine r_iload_n C 2 dX8_layTable_28 rfl ?_
      refine r_iadd C dX8_layTable_29 ?_
      refine r_lconst (z := 0) C dX8_layTable_30 rfl ?_
      refine r_last (nz := 42) C dX8_layTable_31 (shB_13) rfl (by decide) ⟨h.1, fun s4 e_s4 => ?_⟩
      have h := h.2 s4 e_s4
      refine r_iinc (j := 2) (ls' := [(2, vI (x2 + (1 : Int))), (0, .ref (ad 0)), (1, vI x1)]) C dX8_layTable_32 rfl (by decide) rfl ?_
      refine r_goto (tgt := 12) C dX8_layTable_35 (by decide) ?_
      exact r_perm [1, 2, 0] rfl ((z12 _ _ _).1 h)
  · intro x1 t0 s h
    refine (z62 _ _ _).2 ?_
    refine r_istore_n (ls' := [(2, vI t0), (0, .ref (ad 0)), (1, vI x1)]) C dX8_layTable_62 rfl (by decide) rfl ?_
    refine r_aload_n C 1 dX8_layTable_63 rfl ?_
    refine r_get (j := 17) (jz := 17) (v := .ref (ad 14)) C dX8_layTable_64 (shB_0) rfl rfl (by decide) in_x8_layTable_X8 w_x8_layTable_51 rfl rfl rfl ?_
    refine r_iload_n C 2 dX8_layTable_67 rfl ?_
    refine r_iald (nz := 6) C dX8_layTable_68 (shB_14) rfl (by decide) ⟨h.1, ?_⟩
    have h := h.2
    refine r_if_le (tgt := 76) C dX8_layTable_69 (by decide) ⟨h.1, fun c6 => ?_, fun c6 => ?_⟩
    · have h := h.2.1 c6
      refine r_iconst C dX8_layTable_76 ?_
      exact r_perm [1, 2, 0] rfl ((z77 _ _ _ _).1 h)
    · have h := h.2.2 c6
      refine r_iconst C dX8_layTable_72 ?_
      refine r_goto (tgt := 77) C dX8_layTable_73 (by decide) ?_
      exact r_perm [1, 2, 0] rfl ((z77 _ _ _ _).1 h)
  · intro x1 x2 t0 s h
    refine (z77 _ _ _ _).2 ?_
    refine r_istore_n (ls' := [(3, vI t0), (0, .ref (ad 0)), (1, vI x1), (2, vI x2)]) C dX8_layTable_77 rfl (by decide) rfl ?_
    refine r_aload_n C 1 dX8_layTable_78 rfl ?_
    refine r_get (j := 16) (jz := 16) (v := .ref (ad 13)) C dX8_layTable_79 (shB_0) rfl rfl (by decide) in_x8_layTable_X8 w_x8_layTable_48 rfl rfl rfl ?_
    refine r_bipush C dX8_layTable_82 (by decide) ?_
    refine r_iload_n C 2 dX8_layTable_84 rfl ?_
    refine r_imul C dX8_layTable_85 ?_
    refine r_iload_n C 2 dX8_layTable_86 rfl ?_
    refine r_iadd C dX8_layTable_87 ?_
    refine r_ldc2 (z := 2) C dX8_layTable_88 w_x8_layTable_122 rfl ?_
    refine r_aload_n C 1 dX8_layTable_91 rfl ?_
    refine r_get (j := 1) (jz := 1) (v := vI (s 0 (1 : Int))) C dX8_layTable_92 (shB_0) rfl rfl (by decide) in_x8_layTable_X8 w_x8_layTable_89 rfl rfl rfl ?_
    refine r_i2l C dX8_layTable_95 ⟨h.1, ?_⟩
    have h := h.2
    refine r_lmul C dX8_layTable_96 ?_
    refine r_iload_n C 3 dX8_layTable_97 rfl ?_
    refine r_if_eq (tgt := 110) C dX8_layTable_98 (by decide) ⟨h.1, fun c7 => ?_, fun c7 => ?_⟩
    · have h := h.2.1 c7
      refine r_iconst C dX8_layTable_110 ?_
      exact r_perm [1, 2, 3, 0] rfl ((z111 _ _ _ _ _ _ _).1 h)
    · have h := h.2.2 c7
      refine r_aload_n C 1 dX8_layTable_101 rfl ?_
      refine r_get (j := 2) (jz := 2) (v := .ref (ad 1)) C dX8_layTable_102 (shB_0) rfl rfl (by decide) in_x8_layTable_X8 w_x8_layTable_7 rfl rfl rfl ?_
      refine r_iload_n C 2 dX8_layTable_105 rfl ?_
      refine r_iald (nz := 6) C dX8_layTable_106 (shB_1) rfl (by decide) ⟨h.1, ?_⟩
      have h := h.2
      refine r_goto (tgt := 111) C dX8_layTable_107 (by decide) ?_
      exact r_perm [1, 2, 3, 0] rfl ((z111 _ _ _ _ _ _ _).1 h)
  · intro x1 x2 x3 t0 t1 t2 s h
    refine (z111 _ _ _ _ _ _ _).2 ?_
    refine r_i2l C dX8_layTable_111 ⟨h.1, ?_⟩
    have h := h.2
    refine r_ladd C dX8_layTable_112 ?_
    refine r_iload_n C 3 dX8_layTable_113 rfl ?_
    refine r_if_eq (tgt := 126) C dX8_layTable_114 (by decide) ⟨h.1, fun c8 => ?_, fun c8 => ?_⟩
    · have h := h.2.1 c8
      refine r_iconst C dX8_layTable_126 ?_
      exact r_perm [0, 1, 2] rfl ((z127 _ _ _ _ _ _).1 h)
    · have h := h.2.2 c8
      refine r_aload_n C 0 dX8_layTable_117 rfl ?_
      refine r_get (j := 3) (jz := 3) (v := .ref (ad 2)) C dX8_layTable_118 (shB_0) rfl rfl (by decide) in_x8_layTable_X8 w_x8_layTable_13 rfl rfl rfl ?_
      refine r_iload_n C 1 dX8_layTable_121 rfl ?_
      refine r_iald (nz := 6) C dX8_layTable_122 (shB_2) rfl (by decide) ⟨h.1, ?_⟩
      have h := h.2
      refine r_goto (tgt := 127) C dX8_layTable_123 (by decide) ?_
      exact r_perm [0, 1, 2] rfl ((z127 _ _ _ _ _ _).1 h)
  · intro x1 x2 t0 t1 t2 s h
    refine (z127 _ _ _ _ _ _).2 ?_
    refine r_i2l C dX8_layTable_127 ⟨h.1, ?_⟩
    have h := h.2
    refine r_ladd C dX8_layTable_128 ?_
    refine r_last (nz := 42) C dX8_layTable_129 (shB_13) rfl (by decide) ⟨h.1, fun s9 e_s9 => ?_⟩
    have h := h.2 s9 e_s9
    refine r_iload_n C 1 dX8_layTable_130 rfl ?_
    refine r_iconst C dX8_layTable_131 ?_
    refine r_iadd C dX8_layTable_132 ?_
    refine r_aload_n C 0 dX8_layTable_133 rfl ?_
    refine r_get (j := 0) (jz := 0) (v := vI (s9 0 (0 : Int))) C dX8_layTable_134 (shB_0) rfl rfl (by decide) in_x8_layTable_X8 w_x8_layTable_86 rfl rfl rfl ?_
    refine r_icmp_ne (tgt := 144) C dX8_layTable_137 (by decide) ⟨h.1, fun c10 => ?_, fun c10 => ?_⟩
    · have h := h.2.1 c10
      refine r_iload_n C 1 dX8_layTable_144 rfl ?_
      refine r_iconst C dX8_layTable_145 ?_
      refine r_iadd C dX8_layTable_146 ?_
      exact r_perm [0, 1, 2] rfl ((z147 _ _ _ _).1 h)
    · have h := h.2.2 c10
      refine r_iconst C dX8_layTable_140 ?_
      refine r_goto (tgt := 147) C dX8_layTable_141 (by decide) ?_
      exact r_perm [0, 1, 2] rfl ((z147 _ _ _ _).1 h)
  · intro x1 x2 t0 s h
    refine (z147 _ _ _ _).2 ?_
    refine r_istore (ls' := [(4, vI t0), (0, .ref (ad 0)), (1, vI x1), (2, vI x2)]) C dX8_layTable_147 (by decide) rfl ?_
    refine r_iload_n C 2 dX8_layTable_149 rfl ?_
    refine r_if_ne (tgt := 162) C dX8_layTable_150 (by decide) ⟨h.1, fun c11 => ?_, fun c11 => ?_⟩
    · have h := h.2.1 c11
      refine r_iload_n C 2 dX8_layTable_162 rfl ?_
      refine r_iconst C dX8_layTable_163 ?_
      refine r_isub C dX8_layTable_164 ?_
      exact r_perm [1, 2, 3, 0] rfl ((z165 _ _ _ _ _).1 h)
    · have h := h.2.2 c11
      refine r_aload_n C 1 dX8_layTable_153 rfl ?_
      refine r_get (j := 0) (jz := 0) (v := vI (s 0 (0 : Int))) C dX8_layTable_154 (shB_0) rfl rfl (by decide) in_x8_layTable_X8 w_x8_layTable_86 rfl rfl rfl ?_
      refine r_iconst C dX8_layTable_157 ?_
      refine r_isub C dX8_layTable_158 ?_
      refine r_goto (tgt := 165) C dX8_layTable_159 (by decide) ?_
      exact r_perm [1, 2, 3, 0] rfl ((z165 _ _ _ _ _).1 h)
  · intro x1 x2 x4 t0 s h
    refine (z165 _ _ _ _ _).2 ?_
    refine r_istore (ls' := [(5, vI t0), (0, .ref (ad 0)), (1, vI x1), (2, vI x2), (4, vI x4)]) C dX8_layTable_165 (by decide) rfl ?_
    refine r_aload_n C 1 dX8_layTable_167 rfl ?_
    refine r_get (j := 16) (jz := 16) (v := .ref (ad 13)) C dX8_layTable_168 (shB_0) rfl rfl (by decide) in_x8_layTable_X8 w_x8_layTable_48 rfl rfl rfl ?_
    refine r_bipush C dX8_layTable_171 (by decide) ?_
    refine r_iload_n C 2 dX8_layTable_173 rfl ?_
    refine r_imul C dX8_layTable_174 ?_
    refine r_iload C 4 dX8_layTable_175 rfl ?_
    refine r_iadd C dX8_layTable_177 ?_
    refine r_dup2 C dX8_layTable_178 rfl rfl ?_
    refine r_lald (nz := 42) C dX8_layTable_179 (shB_13) rfl (by decide) ⟨h.1, ?_⟩
    have h := h.2
    refine r_aload_n C 1 dX8_layTable_180 rfl ?_
    refine r_get (j := 1) (jz := 1) (v := vI (s 0 (1 : Int))) C dX8_layTable_181 (shB_0) rfl rfl (by decide) in_x8_layTable_X8 w_x8_layTable_89 rfl rfl rfl ?_
    refine r_i2l C dX8_layTable_184 ⟨h.1, ?_⟩
    have h := h.2
    refine r_lsub C dX8_layTable_185 ?_
    refine r_last (nz := 42) C dX8_layTable_186 (shB_13) rfl (by decide) ⟨h.1, fun s12 e_s12 => ?_⟩
    have h := h.2 s12 e_s12
    refine r_aload_n C 1 dX8_layTable_187 rfl ?_
    refine r_get (j := 16) (jz := 16) (v := .ref (ad 13)) C dX8_layTable_188 (shB_0) rfl rfl (by decide) in_x8_layTable_X8 w_x8_layTable_48 rfl rfl rfl ?_
    refine r_bipush C dX8_layTable_191 (by decide) ?_
    refine r_iload_n C 2 dX8_layTable_193 rfl ?_
    refine r_imul C dX8_layTable_194 ?_
    refine r_iload C 0 dX8_layTable_195 rfl ?_
    refine r_iadd C dX8_layTable_197 ?_
    refine r_dup2 C dX8_layTable_198 rfl rfl ?_
    refine r_lald (nz := 42) C dX8_layTable_199 (shB_13) rfl (by decide) ⟨h.1, ?_⟩
    have h := h.2
    refine r_aload_n C 1 dX8_layTable_200 rfl ?_
    refine r_get (j := 1) (jz := 1) (v := vI (s12 0 (1 : Int))) C dX8_layTable_201 (shB_0) rfl rfl (by decide) in_x8_layTable_X8 w_x8_layTable_89 rfl rfl rfl ?_
    refine r_i2l C dX8_layTable_204 ⟨h.1, ?_⟩
    have h := h.2
    refine r_lsub C dX8_layTable_205 ?_
    refine r_last (nz := 42) C dX8_layTable_206 (shB_13) rfl (by decide) ⟨h.1, fun s13 e_s13 => ?_⟩
    have h := h.2 s13 e_s13
    refine r_aload_n C 1 dX8_layTable_207 rfl ?_
    refine r_get (j := 16) (jz := 16) (v := .ref (ad 13)) C dX8_layTable_208 (shB_0) rfl rfl (by decide) in_x8_layTable_X8 w_x8_layTable_48 rfl rfl rfl ?_
    refine r_bipush C dX8_layTable_211 (by decide) ?_
    refine r_iload_n C 2 dX8_layTable_213 rfl ?_
    refine r_imul C dX8_layTable_214 ?_
    refine r_aload_n C 1 dX8_layTable_215 rfl ?_
    refine r_get (j := 0) (jz := 0) (v := vI (s13 0 (0 : Int))) C dX8_layTable_216 (shB_0) rfl rfl (by decide) in_x8_layTable_X8 w_x8_layTable_86 rfl rfl rfl ?_
    refine r_iadd C dX8_layTable_219 ?_
    refine r_iload_n C 3 dX8_layTable_220 rfl ?_
    refine r_if_eq (tgt := 242) C dX8_layTable_221 (by decide) ⟨h.1, fun c14 => ?_, fun c14 => ?_⟩
    · have h := h.2.1 c14
      refine r_lconst (z := 0) C dX8_layTable_242 rfl ?_
      exact r_perm [1, 2] rfl ((z243 _ _ _ _).1 h)
    · have h := h.2.2 c14
      refine r_aload_n C 1 dX8_layTable_224 rfl ?_
      refine r_get (j := 2) (jz := 2) (v := .ref (ad 1)) C dX8_layTable_225 (shB_0) rfl rfl (by decide) in_x8_layTable_X8 w_x8_layTable_7 rfl rfl rfl ?_
      refine r_iload_n C 2 dX8_layTable_228 rfl ?_
      refine r_iald (nz := 6) C dX8_layTable_229 (shB_1) rfl (by decide) ⟨h.1, ?_⟩
      have h := h.2
      refine r_i2l C dX8_layTable_230 ⟨h.1, ?_⟩
      have h := h.2
      refine r_aload_n C 1 dX8_layTable_231 rfl ?_
      refine r_get (j := 4) (jz := 4) (v := .ref (ad 3)) C dX8_layTable_232 (shB_0) rfl rfl (by decide) in_x8_layTable_X8 w_x8_layTable_16 rfl rfl rfl ?_
      refine r_iload_n C 2 dX8_layTable_235 rfl ?_
      refine r_iald (nz := 6) C dX8_layTable_236 (shB_3) rfl (by decide) ⟨h.1, ?_⟩
      have h := h.2
      refine r_i2l C dX8_layTable_237 ⟨h.1, ?_⟩
      have h := h.2
      refine r_lmul C dX8_layTable_238 ?_
      refine r_goto (tgt := 243) C dX8_layTable_239 (by decide) ?_
      exact r_perm [1, 2] rfl ((z243 _ _ _ _).1 h)
  · intro x1 t0 t1 s h
    refine (z243 _ _ _ _).2 ?_
    refine r_aload_n C 0 dX8_layTable_243 rfl ?_
    refine r_get (j := 5) (jz := 5) (v := .ref (ad 4)) C dX8_layTable_244 (shB_0) rfl rfl (by decide) in_x8_layTable_X8 w_x8_layTable_19 rfl rfl rfl ?_
    refine r_iload_n C 1 dX8_layTable_247 rfl ?_
    refine r_iald (nz := 6) C dX8_layTable_248 (shB_4) rfl (by decide) ⟨h.1, ?_⟩
    have h := h.2
    refine r_i2l C dX8_layTable_249 ⟨h.1, ?_⟩
    have h := h.2
    refine r_lsub C dX8_layTable_250 ?_
    refine r_last (nz := 42) C dX8_layTable_251 (shB_13) rfl (by decide) ⟨h.1, fun s15 e_s15 => ?_⟩
    have h := h.2 s15 e_s15
    refine r_iinc (j := 1) (ls' := [(1, vI (x1 + (1 : Int))), (0, .ref (ad 0))]) C dX8_layTable_252 rfl (by decide) rfl ?_
    refine r_goto (tgt := 2) C dX8_layTable_255 (by decide) ?_
    exact r_perm [1, 0] rfl ((z2 _ _).1 h)
theorem x8_layTable_ct (l : Launch) (ad : Nat → Nat) (cA : Nat → ClassId) (D : va_G)  (s : Mem) : MG l yX8_layTable wsX8_layTable x8_layTable_rm ocV [.ref (ad 0)] (GB ad cA D) s (x8_layTable  s) :=
  m_met (own := RX8) (nL := 6) (by decide) rfl rfl (Nat.le_of_ble_eq_true rfl) rfl rfl rfl (fun κ hl C Q Pst hW hQ => x8_layTable_bd C (x8_layTable_mono hW hQ))
