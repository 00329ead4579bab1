def x4_weigh (p1 : Int) (p2 : Int) (p3 : Int) (s : Mem) (Q : Int → Mem → Prop) : Prop :=
  ((0 : Int) ≤ (0 : Int) ∧ (0 : Int) < 3) ∧ ∀ s1 : Mem, s1 = m_upd s 32 (0 : Int) p1 → ((0 : Int) ≤ (1 : Int) ∧ (1 : Int) < 3) ∧ ∀ s2 : Mem, s2 = m_upd s1 32 (1 : Int) p2 → ((0 : Int) ≤ (2 : Int) ∧ (2 : Int) < 3) ∧ ∀ s3 : Mem, s3 = m_upd s2 32 (2 : Int) p3 → Q (0 : Int) s3
theorem x4_weigh_mono {Q R : Int → Mem → Prop} {p1 : Int} {p2 : Int} {p3 : Int} {s : Mem} (h : x4_weigh p1 p2 p3 s Q) (hQ : ∀ r s, Q r s → R r s) : x4_weigh p1 p2 p3 s R :=
  ⟨h.1, have h := h.2; fun s1 e_s1 => have h := h s1 e_s1; ⟨h.1, have h := h.2; fun s2 e_s2 => have h := h s2 e_s2; ⟨h.1, have h := h.2; fun s3 e_s3 => have h := h s3 e_s3; hQ _ _ h⟩⟩⟩
def x4_weigh_rm : Room := { frames := 0, cells := 0, slots := 0, locals := 0 }
theorem w_x4_weigh_9 : Cond.fieldLink RX4 9 "BoltRing$Misses" "weights" "[I" ∈ wsX4_weigh := by decide +kernel
theorem in_x4_weigh_X4 : ∀ w ∈ wsX40, w ∈ wsX4_weigh := by decide +kernel
set_option maxHeartbeats 4000000 in
set_option maxRecDepth 100000 in
theorem x4_weigh_bd {κ : KT} {ad : Nat → Nat} {cA : Nat → ClassId} {D : va_G} {Q : State → Prop} {p1 : Int} {p2 : Int} {p3 : Int} {s : Mem} (C : CX κ (GA ad cA D) RX4 cX4_weigh 4 wsX4_weigh x4_weigh_rm none) (h : x4_weigh p1 p2 p3 s (RT κ (GA ad cA D) ocV Q)) : WM κ (GA ad cA D) 4 Q s 0 [(0, .ref (ad 31)), (1, vI p1), (2, vI p2), (3, vI p3)] [] := by
  refine r_aload_n C 0 dX4_weigh_0 rfl ?_
  refine r_get (j := 0) (jz := 0) (v := .ref (ad 32)) C dX4_weigh_1 (shA_31) rfl rfl (by decide) in_x4_weigh_X4 w_x4_weigh_9 rfl rfl rfl ?_
  refine r_iconst C dX4_weigh_4 ?_
  refine r_iload_n C 1 dX4_weigh_5 rfl ?_
  refine r_iast (nz := 3) C dX4_weigh_6 (shA_32) rfl (by decide) ⟨h.1, fun s1 e_s1 => ?_⟩
  have h := h.2 s1 e_s1
  refine r_aload_n C 0 dX4_weigh_7 rfl ?_
  refine r_get (j := 0) (jz := 0) (v := .ref (ad 32)) C dX4_weigh_8 (shA_31) rfl rfl (by decide) in_x4_weigh_X4 w_x4_weigh_9 rfl rfl rfl ?_
  refine r_iconst C dX4_weigh_11 ?_
  refine r_iload_n C 2 dX4_weigh_12 rfl ?_
  refine r_iast (nz := 3) C dX4_weigh_13 (shA_32) rfl (by decide) ⟨h.1, fun s2 e_s2 => ?_⟩
  have h := h.2 s2 e_s2
  refine r_aload_n C 0 dX4_weigh_14 rfl ?_
  refine r_get (j := 0) (jz := 0) (v := .ref (ad 32)) C dX4_weigh_15 (shA_31) rfl rfl (by decide) in_x4_weigh_X4 w_x4_weigh_9 rfl rfl rfl ?_
  refine r_iconst C dX4_weigh_18 ?_
  refine r_iload_n C 3 dX4_weigh_19 rfl ?_
  refine r_iast (nz := 3) C dX4_weigh_20 (shA_32) rfl (by decide) ⟨h.1, fun s3 e_s3 => ?_⟩
  have h := h.2 s3 e_s3
  exact r_return C dX4_weigh_21 h
theorem x4_weigh_ct (l : Launch) (ad : Nat → Nat) (cA : Nat → ClassId) (D : va_G) (p1 : Int) (p2 : Int) (p3 : Int) (s : Mem) : MG l yX4_weigh wsX4_weigh x4_weigh_rm ocV [.ref (ad 31), vI p1, vI p2, vI p3] (GA ad cA D) s (x4_weigh p1 p2 p3 s) :=
  m_met (own := RX4) (nL := 4) (by decide) rfl rfl (Nat.le_of_ble_eq_true rfl) rfl rfl rfl (fun κ hl C Q Pst hW hQ => x4_weigh_bd C (x4_weigh_mono hW hQ))

def x4_begin  (s : Mem) (Q : Int → Mem → Prop) : Prop :=
  x4_weigh (1 : Int) (2 : Int) (1 : Int) s (fun _ s1 => Q (0 : Int) s1)
theorem x4_begin_mono {Q R : Int → Mem → Prop}  {s : Mem} (h : x4_begin  s Q) (hQ : ∀ r s, Q r s → R r s) : x4_begin  s R :=
  x4_weigh_mono h (fun _ s1 h => hQ _ _ h)
def x4_begin_rm : Room := { frames := 1, cells := 0, slots := 0, locals := 23 }
set_option maxHeartbeats 4000000 in
set_option maxRecDepth 100000 in
theorem x4_begin_bd {κ : KT} {ad : Nat → Nat} {cA : Nat → ClassId} {D : va_G} {Q : State → Prop}  {s : Mem} (C : CX κ (GA ad cA D) RX4 cX4_begin 1 wsX4_begin x4_begin_rm none) (h : x4_begin  s (RT κ (GA ad cA D) ocV Q)) : WM κ (GA ad cA D) 1 Q s 0 [(0, .ref (ad 31))] [] := by
  refine r_aload_n C 0 dX4_begin_0 rfl ?_
  refine r_iconst C dX4_begin_1 ?_
  refine r_iconst C dX4_begin_2 ?_
  refine r_iconst C dX4_begin_3 ?_
  refine r_callV (As := [vI (1 : Int), vI (2 : Int), vI (1 : Int)]) (o := 31) (n := 3) C dX4_begin_4 (x4_weigh_ct κ.1.2.1 ad cA D (1 : Int) (2 : Int) (1 : Int) s) gX4_begin_X4_weigh rfl ⟨rfl, rfl⟩ (by decide +kernel) (by decide) (shA_31) rfl rfl rfl (Nat.le_of_ble_eq_true rfl) (fun _ => rfl) ?_
  refine x4_weigh_mono h (fun _ s1 h => ?_)
  exact r_return C dX4_begin_7 h
theorem x4_begin_ct (l : Launch) (ad : Nat → Nat) (cA : Nat → ClassId) (D : va_G)  (s : Mem) : MG l yX4_begin wsX4_begin x4_begin_rm ocV [.ref (ad 31)] (GA ad cA D) s (x4_begin  s) :=
  m_met (own := RX4) (nL := 1) (by decide) rfl rfl (Nat.le_of_ble_eq_true rfl) rfl rfl rfl (fun κ hl C Q Pst hW hQ => x4_begin_bd C (x4_begin_mono hW hQ))
