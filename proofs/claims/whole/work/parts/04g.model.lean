def x8_doOne (p1 : Int) (s : Mem) (Q : Int → Mem → Prop) : Prop :=
  ((0 : Int) ≤ p1 ∧ p1 < 12) ∧ ((0 : Int) ≤ p1 ∧ p1 < 12) ∧ InI (s 20 p1) ∧ (((s 20 p1) = 0) → ((0 : Int) ≤ p1 ∧ p1 < 12) ∧ x8_draw (s 21 p1) (s 22 p1) s (fun r3 s2 => InI r3 ∧ (r3 < (0 : Int) → ((0 : Int) ≤ (0 : Int) ∧ (0 : Int) ≤ 1) ∧ Q (0 : Int) s2) ∧ ((0 : Int) ≤ r3 → ((0 : Int) ≤ (1 : Int) ∧ (1 : Int) ≤ 1) ∧ Q (1 : Int) s2))) ∧ (((s 20 p1) = 1) → x8_pass (s 21 p1) s (fun r6 s5 => InI r6 ∧ (r6 < (0 : Int) → ((0 : Int) ≤ (0 : Int) ∧ (0 : Int) ≤ 1) ∧ Q (0 : Int) s5) ∧ ((0 : Int) ≤ r6 → ((0 : Int) ≤ (1 : Int) ∧ (1 : Int) ≤ 1) ∧ Q (1 : Int) s5))) ∧ (((s 20 p1) = 2) → ((0 : Int) ≤ p1 ∧ p1 < 12) ∧ ((0 : Int) ≤ (s 21 p1) ∧ (s 21 p1) < 6) ∧ ∀ s8 : Mem, s8 = m_upd s 4 (s 21 p1) (s 22 p1) → ((0 : Int) ≤ (1 : Int) ∧ (1 : Int) ≤ 1) ∧ Q (1 : Int) s8) ∧ (((s 20 p1) = 3) → ((0 : Int) ≤ (s 21 p1) ∧ (s 21 p1) < 6) ∧ InI (s 5 (s 21 p1)) ∧ (¬ (s 5 (s 21 p1)) = (0 : Int) → ((0 : Int) ≤ (0 : Int) ∧ (0 : Int) ≤ 1) ∧ Q (0 : Int) s) ∧ ((s 5 (s 21 p1)) = (0 : Int) → x8_broken (s 21 p1) (1 : Int) s (fun r10 s9 => InI r10 ∧ (r10 < (0 : Int) → ((0 : Int) ≤ (0 : Int) ∧ (0 : Int) ≤ 1) ∧ Q (0 : Int) s9) ∧ ((0 : Int) ≤ r10 → ((0 : Int) ≤ (1 : Int) ∧ (1 : Int) ≤ 1) ∧ Q (1 : Int) s9)))) ∧ (((s 20 p1) = 4) → ((0 : Int) ≤ (s 21 p1) ∧ (s 21 p1) < 6) ∧ InI (s 5 (s 21 p1)) ∧ ((s 5 (s 21 p1)) = (0 : Int) → ((0 : Int) ≤ (0 : Int) ∧ (0 : Int) ≤ 1) ∧ Q (0 : Int) s) ∧ (¬ (s 5 (s 21 p1)) = (0 : Int) → x8_broken (s 21 p1) (0 : Int) s (fun r14 s13 => InI r14 ∧ (r14 < (0 : Int) → ((0 : Int) ≤ (0 : Int) ∧ (0 : Int) ≤ 1) ∧ Q (0 : Int) s13) ∧ ((0 : Int) ≤ r14 → ((0 : Int) ≤ (1 : Int) ∧ (1 : Int) ≤ 1) ∧ Q (1 : Int) s13)))) ∧ (((s 20 p1) < 0 ∨ 4 < (s 20 p1)) → x8_row (s 21 p1) s (fun r18 s17 => InI r18 ∧ (r18 ≤ (0 : Int) → ((0 : Int) ≤ (0 : Int) ∧ (0 : Int) ≤ 1) ∧ Q (0 : Int) s17) ∧ ((0 : Int) < r18 → ((0 : Int) ≤ (1 : Int) ∧ (1 : Int) ≤ 1) ∧ Q (1 : Int) s17)))
theorem x8_doOne_mono {Q R : Int → Mem → Prop} {p1 : Int} {s : Mem} (h : x8_doOne p1 s Q) (hQ : ∀ r s, Q r s → R r s) : x8_doOne p1 s R :=
  ⟨h.1, have h := h.2; ⟨h.1, have h := h.2; ⟨h.1, fun c => have h := h.2.1 c; ⟨h.1, have h := h.2; x8_draw_mono h (fun r3 s2 h => ⟨h.1, fun c => have h := h.2.1 c; ⟨h.1, hQ _ _ h.2⟩, fun c => have h := h.2.2 c; ⟨h.1, hQ _ _ h.2⟩⟩)⟩, fun c => have h := h.2.2.1 c; x8_pass_mono h (fun r6 s5 h => ⟨h.1, fun c => have h := h.2.1 c; ⟨h.1, hQ _ _ h.2⟩, fun c => have h := h.2.2 c; ⟨h.1, hQ _ _ h.2⟩⟩), fun c => have h := h.2.2.2.1 c; ⟨h.1, have h := h.2; ⟨h.1, have h := h.2; fun s8 e_s8 => have h := h s8 e_s8; ⟨h.1, hQ _ _ h.2⟩⟩⟩, fun c => have h := h.2.2.2.2.1 c; ⟨h.1, have h := h.2; ⟨h.1, fun c => have h := h.2.1 c; ⟨h.1, hQ _ _ h.2⟩, fun c => have h := h.2.2 c; x8_broken_mono h (fun r10 s9 h => ⟨h.1, fun c => have h := h.2.1 c; ⟨h.1, hQ _ _ h.2⟩, fun c => have h := h.2.2 c; ⟨h.1, hQ _ _ h.2⟩⟩)⟩⟩, fun c => have h := h.2.2.2.2.2.1 c; ⟨h.1, have h := h.2; ⟨h.1, fun c => have h := h.2.1 c; ⟨h.1, hQ _ _ h.2⟩, fun c => have h := h.2.2 c; x8_broken_mono h (fun r14 s13 h => ⟨h.1, fun c => have h := h.2.1 c; ⟨h.1, hQ _ _ h.2⟩, fun c => have h := h.2.2 c; ⟨h.1, hQ _ _ h.2⟩⟩)⟩⟩, fun c => have h := h.2.2.2.2.2.2 c; x8_row_mono h (fun r18 s17 h => ⟨h.1, fun c => have h := h.2.1 c; ⟨h.1, hQ _ _ h.2⟩, fun c => have h := h.2.2 c; ⟨h.1, hQ _ _ h.2⟩⟩)⟩⟩⟩
def x8_doOne_rm : Room := { frames := 7, cells := 0, slots := 0, locals := 166 }
theorem w_x8_doOne_76 : Cond.fieldLink RX8 76 "BoltRingModel" "first" "[I" ∈ wsX8_doOne := by decide +kernel
theorem w_x8_doOne_73 : Cond.fieldLink RX8 73 "BoltRingModel" "clause" "[I" ∈ wsX8_doOne := by decide +kernel
theorem w_x8_doOne_79 : Cond.fieldLink RX8 79 "BoltRingModel" "second" "[I" ∈ wsX8_doOne := by decide +kernel
theorem w_x8_doOne_19 : Cond.fieldLink RX8 19 "BoltRingModel" "load" "[I" ∈ wsX8_doOne := by decide +kernel
theorem w_x8_doOne_22 : Cond.fieldLink RX8 22 "BoltRingModel" "isBroken" "[Z" ∈ wsX8_doOne := by decide +kernel
theorem in_x8_doOne_X8 : ∀ w ∈ wsX80, w ∈ wsX8_doOne := by decide +kernel
set_option maxHeartbeats 4000000 in
set_option maxRecDepth 100000 in
theorem x8_doOne_bd {κ : KT} {ad : Nat → Nat} {cA : Nat → ClassId} {D : va_G} {Q : State → Prop} {p1 : Int} {s : Mem} (C : CX κ (GB ad cA D) RX8 cX8_doOne 3 wsX8_doOne x8_doOne_rm (some .boolean)) (h : x8_doOne p1 s (RT κ (GB ad cA D) ocI Q)) : WM κ (GB ad cA D) 3 Q s 0 [(0, .ref (ad 0)), (1, vI p1)] [] := by
  refine r_aload_n C 0 dX8_doOne_0 rfl ?_
  refine r_get (j := 39) (jz := 39) (v := .ref (ad 21)) C dX8_doOne_1 (shB_0) rfl rfl (by decide) in_x8_doOne_X8 w_x8_doOne_76 rfl rfl rfl ?_
  refine r_iload_n C 1 dX8_doOne_4 rfl ?_
  refine r_iald (nz := 12) C dX8_doOne_5 (shB_21) rfl (by decide) ⟨h.1, ?_⟩
  have h := h.2
  refine r_istore_n (ls' := [(2, vI (s 21 p1)), (0, .ref (ad 0)), (1, vI p1)]) C dX8_doOne_6 rfl (by decide) rfl ?_
  refine r_aload_n C 1 dX8_doOne_7 rfl ?_
  refine r_get (j := 38) (jz := 38) (v := .ref (ad 20)) C dX8_doOne_8 (shB_0) rfl rfl (by decide) in_x8_doOne_X8 w_x8_doOne_73 rfl rfl rfl ?_
  refine r_iload_n C 2 dX8_doOne_11 rfl ?_
  refine r_iald (nz := 12) C dX8_doOne_12 (shB_20) rfl (by decide) ⟨h.1, ?_⟩
  have h := h.2
  have hI := h.1
  by_cases c1 : (s 20 p1) = 0
  · have h := h.2.1 c1
    refine r_tsIn (tgt := 48) C 0 dX8_doOne_13 rfl (by decide) c1 hI (by decide) ?_
    refine r_aload_n C 1 dX8_doOne_48 rfl ?_
    refine r_iload_n C 0 dX8_doOne_49 rfl ?_
    refine r_aload_n C 1 dX8_doOne_50 rfl ?_
    refine r_get (j := 40) (jz := 40) (v := .ref (ad 22)) C dX8_doOne_51 (shB_0) rfl rfl (by decide) in_x8_doOne_X8 w_x8_doOne_79 rfl rfl rfl ?_
    refine r_iload_n C 2 dX8_doOne_54 rfl ?_
    refine r_iald (nz := 12) C dX8_doOne_55 (shB_22) rfl (by decide) ⟨h.1, ?_⟩
    have h := h.2
    refine r_callV (As := [vI (s 21 p1), vI (s 22 p1)]) (o := 0) (n := 2) C dX8_doOne_56 (x8_draw_ct κ.1.2.1 ad cA D (s 21 p1) (s 22 p1) s) gX8_doOne_X8_draw rfl ⟨rfl, rfl⟩ (by decide +kernel) (by decide) (shB_0) rfl rfl rfl (Nat.le_of_ble_eq_true rfl) (fun _ => rfl) ?_
    refine x8_draw_mono h (fun r3 s2 h => ?_)
    refine r_if_lt (tgt := 66) C dX8_doOne_59 (by decide) ⟨h.1, fun c4 => ?_, fun c4 => ?_⟩
    · have h := h.2.1 c4
      refine r_iconst C dX8_doOne_66 ?_
      exact r_zreturn C dX8_doOne_67 h
    · have h := h.2.2 c4
      refine r_iconst C dX8_doOne_62 ?_
      refine r_goto (tgt := 67) C dX8_doOne_63 (by decide) ?_
      exact r_zreturn C dX8_doOne_67 h
  by_cases c1 : (s 20 p1) = 1
  · have h := h.2.2.1 c1
    refine r_tsIn (tgt := 68) C 1 dX8_doOne_13 rfl (by decide) c1 hI (by decide) ?_
    refine r_aload_n C 1 dX8_doOne_68 rfl ?_
    refine r_iload_n C 0 dX8_doOne_69 rfl ?_
    refine r_callV (As := [vI (s 21 p1)]) (o := 0) (n := 1) C dX8_doOne_70 (x8_pass_ct κ.1.2.1 ad cA D (s 21 p1) s) gX8_doOne_X8_pass rfl ⟨rfl, rfl⟩ (by decide +kernel) (by decide) (shB_0) rfl rfl rfl (Nat.le_of_ble_eq_true rfl) (fun _ => rfl) ?_
    refine x8_pass_mono h (fun r6 s5 h => ?_)
    refine r_if_lt (tgt := 80) C dX8_doOne_73 (by decide) ⟨h.1, fun c7 => ?_, fun c7 => ?_⟩
    · have h := h.2.1 c7
      refine r_iconst C dX8_doOne_80 ?_
      exact r_zreturn C dX8_doOne_81 h
    · have h := h.2.2 c7
      refine r_iconst C dX8_doOne_76 ?_
      refine r_goto (tgt := 81) C dX8_doOne_77 (by decide) ?_
      exact r_zreturn C dX8_doOne_81 h
  by_cases c1 : (s 20 p1) = 2
  · have h := h.2.2.2.1 c1
    refine r_tsIn (tgt := 82) C 2 dX8_doOne_13 rfl (by decide) c1 hI (by decide) ?_
    refine r_aload_n C 1 dX8_doOne_82 rfl ?_
    refine r_get (j := 5) (jz := 5) (v := .ref (ad 4)) C dX8_doOne_83 (shB_0) rfl rfl (by decide) in_x8_doOne_X8 w_x8_doOne_19 rfl rfl rfl ?_
    refine r_iload_n C 0 dX8_doOne_86 rfl ?_
    refine r_aload_n C 1 dX8_doOne_87 rfl ?_
    refine r_get (j := 40) (jz := 40) (v := .ref (ad 22)) C dX8_doOne_88 (shB_0) rfl rfl (by decide) in_x8_doOne_X8 w_x8_doOne_79 rfl rfl rfl ?_
    refine r_iload_n C 2 dX8_doOne_91 rfl ?_
    refine r_iald (nz := 12) C dX8_doOne_92 (shB_22) rfl (by decide) ⟨h.1, ?_⟩
    have h := h.2
    refine r_iast (nz := 6) C dX8_doOne_93 (shB_4) rfl (by decide) ⟨h.1, fun s8 e_s8 => ?_⟩
    have h := h.2 s8 e_s8
    refine r_iconst C dX8_doOne_94 ?_
    exact r_zreturn C dX8_doOne_95 h
  by_cases c1 : (s 20 p1) = 3
  · have h := h.2.2.2.2.1 c1
    refine r_tsIn (tgt := 96) C 3 dX8_doOne_13 rfl (by decide) c1 hI (by decide) ?_
    refine r_aload_n C 1 dX8_doOne_96 rfl ?_
    refine r_get (j := 6) (jz := 6) (v := .ref (ad 5)) C dX8_doOne_97 (shB_0) rfl rfl (by decide) in_x8_doOne_X8 w_x8_doOne_22 rfl rfl rfl ?_
    refine r_iload_n C 0 dX8_doOne_100 rfl ?_
    refine r_zald (nz := 6) C dX8_doOne_101 (shB_5) rfl (by decide) ⟨h.1, ?_⟩
    have h := h.2
    refine r_if_ne (tgt := 118) C dX8_doOne_102 (by decide) ⟨h.1, fun c12 => ?_, fun c12 => ?_⟩
    · have h := h.2.1 c12
      refine r_iconst C dX8_doOne_118 ?_
      exact r_zreturn C dX8_doOne_119 h
    · have h := h.2.2 c12
      refine r_aload_n C 1 dX8_doOne_105 rfl ?_
      refine r_iload_n C 0 dX8_doOne_106 rfl ?_
      refine r_iconst C dX8_doOne_107 ?_
      refine r_callV (As := [vI (s 21 p1), vI (1 : Int)]) (o := 0) (n := 2) C dX8_doOne_108 (x8_broken_ct κ.1.2.1 ad cA D (s 21 p1) (1 : Int) s) gX8_doOne_X8_broken rfl ⟨rfl, rfl⟩ (by decide +kernel) (by decide) (shB_0) rfl rfl rfl (Nat.le_of_ble_eq_true rfl) (fun _ => rfl) ?_
      refine x8_broken_mono h (fun r10 s9 h => ?_)
      refine r_if_lt (tgt := 118) C dX8_doOne_111 (by decide) ⟨h.1, fun c11 => ?_, fun c11 => ?_⟩
      · have h := h.2.1 c11
        refine r_iconst C dX8_doOne_118 ?_
        exact r_zreturn C dX8_doOne_119 h
      · have h := h.2.2 c11
        refine r_iconst C dX8_doOne_114 ?_
        refine r_goto (tgt := 119) C dX8_doOne_115 (by decide) ?_
        exact r_zreturn C dX8_doOne_119 h
  by_cases c1 : (s 20 p1) = 4
  · have h := h.2.2.2.2.2.1 c1
    refine r_tsIn (tgt := 120) C 4 dX8_doOne_13 rfl (by decide) c1 hI (by decide) ?_
    refine r_aload_n C 1 dX8_doOne_120 rfl ?_
    refine r_get (j := 6) (jz := 6) (v := .ref (ad 5)) C dX8_doOne_121 (shB_0) rfl rfl (by decide) in_x8_doOne_X8 w_x8_doOne_22 rfl rfl rfl ?_
    refine r_iload_n C 0 dX8_doOne_124 rfl ?_
    refine r_zald (nz := 6) C dX8_doOne_125 (shB_5) rfl (by decide) ⟨h.1, ?_⟩
    have h := h.2
    refine r_if_eq (tgt := 142) C dX8_doOne_126 (by decide) ⟨h.1, fun c16 => ?_, fun c16 => ?_⟩
    · have h := h.2.1 c16
      refine r_iconst C dX8_doOne_142 ?_
      exact r_zreturn C dX8_doOne_143 h
    · have h := h.2.2 c16
      refine r_aload_n C 1 dX8_doOne_129 rfl ?_
      refine r_iload_n C 0 dX8_doOne_130 rfl ?_
      refine r_iconst C dX8_doOne_131 ?_
      refine r_callV (As := [vI (s 21 p1), vI (0 : Int)]) (o := 0) (n := 2) C dX8_doOne_132 (x8_broken_ct κ.1.2.1 ad cA D (s 21 p1) (0 : Int) s) gX8_doOne_X8_broken rfl ⟨rfl, rfl⟩ (by decide +kernel) (by decide) (shB_0) rfl rfl rfl (Nat.le_of_ble_eq_true rfl) (fun _ => rfl) ?_
      refine x8_broken_mono h (fun r14 s13 h => ?_)
      refine r_if_lt (tgt := 142) C dX8_doOne_135 (by decide) ⟨h.1, fun c15 => ?_, fun c15 => ?_⟩
      · have h := h.2.1 c15
        refine r_iconst C dX8_doOne_142 ?_
        exact r_zreturn C dX8_doOne_143 h
      · have h := h.2.2 c15
        refine r_iconst C dX8_doOne_138 ?_
        refine r_goto (tgt := 143) C dX8_doOne_139 (by decide) ?_
        exact r_zreturn C dX8_doOne_143 h
  have c1d : (s 20 p1) < 0 ∨ 4 < (s 20 p1) := by omega
  have h := h.2.2.2.2.2.2 c1d
  refine r_tsOut (tgt := 144) C dX8_doOne_13 c1d hI (by decide) ?_
  refine r_aload_n C 1 dX8_doOne_144 rfl ?_
  refine r_iload_n C 0 dX8_doOne_145 rfl ?_
  refine r_callV (As := [vI (s 21 p1)]) (o := 0) (n := 1) C dX8_doOne_146 (x8_row_ct κ.1.2.1 ad cA D (s 21 p1) s) gX8_doOne_X8_row rfl ⟨rfl, rfl⟩ (by decide +kernel) (by decide) (shB_0) rfl rfl rfl (Nat.le_of_ble_eq_true rfl) (fun _ => rfl) ?_
  refine x8_row_mono h (fun r18 s17 h => ?_)
  refine r_if_le (tgt := 156) C dX8_doOne_149 (by decide) ⟨h.1, fun c19 => ?_, fun c19 => ?_⟩
  · have h := h.2.1 c19
    refine r_iconst C dX8_doOne_156 ?_
    exact r_zreturn C dX8_doOne_157 h
  · have h := h.2.2 c19
    refine r_iconst C dX8_doOne_152 ?_
    refine r_goto (tgt := 157) C dX8_doOne_153 (by decide) ?_
    exact r_zreturn C dX8_doOne_157 h
theorem x8_doOne_ct (l : Launch) (ad : Nat → Nat) (cA : Nat → ClassId) (D : va_G) (p1 : Int) (s : Mem) : MG l yX8_doOne wsX8_doOne x8_doOne_rm ocI [.ref (ad 0), vI p1] (GB ad cA D) s (x8_doOne p1 s) :=
  m_met (own := RX8) (nL := 3) (by decide) rfl rfl (Nat.le_of_ble_eq_true rfl) rfl rfl rfl (fun κ hl C Q Pst hW hQ => x8_doOne_bd C (x8_doOne_mono hW hQ))

def x8_read_be (X20 : Mem → Prop) (X41 : Mem → Prop) (X71 : Mem → Prop) (Q : Int → Mem → Prop)  (s : Mem) : Prop :=
  ∀ s1 : Mem, s1 = m_upd s 0 (31 : Int) (0 : Int) → ∀ s2 : Mem, s2 = m_upd s1 0 (32 : Int) (0 : Int) → ∀ s3 : Mem, s3 = m_upd s2 0 (33 : Int) (-1 : Int) → ∀ s4 : Mem, s4 = m_upd s3 0 (37 : Int) (0 : Int) → X20 s4
def x8_read_b20 (X20 : Mem → Prop) (X41 : Mem → Prop) (X71 : Mem → Prop) (Q : Int → Mem → Prop)  (s : Mem) : Prop :=
  InI (s 0 (32 : Int)) ∧ (¬ (s 0 (32 : Int)) = (0 : Int) → X41 s) ∧ ((s 0 (32 : Int)) = (0 : Int) → x8_here s (fun r6 s5 => InI r6 ∧ (r6 < (0 : Int) → X41 s5) ∧ ((0 : Int) ≤ r6 → x8_readClause s5 (fun _ s7 => X20 s7))))
def x8_read_b41 (X20 : Mem → Prop) (X41 : Mem → Prop) (X71 : Mem → Prop) (Q : Int → Mem → Prop)  (s : Mem) : Prop :=
  ∀ s10 : Mem, s10 = m_upd s 0 (30 : Int) (0 : Int) → InI (s10 0 (32 : Int)) ∧ ((s10 0 (32 : Int)) ≤ (0 : Int) → ∀ s11 : Mem, s11 = m_upd s10 0 (36 : Int) (0 : Int) → X71 s11) ∧ ((0 : Int) < (s10 0 (32 : Int)) → ∀ s12 : Mem, s12 = m_upd s10 0 (36 : Int) (0 : Int) → Q ((-10 : Int) - (s12 0 (32 : Int))) s12)
def x8_read_b71 (X20 : Mem → Prop) (X41 : Mem → Prop) (X71 : Mem → Prop) (Q : Int → Mem → Prop)  (s : Mem) : Prop :=
  (InI (s 0 (36 : Int)) ∧ InI (s 0 (37 : Int))) ∧ ((s 0 (37 : Int)) ≤ (s 0 (36 : Int)) → Q (s 0 (36 : Int)) s) ∧ ((s 0 (36 : Int)) < (s 0 (37 : Int)) → x8_doOne (s 0 (36 : Int)) s (fun r15 s14 => InI r15 ∧ (r15 = (0 : Int) → Q (s14 0 (36 : Int)) s14) ∧ (¬ r15 = (0 : Int) → ∀ s16 : Mem, s16 = m_upd s14 0 (36 : Int) ((s14 0 (36 : Int)) + (1 : Int)) → X71 s16)))
theorem x8_read_me {X20 Y20 : Mem → Prop} {X41 Y41 : Mem → Prop} {X71 Y71 : Mem → Prop} {Q R : Int → Mem → Prop} (hX20 : ∀ s, X20 s → Y20 s) (hX41 : ∀ s, X41 s → Y41 s) (hX71 : ∀ s, X71 s → Y71 s) (hQ : ∀ r s, Q r s → R r s)  {s : Mem} (h : x8_read_be X20 X41 X71 Q  s) : x8_read_be Y20 Y41 Y71 R  s :=
  fun s1 e_s1 => have h := h s1 e_s1; fun s2 e_s2 => have h := h s2 e_s2; fun s3 e_s3 => have h := h s3 e_s3; fun s4 e_s4 => have h := h s4 e_s4; hX20 _ h
theorem x8_read_m20 {X20 Y20 : Mem → Prop} {X41 Y41 : Mem → Prop} {X71 Y71 : Mem → Prop} {Q R : Int → Mem → Prop} (hX20 : ∀ s, X20 s → Y20 s) (hX41 : ∀ s, X41 s → Y41 s) (hX71 : ∀ s, X71 s → Y71 s) (hQ : ∀ r s, Q r s → R r s)  {s : Mem} (h : x8_read_b20 X20 X41 X71 Q  s) : x8_read_b20 Y20 Y41 Y71 R  s :=
  ⟨h.1, fun c => have h := h.2.1 c; hX41 _ h, fun c => have h := h.2.2 c; x8_here_mono h (fun r6 s5 h => ⟨h.1, fun c => have h := h.2.1 c; hX41 _ h, fun c => have h := h.2.2 c; x8_readClause_mono h (fun _ s7 h => hX20 _ h)⟩)⟩
theorem x8_read_m41 {X20 Y20 : Mem → Prop} {X41 Y41 : Mem → Prop} {X71 Y71 : Mem → Prop} {Q R : Int → Mem → Prop} (hX20 : ∀ s, X20 s → Y20 s) (hX41 : ∀ s, X41 s → Y41 s) (hX71 : ∀ s, X71 s → Y71 s) (hQ : ∀ r s, Q r s → R r s)  {s : Mem} (h : x8_read_b41 X20 X41 X71 Q  s) : x8_read_b41 Y20 Y41 Y71 R  s :=
  fun s10 e_s10 => have h := h s10 e_s10; ⟨h.1, fun c => have h := h.2.1 c; fun s11 e_s11 => have h := h s11 e_s11; hX71 _ h, fun c => have h := h.2.2 c; fun s12 e_s12 => have h := h s12 e_s12; hQ _ _ h⟩
theorem x8_read_m71 {X20 Y20 : Mem → Prop} {X41 Y41 : Mem → Prop} {X71 Y71 : Mem → Prop} {Q R : Int → Mem → Prop} (hX20 : ∀ s, X20 s → Y20 s) (hX41 : ∀ s, X41 s → Y41 s) (hX71 : ∀ s, X71 s → Y71 s) (hQ : ∀ r s, Q r s → R r s)  {s : Mem} (h : x8_read_b71 X20 X41 X71 Q  s) : x8_read_b71 Y20 Y41 Y71 R  s :=
  ⟨h.1, fun c => have h := h.2.1 c; hQ _ _ h, fun c => have h := h.2.2 c; x8_doOne_mono h (fun r15 s14 h => ⟨h.1, fun c => have h := h.2.1 c; hQ _ _ h, fun c => have h := h.2.2 c; fun s16 e_s16 => have h := h s16 e_s16; hX71 _ h⟩)⟩
def x8_read  (s : Mem) (Q : Int → Mem → Prop) : Prop := ∀ (X20 : Mem → Prop) (X41 : Mem → Prop) (X71 : Mem → Prop), (∀ s, x8_read_b20 X20 X41 X71 Q s → X20 s) → (∀ s, x8_read_b41 X20 X41 X71 Q s → X41 s) → (∀ s, x8_read_b71 X20 X41 X71 Q s → X71 s) → x8_read_be X20 X41 X71 Q  s
def x8_read_L20 (Q : Int → Mem → Prop)  (s : Mem) : Prop := ∀ (X20 : Mem → Prop) (X41 : Mem → Prop) (X71 : Mem → Prop), (∀ s, x8_read_b20 X20 X41 X71 Q s → X20 s) → (∀ s, x8_read_b41 X20 X41 X71 Q s → X41 s) → (∀ s, x8_read_b71 X20 X41 X71 Q s → X71 s) → X20  s
def x8_read_L41 (Q : Int → Mem → Prop)  (s : Mem) : Prop := ∀ (X20 : Mem → Prop) (X41 : Mem → Prop) (X71 : Mem → Prop), (∀ s, x8_read_b20 X20 X41 X71 Q s → X20 s) → (∀ s, x8_read_b41 X20 X41 X71 Q s → X41 s) → (∀ s, x8_read_b71 X20 X41 X71 Q s → X71 s) → X41  s
def x8_read_L71 (Q : Int → Mem → Prop)  (s : Mem) : Prop := ∀ (X20 : Mem → Prop) (X41 : Mem → Prop) (X71 : Mem → Prop), (∀ s, x8_read_b20 X20 X41 X71 Q s → X20 s) → (∀ s, x8_read_b41 X20 X41 X71 Q s → X41 s) → (∀ s, x8_read_b71 X20 X41 X71 Q s → X71 s) → X71  s
theorem x8_read_i {Q : Int → Mem → Prop}  {s : Mem} (h : x8_read_be (x8_read_L20 Q) (x8_read_L41 Q) (x8_read_L71 Q) Q  s) : x8_read  s Q := fun X20 X41 X71 k20 k41 k71 => x8_read_me (fun _ h => h X20 X41 X71 k20 k41 k71) (fun _ h => h X20 X41 X71 k20 k41 k71) (fun _ h => h X20 X41 X71 k20 k41 k71) (fun _ _ h => h) h
theorem x8_read_s20 {Q : Int → Mem → Prop}  {s : Mem} (h : x8_read_b20 (x8_read_L20 Q) (x8_read_L41 Q) (x8_read_L71 Q) Q  s) : x8_read_L20 Q  s := fun X20 X41 X71 k20 k41 k71 => k20  _ (x8_read_m20 (fun _ h => h X20 X41 X71 k20 k41 k71) (fun _ h => h X20 X41 X71 k20 k41 k71) (fun _ h => h X20 X41 X71 k20 k41 k71) (fun _ _ h => h) h)
theorem x8_read_s41 {Q : Int → Mem → Prop}  {s : Mem} (h : x8_read_b41 (x8_read_L20 Q) (x8_read_L41 Q) (x8_read_L71 Q) Q  s) : x8_read_L41 Q  s := fun X20 X41 X71 k20 k41 k71 => k41  _ (x8_read_m41 (fun _ h => h X20 X41 X71 k20 k41 k71) (fun _ h => h X20 X41 X71 k20 k41 k71) (fun _ h => h X20 X41 X71 k20 k41 k71) (fun _ _ h => h) h)
theorem x8_read_s71 {Q : Int → Mem → Prop}  {s : Mem} (h : x8_read_b71 (x8_read_L20 Q) (x8_read_L41 Q) (x8_read_L71 Q) Q  s) : x8_read_L71 Q  s := fun X20 X41 X71 k20 k41 k71 => k71  _ (x8_read_m71 (fun _ h => h X20 X41 X71 k20 k41 k71) (fun _ h => h X20 X41 X71 k20 k41 k71) (fun _ h => h X20 X41 X71 k20 k41 k71) (fun _ _ h => h) h)
theorem x8_read_mono {Q R : Int → Mem → Prop}  {s : Mem} (h : x8_read  s Q) (hQ : ∀ r s, Q r s → R r s) : x8_read  s R := fun X20 X41 X71 k20 k41 k71 => x8_read_me (fun _ h => h) (fun _ h => h) (fun _ h => h) hQ (h X20 X41 X71 (fun _ h => k20  _ (x8_read_m20 (fun _ h => h) (fun _ h => h) (fun _ h => h) hQ h)) (fun _ h => k41  _ (x8_read_m41 (fun _ h => h) (fun _ h => h) (fun _ h => h) hQ h)) (fun _ h => k71  _ (x8_read_m71 (fun _ h => h) (fun _ h => h) (fun _ h => h) hQ h)))
def x8_read_rm : Room := { frames := 8, cells := 0, slots := 0, locals := 188 }
theorem w_x8_read_260 : Cond.fieldLink RX8 260 "BoltRingModel" "at" "I" ∈ wsX8_read := by decide +kernel
theorem w_x8_read_263 : Cond.fieldLink RX8 263 "BoltRingModel" "faultOf" "I" ∈ wsX8_read := by decide +kernel
theorem w_x8_read_69 : Cond.fieldLink RX8 69 "BoltRingModel" "place" "I" ∈ wsX8_read := by decide +kernel
theorem w_x8_read_300 : Cond.fieldLink RX8 300 "BoltRingModel" "clauses" "I" ∈ wsX8_read := by decide +kernel
theorem w_x8_read_163 : Cond.fieldLink RX8 163 "BoltRingModel" "textSize" "I" ∈ wsX8_read := by decide +kernel
theorem w_x8_read_166 : Cond.fieldLink RX8 166 "BoltRingModel" "done" "I" ∈ wsX8_read := by decide +kernel
theorem in_x8_read_X8 : ∀ w ∈ wsX80, w ∈ wsX8_read := by decide +kernel
set_option maxHeartbeats 4000000 in
set_option maxRecDepth 100000 in
theorem x8_read_bd {κ : KT} {ad : Nat → Nat} {cA : Nat → ClassId} {D : va_G} {Q : State → Prop}  {s : Mem} (C : CX κ (GB ad cA D) RX8 cX8_read 1 wsX8_read x8_read_rm (some .int)) (h : x8_read  s (RT κ (GB ad cA D) ocI Q)) : WM κ (GB ad cA D) 1 Q s 0 [(0, .ref (ad 0))] [] := by
  obtain ⟨Z20, z20⟩ : ∃ Z : Mem → Prop, ∀ s, Z s ↔ WM κ (GB ad cA D) 1 Q s 20 [(0, .ref (ad 0))] [] := ⟨fun s => WM κ (GB ad cA D) 1 Q s 20 [(0, .ref (ad 0))] [], fun _ => Iff.rfl⟩
  obtain ⟨Z41, z41⟩ : ∃ Z : Mem → Prop, ∀ s, Z s ↔ WM κ (GB ad cA D) 1 Q s 41 [(0, .ref (ad 0))] [] := ⟨fun s => WM κ (GB ad cA D) 1 Q s 41 [(0, .ref (ad 0))] [], fun _ => Iff.rfl⟩
  obtain ⟨Z71, z71⟩ : ∃ Z : Mem → Prop, ∀ s, Z s ↔ WM κ (GB ad cA D) 1 Q s 71 [(0, .ref (ad 0))] [] := ⟨fun s => WM κ (GB ad cA D) 1 Q s 71 [(0, .ref (ad 0))] [], fun _ => Iff.rfl⟩
  refine (fun h => ?_) (h Z20 Z41 Z71 ?_ ?_ ?_)
  · refine r_aload_n C 0 dX8_read_0 rfl ?_
    refine r_iconst C dX8_read_1 ?_
    refine r_puti (j := 31) (jz := 31) C dX8_read_2 (shB_0) rfl rfl (by decide) in_x8_read_X8 tyX8 tyX8_ok nmX8 w_x8_read_260 rfl rfl (by decide +kernel) rfl (fun s1 e_s1 => ?_)
    have h := h s1 e_s1
    refine r_aload_n C 0 dX8_read_5 rfl ?_
    refine r_iconst C dX8_read_6 ?_
    refine r_puti (j := 32) (jz := 32) C dX8_read_7 (shB_0) rfl rfl (by decide) in_x8_read_X8 tyX8 tyX8_ok nmX8 w_x8_read_263 rfl rfl (by decide +kernel) rfl (fun s2 e_s2 => ?_)
    have h := h s2 e_s2
    refine r_aload_n C 0 dX8_read_10 rfl ?_
    refine r_iconst C dX8_read_11 ?_
    refine r_puti (j := 33) (jz := 33) C dX8_read_12 (shB_0) rfl rfl (by decide) in_x8_read_X8 tyX8 tyX8_ok nmX8 w_x8_read_69 rfl rfl (by decide +kernel) rfl (fun s3 e_s3 => ?_)
    have h := h s3 e_s3
    refine r_aload_n C 0 dX8_read_15 rfl ?_
    refine r_iconst C dX8_read_16 ?_
    refine r_puti (j := 37) (jz := 37) C dX8_read_17 (shB_0) rfl rfl (by decide) in_x8_read_X8 tyX8 tyX8_ok nmX8 w_x8_read_300 rfl rfl (by decide +kernel) rfl (fun s4 e_s4 => ?_)
    have h := h s4 e_s4
    exact r_perm [0] rfl ((z20 _).1 h)
  · intro s h
    refine (z20 _).2 ?_
    refine r_aload_n C 0 dX8_read_20 rfl ?_
    refine r_get (j := 32) (jz := 32) (v := vI (s 0 (32 : Int))) C dX8_read_21 (shB_0) rfl rfl (by decide) in_x8_read_X8 w_x8_read_263 rfl rfl rfl ?_
    refine r_if_ne (tgt := 41) C dX8_read_24 (by decide) ⟨h.1, fun c9 => ?_, fun c9 => ?_⟩
    · have h := h.2.1 c9
      exact r_perm [0] rfl ((z41 _).1 h)
    · have h := h.2.2 c9
      refine r_aload_n C 0 dX8_read_27 rfl ?_
      refine r_callV (As := []) (o := 0) (n := 0) C dX8_read_28 (x8_here_ct κ.1.2.1 ad cA D s) gX8_read_X8_here rfl ⟨rfl, rfl⟩ (by decide +kernel) (by decide) (shB_0) rfl rfl rfl (Nat.le_of_ble_eq_true rfl) (fun _ => rfl) ?_
      refine x8_here_mono h (fun r6 s5 h => ?_)
      refine r_if_lt (tgt := 41) C dX8_read_31 (by decide) ⟨h.1, fun c8 => ?_, fun c8 => ?_⟩
      · have h := h.2.1 c8
        exact r_perm [0] rfl ((z41 _).1 h)
      · have h := h.2.2 c8
        refine r_aload_n C 0 dX8_read_34 rfl ?_
        refine r_callV (As := []) (o := 0) (n := 0) C dX8_read_35 (x8_readClause_ct κ.1.2.1 ad cA D s5) gX8_read_X8_readClause rfl ⟨rfl, rfl⟩ (by decide +kernel) (by decide) (shB_0) rfl rfl rfl (Nat.le_of_ble_eq_true rfl) (fun _ => rfl) ?_
        refine x8_readClause_mono h (fun _ s7 h => ?_)
        refine r_goto (tgt := 20) C dX8_read_38 (by decide) ?_
        exact r_perm [0] rfl ((z20 _).1 h)
  · intro s h
    refine (z41 _).2 ?_
    refine r_aload_n C 0 dX8_read_41 rfl ?_
    refine r_iconst C dX8_read_42 ?_
    refine r_puti (j := 30) (jz := 30) C dX8_read_43 (shB_0) rfl rfl (by decide) in_x8_read_X8 tyX8 tyX8_ok nmX8 w_x8_read_163 rfl rfl (by decide +kernel) rfl (fun s10 e_s10 => ?_)
    have h := h s10 e_s10
    refine r_aload_n C 0 dX8_read_46 rfl ?_
    refine r_get (j := 32) (jz := 32) (v := vI (s10 0 (32 : Int))) C dX8_read_47 (shB_0) rfl rfl (by decide) in_x8_read_X8 w_x8_read_263 rfl rfl rfl ?_
    refine r_if_le (tgt := 66) C dX8_read_50 (by decide) ⟨h.1, fun c13 => ?_, fun c13 => ?_⟩
    · have h := h.2.1 c13
      refine r_aload_n C 0 dX8_read_66 rfl ?_
      refine r_iconst C dX8_read_67 ?_
      refine r_puti (j := 36) (jz := 36) C dX8_read_68 (shB_0) rfl rfl (by decide) in_x8_read_X8 tyX8 tyX8_ok nmX8 w_x8_read_166 rfl rfl (by decide +kernel) rfl (fun s11 e_s11 => ?_)
      have h := h s11 e_s11
      exact r_perm [0] rfl ((z71 _).1 h)
    · have h := h.2.2 c13
      refine r_aload_n C 0 dX8_read_53 rfl ?_
      refine r_iconst C dX8_read_54 ?_
      refine r_puti (j := 36) (jz := 36) C dX8_read_55 (shB_0) rfl rfl (by decide) in_x8_read_X8 tyX8 tyX8_ok nmX8 w_x8_read_166 rfl rfl (by decide +kernel) rfl (fun s12 e_s12 => ?_)
      have h := h s12 e_s12
      refine r_bipush C dX8_read_58 (by decide) ?_
      refine r_aload_n C 0 dX8_read_60 rfl ?_
      refine r_get (j := 32) (jz := 32) (v := vI (s12 0 (32 : Int))) C dX8_read_61 (shB_0) rfl rfl (by decide) in_x8_read_X8 w_x8_read_263 rfl rfl rfl ?_
      refine r_isub C dX8_read_64 ?_
      exact r_ireturn C dX8_read_65 h
  · intro s h
    refine (z71 _).2 ?_
    refine r_aload_n C 0 dX8_read_71 rfl ?_
    refine r_get (j := 36) (jz := 36) (v := vI (s 0 (36 : Int))) C dX8_read_72 (shB_0) rfl rfl (by decide) in_x8_read_X8 w_x8_read_166 rfl rfl rfl ?_
    refine r_aload_n C 0 dX8_read_75 rfl ?_
    refine r_get (j := 37) (jz := 37) (v := vI (s 0 (37 : Int))) C dX8_read_76 (shB_0) rfl rfl (by decide) in_x8_read_X8 w_x8_read_300 rfl rfl rfl ?_
    refine r_icmp_ge (tgt := 106) C dX8_read_79 (by decide) ⟨h.1, fun c18 => ?_, fun c18 => ?_⟩
    · have h := h.2.1 c18
      refine r_aload_n C 0 dX8_read_106 rfl ?_
      refine r_get (j := 36) (jz := 36) (v := vI (s 0 (36 : Int))) C dX8_read_107 (shB_0) rfl rfl (by decide) in_x8_read_X8 w_x8_read_166 rfl rfl rfl ?_
      exact r_ireturn C dX8_read_110 h
    · have h := h.2.2 c18
      refine r_aload_n C 0 dX8_read_82 rfl ?_
      refine r_aload_n C 0 dX8_read_83 rfl ?_
      refine r_get (j := 36) (jz := 36) (v := vI (s 0 (36 : Int))) C dX8_read_84 (shB_0) rfl rfl (by decide) in_x8_read_X8 w_x8_read_166 rfl rfl rfl ?_
      refine r_callV (As := [vI (s 0 (36 : Int))]) (o := 0) (n := 1) C dX8_read_87 (x8_doOne_ct κ.1.2.1 ad cA D (s 0 (36 : Int)) s) gX8_read_X8_doOne rfl ⟨rfl, rfl⟩ (by decide +kernel) (by decide) (shB_0) rfl rfl rfl (Nat.le_of_ble_eq_true rfl) (fun _ => rfl) ?_
      refine x8_doOne_mono h (fun r15 s14 h => ?_)
      refine r_if_eq (tgt := 106) C dX8_read_90 (by decide) ⟨h.1, fun c17 => ?_, fun c17 => ?_⟩
      · have h := h.2.1 c17
        refine r_aload_n C 0 dX8_read_106 rfl ?_
        refine r_get (j := 36) (jz := 36) (v := vI (s14 0 (36 : Int))) C dX8_read_107 (shB_0) rfl rfl (by decide) in_x8_read_X8 w_x8_read_166 rfl rfl rfl ?_
        exact r_ireturn C dX8_read_110 h
      · have h := h.2.2 c17
        refine r_aload_n C 0 dX8_read_93 rfl ?_
        refine r_dup C dX8_read_94 rfl ?_
        refine r_get (j := 36) (jz := 36) (v := vI (s14 0 (36 : Int))) C dX8_read_95 (shB_0) rfl rfl (by decide) in_x8_read_X8 w_x8_read_166 rfl rfl rfl ?_
        refine r_iconst C dX8_read_98 ?_
        refine r_iadd C dX8_read_99 ?_
        refine r_puti (j := 36) (jz := 36) C dX8_read_100 (shB_0) rfl rfl (by decide) in_x8_read_X8 tyX8 tyX8_ok nmX8 w_x8_read_166 rfl rfl (by decide +kernel) rfl (fun s16 e_s16 => ?_)
        have h := h s16 e_s16
        refine r_goto (tgt := 71) C dX8_read_103 (by decide) ?_
        exact r_perm [0] rfl ((z71 _).1 h)
theorem x8_read_ct (l : Launch) (ad : Nat → Nat) (cA : Nat → ClassId) (D : va_G)  (s : Mem) : MG l yX8_read wsX8_read x8_read_rm ocI [.ref (ad 0)] (GB ad cA D) s (x8_read  s) :=
  m_met (own := RX8) (nL := 1) (by decide) rfl rfl (Nat.le_of_ble_eq_true rfl) rfl rfl rfl (fun κ hl C Q Pst hW hQ => x8_read_bd C (x8_read_mono hW hQ))

def x8_fault  (s : Mem) (Q : Int → Mem → Prop) : Prop :=
  Q (s 0 (33 : Int)) s
theorem x8_fault_mono {Q R : Int → Mem → Prop}  {s : Mem} (h : x8_fault  s Q) (hQ : ∀ r s, Q r s → R r s) : x8_fault  s R :=
  hQ _ _ h
def x8_fault_rm : Room := { frames := 0, cells := 0, slots := 0, locals := 0 }
theorem w_x8_fault_69 : Cond.fieldLink RX8 69 "BoltRingModel" "place" "I" ∈ wsX8_fault := by decide +kernel
theorem in_x8_fault_X8 : ∀ w ∈ wsX80, w ∈ wsX8_fault := by decide +kernel
set_option maxHeartbeats 4000000 in
set_option maxRecDepth 100000 in
theorem x8_fault_bd {κ : KT} {ad : Nat → Nat} {cA : Nat → ClassId} {D : va_G} {Q : State → Prop}  {s : Mem} (C : CX κ (GB ad cA D) RX8 cX8_fault 1 wsX8_fault x8_fault_rm (some .int)) (h : x8_fault  s (RT κ (GB ad cA D) ocI Q)) : WM κ (GB ad cA D) 1 Q s 0 [(0, .ref (ad 0))] [] := by
  refine r_aload_n C 0 dX8_fault_0 rfl ?_
  refine r_get (j := 33) (jz := 33) (v := vI (s 0 (33 : Int))) C dX8_fault_1 (shB_0) rfl rfl (by decide) in_x8_fault_X8 w_x8_fault_69 rfl rfl rfl ?_
  exact r_ireturn C dX8_fault_4 h
theorem x8_fault_ct (l : Launch) (ad : Nat → Nat) (cA : Nat → ClassId) (D : va_G)  (s : Mem) : MG l yX8_fault wsX8_fault x8_fault_rm ocI [.ref (ad 0)] (GB ad cA D) s (x8_fault  s) :=
  m_met (own := RX8) (nL := 1) (by decide) rfl rfl (Nat.le_of_ble_eq_true rfl) rfl rfl rfl (fun κ hl C Q Pst hW hQ => x8_fault_bd C (x8_fault_mono hW hQ))
