/-! ===== what the start gives ===== -/
theorem v_A {s : State} : ∀ a : Nat, a < s.heap.size → ¬ (fun q : Nat => s.heap.size ≤ q) a := fun _ h z => absurd h (Nat.not_lt.mpr z)
theorem v_nest {args : Array Value} {s : State} (hts : ∀ w ∈ lw_tbl, w.before args s = true) : m_nest s := ⟨va_Nw.of rfl (hts _ (by decide +kernel)), va_Nw.of rfl (hts _ (by decide +kernel)), va_Nw.of rfl (hts _ (by decide +kernel)), va_Nw.of rfl (hts _ (by decide +kernel)), va_Nw.of rfl (hts _ (by decide +kernel))⟩
theorem v_aoa {args : Array Value} {s : State} (hts : ∀ w ∈ lw_tbl, w.before args s = true) : va_AOA .int s := hts (.arrayOver (.array .int)) (by decide +kernel)
theorem v_E7 {args : Array Value} {s : State} (hts : ∀ w ∈ lw_tbl, w.before args s = true) : o_E7 s := ⟨va_Nw.of rfl (hts _ (by decide +kernel)), va_Nw.of rfl (hts _ (by decide +kernel)), va_Nw.of rfl (hts _ (by decide +kernel)), va_Nw.of rfl (hts _ (by decide +kernel)), va_Nw.of rfl (hts _ (by decide +kernel)), va_Nw.of rfl (hts _ (by decide +kernel)), va_Nw.of rfl (hts _ (by decide +kernel)), va_Nw.of rfl (hts _ (by decide +kernel)), v_aoa hts⟩
def v_tm (i : Nat) : Term := .string RX5 (105 + 2 * i)
def v_fl : List Cond := flatC (Jvm.Cond.and given_1 narrow_1)
theorem v_s1 : ∀ i, i < 8 → m_sl.getD i 0 < 2 ^ 31 := by decide +kernel
theorem v_s2 : ∀ i, i < 8 → Cond.exactly (v_tm i) "java/lang/String" ∈ v_fl := by decide +kernel
theorem v_s3 : ∀ i, i < 8 → Cond.eq (.field (v_tm i) "java/lang/String" "coder" "B") (.int 0) ∈ v_fl := by decide +kernel
theorem v_s4 : ∀ i, i < 8 → Cond.arrayOf (.field (v_tm i) "java/lang/String" "value" "[B") .byte ∈ v_fl := by decide +kernel
theorem v_s5 : ∀ i, i < 8 → Cond.eq (.length (.field (v_tm i) "java/lang/String" "value" "[B")) (.int (Int32.ofNat (m_sl.getD i 0))) ∈ v_fl := by decide +kernel
theorem v_s6 : ∀ i, i < 8 → ∀ j, j < m_sl.getD i 0 → Cond.eq (.elem (.field (v_tm i) "java/lang/String" "value" "[B") (.int (Int32.ofNat j))) (.int ((m_sb.getD i []).getD j 0)) ∈ v_fl := by decide +kernel
theorem v_s7 : ∀ i, i < 8 → ∀ j, j < 8 → i ≠ j → Cond.not (Cond.eq (v_tm i) (v_tm j)) ∈ v_fl ∨ Cond.not (Cond.eq (v_tm j) (v_tm i)) ∈ v_fl := by decide +kernel
theorem v_s8 : ∀ i, i < 8 → Cond.stringRef RX5 (105 + 2 * i) (m_tx i) ∈ lw_tbl := by decide +kernel
def v_ad (adK adV : Nat → Nat) (i : Nat) : Nat := if i < 2000 then adK (i - 1000) else adV (i - 2000)
theorem v_ext {args : Array Value} {s : State} (hts : ∀ w ∈ lw_tbl, w.before args s = true) (hgv : (Jvm.Cond.and given_1 narrow_1).before args s = true) : ∃ adS : Nat → Nat, m_ext adS (fun q : Nat => s.heap.size ≤ q) s s.heap := by
  have hs := flat_of_before _ hgv
  obtain ⟨adK, adV, hS, hK⟩ := vk_Sof (A := fun q : Nat => s.heap.size ≤ q) (N := 8) (tm := v_tm) (len := m_sl) (byt := m_sb) v_s1 (fun i hi => hs _ (v_s2 i hi)) (fun i hi => hs _ (v_s3 i hi)) (fun i hi => hs _ (v_s4 i hi)) (fun i hi => hs _ (v_s5 i hi)) (fun i hi j hj => hs _ (v_s6 i hi j hj)) (fun i j hi hj hij => (v_s7 i hi j hj hij).elim (fun h => Or.inl (hs _ h)) (fun h => Or.inr (hs _ h))) v_A
  have e1 : ∀ i, i < 8 → v_ad adK adV (1000 + i) = adK i := fun i hi => by
    unfold v_ad
    rw [if_pos (by omega), show 1000 + i - 1000 = i by omega]
  have e2 : ∀ i, v_ad adK adV (2000 + i) = adV i := fun i => by
    unfold v_ad
    rw [if_neg (by omega), show 2000 + i - 2000 = i by omega]
  refine ⟨v_ad adK adV, v_nest hts, ⟨va_Zof (hts _ (by decide +kernel)) (hts _ (by decide +kernel)) (va_eqt (hs _ (by decide +kernel))) v_A, va_Zqof (hts _ (by decide +kernel)) (hts _ (by decide +kernel)) (hs _ (by decide +kernel)) v_A⟩, ⟨fun i hi => ?_, fun i j hi hj h => ?_⟩, fun k hk => ?_⟩
  · have h := hS.1 i hi
    show va_O _ (v_ad adK adV (1000 + i)) _ _ _ ∧ va_OF _ _ _ _ (v_ad adK adV (1000 + i)) _ _ _ ∧ va_OF _ _ _ (.ref (v_ad adK adV (2000 + i))) (v_ad adK adV (1000 + i)) _ _ _ ∧ va_T _ (v_ad adK adV (2000 + i)) _ _ _ _ _
    rw [e1 i hi, e2 i]
    exact h
  · have h : v_ad adK adV (1000 + i) = v_ad adK adV (1000 + j) := h
    rw [e1 i hi, e1 j hj] at h
    exact hS.2 i j hi hj h
  · rw [e1 k hk]
    exact vk_R.of (hts _ (v_s8 k hk)) (hK k hk)
theorem v_arr {args : Array Value} {s : State} {ty : FieldType} (h : (Cond.arrayClass ty).before args s = true) : ∃ c : ClassId, ArrOfT s c ty ∧ s.vm.findClass ("[" ++ ty.toString) = some c := by
  obtain ⟨c, k, comp, h1, h2, h3⟩ := Cond.arrayClass_spec h
  exact ⟨c, fun n z => ⟨fun k h => (by cases h), k, h2, comp, h3⟩, h1⟩
theorem v_arr2 {args : Array Value} {s : State} {t : FieldType} (h : (Cond.arrayOver (.array t)).before args s = true) : ∃ c : ClassId, ArrOfT s c (.array t) ∧ s.vm.findClass ("[" ++ (FieldType.array t).toString) = some c := by
  obtain ⟨comp, c, k, -, h2, h3, h4⟩ := Cond.arrayOver_specA h
  exact ⟨c, fun n z => ⟨fun k h => (by cases h), k, h2, comp, h3⟩, h4⟩
theorem v_K {args : Array Value} {s : State} (hts : ∀ w ∈ lw_tbl, w.before args s = true) : ∃ (D : va_G) (cA : Nat → ClassId), va_K D vwCl (m_tys cA) s := by
  obtain ⟨c0, i0, h0⟩ := u_known (C := RX0) (T := TX0) (N := 4) hts inX0 (hts (.instantiable RX0 4) (by decide +kernel))
  obtain ⟨c1, i1, h1⟩ := u_known (C := RX1) (T := TX1) (N := 7) hts inX1 (hts (.instantiable RX1 7) (by decide +kernel))
  obtain ⟨c2, i2, h2⟩ := u_known (C := RX2) (T := TX2) (N := 8) hts inX2 (hts (.instantiable RX2 8) (by decide +kernel))
  obtain ⟨c3, i3, h3⟩ := u_known (C := RX3) (T := TX3) (N := 6) hts inX3 (hts (.instantiable RX3 6) (by decide +kernel))
  obtain ⟨c4, i4, h4⟩ := u_known (C := RX4) (T := TX4) (N := 2) hts inX4 (hts (.instantiable RX4 2) (by decide +kernel))
  obtain ⟨c5, i5, h5⟩ := u_known (C := RX5) (T := TX5) (N := 12) hts inX5 (hts (.instantiable RX5 12) (by decide +kernel))
  obtain ⟨c6, i6, h6⟩ := u_known (C := RX6) (T := TX6) (N := 3) hts inX6 (hts (.instantiable RX6 3) (by decide +kernel))
  obtain ⟨c7, i7, h7⟩ := u_known (C := RX7) (T := TX7) (N := 8) hts inX7 (hts (.instantiable RX7 8) (by decide +kernel))
  obtain ⟨c8, i8, h8⟩ := u_known (C := RX8) (T := TX8) (N := 41) hts inX8 (hts (.instantiable RX8 41) (by decide +kernel))
  obtain ⟨a0, p0, q0⟩ := v_arr (hts (.arrayClass .int) (by decide +kernel))
  obtain ⟨a1, p1, q1⟩ := v_arr (hts (.arrayClass .long) (by decide +kernel))
  obtain ⟨a2, p2, q2⟩ := v_arr (hts (.arrayClass .boolean) (by decide +kernel))
  obtain ⟨a3, p3, q3⟩ := v_arr2 (v_aoa hts)
  refine ⟨(fun k => match k with | 0 => c0 | 1 => c1 | 2 => c2 | 3 => c3 | 4 => c4 | 5 => c5 | 6 => c6 | 7 => c7 | _ => c8, fun k => match k with | 0 => i0 | 1 => i1 | 2 => i2 | 3 => i3 | 4 => i4 | 5 => i5 | 6 => i6 | 7 => i7 | _ => i8), fun k => match k with | 0 => a0 | 1 => a1 | 2 => a2 | _ => a3, fun c q hq => ?_, fun k q hq => ?_⟩
  · match c, hq with
    | 0, hq => cases hq; exact h0
    | 1, hq => cases hq; exact h1
    | 2, hq => cases hq; exact h2
    | 3, hq => cases hq; exact h3
    | 4, hq => cases hq; exact h4
    | 5, hq => cases hq; exact h5
    | 6, hq => cases hq; exact h6
    | 7, hq => cases hq; exact h7
    | 8, hq => cases hq; exact h8
    | c + 9, hq => simp at hq
  · match k, hq with
    | 0, hq => cases hq; exact ⟨p0, q0⟩
    | 1, hq => cases hq; exact ⟨p1, q1⟩
    | 2, hq => cases hq; exact ⟨p2, q2⟩
    | 3, hq => cases hq; exact ⟨p3, q3⟩
    | k + 4, hq => simp [m_tys] at hq
