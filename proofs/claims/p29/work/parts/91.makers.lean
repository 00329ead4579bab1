/-! ===== the makers of the parts (written by wip/whole/gen91.py) ===== -/
theorem o_E : ∀ s U : State, s.WarmedH U.vm → True → True := fun _ _ _ h => h
theorem o_E0 : ∀ s U : State, s.WarmedH U.vm → va_AOA .int s → va_AOA .int U := fun _ _ hW h => o_aoa hW.alike h
theorem o_E1 : ∀ s U : State, s.WarmedH U.vm → va_Nw (.methodLinkNest RX1 11 yX3_init RX7) s → va_Nw (.methodLinkNest RX1 11 yX3_init RX7) U := fun _ _ hW h => va_Nw.warmM hW h
theorem n_mna {κ : KT} {cA : Nat → ClassId} {D : va_G} {own : String} {cc : ByteArray} {nL : Nat} {Ts : List Cond} {rm : Room} {Q : State → Prop} {n z : Nat} {ws : va_W} {pc : Nat} {ls : List (Nat × Value)} {st : List Value} (C : CN κ cA D own cc nL Ts rm) {index : Nat} (d : decode cc pc = .ok (.multianewarray index 2, 4)) (hcl : Cond.classLink own index "[[I" ∈ Ts) (hover : va_AOA .int κ.1.2.2.2.2) (ha : Cond.arrayClass .int ∈ Ts) (h1 : n + (1 + 6) ≤ rm.cells) (h2 : z + (6 + 6 * 6) ≤ rm.slots) (kk : ∀ (q : Nat) (r : Nat → Nat), WN κ D nL Q (n + 1 + 6) (z + 6 + 6 * 6) (ws ++ [(q, .inl (cA 3, 6, .inr (.inr (.inr (.inr fun j => some (r j)))))), (r 0, .inl (cA 0, 6, .inl fun _ => Int32.ofInt 0)), (r 1, .inl (cA 0, 6, .inl fun _ => Int32.ofInt 0)), (r 2, .inl (cA 0, 6, .inl fun _ => Int32.ofInt 0)), (r 3, .inl (cA 0, 6, .inl fun _ => Int32.ofInt 0)), (r 4, .inl (cA 0, 6, .inl fun _ => Int32.ofInt 0)), (r 5, .inl (cA 0, 6, .inl fun _ => Int32.ofInt 0))]) (pc + 4) ls (.ref q :: st)) : WN κ D nL Q n z ws pc ls (vI 6 :: vI 6 :: st) := by
  intro H locs arr hP hD hS hl
  have e0 : κ.1.2.2.2.2.vm.findClass (FieldType.array .int).toString = some (cA 0) := (C.2.1.2 0 _ rfl).2
  have hP0 : va_P D vwCl (ws ++ va_pl [] (fun _ => (.inr (0, []) : va_E))) H := by
    show va_P D vwCl (ws ++ []) H
    rw [List.append_nil]
    exact hP
  have hD0 : va_D κ.2.2 (ws ++ va_pl [] (fun _ => (.inr (0, []) : va_E))) := by
    show va_D κ.2.2 (ws ++ [])
    rw [List.append_nil]
    exact hD
  refine va_mna (ty := .int) (N' := 6) (K' := 6) (z := (6, .inl fun _ => Int32.ofInt 0)) C.1.1 C.1.2.1 C.1.2.2.2.1 (C.1.2.2.2.2 _ hcl) hover (C.1.2.2.2.2 _ ha) e0 C.2.1 hP0 hD0 hS C.2.2.1 (by decide) (by decide) rfl rfl (by decide) (by decide) (by decide) rfl rfl (by rw [C.2.2.2.1]; exact h1) (by rw [C.2.2.2.1]; exact h2) (fun c => arrV_new c 6 _) d (fun q r c H1 _ _ hK hP1 hD1 hS1 => ?_)
  have e1 : κ.1.2.2.2.2.vm.findClass ("[" ++ (FieldType.array .int).toString) = some c := (hK.2 4 (c, .array .int) rfl).2
  have e2 : κ.1.2.2.2.2.vm.findClass ("[" ++ (FieldType.array .int).toString) = some (cA 3) := (C.2.1.2 3 _ rfl).2
  have ec : c = cA 3 := Option.some.inj (e1.symm.trans e2)
  subst ec
  have er : va_pl ([] ++ (List.range 6).map r) (vr_up (fun _ => (.inr (0, []) : va_E)) ((List.range 6).map r) (.inl (cA 0, (6, .inl fun _ => Int32.ofInt 0)))) = [(r 0, .inl (cA 0, 6, .inl fun _ => Int32.ofInt 0)), (r 1, .inl (cA 0, 6, .inl fun _ => Int32.ofInt 0)), (r 2, .inl (cA 0, 6, .inl fun _ => Int32.ofInt 0)), (r 3, .inl (cA 0, 6, .inl fun _ => Int32.ofInt 0)), (r 4, .inl (cA 0, 6, .inl fun _ => Int32.ofInt 0)), (r 5, .inl (cA 0, 6, .inl fun _ => Int32.ofInt 0))] := by
    have g : ∀ i, i < 6 → vr_up (fun _ => (.inr (0, []) : va_E)) ((List.range 6).map r) (.inl (cA 0, (6, .inl fun _ => Int32.ofInt 0))) (r i) = .inl (cA 0, 6, .inl fun _ => Int32.ofInt 0) := fun i hi => vr_up_in (List.mem_map_of_mem (List.mem_range.mpr hi))
    show [(r 0, vr_up _ _ _ (r 0)), (r 1, vr_up _ _ _ (r 1)), (r 2, vr_up _ _ _ (r 2)), (r 3, vr_up _ _ _ (r 3)), (r 4, vr_up _ _ _ (r 4)), (r 5, vr_up _ _ _ (r 5))] = _
    rw [g 0 (by decide), g 1 (by decide), g 2 (by decide), g 3 (by decide), g 4 (by decide), g 5 (by decide)]
  rw [er] at hP1 hD1
  rw [List.append_assoc] at hP1 hD1
  have ef : vp_cell (cA 3) (6, .inr (.inr (.inr (.inr fun i => if i < 6 then some (r i) else none)))) = vp_cell (cA 3) (6, .inr (.inr (.inr (.inr fun j => some (r j))))) := by
    rw [vp_cell_q, vp_cell_q]
    show ({ cls := cA 3, slots := Array.ofFn (n := 6) fun j => va_rf (if j.val < 6 then some (r j.val) else none), vm := .none } : Cell) = { cls := cA 3, slots := Array.ofFn (n := 6) fun j => va_rf (some (r j.val)), vm := .none }
    refine congrArg (fun x => ({ cls := cA 3, slots := x, vm := .none } : Cell)) ?_
    refine congrArg (fun f => Array.ofFn (n := 6) f) (funext fun j => ?_)
    rw [if_pos j.isLt]
  refine kk q r H1 locs arr (fun k x hx => ?_) ⟨fun i j x y hx hy hxy => ?_, fun k x hx => ?_⟩ hS1 hl
  · by_cases w : k = ws.length
    · rw [w, List.getElem?_append_right (Nat.le_refl _), Nat.sub_self] at hx
      cases hx
      have h0 := hP1 k (q, .inl (cA 3, 6, .inr (.inr (.inr (.inr fun i => if i < 6 then some (r i) else none))))) (by rw [w, List.getElem?_append_right (Nat.le_refl _), Nat.sub_self]; rfl)
      show H1[q]? = some (vp_cell (cA 3) (6, .inr (.inr (.inr (.inr fun j => some (r j))))))
      rw [← ef]
      exact h0
    · refine hP1 k x ?_
      by_cases w2 : k < ws.length
      · rw [List.getElem?_append_left w2] at hx ⊢
        exact hx
      · rw [List.getElem?_append_right (by omega)] at hx ⊢
        obtain ⟨t, ht⟩ : ∃ t, k - ws.length = t + 1 := ⟨k - ws.length - 1, by omega⟩
        rw [ht] at hx ⊢
        exact hx
  all_goals
    have adr : ∀ (k : Nat) (x : Nat × va_E), (ws ++ [(q, (.inl (cA 3, 6, .inr (.inr (.inr (.inr fun j => some (r j))))) : va_E)), (r 0, .inl (cA 0, 6, .inl fun _ => Int32.ofInt 0)), (r 1, .inl (cA 0, 6, .inl fun _ => Int32.ofInt 0)), (r 2, .inl (cA 0, 6, .inl fun _ => Int32.ofInt 0)), (r 3, .inl (cA 0, 6, .inl fun _ => Int32.ofInt 0)), (r 4, .inl (cA 0, 6, .inl fun _ => Int32.ofInt 0)), (r 5, .inl (cA 0, 6, .inl fun _ => Int32.ofInt 0))])[k]? = some x → ∃ e : va_E, (ws ++ ([(q, (.inl (cA 3, 6, .inr (.inr (.inr (.inr fun i => if i < 6 then some (r i) else none)))) : va_E))] ++ [(r 0, .inl (cA 0, 6, .inl fun _ => Int32.ofInt 0)), (r 1, .inl (cA 0, 6, .inl fun _ => Int32.ofInt 0)), (r 2, .inl (cA 0, 6, .inl fun _ => Int32.ofInt 0)), (r 3, .inl (cA 0, 6, .inl fun _ => Int32.ofInt 0)), (r 4, .inl (cA 0, 6, .inl fun _ => Int32.ofInt 0)), (r 5, .inl (cA 0, 6, .inl fun _ => Int32.ofInt 0))]))[k]? = some (x.1, e) := fun k x hx => by
      by_cases w2 : k < ws.length
      · rw [List.getElem?_append_left w2] at hx ⊢
        exact ⟨x.2, hx⟩
      · rw [List.getElem?_append_right (by omega)] at hx ⊢
        cases ht : k - ws.length with
        | zero =>
          rw [ht] at hx
          cases hx
          exact ⟨_, rfl⟩
        | succ t =>
          rw [ht] at hx
          exact ⟨x.2, hx⟩
  · obtain ⟨e, he⟩ := adr i x hx
    obtain ⟨e', he'⟩ := adr j y hy
    exact hD1.1 i j _ _ he he' hxy
  · obtain ⟨e, he⟩ := adr k x hx
    exact hD1.2 k (x.1, e) he
theorem wn2_0 : Cond.methodLink RX2 3 objectInit ∈ wsX2_init := by decide +kernel
theorem wn2_1 : Cond.instanceMethod objectInit ∈ wsX2_init := by decide +kernel
theorem wn2_2 : Cond.code objectInit ⟨#[0xb1]⟩ 1 none ∈ wsX2_init := by decide +kernel
theorem wn2_3 : Cond.arrayClass .int ∈ wsX2_init := by decide +kernel
theorem wn2_4 : Cond.fieldLink RX2 9 "BoltRing$Joint" "stiffness" "[I" ∈ wsX2_init := by decide +kernel
theorem wn2_5 : Cond.fieldLink RX2 15 "BoltRing$Joint" "pads" "[I" ∈ wsX2_init := by decide +kernel
theorem wn2_6 : Cond.fieldLink RX2 18 "BoltRing$Joint" "turns" "[I" ∈ wsX2_init := by decide +kernel
theorem wn2_7 : Cond.fieldLink RX2 21 "BoltRing$Joint" "loads" "[I" ∈ wsX2_init := by decide +kernel
theorem wn2_8 : Cond.fieldLink RX2 24 "BoltRing$Joint" "order" "[I" ∈ wsX2_init := by decide +kernel
theorem in_n2_X2 : ∀ w ∈ u_ws RX2 TX2 8, w ∈ wsX2_init := by decide +kernel
abbrev k_W2 (cA : Nat → ClassId) (h : Nat) (r : Nat → Nat) : va_W := [(h, .inr (2, [vI 0, vI 0, vI 0, .ref (r 0), .ref (r 1), .ref (r 2), .ref (r 3), .ref (r 4)])), ((r 0), .inl (cA 0, 6, .inl fun _ => Int32.ofInt 0)), ((r 1), .inl (cA 0, 6, .inl fun _ => Int32.ofInt 0)), ((r 2), .inl (cA 0, 6, .inl fun _ => Int32.ofInt 0)), ((r 3), .inl (cA 0, 6, .inl fun _ => Int32.ofInt 0)), ((r 4), .inl (cA 0, 6, .inl fun _ => Int32.ofInt 0))]
def k_rm2 : Room := { frames := 1, cells := 5, slots := 30, locals := 20 }
set_option maxRecDepth 20000 in
theorem k_X2 (l : Launch) (cA : Nat → ClassId) (D : va_G) (h : Nat) : MI l yX2_init wsX2_init k_rm2 h 2 [vI 0, vI 0, vI 0, .null, .null, .null, .null, .null] cA D (fun _ => True) (k_W2 cA h) 5 30 := by
  refine n_met (cc := cX2_init) (own := RX2) (by decide) rfl rfl rfl (fun κ hl C hE => ?_)
  subst hl
  refine n_aload0 C dX2_init_0 rfl ?_
  refine n_objInit C dX2_init_1 wn2_0 wn2_1 wn2_2 (Nat.le_of_ble_eq_true rfl) (Nat.le_of_ble_eq_true rfl) ?_
  refine n_aload0 C dX2_init_4 rfl ?_
  refine n_bipush C dX2_init_5 (by decide) ?_
  refine n_newI (N := 6) C dX2_init_7 wn2_3 ⟨rfl, by decide⟩ (Nat.le_of_ble_eq_true rfl) (Nat.le_of_ble_eq_true rfl) (fun q7 => ?_)
  show WN κ D 1 _ 1 6 [(h, .inr (2, [vI 0, vI 0, vI 0, .null, .null, .null, .null, .null])), (q7, .inl (cA 0, 6, .inl fun _ => Int32.ofInt 0))] 9 [(0, .ref h)] [.ref q7, .ref h]
  refine n_putF (q0 := 0) (k := 3) (ty := .array .int) C dX2_init_9 rfl rfl (by decide) in_n2_X2 tyX2 tyX2_ok nmX2 wn2_4 rfl rfl (by decide +kernel) rfl rfl (Nat.le_of_ble_eq_true rfl) ?_
  show WN κ D 1 _ 1 6 [(h, .inr (2, [vI 0, vI 0, vI 0, .ref q7, .null, .null, .null, .null])), (q7, .inl (cA 0, 6, .inl fun _ => Int32.ofInt 0))] 12 [(0, .ref h)] []
  refine n_aload0 C dX2_init_12 rfl ?_
  refine n_bipush C dX2_init_13 (by decide) ?_
  refine n_newI (N := 6) C dX2_init_15 wn2_3 ⟨rfl, by decide⟩ (Nat.le_of_ble_eq_true rfl) (Nat.le_of_ble_eq_true rfl) (fun q15 => ?_)
  show WN κ D 1 _ 2 12 [(h, .inr (2, [vI 0, vI 0, vI 0, .ref q7, .null, .null, .null, .null])), (q7, .inl (cA 0, 6, .inl fun _ => Int32.ofInt 0)), (q15, .inl (cA 0, 6, .inl fun _ => Int32.ofInt 0))] 17 [(0, .ref h)] [.ref q15, .ref h]
  refine n_putF (q0 := 0) (k := 4) (ty := .array .int) C dX2_init_17 rfl rfl (by decide) in_n2_X2 tyX2 tyX2_ok nmX2 wn2_5 rfl rfl (by decide +kernel) rfl rfl (Nat.le_of_ble_eq_true rfl) ?_
  show WN κ D 1 _ 2 12 [(h, .inr (2, [vI 0, vI 0, vI 0, .ref q7, .ref q15, .null, .null, .null])), (q7, .inl (cA 0, 6, .inl fun _ => Int32.ofInt 0)), (q15, .inl (cA 0, 6, .inl fun _ => Int32.ofInt 0))] 20 [(0, .ref h)] []
  refine n_aload0 C dX2_init_20 rfl ?_
  refine n_bipush C dX2_init_21 (by decide) ?_
  refine n_newI (N := 6) C dX2_init_23 wn2_3 ⟨rfl, by decide⟩ (Nat.le_of_ble_eq_true rfl) (Nat.le_of_ble_eq_true rfl) (fun q23 => ?_)
  show WN κ D 1 _ 3 18 [(h, .inr (2, [vI 0, vI 0, vI 0, .ref q7, .ref q15, .null, .null, .null])), (q7, .inl (cA 0, 6, .inl fun _ => Int32.ofInt 0)), (q15, .inl (cA 0, 6, .inl fun _ => Int32.ofInt 0)), (q23, .inl (cA 0, 6, .inl fun _ => Int32.ofInt 0))] 25 [(0, .ref h)] [.ref q23, .ref h]
  refine n_putF (q0 := 0) (k := 5) (ty := .array .int) C dX2_init_25 rfl rfl (by decide) in_n2_X2 tyX2 tyX2_ok nmX2 wn2_6 rfl rfl (by decide +kernel) rfl rfl (Nat.le_of_ble_eq_true rfl) ?_
  show WN κ D 1 _ 3 18 [(h, .inr (2, [vI 0, vI 0, vI 0, .ref q7, .ref q15, .ref q23, .null, .null])), (q7, .inl (cA 0, 6, .inl fun _ => Int32.ofInt 0)), (q15, .inl (cA 0, 6, .inl fun _ => Int32.ofInt 0)), (q23, .inl (cA 0, 6, .inl fun _ => Int32.ofInt 0))] 28 [(0, .ref h)] []
  refine n_aload0 C dX2_init_28 rfl ?_
  refine n_bipush C dX2_init_29 (by decide) ?_
  refine n_newI (N := 6) C dX2_init_31 wn2_3 ⟨rfl, by decide⟩ (Nat.le_of_ble_eq_true rfl) (Nat.le_of_ble_eq_true rfl) (fun q31 => ?_)
  show WN κ D 1 _ 4 24 [(h, .inr (2, [vI 0, vI 0, vI 0, .ref q7, .ref q15, .ref q23, .null, .null])), (q7, .inl (cA 0, 6, .inl fun _ => Int32.ofInt 0)), (q15, .inl (cA 0, 6, .inl fun _ => Int32.ofInt 0)), (q23, .inl (cA 0, 6, .inl fun _ => Int32.ofInt 0)), (q31, .inl (cA 0, 6, .inl fun _ => Int32.ofInt 0))] 33 [(0, .ref h)] [.ref q31, .ref h]
  refine n_putF (q0 := 0) (k := 6) (ty := .array .int) C dX2_init_33 rfl rfl (by decide) in_n2_X2 tyX2 tyX2_ok nmX2 wn2_7 rfl rfl (by decide +kernel) rfl rfl (Nat.le_of_ble_eq_true rfl) ?_
  show WN κ D 1 _ 4 24 [(h, .inr (2, [vI 0, vI 0, vI 0, .ref q7, .ref q15, .ref q23, .ref q31, .null])), (q7, .inl (cA 0, 6, .inl fun _ => Int32.ofInt 0)), (q15, .inl (cA 0, 6, .inl fun _ => Int32.ofInt 0)), (q23, .inl (cA 0, 6, .inl fun _ => Int32.ofInt 0)), (q31, .inl (cA 0, 6, .inl fun _ => Int32.ofInt 0))] 36 [(0, .ref h)] []
  refine n_aload0 C dX2_init_36 rfl ?_
  refine n_bipush C dX2_init_37 (by decide) ?_
  refine n_newI (N := 6) C dX2_init_39 wn2_3 ⟨rfl, by decide⟩ (Nat.le_of_ble_eq_true rfl) (Nat.le_of_ble_eq_true rfl) (fun q39 => ?_)
  show WN κ D 1 _ 5 30 [(h, .inr (2, [vI 0, vI 0, vI 0, .ref q7, .ref q15, .ref q23, .ref q31, .null])), (q7, .inl (cA 0, 6, .inl fun _ => Int32.ofInt 0)), (q15, .inl (cA 0, 6, .inl fun _ => Int32.ofInt 0)), (q23, .inl (cA 0, 6, .inl fun _ => Int32.ofInt 0)), (q31, .inl (cA 0, 6, .inl fun _ => Int32.ofInt 0)), (q39, .inl (cA 0, 6, .inl fun _ => Int32.ofInt 0))] 41 [(0, .ref h)] [.ref q39, .ref h]
  refine n_putF (q0 := 0) (k := 7) (ty := .array .int) C dX2_init_41 rfl rfl (by decide) in_n2_X2 tyX2 tyX2_ok nmX2 wn2_8 rfl rfl (by decide +kernel) rfl rfl (Nat.le_of_ble_eq_true rfl) ?_
  show WN κ D 1 _ 5 30 [(h, .inr (2, [vI 0, vI 0, vI 0, .ref q7, .ref q15, .ref q23, .ref q31, .ref q39])), (q7, .inl (cA 0, 6, .inl fun _ => Int32.ofInt 0)), (q15, .inl (cA 0, 6, .inl fun _ => Int32.ofInt 0)), (q23, .inl (cA 0, 6, .inl fun _ => Int32.ofInt 0)), (q31, .inl (cA 0, 6, .inl fun _ => Int32.ofInt 0)), (q39, .inl (cA 0, 6, .inl fun _ => Int32.ofInt 0))] 44 [(0, .ref h)] []
  exact n_ret C (fun k => match k with | 0 => q7 | 1 => q15 | 2 => q23 | 3 => q31 | 4 => q39 | _ => 0) dX2_init_44 rfl
theorem wn3_0 : Cond.methodLink RX3 3 objectInit ∈ wsX3_init := by decide +kernel
theorem wn3_1 : Cond.instanceMethod objectInit ∈ wsX3_init := by decide +kernel
theorem wn3_2 : Cond.code objectInit ⟨#[0xb1]⟩ 1 none ∈ wsX3_init := by decide +kernel
theorem wn3_3 : Cond.arrayClass .long ∈ wsX3_init := by decide +kernel
theorem wn3_4 : Cond.fieldLink RX3 9 "BoltRing$Lifts" "upper" "[J" ∈ wsX3_init := by decide +kernel
theorem wn3_5 : Cond.fieldLink RX3 15 "BoltRing$Lifts" "lower" "J" ∈ wsX3_init := by decide +kernel
theorem wn3_6 : Cond.fieldLink RX3 19 "BoltRing$Lifts" "diagonal" "[J" ∈ wsX3_init := by decide +kernel
theorem wn3_7 : Cond.fieldLink RX3 22 "BoltRing$Lifts" "side" "[J" ∈ wsX3_init := by decide +kernel
theorem wn3_8 : Cond.fieldLink RX3 25 "BoltRing$Lifts" "ribPowers" "[J" ∈ wsX3_init := by decide +kernel
theorem wn3_9 : Cond.fieldLink RX3 28 "BoltRing$Lifts" "arcs" "[J" ∈ wsX3_init := by decide +kernel
theorem in_n3_X3 : ∀ w ∈ u_ws RX3 TX3 6, w ∈ wsX3_init := by decide +kernel
abbrev k_W3 (cA : Nat → ClassId) (h : Nat) (r : Nat → Nat) : va_W := [(h, .inr (3, [.ref (r 0), vL 1, .ref (r 1), .ref (r 2), .ref (r 3), .ref (r 4)])), ((r 0), .inl (cA 1, 6, .inr (.inl fun _ => Int64.ofInt 0))), ((r 1), .inl (cA 1, 6, .inr (.inl fun _ => Int64.ofInt 0))), ((r 2), .inl (cA 1, 6, .inr (.inl fun _ => Int64.ofInt 0))), ((r 3), .inl (cA 1, 7, .inr (.inl fun _ => Int64.ofInt 0))), ((r 4), .inl (cA 1, 36, .inr (.inl fun _ => Int64.ofInt 0)))]
def k_rm3 : Room := { frames := 1, cells := 5, slots := 61, locals := 20 }
set_option maxRecDepth 20000 in
theorem k_X3 (l : Launch) (cA : Nat → ClassId) (D : va_G) (h : Nat) : MI l yX3_init wsX3_init k_rm3 h 3 [.null, vL 0, .null, .null, .null, .null] cA D (fun _ => True) (k_W3 cA h) 5 61 := by
  refine n_met (cc := cX3_init) (own := RX3) (by decide) rfl rfl rfl (fun κ hl C hE => ?_)
  subst hl
  refine n_aload0 C dX3_init_0 rfl ?_
  refine n_objInit C dX3_init_1 wn3_0 wn3_1 wn3_2 (Nat.le_of_ble_eq_true rfl) (Nat.le_of_ble_eq_true rfl) ?_
  refine n_aload0 C dX3_init_4 rfl ?_
  refine n_bipush C dX3_init_5 (by decide) ?_
  refine n_newL (N := 6) C dX3_init_7 wn3_3 ⟨rfl, by decide⟩ (Nat.le_of_ble_eq_true rfl) (Nat.le_of_ble_eq_true rfl) (fun q7 => ?_)
  show WN κ D 1 _ 1 6 [(h, .inr (3, [.null, vL 0, .null, .null, .null, .null])), (q7, .inl (cA 1, 6, .inr (.inl fun _ => Int64.ofInt 0)))] 9 [(0, .ref h)] [.ref q7, .ref h]
  refine n_putF (q0 := 0) (k := 0) (ty := .array .long) C dX3_init_9 rfl rfl (by decide) in_n3_X3 tyX3 tyX3_ok nmX3 wn3_4 rfl rfl (by decide +kernel) rfl rfl (Nat.le_of_ble_eq_true rfl) ?_
  show WN κ D 1 _ 1 6 [(h, .inr (3, [.ref q7, vL 0, .null, .null, .null, .null])), (q7, .inl (cA 1, 6, .inr (.inl fun _ => Int64.ofInt 0)))] 12 [(0, .ref h)] []
  refine n_aload0 C dX3_init_12 rfl ?_
  refine n_lconst1 C dX3_init_13 ?_
  refine n_put (q0 := 0) (k := 1) (ty := .long) C dX3_init_14 rfl rfl (by decide) in_n3_X3 tyX3 tyX3_ok nmX3 wn3_5 rfl (by decide +kernel) rfl rfl (Nat.le_of_ble_eq_true rfl) ?_
  show WN κ D 1 _ 1 6 [(h, .inr (3, [.ref q7, vL 1, .null, .null, .null, .null])), (q7, .inl (cA 1, 6, .inr (.inl fun _ => Int64.ofInt 0)))] 17 [(0, .ref h)] []
  refine n_aload0 C dX3_init_17 rfl ?_
  refine n_bipush C dX3_init_18 (by decide) ?_
  refine n_newL (N := 6) C dX3_init_20 wn3_3 ⟨rfl, by decide⟩ (Nat.le_of_ble_eq_true rfl) (Nat.le_of_ble_eq_true rfl) (fun q20 => ?_)
  show WN κ D 1 _ 2 12 [(h, .inr (3, [.ref q7, vL 1, .null, .null, .null, .null])), (q7, .inl (cA 1, 6, .inr (.inl fun _ => Int64.ofInt 0))), (q20, .inl (cA 1, 6, .inr (.inl fun _ => Int64.ofInt 0)))] 22 [(0, .ref h)] [.ref q20, .ref h]
  refine n_putF (q0 := 0) (k := 2) (ty := .array .long) C dX3_init_22 rfl rfl (by decide) in_n3_X3 tyX3 tyX3_ok nmX3 wn3_6 rfl rfl (by decide +kernel) rfl rfl (Nat.le_of_ble_eq_true rfl) ?_
  show WN κ D 1 _ 2 12 [(h, .inr (3, [.ref q7, vL 1, .ref q20, .null, .null, .null])), (q7, .inl (cA 1, 6, .inr (.inl fun _ => Int64.ofInt 0))), (q20, .inl (cA 1, 6, .inr (.inl fun _ => Int64.ofInt 0)))] 25 [(0, .ref h)] []
  refine n_aload0 C dX3_init_25 rfl ?_
  refine n_bipush C dX3_init_26 (by decide) ?_
  refine n_newL (N := 6) C dX3_init_28 wn3_3 ⟨rfl, by decide⟩ (Nat.le_of_ble_eq_true rfl) (Nat.le_of_ble_eq_true rfl) (fun q28 => ?_)
  show WN κ D 1 _ 3 18 [(h, .inr (3, [.ref q7, vL 1, .ref q20, .null, .null, .null])), (q7, .inl (cA 1, 6, .inr (.inl fun _ => Int64.ofInt 0))), (q20, .inl (cA 1, 6, .inr (.inl fun _ => Int64.ofInt 0))), (q28, .inl (cA 1, 6, .inr (.inl fun _ => Int64.ofInt 0)))] 30 [(0, .ref h)] [.ref q28, .ref h]
  refine n_putF (q0 := 0) (k := 3) (ty := .array .long) C dX3_init_30 rfl rfl (by decide) in_n3_X3 tyX3 tyX3_ok nmX3 wn3_7 rfl rfl (by decide +kernel) rfl rfl (Nat.le_of_ble_eq_true rfl) ?_
  show WN κ D 1 _ 3 18 [(h, .inr (3, [.ref q7, vL 1, .ref q20, .ref q28, .null, .null])), (q7, .inl (cA 1, 6, .inr (.inl fun _ => Int64.ofInt 0))), (q20, .inl (cA 1, 6, .inr (.inl fun _ => Int64.ofInt 0))), (q28, .inl (cA 1, 6, .inr (.inl fun _ => Int64.ofInt 0)))] 33 [(0, .ref h)] []
  refine n_aload0 C dX3_init_33 rfl ?_
  refine n_bipush C dX3_init_34 (by decide) ?_
  refine n_newL (N := 7) C dX3_init_36 wn3_3 ⟨rfl, by decide⟩ (Nat.le_of_ble_eq_true rfl) (Nat.le_of_ble_eq_true rfl) (fun q36 => ?_)
  show WN κ D 1 _ 4 25 [(h, .inr (3, [.ref q7, vL 1, .ref q20, .ref q28, .null, .null])), (q7, .inl (cA 1, 6, .inr (.inl fun _ => Int64.ofInt 0))), (q20, .inl (cA 1, 6, .inr (.inl fun _ => Int64.ofInt 0))), (q28, .inl (cA 1, 6, .inr (.inl fun _ => Int64.ofInt 0))), (q36, .inl (cA 1, 7, .inr (.inl fun _ => Int64.ofInt 0)))] 38 [(0, .ref h)] [.ref q36, .ref h]
  refine n_putF (q0 := 0) (k := 4) (ty := .array .long) C dX3_init_38 rfl rfl (by decide) in_n3_X3 tyX3 tyX3_ok nmX3 wn3_8 rfl rfl (by decide +kernel) rfl rfl (Nat.le_of_ble_eq_true rfl) ?_
  show WN κ D 1 _ 4 25 [(h, .inr (3, [.ref q7, vL 1, .ref q20, .ref q28, .ref q36, .null])), (q7, .inl (cA 1, 6, .inr (.inl fun _ => Int64.ofInt 0))), (q20, .inl (cA 1, 6, .inr (.inl fun _ => Int64.ofInt 0))), (q28, .inl (cA 1, 6, .inr (.inl fun _ => Int64.ofInt 0))), (q36, .inl (cA 1, 7, .inr (.inl fun _ => Int64.ofInt 0)))] 41 [(0, .ref h)] []
  refine n_aload0 C dX3_init_41 rfl ?_
  refine n_bipush C dX3_init_42 (by decide) ?_
  refine n_newL (N := 36) C dX3_init_44 wn3_3 ⟨rfl, by decide⟩ (Nat.le_of_ble_eq_true rfl) (Nat.le_of_ble_eq_true rfl) (fun q44 => ?_)
  show WN κ D 1 _ 5 61 [(h, .inr (3, [.ref q7, vL 1, .ref q20, .ref q28, .ref q36, .null])), (q7, .inl (cA 1, 6, .inr (.inl fun _ => Int64.ofInt 0))), (q20, .inl (cA 1, 6, .inr (.inl fun _ => Int64.ofInt 0))), (q28, .inl (cA 1, 6, .inr (.inl fun _ => Int64.ofInt 0))), (q36, .inl (cA 1, 7, .inr (.inl fun _ => Int64.ofInt 0))), (q44, .inl (cA 1, 36, .inr (.inl fun _ => Int64.ofInt 0)))] 46 [(0, .ref h)] [.ref q44, .ref h]
  refine n_putF (q0 := 0) (k := 5) (ty := .array .long) C dX3_init_46 rfl rfl (by decide) in_n3_X3 tyX3 tyX3_ok nmX3 wn3_9 rfl rfl (by decide +kernel) rfl rfl (Nat.le_of_ble_eq_true rfl) ?_
  show WN κ D 1 _ 5 61 [(h, .inr (3, [.ref q7, vL 1, .ref q20, .ref q28, .ref q36, .ref q44])), (q7, .inl (cA 1, 6, .inr (.inl fun _ => Int64.ofInt 0))), (q20, .inl (cA 1, 6, .inr (.inl fun _ => Int64.ofInt 0))), (q28, .inl (cA 1, 6, .inr (.inl fun _ => Int64.ofInt 0))), (q36, .inl (cA 1, 7, .inr (.inl fun _ => Int64.ofInt 0))), (q44, .inl (cA 1, 36, .inr (.inl fun _ => Int64.ofInt 0)))] 49 [(0, .ref h)] []
  exact n_ret C (fun k => match k with | 0 => q7 | 1 => q20 | 2 => q28 | 3 => q36 | 4 => q44 | _ => 0) dX3_init_49 rfl
theorem wn4_0 : Cond.methodLink RX4 3 objectInit ∈ wsX4_init := by decide +kernel
theorem wn4_1 : Cond.instanceMethod objectInit ∈ wsX4_init := by decide +kernel
theorem wn4_2 : Cond.code objectInit ⟨#[0xb1]⟩ 1 none ∈ wsX4_init := by decide +kernel
theorem wn4_3 : Cond.arrayClass .int ∈ wsX4_init := by decide +kernel
theorem wn4_4 : Cond.fieldLink RX4 9 "BoltRing$Misses" "weights" "[I" ∈ wsX4_init := by decide +kernel
theorem wn4_5 : Cond.fieldLink RX4 15 "BoltRing$Misses" "meant" "[I" ∈ wsX4_init := by decide +kernel
theorem in_n4_X4 : ∀ w ∈ u_ws RX4 TX4 2, w ∈ wsX4_init := by decide +kernel
abbrev k_W4 (cA : Nat → ClassId) (h : Nat) (r : Nat → Nat) : va_W := [(h, .inr (4, [.ref (r 0), .ref (r 1)])), ((r 0), .inl (cA 0, 3, .inl fun j => if j = 2 then Int32.ofInt 1 else if j = 1 then Int32.ofInt 2 else if j = 0 then Int32.ofInt 1 else Int32.ofInt 0)), ((r 1), .inl (cA 0, 6, .inl fun _ => Int32.ofInt 0))]
def k_rm4 : Room := { frames := 1, cells := 2, slots := 9, locals := 20 }
set_option maxRecDepth 20000 in
theorem k_X4 (l : Launch) (cA : Nat → ClassId) (D : va_G) (h : Nat) : MI l yX4_init wsX4_init k_rm4 h 4 [.null, .null] cA D (fun _ => True) (k_W4 cA h) 2 9 := by
  refine n_met (cc := cX4_init) (own := RX4) (by decide) rfl rfl rfl (fun κ hl C hE => ?_)
  subst hl
  refine n_aload0 C dX4_init_0 rfl ?_
  refine n_objInit C dX4_init_1 wn4_0 wn4_1 wn4_2 (Nat.le_of_ble_eq_true rfl) (Nat.le_of_ble_eq_true rfl) ?_
  refine n_aload0 C dX4_init_4 rfl ?_
  refine n_iconst C dX4_init_5 ?_
  refine n_newI (N := 3) C dX4_init_6 wn4_3 ⟨rfl, by decide⟩ (Nat.le_of_ble_eq_true rfl) (Nat.le_of_ble_eq_true rfl) (fun q6 => ?_)
  show WN κ D 1 _ 1 3 [(h, .inr (4, [.null, .null])), (q6, .inl (cA 0, 3, .inl fun _ => Int32.ofInt 0))] 8 [(0, .ref h)] [.ref q6, .ref h]
  refine n_dup C dX4_init_8 rfl ?_
  refine n_iconst C dX4_init_9 ?_
  refine n_iconst C dX4_init_10 ?_
  refine n_iast (q0 := 1) (g := fun j => if j = 0 then Int32.ofInt 1 else Int32.ofInt 0) C dX4_init_11 rfl ⟨by decide, by decide, by decide⟩ rfl ?_
  show WN κ D 1 _ 1 3 [(h, .inr (4, [.null, .null])), (q6, .inl (cA 0, 3, .inl fun j => if j = 0 then Int32.ofInt 1 else Int32.ofInt 0))] 12 [(0, .ref h)] [.ref q6, .ref h]
  refine n_dup C dX4_init_12 rfl ?_
  refine n_iconst C dX4_init_13 ?_
  refine n_iconst C dX4_init_14 ?_
  refine n_iast (q0 := 1) (g := fun j => if j = 1 then Int32.ofInt 2 else if j = 0 then Int32.ofInt 1 else Int32.ofInt 0) C dX4_init_15 rfl ⟨by decide, by decide, by decide⟩ rfl ?_
  show WN κ D 1 _ 1 3 [(h, .inr (4, [.null, .null])), (q6, .inl (cA 0, 3, .inl fun j => if j = 1 then Int32.ofInt 2 else if j = 0 then Int32.ofInt 1 else Int32.ofInt 0))] 16 [(0, .ref h)] [.ref q6, .ref h]
  refine n_dup C dX4_init_16 rfl ?_
  refine n_iconst C dX4_init_17 ?_
  refine n_iconst C dX4_init_18 ?_
  refine n_iast (q0 := 1) (g := fun j => if j = 2 then Int32.ofInt 1 else if j = 1 then Int32.ofInt 2 else if j = 0 then Int32.ofInt 1 else Int32.ofInt 0) C dX4_init_19 rfl ⟨by decide, by decide, by decide⟩ rfl ?_
  show WN κ D 1 _ 1 3 [(h, .inr (4, [.null, .null])), (q6, .inl (cA 0, 3, .inl fun j => if j = 2 then Int32.ofInt 1 else if j = 1 then Int32.ofInt 2 else if j = 0 then Int32.ofInt 1 else Int32.ofInt 0))] 20 [(0, .ref h)] [.ref q6, .ref h]
  refine n_putF (q0 := 0) (k := 0) (ty := .array .int) C dX4_init_20 rfl rfl (by decide) in_n4_X4 tyX4 tyX4_ok nmX4 wn4_4 rfl rfl (by decide +kernel) rfl rfl (Nat.le_of_ble_eq_true rfl) ?_
  show WN κ D 1 _ 1 3 [(h, .inr (4, [.ref q6, .null])), (q6, .inl (cA 0, 3, .inl fun j => if j = 2 then Int32.ofInt 1 else if j = 1 then Int32.ofInt 2 else if j = 0 then Int32.ofInt 1 else Int32.ofInt 0))] 23 [(0, .ref h)] []
  refine n_aload0 C dX4_init_23 rfl ?_
  refine n_bipush C dX4_init_24 (by decide) ?_
  refine n_newI (N := 6) C dX4_init_26 wn4_3 ⟨rfl, by decide⟩ (Nat.le_of_ble_eq_true rfl) (Nat.le_of_ble_eq_true rfl) (fun q26 => ?_)
  show WN κ D 1 _ 2 9 [(h, .inr (4, [.ref q6, .null])), (q6, .inl (cA 0, 3, .inl fun j => if j = 2 then Int32.ofInt 1 else if j = 1 then Int32.ofInt 2 else if j = 0 then Int32.ofInt 1 else Int32.ofInt 0)), (q26, .inl (cA 0, 6, .inl fun _ => Int32.ofInt 0))] 28 [(0, .ref h)] [.ref q26, .ref h]
  refine n_putF (q0 := 0) (k := 1) (ty := .array .int) C dX4_init_28 rfl rfl (by decide) in_n4_X4 tyX4 tyX4_ok nmX4 wn4_5 rfl rfl (by decide +kernel) rfl rfl (Nat.le_of_ble_eq_true rfl) ?_
  show WN κ D 1 _ 2 9 [(h, .inr (4, [.ref q6, .ref q26])), (q6, .inl (cA 0, 3, .inl fun j => if j = 2 then Int32.ofInt 1 else if j = 1 then Int32.ofInt 2 else if j = 0 then Int32.ofInt 1 else Int32.ofInt 0)), (q26, .inl (cA 0, 6, .inl fun _ => Int32.ofInt 0))] 31 [(0, .ref h)] []
  exact n_ret C (fun k => match k with | 0 => q6 | 1 => q26 | _ => 0) dX4_init_31 rfl
theorem wn5_0 : Cond.methodLink RX5 3 objectInit ∈ wsX5_init := by decide +kernel
theorem wn5_1 : Cond.instanceMethod objectInit ∈ wsX5_init := by decide +kernel
theorem wn5_2 : Cond.code objectInit ⟨#[0xb1]⟩ 1 none ∈ wsX5_init := by decide +kernel
theorem wn5_3 : Cond.fieldLink RX5 9 "BoltRing$Orders" "flawAt" "I" ∈ wsX5_init := by decide +kernel
theorem wn5_4 : Cond.arrayClass .int ∈ wsX5_init := by decide +kernel
theorem wn5_5 : Cond.fieldLink RX5 15 "BoltRing$Orders" "kinds" "[I" ∈ wsX5_init := by decide +kernel
theorem wn5_6 : Cond.fieldLink RX5 19 "BoltRing$Orders" "firsts" "[I" ∈ wsX5_init := by decide +kernel
theorem wn5_7 : Cond.fieldLink RX5 22 "BoltRing$Orders" "seconds" "[I" ∈ wsX5_init := by decide +kernel
theorem wn5_8 : Cond.fieldLink RX5 25 "BoltRing$Orders" "signs" "[I" ∈ wsX5_init := by decide +kernel
theorem in_n5_X5 : ∀ w ∈ u_ws RX5 TX5 12, w ∈ wsX5_init := by decide +kernel
abbrev k_W5 (cA : Nat → ClassId) (h : Nat) (r : Nat → Nat) : va_W := [(h, .inr (5, [vI 0, vI 0, vI (-1), vI 0, .ref (r 0), .ref (r 1), .ref (r 2), .ref (r 3), vI 0, vI 0, vI 0, vI 0])), ((r 0), .inl (cA 0, 12, .inl fun _ => Int32.ofInt 0)), ((r 1), .inl (cA 0, 12, .inl fun _ => Int32.ofInt 0)), ((r 2), .inl (cA 0, 12, .inl fun _ => Int32.ofInt 0)), ((r 3), .inl (cA 0, 160, .inl fun _ => Int32.ofInt 0))]
def k_rm5 : Room := { frames := 1, cells := 4, slots := 196, locals := 20 }
set_option maxRecDepth 20000 in
theorem k_X5 (l : Launch) (cA : Nat → ClassId) (D : va_G) (h : Nat) : MI l yX5_init wsX5_init k_rm5 h 5 [vI 0, vI 0, vI 0, vI 0, .null, .null, .null, .null, vI 0, vI 0, vI 0, vI 0] cA D (fun _ => True) (k_W5 cA h) 4 196 := by
  refine n_met (cc := cX5_init) (own := RX5) (by decide) rfl rfl rfl (fun κ hl C hE => ?_)
  subst hl
  refine n_aload0 C dX5_init_0 rfl ?_
  refine n_objInit C dX5_init_1 wn5_0 wn5_1 wn5_2 (Nat.le_of_ble_eq_true rfl) (Nat.le_of_ble_eq_true rfl) ?_
  refine n_aload0 C dX5_init_4 rfl ?_
  refine n_iconst C dX5_init_5 ?_
  refine n_put (q0 := 0) (k := 2) (ty := .int) C dX5_init_6 rfl rfl (by decide) in_n5_X5 tyX5 tyX5_ok nmX5 wn5_3 rfl (by decide +kernel) rfl rfl (Nat.le_of_ble_eq_true rfl) ?_
  show WN κ D 1 _ 0 0 [(h, .inr (5, [vI 0, vI 0, vI (-1), vI 0, .null, .null, .null, .null, vI 0, vI 0, vI 0, vI 0]))] 9 [(0, .ref h)] []
  refine n_aload0 C dX5_init_9 rfl ?_
  refine n_bipush C dX5_init_10 (by decide) ?_
  refine n_newI (N := 12) C dX5_init_12 wn5_4 ⟨rfl, by decide⟩ (Nat.le_of_ble_eq_true rfl) (Nat.le_of_ble_eq_true rfl) (fun q12 => ?_)
  show WN κ D 1 _ 1 12 [(h, .inr (5, [vI 0, vI 0, vI (-1), vI 0, .null, .null, .null, .null, vI 0, vI 0, vI 0, vI 0])), (q12, .inl (cA 0, 12, .inl fun _ => Int32.ofInt 0))] 14 [(0, .ref h)] [.ref q12, .ref h]
  refine n_putF (q0 := 0) (k := 4) (ty := .array .int) C dX5_init_14 rfl rfl (by decide) in_n5_X5 tyX5 tyX5_ok nmX5 wn5_5 rfl rfl (by decide +kernel) rfl rfl (Nat.le_of_ble_eq_true rfl) ?_
  show WN κ D 1 _ 1 12 [(h, .inr (5, [vI 0, vI 0, vI (-1), vI 0, .ref q12, .null, .null, .null, vI 0, vI 0, vI 0, vI 0])), (q12, .inl (cA 0, 12, .inl fun _ => Int32.ofInt 0))] 17 [(0, .ref h)] []
  refine n_aload0 C dX5_init_17 rfl ?_
  refine n_bipush C dX5_init_18 (by decide) ?_
  refine n_newI (N := 12) C dX5_init_20 wn5_4 ⟨rfl, by decide⟩ (Nat.le_of_ble_eq_true rfl) (Nat.le_of_ble_eq_true rfl) (fun q20 => ?_)
  show WN κ D 1 _ 2 24 [(h, .inr (5, [vI 0, vI 0, vI (-1), vI 0, .ref q12, .null, .null, .null, vI 0, vI 0, vI 0, vI 0])), (q12, .inl (cA 0, 12, .inl fun _ => Int32.ofInt 0)), (q20, .inl (cA 0, 12, .inl fun _ => Int32.ofInt 0))] 22 [(0, .ref h)] [.ref q20, .ref h]
  refine n_putF (q0 := 0) (k := 5) (ty := .array .int) C dX5_init_22 rfl rfl (by decide) in_n5_X5 tyX5 tyX5_ok nmX5 wn5_6 rfl rfl (by decide +kernel) rfl rfl (Nat.le_of_ble_eq_true rfl) ?_
  show WN κ D 1 _ 2 24 [(h, .inr (5, [vI 0, vI 0, vI (-1), vI 0, .ref q12, .ref q20, .null, .null, vI 0, vI 0, vI 0, vI 0])), (q12, .inl (cA 0, 12, .inl fun _ => Int32.ofInt 0)), (q20, .inl (cA 0, 12, .inl fun _ => Int32.ofInt 0))] 25 [(0, .ref h)] []
  refine n_aload0 C dX5_init_25 rfl ?_
  refine n_bipush C dX5_init_26 (by decide) ?_
  refine n_newI (N := 12) C dX5_init_28 wn5_4 ⟨rfl, by decide⟩ (Nat.le_of_ble_eq_true rfl) (Nat.le_of_ble_eq_true rfl) (fun q28 => ?_)
  show WN κ D 1 _ 3 36 [(h, .inr (5, [vI 0, vI 0, vI (-1), vI 0, .ref q12, .ref q20, .null, .null, vI 0, vI 0, vI 0, vI 0])), (q12, .inl (cA 0, 12, .inl fun _ => Int32.ofInt 0)), (q20, .inl (cA 0, 12, .inl fun _ => Int32.ofInt 0)), (q28, .inl (cA 0, 12, .inl fun _ => Int32.ofInt 0))] 30 [(0, .ref h)] [.ref q28, .ref h]
  refine n_putF (q0 := 0) (k := 6) (ty := .array .int) C dX5_init_30 rfl rfl (by decide) in_n5_X5 tyX5 tyX5_ok nmX5 wn5_7 rfl rfl (by decide +kernel) rfl rfl (Nat.le_of_ble_eq_true rfl) ?_
  show WN κ D 1 _ 3 36 [(h, .inr (5, [vI 0, vI 0, vI (-1), vI 0, .ref q12, .ref q20, .ref q28, .null, vI 0, vI 0, vI 0, vI 0])), (q12, .inl (cA 0, 12, .inl fun _ => Int32.ofInt 0)), (q20, .inl (cA 0, 12, .inl fun _ => Int32.ofInt 0)), (q28, .inl (cA 0, 12, .inl fun _ => Int32.ofInt 0))] 33 [(0, .ref h)] []
  refine n_aload0 C dX5_init_33 rfl ?_
  refine n_sipush C dX5_init_34 (by decide) ?_
  refine n_newI (N := 160) C dX5_init_37 wn5_4 ⟨rfl, by decide⟩ (Nat.le_of_ble_eq_true rfl) (Nat.le_of_ble_eq_true rfl) (fun q37 => ?_)
  show WN κ D 1 _ 4 196 [(h, .inr (5, [vI 0, vI 0, vI (-1), vI 0, .ref q12, .ref q20, .ref q28, .null, vI 0, vI 0, vI 0, vI 0])), (q12, .inl (cA 0, 12, .inl fun _ => Int32.ofInt 0)), (q20, .inl (cA 0, 12, .inl fun _ => Int32.ofInt 0)), (q28, .inl (cA 0, 12, .inl fun _ => Int32.ofInt 0)), (q37, .inl (cA 0, 160, .inl fun _ => Int32.ofInt 0))] 39 [(0, .ref h)] [.ref q37, .ref h]
  refine n_putF (q0 := 0) (k := 7) (ty := .array .int) C dX5_init_39 rfl rfl (by decide) in_n5_X5 tyX5 tyX5_ok nmX5 wn5_8 rfl rfl (by decide +kernel) rfl rfl (Nat.le_of_ble_eq_true rfl) ?_
  show WN κ D 1 _ 4 196 [(h, .inr (5, [vI 0, vI 0, vI (-1), vI 0, .ref q12, .ref q20, .ref q28, .ref q37, vI 0, vI 0, vI 0, vI 0])), (q12, .inl (cA 0, 12, .inl fun _ => Int32.ofInt 0)), (q20, .inl (cA 0, 12, .inl fun _ => Int32.ofInt 0)), (q28, .inl (cA 0, 12, .inl fun _ => Int32.ofInt 0)), (q37, .inl (cA 0, 160, .inl fun _ => Int32.ofInt 0))] 42 [(0, .ref h)] []
  exact n_ret C (fun k => match k with | 0 => q12 | 1 => q20 | 2 => q28 | 3 => q37 | _ => 0) dX5_init_42 rfl
theorem wn6_0 : Cond.methodLink RX6 3 objectInit ∈ wsX6_init := by decide +kernel
theorem wn6_1 : Cond.instanceMethod objectInit ∈ wsX6_init := by decide +kernel
theorem wn6_2 : Cond.code objectInit ⟨#[0xb1]⟩ 1 none ∈ wsX6_init := by decide +kernel
theorem wn6_3 : Cond.arrayClass .int ∈ wsX6_init := by decide +kernel
theorem wn6_4 : Cond.fieldLink RX6 9 "BoltRing$Readings" "lows" "[I" ∈ wsX6_init := by decide +kernel
theorem wn6_5 : Cond.fieldLink RX6 15 "BoltRing$Readings" "highs" "[I" ∈ wsX6_init := by decide +kernel
theorem in_n6_X6 : ∀ w ∈ u_ws RX6 TX6 3, w ∈ wsX6_init := by decide +kernel
abbrev k_W6 (cA : Nat → ClassId) (h : Nat) (r : Nat → Nat) : va_W := [(h, .inr (6, [vI 0, .ref (r 0), .ref (r 1)])), ((r 0), .inl (cA 0, 6, .inl fun _ => Int32.ofInt 0)), ((r 1), .inl (cA 0, 6, .inl fun _ => Int32.ofInt 0))]
def k_rm6 : Room := { frames := 1, cells := 2, slots := 12, locals := 20 }
set_option maxRecDepth 20000 in
theorem k_X6 (l : Launch) (cA : Nat → ClassId) (D : va_G) (h : Nat) : MI l yX6_init wsX6_init k_rm6 h 6 [vI 0, .null, .null] cA D (fun _ => True) (k_W6 cA h) 2 12 := by
  refine n_met (cc := cX6_init) (own := RX6) (by decide) rfl rfl rfl (fun κ hl C hE => ?_)
  subst hl
  refine n_aload0 C dX6_init_0 rfl ?_
  refine n_objInit C dX6_init_1 wn6_0 wn6_1 wn6_2 (Nat.le_of_ble_eq_true rfl) (Nat.le_of_ble_eq_true rfl) ?_
  refine n_aload0 C dX6_init_4 rfl ?_
  refine n_bipush C dX6_init_5 (by decide) ?_
  refine n_newI (N := 6) C dX6_init_7 wn6_3 ⟨rfl, by decide⟩ (Nat.le_of_ble_eq_true rfl) (Nat.le_of_ble_eq_true rfl) (fun q7 => ?_)
  show WN κ D 1 _ 1 6 [(h, .inr (6, [vI 0, .null, .null])), (q7, .inl (cA 0, 6, .inl fun _ => Int32.ofInt 0))] 9 [(0, .ref h)] [.ref q7, .ref h]
  refine n_putF (q0 := 0) (k := 1) (ty := .array .int) C dX6_init_9 rfl rfl (by decide) in_n6_X6 tyX6 tyX6_ok nmX6 wn6_4 rfl rfl (by decide +kernel) rfl rfl (Nat.le_of_ble_eq_true rfl) ?_
  show WN κ D 1 _ 1 6 [(h, .inr (6, [vI 0, .ref q7, .null])), (q7, .inl (cA 0, 6, .inl fun _ => Int32.ofInt 0))] 12 [(0, .ref h)] []
  refine n_aload0 C dX6_init_12 rfl ?_
  refine n_bipush C dX6_init_13 (by decide) ?_
  refine n_newI (N := 6) C dX6_init_15 wn6_3 ⟨rfl, by decide⟩ (Nat.le_of_ble_eq_true rfl) (Nat.le_of_ble_eq_true rfl) (fun q15 => ?_)
  show WN κ D 1 _ 2 12 [(h, .inr (6, [vI 0, .ref q7, .null])), (q7, .inl (cA 0, 6, .inl fun _ => Int32.ofInt 0)), (q15, .inl (cA 0, 6, .inl fun _ => Int32.ofInt 0))] 17 [(0, .ref h)] [.ref q15, .ref h]
  refine n_putF (q0 := 0) (k := 2) (ty := .array .int) C dX6_init_17 rfl rfl (by decide) in_n6_X6 tyX6 tyX6_ok nmX6 wn6_5 rfl rfl (by decide +kernel) rfl rfl (Nat.le_of_ble_eq_true rfl) ?_
  show WN κ D 1 _ 2 12 [(h, .inr (6, [vI 0, .ref q7, .ref q15])), (q7, .inl (cA 0, 6, .inl fun _ => Int32.ofInt 0)), (q15, .inl (cA 0, 6, .inl fun _ => Int32.ofInt 0))] 20 [(0, .ref h)] []
  exact n_ret C (fun k => match k with | 0 => q7 | 1 => q15 | _ => 0) dX6_init_20 rfl
theorem wn0_0 : Cond.methodLink RX0 3 objectInit ∈ wsX0_init := by decide +kernel
theorem wn0_1 : Cond.instanceMethod objectInit ∈ wsX0_init := by decide +kernel
theorem wn0_2 : Cond.code objectInit ⟨#[0xb1]⟩ 1 none ∈ wsX0_init := by decide +kernel
theorem wn0_3 : Cond.classLink RX0 11 "[[I" ∈ wsX0_init := by decide +kernel
theorem wn0_4 : Cond.arrayClass .int ∈ wsX0_init := by decide +kernel
theorem wn0_5 : Cond.fieldLink RX0 13 "BoltRing$Cases" "loads" "[[I" ∈ wsX0_init := by decide +kernel
theorem wn0_6 : Cond.fieldLink RX0 16 "BoltRing$Cases" "leastLower" "J" ∈ wsX0_init := by decide +kernel
theorem in_n0_X0 : ∀ w ∈ u_ws RX0 TX0 4, w ∈ wsX0_init := by decide +kernel
abbrev k_W0 (cA : Nat → ClassId) (h : Nat) (r : Nat → Nat) : va_W := [(h, .inr (0, [vI 0, .ref (r 0), vL 0, vL 1])), ((r 0), .inl (cA 3, 6, .inr (.inr (.inr (.inr fun j => some (r (j + 1))))))), ((r 1), .inl (cA 0, 6, .inl fun _ => Int32.ofInt 0)), ((r 2), .inl (cA 0, 6, .inl fun _ => Int32.ofInt 0)), ((r 3), .inl (cA 0, 6, .inl fun _ => Int32.ofInt 0)), ((r 4), .inl (cA 0, 6, .inl fun _ => Int32.ofInt 0)), ((r 5), .inl (cA 0, 6, .inl fun _ => Int32.ofInt 0)), ((r 6), .inl (cA 0, 6, .inl fun _ => Int32.ofInt 0))]
def k_rm0 : Room := { frames := 1, cells := 7, slots := 42, locals := 20 }
set_option maxRecDepth 20000 in
theorem k_X0 (l : Launch) (cA : Nat → ClassId) (D : va_G) (h : Nat) : MI l yX0_init wsX0_init k_rm0 h 0 [vI 0, .null, vL 0, vL 0] cA D (va_AOA .int) (k_W0 cA h) 7 42 := by
  refine n_met (cc := cX0_init) (own := RX0) (by decide) rfl rfl rfl (fun κ hl C hE => ?_)
  subst hl
  refine n_aload0 C dX0_init_0 rfl ?_
  refine n_objInit C dX0_init_1 wn0_0 wn0_1 wn0_2 (Nat.le_of_ble_eq_true rfl) (Nat.le_of_ble_eq_true rfl) ?_
  refine n_aload0 C dX0_init_4 rfl ?_
  refine n_bipush C dX0_init_5 (by decide) ?_
  refine n_bipush C dX0_init_7 (by decide) ?_
  refine n_mna C dX0_init_9 wn0_3 hE wn0_4 (Nat.le_of_ble_eq_true rfl) (Nat.le_of_ble_eq_true rfl) (fun q9 r9 => ?_)
  show WN κ D 1 _ 7 42 [(h, .inr (0, [vI 0, .null, vL 0, vL 0])), (q9, .inl (cA 3, 6, .inr (.inr (.inr (.inr fun j => some (r9 j)))))), ((r9 0), .inl (cA 0, 6, .inl fun _ => Int32.ofInt 0)), ((r9 1), .inl (cA 0, 6, .inl fun _ => Int32.ofInt 0)), ((r9 2), .inl (cA 0, 6, .inl fun _ => Int32.ofInt 0)), ((r9 3), .inl (cA 0, 6, .inl fun _ => Int32.ofInt 0)), ((r9 4), .inl (cA 0, 6, .inl fun _ => Int32.ofInt 0)), ((r9 5), .inl (cA 0, 6, .inl fun _ => Int32.ofInt 0))] 13 [(0, .ref h)] [.ref q9, .ref h]
  refine n_putF (q0 := 0) (k := 1) (ty := .array (.array .int)) C dX0_init_13 rfl rfl (by decide) in_n0_X0 tyX0 tyX0_ok nmX0 wn0_5 rfl rfl (by decide +kernel) rfl rfl (Nat.le_of_ble_eq_true rfl) ?_
  show WN κ D 1 _ 7 42 [(h, .inr (0, [vI 0, .ref q9, vL 0, vL 0])), (q9, .inl (cA 3, 6, .inr (.inr (.inr (.inr fun j => some (r9 j)))))), ((r9 0), .inl (cA 0, 6, .inl fun _ => Int32.ofInt 0)), ((r9 1), .inl (cA 0, 6, .inl fun _ => Int32.ofInt 0)), ((r9 2), .inl (cA 0, 6, .inl fun _ => Int32.ofInt 0)), ((r9 3), .inl (cA 0, 6, .inl fun _ => Int32.ofInt 0)), ((r9 4), .inl (cA 0, 6, .inl fun _ => Int32.ofInt 0)), ((r9 5), .inl (cA 0, 6, .inl fun _ => Int32.ofInt 0))] 16 [(0, .ref h)] []
  refine n_aload0 C dX0_init_16 rfl ?_
  refine n_lconst1 C dX0_init_17 ?_
  refine n_put (q0 := 0) (k := 3) (ty := .long) C dX0_init_18 rfl rfl (by decide) in_n0_X0 tyX0 tyX0_ok nmX0 wn0_6 rfl (by decide +kernel) rfl rfl (Nat.le_of_ble_eq_true rfl) ?_
  show WN κ D 1 _ 7 42 [(h, .inr (0, [vI 0, .ref q9, vL 0, vL 1])), (q9, .inl (cA 3, 6, .inr (.inr (.inr (.inr fun j => some (r9 j)))))), ((r9 0), .inl (cA 0, 6, .inl fun _ => Int32.ofInt 0)), ((r9 1), .inl (cA 0, 6, .inl fun _ => Int32.ofInt 0)), ((r9 2), .inl (cA 0, 6, .inl fun _ => Int32.ofInt 0)), ((r9 3), .inl (cA 0, 6, .inl fun _ => Int32.ofInt 0)), ((r9 4), .inl (cA 0, 6, .inl fun _ => Int32.ofInt 0)), ((r9 5), .inl (cA 0, 6, .inl fun _ => Int32.ofInt 0))] 21 [(0, .ref h)] []
  exact n_ret C (fun k => match k with | 0 => q9 | k + 1 => r9 k) dX0_init_21 rfl
theorem wn1_0 : Cond.methodLink RX1 3 objectInit ∈ wsX1_init := by decide +kernel
theorem wn1_1 : Cond.instanceMethod objectInit ∈ wsX1_init := by decide +kernel
theorem wn1_2 : Cond.code objectInit ⟨#[0xb1]⟩ 1 none ∈ wsX1_init := by decide +kernel
theorem wn1_3 : Cond.classLink RX1 9 RX3 ∈ wsX1_init := by decide +kernel
theorem wn1_4 : Cond.instantiable RX3 6 ∈ wsX1_init := by decide +kernel
theorem wn1_5 : Cond.initialized RX3 ∈ wsX1_init := by decide +kernel
theorem wn1_6 : Cond.instanceMethod yX3_init ∈ wsX1_init := by decide +kernel
theorem wn1_7 : Cond.fieldLink RX1 12 "BoltRing$Drawing" "lifts" "LBoltRing$Lifts;" ∈ wsX1_init := by decide +kernel
theorem wn1_8 : Cond.arrayClass .int ∈ wsX1_init := by decide +kernel
theorem wn1_9 : Cond.fieldLink RX1 18 "BoltRing$Drawing" "kept" "[I" ∈ wsX1_init := by decide +kernel
theorem wn1_10 : Cond.fieldLink RX1 22 "BoltRing$Drawing" "trial" "[I" ∈ wsX1_init := by decide +kernel
theorem wn1_11 : Cond.fieldLink RX1 25 "BoltRing$Drawing" "byNumbers" "[I" ∈ wsX1_init := by decide +kernel
theorem in_n1_X1 : ∀ w ∈ u_ws RX1 TX1 7, w ∈ wsX1_init := by decide +kernel
theorem in_n1_X3 : ∀ w ∈ u_ws RX3 TX3 6, w ∈ wsX1_init := by decide +kernel
abbrev k_W1 (cA : Nat → ClassId) (h : Nat) (r : Nat → Nat) : va_W := [(h, .inr (1, [vI 0, vI 0, vI 0, .ref (r 0), .ref (r 6), .ref (r 7), .ref (r 8)])), ((r 0), .inr (3, [.ref (r 1), vL 1, .ref (r 2), .ref (r 3), .ref (r 4), .ref (r 5)])), ((r 1), .inl (cA 1, 6, .inr (.inl fun _ => Int64.ofInt 0))), ((r 2), .inl (cA 1, 6, .inr (.inl fun _ => Int64.ofInt 0))), ((r 3), .inl (cA 1, 6, .inr (.inl fun _ => Int64.ofInt 0))), ((r 4), .inl (cA 1, 7, .inr (.inl fun _ => Int64.ofInt 0))), ((r 5), .inl (cA 1, 36, .inr (.inl fun _ => Int64.ofInt 0))), ((r 6), .inl (cA 0, 6, .inl fun _ => Int32.ofInt 0)), ((r 7), .inl (cA 0, 6, .inl fun _ => Int32.ofInt 0)), ((r 8), .inl (cA 0, 6, .inl fun j => if j = 5 then Int32.ofInt 5 else if j = 4 then Int32.ofInt 4 else if j = 3 then Int32.ofInt 3 else if j = 2 then Int32.ofInt 2 else if j = 1 then Int32.ofInt 1 else if j = 0 then Int32.ofInt 0 else Int32.ofInt 0))]
def k_rm1 : Room := { frames := 2, cells := 9, slots := 85, locals := 44 }
set_option maxRecDepth 20000 in
theorem k_X1 (l : Launch) (cA : Nat → ClassId) (D : va_G) (h : Nat) : MI l yX1_init wsX1_init k_rm1 h 1 [vI 0, vI 0, vI 0, .null, .null, .null, .null] cA D (va_Nw (.methodLinkNest RX1 11 yX3_init RX7)) (k_W1 cA h) 9 85 := by
  refine n_met (cc := cX1_init) (own := RX1) (by decide) rfl rfl rfl (fun κ hl C hE => ?_)
  subst hl
  refine n_aload0 C dX1_init_0 rfl ?_
  refine n_objInit C dX1_init_1 wn1_0 wn1_1 wn1_2 (Nat.le_of_ble_eq_true rfl) (Nat.le_of_ble_eq_true rfl) ?_
  refine n_aload0 C dX1_init_4 rfl ?_
  refine n_new (ci := 3) (fs := [.null, vL 0, .null, .null, .null, .null]) C dX1_init_5 rfl in_n1_X3 tyX3 tyX3_ok wn1_3 wn1_4 wn1_5 (fun j hj => by rcases (show j = 0 ∨ j = 1 ∨ j = 2 ∨ j = 3 ∨ j = 4 ∨ j = 5 by omega) with rfl | rfl | rfl | rfl | rfl | rfl <;> rfl) (Nat.le_of_ble_eq_true rfl) (Nat.le_of_ble_eq_true rfl) (fun q5 => ?_)
  show WN κ D 1 _ 1 6 [(h, .inr (1, [vI 0, vI 0, vI 0, .null, .null, .null, .null])), (q5, .inr (3, [.null, vL 0, .null, .null, .null, .null]))] 8 [(0, .ref h)] [.ref q5, .ref h]
  refine n_dup C dX1_init_8 rfl ?_
  show WN κ D 1 _ 1 6 ([(h, .inr (1, [vI 0, vI 0, vI 0, .null, .null, .null, .null]))] ++ [(q5, .inr (3, [.null, vL 0, .null, .null, .null, .null]))]) 9 [(0, .ref h)] [.ref q5, .ref q5, .ref h]
  refine n_init C dX1_init_9 (k_X3 κ.1.2.1 cA D q5) hE wn1_5 wn1_6 gX1_init_X3_init_n11 rfl ⟨rfl, rfl⟩ ⟨by decide +kernel, by decide +kernel, by decide +kernel⟩ rfl ⟨(Nat.le_of_ble_eq_true rfl), (Nat.le_of_ble_eq_true rfl)⟩ o_E trivial (Nat.le_of_ble_eq_true rfl) (Nat.le_of_ble_eq_true rfl) (Nat.le_of_ble_eq_true rfl) (fun r9 => ?_)
  show WN κ D 1 _ 6 67 [(h, .inr (1, [vI 0, vI 0, vI 0, .null, .null, .null, .null])), (q5, .inr (3, [.ref (r9 0), vL 1, .ref (r9 1), .ref (r9 2), .ref (r9 3), .ref (r9 4)])), ((r9 0), .inl (cA 1, 6, .inr (.inl fun _ => Int64.ofInt 0))), ((r9 1), .inl (cA 1, 6, .inr (.inl fun _ => Int64.ofInt 0))), ((r9 2), .inl (cA 1, 6, .inr (.inl fun _ => Int64.ofInt 0))), ((r9 3), .inl (cA 1, 7, .inr (.inl fun _ => Int64.ofInt 0))), ((r9 4), .inl (cA 1, 36, .inr (.inl fun _ => Int64.ofInt 0)))] 12 [(0, .ref h)] [.ref q5, .ref h]
  refine n_putF (q0 := 0) (k := 3) (ty := .object "BoltRing$Lifts") C dX1_init_12 rfl rfl (by decide) in_n1_X1 tyX1 tyX1_ok nmX1 wn1_7 rfl rfl (by decide +kernel) rfl rfl (Nat.le_of_ble_eq_true rfl) ?_
  show WN κ D 1 _ 6 67 [(h, .inr (1, [vI 0, vI 0, vI 0, .ref q5, .null, .null, .null])), (q5, .inr (3, [.ref (r9 0), vL 1, .ref (r9 1), .ref (r9 2), .ref (r9 3), .ref (r9 4)])), ((r9 0), .inl (cA 1, 6, .inr (.inl fun _ => Int64.ofInt 0))), ((r9 1), .inl (cA 1, 6, .inr (.inl fun _ => Int64.ofInt 0))), ((r9 2), .inl (cA 1, 6, .inr (.inl fun _ => Int64.ofInt 0))), ((r9 3), .inl (cA 1, 7, .inr (.inl fun _ => Int64.ofInt 0))), ((r9 4), .inl (cA 1, 36, .inr (.inl fun _ => Int64.ofInt 0)))] 15 [(0, .ref h)] []
  refine n_aload0 C dX1_init_15 rfl ?_
  refine n_bipush C dX1_init_16 (by decide) ?_
  refine n_newI (N := 6) C dX1_init_18 wn1_8 ⟨rfl, by decide⟩ (Nat.le_of_ble_eq_true rfl) (Nat.le_of_ble_eq_true rfl) (fun q18 => ?_)
  show WN κ D 1 _ 7 73 [(h, .inr (1, [vI 0, vI 0, vI 0, .ref q5, .null, .null, .null])), (q5, .inr (3, [.ref (r9 0), vL 1, .ref (r9 1), .ref (r9 2), .ref (r9 3), .ref (r9 4)])), ((r9 0), .inl (cA 1, 6, .inr (.inl fun _ => Int64.ofInt 0))), ((r9 1), .inl (cA 1, 6, .inr (.inl fun _ => Int64.ofInt 0))), ((r9 2), .inl (cA 1, 6, .inr (.inl fun _ => Int64.ofInt 0))), ((r9 3), .inl (cA 1, 7, .inr (.inl fun _ => Int64.ofInt 0))), ((r9 4), .inl (cA 1, 36, .inr (.inl fun _ => Int64.ofInt 0))), (q18, .inl (cA 0, 6, .inl fun _ => Int32.ofInt 0))] 20 [(0, .ref h)] [.ref q18, .ref h]
  refine n_putF (q0 := 0) (k := 4) (ty := .array .int) C dX1_init_20 rfl rfl (by decide) in_n1_X1 tyX1 tyX1_ok nmX1 wn1_9 rfl rfl (by decide +kernel) rfl rfl (Nat.le_of_ble_eq_true rfl) ?_
  show WN κ D 1 _ 7 73 [(h, .inr (1, [vI 0, vI 0, vI 0, .ref q5, .ref q18, .null, .null])), (q5, .inr (3, [.ref (r9 0), vL 1, .ref (r9 1), .ref (r9 2), .ref (r9 3), .ref (r9 4)])), ((r9 0), .inl (cA 1, 6, .inr (.inl fun _ => Int64.ofInt 0))), ((r9 1), .inl (cA 1, 6, .inr (.inl fun _ => Int64.ofInt 0))), ((r9 2), .inl (cA 1, 6, .inr (.inl fun _ => Int64.ofInt 0))), ((r9 3), .inl (cA 1, 7, .inr (.inl fun _ => Int64.ofInt 0))), ((r9 4), .inl (cA 1, 36, .inr (.inl fun _ => Int64.ofInt 0))), (q18, .inl (cA 0, 6, .inl fun _ => Int32.ofInt 0))] 23 [(0, .ref h)] []
  refine n_aload0 C dX1_init_23 rfl ?_
  refine n_bipush C dX1_init_24 (by decide) ?_
  refine n_newI (N := 6) C dX1_init_26 wn1_8 ⟨rfl, by decide⟩ (Nat.le_of_ble_eq_true rfl) (Nat.le_of_ble_eq_true rfl) (fun q26 => ?_)
  show WN κ D 1 _ 8 79 [(h, .inr (1, [vI 0, vI 0, vI 0, .ref q5, .ref q18, .null, .null])), (q5, .inr (3, [.ref (r9 0), vL 1, .ref (r9 1), .ref (r9 2), .ref (r9 3), .ref (r9 4)])), ((r9 0), .inl (cA 1, 6, .inr (.inl fun _ => Int64.ofInt 0))), ((r9 1), .inl (cA 1, 6, .inr (.inl fun _ => Int64.ofInt 0))), ((r9 2), .inl (cA 1, 6, .inr (.inl fun _ => Int64.ofInt 0))), ((r9 3), .inl (cA 1, 7, .inr (.inl fun _ => Int64.ofInt 0))), ((r9 4), .inl (cA 1, 36, .inr (.inl fun _ => Int64.ofInt 0))), (q18, .inl (cA 0, 6, .inl fun _ => Int32.ofInt 0)), (q26, .inl (cA 0, 6, .inl fun _ => Int32.ofInt 0))] 28 [(0, .ref h)] [.ref q26, .ref h]
  refine n_putF (q0 := 0) (k := 5) (ty := .array .int) C dX1_init_28 rfl rfl (by decide) in_n1_X1 tyX1 tyX1_ok nmX1 wn1_10 rfl rfl (by decide +kernel) rfl rfl (Nat.le_of_ble_eq_true rfl) ?_
  show WN κ D 1 _ 8 79 [(h, .inr (1, [vI 0, vI 0, vI 0, .ref q5, .ref q18, .ref q26, .null])), (q5, .inr (3, [.ref (r9 0), vL 1, .ref (r9 1), .ref (r9 2), .ref (r9 3), .ref (r9 4)])), ((r9 0), .inl (cA 1, 6, .inr (.inl fun _ => Int64.ofInt 0))), ((r9 1), .inl (cA 1, 6, .inr (.inl fun _ => Int64.ofInt 0))), ((r9 2), .inl (cA 1, 6, .inr (.inl fun _ => Int64.ofInt 0))), ((r9 3), .inl (cA 1, 7, .inr (.inl fun _ => Int64.ofInt 0))), ((r9 4), .inl (cA 1, 36, .inr (.inl fun _ => Int64.ofInt 0))), (q18, .inl (cA 0, 6, .inl fun _ => Int32.ofInt 0)), (q26, .inl (cA 0, 6, .inl fun _ => Int32.ofInt 0))] 31 [(0, .ref h)] []
  refine n_aload0 C dX1_init_31 rfl ?_
  refine n_bipush C dX1_init_32 (by decide) ?_
  refine n_newI (N := 6) C dX1_init_34 wn1_8 ⟨rfl, by decide⟩ (Nat.le_of_ble_eq_true rfl) (Nat.le_of_ble_eq_true rfl) (fun q34 => ?_)
  show WN κ D 1 _ 9 85 [(h, .inr (1, [vI 0, vI 0, vI 0, .ref q5, .ref q18, .ref q26, .null])), (q5, .inr (3, [.ref (r9 0), vL 1, .ref (r9 1), .ref (r9 2), .ref (r9 3), .ref (r9 4)])), ((r9 0), .inl (cA 1, 6, .inr (.inl fun _ => Int64.ofInt 0))), ((r9 1), .inl (cA 1, 6, .inr (.inl fun _ => Int64.ofInt 0))), ((r9 2), .inl (cA 1, 6, .inr (.inl fun _ => Int64.ofInt 0))), ((r9 3), .inl (cA 1, 7, .inr (.inl fun _ => Int64.ofInt 0))), ((r9 4), .inl (cA 1, 36, .inr (.inl fun _ => Int64.ofInt 0))), (q18, .inl (cA 0, 6, .inl fun _ => Int32.ofInt 0)), (q26, .inl (cA 0, 6, .inl fun _ => Int32.ofInt 0)), (q34, .inl (cA 0, 6, .inl fun _ => Int32.ofInt 0))] 36 [(0, .ref h)] [.ref q34, .ref h]
  refine n_dup C dX1_init_36 rfl ?_
  refine n_iconst C dX1_init_37 ?_
  refine n_iconst C dX1_init_38 ?_
  refine n_iast (q0 := 9) (g := fun j => if j = 0 then Int32.ofInt 0 else Int32.ofInt 0) C dX1_init_39 rfl ⟨by decide, by decide, by decide⟩ rfl ?_
  show WN κ D 1 _ 9 85 [(h, .inr (1, [vI 0, vI 0, vI 0, .ref q5, .ref q18, .ref q26, .null])), (q5, .inr (3, [.ref (r9 0), vL 1, .ref (r9 1), .ref (r9 2), .ref (r9 3), .ref (r9 4)])), ((r9 0), .inl (cA 1, 6, .inr (.inl fun _ => Int64.ofInt 0))), ((r9 1), .inl (cA 1, 6, .inr (.inl fun _ => Int64.ofInt 0))), ((r9 2), .inl (cA 1, 6, .inr (.inl fun _ => Int64.ofInt 0))), ((r9 3), .inl (cA 1, 7, .inr (.inl fun _ => Int64.ofInt 0))), ((r9 4), .inl (cA 1, 36, .inr (.inl fun _ => Int64.ofInt 0))), (q18, .inl (cA 0, 6, .inl fun _ => Int32.ofInt 0)), (q26, .inl (cA 0, 6, .inl fun _ => Int32.ofInt 0)), (q34, .inl (cA 0, 6, .inl fun j => if j = 0 then Int32.ofInt 0 else Int32.ofInt 0))] 40 [(0, .ref h)] [.ref q34, .ref h]
  refine n_dup C dX1_init_40 rfl ?_
  refine n_iconst C dX1_init_41 ?_
  refine n_iconst C dX1_init_42 ?_
  refine n_iast (q0 := 9) (g := fun j => if j = 1 then Int32.ofInt 1 else if j = 0 then Int32.ofInt 0 else Int32.ofInt 0) C dX1_init_43 rfl ⟨by decide, by decide, by decide⟩ rfl ?_
  show WN κ D 1 _ 9 85 [(h, .inr (1, [vI 0, vI 0, vI 0, .ref q5, .ref q18, .ref q26, .null])), (q5, .inr (3, [.ref (r9 0), vL 1, .ref (r9 1), .ref (r9 2), .ref (r9 3), .ref (r9 4)])), ((r9 0), .inl (cA 1, 6, .inr (.inl fun _ => Int64.ofInt 0))), ((r9 1), .inl (cA 1, 6, .inr (.inl fun _ => Int64.ofInt 0))), ((r9 2), .inl (cA 1, 6, .inr (.inl fun _ => Int64.ofInt 0))), ((r9 3), .inl (cA 1, 7, .inr (.inl fun _ => Int64.ofInt 0))), ((r9 4), .inl (cA 1, 36, .inr (.inl fun _ => Int64.ofInt 0))), (q18, .inl (cA 0, 6, .inl fun _ => Int32.ofInt 0)), (q26, .inl (cA 0, 6, .inl fun _ => Int32.ofInt 0)), (q34, .inl (cA 0, 6, .inl fun j => if j = 1 then Int32.ofInt 1 else if j = 0 then Int32.ofInt 0 else Int32.ofInt 0))] 44 [(0, .ref h)] [.ref q34, .ref h]
  refine n_dup C dX1_init_44 rfl ?_
  refine n_iconst C dX1_init_45 ?_
  refine n_iconst C dX1_init_46 ?_
  refine n_iast (q0 := 9) (g := fun j => if j = 2 then Int32.ofInt 2 else if j = 1 then Int32.ofInt 1 else if j = 0 then Int32.ofInt 0 else Int32.ofInt 0) C dX1_init_47 rfl ⟨by decide, by decide, by decide⟩ rfl ?_
  show WN κ D 1 _ 9 85 [(h, .inr (1, [vI 0, vI 0, vI 0, .ref q5, .ref q18, .ref q26, .null])), (q5, .inr (3, [.ref (r9 0), vL 1, .ref (r9 1), .ref (r9 2), .ref (r9 3), .ref (r9 4)])), ((r9 0), .inl (cA 1, 6, .inr (.inl fun _ => Int64.ofInt 0))), ((r9 1), .inl (cA 1, 6, .inr (.inl fun _ => Int64.ofInt 0))), ((r9 2), .inl (cA 1, 6, .inr (.inl fun _ => Int64.ofInt 0))), ((r9 3), .inl (cA 1, 7, .inr (.inl fun _ => Int64.ofInt 0))), ((r9 4), .inl (cA 1, 36, .inr (.inl fun _ => Int64.ofInt 0))), (q18, .inl (cA 0, 6, .inl fun _ => Int32.ofInt 0)), (q26, .inl (cA 0, 6, .inl fun _ => Int32.ofInt 0)), (q34, .inl (cA 0, 6, .inl fun j => if j = 2 then Int32.ofInt 2 else if j = 1 then Int32.ofInt 1 else if j = 0 then Int32.ofInt 0 else Int32.ofInt 0))] 48 [(0, .ref h)] [.ref q34, .ref h]
  refine n_dup C dX1_init_48 rfl ?_
  refine n_iconst C dX1_init_49 ?_
  refine n_iconst C dX1_init_50 ?_
  refine n_iast (q0 := 9) (g := fun j => if j = 3 then Int32.ofInt 3 else if j = 2 then Int32.ofInt 2 else if j = 1 then Int32.ofInt 1 else if j = 0 then Int32.ofInt 0 else Int32.ofInt 0) C dX1_init_51 rfl ⟨by decide, by decide, by decide⟩ rfl ?_
  show WN κ D 1 _ 9 85 [(h, .inr (1, [vI 0, vI 0, vI 0, .ref q5, .ref q18, .ref q26, .null])), (q5, .inr (3, [.ref (r9 0), vL 1, .ref (r9 1), .ref (r9 2), .ref (r9 3), .ref (r9 4)])), ((r9 0), .inl (cA 1, 6, .inr (.inl fun _ => Int64.ofInt 0))), ((r9 1), .inl (cA 1, 6, .inr (.inl fun _ => Int64.ofInt 0))), ((r9 2), .inl (cA 1, 6, .inr (.inl fun _ => Int64.ofInt 0))), ((r9 3), .inl (cA 1, 7, .inr (.inl fun _ => Int64.ofInt 0))), ((r9 4), .inl (cA 1, 36, .inr (.inl fun _ => Int64.ofInt 0))), (q18, .inl (cA 0, 6, .inl fun _ => Int32.ofInt 0)), (q26, .inl (cA 0, 6, .inl fun _ => Int32.ofInt 0)), (q34, .inl (cA 0, 6, .inl fun j => if j = 3 then Int32.ofInt 3 else if j = 2 then Int32.ofInt 2 else if j = 1 then Int32.ofInt 1 else if j = 0 then Int32.ofInt 0 else Int32.ofInt 0))] 52 [(0, .ref h)] [.ref q34, .ref h]
  refine n_dup C dX1_init_52 rfl ?_
  refine n_iconst C dX1_init_53 ?_
  refine n_iconst C dX1_init_54 ?_
  refine n_iast (q0 := 9) (g := fun j => if j = 4 then Int32.ofInt 4 else if j = 3 then Int32.ofInt 3 else if j = 2 then Int32.ofInt 2 else if j = 1 then Int32.ofInt 1 else if j = 0 then Int32.ofInt 0 else Int32.ofInt 0) C dX1_init_55 rfl ⟨by decide, by decide, by decide⟩ rfl ?_
  show WN κ D 1 _ 9 85 [(h, .inr (1, [vI 0, vI 0, vI 0, .ref q5, .ref q18, .ref q26, .null])), (q5, .inr (3, [.ref (r9 0), vL 1, .ref (r9 1), .ref (r9 2), .ref (r9 3), .ref (r9 4)])), ((r9 0), .inl (cA 1, 6, .inr (.inl fun _ => Int64.ofInt 0))), ((r9 1), .inl (cA 1, 6, .inr (.inl fun _ => Int64.ofInt 0))), ((r9 2), .inl (cA 1, 6, .inr (.inl fun _ => Int64.ofInt 0))), ((r9 3), .inl (cA 1, 7, .inr (.inl fun _ => Int64.ofInt 0))), ((r9 4), .inl (cA 1, 36, .inr (.inl fun _ => Int64.ofInt 0))), (q18, .inl (cA 0, 6, .inl fun _ => Int32.ofInt 0)), (q26, .inl (cA 0, 6, .inl fun _ => Int32.ofInt 0)), (q34, .inl (cA 0, 6, .inl fun j => if j = 4 then Int32.ofInt 4 else if j = 3 then Int32.ofInt 3 else if j = 2 then Int32.ofInt 2 else if j = 1 then Int32.ofInt 1 else if j = 0 then Int32.ofInt 0 else Int32.ofInt 0))] 56 [(0, .ref h)] [.ref q34, .ref h]
  refine n_dup C dX1_init_56 rfl ?_
  refine n_iconst C dX1_init_57 ?_
  refine n_iconst C dX1_init_58 ?_
  refine n_iast (q0 := 9) (g := fun j => if j = 5 then Int32.ofInt 5 else if j = 4 then Int32.ofInt 4 else if j = 3 then Int32.ofInt 3 else if j = 2 then Int32.ofInt 2 else if j = 1 then Int32.ofInt 1 else if j = 0 then Int32.ofInt 0 else Int32.ofInt 0) C dX1_init_59 rfl ⟨by decide, by decide, by decide⟩ rfl ?_
  show WN κ D 1 _ 9 85 [(h, .inr (1, [vI 0, vI 0, vI 0, .ref q5, .ref q18, .ref q26, .null])), (q5, .inr (3, [.ref (r9 0), vL 1, .ref (r9 1), .ref (r9 2), .ref (r9 3), .ref (r9 4)])), ((r9 0), .inl (cA 1, 6, .inr (.inl fun _ => Int64.ofInt 0))), ((r9 1), .inl (cA 1, 6, .inr (.inl fun _ => Int64.ofInt 0))), ((r9 2), .inl (cA 1, 6, .inr (.inl fun _ => Int64.ofInt 0))), ((r9 3), .inl (cA 1, 7, .inr (.inl fun _ => Int64.ofInt 0))), ((r9 4), .inl (cA 1, 36, .inr (.inl fun _ => Int64.ofInt 0))), (q18, .inl (cA 0, 6, .inl fun _ => Int32.ofInt 0)), (q26, .inl (cA 0, 6, .inl fun _ => Int32.ofInt 0)), (q34, .inl (cA 0, 6, .inl fun j => if j = 5 then Int32.ofInt 5 else if j = 4 then Int32.ofInt 4 else if j = 3 then Int32.ofInt 3 else if j = 2 then Int32.ofInt 2 else if j = 1 then Int32.ofInt 1 else if j = 0 then Int32.ofInt 0 else Int32.ofInt 0))] 60 [(0, .ref h)] [.ref q34, .ref h]
  refine n_putF (q0 := 0) (k := 6) (ty := .array .int) C dX1_init_60 rfl rfl (by decide) in_n1_X1 tyX1 tyX1_ok nmX1 wn1_11 rfl rfl (by decide +kernel) rfl rfl (Nat.le_of_ble_eq_true rfl) ?_
  show WN κ D 1 _ 9 85 [(h, .inr (1, [vI 0, vI 0, vI 0, .ref q5, .ref q18, .ref q26, .ref q34])), (q5, .inr (3, [.ref (r9 0), vL 1, .ref (r9 1), .ref (r9 2), .ref (r9 3), .ref (r9 4)])), ((r9 0), .inl (cA 1, 6, .inr (.inl fun _ => Int64.ofInt 0))), ((r9 1), .inl (cA 1, 6, .inr (.inl fun _ => Int64.ofInt 0))), ((r9 2), .inl (cA 1, 6, .inr (.inl fun _ => Int64.ofInt 0))), ((r9 3), .inl (cA 1, 7, .inr (.inl fun _ => Int64.ofInt 0))), ((r9 4), .inl (cA 1, 36, .inr (.inl fun _ => Int64.ofInt 0))), (q18, .inl (cA 0, 6, .inl fun _ => Int32.ofInt 0)), (q26, .inl (cA 0, 6, .inl fun _ => Int32.ofInt 0)), (q34, .inl (cA 0, 6, .inl fun j => if j = 5 then Int32.ofInt 5 else if j = 4 then Int32.ofInt 4 else if j = 3 then Int32.ofInt 3 else if j = 2 then Int32.ofInt 2 else if j = 1 then Int32.ofInt 1 else if j = 0 then Int32.ofInt 0 else Int32.ofInt 0))] 63 [(0, .ref h)] []
  exact n_ret C (fun k => match k with | 0 => q5 | 1 => (r9 0) | 2 => (r9 1) | 3 => (r9 2) | 4 => (r9 3) | 5 => (r9 4) | 6 => q18 | 7 => q26 | 8 => q34 | _ => 0) dX1_init_63 rfl
