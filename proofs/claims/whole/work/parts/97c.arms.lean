/-! ===== the law, call by call (written by wip/whole/gen97.py) ===== -/
set_option maxRecDepth 20000 in
theorem w_arm_leak {κ : KT} {cA : Nat → ClassId} {D : va_G} {b L : Nat} {xs : Nat → Int32} {Q : State → Prop} {n z : Nat} {adA adB : Nat → Nat} {i : Int} {σ τ : Mem} (C : CW κ cA D b L xs) (hEA : m_ext adA κ.2.2 κ.1.2.2.2.2 κ.1.2.2.2.2.heap) (hEB : m_ext adB κ.2.2 κ.1.2.2.2.2 κ.1.2.2.2.2.heap) (hi : 0 ≤ i ∧ i + 3 < L) (R : Rel σ τ) (hfit : n ≤ room_1.cells ∧ z ≤ room_1.slots) (cont : ∀ σ' τ' : Mem, Rel σ' τ' → WN κ D 4 Q n z (m_cells (GB adB cA D) τ' ++ m_cells (GA adA cA D) σ') 929 [(3, vI i), (2, .ref (adB 0)), (1, .ref (adA 0)), (0, .ref b)] []) : WN κ D 4 Q n z (m_cells (GB adB cA D) τ ++ m_cells (GA adA cA D) σ) 601 [(3, vI i), (2, .ref (adB 0)), (1, .ref (adA 0)), (0, .ref b)] [] := by
  refine w_aload C 2 dL_law_601 rfl ?_
  refine w_arg C rfl rfl rfl rfl dL_law_602 dL_law_603 dL_law_604 dL_law_605 dL_law_606 rfl rfl (by omega) ?_
  refine w_arg C rfl rfl rfl rfl dL_law_607 dL_law_608 dL_law_609 dL_law_610 dL_law_611 rfl rfl (by omega) ?_
  refine o_call (G := GA adA cA D) (σ := σ) (X := m_cells (GB adB cA D) τ) (o := 0) (As := [vI (w_x xs (i + 1)), vI (w_x xs (i + 2))]) (rest := []) (rs := fun r => [vL r]) (nn := 2) C.1 C.2.1 C.2.2.1 C.2.2.2.1 hEA dL_law_612 (x7_leak_ct κ.1.2.1 adA cA D (w_x xs (i + 1)) (w_x xs (i + 2)) σ) gL_law_X7_leak rfl ⟨rfl, rfl⟩ ⟨rfl, by decide +kernel, by decide +kernel, by decide +kernel⟩ ⟨(Nat.le_of_ble_eq_true rfl), (Nat.le_of_ble_eq_true rfl)⟩ shA_0 rfl rfl rfl (Nat.le_of_ble_eq_true rfl) (fun _ => rfl) hfit ?_
  refine x7_leak_mono (show x7_leak (w_x xs (i + 1)) (w_x xs (i + 2)) σ (fun r σ' => x8_leak (w_x xs (i + 1)) (w_x xs (i + 2)) τ (fun r' τ' => r = r' ∧ Rel σ' τ')) from M_leak R (w_xI _ _) (w_xI _ _)) (fun r σ1 hB => ?_)
  refine n_swap ?_
  show WN κ D 4 Q n z (m_cells (GA adA cA D) σ1 ++ m_cells (GB adB cA D) τ) 615 [(3, vI i), (2, .ref (adB 0)), (1, .ref (adA 0)), (0, .ref b)] [vL r]
  refine w_aload C 1 dL_law_615 rfl ?_
  refine w_arg C rfl rfl rfl rfl dL_law_616 dL_law_617 dL_law_618 dL_law_619 dL_law_620 rfl rfl (by omega) ?_
  refine w_arg C rfl rfl rfl rfl dL_law_621 dL_law_622 dL_law_623 dL_law_624 dL_law_625 rfl rfl (by omega) ?_
  refine o_call (G := GB adB cA D) (σ := τ) (X := m_cells (GA adA cA D) σ1) (o := 0) (As := [vI (w_x xs (i + 1)), vI (w_x xs (i + 2))]) (rest := [vL r]) (rs := fun r => [vL r]) (nn := 2) C.1 C.2.1 C.2.2.1 C.2.2.2.1 hEB dL_law_626 (x8_leak_ct κ.1.2.1 adB cA D (w_x xs (i + 1)) (w_x xs (i + 2)) τ) gL_law_X8_leak rfl ⟨rfl, rfl⟩ ⟨rfl, by decide +kernel, by decide +kernel, by decide +kernel⟩ ⟨(Nat.le_of_ble_eq_true rfl), (Nat.le_of_ble_eq_true rfl)⟩ shB_0 rfl rfl rfl (Nat.le_of_ble_eq_true rfl) (fun _ => rfl) hfit ?_
  refine x8_leak_mono hB (fun r2 τ1 hh => ?_)
  obtain ⟨e, R1⟩ := hh
  refine n_swap ?_
  show WN κ D 4 Q n z (m_cells (GB adB cA D) τ1 ++ m_cells (GA adA cA D) σ1) 629 [(3, vI i), (2, .ref (adB 0)), (1, .ref (adA 0)), (0, .ref b)] [vL r2, vL r]
  refine w_leq C (tgt := 929) dL_law_629 dL_law_630 (by decide) e ?_
  exact cont σ1 τ1 R1
set_option maxRecDepth 20000 in
theorem w_arm_worst {κ : KT} {cA : Nat → ClassId} {D : va_G} {b L : Nat} {xs : Nat → Int32} {Q : State → Prop} {n z : Nat} {adA adB : Nat → Nat} {i : Int} {σ τ : Mem} (C : CW κ cA D b L xs) (hEA : m_ext adA κ.2.2 κ.1.2.2.2.2 κ.1.2.2.2.2.heap) (hEB : m_ext adB κ.2.2 κ.1.2.2.2.2 κ.1.2.2.2.2.heap) (hi : 0 ≤ i ∧ i + 3 < L) (R : Rel σ τ) (hfit : n ≤ room_1.cells ∧ z ≤ room_1.slots) (cont : ∀ σ' τ' : Mem, Rel σ' τ' → WN κ D 4 Q n z (m_cells (GB adB cA D) τ' ++ m_cells (GA adA cA D) σ') 929 [(3, vI i), (2, .ref (adB 0)), (1, .ref (adA 0)), (0, .ref b)] []) : WN κ D 4 Q n z (m_cells (GB adB cA D) τ ++ m_cells (GA adA cA D) σ) 635 [(3, vI i), (2, .ref (adB 0)), (1, .ref (adA 0)), (0, .ref b)] [] := by
  refine w_aload C 2 dL_law_635 rfl ?_
  refine o_call (G := GA adA cA D) (σ := σ) (X := m_cells (GB adB cA D) τ) (o := 0) (As := []) (rest := []) (rs := fun r => [vI r]) (nn := 0) C.1 C.2.1 C.2.2.1 C.2.2.2.1 hEA dL_law_636 (x7_worst_ct κ.1.2.1 adA cA D  σ) gL_law_X7_worst rfl ⟨rfl, rfl⟩ ⟨rfl, by decide +kernel, by decide +kernel, by decide +kernel⟩ ⟨(Nat.le_of_ble_eq_true rfl), (Nat.le_of_ble_eq_true rfl)⟩ shA_0 rfl rfl rfl (Nat.le_of_ble_eq_true rfl) (fun _ => rfl) hfit ?_
  refine x7_worst_mono (show x7_worst  σ (fun r σ' => x8_worst  τ (fun r' τ' => r = r' ∧ Rel σ' τ')) from M_worst R) (fun r σ1 hB => ?_)
  refine n_swap ?_
  show WN κ D 4 Q n z (m_cells (GA adA cA D) σ1 ++ m_cells (GB adB cA D) τ) 639 [(3, vI i), (2, .ref (adB 0)), (1, .ref (adA 0)), (0, .ref b)] [vI r]
  refine w_aload C 1 dL_law_639 rfl ?_
  refine o_call (G := GB adB cA D) (σ := τ) (X := m_cells (GA adA cA D) σ1) (o := 0) (As := []) (rest := [vI r]) (rs := fun r => [vI r]) (nn := 0) C.1 C.2.1 C.2.2.1 C.2.2.2.1 hEB dL_law_640 (x8_worst_ct κ.1.2.1 adB cA D  τ) gL_law_X8_worst rfl ⟨rfl, rfl⟩ ⟨rfl, by decide +kernel, by decide +kernel, by decide +kernel⟩ ⟨(Nat.le_of_ble_eq_true rfl), (Nat.le_of_ble_eq_true rfl)⟩ shB_0 rfl rfl rfl (Nat.le_of_ble_eq_true rfl) (fun _ => rfl) hfit ?_
  refine x8_worst_mono hB (fun r2 τ1 hh => ?_)
  obtain ⟨e, R1⟩ := hh
  refine n_swap ?_
  show WN κ D 4 Q n z (m_cells (GB adB cA D) τ1 ++ m_cells (GA adA cA D) σ1) 643 [(3, vI i), (2, .ref (adB 0)), (1, .ref (adA 0)), (0, .ref b)] [vI r2, vI r]
  refine w_ieq C (tgt := 929) dL_law_643 (by decide) e ?_
  exact cont σ1 τ1 R1
set_option maxRecDepth 20000 in
theorem w_arm_weakest {κ : KT} {cA : Nat → ClassId} {D : va_G} {b L : Nat} {xs : Nat → Int32} {Q : State → Prop} {n z : Nat} {adA adB : Nat → Nat} {i : Int} {σ τ : Mem} (C : CW κ cA D b L xs) (hEA : m_ext adA κ.2.2 κ.1.2.2.2.2 κ.1.2.2.2.2.heap) (hEB : m_ext adB κ.2.2 κ.1.2.2.2.2 κ.1.2.2.2.2.heap) (hi : 0 ≤ i ∧ i + 3 < L) (R : Rel σ τ) (hfit : n ≤ room_1.cells ∧ z ≤ room_1.slots) (cont : ∀ σ' τ' : Mem, Rel σ' τ' → WN κ D 4 Q n z (m_cells (GB adB cA D) τ' ++ m_cells (GA adA cA D) σ') 929 [(3, vI i), (2, .ref (adB 0)), (1, .ref (adA 0)), (0, .ref b)] []) : WN κ D 4 Q n z (m_cells (GB adB cA D) τ ++ m_cells (GA adA cA D) σ) 648 [(3, vI i), (2, .ref (adB 0)), (1, .ref (adA 0)), (0, .ref b)] [] := by
  refine w_aload C 2 dL_law_648 rfl ?_
  refine o_call (G := GA adA cA D) (σ := σ) (X := m_cells (GB adB cA D) τ) (o := 0) (As := []) (rest := []) (rs := fun r => [vI r]) (nn := 0) C.1 C.2.1 C.2.2.1 C.2.2.2.1 hEA dL_law_649 (x7_weakest_ct κ.1.2.1 adA cA D  σ) gL_law_X7_weakest rfl ⟨rfl, rfl⟩ ⟨rfl, by decide +kernel, by decide +kernel, by decide +kernel⟩ ⟨(Nat.le_of_ble_eq_true rfl), (Nat.le_of_ble_eq_true rfl)⟩ shA_0 rfl rfl rfl (Nat.le_of_ble_eq_true rfl) (fun _ => rfl) hfit ?_
  refine x7_weakest_mono (show x7_weakest  σ (fun r σ' => x8_weakest  τ (fun r' τ' => r = r' ∧ Rel σ' τ')) from M_weakest R) (fun r σ1 hB => ?_)
  refine n_swap ?_
  show WN κ D 4 Q n z (m_cells (GA adA cA D) σ1 ++ m_cells (GB adB cA D) τ) 652 [(3, vI i), (2, .ref (adB 0)), (1, .ref (adA 0)), (0, .ref b)] [vI r]
  refine w_aload C 1 dL_law_652 rfl ?_
  refine o_call (G := GB adB cA D) (σ := τ) (X := m_cells (GA adA cA D) σ1) (o := 0) (As := []) (rest := [vI r]) (rs := fun r => [vI r]) (nn := 0) C.1 C.2.1 C.2.2.1 C.2.2.2.1 hEB dL_law_653 (x8_weakest_ct κ.1.2.1 adB cA D  τ) gL_law_X8_weakest rfl ⟨rfl, rfl⟩ ⟨rfl, by decide +kernel, by decide +kernel, by decide +kernel⟩ ⟨(Nat.le_of_ble_eq_true rfl), (Nat.le_of_ble_eq_true rfl)⟩ shB_0 rfl rfl rfl (Nat.le_of_ble_eq_true rfl) (fun _ => rfl) hfit ?_
  refine x8_weakest_mono hB (fun r2 τ1 hh => ?_)
  obtain ⟨e, R1⟩ := hh
  refine n_swap ?_
  show WN κ D 4 Q n z (m_cells (GB adB cA D) τ1 ++ m_cells (GA adA cA D) σ1) 656 [(3, vI i), (2, .ref (adB 0)), (1, .ref (adA 0)), (0, .ref b)] [vI r2, vI r]
  refine w_ieq C (tgt := 929) dL_law_656 (by decide) e ?_
  exact cont σ1 τ1 R1
set_option maxRecDepth 20000 in
theorem w_arm_weights {κ : KT} {cA : Nat → ClassId} {D : va_G} {b L : Nat} {xs : Nat → Int32} {Q : State → Prop} {n z : Nat} {adA adB : Nat → Nat} {i : Int} {σ τ : Mem} (C : CW κ cA D b L xs) (hEA : m_ext adA κ.2.2 κ.1.2.2.2.2 κ.1.2.2.2.2.heap) (hEB : m_ext adB κ.2.2 κ.1.2.2.2.2 κ.1.2.2.2.2.heap) (hi : 0 ≤ i ∧ i + 3 < L) (R : Rel σ τ) (hfit : n ≤ room_1.cells ∧ z ≤ room_1.slots) (cont : ∀ σ' τ' : Mem, Rel σ' τ' → WN κ D 4 Q n z (m_cells (GB adB cA D) τ' ++ m_cells (GA adA cA D) σ') 929 [(3, vI i), (2, .ref (adB 0)), (1, .ref (adA 0)), (0, .ref b)] []) : WN κ D 4 Q n z (m_cells (GB adB cA D) τ ++ m_cells (GA adA cA D) σ) 661 [(3, vI i), (2, .ref (adB 0)), (1, .ref (adA 0)), (0, .ref b)] [] := by
  refine w_aload C 2 dL_law_661 rfl ?_
  refine w_arg C rfl rfl rfl rfl dL_law_662 dL_law_663 dL_law_664 dL_law_665 dL_law_666 rfl rfl (by omega) ?_
  refine w_arg C rfl rfl rfl rfl dL_law_667 dL_law_668 dL_law_669 dL_law_670 dL_law_671 rfl rfl (by omega) ?_
  refine w_arg C rfl rfl rfl rfl dL_law_672 dL_law_673 dL_law_674 dL_law_675 dL_law_676 rfl rfl (by omega) ?_
  refine o_call (G := GA adA cA D) (σ := σ) (X := m_cells (GB adB cA D) τ) (o := 0) (As := [vI (w_x xs (i + 1)), vI (w_x xs (i + 2)), vI (w_x xs (i + 3))]) (rest := []) (rs := fun r => [vI r]) (nn := 3) C.1 C.2.1 C.2.2.1 C.2.2.2.1 hEA dL_law_677 (x7_weights_ct κ.1.2.1 adA cA D (w_x xs (i + 1)) (w_x xs (i + 2)) (w_x xs (i + 3)) σ) gL_law_X7_weights rfl ⟨rfl, rfl⟩ ⟨rfl, by decide +kernel, by decide +kernel, by decide +kernel⟩ ⟨(Nat.le_of_ble_eq_true rfl), (Nat.le_of_ble_eq_true rfl)⟩ shA_0 rfl rfl rfl (Nat.le_of_ble_eq_true rfl) (fun _ => rfl) hfit ?_
  refine x7_weights_mono (show x7_weights (w_x xs (i + 1)) (w_x xs (i + 2)) (w_x xs (i + 3)) σ (fun r σ' => x8_weights (w_x xs (i + 1)) (w_x xs (i + 2)) (w_x xs (i + 3)) τ (fun r' τ' => r = r' ∧ Rel σ' τ')) from M_weights R (w_xI _ _) (w_xI _ _) (w_xI _ _)) (fun r σ1 hB => ?_)
  refine n_swap ?_
  show WN κ D 4 Q n z (m_cells (GA adA cA D) σ1 ++ m_cells (GB adB cA D) τ) 680 [(3, vI i), (2, .ref (adB 0)), (1, .ref (adA 0)), (0, .ref b)] [vI r]
  refine w_aload C 1 dL_law_680 rfl ?_
  refine w_arg C rfl rfl rfl rfl dL_law_681 dL_law_682 dL_law_683 dL_law_684 dL_law_685 rfl rfl (by omega) ?_
  refine w_arg C rfl rfl rfl rfl dL_law_686 dL_law_687 dL_law_688 dL_law_689 dL_law_690 rfl rfl (by omega) ?_
  refine w_arg C rfl rfl rfl rfl dL_law_691 dL_law_692 dL_law_693 dL_law_694 dL_law_695 rfl rfl (by omega) ?_
  refine o_call (G := GB adB cA D) (σ := τ) (X := m_cells (GA adA cA D) σ1) (o := 0) (As := [vI (w_x xs (i + 1)), vI (w_x xs (i + 2)), vI (w_x xs (i + 3))]) (rest := [vI r]) (rs := fun r => [vI r]) (nn := 3) C.1 C.2.1 C.2.2.1 C.2.2.2.1 hEB dL_law_696 (x8_weights_ct κ.1.2.1 adB cA D (w_x xs (i + 1)) (w_x xs (i + 2)) (w_x xs (i + 3)) τ) gL_law_X8_weights rfl ⟨rfl, rfl⟩ ⟨rfl, by decide +kernel, by decide +kernel, by decide +kernel⟩ ⟨(Nat.le_of_ble_eq_true rfl), (Nat.le_of_ble_eq_true rfl)⟩ shB_0 rfl rfl rfl (Nat.le_of_ble_eq_true rfl) (fun _ => rfl) hfit ?_
  refine x8_weights_mono hB (fun r2 τ1 hh => ?_)
  obtain ⟨e, R1⟩ := hh
  refine n_swap ?_
  show WN κ D 4 Q n z (m_cells (GB adB cA D) τ1 ++ m_cells (GA adA cA D) σ1) 699 [(3, vI i), (2, .ref (adB 0)), (1, .ref (adA 0)), (0, .ref b)] [vI r2, vI r]
  refine w_ieq C (tgt := 929) dL_law_699 (by decide) e ?_
  exact cont σ1 τ1 R1
set_option maxRecDepth 20000 in
theorem w_arm_chance {κ : KT} {cA : Nat → ClassId} {D : va_G} {b L : Nat} {xs : Nat → Int32} {Q : State → Prop} {n z : Nat} {adA adB : Nat → Nat} {i : Int} {σ τ : Mem} (C : CW κ cA D b L xs) (hEA : m_ext adA κ.2.2 κ.1.2.2.2.2 κ.1.2.2.2.2.heap) (hEB : m_ext adB κ.2.2 κ.1.2.2.2.2 κ.1.2.2.2.2.heap) (hi : 0 ≤ i ∧ i + 3 < L) (R : Rel σ τ) (hfit : n ≤ room_1.cells ∧ z ≤ room_1.slots) (cont : ∀ σ' τ' : Mem, Rel σ' τ' → WN κ D 4 Q n z (m_cells (GB adB cA D) τ' ++ m_cells (GA adA cA D) σ') 929 [(3, vI i), (2, .ref (adB 0)), (1, .ref (adA 0)), (0, .ref b)] []) : WN κ D 4 Q n z (m_cells (GB adB cA D) τ ++ m_cells (GA adA cA D) σ) 704 [(3, vI i), (2, .ref (adB 0)), (1, .ref (adA 0)), (0, .ref b)] [] := by
  refine w_aload C 2 dL_law_704 rfl ?_
  refine w_arg C rfl rfl rfl rfl dL_law_705 dL_law_706 dL_law_707 dL_law_708 dL_law_709 rfl rfl (by omega) ?_
  refine w_arg C rfl rfl rfl rfl dL_law_710 dL_law_711 dL_law_712 dL_law_713 dL_law_714 rfl rfl (by omega) ?_
  refine w_arg C rfl rfl rfl rfl dL_law_715 dL_law_716 dL_law_717 dL_law_718 dL_law_719 rfl rfl (by omega) ?_
  refine o_call (G := GA adA cA D) (σ := σ) (X := m_cells (GB adB cA D) τ) (o := 0) (As := [vI (w_x xs (i + 1)), vI (w_x xs (i + 2)), vI (w_x xs (i + 3))]) (rest := []) (rs := fun r => [vL r]) (nn := 3) C.1 C.2.1 C.2.2.1 C.2.2.2.1 hEA dL_law_720 (x7_chance_ct κ.1.2.1 adA cA D (w_x xs (i + 1)) (w_x xs (i + 2)) (w_x xs (i + 3)) σ) gL_law_X7_chance rfl ⟨rfl, rfl⟩ ⟨rfl, by decide +kernel, by decide +kernel, by decide +kernel⟩ ⟨(Nat.le_of_ble_eq_true rfl), (Nat.le_of_ble_eq_true rfl)⟩ shA_0 rfl rfl rfl (Nat.le_of_ble_eq_true rfl) (fun _ => rfl) hfit ?_
  refine x7_chance_mono (show x7_chance (w_x xs (i + 1)) (w_x xs (i + 2)) (w_x xs (i + 3)) σ (fun r σ' => x8_chance (w_x xs (i + 1)) (w_x xs (i + 2)) (w_x xs (i + 3)) τ (fun r' τ' => r = r' ∧ Rel σ' τ')) from M_chance R (w_xI _ _) (w_xI _ _) (w_xI _ _)) (fun r σ1 hB => ?_)
  refine n_swap ?_
  show WN κ D 4 Q n z (m_cells (GA adA cA D) σ1 ++ m_cells (GB adB cA D) τ) 723 [(3, vI i), (2, .ref (adB 0)), (1, .ref (adA 0)), (0, .ref b)] [vL r]
  refine w_aload C 1 dL_law_723 rfl ?_
  refine w_arg C rfl rfl rfl rfl dL_law_724 dL_law_725 dL_law_726 dL_law_727 dL_law_728 rfl rfl (by omega) ?_
  refine w_arg C rfl rfl rfl rfl dL_law_729 dL_law_730 dL_law_731 dL_law_732 dL_law_733 rfl rfl (by omega) ?_
  refine w_arg C rfl rfl rfl rfl dL_law_734 dL_law_735 dL_law_736 dL_law_737 dL_law_738 rfl rfl (by omega) ?_
  refine o_call (G := GB adB cA D) (σ := τ) (X := m_cells (GA adA cA D) σ1) (o := 0) (As := [vI (w_x xs (i + 1)), vI (w_x xs (i + 2)), vI (w_x xs (i + 3))]) (rest := [vL r]) (rs := fun r => [vL r]) (nn := 3) C.1 C.2.1 C.2.2.1 C.2.2.2.1 hEB dL_law_739 (x8_chance_ct κ.1.2.1 adB cA D (w_x xs (i + 1)) (w_x xs (i + 2)) (w_x xs (i + 3)) τ) gL_law_X8_chance rfl ⟨rfl, rfl⟩ ⟨rfl, by decide +kernel, by decide +kernel, by decide +kernel⟩ ⟨(Nat.le_of_ble_eq_true rfl), (Nat.le_of_ble_eq_true rfl)⟩ shB_0 rfl rfl rfl (Nat.le_of_ble_eq_true rfl) (fun _ => rfl) hfit ?_
  refine x8_chance_mono hB (fun r2 τ1 hh => ?_)
  obtain ⟨e, R1⟩ := hh
  refine n_swap ?_
  show WN κ D 4 Q n z (m_cells (GB adB cA D) τ1 ++ m_cells (GA adA cA D) σ1) 742 [(3, vI i), (2, .ref (adB 0)), (1, .ref (adA 0)), (0, .ref b)] [vL r2, vL r]
  refine w_leq C (tgt := 929) dL_law_742 dL_law_743 (by decide) e ?_
  exact cont σ1 τ1 R1
set_option maxRecDepth 20000 in
theorem w_arm_reading {κ : KT} {cA : Nat → ClassId} {D : va_G} {b L : Nat} {xs : Nat → Int32} {Q : State → Prop} {n z : Nat} {adA adB : Nat → Nat} {i : Int} {σ τ : Mem} (C : CW κ cA D b L xs) (hEA : m_ext adA κ.2.2 κ.1.2.2.2.2 κ.1.2.2.2.2.heap) (hEB : m_ext adB κ.2.2 κ.1.2.2.2.2 κ.1.2.2.2.2.heap) (hi : 0 ≤ i ∧ i + 3 < L) (R : Rel σ τ) (hfit : n ≤ room_1.cells ∧ z ≤ room_1.slots) (cont : ∀ σ' τ' : Mem, Rel σ' τ' → WN κ D 4 Q n z (m_cells (GB adB cA D) τ' ++ m_cells (GA adA cA D) σ') 929 [(3, vI i), (2, .ref (adB 0)), (1, .ref (adA 0)), (0, .ref b)] []) : WN κ D 4 Q n z (m_cells (GB adB cA D) τ ++ m_cells (GA adA cA D) σ) 748 [(3, vI i), (2, .ref (adB 0)), (1, .ref (adA 0)), (0, .ref b)] [] := by
  refine w_aload C 2 dL_law_748 rfl ?_
  refine w_arg C rfl rfl rfl rfl dL_law_749 dL_law_750 dL_law_751 dL_law_752 dL_law_753 rfl rfl (by omega) ?_
  refine w_arg C rfl rfl rfl rfl dL_law_754 dL_law_755 dL_law_756 dL_law_757 dL_law_758 rfl rfl (by omega) ?_
  refine w_arg C rfl rfl rfl rfl dL_law_759 dL_law_760 dL_law_761 dL_law_762 dL_law_763 rfl rfl (by omega) ?_
  refine o_call (G := GA adA cA D) (σ := σ) (X := m_cells (GB adB cA D) τ) (o := 0) (As := [vI (w_x xs (i + 1)), vI (w_x xs (i + 2)), vI (w_x xs (i + 3))]) (rest := []) (rs := fun r => [vI r]) (nn := 3) C.1 C.2.1 C.2.2.1 C.2.2.2.1 hEA dL_law_764 (x7_reading_ct κ.1.2.1 adA cA D (w_x xs (i + 1)) (w_x xs (i + 2)) (w_x xs (i + 3)) σ) gL_law_X7_reading rfl ⟨rfl, rfl⟩ ⟨rfl, by decide +kernel, by decide +kernel, by decide +kernel⟩ ⟨(Nat.le_of_ble_eq_true rfl), (Nat.le_of_ble_eq_true rfl)⟩ shA_0 rfl rfl rfl (Nat.le_of_ble_eq_true rfl) (fun _ => rfl) hfit ?_
  refine x7_reading_mono (show x7_reading (w_x xs (i + 1)) (w_x xs (i + 2)) (w_x xs (i + 3)) σ (fun r σ' => x8_reading (w_x xs (i + 1)) (w_x xs (i + 2)) (w_x xs (i + 3)) τ (fun r' τ' => r = r' ∧ Rel σ' τ')) from M_reading R (w_xI _ _) (w_xI _ _) (w_xI _ _)) (fun r σ1 hB => ?_)
  refine n_swap ?_
  show WN κ D 4 Q n z (m_cells (GA adA cA D) σ1 ++ m_cells (GB adB cA D) τ) 767 [(3, vI i), (2, .ref (adB 0)), (1, .ref (adA 0)), (0, .ref b)] [vI r]
  refine w_aload C 1 dL_law_767 rfl ?_
  refine w_arg C rfl rfl rfl rfl dL_law_768 dL_law_769 dL_law_770 dL_law_771 dL_law_772 rfl rfl (by omega) ?_
  refine w_arg C rfl rfl rfl rfl dL_law_773 dL_law_774 dL_law_775 dL_law_776 dL_law_777 rfl rfl (by omega) ?_
  refine w_arg C rfl rfl rfl rfl dL_law_778 dL_law_779 dL_law_780 dL_law_781 dL_law_782 rfl rfl (by omega) ?_
  refine o_call (G := GB adB cA D) (σ := τ) (X := m_cells (GA adA cA D) σ1) (o := 0) (As := [vI (w_x xs (i + 1)), vI (w_x xs (i + 2)), vI (w_x xs (i + 3))]) (rest := [vI r]) (rs := fun r => [vI r]) (nn := 3) C.1 C.2.1 C.2.2.1 C.2.2.2.1 hEB dL_law_783 (x8_reading_ct κ.1.2.1 adB cA D (w_x xs (i + 1)) (w_x xs (i + 2)) (w_x xs (i + 3)) τ) gL_law_X8_reading rfl ⟨rfl, rfl⟩ ⟨rfl, by decide +kernel, by decide +kernel, by decide +kernel⟩ ⟨(Nat.le_of_ble_eq_true rfl), (Nat.le_of_ble_eq_true rfl)⟩ shB_0 rfl rfl rfl (Nat.le_of_ble_eq_true rfl) (fun _ => rfl) hfit ?_
  refine x8_reading_mono hB (fun r2 τ1 hh => ?_)
  obtain ⟨e, R1⟩ := hh
  refine n_swap ?_
  show WN κ D 4 Q n z (m_cells (GB adB cA D) τ1 ++ m_cells (GA adA cA D) σ1) 786 [(3, vI i), (2, .ref (adB 0)), (1, .ref (adA 0)), (0, .ref b)] [vI r2, vI r]
  refine w_ieq C (tgt := 929) dL_law_786 (by decide) e ?_
  exact cont σ1 τ1 R1
