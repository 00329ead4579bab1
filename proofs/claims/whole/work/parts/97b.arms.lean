/-! ===== the law, call by call (written by wip/whole/gen97.py) ===== -/
set_option maxRecDepth 20000 in
theorem w_arm_row {κ : KT} {cA : Nat → ClassId} {D : va_G} {b L : Nat} {xs : Nat → Int32} {Q : State → Prop} {n z : Nat} {adA adB : Nat → Nat} {i : Int} {σ τ : Mem} (C : CW κ cA D b L xs) (hEA : m_ext adA κ.2.2 κ.1.2.2.2.2 κ.1.2.2.2.2.heap) (hEB : m_ext adB κ.2.2 κ.1.2.2.2.2 κ.1.2.2.2.2.heap) (hi : 0 ≤ i ∧ i + 3 < L) (R : Rel σ τ) (hfit : n ≤ room_1.cells ∧ z ≤ room_1.slots) (cont : ∀ σ' τ' : Mem, Rel σ' τ' → WN κ D 4 Q n z (m_cells (GB adB cA D) τ' ++ m_cells (GA adA cA D) σ') 929 [(3, vI i), (2, .ref (adB 0)), (1, .ref (adA 0)), (0, .ref b)] []) : WN κ D 4 Q n z (m_cells (GB adB cA D) τ ++ m_cells (GA adA cA D) σ) 410 [(3, vI i), (2, .ref (adB 0)), (1, .ref (adA 0)), (0, .ref b)] [] := by
  refine w_aload C 2 dL_law_410 rfl ?_
  refine w_arg C rfl rfl rfl rfl dL_law_411 dL_law_412 dL_law_413 dL_law_414 dL_law_415 rfl rfl (by omega) ?_
  refine o_call (G := GA adA cA D) (σ := σ) (X := m_cells (GB adB cA D) τ) (o := 0) (As := [vI (w_x xs (i + 1))]) (rest := []) (rs := fun r => [vI r]) (nn := 1) C.1 C.2.1 C.2.2.1 C.2.2.2.1 hEA dL_law_416 (x7_row_ct κ.1.2.1 adA cA D (w_x xs (i + 1)) σ) gL_law_X7_row rfl ⟨rfl, rfl⟩ ⟨rfl, by decide +kernel, by decide +kernel, by decide +kernel⟩ ⟨(Nat.le_of_ble_eq_true rfl), (Nat.le_of_ble_eq_true rfl)⟩ shA_0 rfl rfl rfl (Nat.le_of_ble_eq_true rfl) (fun _ => rfl) hfit ?_
  refine x7_row_mono (show x7_row (w_x xs (i + 1)) σ (fun r σ' => x8_row (w_x xs (i + 1)) τ (fun r' τ' => r = r' ∧ Rel σ' τ')) from M_row R (w_xI _ _)) (fun r σ1 hB => ?_)
  refine n_swap ?_
  show WN κ D 4 Q n z (m_cells (GA adA cA D) σ1 ++ m_cells (GB adB cA D) τ) 419 [(3, vI i), (2, .ref (adB 0)), (1, .ref (adA 0)), (0, .ref b)] [vI r]
  refine w_aload C 1 dL_law_419 rfl ?_
  refine w_arg C rfl rfl rfl rfl dL_law_420 dL_law_421 dL_law_422 dL_law_423 dL_law_424 rfl rfl (by omega) ?_
  refine o_call (G := GB adB cA D) (σ := τ) (X := m_cells (GA adA cA D) σ1) (o := 0) (As := [vI (w_x xs (i + 1))]) (rest := [vI r]) (rs := fun r => [vI r]) (nn := 1) C.1 C.2.1 C.2.2.1 C.2.2.2.1 hEB dL_law_425 (x8_row_ct κ.1.2.1 adB cA D (w_x xs (i + 1)) τ) gL_law_X8_row rfl ⟨rfl, rfl⟩ ⟨rfl, by decide +kernel, by decide +kernel, by decide +kernel⟩ ⟨(Nat.le_of_ble_eq_true rfl), (Nat.le_of_ble_eq_true rfl)⟩ shB_0 rfl rfl rfl (Nat.le_of_ble_eq_true rfl) (fun _ => rfl) hfit ?_
  refine x8_row_mono hB (fun r2 τ1 hh => ?_)
  obtain ⟨e, R1⟩ := hh
  refine n_swap ?_
  show WN κ D 4 Q n z (m_cells (GB adB cA D) τ1 ++ m_cells (GA adA cA D) σ1) 428 [(3, vI i), (2, .ref (adB 0)), (1, .ref (adA 0)), (0, .ref b)] [vI r2, vI r]
  refine w_ieq C (tgt := 929) dL_law_428 (by decide) e ?_
  exact cont σ1 τ1 R1
set_option maxRecDepth 20000 in
theorem w_arm_pass {κ : KT} {cA : Nat → ClassId} {D : va_G} {b L : Nat} {xs : Nat → Int32} {Q : State → Prop} {n z : Nat} {adA adB : Nat → Nat} {i : Int} {σ τ : Mem} (C : CW κ cA D b L xs) (hEA : m_ext adA κ.2.2 κ.1.2.2.2.2 κ.1.2.2.2.2.heap) (hEB : m_ext adB κ.2.2 κ.1.2.2.2.2 κ.1.2.2.2.2.heap) (hi : 0 ≤ i ∧ i + 3 < L) (R : Rel σ τ) (hfit : n ≤ room_1.cells ∧ z ≤ room_1.slots) (cont : ∀ σ' τ' : Mem, Rel σ' τ' → WN κ D 4 Q n z (m_cells (GB adB cA D) τ' ++ m_cells (GA adA cA D) σ') 929 [(3, vI i), (2, .ref (adB 0)), (1, .ref (adA 0)), (0, .ref b)] []) : WN κ D 4 Q n z (m_cells (GB adB cA D) τ ++ m_cells (GA adA cA D) σ) 433 [(3, vI i), (2, .ref (adB 0)), (1, .ref (adA 0)), (0, .ref b)] [] := by
  refine w_aload C 2 dL_law_433 rfl ?_
  refine w_arg C rfl rfl rfl rfl dL_law_434 dL_law_435 dL_law_436 dL_law_437 dL_law_438 rfl rfl (by omega) ?_
  refine o_call (G := GA adA cA D) (σ := σ) (X := m_cells (GB adB cA D) τ) (o := 0) (As := [vI (w_x xs (i + 1))]) (rest := []) (rs := fun r => [vI r]) (nn := 1) C.1 C.2.1 C.2.2.1 C.2.2.2.1 hEA dL_law_439 (x7_pass_ct κ.1.2.1 adA cA D (w_x xs (i + 1)) σ) gL_law_X7_pass rfl ⟨rfl, rfl⟩ ⟨rfl, by decide +kernel, by decide +kernel, by decide +kernel⟩ ⟨(Nat.le_of_ble_eq_true rfl), (Nat.le_of_ble_eq_true rfl)⟩ shA_0 rfl rfl rfl (Nat.le_of_ble_eq_true rfl) (fun _ => rfl) hfit ?_
  refine x7_pass_mono (show x7_pass (w_x xs (i + 1)) σ (fun r σ' => x8_pass (w_x xs (i + 1)) τ (fun r' τ' => r = r' ∧ Rel σ' τ')) from M_pass R (w_xI _ _)) (fun r σ1 hB => ?_)
  refine n_swap ?_
  show WN κ D 4 Q n z (m_cells (GA adA cA D) σ1 ++ m_cells (GB adB cA D) τ) 442 [(3, vI i), (2, .ref (adB 0)), (1, .ref (adA 0)), (0, .ref b)] [vI r]
  refine w_aload C 1 dL_law_442 rfl ?_
  refine w_arg C rfl rfl rfl rfl dL_law_443 dL_law_444 dL_law_445 dL_law_446 dL_law_447 rfl rfl (by omega) ?_
  refine o_call (G := GB adB cA D) (σ := τ) (X := m_cells (GA adA cA D) σ1) (o := 0) (As := [vI (w_x xs (i + 1))]) (rest := [vI r]) (rs := fun r => [vI r]) (nn := 1) C.1 C.2.1 C.2.2.1 C.2.2.2.1 hEB dL_law_448 (x8_pass_ct κ.1.2.1 adB cA D (w_x xs (i + 1)) τ) gL_law_X8_pass rfl ⟨rfl, rfl⟩ ⟨rfl, by decide +kernel, by decide +kernel, by decide +kernel⟩ ⟨(Nat.le_of_ble_eq_true rfl), (Nat.le_of_ble_eq_true rfl)⟩ shB_0 rfl rfl rfl (Nat.le_of_ble_eq_true rfl) (fun _ => rfl) hfit ?_
  refine x8_pass_mono hB (fun r2 τ1 hh => ?_)
  obtain ⟨e, R1⟩ := hh
  refine n_swap ?_
  show WN κ D 4 Q n z (m_cells (GB adB cA D) τ1 ++ m_cells (GA adA cA D) σ1) 451 [(3, vI i), (2, .ref (adB 0)), (1, .ref (adA 0)), (0, .ref b)] [vI r2, vI r]
  refine w_ieq C (tgt := 929) dL_law_451 (by decide) e ?_
  exact cont σ1 τ1 R1
set_option maxRecDepth 20000 in
theorem w_arm_passes {κ : KT} {cA : Nat → ClassId} {D : va_G} {b L : Nat} {xs : Nat → Int32} {Q : State → Prop} {n z : Nat} {adA adB : Nat → Nat} {i : Int} {σ τ : Mem} (C : CW κ cA D b L xs) (hEA : m_ext adA κ.2.2 κ.1.2.2.2.2 κ.1.2.2.2.2.heap) (hEB : m_ext adB κ.2.2 κ.1.2.2.2.2 κ.1.2.2.2.2.heap) (hi : 0 ≤ i ∧ i + 3 < L) (R : Rel σ τ) (hfit : n ≤ room_1.cells ∧ z ≤ room_1.slots) (cont : ∀ σ' τ' : Mem, Rel σ' τ' → WN κ D 4 Q n z (m_cells (GB adB cA D) τ' ++ m_cells (GA adA cA D) σ') 929 [(3, vI i), (2, .ref (adB 0)), (1, .ref (adA 0)), (0, .ref b)] []) : WN κ D 4 Q n z (m_cells (GB adB cA D) τ ++ m_cells (GA adA cA D) σ) 456 [(3, vI i), (2, .ref (adB 0)), (1, .ref (adA 0)), (0, .ref b)] [] := by
  refine w_aload C 2 dL_law_456 rfl ?_
  refine w_arg C rfl rfl rfl rfl dL_law_457 dL_law_458 dL_law_459 dL_law_460 dL_law_461 rfl rfl (by omega) ?_
  refine o_call (G := GA adA cA D) (σ := σ) (X := m_cells (GB adB cA D) τ) (o := 0) (As := [vI (w_x xs (i + 1))]) (rest := []) (rs := fun r => [vI r]) (nn := 1) C.1 C.2.1 C.2.2.1 C.2.2.2.1 hEA dL_law_462 (x7_passes_ct κ.1.2.1 adA cA D (w_x xs (i + 1)) σ) gL_law_X7_passes rfl ⟨rfl, rfl⟩ ⟨rfl, by decide +kernel, by decide +kernel, by decide +kernel⟩ ⟨(Nat.le_of_ble_eq_true rfl), (Nat.le_of_ble_eq_true rfl)⟩ shA_0 rfl rfl rfl (Nat.le_of_ble_eq_true rfl) (fun _ => rfl) hfit ?_
  refine x7_passes_mono (show x7_passes (w_x xs (i + 1)) σ (fun r σ' => x8_passes (w_x xs (i + 1)) τ (fun r' τ' => r = r' ∧ Rel σ' τ')) from M_passes R (w_xI _ _)) (fun r σ1 hB => ?_)
  refine n_swap ?_
  show WN κ D 4 Q n z (m_cells (GA adA cA D) σ1 ++ m_cells (GB adB cA D) τ) 465 [(3, vI i), (2, .ref (adB 0)), (1, .ref (adA 0)), (0, .ref b)] [vI r]
  refine w_aload C 1 dL_law_465 rfl ?_
  refine w_arg C rfl rfl rfl rfl dL_law_466 dL_law_467 dL_law_468 dL_law_469 dL_law_470 rfl rfl (by omega) ?_
  refine o_call (G := GB adB cA D) (σ := τ) (X := m_cells (GA adA cA D) σ1) (o := 0) (As := [vI (w_x xs (i + 1))]) (rest := [vI r]) (rs := fun r => [vI r]) (nn := 1) C.1 C.2.1 C.2.2.1 C.2.2.2.1 hEB dL_law_471 (x8_passes_ct κ.1.2.1 adB cA D (w_x xs (i + 1)) τ) gL_law_X8_passes rfl ⟨rfl, rfl⟩ ⟨rfl, by decide +kernel, by decide +kernel, by decide +kernel⟩ ⟨(Nat.le_of_ble_eq_true rfl), (Nat.le_of_ble_eq_true rfl)⟩ shB_0 rfl rfl rfl (Nat.le_of_ble_eq_true rfl) (fun _ => rfl) hfit ?_
  refine x8_passes_mono hB (fun r2 τ1 hh => ?_)
  obtain ⟨e, R1⟩ := hh
  refine n_swap ?_
  show WN κ D 4 Q n z (m_cells (GB adB cA D) τ1 ++ m_cells (GA adA cA D) σ1) 474 [(3, vI i), (2, .ref (adB 0)), (1, .ref (adA 0)), (0, .ref b)] [vI r2, vI r]
  refine w_ieq C (tgt := 929) dL_law_474 (by decide) e ?_
  exact cont σ1 τ1 R1
set_option maxRecDepth 20000 in
theorem w_arm_best {κ : KT} {cA : Nat → ClassId} {D : va_G} {b L : Nat} {xs : Nat → Int32} {Q : State → Prop} {n z : Nat} {adA adB : Nat → Nat} {i : Int} {σ τ : Mem} (C : CW κ cA D b L xs) (hEA : m_ext adA κ.2.2 κ.1.2.2.2.2 κ.1.2.2.2.2.heap) (hEB : m_ext adB κ.2.2 κ.1.2.2.2.2 κ.1.2.2.2.2.heap) (hi : 0 ≤ i ∧ i + 3 < L) (R : Rel σ τ) (hfit : n ≤ room_1.cells ∧ z ≤ room_1.slots) (cont : ∀ σ' τ' : Mem, Rel σ' τ' → WN κ D 4 Q n z (m_cells (GB adB cA D) τ' ++ m_cells (GA adA cA D) σ') 929 [(3, vI i), (2, .ref (adB 0)), (1, .ref (adA 0)), (0, .ref b)] []) : WN κ D 4 Q n z (m_cells (GB adB cA D) τ ++ m_cells (GA adA cA D) σ) 479 [(3, vI i), (2, .ref (adB 0)), (1, .ref (adA 0)), (0, .ref b)] [] := by
  refine w_aload C 2 dL_law_479 rfl ?_
  refine w_arg C rfl rfl rfl rfl dL_law_480 dL_law_481 dL_law_482 dL_law_483 dL_law_484 rfl rfl (by omega) ?_
  refine w_arg C rfl rfl rfl rfl dL_law_485 dL_law_486 dL_law_487 dL_law_488 dL_law_489 rfl rfl (by omega) ?_
  refine o_call (G := GA adA cA D) (σ := σ) (X := m_cells (GB adB cA D) τ) (o := 0) (As := [vI (w_x xs (i + 1)), vI (w_x xs (i + 2))]) (rest := []) (rs := fun r => [vI r]) (nn := 2) C.1 C.2.1 C.2.2.1 C.2.2.2.1 hEA dL_law_490 (x7_best_ct κ.1.2.1 adA cA D (w_x xs (i + 1)) (w_x xs (i + 2)) σ) gL_law_X7_best rfl ⟨rfl, rfl⟩ ⟨rfl, by decide +kernel, by decide +kernel, by decide +kernel⟩ ⟨(Nat.le_of_ble_eq_true rfl), (Nat.le_of_ble_eq_true rfl)⟩ shA_0 rfl rfl rfl (Nat.le_of_ble_eq_true rfl) (fun _ => rfl) hfit ?_
  refine x7_best_mono (show x7_best (w_x xs (i + 1)) (w_x xs (i + 2)) σ (fun r σ' => x8_best (w_x xs (i + 1)) (w_x xs (i + 2)) τ (fun r' τ' => r = r' ∧ Rel σ' τ')) from M_best R (w_xI _ _) (w_xI _ _)) (fun r σ1 hB => ?_)
  refine n_swap ?_
  show WN κ D 4 Q n z (m_cells (GA adA cA D) σ1 ++ m_cells (GB adB cA D) τ) 493 [(3, vI i), (2, .ref (adB 0)), (1, .ref (adA 0)), (0, .ref b)] [vI r]
  refine w_aload C 1 dL_law_493 rfl ?_
  refine w_arg C rfl rfl rfl rfl dL_law_494 dL_law_495 dL_law_496 dL_law_497 dL_law_498 rfl rfl (by omega) ?_
  refine w_arg C rfl rfl rfl rfl dL_law_499 dL_law_500 dL_law_501 dL_law_502 dL_law_503 rfl rfl (by omega) ?_
  refine o_call (G := GB adB cA D) (σ := τ) (X := m_cells (GA adA cA D) σ1) (o := 0) (As := [vI (w_x xs (i + 1)), vI (w_x xs (i + 2))]) (rest := [vI r]) (rs := fun r => [vI r]) (nn := 2) C.1 C.2.1 C.2.2.1 C.2.2.2.1 hEB dL_law_504 (x8_best_ct κ.1.2.1 adB cA D (w_x xs (i + 1)) (w_x xs (i + 2)) τ) gL_law_X8_best rfl ⟨rfl, rfl⟩ ⟨rfl, by decide +kernel, by decide +kernel, by decide +kernel⟩ ⟨(Nat.le_of_ble_eq_true rfl), (Nat.le_of_ble_eq_true rfl)⟩ shB_0 rfl rfl rfl (Nat.le_of_ble_eq_true rfl) (fun _ => rfl) hfit ?_
  refine x8_best_mono hB (fun r2 τ1 hh => ?_)
  obtain ⟨e, R1⟩ := hh
  refine n_swap ?_
  show WN κ D 4 Q n z (m_cells (GB adB cA D) τ1 ++ m_cells (GA adA cA D) σ1) 507 [(3, vI i), (2, .ref (adB 0)), (1, .ref (adA 0)), (0, .ref b)] [vI r2, vI r]
  refine w_ieq C (tgt := 929) dL_law_507 (by decide) e ?_
  exact cont σ1 τ1 R1
set_option maxRecDepth 20000 in
theorem w_arm_even {κ : KT} {cA : Nat → ClassId} {D : va_G} {b L : Nat} {xs : Nat → Int32} {Q : State → Prop} {n z : Nat} {adA adB : Nat → Nat} {i : Int} {σ τ : Mem} (C : CW κ cA D b L xs) (hEA : m_ext adA κ.2.2 κ.1.2.2.2.2 κ.1.2.2.2.2.heap) (hEB : m_ext adB κ.2.2 κ.1.2.2.2.2 κ.1.2.2.2.2.heap) (hi : 0 ≤ i ∧ i + 3 < L) (R : Rel σ τ) (hfit : n ≤ room_1.cells ∧ z ≤ room_1.slots) (cont : ∀ σ' τ' : Mem, Rel σ' τ' → WN κ D 4 Q n z (m_cells (GB adB cA D) τ' ++ m_cells (GA adA cA D) σ') 929 [(3, vI i), (2, .ref (adB 0)), (1, .ref (adA 0)), (0, .ref b)] []) : WN κ D 4 Q n z (m_cells (GB adB cA D) τ ++ m_cells (GA adA cA D) σ) 512 [(3, vI i), (2, .ref (adB 0)), (1, .ref (adA 0)), (0, .ref b)] [] := by
  refine w_aload C 2 dL_law_512 rfl ?_
  refine w_arg C rfl rfl rfl rfl dL_law_513 dL_law_514 dL_law_515 dL_law_516 dL_law_517 rfl rfl (by omega) ?_
  refine w_arg C rfl rfl rfl rfl dL_law_518 dL_law_519 dL_law_520 dL_law_521 dL_law_522 rfl rfl (by omega) ?_
  refine o_call (G := GA adA cA D) (σ := σ) (X := m_cells (GB adB cA D) τ) (o := 0) (As := [vI (w_x xs (i + 1)), vI (w_x xs (i + 2))]) (rest := []) (rs := fun r => [vI r]) (nn := 2) C.1 C.2.1 C.2.2.1 C.2.2.2.1 hEA dL_law_523 (x7_even_ct κ.1.2.1 adA cA D (w_x xs (i + 1)) (w_x xs (i + 2)) σ) gL_law_X7_even rfl ⟨rfl, rfl⟩ ⟨rfl, by decide +kernel, by decide +kernel, by decide +kernel⟩ ⟨(Nat.le_of_ble_eq_true rfl), (Nat.le_of_ble_eq_true rfl)⟩ shA_0 rfl rfl rfl (Nat.le_of_ble_eq_true rfl) (fun _ => rfl) hfit ?_
  refine x7_even_mono (show x7_even (w_x xs (i + 1)) (w_x xs (i + 2)) σ (fun r σ' => x8_even (w_x xs (i + 1)) (w_x xs (i + 2)) τ (fun r' τ' => r = r' ∧ Rel σ' τ')) from M_even R (w_xI _ _) (w_xI _ _)) (fun r σ1 hB => ?_)
  refine n_swap ?_
  show WN κ D 4 Q n z (m_cells (GA adA cA D) σ1 ++ m_cells (GB adB cA D) τ) 526 [(3, vI i), (2, .ref (adB 0)), (1, .ref (adA 0)), (0, .ref b)] [vI r]
  refine w_aload C 1 dL_law_526 rfl ?_
  refine w_arg C rfl rfl rfl rfl dL_law_527 dL_law_528 dL_law_529 dL_law_530 dL_law_531 rfl rfl (by omega) ?_
  refine w_arg C rfl rfl rfl rfl dL_law_532 dL_law_533 dL_law_534 dL_law_535 dL_law_536 rfl rfl (by omega) ?_
  refine o_call (G := GB adB cA D) (σ := τ) (X := m_cells (GA adA cA D) σ1) (o := 0) (As := [vI (w_x xs (i + 1)), vI (w_x xs (i + 2))]) (rest := [vI r]) (rs := fun r => [vI r]) (nn := 2) C.1 C.2.1 C.2.2.1 C.2.2.2.1 hEB dL_law_537 (x8_even_ct κ.1.2.1 adB cA D (w_x xs (i + 1)) (w_x xs (i + 2)) τ) gL_law_X8_even rfl ⟨rfl, rfl⟩ ⟨rfl, by decide +kernel, by decide +kernel, by decide +kernel⟩ ⟨(Nat.le_of_ble_eq_true rfl), (Nat.le_of_ble_eq_true rfl)⟩ shB_0 rfl rfl rfl (Nat.le_of_ble_eq_true rfl) (fun _ => rfl) hfit ?_
  refine x8_even_mono hB (fun r2 τ1 hh => ?_)
  obtain ⟨e, R1⟩ := hh
  refine n_swap ?_
  show WN κ D 4 Q n z (m_cells (GB adB cA D) τ1 ++ m_cells (GA adA cA D) σ1) 540 [(3, vI i), (2, .ref (adB 0)), (1, .ref (adA 0)), (0, .ref b)] [vI r2, vI r]
  refine w_ieq C (tgt := 929) dL_law_540 (by decide) e ?_
  exact cont σ1 τ1 R1
set_option maxRecDepth 20000 in
theorem w_arm_newCase {κ : KT} {cA : Nat → ClassId} {D : va_G} {b L : Nat} {xs : Nat → Int32} {Q : State → Prop} {n z : Nat} {adA adB : Nat → Nat} {i : Int} {σ τ : Mem} (C : CW κ cA D b L xs) (hEA : m_ext adA κ.2.2 κ.1.2.2.2.2 κ.1.2.2.2.2.heap) (hEB : m_ext adB κ.2.2 κ.1.2.2.2.2 κ.1.2.2.2.2.heap) (hi : 0 ≤ i ∧ i + 3 < L) (R : Rel σ τ) (hfit : n ≤ room_1.cells ∧ z ≤ room_1.slots) (cont : ∀ σ' τ' : Mem, Rel σ' τ' → WN κ D 4 Q n z (m_cells (GB adB cA D) τ' ++ m_cells (GA adA cA D) σ') 929 [(3, vI i), (2, .ref (adB 0)), (1, .ref (adA 0)), (0, .ref b)] []) : WN κ D 4 Q n z (m_cells (GB adB cA D) τ ++ m_cells (GA adA cA D) σ) 545 [(3, vI i), (2, .ref (adB 0)), (1, .ref (adA 0)), (0, .ref b)] [] := by
  refine w_aload C 2 dL_law_545 rfl ?_
  refine o_call (G := GA adA cA D) (σ := σ) (X := m_cells (GB adB cA D) τ) (o := 0) (As := []) (rest := []) (rs := fun r => [vI r]) (nn := 0) C.1 C.2.1 C.2.2.1 C.2.2.2.1 hEA dL_law_546 (x7_newCase_ct κ.1.2.1 adA cA D  σ) gL_law_X7_newCase rfl ⟨rfl, rfl⟩ ⟨rfl, by decide +kernel, by decide +kernel, by decide +kernel⟩ ⟨(Nat.le_of_ble_eq_true rfl), (Nat.le_of_ble_eq_true rfl)⟩ shA_0 rfl rfl rfl (Nat.le_of_ble_eq_true rfl) (fun _ => rfl) hfit ?_
  refine x7_newCase_mono (show x7_newCase  σ (fun r σ' => x8_newCase  τ (fun r' τ' => r = r' ∧ Rel σ' τ')) from M_newCase R) (fun r σ1 hB => ?_)
  refine n_swap ?_
  show WN κ D 4 Q n z (m_cells (GA adA cA D) σ1 ++ m_cells (GB adB cA D) τ) 549 [(3, vI i), (2, .ref (adB 0)), (1, .ref (adA 0)), (0, .ref b)] [vI r]
  refine w_aload C 1 dL_law_549 rfl ?_
  refine o_call (G := GB adB cA D) (σ := τ) (X := m_cells (GA adA cA D) σ1) (o := 0) (As := []) (rest := [vI r]) (rs := fun r => [vI r]) (nn := 0) C.1 C.2.1 C.2.2.1 C.2.2.2.1 hEB dL_law_550 (x8_newCase_ct κ.1.2.1 adB cA D  τ) gL_law_X8_newCase rfl ⟨rfl, rfl⟩ ⟨rfl, by decide +kernel, by decide +kernel, by decide +kernel⟩ ⟨(Nat.le_of_ble_eq_true rfl), (Nat.le_of_ble_eq_true rfl)⟩ shB_0 rfl rfl rfl (Nat.le_of_ble_eq_true rfl) (fun _ => rfl) hfit ?_
  refine x8_newCase_mono hB (fun r2 τ1 hh => ?_)
  obtain ⟨e, R1⟩ := hh
  refine n_swap ?_
  show WN κ D 4 Q n z (m_cells (GB adB cA D) τ1 ++ m_cells (GA adA cA D) σ1) 553 [(3, vI i), (2, .ref (adB 0)), (1, .ref (adA 0)), (0, .ref b)] [vI r2, vI r]
  refine w_ieq C (tgt := 929) dL_law_553 (by decide) e ?_
  exact cont σ1 τ1 R1
set_option maxRecDepth 20000 in
theorem w_arm_load {κ : KT} {cA : Nat → ClassId} {D : va_G} {b L : Nat} {xs : Nat → Int32} {Q : State → Prop} {n z : Nat} {adA adB : Nat → Nat} {i : Int} {σ τ : Mem} (C : CW κ cA D b L xs) (hEA : m_ext adA κ.2.2 κ.1.2.2.2.2 κ.1.2.2.2.2.heap) (hEB : m_ext adB κ.2.2 κ.1.2.2.2.2 κ.1.2.2.2.2.heap) (hi : 0 ≤ i ∧ i + 3 < L) (R : Rel σ τ) (hfit : n ≤ room_1.cells ∧ z ≤ room_1.slots) (cont : ∀ σ' τ' : Mem, Rel σ' τ' → WN κ D 4 Q n z (m_cells (GB adB cA D) τ' ++ m_cells (GA adA cA D) σ') 929 [(3, vI i), (2, .ref (adB 0)), (1, .ref (adA 0)), (0, .ref b)] []) : WN κ D 4 Q n z (m_cells (GB adB cA D) τ ++ m_cells (GA adA cA D) σ) 558 [(3, vI i), (2, .ref (adB 0)), (1, .ref (adA 0)), (0, .ref b)] [] := by
  refine w_aload C 2 dL_law_558 rfl ?_
  refine w_arg C rfl rfl rfl rfl dL_law_559 dL_law_560 dL_law_561 dL_law_562 dL_law_563 rfl rfl (by omega) ?_
  refine w_arg C rfl rfl rfl rfl dL_law_564 dL_law_565 dL_law_566 dL_law_567 dL_law_568 rfl rfl (by omega) ?_
  refine w_arg C rfl rfl rfl rfl dL_law_569 dL_law_570 dL_law_571 dL_law_572 dL_law_573 rfl rfl (by omega) ?_
  refine o_call (G := GA adA cA D) (σ := σ) (X := m_cells (GB adB cA D) τ) (o := 0) (As := [vI (w_x xs (i + 1)), vI (w_x xs (i + 2)), vI (w_x xs (i + 3))]) (rest := []) (rs := fun r => [vI r]) (nn := 3) C.1 C.2.1 C.2.2.1 C.2.2.2.1 hEA dL_law_574 (x7_load_ct κ.1.2.1 adA cA D (w_x xs (i + 1)) (w_x xs (i + 2)) (w_x xs (i + 3)) σ) gL_law_X7_load rfl ⟨rfl, rfl⟩ ⟨rfl, by decide +kernel, by decide +kernel, by decide +kernel⟩ ⟨(Nat.le_of_ble_eq_true rfl), (Nat.le_of_ble_eq_true rfl)⟩ shA_0 rfl rfl rfl (Nat.le_of_ble_eq_true rfl) (fun _ => rfl) hfit ?_
  refine x7_load_mono (show x7_load (w_x xs (i + 1)) (w_x xs (i + 2)) (w_x xs (i + 3)) σ (fun r σ' => x8_load (w_x xs (i + 1)) (w_x xs (i + 2)) (w_x xs (i + 3)) τ (fun r' τ' => r = r' ∧ Rel σ' τ')) from M_load R (w_xI _ _) (w_xI _ _) (w_xI _ _)) (fun r σ1 hB => ?_)
  refine n_swap ?_
  show WN κ D 4 Q n z (m_cells (GA adA cA D) σ1 ++ m_cells (GB adB cA D) τ) 577 [(3, vI i), (2, .ref (adB 0)), (1, .ref (adA 0)), (0, .ref b)] [vI r]
  refine w_aload C 1 dL_law_577 rfl ?_
  refine w_arg C rfl rfl rfl rfl dL_law_578 dL_law_579 dL_law_580 dL_law_581 dL_law_582 rfl rfl (by omega) ?_
  refine w_arg C rfl rfl rfl rfl dL_law_583 dL_law_584 dL_law_585 dL_law_586 dL_law_587 rfl rfl (by omega) ?_
  refine w_arg C rfl rfl rfl rfl dL_law_588 dL_law_589 dL_law_590 dL_law_591 dL_law_592 rfl rfl (by omega) ?_
  refine o_call (G := GB adB cA D) (σ := τ) (X := m_cells (GA adA cA D) σ1) (o := 0) (As := [vI (w_x xs (i + 1)), vI (w_x xs (i + 2)), vI (w_x xs (i + 3))]) (rest := [vI r]) (rs := fun r => [vI r]) (nn := 3) C.1 C.2.1 C.2.2.1 C.2.2.2.1 hEB dL_law_593 (x8_load_ct κ.1.2.1 adB cA D (w_x xs (i + 1)) (w_x xs (i + 2)) (w_x xs (i + 3)) τ) gL_law_X8_load rfl ⟨rfl, rfl⟩ ⟨rfl, by decide +kernel, by decide +kernel, by decide +kernel⟩ ⟨(Nat.le_of_ble_eq_true rfl), (Nat.le_of_ble_eq_true rfl)⟩ shB_0 rfl rfl rfl (Nat.le_of_ble_eq_true rfl) (fun _ => rfl) hfit ?_
  refine x8_load_mono hB (fun r2 τ1 hh => ?_)
  obtain ⟨e, R1⟩ := hh
  refine n_swap ?_
  show WN κ D 4 Q n z (m_cells (GB adB cA D) τ1 ++ m_cells (GA adA cA D) σ1) 596 [(3, vI i), (2, .ref (adB 0)), (1, .ref (adA 0)), (0, .ref b)] [vI r2, vI r]
  refine w_ieq C (tgt := 929) dL_law_596 (by decide) e ?_
  exact cont σ1 τ1 R1
