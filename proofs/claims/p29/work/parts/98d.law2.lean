/-! ===== the law (written by wip/p29/genlaw.py) ===== -/
theorem wl2_0 : Cond.constant RL 53 (-100003) ∈ wsL_law := by decide +kernel
theorem z_lt {n x : Int} (hn : n = 3 ∨ n = 4) (h : q_isRow n x) : x < 10000 := by
  have h1 := h.1
  have h2 := h.2.1
  rcases hn with q | q <;> subst q
  · have h3 : q_quo x 3 = 0 := h2
    simp only [q_quo] at h3
    omega
  · have h3 : q_quo x 4 = 0 := h2
    simp only [q_quo] at h3
    omega
set_option maxRecDepth 20000 in
theorem w_432 {κ : KT} {cA : Nat → ClassId} {D : va_G} {Q : State → Prop} {n z : Nat} (C : CL κ cA D) {ad : Nat → Nat} (hE : m_ext ad κ.2.2 κ.1.2.2.2.2 κ.1.2.2.2.2.heap) (hf : n ≤ 600000 ∧ z ≤ 7302249) (hend : ∀ (ws : va_W) (ls : List (Nat × Value)), WN κ D 16 Q n z ws 610 ls []) {qt : Nat} {F : Int → Int} {N : Int} {J : JT} {T : Int → Int} {t : Int} (ht : 1 ≤ t ∧ t ≤ 900) (hN4 : N ≤ 4) (hT : ∀ k, q_in N k → F k = T k) {ev : Int} (hev : ev = if (q_evn J t 1202 (q_zer J T)).1 = 0 then -100003 else q_sum (q_evn J t 1202 (q_zer J T)).2 N.toNat) : ∀ (m : Nat) (k : Int) (σ : Mem), St N J (z_T J T k) σ → 0 ≤ k → k ≤ N → (N - k).toNat = m → WN κ D 16 Q n z ([(qt, .inl (cA 0, 4, .inl fun j : Nat => Int32.ofInt (F (j : Int))))] ++ m_cells (GA ad cA D) σ) 432 [(1, .ref (ad 0)), (2, vI N), (3, vI t), (7, .ref qt), (10, vI ev), (11, vI k)] [] := by
  intro m
  induction m with
  | zero =>
    intro k σ h k0 k1 hm
    have hn := h.n
    obtain rfl : k = N := by omega
    refine l_iload C 5 dL_law_432 rfl ?_
    refine l_iload_n C 1 dL_law_434 rfl ?_
    refine l_icmp_ge (tgt := 472) C dL_law_435 (by decide) ⟨⟨by constructor <;> omega, by constructor <;> omega⟩, fun _ => ?_, fun c => absurd c (by omega)⟩
    refine l_perm [0, 1, 2, 4] rfl ?_
    exact w_472 C hE hf hend ht (by rw [← z_Tn h.J]; exact h) hev
  | succ m ih =>
    intro k σ h k0 k1 hm
    have hn := h.n
    have hk : q_in N k := ⟨k0, by omega⟩
    have tb := h.tu hk
    have hb : J.2.2.2.2.2 k = 0 ∨ J.2.2.2.2.2 k = 1 := by
      rw [← h.br hk]
      unfold c_br
      split <;> omega
    refine l_iload C 5 dL_law_432 rfl ?_
    refine l_iload_n C 1 dL_law_434 rfl ?_
    refine l_icmp_ge (tgt := 472) C dL_law_435 (by decide) ⟨⟨by constructor <;> omega, by constructor <;> omega⟩, fun c => absurd c (by omega), fun _ => ?_⟩
    refine l_aload_n C 0 dL_law_438 rfl ?_
    refine l_iload C 5 dL_law_439 rfl ?_
    refine l_iconst (x := 4) C dL_law_441 ?_
    refine o_call (G := GA ad cA D) (σ := σ) (X := [(qt, .inl (cA 0, 4, .inl fun j : Nat => Int32.ofInt (F (j : Int))))]) (o := 0) (As := [vI k, vI 4]) (rest := []) (rs := fun r => [vI r]) (nn := 2) C.1 C.2.1 C.2.2.1 C.2.2.2 hE dL_law_442 (x7_told_ct κ.1.2.1 ad cA D k 4 σ) gL_law_X7_told rfl ⟨rfl, rfl⟩ ⟨rfl, by decide +kernel, by decide +kernel, by decide +kernel⟩ ⟨(Nat.le_of_ble_eq_true rfl), (Nat.le_of_ble_eq_true rfl)⟩ shA_0 rfl rfl rfl (Nat.le_of_ble_eq_true rfl) (fun _ => rfl) (l_fit hf.1 hf.2) ?_
    refine S_told4 h hk ?_
    show WN κ D 16 Q n z ([(qt, .inl (cA 0, 4, .inl fun j : Nat => Int32.ofInt (F (j : Int))))] ++ m_cells (GA ad cA D) σ) 445 [(1, .ref (ad 0)), (2, vI N), (3, vI t), (7, .ref qt), (10, vI ev), (11, vI k)] [vI (J.2.2.2.2.2 k)]
    refine l_if_ne (tgt := 466) C dL_law_445 (by decide) ⟨by constructor <;> omega, fun c => ?_, fun c => ?_⟩
    · refine l_iinc (j := 5) (ls' := [(11, vI (k + 1)), (1, .ref (ad 0)), (2, vI N), (3, vI t), (7, .ref qt), (10, vI ev)]) C dL_law_466 rfl (by decide) rfl ?_
      refine l_goto (tgt := 432) C dL_law_469 (by decide) ?_
      refine l_perm [1, 2, 3, 4, 5, 0] rfl ?_
      exact ih (k + 1) σ (by rw [← z_Tb c]; exact h) (by omega) (by omega) (by omega)
    · refine l_aload_n C 0 dL_law_448 rfl ?_
      refine l_iload C 5 dL_law_449 rfl ?_
      refine l_iconst (x := 2) C dL_law_451 ?_
      refine l_iconst (x := 0) C dL_law_452 ?_
      refine o_call (G := GA ad cA D) (σ := σ) (X := [(qt, .inl (cA 0, 4, .inl fun j : Nat => Int32.ofInt (F (j : Int))))]) (o := 0) (As := [vI k, vI 2, vI 0]) (rest := []) (rs := fun r => [vI r]) (nn := 3) C.1 C.2.1 C.2.2.1 C.2.2.2 hE dL_law_453 (x7_set_ct κ.1.2.1 ad cA D k 2 0 σ) gL_law_X7_set rfl ⟨rfl, rfl⟩ ⟨rfl, by decide +kernel, by decide +kernel, by decide +kernel⟩ ⟨(Nat.le_of_ble_eq_true rfl), (Nat.le_of_ble_eq_true rfl)⟩ shA_0 rfl rfl rfl (Nat.le_of_ble_eq_true rfl) (fun _ => rfl) (l_fit hf.1 hf.2) ?_
      refine S_zero h hk (fun s1 h1 => ?_)
      show WN κ D 16 Q n z ([(qt, .inl (cA 0, 4, .inl fun j : Nat => Int32.ofInt (F (j : Int))))] ++ m_cells (GA ad cA D) s1) 456 [(1, .ref (ad 0)), (2, vI N), (3, vI t), (7, .ref qt), (10, vI ev), (11, vI k)] [vI (z_T J T k k)]
      refine l_aload C 3 dL_law_456 rfl ?_
      refine l_iload C 5 dL_law_458 rfl ?_
      refine l_iald (q0 := 0) (N := 4) (F := F) C dL_law_460 rfl ⟨by omega, by omega, by omega⟩ ?_
      have fk := hT k hk
      have zk : z_T J T k k = T k := z_Tk
      refine l_icmp_eq (tgt := 466) C dL_law_461 (by decide) ⟨⟨by constructor <;> omega, by constructor <;> omega⟩, fun _ => ?_, fun c => absurd c (by omega)⟩
      refine l_iinc (j := 5) (ls' := [(11, vI (k + 1)), (1, .ref (ad 0)), (2, vI N), (3, vI t), (7, .ref qt), (10, vI ev)]) C dL_law_466 rfl (by decide) rfl ?_
      refine l_goto (tgt := 432) C dL_law_469 (by decide) ?_
      refine l_perm [1, 2, 3, 4, 5, 0] rfl ?_
      exact ih (k + 1) s1 (by rw [← z_Ts k0 c]; exact h1) (by omega) (by omega) (by omega)
set_option maxRecDepth 20000 in
theorem w_421 {κ : KT} {cA : Nat → ClassId} {D : va_G} {Q : State → Prop} {n z : Nat} (C : CL κ cA D) {ad : Nat → Nat} (hE : m_ext ad κ.2.2 κ.1.2.2.2.2 κ.1.2.2.2.2.heap) (hf : n ≤ 600000 ∧ z ≤ 7302249) (hend : ∀ (ws : va_W) (ls : List (Nat × Value)), WN κ D 16 Q n z ws 610 ls []) {qt : Nat} {F : Int → Int} {N : Int} {J : JT} {T : Int → Int} {t : Int} (ht : 1 ≤ t ∧ t ≤ 900) (hN4 : N ≤ 4) (hT : ∀ k, q_in N k → F k = T k) {σ : Mem} (h : St N J T σ) : WN κ D 16 Q n z ([(qt, .inl (cA 0, 4, .inl fun j : Nat => Int32.ofInt (F (j : Int))))] ++ m_cells (GA ad cA D) σ) 421 [(1, .ref (ad 0)), (2, vI N), (3, vI t), (7, .ref qt)] [] := by
  have hn := h.n
  refine l_aload_n C 0 dL_law_421 rfl ?_
  refine l_iload_n C 2 dL_law_422 rfl ?_
  refine l_iconst (x := (-1)) C dL_law_423 ?_
  refine o_call (G := GA ad cA D) (σ := σ) (X := [(qt, .inl (cA 0, 4, .inl fun j : Nat => Int32.ofInt (F (j : Int))))]) (o := 0) (As := [vI t, vI (-1)]) (rest := []) (rs := fun r => [vI r]) (nn := 2) C.1 C.2.1 C.2.2.1 C.2.2.2 hE dL_law_424 (x7_even_ct κ.1.2.1 ad cA D t (-1) σ) gL_law_X7_even rfl ⟨rfl, rfl⟩ ⟨rfl, by decide +kernel, by decide +kernel, by decide +kernel⟩ ⟨(Nat.le_of_ble_eq_true rfl), (Nat.le_of_ble_eq_true rfl)⟩ shA_0 rfl rfl rfl (Nat.le_of_ble_eq_true rfl) (fun _ => rfl) (l_fit hf.1 hf.2) ?_
  refine S_even h ht (Or.inl rfl) (fun s1 h1 => ?_)
  show WN κ D 16 Q n z ([(qt, .inl (cA 0, 4, .inl fun j : Nat => Int32.ofInt (F (j : Int))))] ++ m_cells (GA ad cA D) s1) 427 [(1, .ref (ad 0)), (2, vI N), (3, vI t), (7, .ref qt)] [vI (if (q_evn J t 1202 (q_zer J T)).1 = 0 then -100003 else if (-1 : Int) = -1 then q_sum (q_evn J t 1202 (q_zer J T)).2 N.toNat else (q_evn J t 1202 (q_zer J T)).2 (-1))]
  rw [if_pos (show (-1 : Int) = -1 from rfl)]
  refine l_topI (fun ev hev => ?_)
  refine l_istore (ls' := [(10, vI ev), (1, .ref (ad 0)), (2, vI N), (3, vI t), (7, .ref qt)]) C dL_law_427 (by decide) rfl ?_
  refine l_iconst (x := 0) C dL_law_429 ?_
  refine l_istore (ls' := [(11, vI 0), (10, vI ev), (1, .ref (ad 0)), (2, vI N), (3, vI t), (7, .ref qt)]) C dL_law_430 (by decide) rfl ?_
  refine l_perm [2, 3, 4, 5, 1, 0] rfl ?_
  exact w_432 C hE hf hend ht hN4 hT hev N.toNat 0 s1 (by rw [z_T0]; exact h1) (by omega) (by omega) (by omega)
set_option maxRecDepth 20000 in
theorem w_379 {κ : KT} {cA : Nat → ClassId} {D : va_G} {Q : State → Prop} {n z : Nat} (C : CL κ cA D) {ad : Nat → Nat} (hE : m_ext ad κ.2.2 κ.1.2.2.2.2 κ.1.2.2.2.2.heap) (hf : n ≤ 600000 ∧ z ≤ 7302249) (hend : ∀ (ws : va_W) (ls : List (Nat × Value)), WN κ D 16 Q n z ws 610 ls []) {qt : Nat} {F : Int → Int} {N : Int} {J : JT} {T : Int → Int} {t : Int} (ht : 1 ≤ t ∧ t ≤ 900) (hN4 : N ≤ 4) (hT : ∀ k, q_in N k → F k = T k) : ∀ (m : Nat) (k : Int) (σ : Mem), St N J T σ → 0 ≤ k → k ≤ N → (N - k).toNat = m → WN κ D 16 Q n z ([(qt, .inl (cA 0, 4, .inl fun j : Nat => Int32.ofInt (F (j : Int))))] ++ m_cells (GA ad cA D) σ) 379 [(1, .ref (ad 0)), (2, vI N), (3, vI t), (7, .ref qt), (10, vI k)] [] := by
  intro m
  induction m with
  | zero =>
    intro k σ h k0 k1 hm
    have hn := h.n
    refine l_iload C 4 dL_law_379 rfl ?_
    refine l_iload_n C 1 dL_law_381 rfl ?_
    refine l_icmp_ge (tgt := 421) C dL_law_382 (by decide) ⟨⟨by constructor <;> omega, by constructor <;> omega⟩, fun _ => ?_, fun c => absurd c (by omega)⟩
    refine l_perm [0, 1, 2, 3] rfl ?_
    exact w_421 C hE hf hend ht hN4 hT h
  | succ m ih =>
    intro k σ h k0 k1 hm
    have hn := h.n
    have hk : q_in N k := ⟨k0, by omega⟩
    have tb := h.tu hk
    have fk := hT k hk
    refine l_iload C 4 dL_law_379 rfl ?_
    refine l_iload_n C 1 dL_law_381 rfl ?_
    refine l_icmp_ge (tgt := 421) C dL_law_382 (by decide) ⟨⟨by constructor <;> omega, by constructor <;> omega⟩, fun c => absurd c (by omega), fun _ => ?_⟩
    refine l_aload_n C 0 dL_law_385 rfl ?_
    refine l_iload C 4 dL_law_386 rfl ?_
    refine l_iconst (x := 2) C dL_law_388 ?_
    refine o_call (G := GA ad cA D) (σ := σ) (X := [(qt, .inl (cA 0, 4, .inl fun j : Nat => Int32.ofInt (F (j : Int))))]) (o := 0) (As := [vI k, vI 2]) (rest := []) (rs := fun r => [vI r]) (nn := 2) C.1 C.2.1 C.2.2.1 C.2.2.2 hE dL_law_389 (x7_told_ct κ.1.2.1 ad cA D k 2 σ) gL_law_X7_told rfl ⟨rfl, rfl⟩ ⟨rfl, by decide +kernel, by decide +kernel, by decide +kernel⟩ ⟨(Nat.le_of_ble_eq_true rfl), (Nat.le_of_ble_eq_true rfl)⟩ shA_0 rfl rfl rfl (Nat.le_of_ble_eq_true rfl) (fun _ => rfl) (l_fit hf.1 hf.2) ?_
    refine S_told2 h hk ?_
    show WN κ D 16 Q n z ([(qt, .inl (cA 0, 4, .inl fun j : Nat => Int32.ofInt (F (j : Int))))] ++ m_cells (GA ad cA D) σ) 392 [(1, .ref (ad 0)), (2, vI N), (3, vI t), (7, .ref qt), (10, vI k)] [vI (T k)]
    refine l_aload C 3 dL_law_392 rfl ?_
    refine l_iload C 4 dL_law_394 rfl ?_
    refine l_iald (q0 := 0) (N := 4) (F := F) C dL_law_396 rfl ⟨by omega, by omega, by omega⟩ ?_
    refine l_icmp_ne (tgt := 413) C dL_law_397 (by decide) ⟨⟨by constructor <;> omega, by constructor <;> omega⟩, fun c => absurd fk.symm c, fun _ => ?_⟩
    refine l_aload_n C 0 dL_law_400 rfl ?_
    refine l_iload C 4 dL_law_401 rfl ?_
    refine l_bipush (x := 7) C dL_law_403 (by decide) ?_
    refine o_call (G := GA ad cA D) (σ := σ) (X := [(qt, .inl (cA 0, 4, .inl fun j : Nat => Int32.ofInt (F (j : Int))))]) (o := 0) (As := [vI k, vI 7]) (rest := []) (rs := fun r => [vI r]) (nn := 2) C.1 C.2.1 C.2.2.1 C.2.2.2 hE dL_law_405 (x7_told_ct κ.1.2.1 ad cA D k 7 σ) gL_law_X7_told rfl ⟨rfl, rfl⟩ ⟨rfl, by decide +kernel, by decide +kernel, by decide +kernel⟩ ⟨(Nat.le_of_ble_eq_true rfl), (Nat.le_of_ble_eq_true rfl)⟩ shA_0 rfl rfl rfl (Nat.le_of_ble_eq_true rfl) (fun _ => rfl) (l_fit hf.1 hf.2) ?_
    refine S_told7 h hk ?_
    show WN κ D 16 Q n z ([(qt, .inl (cA 0, 4, .inl fun j : Nat => Int32.ofInt (F (j : Int))))] ++ m_cells (GA ad cA D) σ) 408 [(1, .ref (ad 0)), (2, vI N), (3, vI t), (7, .ref qt), (10, vI k)] [vI k]
    refine l_iload C 4 dL_law_408 rfl ?_
    refine l_icmp_eq (tgt := 415) C dL_law_410 (by decide) ⟨⟨by constructor <;> omega, by constructor <;> omega⟩, fun _ => ?_, fun c => absurd rfl c⟩
    refine l_iinc (j := 4) (ls' := [(10, vI (k + 1)), (1, .ref (ad 0)), (2, vI N), (3, vI t), (7, .ref qt)]) C dL_law_415 rfl (by decide) rfl ?_
    refine l_goto (tgt := 379) C dL_law_418 (by decide) ?_
    refine l_perm [1, 2, 3, 4, 0] rfl ?_
    exact ih (k + 1) σ h (by omega) (by omega) (by omega)
set_option maxRecDepth 20000 in
theorem w_311 {κ : KT} {cA : Nat → ClassId} {D : va_G} {Q : State → Prop} {n z : Nat} (C : CL κ cA D) {ad : Nat → Nat} (hE : m_ext ad κ.2.2 κ.1.2.2.2.2 κ.1.2.2.2.2.heap) (hf : n ≤ 600000 ∧ z ≤ 7302249) (hend : ∀ (ws : va_W) (ls : List (Nat × Value)), WN κ D 16 Q n z ws 610 ls []) {qt : Nat} {F : Int → Int} {N : Int} {J : JT} {T : Int → Int} {t : Int} (ht : 1 ≤ t ∧ t ≤ 900) (hN4 : N ≤ 4) (hT : ∀ k, q_in N k → F k = T k) {b fw ls : Int} {σ : Mem} (h : St N J T σ) (hb : q_bst (q_isRow N) (q_rp J T t) (q_rd J T t) b) (hfl : b ≠ -1 → fw = q_rp J T t b ∧ ls = q_rd J T t b) : WN κ D 16 Q n z ([(qt, .inl (cA 0, 4, .inl fun j : Nat => Int32.ofInt (F (j : Int))))] ++ m_cells (GA ad cA D) σ) 311 [(1, .ref (ad 0)), (2, vI N), (3, vI t), (4, vI b), (5, vI fw), (6, vI ls), (7, .ref qt)] [] := by
  have hn := h.n
  have h6 : N ≠ 6 := by omega
  have px := q_rp_rg J T t b
  have jn := h.J
  have bd : b = -1 ∨ (0 ≤ b ∧ b < 10000 ∧ -1200 ≤ q_rd J T t b ∧ q_rd J T t b ≤ 1200) := by
    rcases hb with q | q
    · exact Or.inl q.1
    · have rd := q_rd_bd (j := J) (tu := T) (t := t) (x := b) (by rw [jn]; exact hn) (fun k hk => h.tu (by rw [jn] at hk; exact hk)) (by rw [jn]; exact q.2.1) q.2.2.1
      exact Or.inr ⟨q.1, z_lt (by omega) q.2.1, rd.2⟩
  by_cases wb : b = -1
  · refine l_aload_n C 0 dL_law_311 rfl ?_
    refine l_iload_n C 2 dL_law_312 rfl ?_
    refine l_iconst (x := 0) C dL_law_313 ?_
    refine o_call (G := GA ad cA D) (σ := σ) (X := [(qt, .inl (cA 0, 4, .inl fun j : Nat => Int32.ofInt (F (j : Int))))]) (o := 0) (As := [vI t, vI 0]) (rest := []) (rs := fun r => [vI r]) (nn := 2) C.1 C.2.1 C.2.2.1 C.2.2.2 hE dL_law_314 (x7_best_ct κ.1.2.1 ad cA D t 0 σ) gL_law_X7_best rfl ⟨rfl, rfl⟩ ⟨rfl, by decide +kernel, by decide +kernel, by decide +kernel⟩ ⟨(Nat.le_of_ble_eq_true rfl), (Nat.le_of_ble_eq_true rfl)⟩ shA_0 rfl rfl rfl (Nat.le_of_ble_eq_true rfl) (fun _ => rfl) (l_fit hf.1 hf.2) ?_
    refine S_best h h6 ht (by omega) (fun s1 b0 h1 hb0 => ?_)
    show WN κ D 16 Q n z ([(qt, .inl (cA 0, 4, .inl fun j : Nat => Int32.ofInt (F (j : Int))))] ++ m_cells (GA ad cA D) s1) 317 [(1, .ref (ad 0)), (2, vI N), (3, vI t), (4, vI b), (5, vI fw), (6, vI ls), (7, .ref qt)] [vI (if b0 = -1 then -100003 else if (0 : Int) = 0 then b0 else if (0 : Int) = 1 then q_rp J T t b0 else q_rd J T t b0)]
    rw [q_bst_un hb0 hb]
    rw [if_pos wb]
    refine l_iload C 3 dL_law_317 rfl ?_
    refine l_if_ge (tgt := 327) C dL_law_319 (by decide) ⟨by constructor <;> omega, fun c => absurd c (by omega), fun _ => ?_⟩
    refine l_ldc (y := -100003) C dL_law_322 wl2_0 rfl ?_
    refine l_goto (tgt := 329) C dL_law_324 (by decide) ?_
    refine l_icmp_ne (tgt := 374) C dL_law_329 (by decide) ⟨⟨by constructor <;> omega, by constructor <;> omega⟩, fun c => absurd rfl c, fun _ => ?_⟩
    refine l_aload_n C 0 dL_law_332 rfl ?_
    refine l_iload_n C 2 dL_law_333 rfl ?_
    refine l_iconst (x := 1) C dL_law_334 ?_
    refine o_call (G := GA ad cA D) (σ := s1) (X := [(qt, .inl (cA 0, 4, .inl fun j : Nat => Int32.ofInt (F (j : Int))))]) (o := 0) (As := [vI t, vI 1]) (rest := []) (rs := fun r => [vI r]) (nn := 2) C.1 C.2.1 C.2.2.1 C.2.2.2 hE dL_law_335 (x7_best_ct κ.1.2.1 ad cA D t 1 s1) gL_law_X7_best rfl ⟨rfl, rfl⟩ ⟨rfl, by decide +kernel, by decide +kernel, by decide +kernel⟩ ⟨(Nat.le_of_ble_eq_true rfl), (Nat.le_of_ble_eq_true rfl)⟩ shA_0 rfl rfl rfl (Nat.le_of_ble_eq_true rfl) (fun _ => rfl) (l_fit hf.1 hf.2) ?_
    refine S_best h1 h6 ht (by omega) (fun s2 b1 h2 hb1 => ?_)
    show WN κ D 16 Q n z ([(qt, .inl (cA 0, 4, .inl fun j : Nat => Int32.ofInt (F (j : Int))))] ++ m_cells (GA ad cA D) s2) 338 [(1, .ref (ad 0)), (2, vI N), (3, vI t), (4, vI b), (5, vI fw), (6, vI ls), (7, .ref qt)] [vI (if b1 = -1 then -100003 else if (1 : Int) = 0 then b1 else if (1 : Int) = 1 then q_rp J T t b1 else q_rd J T t b1)]
    rw [q_bst_un hb1 hb]
    rw [if_pos wb]
    refine l_iload C 3 dL_law_338 rfl ?_
    refine l_if_ge (tgt := 348) C dL_law_340 (by decide) ⟨by constructor <;> omega, fun c => absurd c (by omega), fun _ => ?_⟩
    refine l_ldc (y := -100003) C dL_law_343 wl2_0 rfl ?_
    refine l_goto (tgt := 350) C dL_law_345 (by decide) ?_
    refine l_icmp_ne (tgt := 374) C dL_law_350 (by decide) ⟨⟨by constructor <;> omega, by constructor <;> omega⟩, fun c => absurd rfl c, fun _ => ?_⟩
    refine l_aload_n C 0 dL_law_353 rfl ?_
    refine l_iload_n C 2 dL_law_354 rfl ?_
    refine l_iconst (x := 2) C dL_law_355 ?_
    refine o_call (G := GA ad cA D) (σ := s2) (X := [(qt, .inl (cA 0, 4, .inl fun j : Nat => Int32.ofInt (F (j : Int))))]) (o := 0) (As := [vI t, vI 2]) (rest := []) (rs := fun r => [vI r]) (nn := 2) C.1 C.2.1 C.2.2.1 C.2.2.2 hE dL_law_356 (x7_best_ct κ.1.2.1 ad cA D t 2 s2) gL_law_X7_best rfl ⟨rfl, rfl⟩ ⟨rfl, by decide +kernel, by decide +kernel, by decide +kernel⟩ ⟨(Nat.le_of_ble_eq_true rfl), (Nat.le_of_ble_eq_true rfl)⟩ shA_0 rfl rfl rfl (Nat.le_of_ble_eq_true rfl) (fun _ => rfl) (l_fit hf.1 hf.2) ?_
    refine S_best h2 h6 ht (by omega) (fun s3 b2 h3 hb2 => ?_)
    show WN κ D 16 Q n z ([(qt, .inl (cA 0, 4, .inl fun j : Nat => Int32.ofInt (F (j : Int))))] ++ m_cells (GA ad cA D) s3) 359 [(1, .ref (ad 0)), (2, vI N), (3, vI t), (4, vI b), (5, vI fw), (6, vI ls), (7, .ref qt)] [vI (if b2 = -1 then -100003 else if (2 : Int) = 0 then b2 else if (2 : Int) = 1 then q_rp J T t b2 else q_rd J T t b2)]
    rw [q_bst_un hb2 hb]
    rw [if_pos wb]
    refine l_iload C 3 dL_law_359 rfl ?_
    refine l_if_ge (tgt := 369) C dL_law_361 (by decide) ⟨by constructor <;> omega, fun c => absurd c (by omega), fun _ => ?_⟩
    refine l_ldc (y := -100003) C dL_law_364 wl2_0 rfl ?_
    refine l_goto (tgt := 371) C dL_law_366 (by decide) ?_
    refine l_icmp_eq (tgt := 376) C dL_law_371 (by decide) ⟨⟨by constructor <;> omega, by constructor <;> omega⟩, fun _ => ?_, fun c => absurd rfl c⟩
    refine l_iconst (x := 0) C dL_law_376 ?_
    refine l_istore (ls' := [(10, vI 0), (1, .ref (ad 0)), (2, vI N), (3, vI t), (4, vI b), (5, vI fw), (6, vI ls), (7, .ref qt)]) C dL_law_377 (by decide) rfl ?_
    refine l_perm [1, 2, 3, 7, 0] rfl ?_
    exact w_379 C hE hf hend ht hN4 hT N.toNat 0 s3 h3 (by omega) (by omega) (by omega)
  · obtain ⟨e1, e2⟩ := hfl wb
    refine l_aload_n C 0 dL_law_311 rfl ?_
    refine l_iload_n C 2 dL_law_312 rfl ?_
    refine l_iconst (x := 0) C dL_law_313 ?_
    refine o_call (G := GA ad cA D) (σ := σ) (X := [(qt, .inl (cA 0, 4, .inl fun j : Nat => Int32.ofInt (F (j : Int))))]) (o := 0) (As := [vI t, vI 0]) (rest := []) (rs := fun r => [vI r]) (nn := 2) C.1 C.2.1 C.2.2.1 C.2.2.2 hE dL_law_314 (x7_best_ct κ.1.2.1 ad cA D t 0 σ) gL_law_X7_best rfl ⟨rfl, rfl⟩ ⟨rfl, by decide +kernel, by decide +kernel, by decide +kernel⟩ ⟨(Nat.le_of_ble_eq_true rfl), (Nat.le_of_ble_eq_true rfl)⟩ shA_0 rfl rfl rfl (Nat.le_of_ble_eq_true rfl) (fun _ => rfl) (l_fit hf.1 hf.2) ?_
    refine S_best h h6 ht (by omega) (fun s1 b0 h1 hb0 => ?_)
    show WN κ D 16 Q n z ([(qt, .inl (cA 0, 4, .inl fun j : Nat => Int32.ofInt (F (j : Int))))] ++ m_cells (GA ad cA D) s1) 317 [(1, .ref (ad 0)), (2, vI N), (3, vI t), (4, vI b), (5, vI fw), (6, vI ls), (7, .ref qt)] [vI (if b0 = -1 then -100003 else if (0 : Int) = 0 then b0 else if (0 : Int) = 1 then q_rp J T t b0 else q_rd J T t b0)]
    rw [q_bst_un hb0 hb]
    rw [if_neg wb, if_pos rfl]
    refine l_iload C 3 dL_law_317 rfl ?_
    refine l_if_ge (tgt := 327) C dL_law_319 (by decide) ⟨by constructor <;> omega, fun _ => ?_, fun c => absurd c (by omega)⟩
    refine l_iload C 3 dL_law_327 rfl ?_
    refine l_icmp_ne (tgt := 374) C dL_law_329 (by decide) ⟨⟨by constructor <;> omega, by constructor <;> omega⟩, fun c => absurd rfl c, fun _ => ?_⟩
    refine l_aload_n C 0 dL_law_332 rfl ?_
    refine l_iload_n C 2 dL_law_333 rfl ?_
    refine l_iconst (x := 1) C dL_law_334 ?_
    refine o_call (G := GA ad cA D) (σ := s1) (X := [(qt, .inl (cA 0, 4, .inl fun j : Nat => Int32.ofInt (F (j : Int))))]) (o := 0) (As := [vI t, vI 1]) (rest := []) (rs := fun r => [vI r]) (nn := 2) C.1 C.2.1 C.2.2.1 C.2.2.2 hE dL_law_335 (x7_best_ct κ.1.2.1 ad cA D t 1 s1) gL_law_X7_best rfl ⟨rfl, rfl⟩ ⟨rfl, by decide +kernel, by decide +kernel, by decide +kernel⟩ ⟨(Nat.le_of_ble_eq_true rfl), (Nat.le_of_ble_eq_true rfl)⟩ shA_0 rfl rfl rfl (Nat.le_of_ble_eq_true rfl) (fun _ => rfl) (l_fit hf.1 hf.2) ?_
    refine S_best h1 h6 ht (by omega) (fun s2 b1 h2 hb1 => ?_)
    show WN κ D 16 Q n z ([(qt, .inl (cA 0, 4, .inl fun j : Nat => Int32.ofInt (F (j : Int))))] ++ m_cells (GA ad cA D) s2) 338 [(1, .ref (ad 0)), (2, vI N), (3, vI t), (4, vI b), (5, vI fw), (6, vI ls), (7, .ref qt)] [vI (if b1 = -1 then -100003 else if (1 : Int) = 0 then b1 else if (1 : Int) = 1 then q_rp J T t b1 else q_rd J T t b1)]
    rw [q_bst_un hb1 hb]
    rw [if_neg wb, if_neg (by omega), if_pos rfl]
    refine l_iload C 3 dL_law_338 rfl ?_
    refine l_if_ge (tgt := 348) C dL_law_340 (by decide) ⟨by constructor <;> omega, fun _ => ?_, fun c => absurd c (by omega)⟩
    refine l_iload C 4 dL_law_348 rfl ?_
    refine l_icmp_ne (tgt := 374) C dL_law_350 (by decide) ⟨⟨by constructor <;> omega, by constructor <;> omega⟩, fun c => absurd e1.symm c, fun _ => ?_⟩
    refine l_aload_n C 0 dL_law_353 rfl ?_
    refine l_iload_n C 2 dL_law_354 rfl ?_
    refine l_iconst (x := 2) C dL_law_355 ?_
    refine o_call (G := GA ad cA D) (σ := s2) (X := [(qt, .inl (cA 0, 4, .inl fun j : Nat => Int32.ofInt (F (j : Int))))]) (o := 0) (As := [vI t, vI 2]) (rest := []) (rs := fun r => [vI r]) (nn := 2) C.1 C.2.1 C.2.2.1 C.2.2.2 hE dL_law_356 (x7_best_ct κ.1.2.1 ad cA D t 2 s2) gL_law_X7_best rfl ⟨rfl, rfl⟩ ⟨rfl, by decide +kernel, by decide +kernel, by decide +kernel⟩ ⟨(Nat.le_of_ble_eq_true rfl), (Nat.le_of_ble_eq_true rfl)⟩ shA_0 rfl rfl rfl (Nat.le_of_ble_eq_true rfl) (fun _ => rfl) (l_fit hf.1 hf.2) ?_
    refine S_best h2 h6 ht (by omega) (fun s3 b2 h3 hb2 => ?_)
    show WN κ D 16 Q n z ([(qt, .inl (cA 0, 4, .inl fun j : Nat => Int32.ofInt (F (j : Int))))] ++ m_cells (GA ad cA D) s3) 359 [(1, .ref (ad 0)), (2, vI N), (3, vI t), (4, vI b), (5, vI fw), (6, vI ls), (7, .ref qt)] [vI (if b2 = -1 then -100003 else if (2 : Int) = 0 then b2 else if (2 : Int) = 1 then q_rp J T t b2 else q_rd J T t b2)]
    rw [q_bst_un hb2 hb]
    rw [if_neg wb, if_neg (by omega), if_neg (by omega)]
    refine l_iload C 3 dL_law_359 rfl ?_
    refine l_if_ge (tgt := 369) C dL_law_361 (by decide) ⟨by constructor <;> omega, fun _ => ?_, fun c => absurd c (by omega)⟩
    refine l_iload C 5 dL_law_369 rfl ?_
    refine l_icmp_eq (tgt := 376) C dL_law_371 (by decide) ⟨⟨by constructor <;> omega, by constructor <;> omega⟩, fun _ => ?_, fun c => absurd e2.symm c⟩
    refine l_iconst (x := 0) C dL_law_376 ?_
    refine l_istore (ls' := [(10, vI 0), (1, .ref (ad 0)), (2, vI N), (3, vI t), (4, vI b), (5, vI fw), (6, vI ls), (7, .ref qt)]) C dL_law_377 (by decide) rfl ?_
    refine l_perm [1, 2, 3, 7, 0] rfl ?_
    exact w_379 C hE hf hend ht hN4 hT N.toNat 0 s3 h3 (by omega) (by omega) (by omega)
