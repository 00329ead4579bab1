/-! ===== the law (written by wip/p29/genlaw.py) ===== -/
theorem wl1_0 : Cond.constant RL 57 (-100005) ∈ wsL_law := by decide +kernel
theorem wl1_1 : Cond.constant RL 58 (-100002) ∈ wsL_law := by decide +kernel
theorem wl1_2 : Cond.constant RL 53 (-100003) ∈ wsL_law := by decide +kernel
theorem V_fresh {s : Mem} (h : s 1 0 = 3 ∧ s 1 1 = 9 ∧ s 1 2 = 0) (g : ∀ k, q_in 6 k → s 2 k = 5 ∧ s 3 k = 3 ∧ s 4 k = 0 ∧ s 5 k = 0 ∧ s 6 k = k) : OkA s := by
  have cb : ∀ k, c_br s k = 0 := fun k => by
    unfold c_br
    rw [h.2.2, s_zero]
    rfl
  refine ⟨⟨⟨by omega, by omega, fun k hk => ?_, 0, ⟨by omega, by omega⟩, cb 0⟩, by omega, fun k _ => by rw [h.2.2]; exact s_zero k⟩, fun k hk => ?_⟩
  · have := g k ⟨hk.1, by have := hk.2; omega⟩
    have := cb k
    exact ⟨by omega, by omega, by omega, by omega, by omega⟩
  · have := g k ⟨hk.1, by have := hk.2; omega⟩
    omega
set_option maxRecDepth 20000 in
theorem w_554 {κ : KT} {cA : Nat → ClassId} {D : va_G} {Q : State → Prop} {n z : Nat} (C : CL κ cA D) {ad : Nat → Nat} (hE : m_ext ad κ.2.2 κ.1.2.2.2.2 κ.1.2.2.2.2.heap) (hf : n ≤ 600000 ∧ z ≤ 7302249) (hend : ∀ (ws : va_W) (ls : List (Nat × Value)), WN κ D 16 Q n z ws 610 ls []) {X : va_W} {t : Int} (ht : 1 ≤ t ∧ t ≤ 900) {σ : Mem} (hN : RelN σ) : WN κ D 16 Q n z (X ++ m_cells (GA ad cA D) σ) 554 [(1, .ref (ad 0)), (3, vI t)] [] := by
  refine l_aload_n C 0 dL_law_554 rfl ?_
  refine l_bipush (x := 6) C dL_law_555 (by decide) ?_
  refine l_iconst (x := 2) C dL_law_557 ?_
  refine o_call (G := GA ad cA D) (σ := σ) (X := X) (o := 0) (As := [vI 6, vI 2]) (rest := []) (rs := fun r => [vI r]) (nn := 2) C.1 C.2.1 C.2.2.1 C.2.2.2 hE dL_law_558 (x7_joint_ct κ.1.2.1 ad cA D 6 2 σ) gL_law_X7_joint rfl ⟨rfl, rfl⟩ ⟨rfl, by decide +kernel, by decide +kernel, by decide +kernel⟩ ⟨(Nat.le_of_ble_eq_true rfl), (Nat.le_of_ble_eq_true rfl)⟩ shA_0 rfl rfl rfl (Nat.le_of_ble_eq_true rfl) (fun _ => rfl) (l_fit hf.1 hf.2) ?_
  refine V_joint (by omega) (by omega) (fun s1 a1 a2 a3 => ?_)
  show WN κ D 16 Q n z (X ++ m_cells (GA ad cA D) s1) 561 [(1, .ref (ad 0)), (3, vI t)] [vI 6]
  refine l_bipush (x := 6) C dL_law_561 (by decide) ?_
  refine l_icmp_ne (tgt := 614) C dL_law_563 (by decide) ⟨⟨by omega, by omega⟩, fun c => absurd rfl c, fun _ => ?_⟩
  refine l_aload_n C 0 dL_law_566 rfl ?_
  refine l_iload_n C 1 dL_law_567 rfl ?_
  refine l_iconst (x := 0) C dL_law_568 ?_
  refine o_call (G := GA ad cA D) (σ := s1) (X := X) (o := 0) (As := [vI t, vI 0]) (rest := []) (rs := fun r => [vI r]) (nn := 2) C.1 C.2.1 C.2.2.1 C.2.2.2 hE dL_law_569 (x7_best_ct κ.1.2.1 ad cA D t 0 s1) gL_law_X7_best rfl ⟨rfl, rfl⟩ ⟨rfl, by decide +kernel, by decide +kernel, by decide +kernel⟩ ⟨(Nat.le_of_ble_eq_true rfl), (Nat.le_of_ble_eq_true rfl)⟩ shA_0 rfl rfl rfl (Nat.le_of_ble_eq_true rfl) (fun _ => rfl) (l_fit hf.1 hf.2) ?_
  refine V_best6 a1.1 ht (by omega) ?_
  show WN κ D 16 Q n z (X ++ m_cells (GA ad cA D) s1) 572 [(1, .ref (ad 0)), (3, vI t)] [vI (-100005)]
  refine l_ldc (y := -100005) C dL_law_572 wl1_0 rfl ?_
  refine l_icmp_ne (tgt := 614) C dL_law_574 (by decide) ⟨⟨by omega, by omega⟩, fun c => absurd rfl c, fun _ => ?_⟩
  refine l_aload_n C 0 dL_law_577 rfl ?_
  refine l_iconst (x := 0) C dL_law_578 ?_
  refine l_iconst (x := 0) C dL_law_579 ?_
  refine o_call (G := GA ad cA D) (σ := s1) (X := X) (o := 0) (As := [vI 0, vI 0]) (rest := []) (rs := fun r => [vI r]) (nn := 2) C.1 C.2.1 C.2.2.1 C.2.2.2 hE dL_law_580 (x7_best_ct κ.1.2.1 ad cA D 0 0 s1) gL_law_X7_best rfl ⟨rfl, rfl⟩ ⟨rfl, by decide +kernel, by decide +kernel, by decide +kernel⟩ ⟨(Nat.le_of_ble_eq_true rfl), (Nat.le_of_ble_eq_true rfl)⟩ shA_0 rfl rfl rfl (Nat.le_of_ble_eq_true rfl) (fun _ => rfl) (l_fit hf.1 hf.2) ?_
  refine V_best0 (by omega) (by omega) ?_
  show WN κ D 16 Q n z (X ++ m_cells (GA ad cA D) s1) 583 [(1, .ref (ad 0)), (3, vI t)] [vI (-100002)]
  refine l_ldc (y := -100002) C dL_law_583 wl1_1 rfl ?_
  refine l_icmp_ne (tgt := 614) C dL_law_585 (by decide) ⟨⟨by omega, by omega⟩, fun c => absurd rfl c, fun _ => ?_⟩
  refine l_aload_n C 0 dL_law_588 rfl ?_
  refine l_iconst (x := 3) C dL_law_589 ?_
  refine l_bipush (x := 9) C dL_law_590 (by decide) ?_
  refine o_call (G := GA ad cA D) (σ := s1) (X := X) (o := 0) (As := [vI 3, vI 9]) (rest := []) (rs := fun r => [vI r]) (nn := 2) C.1 C.2.1 C.2.2.1 C.2.2.2 hE dL_law_592 (x7_joint_ct κ.1.2.1 ad cA D 3 9 s1) gL_law_X7_joint rfl ⟨rfl, rfl⟩ ⟨rfl, by decide +kernel, by decide +kernel, by decide +kernel⟩ ⟨(Nat.le_of_ble_eq_true rfl), (Nat.le_of_ble_eq_true rfl)⟩ shA_0 rfl rfl rfl (Nat.le_of_ble_eq_true rfl) (fun _ => rfl) (l_fit hf.1 hf.2) ?_
  refine V_joint (by omega) (by omega) (fun s2 b1 b2 b3 => ?_)
  show WN κ D 16 Q n z (X ++ m_cells (GA ad cA D) s2) 595 [(1, .ref (ad 0)), (3, vI t)] [vI 3]
  refine l_iconst (x := 3) C dL_law_595 ?_
  refine l_icmp_ne (tgt := 614) C dL_law_596 (by decide) ⟨⟨by omega, by omega⟩, fun c => absurd rfl c, fun _ => ?_⟩
  have okf := V_fresh b1 b2
  have hN2 : RelN s2 := by
    unfold RelN
    rw [b3, a3]
    exact hN
  refine l_aload_n C 0 dL_law_599 rfl ?_
  refine l_iconst (x := 1) C dL_law_600 ?_
  refine l_iconst (x := 1) C dL_law_601 ?_
  refine o_call (G := GA ad cA D) (σ := s2) (X := X) (o := 0) (As := [vI 1, vI 1]) (rest := []) (rs := fun r => [vI r]) (nn := 2) C.1 C.2.1 C.2.2.1 C.2.2.2 hE dL_law_602 (x7_best_ct κ.1.2.1 ad cA D 1 1 s2) gL_law_X7_best rfl ⟨rfl, rfl⟩ ⟨rfl, by decide +kernel, by decide +kernel, by decide +kernel⟩ ⟨(Nat.le_of_ble_eq_true rfl), (Nat.le_of_ble_eq_true rfl)⟩ shA_0 rfl rfl rfl (Nat.le_of_ble_eq_true rfl) (fun _ => rfl) (l_fit hf.1 hf.2) ?_
  refine V_best okf hN2 (by omega) (by omega) (by omega) (fun s3 b f3 ok3 e3 hb => ?_)
  show WN κ D 16 Q n z (X ++ m_cells (GA ad cA D) s3) 605 [(1, .ref (ad 0)), (3, vI t)] [vI (if b = -1 then -100003 else if (1 : Int) = 0 then b else if (1 : Int) = 1 then q_rp (jA s2 5) (tA s2) 1 b else q_rd (jA s2 5) (tA s2) 1 b)]
  refine l_topI (fun v hv => ?_)
  have hv2 : -100003 ≤ v ∧ v ≤ 20 := by
    have px := q_rp_rg (jA s2 5) (tA s2) 1 b
    by_cases w : b = -1
    · rw [if_pos w] at hv
      omega
    · rw [if_neg w, if_neg (by omega), if_pos rfl] at hv
      omega
  refine l_ldc (y := -100003) C dL_law_605 wl1_2 rfl ?_
  refine l_icmp_lt (tgt := 614) C dL_law_607 (by decide) ⟨⟨by constructor <;> omega, by constructor <;> omega⟩, fun c => absurd c (by omega), fun _ => ?_⟩
  exact hend _ _
set_option maxRecDepth 20000 in
theorem w_509 {κ : KT} {cA : Nat → ClassId} {D : va_G} {Q : State → Prop} {n z : Nat} (C : CL κ cA D) {ad : Nat → Nat} (hE : m_ext ad κ.2.2 κ.1.2.2.2.2 κ.1.2.2.2.2.heap) (hf : n ≤ 600000 ∧ z ≤ 7302249) (hend : ∀ (ws : va_W) (ls : List (Nat × Value)), WN κ D 16 Q n z ws 610 ls []) {X : va_W} {N : Int} {J : JT} {U : Int → Int} {t ev p : Int} (ht : 1 ≤ t ∧ t ≤ 900) (ip : InI p) (h0 : ¬ (q_evn J t 1202 (q_zer J U)).1 = 0) (hev : ∀ k, q_in N k → 0 ≤ (q_evn J t 1202 (q_zer J U)).2 k ∧ (q_evn J t 1202 (q_zer J U)).2 k ≤ 200) (hp : 0 ≤ p → ∀ k, q_in N k → (q_evn J t 1202 (q_zer J U)).2 k ≤ U k) : ∀ (m : Nat) (k : Int) (σ : Mem), St N J U σ → 0 ≤ k → k ≤ N → (N - k).toNat = m → WN κ D 16 Q n z (X ++ m_cells (GA ad cA D) σ) 509 [(1, .ref (ad 0)), (2, vI N), (3, vI t), (10, vI ev), (11, vI p), (12, vI k)] [] := by
  intro m
  induction m with
  | zero =>
    intro k σ h k0 k1 hm
    have hn := h.n
    refine l_iload C 5 dL_law_509 rfl ?_
    refine l_iload_n C 1 dL_law_511 rfl ?_
    refine l_icmp_ge (tgt := 554) C dL_law_512 (by decide) ⟨⟨by constructor <;> omega, by constructor <;> omega⟩, fun _ => ?_, fun c => absurd c (by omega)⟩
    refine l_perm [0, 2] rfl ?_
    exact w_554 C hE hf hend ht h.2.1
  | succ m ih =>
    intro k σ h k0 k1 hm
    have hn := h.n
    have hk : q_in N k := ⟨k0, by omega⟩
    have eb := hev k hk
    have tb := h.tu hk
    refine l_iload C 5 dL_law_509 rfl ?_
    refine l_iload_n C 1 dL_law_511 rfl ?_
    refine l_icmp_ge (tgt := 554) C dL_law_512 (by decide) ⟨⟨by constructor <;> omega, by constructor <;> omega⟩, fun c => absurd c (by omega), fun _ => ?_⟩
    refine l_aload_n C 0 dL_law_515 rfl ?_
    refine l_iload_n C 2 dL_law_516 rfl ?_
    refine l_iload C 5 dL_law_517 rfl ?_
    refine o_call (G := GA ad cA D) (σ := σ) (X := X) (o := 0) (As := [vI t, vI k]) (rest := []) (rs := fun r => [vI r]) (nn := 2) C.1 C.2.1 C.2.2.1 C.2.2.2 hE dL_law_519 (x7_even_ct κ.1.2.1 ad cA D t k σ) gL_law_X7_even rfl ⟨rfl, rfl⟩ ⟨rfl, by decide +kernel, by decide +kernel, by decide +kernel⟩ ⟨(Nat.le_of_ble_eq_true rfl), (Nat.le_of_ble_eq_true rfl)⟩ shA_0 rfl rfl rfl (Nat.le_of_ble_eq_true rfl) (fun _ => rfl) (l_fit hf.1 hf.2) ?_
    refine S_even h ht (Or.inr hk) (fun s1 h1 => ?_)
    show WN κ D 16 Q n z (X ++ m_cells (GA ad cA D) s1) 522 [(1, .ref (ad 0)), (2, vI N), (3, vI t), (10, vI ev), (11, vI p), (12, vI k)] [vI (if (q_evn J t 1202 (q_zer J U)).1 = 0 then -100003 else if k = -1 then q_sum (q_evn J t 1202 (q_zer J U)).2 N.toNat else (q_evn J t 1202 (q_zer J U)).2 k)]
    rw [if_neg h0, if_neg (by omega)]
    refine l_topI (fun v hv => ?_)
    refine l_istore (ls' := [(13, vI v), (1, .ref (ad 0)), (2, vI N), (3, vI t), (10, vI ev), (11, vI p), (12, vI k)]) C dL_law_522 (by decide) rfl ?_
    refine l_iload C 0 dL_law_524 rfl ?_
    refine l_if_lt (tgt := 546) C dL_law_526 (by decide) ⟨by constructor <;> omega, fun c => absurd c (by omega), fun _ => ?_⟩
    refine l_iload C 5 dL_law_529 rfl ?_
    refine l_if_lt (tgt := 548) C dL_law_531 (by decide) ⟨by constructor <;> omega, fun c => ?_, fun c => ?_⟩
    · refine l_iinc (j := 6) (ls' := [(12, vI (k + 1)), (13, vI v), (1, .ref (ad 0)), (2, vI N), (3, vI t), (10, vI ev), (11, vI p)]) C dL_law_548 rfl (by decide) rfl ?_
      refine l_goto (tgt := 509) C dL_law_551 (by decide) ?_
      refine l_perm [2, 3, 4, 5, 6, 0] rfl ?_
      exact ih (k + 1) s1 h1 (by omega) (by omega) (by omega)
    · refine l_iload C 0 dL_law_534 rfl ?_
      refine l_aload_n C 1 dL_law_536 rfl ?_
      refine l_iload C 6 dL_law_537 rfl ?_
      refine l_iconst (x := 2) C dL_law_539 ?_
      refine o_call (G := GA ad cA D) (σ := s1) (X := X) (o := 0) (As := [vI k, vI 2]) (rest := [vI v]) (rs := fun r => [vI r]) (nn := 2) C.1 C.2.1 C.2.2.1 C.2.2.2 hE dL_law_540 (x7_told_ct κ.1.2.1 ad cA D k 2 s1) gL_law_X7_told rfl ⟨rfl, rfl⟩ ⟨rfl, by decide +kernel, by decide +kernel, by decide +kernel⟩ ⟨(Nat.le_of_ble_eq_true rfl), (Nat.le_of_ble_eq_true rfl)⟩ shA_0 rfl rfl rfl (Nat.le_of_ble_eq_true rfl) (fun _ => rfl) (l_fit hf.1 hf.2) ?_
      refine S_told2 h1 hk ?_
      show WN κ D 16 Q n z (X ++ m_cells (GA ad cA D) s1) 543 [(13, vI v), (1, .ref (ad 0)), (2, vI N), (3, vI t), (10, vI ev), (11, vI p), (12, vI k)] [vI (U k), vI v]
      have le := hp c k hk
      refine l_icmp_le (tgt := 548) C dL_law_543 (by decide) ⟨⟨by constructor <;> omega, by constructor <;> omega⟩, fun _ => ?_, fun c => absurd c (by omega)⟩
      refine l_iinc (j := 6) (ls' := [(12, vI (k + 1)), (13, vI v), (1, .ref (ad 0)), (2, vI N), (3, vI t), (10, vI ev), (11, vI p)]) C dL_law_548 rfl (by decide) rfl ?_
      refine l_goto (tgt := 509) C dL_law_551 (by decide) ?_
      refine l_perm [2, 3, 4, 5, 6, 0] rfl ?_
      exact ih (k + 1) s1 h1 (by omega) (by omega) (by omega)
set_option maxRecDepth 20000 in
theorem w_472 {κ : KT} {cA : Nat → ClassId} {D : va_G} {Q : State → Prop} {n z : Nat} (C : CL κ cA D) {ad : Nat → Nat} (hE : m_ext ad κ.2.2 κ.1.2.2.2.2 κ.1.2.2.2.2.heap) (hf : n ≤ 600000 ∧ z ≤ 7302249) (hend : ∀ (ws : va_W) (ls : List (Nat × Value)), WN κ D 16 Q n z ws 610 ls []) {X : va_W} {N : Int} {J : JT} {T : Int → Int} {t ev : Int} (ht : 1 ≤ t ∧ t ≤ 900) {σ : Mem} (h : St N J (q_zer J T) σ) (hev : ev = if (q_evn J t 1202 (q_zer J T)).1 = 0 then -100003 else q_sum (q_evn J t 1202 (q_zer J T)).2 N.toNat) : WN κ D 16 Q n z (X ++ m_cells (GA ad cA D) σ) 472 [(1, .ref (ad 0)), (2, vI N), (3, vI t), (10, vI ev)] [] := by
  have hn := h.n
  have jn := h.J
  have zt := e_zer_zer J T
  have eb := q_evn_tu (j := J) (t := t) (by rw [jn]; exact hn) 1202 (q_zer J T) (fun k hk => h.tu (by rw [jn] at hk; exact hk))
  rw [jn] at eb
  have sb : 0 ≤ q_sum (q_evn J t 1202 (q_zer J T)).2 N.toNat ∧ q_sum (q_evn J t 1202 (q_zer J T)).2 N.toNat ≤ 1200 := q_sum_tu (by omega) (fun k hk => eb.1 k ⟨hk.1, by have := hk.2; omega⟩)
  have evb : InI ev := by
    rw [hev]
    split <;> constructor <;> omega
  refine l_aload_n C 0 dL_law_472 rfl ?_
  refine l_iload_n C 2 dL_law_473 rfl ?_
  refine o_call (G := GA ad cA D) (σ := σ) (X := X) (o := 0) (As := [vI t]) (rest := []) (rs := fun r => [vI r]) (nn := 1) C.1 C.2.1 C.2.2.1 C.2.2.2 hE dL_law_474 (x7_passes_ct κ.1.2.1 ad cA D t σ) gL_law_X7_passes rfl ⟨rfl, rfl⟩ ⟨rfl, by decide +kernel, by decide +kernel, by decide +kernel⟩ ⟨(Nat.le_of_ble_eq_true rfl), (Nat.le_of_ble_eq_true rfl)⟩ shA_0 rfl rfl rfl (Nat.le_of_ble_eq_true rfl) (fun _ => rfl) (l_fit hf.1 hf.2) ?_
  refine S_passes h ht (fun c s1 h1 => ?_) (fun c s1 h1 => ?_)
  · show WN κ D 16 Q n z (X ++ m_cells (GA ad cA D) s1) 477 [(1, .ref (ad 0)), (2, vI N), (3, vI t), (10, vI ev)] [vI (q_rnd J (q_id N) t 20 0 (q_zer J T) 0).1]
    have em := e_main (j := J) (t := t) (by rw [jn]; exact hn) 20 0 (q_zer J T) 0 1202 (by omega) (by omega) (fun k hk => h.tu (by rw [jn] at hk; exact hk)) (by rw [jn]; exact c)
    rw [jn] at em
    have rb := q_rnd_rg (j := J) (row := q_id N) (t := t) 20 0 (q_zer J T) 0
    refine l_topI (fun p hp => ?_)
    have pb : 0 ≤ p ∧ p ≤ 20 := by omega
    have e1 : (q_evn J t 1202 (q_zer J T)).1 = 1 := by rw [em]
    have e2 : (q_evn J t 1202 (q_zer J T)).2 = (q_rnd J (q_id N) t 20 0 (q_zer J T) 0).2.1 := by rw [em]
    rw [e1, if_neg (by omega), e2] at hev
    rw [e2] at sb
    refine l_istore (ls' := [(11, vI p), (1, .ref (ad 0)), (2, vI N), (3, vI t), (10, vI ev)]) C dL_law_477 (by decide) rfl ?_
    refine l_iload C 0 dL_law_479 rfl ?_
    refine l_if_lt (tgt := 501) C dL_law_481 (by decide) ⟨by constructor <;> omega, fun c => absurd c (by omega), fun _ => ?_⟩
    refine l_iload C 4 dL_law_484 rfl ?_
    refine l_if_lt (tgt := 499) C dL_law_486 (by decide) ⟨by constructor <;> omega, fun c => absurd c (by omega), fun _ => ?_⟩
    refine l_iload C 4 dL_law_489 rfl ?_
    refine l_aload_n C 1 dL_law_491 rfl ?_
    refine l_iconst (x := 4) C dL_law_492 ?_
    refine o_call (G := GA ad cA D) (σ := s1) (X := X) (o := 0) (As := [vI 4]) (rest := [vI ev]) (rs := fun r => [vI r]) (nn := 1) C.1 C.2.1 C.2.2.1 C.2.2.2 hE dL_law_493 (x7_count_ct κ.1.2.1 ad cA D 4 s1) gL_law_X7_count rfl ⟨rfl, rfl⟩ ⟨rfl, by decide +kernel, by decide +kernel, by decide +kernel⟩ ⟨(Nat.le_of_ble_eq_true rfl), (Nat.le_of_ble_eq_true rfl)⟩ shA_0 rfl rfl rfl (Nat.le_of_ble_eq_true rfl) (fun _ => rfl) (l_fit hf.1 hf.2) ?_
    refine S_count4 h1 ?_
    show WN κ D 16 Q n z (X ++ m_cells (GA ad cA D) s1) 496 [(11, vI p), (1, .ref (ad 0)), (2, vI N), (3, vI t), (10, vI ev)] [vI (q_sum (q_rnd J (q_id N) t 20 0 (q_zer J T) 0).2.1 N.toNat), vI ev]
    refine l_icmp_le (tgt := 501) C dL_law_496 (by decide) ⟨⟨by constructor <;> omega, by constructor <;> omega⟩, fun _ => ?_, fun c => absurd c (by omega)⟩
    refine l_iload C 4 dL_law_501 rfl ?_
    refine l_if_lt (tgt := 554) C dL_law_503 (by decide) ⟨by constructor <;> omega, fun c => absurd c (by omega), fun _ => ?_⟩
    have hz : q_zer J (q_rnd J (q_id N) t 20 0 (q_zer J T) 0).2.1 = q_zer J T := by
      rw [← zt]
      refine e_zer_congr (fun i hi => ?_)
      rw [zt]
      exact e_rnd_keep (by rw [jn]; omega) (by rw [jn]; exact q_id_row) hi 20 0 _ 0
    refine l_iconst (x := 0) C dL_law_506 ?_
    refine l_istore (ls' := [(12, vI 0), (11, vI p), (1, .ref (ad 0)), (2, vI N), (3, vI t), (10, vI ev)]) C dL_law_507 (by decide) rfl ?_
    refine l_perm [2, 3, 4, 5, 1, 0] rfl ?_
    refine w_509 C hE hf hend ht (by constructor <;> omega) ?_ ?_ ?_ N.toNat 0 s1 h1 (by omega) (by omega) (by omega)
    · rw [hz, e1]
      omega
    · rw [hz]
      exact eb.1
    · rw [hz]
      intro _ k _
      rw [e2]
      exact Int.le_refl _
  · show WN κ D 16 Q n z (X ++ m_cells (GA ad cA D) s1) 477 [(1, .ref (ad 0)), (2, vI N), (3, vI t), (10, vI ev)] [vI (-100003)]
    refine l_istore (ls' := [(11, vI (-100003)), (1, .ref (ad 0)), (2, vI N), (3, vI t), (10, vI ev)]) C dL_law_477 (by decide) rfl ?_
    refine l_iload C 0 dL_law_479 rfl ?_
    refine l_if_lt (tgt := 501) C dL_law_481 (by decide) ⟨by constructor <;> omega, fun _ => ?_, fun c => absurd c (by omega)⟩
    refine l_iload C 4 dL_law_501 rfl ?_
    refine l_if_lt (tgt := 554) C dL_law_503 (by decide) ⟨by constructor <;> omega, fun c => ?_, fun c => ?_⟩
    · refine l_perm [1, 3] rfl ?_
      exact w_554 C hE hf hend ht h1.2.1
    · refine l_iconst (x := 0) C dL_law_506 ?_
      refine l_istore (ls' := [(12, vI 0), (11, vI (-100003)), (1, .ref (ad 0)), (2, vI N), (3, vI t), (10, vI ev)]) C dL_law_507 (by decide) rfl ?_
      refine l_perm [2, 3, 4, 5, 1, 0] rfl ?_
      have h0 : ¬ (q_evn J t 1202 (q_zer J T)).1 = 0 := fun w => by
        rw [if_pos w] at hev
        omega
      exact w_509 C hE hf hend ht (by constructor <;> omega) (by rw [zt]; exact h0) (by rw [zt]; exact eb.1) (fun w => absurd w (by omega)) N.toNat 0 s1 h1 (by omega) (by omega) (by omega)
