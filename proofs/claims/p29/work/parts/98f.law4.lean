/-! ===== the law (written by wip/p29/genlaw.py) ===== -/

theorem z_en {N en y : Int} (hen : (N = 3 ∧ en = 1000) ∨ (N = 4 ∧ en = 10000)) (h : q_isRow N y) : y < en := by
  have h1 := h.1
  have h2 := h.2.1
  rcases hen with ⟨q, e⟩ | ⟨q, e⟩ <;> subst q <;> subst e
  · have h3 : q_quo y 3 = 0 := h2
    simp only [q_quo] at h3
    omega
  · have h3 : q_quo y 4 = 0 := h2
    simp only [q_quo] at h3
    omega
theorem z_q0 {N en x : Int} (hen : (N = 3 ∧ en = 1000) ∨ (N = 4 ∧ en = 10000)) (h0 : 0 ≤ x) (h : x < en) : q_quo x N.toNat = 0 := by
  rcases hen with ⟨q, e⟩ | ⟨q, e⟩ <;> subst q <;> subst e
  · show q_quo x 3 = 0
    simp only [q_quo]
    omega
  · show q_quo x 4 = 0
    simp only [q_quo]
    omega
set_option maxRecDepth 20000 in
theorem w_154 {κ : KT} {cA : Nat → ClassId} {D : va_G} {Q : State → Prop} {n z : Nat} (C : CL κ cA D) {ws : va_W} {b0 o qt : Nat} {N t b fw ls al en x : Int} (hN : 3 ≤ N ∧ N ≤ 6) (hx : 0 ≤ x ∧ x < 10000) (cont : WN κ D 16 Q n z ws 185 [(0, .ref b0), (1, .ref o), (2, vI N), (3, vI t), (4, vI b), (5, vI fw), (6, vI ls), (7, .ref qt), (8, vI al), (9, vI en), (10, vI x), (12, vI (q_msk x N.toNat))] []) : ∀ (m : Nat) (k : Int), 0 ≤ k → k ≤ N → (N - k).toNat = m → WN κ D 16 Q n z (ws) 154 [(0, .ref b0), (1, .ref o), (2, vI N), (3, vI t), (4, vI b), (5, vI fw), (6, vI ls), (7, .ref qt), (8, vI al), (9, vI en), (10, vI x), (11, vI (q_quo x k.toNat)), (12, vI (q_msk x k.toNat)), (13, vI k)] [] := by
  intro m
  induction m with
  | zero =>
    intro k k0 k1 hm
    have ek : k = N := by omega
    rw [ek]
    refine l_iload C 13 dL_law_154 rfl ?_
    refine l_iload_n C 2 dL_law_156 rfl ?_
    refine l_icmp_ge (tgt := 185) C dL_law_157 (by decide) ⟨⟨by constructor <;> omega, by constructor <;> omega⟩, fun _ => ?_, fun c => absurd c (by omega)⟩
    refine l_perm [0, 1, 2, 3, 4, 5, 6, 7, 8, 9, 10, 12] rfl ?_
    exact cont
  | succ m ih =>
    intro k k0 k1 hm
    have qb := q_quo_nn hx.1 k.toNat
    have e1 : Int.tdiv (q_quo x k.toNat) 10 = q_quo x (k + 1).toNat := by
      rw [(q_td qb.1).2, show (k + 1).toNat = k.toNat + 1 by omega]
      rfl
    have e2 : orI (q_msk x k.toNat) (shlI 1 (Int.tmod (q_quo x k.toNat) 10)) = q_msk x (k + 1).toNat := by
      rw [(q_td qb.1).1, show (k + 1).toNat = k.toNat + 1 by omega]
      rfl
    refine l_iload C 13 dL_law_154 rfl ?_
    refine l_iload_n C 2 dL_law_156 rfl ?_
    refine l_icmp_ge (tgt := 185) C dL_law_157 (by decide) ⟨⟨by constructor <;> omega, by constructor <;> omega⟩, fun c => absurd c (by omega), fun _ => ?_⟩
    refine l_iload C 12 dL_law_160 rfl ?_
    refine l_iconst (x := 1) C dL_law_162 ?_
    refine l_iload C 11 dL_law_163 rfl ?_
    refine l_bipush (x := 10) C dL_law_165 (by decide) ?_
    refine l_irem C dL_law_167 ⟨⟨by constructor <;> omega, by constructor <;> omega, by omega⟩, ?_⟩
    refine l_ishl C dL_law_168 ?_
    refine l_ior C dL_law_169 ?_
    refine l_istore (ls' := [(12, vI (orI (q_msk x k.toNat) (shlI 1 (Int.tmod (q_quo x k.toNat) 10)))), (0, .ref b0), (1, .ref o), (2, vI N), (3, vI t), (4, vI b), (5, vI fw), (6, vI ls), (7, .ref qt), (8, vI al), (9, vI en), (10, vI x), (11, vI (q_quo x k.toNat)), (13, vI k)]) C dL_law_170 (by decide) rfl ?_
    refine l_iload C 12 dL_law_172 rfl ?_
    refine l_bipush (x := 10) C dL_law_174 (by decide) ?_
    refine l_idiv C dL_law_176 ⟨⟨by constructor <;> omega, by constructor <;> omega, by omega⟩, ?_⟩
    refine l_istore (ls' := [(11, vI (Int.tdiv (q_quo x k.toNat) 10)), (12, vI (orI (q_msk x k.toNat) (shlI 1 (Int.tmod (q_quo x k.toNat) 10)))), (0, .ref b0), (1, .ref o), (2, vI N), (3, vI t), (4, vI b), (5, vI fw), (6, vI ls), (7, .ref qt), (8, vI al), (9, vI en), (10, vI x), (13, vI k)]) C dL_law_177 (by decide) rfl ?_
    refine l_iinc (j := 13) (ls' := [(13, vI (k + 1)), (11, vI (Int.tdiv (q_quo x k.toNat) 10)), (12, vI (orI (q_msk x k.toNat) (shlI 1 (Int.tmod (q_quo x k.toNat) 10)))), (0, .ref b0), (1, .ref o), (2, vI N), (3, vI t), (4, vI b), (5, vI fw), (6, vI ls), (7, .ref qt), (8, vI al), (9, vI en), (10, vI x)]) C dL_law_179 rfl (by decide) rfl ?_
    refine l_goto (tgt := 154) C dL_law_182 (by decide) ?_
    refine l_perm [3, 4, 5, 6, 7, 8, 9, 10, 11, 12, 13, 1, 2, 0] rfl ?_
    rw [e1, e2]
    exact ih (k + 1) (by omega) (by omega) (by omega)
theorem in_L_X7 : ∀ w ∈ u_ws RX7 TX7 8, w ∈ wsL_law := by decide +kernel
theorem v_w0 : Cond.classLink RL 20 RX7 ∈ wsL_law := by decide +kernel
theorem v_w1 : Cond.instantiable RX7 8 ∈ wsL_law := by decide +kernel
theorem v_w2 : Cond.initialized RX7 ∈ wsL_law := by decide +kernel
theorem v_w6 : Cond.methodLink RL 32 yX7_init ∈ wsL_law := by decide +kernel
theorem v_w7 : Cond.instanceMethod yX7_init ∈ wsL_law := by decide +kernel
theorem v_w8 : Cond.arrayClass .int ∈ wsL_law := by decide +kernel
set_option maxRecDepth 20000 in
theorem w_137 {κ : KT} {cA : Nat → ClassId} {D : va_G} {Q : State → Prop} (C : CL κ cA D) {adS ad : Nat → Nat} (hS : m_ext adS κ.2.2 κ.1.2.2.2.2 κ.1.2.2.2.2.heap) (hE : m_ext ad κ.2.2 κ.1.2.2.2.2 κ.1.2.2.2.2.heap) (hE7 : o_E7 κ.1.2.2.2.2) (hend : ∀ n z : Nat, n ≤ 600000 → z ≤ 7302249 → ∀ (ws : va_W) (ls : List (Nat × Value)), WN κ D 16 Q n z ws 610 ls []) {b0 : Nat} (eb : b0 = adS 1000) {N : Int} (hN : N = 3 ∨ N = 4) {J : JT} {T : Int → Int} (gJ : g_J adS N = J) (gT : g_T adS N = T) {t : Int} (ht : 1 ≤ t ∧ t ≤ 900) {F : Int → Int} {qt : Nat} {al en : Int} (hen : (N = 3 ∧ en = 1000) ∨ (N = 4 ∧ en = 10000)) (hT : ∀ k, q_in N k → F k = T k) (hal : al = q_sum T N.toNat) {n0 z0 : Nat} (hf : n0 + 420000 ≤ 600000 ∧ z0 + 4850000 ≤ 7302249) {σ : Mem} (h : St N J T σ) : ∀ (m : Nat) (x b fw ls : Int), 0 ≤ x → x ≤ en → (en - x).toNat = m → q_bst (fun y => q_isRow N y ∧ y < x) (q_rp J T t) (q_rd J T t) b → (b ≠ -1 → fw = q_rp J T t b ∧ ls = q_rd J T t b) → WN κ D 16 Q (n0 + 42 * x.toNat) (z0 + 485 * x.toNat) ([(qt, .inl (cA 0, 4, .inl fun j : Nat => Int32.ofInt (F (j : Int))))] ++ m_cells (GA ad cA D) σ) 137 [(0, .ref b0), (1, .ref (ad 0)), (2, vI N), (3, vI t), (4, vI b), (5, vI fw), (6, vI ls), (7, .ref qt), (8, vI al), (9, vI en), (10, vI x)] [] := by
  have hn : 3 ≤ N ∧ N ≤ 6 := by omega
  intro m
  induction m with
  | zero =>
    intro x b fw ls x0 x1 hm hb hfl
    refine l_iload C 10 dL_law_137 rfl ?_
    refine l_iload C 9 dL_law_139 rfl ?_
    refine l_icmp_ge (tgt := 311) C dL_law_141 (by decide) ⟨⟨by constructor <;> omega, by constructor <;> omega⟩, fun _ => ?_, fun c => absurd c (by omega)⟩
    refine l_perm [1, 2, 3, 4, 5, 6, 7] rfl ?_
    exact w_311 C hE (by omega) (hend _ _ (by omega) (by omega)) ht (by omega) hT h (q_bst_congr hb (fun y => ⟨fun w => ⟨w, by have := z_en hen w; omega⟩, fun w => w.1⟩)) hfl
  | succ m ih =>
    intro x b fw ls x0 x1 hm hb hfl
    have nxt : ∀ b' f' l' : Int, q_bst (fun y => q_isRow N y ∧ y < x + 1) (q_rp J T t) (q_rd J T t) b' → (b' ≠ -1 → f' = q_rp J T t b' ∧ l' = q_rd J T t b') → WN κ D 16 Q (n0 + 42 * x.toNat + 1 + 41) (z0 + 485 * x.toNat + 8 + 477) ([(qt, .inl (cA 0, 4, .inl fun j : Nat => Int32.ofInt (F (j : Int))))] ++ m_cells (GA ad cA D) σ) 305 [(0, .ref b0), (1, .ref (ad 0)), (2, vI N), (3, vI t), (4, vI b'), (5, vI f'), (6, vI l'), (7, .ref qt), (8, vI al), (9, vI en), (10, vI x)] [] := by
      intro b' f' l' hb' hfl'
      refine l_iinc (j := 10) (ls' := [(10, vI (x + 1)), (0, .ref b0), (1, .ref (ad 0)), (2, vI N), (3, vI t), (4, vI b'), (5, vI f'), (6, vI l'), (7, .ref qt), (8, vI al), (9, vI en)]) C dL_law_305 rfl (by decide) rfl ?_
      refine l_goto (tgt := 137) C dL_law_308 (by decide) ?_
      refine l_perm [1, 2, 3, 4, 5, 6, 7, 8, 9, 10, 0] rfl ?_
      refine l_widen (n' := n0 + 42 * (x + 1).toNat) (z' := z0 + 485 * (x + 1).toNat) (by omega) (by omega) ?_
      exact ih (x + 1) b' f' l' (by omega) (by omega) (by omega) hb' hfl'
    refine l_iload C 10 dL_law_137 rfl ?_
    refine l_iload C 9 dL_law_139 rfl ?_
    refine l_icmp_ge (tgt := 311) C dL_law_141 (by decide) ⟨⟨by constructor <;> omega, by constructor <;> omega⟩, fun c => absurd c (by omega), fun _ => ?_⟩
    refine l_iload C 10 dL_law_144 rfl ?_
    refine l_istore (ls' := [(11, vI x), (0, .ref b0), (1, .ref (ad 0)), (2, vI N), (3, vI t), (4, vI b), (5, vI fw), (6, vI ls), (7, .ref qt), (8, vI al), (9, vI en), (10, vI x)]) C dL_law_146 (by decide) rfl ?_
    refine l_iconst (x := 0) C dL_law_148 ?_
    refine l_istore (ls' := [(12, vI 0), (11, vI x), (0, .ref b0), (1, .ref (ad 0)), (2, vI N), (3, vI t), (4, vI b), (5, vI fw), (6, vI ls), (7, .ref qt), (8, vI al), (9, vI en), (10, vI x)]) C dL_law_149 (by decide) rfl ?_
    refine l_iconst (x := 0) C dL_law_151 ?_
    refine l_istore (ls' := [(13, vI 0), (12, vI 0), (11, vI x), (0, .ref b0), (1, .ref (ad 0)), (2, vI N), (3, vI t), (4, vI b), (5, vI fw), (6, vI ls), (7, .ref qt), (8, vI al), (9, vI en), (10, vI x)]) C dL_law_152 (by decide) rfl ?_
    refine l_perm [3, 4, 5, 6, 7, 8, 9, 10, 11, 12, 13, 2, 1, 0] rfl ?_
    refine w_154 C hn (by omega) ?_ N.toNat 0 (by omega) (by omega) (by omega)
    have mb := (q_msk_bd x N.toNat).1
    have sa := (s_all hn).1
    refine l_iload C 11 dL_law_185 rfl ?_
    refine l_iconst (x := 1) C dL_law_187 ?_
    refine l_iload_n C 2 dL_law_188 rfl ?_
    refine l_ishl C dL_law_189 ?_
    refine l_iconst (x := 1) C dL_law_190 ?_
    refine l_isub C dL_law_191 ?_
    refine l_icmp_ne (tgt := 305) C dL_law_192 (by decide) ⟨⟨by constructor <;> omega, by constructor <;> omega⟩, fun c => ?_, fun c => ?_⟩
    · refine l_widen (n' := n0 + 42 * x.toNat + 1 + 41) (z' := z0 + 485 * x.toNat + 8 + 477) (by omega) (by omega) ?_
      refine l_perm [0, 1, 2, 3, 4, 5, 6, 7, 8, 9, 10] rfl ?_
      refine nxt b fw ls (q_bst_congr hb (fun y => ⟨fun w => ⟨w.1, ?_⟩, fun w => ⟨w.1, by omega⟩⟩)) hfl
      by_cases w2 : y = x
      · rw [w2] at w
        exact absurd w.1.2.2 c
      · omega
    · refine l_perm [0, 1, 2, 3, 4, 5, 6, 7, 8, 9, 10] rfl ?_
      have hr : q_isRow N x := ⟨x0, z_q0 hen x0 (by omega), c⟩
      refine l_new (ci := 7) (fs := [.null, .null, .null, .null, .null, .null, .null, vI 0]) C dL_law_195 rfl in_L_X7 tyX7 tyX7_ok v_w0 v_w1 v_w2 (fun j hj => by rcases (show j = 0 ∨ j = 1 ∨ j = 2 ∨ j = 3 ∨ j = 4 ∨ j = 5 ∨ j = 6 ∨ j = 7 by omega) with rfl | rfl | rfl | rfl | rfl | rfl | rfl | rfl <;> rfl) (by show _ ≤ 600000; omega) (by show _ ≤ 7302249; omega) (fun q => ?_)
      refine l_dup C dL_law_198 rfl ?_
      refine l_init (n := n0 + 42 * x.toNat + 1) (z := z0 + 485 * x.toNat + 8) (st := [.ref q]) (X := [(qt, .inl (cA 0, 4, .inl fun j : Nat => Int32.ofInt (F (j : Int))))] ++ m_cells (GA ad cA D) σ) C dL_law_199 (k_X7 κ.1.2.1 cA D adS q) v_w6 v_w2 v_w7 gL_law_X7_init rfl ⟨rfl, rfl⟩ ⟨by decide +kernel, by decide +kernel, by decide +kernel⟩ rfl ⟨(Nat.le_of_ble_eq_true rfl), (Nat.le_of_ble_eq_true rfl)⟩ o_E7w hE7 hS (Nat.le_of_ble_eq_true rfl) (by show _ ≤ 600000; omega) (by show _ ≤ 7302249; omega) (fun r ρ hI => ?_)
      obtain ⟨c1, c2, c3, c4⟩ := g_cong (o_ad_S adS q r).1 N
      exact w_202 C (ad := o_ad adS q r) (o_ext_ad (o_ad_S adS q r).1 (o_ad_S adS q r).2 hS) (by omega) (eb.trans ((o_ad_S adS q r).1 0).symm) hN (c1.trans gJ) (c2.trans gT) ht (by omega) hr hal hb hfl (z_N hI) nxt
set_option maxRecDepth 20000 in
theorem w_84 {κ : KT} {cA : Nat → ClassId} {D : va_G} {Q : State → Prop} (C : CL κ cA D) {adS ad : Nat → Nat} (hS : m_ext adS κ.2.2 κ.1.2.2.2.2 κ.1.2.2.2.2.heap) (hE : m_ext ad κ.2.2 κ.1.2.2.2.2 κ.1.2.2.2.2.heap) (hE7 : o_E7 κ.1.2.2.2.2) (hend : ∀ n z : Nat, n ≤ 600000 → z ≤ 7302249 → ∀ (ws : va_W) (ls : List (Nat × Value)), WN κ D 16 Q n z ws 610 ls []) {b0 : Nat} (eb : b0 = adS 1000) {N : Int} (hN : N = 3 ∨ N = 4) {J : JT} {T : Int → Int} (gJ : g_J adS N = J) (gT : g_T adS N = T) {t : Int} (ht : 1 ≤ t ∧ t ≤ 900) {qt : Nat} {n0 z0 : Nat} (hf0 : n0 + 420000 ≤ 600000 ∧ z0 + 4850000 ≤ 7302249) {σ : Mem} : ∀ (m : Nat) (k : Int) (F : Int → Int) (al : Int), St N J T σ → 0 ≤ k → k ≤ N → (N - k).toNat = m → (∀ j, 0 ≤ j → j < k → F j = T j) → al = q_sum T k.toNat → WN κ D 16 Q n0 z0 ([(qt, .inl (cA 0, 4, .inl fun j : Nat => Int32.ofInt (F (j : Int))))] ++ m_cells (GA ad cA D) σ) 84 [(0, .ref b0), (1, .ref (ad 0)), (2, vI N), (3, vI t), (4, vI (-1)), (5, vI 0), (6, vI 0), (7, .ref qt), (8, vI al), (9, vI k)] [] := by
  have hn : 3 ≤ N ∧ N ≤ 6 := by omega
  have hf : n0 ≤ 600000 ∧ z0 ≤ 7302249 := by omega
  intro m
  induction m with
  | zero =>
    intro k F al h k0 k1 hm hF hal
    have ek : k = N := by omega
    rw [ek]
    refine l_iload C 9 dL_law_84 rfl ?_
    refine l_iload_n C 2 dL_law_86 rfl ?_
    refine l_icmp_ge (tgt := 118) C dL_law_87 (by decide) ⟨⟨by constructor <;> omega, by constructor <;> omega⟩, fun _ => ?_, fun c => absurd c (by omega)⟩
    refine l_iload_n C 2 dL_law_118 rfl ?_
    refine l_iconst (x := 3) C dL_law_119 ?_
    refine l_icmp_ne (tgt := 129) C dL_law_120 (by decide) ⟨⟨by constructor <;> omega, by constructor <;> omega⟩, fun c => ?_, fun c => ?_⟩
    · refine l_sipush (x := 10000) C dL_law_129 (by decide) ?_
      refine l_istore (ls' := [(9, vI 10000), (0, .ref b0), (1, .ref (ad 0)), (2, vI N), (3, vI t), (4, vI (-1)), (5, vI 0), (6, vI 0), (7, .ref qt), (8, vI al)]) C dL_law_132 (by decide) rfl ?_
      refine l_iconst (x := 0) C dL_law_134 ?_
      refine l_istore (ls' := [(10, vI 0), (9, vI 10000), (0, .ref b0), (1, .ref (ad 0)), (2, vI N), (3, vI t), (4, vI (-1)), (5, vI 0), (6, vI 0), (7, .ref qt), (8, vI al)]) C dL_law_135 (by decide) rfl ?_
      refine l_perm [2, 3, 4, 5, 6, 7, 8, 9, 10, 1, 0] rfl ?_
      refine l_widen (n' := n0 + 42 * (0 : Int).toNat) (z' := z0 + 485 * (0 : Int).toNat) (by omega) (by omega) ?_
      exact w_137 C hS hE hE7 hend eb hN gJ gT ht (en := 10000) (Or.inr ⟨by omega, rfl⟩) (fun j hj => hF j hj.1 (by rw [ek]; exact hj.2)) (by rw [hal, ek]) hf0 h 10000 0 (-1) 0 0 (by omega) (by omega) (by omega) (Or.inl ⟨rfl, fun y hy => absurd hy.2 (by have := hy.1.1; omega)⟩) (fun c => absurd rfl c)
    · refine l_sipush (x := 1000) C dL_law_123 (by decide) ?_
      refine l_goto (tgt := 132) C dL_law_126 (by decide) ?_
      refine l_istore (ls' := [(9, vI 1000), (0, .ref b0), (1, .ref (ad 0)), (2, vI N), (3, vI t), (4, vI (-1)), (5, vI 0), (6, vI 0), (7, .ref qt), (8, vI al)]) C dL_law_132 (by decide) rfl ?_
      refine l_iconst (x := 0) C dL_law_134 ?_
      refine l_istore (ls' := [(10, vI 0), (9, vI 1000), (0, .ref b0), (1, .ref (ad 0)), (2, vI N), (3, vI t), (4, vI (-1)), (5, vI 0), (6, vI 0), (7, .ref qt), (8, vI al)]) C dL_law_135 (by decide) rfl ?_
      refine l_perm [2, 3, 4, 5, 6, 7, 8, 9, 10, 1, 0] rfl ?_
      refine l_widen (n' := n0 + 42 * (0 : Int).toNat) (z' := z0 + 485 * (0 : Int).toNat) (by omega) (by omega) ?_
      exact w_137 C hS hE hE7 hend eb hN gJ gT ht (en := 1000) (Or.inl ⟨by omega, rfl⟩) (fun j hj => hF j hj.1 (by rw [ek]; exact hj.2)) (by rw [hal, ek]) hf0 h 1000 0 (-1) 0 0 (by omega) (by omega) (by omega) (Or.inl ⟨rfl, fun y hy => absurd hy.2 (by have := hy.1.1; omega)⟩) (fun c => absurd rfl c)
  | succ m ih =>
    intro k F al h k0 k1 hm hF hal
    have hk : q_in N k := ⟨k0, by omega⟩
    have tb := h.tu hk
    refine l_iload C 9 dL_law_84 rfl ?_
    refine l_iload_n C 2 dL_law_86 rfl ?_
    refine l_icmp_ge (tgt := 118) C dL_law_87 (by decide) ⟨⟨by constructor <;> omega, by constructor <;> omega⟩, fun c => absurd c (by omega), fun _ => ?_⟩
    refine l_aload C 7 dL_law_90 rfl ?_
    refine l_iload C 9 dL_law_92 rfl ?_
    refine l_aload_n C 1 dL_law_94 rfl ?_
    refine l_iload C 9 dL_law_95 rfl ?_
    refine l_iconst (x := 2) C dL_law_97 ?_
    refine o_call (G := GA ad cA D) (σ := σ) (X := [(qt, .inl (cA 0, 4, .inl fun j : Nat => Int32.ofInt (F (j : Int))))]) (o := 0) (As := [vI k, vI 2]) (rest := [vI k, .ref qt]) (rs := fun r => [vI r]) (nn := 2) C.1 C.2.1 C.2.2.1 C.2.2.2 hE dL_law_98 (x7_told_ct κ.1.2.1 ad cA D k 2 σ) gL_law_X7_told rfl ⟨rfl, rfl⟩ ⟨rfl, by decide +kernel, by decide +kernel, by decide +kernel⟩ ⟨(Nat.le_of_ble_eq_true rfl), (Nat.le_of_ble_eq_true rfl)⟩ shA_0 rfl rfl rfl (Nat.le_of_ble_eq_true rfl) (fun _ => rfl) (l_fit hf.1 hf.2) ?_
    refine S_told2 h hk ?_
    show WN κ D 16 Q n0 z0 ([(qt, .inl (cA 0, 4, .inl fun j : Nat => Int32.ofInt (F (j : Int))))] ++ m_cells (GA ad cA D) σ) 101 [(0, .ref b0), (1, .ref (ad 0)), (2, vI N), (3, vI t), (4, vI (-1)), (5, vI 0), (6, vI 0), (7, .ref qt), (8, vI al), (9, vI k)] [vI (T k), vI k, .ref qt]
    refine l_iast (q0 := 0) (N := 4) (F := F) C dL_law_101 rfl ⟨by omega, by omega, by omega⟩ ?_
    show WN κ D 16 Q n0 z0 ([(qt, .inl (cA 0, 4, .inl fun j : Nat => Int32.ofInt ((fun i : Int => if i = k then T k else F i) (j : Int))))] ++ m_cells (GA ad cA D) σ) 102 [(0, .ref b0), (1, .ref (ad 0)), (2, vI N), (3, vI t), (4, vI (-1)), (5, vI 0), (6, vI 0), (7, .ref qt), (8, vI al), (9, vI k)] []
    refine l_iload C 8 dL_law_102 rfl ?_
    refine l_aload C 7 dL_law_104 rfl ?_
    refine l_iload C 9 dL_law_106 rfl ?_
    refine l_iald (q0 := 0) (N := 4) (F := (fun i : Int => if i = k then T k else F i)) C dL_law_108 rfl ⟨by omega, by omega, by omega⟩ ?_
    show WN κ D 16 Q n0 z0 ([(qt, .inl (cA 0, 4, .inl fun j : Nat => Int32.ofInt ((fun i : Int => if i = k then T k else F i) (j : Int))))] ++ m_cells (GA ad cA D) σ) 109 [(0, .ref b0), (1, .ref (ad 0)), (2, vI N), (3, vI t), (4, vI (-1)), (5, vI 0), (6, vI 0), (7, .ref qt), (8, vI al), (9, vI k)] [vI (if k = k then T k else F k), vI al]
    rw [if_pos rfl]
    refine l_iadd C dL_law_109 ?_
    refine l_istore (ls' := [(8, vI (al + (T k))), (0, .ref b0), (1, .ref (ad 0)), (2, vI N), (3, vI t), (4, vI (-1)), (5, vI 0), (6, vI 0), (7, .ref qt), (9, vI k)]) C dL_law_110 (by decide) rfl ?_
    refine l_iinc (j := 9) (ls' := [(9, vI (k + 1)), (8, vI (al + (T k))), (0, .ref b0), (1, .ref (ad 0)), (2, vI N), (3, vI t), (4, vI (-1)), (5, vI 0), (6, vI 0), (7, .ref qt)]) C dL_law_112 rfl (by decide) rfl ?_
    refine l_goto (tgt := 84) C dL_law_115 (by decide) ?_
    refine l_perm [2, 3, 4, 5, 6, 7, 8, 9, 1, 0] rfl ?_
    refine ih (k + 1) (fun i : Int => if i = k then T k else F i) (al + T k) h (by omega) (by omega) (by omega) (fun j j0 j1 => ?_) ?_
    · by_cases w : j = k
      · show (if j = k then T k else F j) = T j
        rw [if_pos w, w]
      · show (if j = k then T k else F j) = T j
        rw [if_neg w]
        exact hF j j0 (by omega)
    · rw [hal, show (k + 1).toNat = k.toNat + 1 by omega]
      show _ = q_sum T k.toNat + T ((k.toNat : Nat) : Int)
      rw [show ((k.toNat : Nat) : Int) = k by omega]
set_option maxRecDepth 20000 in
theorem w_8 {κ : KT} {cA : Nat → ClassId} {D : va_G} {Q : State → Prop} (C : CL κ cA D) {adS ad : Nat → Nat} (hS : m_ext adS κ.2.2 κ.1.2.2.2.2 κ.1.2.2.2.2.heap) (hE : m_ext ad κ.2.2 κ.1.2.2.2.2 κ.1.2.2.2.2.heap) (hE7 : o_E7 κ.1.2.2.2.2) (hend : ∀ n z : Nat, n ≤ 600000 → z ≤ 7302249 → ∀ (ws : va_W) (ls : List (Nat × Value)), WN κ D 16 Q n z ws 610 ls []) {b0 : Nat} (eb : b0 = adS 1000) (ha : ∀ k, ad (1000 + k) = adS (1000 + k)) {n0 z0 : Nat} (hf0 : n0 + 1 + 420000 ≤ 600000 ∧ z0 + 4 + 4850000 ≤ 7302249) {σ : Mem} (hR : RelN σ) : WN κ D 16 Q n0 z0 ([] ++ m_cells (GA ad cA D) σ) 8 [(1, .ref (ad 0)), (0, .ref b0)] [] := by
  have hf : n0 ≤ 600000 ∧ z0 ≤ 7302249 := by omega
  have ea : ad 1000 = adS 1000 := ha 0
  have hL : m_L ad ≤ 260 := by
    have := hE.2.2.2.2
    unfold m_L
    omega
  refine l_iconst (x := 3) C dL_law_8 ?_
  refine l_aload_n C 1 dL_law_9 rfl ?_
  refine l_iconst (x := 0) C dL_law_10 ?_
  refine o_callS (G := GA ad cA D) (σ := σ) (X := []) (As := [.ref (ad 1000), vI 0]) (rest := [vI 3]) (rs := fun r => [vI r]) (nn := 2) C.1 C.2.1 C.2.2.1 C.2.2.2 hE dL_law_11 (xL_cell_ct κ.1.2.1 ad cA D 0 σ) gL_law_L_cell rfl ⟨rfl, rfl⟩ ⟨by decide +kernel, by decide +kernel, by decide +kernel⟩ ⟨(Nat.le_of_ble_eq_true rfl), (Nat.le_of_ble_eq_true rfl)⟩ rfl (by rw [eb, ← ea]; rfl) (Nat.le_of_ble_eq_true rfl) (fun _ => rfl) (l_fit hf.1 hf.2) ?_
  refine V_cell hL (by omega) ?_
  show WN κ D 16 Q n0 z0 ([] ++ m_cells (GA ad cA D) σ) 14 [(1, .ref (ad 0)), (0, .ref b0)] [vI (g_cell ad 0), vI 3]
  refine l_iconst (x := 2) C dL_law_14 ?_
  refine o_callS (G := GA ad cA D) (σ := σ) (X := []) (As := [vI (g_cell ad 0), vI 2]) (rest := [vI 3]) (rs := fun r => [vI r]) (nn := 2) C.1 C.2.1 C.2.2.1 C.2.2.2 hE dL_law_15 (xL_low_ct κ.1.2.1 ad cA D ((g_cell ad 0)) 2 σ) gL_law_L_low rfl ⟨rfl, rfl⟩ ⟨by decide +kernel, by decide +kernel, by decide +kernel⟩ ⟨(Nat.le_of_ble_eq_true rfl), (Nat.le_of_ble_eq_true rfl)⟩ rfl rfl (Nat.le_of_ble_eq_true rfl) (fun _ => rfl) (l_fit hf.1 hf.2) ?_
  refine V_low (by omega) ?_
  show WN κ D 16 Q n0 z0 ([] ++ m_cells (GA ad cA D) σ) 18 [(1, .ref (ad 0)), (0, .ref b0)] [vI (g_low (g_cell ad 0) 2), vI 3]
  refine l_iadd C dL_law_18 ?_
  refine l_topI (fun N eN => ?_)
  have lb := g_low_bd (g_cell ad 0) (n := 2) (by omega)
  have hN : N = 3 ∨ N = 4 := by omega
  have hn : 3 ≤ N ∧ N ≤ 6 := by omega
  refine l_istore_n (ls' := [(2, vI N), (1, .ref (ad 0)), (0, .ref b0)]) C dL_law_19 rfl (by decide) rfl ?_
  refine l_aload_n C 1 dL_law_20 rfl ?_
  refine l_aload_n C 2 dL_law_21 rfl ?_
  refine l_iload_n C 0 dL_law_22 rfl ?_
  refine o_callS (G := GA ad cA D) (σ := σ) (X := []) (As := [.ref (ad 0), .ref (ad 1000), vI N]) (rest := []) (rs := fun r => [vI r]) (nn := 3) C.1 C.2.1 C.2.2.1 C.2.2.2 hE dL_law_23 (xL_make_ct κ.1.2.1 ad cA D N σ) gL_law_L_make rfl ⟨rfl, rfl⟩ ⟨by decide +kernel, by decide +kernel, by decide +kernel⟩ ⟨(Nat.le_of_ble_eq_true rfl), (Nat.le_of_ble_eq_true rfl)⟩ rfl (by rw [eb, ← ea]; rfl) (Nat.le_of_ble_eq_true rfl) (fun _ => rfl) (l_fit hf.1 hf.2) ?_
  refine V_make hL hn hR (fun s1 hM => ?_)
  show WN κ D 16 Q n0 z0 ([] ++ m_cells (GA ad cA D) s1) 26 [(2, vI N), (1, .ref (ad 0)), (0, .ref b0)] [vI 1]
  obtain ⟨c1, c2, c3, c4⟩ := g_cong ha N
  obtain ⟨ok1, rn1, ej1, et1, e10, eo1⟩ := Mk.ok hn hM
  have h1 : St N (g_J adS N) (g_T adS N) s1 := ⟨ok1, rn1, ej1.trans c1, et1.trans c2, e10, by rw [e10] at eo1; exact eo1⟩
  refine l_if_ne (tgt := 31) C dL_law_26 (by decide) ⟨by omega, fun _ => ?_, fun c => absurd c (by omega)⟩
  refine l_iconst (x := 1) C dL_law_31 ?_
  refine l_aload_n C 2 dL_law_32 rfl ?_
  refine l_bipush (x := 50) C dL_law_33 (by decide) ?_
  refine o_callS (G := GA ad cA D) (σ := s1) (X := []) (As := [.ref (ad 1000), vI 50]) (rest := [vI 1]) (rs := fun r => [vI r]) (nn := 2) C.1 C.2.1 C.2.2.1 C.2.2.2 hE dL_law_35 (xL_cell_ct κ.1.2.1 ad cA D 50 s1) gL_law_L_cell rfl ⟨rfl, rfl⟩ ⟨by decide +kernel, by decide +kernel, by decide +kernel⟩ ⟨(Nat.le_of_ble_eq_true rfl), (Nat.le_of_ble_eq_true rfl)⟩ rfl (by rw [eb, ← ea]; rfl) (Nat.le_of_ble_eq_true rfl) (fun _ => rfl) (l_fit hf.1 hf.2) ?_
  refine V_cell hL (by omega) ?_
  show WN κ D 16 Q n0 z0 ([] ++ m_cells (GA ad cA D) s1) 38 [(2, vI N), (1, .ref (ad 0)), (0, .ref b0)] [vI (g_cell ad 50), vI 1]
  refine l_aload_n C 2 dL_law_38 rfl ?_
  refine l_bipush (x := 51) C dL_law_39 (by decide) ?_
  refine o_callS (G := GA ad cA D) (σ := s1) (X := []) (As := [.ref (ad 1000), vI 51]) (rest := [vI (g_cell ad 50), vI 1]) (rs := fun r => [vI r]) (nn := 2) C.1 C.2.1 C.2.2.1 C.2.2.2 hE dL_law_41 (xL_cell_ct κ.1.2.1 ad cA D 51 s1) gL_law_L_cell rfl ⟨rfl, rfl⟩ ⟨by decide +kernel, by decide +kernel, by decide +kernel⟩ ⟨(Nat.le_of_ble_eq_true rfl), (Nat.le_of_ble_eq_true rfl)⟩ rfl (by rw [eb, ← ea]; rfl) (Nat.le_of_ble_eq_true rfl) (fun _ => rfl) (l_fit hf.1 hf.2) ?_
  refine V_cell hL (by omega) ?_
  show WN κ D 16 Q n0 z0 ([] ++ m_cells (GA ad cA D) s1) 44 [(2, vI N), (1, .ref (ad 0)), (0, .ref b0)] [vI (g_cell ad 51), vI (g_cell ad 50), vI 1]
  refine l_iconst (x := 3) C dL_law_44 ?_
  refine o_callS (G := GA ad cA D) (σ := s1) (X := []) (As := [vI (g_cell ad 51), vI 3]) (rest := [vI (g_cell ad 50), vI 1]) (rs := fun r => [vI r]) (nn := 2) C.1 C.2.1 C.2.2.1 C.2.2.2 hE dL_law_45 (xL_low_ct κ.1.2.1 ad cA D ((g_cell ad 51)) 3 s1) gL_law_L_low rfl ⟨rfl, rfl⟩ ⟨by decide +kernel, by decide +kernel, by decide +kernel⟩ ⟨(Nat.le_of_ble_eq_true rfl), (Nat.le_of_ble_eq_true rfl)⟩ rfl rfl (Nat.le_of_ble_eq_true rfl) (fun _ => rfl) (l_fit hf.1 hf.2) ?_
  refine V_low (by omega) ?_
  show WN κ D 16 Q n0 z0 ([] ++ m_cells (GA ad cA D) s1) 48 [(2, vI N), (1, .ref (ad 0)), (0, .ref b0)] [vI (g_low (g_cell ad 51) 3), vI (g_cell ad 50), vI 1]
  have l3 := g_low_bd (g_cell ad 51) (n := 3) (by omega)
  refine l_if_ne (tgt := 57) C dL_law_48 (by decide) ⟨by constructor <;> omega, fun c => ?_, fun c => ?_⟩
  · refine l_bipush (x := 120) C dL_law_57 (by decide) ?_
    refine o_callS (G := GA ad cA D) (σ := s1) (X := []) (As := [vI (g_cell ad 50), vI 120]) (rest := [vI 1]) (rs := fun r => [vI r]) (nn := 2) C.1 C.2.1 C.2.2.1 C.2.2.2 hE dL_law_59 (xL_low_ct κ.1.2.1 ad cA D ((g_cell ad 50)) 120 s1) gL_law_L_low rfl ⟨rfl, rfl⟩ ⟨by decide +kernel, by decide +kernel, by decide +kernel⟩ ⟨(Nat.le_of_ble_eq_true rfl), (Nat.le_of_ble_eq_true rfl)⟩ rfl rfl (Nat.le_of_ble_eq_true rfl) (fun _ => rfl) (l_fit hf.1 hf.2) ?_
    refine V_low (by omega) ?_
    show WN κ D 16 Q n0 z0 ([] ++ m_cells (GA ad cA D) s1) 62 [(2, vI N), (1, .ref (ad 0)), (0, .ref b0)] [vI (g_low (g_cell ad 50) 120), vI 1]
    refine l_iadd C dL_law_62 ?_
    refine l_topI (fun t et => ?_)
    have lt := g_low_bd (g_cell ad 50) (n := 120) (by omega)
    refine l_istore_n (ls' := [(3, vI t), (2, vI N), (1, .ref (ad 0)), (0, .ref b0)]) C dL_law_63 rfl (by decide) rfl ?_
    refine l_iconst (x := (-1)) C dL_law_64 ?_
    refine l_istore (ls' := [(4, vI (-1)), (3, vI t), (2, vI N), (1, .ref (ad 0)), (0, .ref b0)]) C dL_law_65 (by decide) rfl ?_
    refine l_iconst (x := 0) C dL_law_67 ?_
    refine l_istore (ls' := [(5, vI 0), (4, vI (-1)), (3, vI t), (2, vI N), (1, .ref (ad 0)), (0, .ref b0)]) C dL_law_68 (by decide) rfl ?_
    refine l_iconst (x := 0) C dL_law_70 ?_
    refine l_istore (ls' := [(6, vI 0), (5, vI 0), (4, vI (-1)), (3, vI t), (2, vI N), (1, .ref (ad 0)), (0, .ref b0)]) C dL_law_71 (by decide) rfl ?_
    refine l_iconst (x := 4) C dL_law_73 ?_
    refine l_newI (N := 4) C dL_law_74 v_w8 ⟨rfl, by decide⟩ (by show _ ≤ 600000; omega) (by show _ ≤ 7302249; omega) (fun qt => ?_)
    refine n_swap ?_
    show WN κ D 16 Q (n0 + 1) (z0 + 4) ([(qt, .inl (cA 0, 4, .inl fun j : Nat => Int32.ofInt ((fun _ : Int => (0 : Int)) (j : Int))))] ++ m_cells (GA ad cA D) s1) 76 [(6, vI 0), (5, vI 0), (4, vI (-1)), (3, vI t), (2, vI N), (1, .ref (ad 0)), (0, .ref b0)] [.ref qt]
    refine l_astore (ls' := [(7, .ref qt), (6, vI 0), (5, vI 0), (4, vI (-1)), (3, vI t), (2, vI N), (1, .ref (ad 0)), (0, .ref b0)]) C dL_law_76 (by decide) rfl ?_
    refine l_iconst (x := 0) C dL_law_78 ?_
    refine l_istore (ls' := [(8, vI 0), (7, .ref qt), (6, vI 0), (5, vI 0), (4, vI (-1)), (3, vI t), (2, vI N), (1, .ref (ad 0)), (0, .ref b0)]) C dL_law_79 (by decide) rfl ?_
    refine l_iconst (x := 0) C dL_law_81 ?_
    refine l_istore (ls' := [(9, vI 0), (8, vI 0), (7, .ref qt), (6, vI 0), (5, vI 0), (4, vI (-1)), (3, vI t), (2, vI N), (1, .ref (ad 0)), (0, .ref b0)]) C dL_law_82 (by decide) rfl ?_
    refine l_perm [9, 8, 7, 6, 5, 4, 3, 2, 1, 0] rfl ?_
    exact w_84 C hS hE hE7 hend eb hN rfl rfl (by omega) (by omega) N.toNat 0 (fun _ => 0) 0 h1 (by omega) (by omega) (by omega) (fun j j0 j1 => absurd j1 (by omega)) rfl
  · refine l_sipush (x := 900) C dL_law_51 (by decide) ?_
    refine l_goto (tgt := 59) C dL_law_54 (by decide) ?_
    refine o_callS (G := GA ad cA D) (σ := s1) (X := []) (As := [vI (g_cell ad 50), vI 900]) (rest := [vI 1]) (rs := fun r => [vI r]) (nn := 2) C.1 C.2.1 C.2.2.1 C.2.2.2 hE dL_law_59 (xL_low_ct κ.1.2.1 ad cA D ((g_cell ad 50)) 900 s1) gL_law_L_low rfl ⟨rfl, rfl⟩ ⟨by decide +kernel, by decide +kernel, by decide +kernel⟩ ⟨(Nat.le_of_ble_eq_true rfl), (Nat.le_of_ble_eq_true rfl)⟩ rfl rfl (Nat.le_of_ble_eq_true rfl) (fun _ => rfl) (l_fit hf.1 hf.2) ?_
    refine V_low (by omega) ?_
    show WN κ D 16 Q n0 z0 ([] ++ m_cells (GA ad cA D) s1) 62 [(2, vI N), (1, .ref (ad 0)), (0, .ref b0)] [vI (g_low (g_cell ad 50) 900), vI 1]
    refine l_iadd C dL_law_62 ?_
    refine l_topI (fun t et => ?_)
    have lt := g_low_bd (g_cell ad 50) (n := 900) (by omega)
    refine l_istore_n (ls' := [(3, vI t), (2, vI N), (1, .ref (ad 0)), (0, .ref b0)]) C dL_law_63 rfl (by decide) rfl ?_
    refine l_iconst (x := (-1)) C dL_law_64 ?_
    refine l_istore (ls' := [(4, vI (-1)), (3, vI t), (2, vI N), (1, .ref (ad 0)), (0, .ref b0)]) C dL_law_65 (by decide) rfl ?_
    refine l_iconst (x := 0) C dL_law_67 ?_
    refine l_istore (ls' := [(5, vI 0), (4, vI (-1)), (3, vI t), (2, vI N), (1, .ref (ad 0)), (0, .ref b0)]) C dL_law_68 (by decide) rfl ?_
    refine l_iconst (x := 0) C dL_law_70 ?_
    refine l_istore (ls' := [(6, vI 0), (5, vI 0), (4, vI (-1)), (3, vI t), (2, vI N), (1, .ref (ad 0)), (0, .ref b0)]) C dL_law_71 (by decide) rfl ?_
    refine l_iconst (x := 4) C dL_law_73 ?_
    refine l_newI (N := 4) C dL_law_74 v_w8 ⟨rfl, by decide⟩ (by show _ ≤ 600000; omega) (by show _ ≤ 7302249; omega) (fun qt => ?_)
    refine n_swap ?_
    show WN κ D 16 Q (n0 + 1) (z0 + 4) ([(qt, .inl (cA 0, 4, .inl fun j : Nat => Int32.ofInt ((fun _ : Int => (0 : Int)) (j : Int))))] ++ m_cells (GA ad cA D) s1) 76 [(6, vI 0), (5, vI 0), (4, vI (-1)), (3, vI t), (2, vI N), (1, .ref (ad 0)), (0, .ref b0)] [.ref qt]
    refine l_astore (ls' := [(7, .ref qt), (6, vI 0), (5, vI 0), (4, vI (-1)), (3, vI t), (2, vI N), (1, .ref (ad 0)), (0, .ref b0)]) C dL_law_76 (by decide) rfl ?_
    refine l_iconst (x := 0) C dL_law_78 ?_
    refine l_istore (ls' := [(8, vI 0), (7, .ref qt), (6, vI 0), (5, vI 0), (4, vI (-1)), (3, vI t), (2, vI N), (1, .ref (ad 0)), (0, .ref b0)]) C dL_law_79 (by decide) rfl ?_
    refine l_iconst (x := 0) C dL_law_81 ?_
    refine l_istore (ls' := [(9, vI 0), (8, vI 0), (7, .ref qt), (6, vI 0), (5, vI 0), (4, vI (-1)), (3, vI t), (2, vI N), (1, .ref (ad 0)), (0, .ref b0)]) C dL_law_82 (by decide) rfl ?_
    refine l_perm [9, 8, 7, 6, 5, 4, 3, 2, 1, 0] rfl ?_
    exact w_84 C hS hE hE7 hend eb hN rfl rfl (by omega) (by omega) N.toNat 0 (fun _ => 0) 0 h1 (by omega) (by omega) (by omega) (fun j j0 j1 => absurd j1 (by omega)) rfl
