/-! ===== the law (written by wip/p29/genlaw.py) ===== -/

theorem g_cong {e e' : Nat → Nat} (h : ∀ k, e (1000 + k) = e' (1000 + k)) (n : Int) : g_J e n = g_J e' n ∧ g_T e n = g_T e' n ∧ m_L e = m_L e' ∧ g_cell e = g_cell e' := by
  have hL : m_L e = m_L e' := by
    unfold m_L
    rw [show (1001 : Nat) = 1000 + 1 from rfl, h]
  have hc : g_cell e = g_cell e' := by
    funext k
    unfold g_cell m_x
    rw [hL, show 2000 + k.toNat = 1000 + (1000 + k.toNat) by omega, h]
  refine ⟨?_, ?_, hL, hc⟩
  · unfold g_J g_rib
    have e1 : g_st e = g_st e' := funext fun k => by
      unfold g_st
      rw [hc]
    have e2 : g_pd e = g_pd e' := funext fun k => by
      unfold g_pd
      rw [hc]
    have e3 : g_lo e = g_lo e' := funext fun k => by
      unfold g_lo
      rw [hc]
    have e4 : g_br e = g_br e' := funext fun k => by
      unfold g_br
      rw [hc]
    rw [hc, e1, e2, e3, e4]
  · unfold g_T
    have e1 : g_tu e = g_tu e' := funext fun k => by
      unfold g_tu
      rw [hc]
    rw [e1]
theorem z_N {σ : Mem} (h : o_I7 σ) : RelN σ := by
  intro j j0 j1
  rw [h.2.2 22 (by omega)]
  rcases (show j = 0 ∨ j = 1 ∨ j = 2 ∨ j = 3 ∨ j = 4 ∨ j = 5 by omega) with q | q | q | q | q | q <;> subst q <;> rfl
set_option maxRecDepth 20000 in
theorem w_202 {κ : KT} {cA : Nat → ClassId} {D : va_G} {Q : State → Prop} {n z : Nat} (C : CL κ cA D) {ad : Nat → Nat} (hE : m_ext ad κ.2.2 κ.1.2.2.2.2 κ.1.2.2.2.2.heap) (hf : n ≤ 600000 ∧ z ≤ 7302249) {X : va_W} {b0 o qt : Nat} (eb : b0 = ad 1000) {N : Int} (hN : N = 3 ∨ N = 4) {J : JT} {T : Int → Int} (gJ : g_J ad N = J) (gT : g_T ad N = T) {t : Int} (ht : 1 ≤ t ∧ t ≤ 900) {b fw ls al en x : Int} (hx : 0 ≤ x ∧ x < 10000) (hr : q_isRow N x) (hal : al = q_sum T N.toNat) (hb : q_bst (fun y => q_isRow N y ∧ y < x) (q_rp J T t) (q_rd J T t) b) (hfl : b ≠ -1 → fw = q_rp J T t b ∧ ls = q_rd J T t b) {ρ : Mem} (hR : RelN ρ) (cont : ∀ b' f' l' : Int, q_bst (fun y => q_isRow N y ∧ y < x + 1) (q_rp J T t) (q_rd J T t) b' → (b' ≠ -1 → f' = q_rp J T t b' ∧ l' = q_rd J T t b') → WN κ D 16 Q n z (X) 305 [(0, .ref b0), (1, .ref o), (2, vI N), (3, vI t), (4, vI b'), (5, vI f'), (6, vI l'), (7, .ref qt), (8, vI al), (9, vI en), (10, vI x)] []) : WN κ D 16 Q n z (X ++ m_cells (GA ad cA D) ρ) 202 [(0, .ref b0), (1, .ref o), (2, vI N), (3, vI t), (4, vI b), (5, vI fw), (6, vI ls), (7, .ref qt), (8, vI al), (9, vI en), (10, vI x)] [.ref (ad 0)] := by
  have hn : 3 ≤ N ∧ N ≤ 6 := by omega
  have hL : m_L ad ≤ 260 := by
    have := hE.2.2.2.2
    unfold m_L
    omega
  have jn : J.1 = N := by rw [← gJ]; rfl
  have tb : ∀ k, q_in N k → 0 ≤ T k ∧ T k ≤ 200 := fun k hk => by
    rw [← gT]
    unfold g_T
    rw [q_nrm_in hk]
    exact g_tu_bd ad k
  have sb : 0 ≤ q_sum T N.toNat ∧ q_sum T N.toNat ≤ 1200 := q_sum_tu (by omega) (fun k hk => tb k ⟨hk.1, by have := hk.2; omega⟩)
  have rdb : ∀ y, q_isRow N y → 0 ≤ q_rp J T t y → -1200 ≤ q_rd J T t y ∧ q_rd J T t y ≤ 1200 := fun y hy hp => (q_rd_bd (j := J) (tu := T) (t := t) (x := y) (by rw [jn]; exact hn) (fun k hk => tb k (by rw [jn] at hk; exact hk)) (by rw [jn]; exact hy) hp).2
  have hS : ∀ y, (q_isRow N y ∧ y < x + 1) ↔ ((q_isRow N y ∧ y < x) ∨ y = x) := fun y => by
    constructor
    · intro w
      by_cases w2 : y = x
      · exact Or.inr w2
      · exact Or.inl ⟨w.1, by omega⟩
    · intro w
      rcases w with w | w
      · exact ⟨w.1, by omega⟩
      · rw [w]
        exact ⟨hr, by omega⟩
  have pbx := q_rp_rg J T t x
  have pbb := q_rp_rg J T t b
  have bd : b = -1 ∨ (b ≠ -1 ∧ 0 ≤ b ∧ b < x ∧ 0 ≤ q_rp J T t b ∧ -1200 ≤ q_rd J T t b ∧ q_rd J T t b ≤ 1200) := by
    rcases hb with q | q
    · exact Or.inl q.1
    · exact Or.inr ⟨by omega, q.1, q.2.1.2, q.2.2.1, rdb b q.2.1.1 q.2.2.1⟩
  refine l_astore (ls' := [(13, .ref (ad 0)), (0, .ref b0), (1, .ref o), (2, vI N), (3, vI t), (4, vI b), (5, vI fw), (6, vI ls), (7, .ref qt), (8, vI al), (9, vI en), (10, vI x)]) C dL_law_202 (by decide) rfl ?_
  refine l_aload C 0 dL_law_204 rfl ?_
  refine l_aload_n C 1 dL_law_206 rfl ?_
  refine l_iload_n C 3 dL_law_207 rfl ?_
  refine o_callS (G := GA ad cA D) (σ := ρ) (X := X) (As := [.ref (ad 0), .ref (ad 1000), vI N]) (rest := []) (rs := fun r => [vI r]) (nn := 3) C.1 C.2.1 C.2.2.1 C.2.2.2 hE dL_law_208 (xL_make_ct κ.1.2.1 ad cA D N ρ) gL_law_L_make rfl ⟨rfl, rfl⟩ ⟨by decide +kernel, by decide +kernel, by decide +kernel⟩ ⟨(Nat.le_of_ble_eq_true rfl), (Nat.le_of_ble_eq_true rfl)⟩ rfl (by rw [eb]; rfl) (Nat.le_of_ble_eq_true rfl) (fun _ => rfl) (l_fit hf.1 hf.2) ?_
  refine V_make hL hn hR (fun s1 hM => ?_)
  show WN κ D 16 Q n z (X ++ m_cells (GA ad cA D) s1) 211 [(13, .ref (ad 0)), (0, .ref b0), (1, .ref o), (2, vI N), (3, vI t), (4, vI b), (5, vI fw), (6, vI ls), (7, .ref qt), (8, vI al), (9, vI en), (10, vI x)] [vI 1]
  obtain ⟨ok1, rn1, ej1, et1, e10, eo1⟩ := Mk.ok hn hM
  have h1 : St N J T s1 := ⟨ok1, rn1, ej1.trans gJ, et1.trans gT, e10, by rw [e10] at eo1; exact eo1⟩
  refine l_if_eq (tgt := 225) C dL_law_211 (by decide) ⟨by omega, fun c => absurd c (by omega), fun _ => ?_⟩
  refine l_aload C 0 dL_law_214 rfl ?_
  refine l_iload C 11 dL_law_216 rfl ?_
  refine o_call (G := GA ad cA D) (σ := s1) (X := X) (o := 0) (As := [vI x]) (rest := []) (rs := fun r => [vI r]) (nn := 1) C.1 C.2.1 C.2.2.1 C.2.2.2 hE dL_law_218 (x7_row_ct κ.1.2.1 ad cA D x s1) gL_law_X7_row rfl ⟨rfl, rfl⟩ ⟨rfl, by decide +kernel, by decide +kernel, by decide +kernel⟩ ⟨(Nat.le_of_ble_eq_true rfl), (Nat.le_of_ble_eq_true rfl)⟩ shA_0 rfl rfl rfl (Nat.le_of_ble_eq_true rfl) (fun _ => rfl) (l_fit hf.1 hf.2) ?_
  refine S_row h1 (by constructor <;> omega) hr (fun s2 ok2 ej2 et2 e2 er2 hr2 => ?_)
  show WN κ D 16 Q n z (X ++ m_cells (GA ad cA D) s2) 221 [(13, .ref (ad 0)), (0, .ref b0), (1, .ref o), (2, vI N), (3, vI t), (4, vI b), (5, vI fw), (6, vI ls), (7, .ref qt), (8, vI al), (9, vI en), (10, vI x)] [vI 1]
  refine l_iconst (x := 1) C dL_law_221 ?_
  refine l_icmp_eq (tgt := 227) C dL_law_222 (by decide) ⟨⟨by omega, by omega⟩, fun _ => ?_, fun c => absurd rfl c⟩
  refine l_aload C 0 dL_law_227 rfl ?_
  refine l_iload_n C 4 dL_law_229 rfl ?_
  refine o_call (G := GA ad cA D) (σ := s2) (X := X) (o := 0) (As := [vI t]) (rest := []) (rs := fun r => [vI r]) (nn := 1) C.1 C.2.1 C.2.2.1 C.2.2.2 hE dL_law_230 (x7_passes_ct κ.1.2.1 ad cA D t s2) gL_law_X7_passes rfl ⟨rfl, rfl⟩ ⟨rfl, by decide +kernel, by decide +kernel, by decide +kernel⟩ ⟨(Nat.le_of_ble_eq_true rfl), (Nat.le_of_ble_eq_true rfl)⟩ shA_0 rfl rfl rfl (Nat.le_of_ble_eq_true rfl) (fun _ => rfl) (l_fit hf.1 hf.2) ?_
  refine S_rowed ok2 ej2 et2 e2 er2 hr2 hr ht (fun c s3 w1 w2 => ?_) (fun c s3 w1 w2 => ?_)
  · show WN κ D 16 Q n z (X ++ m_cells (GA ad cA D) s3) 233 [(13, .ref (ad 0)), (0, .ref b0), (1, .ref o), (2, vI N), (3, vI t), (4, vI b), (5, vI fw), (6, vI ls), (7, .ref qt), (8, vI al), (9, vI en), (10, vI x)] [vI (q_rp J T t x)]
    have rdx := rdb x hr c
    refine l_istore (ls' := [(14, vI (q_rp J T t x)), (13, .ref (ad 0)), (0, .ref b0), (1, .ref o), (2, vI N), (3, vI t), (4, vI b), (5, vI fw), (6, vI ls), (7, .ref qt), (8, vI al), (9, vI en), (10, vI x)]) C dL_law_233 (by decide) rfl ?_
    refine l_iload C 0 dL_law_235 rfl ?_
    refine l_if_lt (tgt := 292) C dL_law_237 (by decide) ⟨by constructor <;> omega, fun c => absurd c (by omega), fun _ => ?_⟩
    refine l_aload C 1 dL_law_240 rfl ?_
    refine l_iconst (x := 4) C dL_law_242 ?_
    refine o_call (G := GA ad cA D) (σ := s3) (X := X) (o := 0) (As := [vI 4]) (rest := []) (rs := fun r => [vI r]) (nn := 1) C.1 C.2.1 C.2.2.1 C.2.2.2 hE dL_law_243 (x7_count_ct κ.1.2.1 ad cA D 4 s3) gL_law_X7_count rfl ⟨rfl, rfl⟩ ⟨rfl, by decide +kernel, by decide +kernel, by decide +kernel⟩ ⟨(Nat.le_of_ble_eq_true rfl), (Nat.le_of_ble_eq_true rfl)⟩ shA_0 rfl rfl rfl (Nat.le_of_ble_eq_true rfl) (fun _ => rfl) (l_fit hf.1 hf.2) ?_
    refine V_count4 w1 ?_
    show WN κ D 16 Q n z (X ++ m_cells (GA ad cA D) s3) 246 [(14, vI (q_rp J T t x)), (13, .ref (ad 0)), (0, .ref b0), (1, .ref o), (2, vI N), (3, vI t), (4, vI b), (5, vI fw), (6, vI ls), (7, .ref qt), (8, vI al), (9, vI en), (10, vI x)] [vI (q_sum (s3 4) (s3 1 0).toNat)]
    rw [w2]
    refine l_iload C 10 dL_law_246 rfl ?_
    refine l_isub C dL_law_248 ?_
    refine l_topI (fun dr hdr => ?_)
    have ed : dr = q_rd J T t x := by omega
    refine l_istore (ls' := [(15, vI dr), (14, vI (q_rp J T t x)), (13, .ref (ad 0)), (0, .ref b0), (1, .ref o), (2, vI N), (3, vI t), (4, vI b), (5, vI fw), (6, vI ls), (7, .ref qt), (8, vI al), (9, vI en), (10, vI x)]) C dL_law_249 (by decide) rfl ?_
    refine l_iload C 7 dL_law_251 rfl ?_
    refine l_if_lt (tgt := 277) C dL_law_253 (by decide) ⟨by constructor <;> omega, fun c1 => ?_, fun c1 => ?_⟩
    · refine l_iload C 13 dL_law_277 rfl ?_
      refine l_istore (ls' := [(4, vI x), (15, vI dr), (14, vI (q_rp J T t x)), (13, .ref (ad 0)), (0, .ref b0), (1, .ref o), (2, vI N), (3, vI t), (5, vI fw), (6, vI ls), (7, .ref qt), (8, vI al), (9, vI en), (10, vI x)]) C dL_law_279 (by decide) rfl ?_
      refine l_iload C 2 dL_law_281 rfl ?_
      refine l_istore (ls' := [(5, vI (q_rp J T t x)), (4, vI x), (15, vI dr), (14, vI (q_rp J T t x)), (13, .ref (ad 0)), (0, .ref b0), (1, .ref o), (2, vI N), (3, vI t), (6, vI ls), (7, .ref qt), (8, vI al), (9, vI en), (10, vI x)]) C dL_law_283 (by decide) rfl ?_
      refine l_iload C 2 dL_law_285 rfl ?_
      refine l_istore (ls' := [(6, vI dr), (5, vI (q_rp J T t x)), (4, vI x), (15, vI dr), (14, vI (q_rp J T t x)), (13, .ref (ad 0)), (0, .ref b0), (1, .ref o), (2, vI N), (3, vI t), (7, .ref qt), (8, vI al), (9, vI en), (10, vI x)]) C dL_law_287 (by decide) rfl ?_
      refine l_goto (tgt := 305) C dL_law_289 (by decide) ?_
      refine l_perm [6, 7, 8, 9, 2, 1, 0, 10, 11, 12, 13] rfl ?_
      refine l_drop ?_
      refine cont x (q_rp J T t x) dr (q_bst_take hb hS ⟨hx.1, c⟩ (Or.inl (by omega))) (fun _ => ⟨rfl, ed⟩)
    · obtain ⟨e1, e2'⟩ := hfl (by omega)
      refine l_iload C 1 dL_law_256 rfl ?_
      refine l_iload C 8 dL_law_258 rfl ?_
      refine l_icmp_lt (tgt := 277) C dL_law_260 (by decide) ⟨⟨by constructor <;> omega, by constructor <;> omega⟩, fun c2 => ?_, fun c2 => ?_⟩
      · refine l_iload C 13 dL_law_277 rfl ?_
        refine l_istore (ls' := [(4, vI x), (15, vI dr), (14, vI (q_rp J T t x)), (13, .ref (ad 0)), (0, .ref b0), (1, .ref o), (2, vI N), (3, vI t), (5, vI fw), (6, vI ls), (7, .ref qt), (8, vI al), (9, vI en), (10, vI x)]) C dL_law_279 (by decide) rfl ?_
        refine l_iload C 2 dL_law_281 rfl ?_
        refine l_istore (ls' := [(5, vI (q_rp J T t x)), (4, vI x), (15, vI dr), (14, vI (q_rp J T t x)), (13, .ref (ad 0)), (0, .ref b0), (1, .ref o), (2, vI N), (3, vI t), (6, vI ls), (7, .ref qt), (8, vI al), (9, vI en), (10, vI x)]) C dL_law_283 (by decide) rfl ?_
        refine l_iload C 2 dL_law_285 rfl ?_
        refine l_istore (ls' := [(6, vI dr), (5, vI (q_rp J T t x)), (4, vI x), (15, vI dr), (14, vI (q_rp J T t x)), (13, .ref (ad 0)), (0, .ref b0), (1, .ref o), (2, vI N), (3, vI t), (7, .ref qt), (8, vI al), (9, vI en), (10, vI x)]) C dL_law_287 (by decide) rfl ?_
        refine l_goto (tgt := 305) C dL_law_289 (by decide) ?_
        refine l_perm [6, 7, 8, 9, 2, 1, 0, 10, 11, 12, 13] rfl ?_
        refine l_drop ?_
        refine cont x (q_rp J T t x) dr (q_bst_take hb hS ⟨hx.1, c⟩ (Or.inr (Or.inl (by omega)))) (fun _ => ⟨rfl, ed⟩)
      · refine l_iload C 1 dL_law_263 rfl ?_
        refine l_iload C 8 dL_law_265 rfl ?_
        refine l_icmp_ne (tgt := 289) C dL_law_267 (by decide) ⟨⟨by constructor <;> omega, by constructor <;> omega⟩, fun c3 => ?_, fun c3 => ?_⟩
        · refine l_goto (tgt := 305) C dL_law_289 (by decide) ?_
          refine l_perm [3, 4, 5, 6, 7, 8, 9, 10, 11, 12, 13] rfl ?_
          refine l_drop ?_
          refine cont b fw ls (q_bst_keep hb hS (fun y hy => hy.2) (Or.inr ⟨by omega, Or.inl (by omega)⟩)) hfl
        · refine l_iload C 0 dL_law_270 rfl ?_
          refine l_iload C 9 dL_law_272 rfl ?_
          refine l_icmp_ge (tgt := 289) C dL_law_274 (by decide) ⟨⟨by constructor <;> omega, by constructor <;> omega⟩, fun c4 => ?_, fun c4 => ?_⟩
          · refine l_goto (tgt := 305) C dL_law_289 (by decide) ?_
            refine l_perm [3, 4, 5, 6, 7, 8, 9, 10, 11, 12, 13] rfl ?_
            refine l_drop ?_
            refine cont b fw ls (q_bst_keep hb hS (fun y hy => hy.2) (Or.inr ⟨by omega, Or.inr ⟨by omega, by omega⟩⟩)) hfl
          · refine l_iload C 13 dL_law_277 rfl ?_
            refine l_istore (ls' := [(4, vI x), (15, vI dr), (14, vI (q_rp J T t x)), (13, .ref (ad 0)), (0, .ref b0), (1, .ref o), (2, vI N), (3, vI t), (5, vI fw), (6, vI ls), (7, .ref qt), (8, vI al), (9, vI en), (10, vI x)]) C dL_law_279 (by decide) rfl ?_
            refine l_iload C 2 dL_law_281 rfl ?_
            refine l_istore (ls' := [(5, vI (q_rp J T t x)), (4, vI x), (15, vI dr), (14, vI (q_rp J T t x)), (13, .ref (ad 0)), (0, .ref b0), (1, .ref o), (2, vI N), (3, vI t), (6, vI ls), (7, .ref qt), (8, vI al), (9, vI en), (10, vI x)]) C dL_law_283 (by decide) rfl ?_
            refine l_iload C 2 dL_law_285 rfl ?_
            refine l_istore (ls' := [(6, vI dr), (5, vI (q_rp J T t x)), (4, vI x), (15, vI dr), (14, vI (q_rp J T t x)), (13, .ref (ad 0)), (0, .ref b0), (1, .ref o), (2, vI N), (3, vI t), (7, .ref qt), (8, vI al), (9, vI en), (10, vI x)]) C dL_law_287 (by decide) rfl ?_
            refine l_goto (tgt := 305) C dL_law_289 (by decide) ?_
            refine l_perm [6, 7, 8, 9, 2, 1, 0, 10, 11, 12, 13] rfl ?_
            refine l_drop ?_
            refine cont x (q_rp J T t x) dr (q_bst_take hb hS ⟨hx.1, c⟩ (Or.inr (Or.inr ⟨by omega, by omega⟩))) (fun _ => ⟨rfl, ed⟩)
  · show WN κ D 16 Q n z (X ++ m_cells (GA ad cA D) s3) 233 [(13, .ref (ad 0)), (0, .ref b0), (1, .ref o), (2, vI N), (3, vI t), (4, vI b), (5, vI fw), (6, vI ls), (7, .ref qt), (8, vI al), (9, vI en), (10, vI x)] [vI (-100003)]
    refine l_istore (ls' := [(14, vI (-100003)), (13, .ref (ad 0)), (0, .ref b0), (1, .ref o), (2, vI N), (3, vI t), (4, vI b), (5, vI fw), (6, vI ls), (7, .ref qt), (8, vI al), (9, vI en), (10, vI x)]) C dL_law_233 (by decide) rfl ?_
    refine l_iload C 0 dL_law_235 rfl ?_
    refine l_if_lt (tgt := 292) C dL_law_237 (by decide) ⟨by constructor <;> omega, fun _ => ?_, fun c => absurd c (by omega)⟩
    refine l_aload C 1 dL_law_292 rfl ?_
    refine l_iconst (x := 4) C dL_law_294 ?_
    refine o_call (G := GA ad cA D) (σ := s3) (X := X) (o := 0) (As := [vI 4]) (rest := []) (rs := fun r => [vI r]) (nn := 1) C.1 C.2.1 C.2.2.1 C.2.2.2 hE dL_law_295 (x7_count_ct κ.1.2.1 ad cA D 4 s3) gL_law_X7_count rfl ⟨rfl, rfl⟩ ⟨rfl, by decide +kernel, by decide +kernel, by decide +kernel⟩ ⟨(Nat.le_of_ble_eq_true rfl), (Nat.le_of_ble_eq_true rfl)⟩ shA_0 rfl rfl rfl (Nat.le_of_ble_eq_true rfl) (fun _ => rfl) (l_fit hf.1 hf.2) ?_
    refine V_count4 w1 ?_
    show WN κ D 16 Q n z (X ++ m_cells (GA ad cA D) s3) 298 [(14, vI (-100003)), (13, .ref (ad 0)), (0, .ref b0), (1, .ref o), (2, vI N), (3, vI t), (4, vI b), (5, vI fw), (6, vI ls), (7, .ref qt), (8, vI al), (9, vI en), (10, vI x)] [vI (q_sum (s3 4) (s3 1 0).toNat)]
    rw [w2]
    refine l_iload C 10 dL_law_298 rfl ?_
    refine l_icmp_eq (tgt := 305) C dL_law_300 (by decide) ⟨⟨by constructor <;> omega, by constructor <;> omega⟩, fun _ => ?_, fun c => absurd c (by omega)⟩
    refine l_perm [2, 3, 4, 5, 6, 7, 8, 9, 10, 11, 12] rfl ?_
    refine l_drop ?_
    refine cont b fw ls (q_bst_keep hb hS (fun y hy => hy.2) (Or.inl c)) hfl
