/-! ===== the law, call by call (written by wip/whole/gen97.py) ===== -/
theorem wL_112 : Cond.constantLong RL 112 (4294967295) ∈ wsL_law := by decide +kernel
set_option maxRecDepth 20000 in
theorem w_arm_joint {κ : KT} {cA : Nat → ClassId} {D : va_G} {b L : Nat} {xs : Nat → Int32} {Q : State → Prop} {n z : Nat} {adA adB : Nat → Nat} {i : Int} {σ τ : Mem} (C : CW κ cA D b L xs) (hEA : m_ext adA κ.2.2 κ.1.2.2.2.2 κ.1.2.2.2.2.heap) (hEB : m_ext adB κ.2.2 κ.1.2.2.2.2 κ.1.2.2.2.2.heap) (hi : 0 ≤ i ∧ i + 3 < L) (R : Rel σ τ) (hfit : n ≤ room_1.cells ∧ z ≤ room_1.slots) (cont : ∀ σ' τ' : Mem, Rel σ' τ' → WN κ D 4 Q n z (m_cells (GB adB cA D) τ' ++ m_cells (GA adA cA D) σ') 929 [(3, vI i), (2, .ref (adB 0)), (1, .ref (adA 0)), (0, .ref b)] []) : WN κ D 4 Q n z (m_cells (GB adB cA D) τ ++ m_cells (GA adA cA D) σ) 152 [(3, vI i), (2, .ref (adB 0)), (1, .ref (adA 0)), (0, .ref b)] [] := by
  refine w_aload C 2 dL_law_152 rfl ?_
  refine w_arg C rfl rfl rfl rfl dL_law_153 dL_law_154 dL_law_155 dL_law_156 dL_law_157 rfl rfl (by omega) ?_
  refine w_arg C rfl rfl rfl rfl dL_law_158 dL_law_159 dL_law_160 dL_law_161 dL_law_162 rfl rfl (by omega) ?_
  refine o_call (G := GA adA cA D) (σ := σ) (X := m_cells (GB adB cA D) τ) (o := 0) (As := [vI (w_x xs (i + 1)), vI (w_x xs (i + 2))]) (rest := []) (rs := fun r => [vI r]) (nn := 2) C.1 C.2.1 C.2.2.1 C.2.2.2.1 hEA dL_law_163 (x7_joint_ct κ.1.2.1 adA cA D (w_x xs (i + 1)) (w_x xs (i + 2)) σ) gL_law_X7_joint rfl ⟨rfl, rfl⟩ ⟨rfl, by decide +kernel, by decide +kernel, by decide +kernel⟩ ⟨(Nat.le_of_ble_eq_true rfl), (Nat.le_of_ble_eq_true rfl)⟩ shA_0 rfl rfl rfl (Nat.le_of_ble_eq_true rfl) (fun _ => rfl) hfit ?_
  refine x7_joint_mono (show x7_joint (w_x xs (i + 1)) (w_x xs (i + 2)) σ (fun r σ' => x8_joint (w_x xs (i + 1)) (w_x xs (i + 2)) τ (fun r' τ' => r = r' ∧ Rel σ' τ')) from M_joint R (w_xI _ _) (w_xI _ _)) (fun r σ1 hB => ?_)
  refine n_swap ?_
  show WN κ D 4 Q n z (m_cells (GA adA cA D) σ1 ++ m_cells (GB adB cA D) τ) 166 [(3, vI i), (2, .ref (adB 0)), (1, .ref (adA 0)), (0, .ref b)] [vI r]
  refine w_aload C 1 dL_law_166 rfl ?_
  refine w_arg C rfl rfl rfl rfl dL_law_167 dL_law_168 dL_law_169 dL_law_170 dL_law_171 rfl rfl (by omega) ?_
  refine w_arg C rfl rfl rfl rfl dL_law_172 dL_law_173 dL_law_174 dL_law_175 dL_law_176 rfl rfl (by omega) ?_
  refine o_call (G := GB adB cA D) (σ := τ) (X := m_cells (GA adA cA D) σ1) (o := 0) (As := [vI (w_x xs (i + 1)), vI (w_x xs (i + 2))]) (rest := [vI r]) (rs := fun r => [vI r]) (nn := 2) C.1 C.2.1 C.2.2.1 C.2.2.2.1 hEB dL_law_177 (x8_joint_ct κ.1.2.1 adB cA D (w_x xs (i + 1)) (w_x xs (i + 2)) τ) gL_law_X8_joint rfl ⟨rfl, rfl⟩ ⟨rfl, by decide +kernel, by decide +kernel, by decide +kernel⟩ ⟨(Nat.le_of_ble_eq_true rfl), (Nat.le_of_ble_eq_true rfl)⟩ shB_0 rfl rfl rfl (Nat.le_of_ble_eq_true rfl) (fun _ => rfl) hfit ?_
  refine x8_joint_mono hB (fun r2 τ1 hh => ?_)
  obtain ⟨e, R1⟩ := hh
  refine n_swap ?_
  show WN κ D 4 Q n z (m_cells (GB adB cA D) τ1 ++ m_cells (GA adA cA D) σ1) 180 [(3, vI i), (2, .ref (adB 0)), (1, .ref (adA 0)), (0, .ref b)] [vI r2, vI r]
  refine w_ieq C (tgt := 929) dL_law_180 (by decide) e ?_
  exact cont σ1 τ1 R1
set_option maxRecDepth 20000 in
theorem w_arm_set {κ : KT} {cA : Nat → ClassId} {D : va_G} {b L : Nat} {xs : Nat → Int32} {Q : State → Prop} {n z : Nat} {adA adB : Nat → Nat} {i : Int} {σ τ : Mem} (C : CW κ cA D b L xs) (hEA : m_ext adA κ.2.2 κ.1.2.2.2.2 κ.1.2.2.2.2.heap) (hEB : m_ext adB κ.2.2 κ.1.2.2.2.2 κ.1.2.2.2.2.heap) (hi : 0 ≤ i ∧ i + 3 < L) (R : Rel σ τ) (hfit : n ≤ room_1.cells ∧ z ≤ room_1.slots) (cont : ∀ σ' τ' : Mem, Rel σ' τ' → WN κ D 4 Q n z (m_cells (GB adB cA D) τ' ++ m_cells (GA adA cA D) σ') 929 [(3, vI i), (2, .ref (adB 0)), (1, .ref (adA 0)), (0, .ref b)] []) : WN κ D 4 Q n z (m_cells (GB adB cA D) τ ++ m_cells (GA adA cA D) σ) 185 [(3, vI i), (2, .ref (adB 0)), (1, .ref (adA 0)), (0, .ref b)] [] := by
  refine w_aload C 2 dL_law_185 rfl ?_
  refine w_arg C rfl rfl rfl rfl dL_law_186 dL_law_187 dL_law_188 dL_law_189 dL_law_190 rfl rfl (by omega) ?_
  refine w_arg C rfl rfl rfl rfl dL_law_191 dL_law_192 dL_law_193 dL_law_194 dL_law_195 rfl rfl (by omega) ?_
  refine w_arg C rfl rfl rfl rfl dL_law_196 dL_law_197 dL_law_198 dL_law_199 dL_law_200 rfl rfl (by omega) ?_
  refine o_call (G := GA adA cA D) (σ := σ) (X := m_cells (GB adB cA D) τ) (o := 0) (As := [vI (w_x xs (i + 1)), vI (w_x xs (i + 2)), vI (w_x xs (i + 3))]) (rest := []) (rs := fun r => [vI r]) (nn := 3) C.1 C.2.1 C.2.2.1 C.2.2.2.1 hEA dL_law_201 (x7_set_ct κ.1.2.1 adA cA D (w_x xs (i + 1)) (w_x xs (i + 2)) (w_x xs (i + 3)) σ) gL_law_X7_set rfl ⟨rfl, rfl⟩ ⟨rfl, by decide +kernel, by decide +kernel, by decide +kernel⟩ ⟨(Nat.le_of_ble_eq_true rfl), (Nat.le_of_ble_eq_true rfl)⟩ shA_0 rfl rfl rfl (Nat.le_of_ble_eq_true rfl) (fun _ => rfl) hfit ?_
  refine x7_set_mono (show x7_set (w_x xs (i + 1)) (w_x xs (i + 2)) (w_x xs (i + 3)) σ (fun r σ' => x8_set (w_x xs (i + 1)) (w_x xs (i + 2)) (w_x xs (i + 3)) τ (fun r' τ' => r = r' ∧ Rel σ' τ')) from M_set R (w_xI _ _) (w_xI _ _) (w_xI _ _)) (fun r σ1 hB => ?_)
  refine n_swap ?_
  show WN κ D 4 Q n z (m_cells (GA adA cA D) σ1 ++ m_cells (GB adB cA D) τ) 204 [(3, vI i), (2, .ref (adB 0)), (1, .ref (adA 0)), (0, .ref b)] [vI r]
  refine w_aload C 1 dL_law_204 rfl ?_
  refine w_arg C rfl rfl rfl rfl dL_law_205 dL_law_206 dL_law_207 dL_law_208 dL_law_209 rfl rfl (by omega) ?_
  refine w_arg C rfl rfl rfl rfl dL_law_210 dL_law_211 dL_law_212 dL_law_213 dL_law_214 rfl rfl (by omega) ?_
  refine w_arg C rfl rfl rfl rfl dL_law_215 dL_law_216 dL_law_217 dL_law_218 dL_law_219 rfl rfl (by omega) ?_
  refine o_call (G := GB adB cA D) (σ := τ) (X := m_cells (GA adA cA D) σ1) (o := 0) (As := [vI (w_x xs (i + 1)), vI (w_x xs (i + 2)), vI (w_x xs (i + 3))]) (rest := [vI r]) (rs := fun r => [vI r]) (nn := 3) C.1 C.2.1 C.2.2.1 C.2.2.2.1 hEB dL_law_220 (x8_set_ct κ.1.2.1 adB cA D (w_x xs (i + 1)) (w_x xs (i + 2)) (w_x xs (i + 3)) τ) gL_law_X8_set rfl ⟨rfl, rfl⟩ ⟨rfl, by decide +kernel, by decide +kernel, by decide +kernel⟩ ⟨(Nat.le_of_ble_eq_true rfl), (Nat.le_of_ble_eq_true rfl)⟩ shB_0 rfl rfl rfl (Nat.le_of_ble_eq_true rfl) (fun _ => rfl) hfit ?_
  refine x8_set_mono hB (fun r2 τ1 hh => ?_)
  obtain ⟨e, R1⟩ := hh
  refine n_swap ?_
  show WN κ D 4 Q n z (m_cells (GB adB cA D) τ1 ++ m_cells (GA adA cA D) σ1) 223 [(3, vI i), (2, .ref (adB 0)), (1, .ref (adA 0)), (0, .ref b)] [vI r2, vI r]
  refine w_ieq C (tgt := 929) dL_law_223 (by decide) e ?_
  exact cont σ1 τ1 R1
set_option maxRecDepth 20000 in
theorem w_arm_broken {κ : KT} {cA : Nat → ClassId} {D : va_G} {b L : Nat} {xs : Nat → Int32} {Q : State → Prop} {n z : Nat} {adA adB : Nat → Nat} {i : Int} {σ τ : Mem} (C : CW κ cA D b L xs) (hEA : m_ext adA κ.2.2 κ.1.2.2.2.2 κ.1.2.2.2.2.heap) (hEB : m_ext adB κ.2.2 κ.1.2.2.2.2 κ.1.2.2.2.2.heap) (hi : 0 ≤ i ∧ i + 3 < L) (R : Rel σ τ) (hfit : n ≤ room_1.cells ∧ z ≤ room_1.slots) (cont : ∀ σ' τ' : Mem, Rel σ' τ' → WN κ D 4 Q n z (m_cells (GB adB cA D) τ' ++ m_cells (GA adA cA D) σ') 929 [(3, vI i), (2, .ref (adB 0)), (1, .ref (adA 0)), (0, .ref b)] []) : WN κ D 4 Q n z (m_cells (GB adB cA D) τ ++ m_cells (GA adA cA D) σ) 228 [(3, vI i), (2, .ref (adB 0)), (1, .ref (adA 0)), (0, .ref b)] [] := by
  by_cases h2 : w_x xs (i + 2) = 0
  · refine w_aload C 2 dL_law_228 rfl ?_
    refine w_arg C rfl rfl rfl rfl dL_law_229 dL_law_230 dL_law_231 dL_law_232 dL_law_233 rfl rfl (by omega) ?_
    refine w_arg C rfl rfl rfl rfl dL_law_234 dL_law_235 dL_law_236 dL_law_237 dL_law_238 rfl rfl (by omega) ?_
    refine w_ifeq C (w_xI _ _) dL_law_239 (tgt := 246) (by decide) (fun _ => ?_) (fun q => absurd h2 q)
    refine w_iconst C dL_law_246 ?_
    refine o_call (G := GA adA cA D) (σ := σ) (X := m_cells (GB adB cA D) τ) (o := 0) (As := [vI (w_x xs (i + 1)), vI 0]) (rest := []) (rs := fun r => [vI r]) (nn := 2) C.1 C.2.1 C.2.2.1 C.2.2.2.1 hEA dL_law_247 (x7_broken_ct κ.1.2.1 adA cA D (w_x xs (i + 1)) 0 σ) gL_law_X7_broken rfl ⟨rfl, rfl⟩ ⟨rfl, by decide +kernel, by decide +kernel, by decide +kernel⟩ ⟨(Nat.le_of_ble_eq_true rfl), (Nat.le_of_ble_eq_true rfl)⟩ shA_0 rfl rfl rfl (Nat.le_of_ble_eq_true rfl) (fun _ => rfl) hfit ?_
    refine x7_broken_mono (show x7_broken (w_x xs (i + 1)) 0 σ (fun r σ' => x8_broken (w_x xs (i + 1)) 0 τ (fun r' τ' => r = r' ∧ Rel σ' τ')) from M_broken R (w_xI _ _) (Or.inl rfl)) (fun r σ1 hB => ?_)
    refine n_swap ?_
    show WN κ D 4 Q n z (m_cells (GA adA cA D) σ1 ++ m_cells (GB adB cA D) τ) 250 [(3, vI i), (2, .ref (adB 0)), (1, .ref (adA 0)), (0, .ref b)] [vI r]
    refine w_aload C 1 dL_law_250 rfl ?_
    refine w_arg C rfl rfl rfl rfl dL_law_251 dL_law_252 dL_law_253 dL_law_254 dL_law_255 rfl rfl (by omega) ?_
    refine w_arg C rfl rfl rfl rfl dL_law_256 dL_law_257 dL_law_258 dL_law_259 dL_law_260 rfl rfl (by omega) ?_
    refine w_ifeq C (w_xI _ _) dL_law_261 (tgt := 268) (by decide) (fun _ => ?_) (fun q => absurd h2 q)
    refine w_iconst C dL_law_268 ?_
    refine o_call (G := GB adB cA D) (σ := τ) (X := m_cells (GA adA cA D) σ1) (o := 0) (As := [vI (w_x xs (i + 1)), vI 0]) (rest := [vI r]) (rs := fun r => [vI r]) (nn := 2) C.1 C.2.1 C.2.2.1 C.2.2.2.1 hEB dL_law_269 (x8_broken_ct κ.1.2.1 adB cA D (w_x xs (i + 1)) 0 τ) gL_law_X8_broken rfl ⟨rfl, rfl⟩ ⟨rfl, by decide +kernel, by decide +kernel, by decide +kernel⟩ ⟨(Nat.le_of_ble_eq_true rfl), (Nat.le_of_ble_eq_true rfl)⟩ shB_0 rfl rfl rfl (Nat.le_of_ble_eq_true rfl) (fun _ => rfl) hfit ?_
    refine x8_broken_mono hB (fun r2 τ1 hh => ?_)
    obtain ⟨e, R1⟩ := hh
    refine n_swap ?_
    show WN κ D 4 Q n z (m_cells (GB adB cA D) τ1 ++ m_cells (GA adA cA D) σ1) 272 [(3, vI i), (2, .ref (adB 0)), (1, .ref (adA 0)), (0, .ref b)] [vI r2, vI r]
    refine w_ieq C (tgt := 929) dL_law_272 (by decide) e ?_
    exact cont σ1 τ1 R1
  · refine w_aload C 2 dL_law_228 rfl ?_
    refine w_arg C rfl rfl rfl rfl dL_law_229 dL_law_230 dL_law_231 dL_law_232 dL_law_233 rfl rfl (by omega) ?_
    refine w_arg C rfl rfl rfl rfl dL_law_234 dL_law_235 dL_law_236 dL_law_237 dL_law_238 rfl rfl (by omega) ?_
    refine w_ifeq C (w_xI _ _) dL_law_239 (tgt := 246) (by decide) (fun q => absurd q h2) (fun _ => ?_)
    refine w_iconst C dL_law_242 ?_
    refine w_goto C (tgt := 247) dL_law_243 (by decide) ?_
    refine o_call (G := GA adA cA D) (σ := σ) (X := m_cells (GB adB cA D) τ) (o := 0) (As := [vI (w_x xs (i + 1)), vI 1]) (rest := []) (rs := fun r => [vI r]) (nn := 2) C.1 C.2.1 C.2.2.1 C.2.2.2.1 hEA dL_law_247 (x7_broken_ct κ.1.2.1 adA cA D (w_x xs (i + 1)) 1 σ) gL_law_X7_broken rfl ⟨rfl, rfl⟩ ⟨rfl, by decide +kernel, by decide +kernel, by decide +kernel⟩ ⟨(Nat.le_of_ble_eq_true rfl), (Nat.le_of_ble_eq_true rfl)⟩ shA_0 rfl rfl rfl (Nat.le_of_ble_eq_true rfl) (fun _ => rfl) hfit ?_
    refine x7_broken_mono (show x7_broken (w_x xs (i + 1)) 1 σ (fun r σ' => x8_broken (w_x xs (i + 1)) 1 τ (fun r' τ' => r = r' ∧ Rel σ' τ')) from M_broken R (w_xI _ _) (Or.inr rfl)) (fun r σ1 hB => ?_)
    refine n_swap ?_
    show WN κ D 4 Q n z (m_cells (GA adA cA D) σ1 ++ m_cells (GB adB cA D) τ) 250 [(3, vI i), (2, .ref (adB 0)), (1, .ref (adA 0)), (0, .ref b)] [vI r]
    refine w_aload C 1 dL_law_250 rfl ?_
    refine w_arg C rfl rfl rfl rfl dL_law_251 dL_law_252 dL_law_253 dL_law_254 dL_law_255 rfl rfl (by omega) ?_
    refine w_arg C rfl rfl rfl rfl dL_law_256 dL_law_257 dL_law_258 dL_law_259 dL_law_260 rfl rfl (by omega) ?_
    refine w_ifeq C (w_xI _ _) dL_law_261 (tgt := 268) (by decide) (fun q => absurd q h2) (fun _ => ?_)
    refine w_iconst C dL_law_264 ?_
    refine w_goto C (tgt := 269) dL_law_265 (by decide) ?_
    refine o_call (G := GB adB cA D) (σ := τ) (X := m_cells (GA adA cA D) σ1) (o := 0) (As := [vI (w_x xs (i + 1)), vI 1]) (rest := [vI r]) (rs := fun r => [vI r]) (nn := 2) C.1 C.2.1 C.2.2.1 C.2.2.2.1 hEB dL_law_269 (x8_broken_ct κ.1.2.1 adB cA D (w_x xs (i + 1)) 1 τ) gL_law_X8_broken rfl ⟨rfl, rfl⟩ ⟨rfl, by decide +kernel, by decide +kernel, by decide +kernel⟩ ⟨(Nat.le_of_ble_eq_true rfl), (Nat.le_of_ble_eq_true rfl)⟩ shB_0 rfl rfl rfl (Nat.le_of_ble_eq_true rfl) (fun _ => rfl) hfit ?_
    refine x8_broken_mono hB (fun r2 τ1 hh => ?_)
    obtain ⟨e, R1⟩ := hh
    refine n_swap ?_
    show WN κ D 4 Q n z (m_cells (GB adB cA D) τ1 ++ m_cells (GA adA cA D) σ1) 272 [(3, vI i), (2, .ref (adB 0)), (1, .ref (adA 0)), (0, .ref b)] [vI r2, vI r]
    refine w_ieq C (tgt := 929) dL_law_272 (by decide) e ?_
    exact cont σ1 τ1 R1
set_option maxRecDepth 20000 in
theorem w_arm_told {κ : KT} {cA : Nat → ClassId} {D : va_G} {b L : Nat} {xs : Nat → Int32} {Q : State → Prop} {n z : Nat} {adA adB : Nat → Nat} {i : Int} {σ τ : Mem} (C : CW κ cA D b L xs) (hEA : m_ext adA κ.2.2 κ.1.2.2.2.2 κ.1.2.2.2.2.heap) (hEB : m_ext adB κ.2.2 κ.1.2.2.2.2 κ.1.2.2.2.2.heap) (hi : 0 ≤ i ∧ i + 3 < L) (R : Rel σ τ) (hfit : n ≤ room_1.cells ∧ z ≤ room_1.slots) (cont : ∀ σ' τ' : Mem, Rel σ' τ' → WN κ D 4 Q n z (m_cells (GB adB cA D) τ' ++ m_cells (GA adA cA D) σ') 929 [(3, vI i), (2, .ref (adB 0)), (1, .ref (adA 0)), (0, .ref b)] []) : WN κ D 4 Q n z (m_cells (GB adB cA D) τ ++ m_cells (GA adA cA D) σ) 277 [(3, vI i), (2, .ref (adB 0)), (1, .ref (adA 0)), (0, .ref b)] [] := by
  refine w_aload C 2 dL_law_277 rfl ?_
  refine w_arg C rfl rfl rfl rfl dL_law_278 dL_law_279 dL_law_280 dL_law_281 dL_law_282 rfl rfl (by omega) ?_
  refine w_arg C rfl rfl rfl rfl dL_law_283 dL_law_284 dL_law_285 dL_law_286 dL_law_287 rfl rfl (by omega) ?_
  refine o_call (G := GA adA cA D) (σ := σ) (X := m_cells (GB adB cA D) τ) (o := 0) (As := [vI (w_x xs (i + 1)), vI (w_x xs (i + 2))]) (rest := []) (rs := fun r => [vI r]) (nn := 2) C.1 C.2.1 C.2.2.1 C.2.2.2.1 hEA dL_law_288 (x7_told_ct κ.1.2.1 adA cA D (w_x xs (i + 1)) (w_x xs (i + 2)) σ) gL_law_X7_told rfl ⟨rfl, rfl⟩ ⟨rfl, by decide +kernel, by decide +kernel, by decide +kernel⟩ ⟨(Nat.le_of_ble_eq_true rfl), (Nat.le_of_ble_eq_true rfl)⟩ shA_0 rfl rfl rfl (Nat.le_of_ble_eq_true rfl) (fun _ => rfl) hfit ?_
  refine x7_told_mono (show x7_told (w_x xs (i + 1)) (w_x xs (i + 2)) σ (fun r σ' => x8_told (w_x xs (i + 1)) (w_x xs (i + 2)) τ (fun r' τ' => r = r' ∧ Rel σ' τ')) from M_told R (w_xI _ _) (w_xI _ _)) (fun r σ1 hB => ?_)
  refine n_swap ?_
  show WN κ D 4 Q n z (m_cells (GA adA cA D) σ1 ++ m_cells (GB adB cA D) τ) 291 [(3, vI i), (2, .ref (adB 0)), (1, .ref (adA 0)), (0, .ref b)] [vI r]
  refine w_aload C 1 dL_law_291 rfl ?_
  refine w_arg C rfl rfl rfl rfl dL_law_292 dL_law_293 dL_law_294 dL_law_295 dL_law_296 rfl rfl (by omega) ?_
  refine w_arg C rfl rfl rfl rfl dL_law_297 dL_law_298 dL_law_299 dL_law_300 dL_law_301 rfl rfl (by omega) ?_
  refine o_call (G := GB adB cA D) (σ := τ) (X := m_cells (GA adA cA D) σ1) (o := 0) (As := [vI (w_x xs (i + 1)), vI (w_x xs (i + 2))]) (rest := [vI r]) (rs := fun r => [vI r]) (nn := 2) C.1 C.2.1 C.2.2.1 C.2.2.2.1 hEB dL_law_302 (x8_told_ct κ.1.2.1 adB cA D (w_x xs (i + 1)) (w_x xs (i + 2)) τ) gL_law_X8_told rfl ⟨rfl, rfl⟩ ⟨rfl, by decide +kernel, by decide +kernel, by decide +kernel⟩ ⟨(Nat.le_of_ble_eq_true rfl), (Nat.le_of_ble_eq_true rfl)⟩ shB_0 rfl rfl rfl (Nat.le_of_ble_eq_true rfl) (fun _ => rfl) hfit ?_
  refine x8_told_mono hB (fun r2 τ1 hh => ?_)
  obtain ⟨e, R1⟩ := hh
  refine n_swap ?_
  show WN κ D 4 Q n z (m_cells (GB adB cA D) τ1 ++ m_cells (GA adA cA D) σ1) 305 [(3, vI i), (2, .ref (adB 0)), (1, .ref (adA 0)), (0, .ref b)] [vI r2, vI r]
  refine w_ieq C (tgt := 929) dL_law_305 (by decide) e ?_
  exact cont σ1 τ1 R1
set_option maxRecDepth 20000 in
theorem w_arm_force {κ : KT} {cA : Nat → ClassId} {D : va_G} {b L : Nat} {xs : Nat → Int32} {Q : State → Prop} {n z : Nat} {adA adB : Nat → Nat} {i : Int} {σ τ : Mem} (C : CW κ cA D b L xs) (hEA : m_ext adA κ.2.2 κ.1.2.2.2.2 κ.1.2.2.2.2.heap) (hEB : m_ext adB κ.2.2 κ.1.2.2.2.2 κ.1.2.2.2.2.heap) (hi : 0 ≤ i ∧ i + 3 < L) (R : Rel σ τ) (hfit : n ≤ room_1.cells ∧ z ≤ room_1.slots) (cont : ∀ σ' τ' : Mem, Rel σ' τ' → WN κ D 4 Q n z (m_cells (GB adB cA D) τ' ++ m_cells (GA adA cA D) σ') 929 [(3, vI i), (2, .ref (adB 0)), (1, .ref (adA 0)), (0, .ref b)] []) : WN κ D 4 Q n z (m_cells (GB adB cA D) τ ++ m_cells (GA adA cA D) σ) 310 [(3, vI i), (2, .ref (adB 0)), (1, .ref (adA 0)), (0, .ref b)] [] := by
  refine w_aload C 2 dL_law_310 rfl ?_
  refine w_arg C rfl rfl rfl rfl dL_law_311 dL_law_312 dL_law_313 dL_law_314 dL_law_315 rfl rfl (by omega) ?_
  refine w_arg C rfl rfl rfl rfl dL_law_316 dL_law_317 dL_law_318 dL_law_319 dL_law_320 rfl rfl (by omega) ?_
  refine w_arg C rfl rfl rfl rfl dL_law_321 dL_law_322 dL_law_323 dL_law_324 dL_law_325 rfl rfl (by omega) ?_
  refine o_call (G := GA adA cA D) (σ := σ) (X := m_cells (GB adB cA D) τ) (o := 0) (As := [vI (w_x xs (i + 1)), vI (w_x xs (i + 2)), vI (w_x xs (i + 3))]) (rest := []) (rs := fun r => [vL r]) (nn := 3) C.1 C.2.1 C.2.2.1 C.2.2.2.1 hEA dL_law_326 (x7_force_ct κ.1.2.1 adA cA D (w_x xs (i + 1)) (w_x xs (i + 2)) (w_x xs (i + 3)) σ) gL_law_X7_force rfl ⟨rfl, rfl⟩ ⟨rfl, by decide +kernel, by decide +kernel, by decide +kernel⟩ ⟨(Nat.le_of_ble_eq_true rfl), (Nat.le_of_ble_eq_true rfl)⟩ shA_0 rfl rfl rfl (Nat.le_of_ble_eq_true rfl) (fun _ => rfl) hfit ?_
  refine x7_force_mono (show x7_force (w_x xs (i + 1)) (w_x xs (i + 2)) (w_x xs (i + 3)) σ (fun r σ' => x8_force (w_x xs (i + 1)) (w_x xs (i + 2)) (w_x xs (i + 3)) τ (fun r' τ' => r = r' ∧ Rel σ' τ')) from M_force R (w_xI _ _) (w_xI _ _) (w_xI _ _)) (fun r σ1 hB => ?_)
  refine n_swap ?_
  show WN κ D 4 Q n z (m_cells (GA adA cA D) σ1 ++ m_cells (GB adB cA D) τ) 329 [(3, vI i), (2, .ref (adB 0)), (1, .ref (adA 0)), (0, .ref b)] [vL r]
  refine w_aload C 1 dL_law_329 rfl ?_
  refine w_arg C rfl rfl rfl rfl dL_law_330 dL_law_331 dL_law_332 dL_law_333 dL_law_334 rfl rfl (by omega) ?_
  refine w_arg C rfl rfl rfl rfl dL_law_335 dL_law_336 dL_law_337 dL_law_338 dL_law_339 rfl rfl (by omega) ?_
  refine w_arg C rfl rfl rfl rfl dL_law_340 dL_law_341 dL_law_342 dL_law_343 dL_law_344 rfl rfl (by omega) ?_
  refine o_call (G := GB adB cA D) (σ := τ) (X := m_cells (GA adA cA D) σ1) (o := 0) (As := [vI (w_x xs (i + 1)), vI (w_x xs (i + 2)), vI (w_x xs (i + 3))]) (rest := [vL r]) (rs := fun r => [vL r]) (nn := 3) C.1 C.2.1 C.2.2.1 C.2.2.2.1 hEB dL_law_345 (x8_force_ct κ.1.2.1 adB cA D (w_x xs (i + 1)) (w_x xs (i + 2)) (w_x xs (i + 3)) τ) gL_law_X8_force rfl ⟨rfl, rfl⟩ ⟨rfl, by decide +kernel, by decide +kernel, by decide +kernel⟩ ⟨(Nat.le_of_ble_eq_true rfl), (Nat.le_of_ble_eq_true rfl)⟩ shB_0 rfl rfl rfl (Nat.le_of_ble_eq_true rfl) (fun _ => rfl) hfit ?_
  refine x8_force_mono hB (fun r2 τ1 hh => ?_)
  obtain ⟨e, R1⟩ := hh
  refine n_swap ?_
  show WN κ D 4 Q n z (m_cells (GB adB cA D) τ1 ++ m_cells (GA adA cA D) σ1) 348 [(3, vI i), (2, .ref (adB 0)), (1, .ref (adA 0)), (0, .ref b)] [vL r2, vL r]
  refine w_leq C (tgt := 929) dL_law_348 dL_law_349 (by decide) e ?_
  exact cont σ1 τ1 R1
set_option maxRecDepth 20000 in
theorem w_arm_count {κ : KT} {cA : Nat → ClassId} {D : va_G} {b L : Nat} {xs : Nat → Int32} {Q : State → Prop} {n z : Nat} {adA adB : Nat → Nat} {i : Int} {σ τ : Mem} (C : CW κ cA D b L xs) (hEA : m_ext adA κ.2.2 κ.1.2.2.2.2 κ.1.2.2.2.2.heap) (hEB : m_ext adB κ.2.2 κ.1.2.2.2.2 κ.1.2.2.2.2.heap) (hi : 0 ≤ i ∧ i + 3 < L) (R : Rel σ τ) (hfit : n ≤ room_1.cells ∧ z ≤ room_1.slots) (cont : ∀ σ' τ' : Mem, Rel σ' τ' → WN κ D 4 Q n z (m_cells (GB adB cA D) τ' ++ m_cells (GA adA cA D) σ') 929 [(3, vI i), (2, .ref (adB 0)), (1, .ref (adA 0)), (0, .ref b)] []) : WN κ D 4 Q n z (m_cells (GB adB cA D) τ ++ m_cells (GA adA cA D) σ) 354 [(3, vI i), (2, .ref (adB 0)), (1, .ref (adA 0)), (0, .ref b)] [] := by
  refine w_aload C 2 dL_law_354 rfl ?_
  refine w_arg C rfl rfl rfl rfl dL_law_355 dL_law_356 dL_law_357 dL_law_358 dL_law_359 rfl rfl (by omega) ?_
  refine o_call (G := GA adA cA D) (σ := σ) (X := m_cells (GB adB cA D) τ) (o := 0) (As := [vI (w_x xs (i + 1))]) (rest := []) (rs := fun r => [vI r]) (nn := 1) C.1 C.2.1 C.2.2.1 C.2.2.2.1 hEA dL_law_360 (x7_count_ct κ.1.2.1 adA cA D (w_x xs (i + 1)) σ) gL_law_X7_count rfl ⟨rfl, rfl⟩ ⟨rfl, by decide +kernel, by decide +kernel, by decide +kernel⟩ ⟨(Nat.le_of_ble_eq_true rfl), (Nat.le_of_ble_eq_true rfl)⟩ shA_0 rfl rfl rfl (Nat.le_of_ble_eq_true rfl) (fun _ => rfl) hfit ?_
  refine x7_count_mono (show x7_count (w_x xs (i + 1)) σ (fun r σ' => x8_count (w_x xs (i + 1)) τ (fun r' τ' => r = r' ∧ Rel σ' τ')) from M_count R (w_xI _ _)) (fun r σ1 hB => ?_)
  refine n_swap ?_
  show WN κ D 4 Q n z (m_cells (GA adA cA D) σ1 ++ m_cells (GB adB cA D) τ) 363 [(3, vI i), (2, .ref (adB 0)), (1, .ref (adA 0)), (0, .ref b)] [vI r]
  refine w_aload C 1 dL_law_363 rfl ?_
  refine w_arg C rfl rfl rfl rfl dL_law_364 dL_law_365 dL_law_366 dL_law_367 dL_law_368 rfl rfl (by omega) ?_
  refine o_call (G := GB adB cA D) (σ := τ) (X := m_cells (GA adA cA D) σ1) (o := 0) (As := [vI (w_x xs (i + 1))]) (rest := [vI r]) (rs := fun r => [vI r]) (nn := 1) C.1 C.2.1 C.2.2.1 C.2.2.2.1 hEB dL_law_369 (x8_count_ct κ.1.2.1 adB cA D (w_x xs (i + 1)) τ) gL_law_X8_count rfl ⟨rfl, rfl⟩ ⟨rfl, by decide +kernel, by decide +kernel, by decide +kernel⟩ ⟨(Nat.le_of_ble_eq_true rfl), (Nat.le_of_ble_eq_true rfl)⟩ shB_0 rfl rfl rfl (Nat.le_of_ble_eq_true rfl) (fun _ => rfl) hfit ?_
  refine x8_count_mono hB (fun r2 τ1 hh => ?_)
  obtain ⟨e, R1⟩ := hh
  refine n_swap ?_
  show WN κ D 4 Q n z (m_cells (GB adB cA D) τ1 ++ m_cells (GA adA cA D) σ1) 372 [(3, vI i), (2, .ref (adB 0)), (1, .ref (adA 0)), (0, .ref b)] [vI r2, vI r]
  refine w_ieq C (tgt := 929) dL_law_372 (by decide) e ?_
  exact cont σ1 τ1 R1
set_option maxRecDepth 20000 in
theorem w_arm_draw {κ : KT} {cA : Nat → ClassId} {D : va_G} {b L : Nat} {xs : Nat → Int32} {Q : State → Prop} {n z : Nat} {adA adB : Nat → Nat} {i : Int} {σ τ : Mem} (C : CW κ cA D b L xs) (hEA : m_ext adA κ.2.2 κ.1.2.2.2.2 κ.1.2.2.2.2.heap) (hEB : m_ext adB κ.2.2 κ.1.2.2.2.2 κ.1.2.2.2.2.heap) (hi : 0 ≤ i ∧ i + 3 < L) (R : Rel σ τ) (hfit : n ≤ room_1.cells ∧ z ≤ room_1.slots) (cont : ∀ σ' τ' : Mem, Rel σ' τ' → WN κ D 4 Q n z (m_cells (GB adB cA D) τ' ++ m_cells (GA adA cA D) σ') 929 [(3, vI i), (2, .ref (adB 0)), (1, .ref (adA 0)), (0, .ref b)] []) : WN κ D 4 Q n z (m_cells (GB adB cA D) τ ++ m_cells (GA adA cA D) σ) 377 [(3, vI i), (2, .ref (adB 0)), (1, .ref (adA 0)), (0, .ref b)] [] := by
  refine w_aload C 2 dL_law_377 rfl ?_
  refine w_arg C rfl rfl rfl rfl dL_law_378 dL_law_379 dL_law_380 dL_law_381 dL_law_382 rfl rfl (by omega) ?_
  refine w_arg C rfl rfl rfl rfl dL_law_383 dL_law_384 dL_law_385 dL_law_386 dL_law_387 rfl rfl (by omega) ?_
  refine o_call (G := GA adA cA D) (σ := σ) (X := m_cells (GB adB cA D) τ) (o := 0) (As := [vI (w_x xs (i + 1)), vI (w_x xs (i + 2))]) (rest := []) (rs := fun r => [vI r]) (nn := 2) C.1 C.2.1 C.2.2.1 C.2.2.2.1 hEA dL_law_388 (x7_draw_ct κ.1.2.1 adA cA D (w_x xs (i + 1)) (w_x xs (i + 2)) σ) gL_law_X7_draw rfl ⟨rfl, rfl⟩ ⟨rfl, by decide +kernel, by decide +kernel, by decide +kernel⟩ ⟨(Nat.le_of_ble_eq_true rfl), (Nat.le_of_ble_eq_true rfl)⟩ shA_0 rfl rfl rfl (Nat.le_of_ble_eq_true rfl) (fun _ => rfl) hfit ?_
  refine x7_draw_mono (show x7_draw (w_x xs (i + 1)) (w_x xs (i + 2)) σ (fun r σ' => x8_draw (w_x xs (i + 1)) (w_x xs (i + 2)) τ (fun r' τ' => r = r' ∧ Rel σ' τ')) from M_draw R (w_xI _ _) (w_xI _ _)) (fun r σ1 hB => ?_)
  refine n_swap ?_
  show WN κ D 4 Q n z (m_cells (GA adA cA D) σ1 ++ m_cells (GB adB cA D) τ) 391 [(3, vI i), (2, .ref (adB 0)), (1, .ref (adA 0)), (0, .ref b)] [vI r]
  refine w_aload C 1 dL_law_391 rfl ?_
  refine w_arg C rfl rfl rfl rfl dL_law_392 dL_law_393 dL_law_394 dL_law_395 dL_law_396 rfl rfl (by omega) ?_
  refine w_arg C rfl rfl rfl rfl dL_law_397 dL_law_398 dL_law_399 dL_law_400 dL_law_401 rfl rfl (by omega) ?_
  refine o_call (G := GB adB cA D) (σ := τ) (X := m_cells (GA adA cA D) σ1) (o := 0) (As := [vI (w_x xs (i + 1)), vI (w_x xs (i + 2))]) (rest := [vI r]) (rs := fun r => [vI r]) (nn := 2) C.1 C.2.1 C.2.2.1 C.2.2.2.1 hEB dL_law_402 (x8_draw_ct κ.1.2.1 adB cA D (w_x xs (i + 1)) (w_x xs (i + 2)) τ) gL_law_X8_draw rfl ⟨rfl, rfl⟩ ⟨rfl, by decide +kernel, by decide +kernel, by decide +kernel⟩ ⟨(Nat.le_of_ble_eq_true rfl), (Nat.le_of_ble_eq_true rfl)⟩ shB_0 rfl rfl rfl (Nat.le_of_ble_eq_true rfl) (fun _ => rfl) hfit ?_
  refine x8_draw_mono hB (fun r2 τ1 hh => ?_)
  obtain ⟨e, R1⟩ := hh
  refine n_swap ?_
  show WN κ D 4 Q n z (m_cells (GB adB cA D) τ1 ++ m_cells (GA adA cA D) σ1) 405 [(3, vI i), (2, .ref (adB 0)), (1, .ref (adA 0)), (0, .ref b)] [vI r2, vI r]
  refine w_ieq C (tgt := 929) dL_law_405 (by decide) e ?_
  exact cont σ1 τ1 R1
