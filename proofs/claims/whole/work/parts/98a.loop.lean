/-! ===== the law's loop (the dispatch written by wip/whole/gen97.py) ===== -/
theorem w_case {κ : KT} {cA : Nat → ClassId} {D : va_G} {b L : Nat} {xs : Nat → Int32} {Q : State → Prop} {n z : Nat} {adA adB : Nat → Nat} {i : Int} {σ τ : Mem} (C : CW κ cA D b L xs) (hEA : m_ext adA κ.2.2 κ.1.2.2.2.2 κ.1.2.2.2.2.heap) (hEB : m_ext adB κ.2.2 κ.1.2.2.2.2 κ.1.2.2.2.2.heap) (hi : 0 ≤ i ∧ i + 3 < L) (R : Rel σ τ) (hfit : n ≤ room_1.cells ∧ z ≤ room_1.slots) (cont : ∀ σ' τ' : Mem, Rel σ' τ' → WN κ D 4 Q n z (m_cells (GB adB cA D) τ' ++ m_cells (GA adA cA D) σ') 929 [(3, vI i), (2, .ref (adB 0)), (1, .ref (adA 0)), (0, .ref b)] []) : WN κ D 4 Q n z (m_cells (GB adB cA D) τ ++ m_cells (GA adA cA D) σ) 32 [(3, vI i), (2, .ref (adB 0)), (1, .ref (adA 0)), (0, .ref b)] [vI (andI (w_x xs i) 31)] := by
  have hx := s_and31 (w_x xs i)
  have hI : InI (andI (w_x xs i) 31) := s_andIn _ _
  by_cases hbig : 25 < andI (w_x xs i) 31
  · exact w_tsOut C (tgt := 929) dL_law_32 (Or.inr hbig) hI (by decide) (cont σ τ R)
  by_cases h0 : andI (w_x xs i) 31 = 0
  · exact w_tsIn C (tgt := 152) 0 dL_law_32 rfl (by omega) (by omega) hI (by decide) (w_arm_joint C hEA hEB hi R hfit cont)
  by_cases h1 : andI (w_x xs i) 31 = 1
  · exact w_tsIn C (tgt := 185) 1 dL_law_32 rfl (by omega) (by omega) hI (by decide) (w_arm_set C hEA hEB hi R hfit cont)
  by_cases h2 : andI (w_x xs i) 31 = 2
  · exact w_tsIn C (tgt := 228) 2 dL_law_32 rfl (by omega) (by omega) hI (by decide) (w_arm_broken C hEA hEB hi R hfit cont)
  by_cases h3 : andI (w_x xs i) 31 = 3
  · exact w_tsIn C (tgt := 277) 3 dL_law_32 rfl (by omega) (by omega) hI (by decide) (w_arm_told C hEA hEB hi R hfit cont)
  by_cases h4 : andI (w_x xs i) 31 = 4
  · exact w_tsIn C (tgt := 310) 4 dL_law_32 rfl (by omega) (by omega) hI (by decide) (w_arm_force C hEA hEB hi R hfit cont)
  by_cases h5 : andI (w_x xs i) 31 = 5
  · exact w_tsIn C (tgt := 354) 5 dL_law_32 rfl (by omega) (by omega) hI (by decide) (w_arm_count C hEA hEB hi R hfit cont)
  by_cases h6 : andI (w_x xs i) 31 = 6
  · exact w_tsIn C (tgt := 377) 6 dL_law_32 rfl (by omega) (by omega) hI (by decide) (w_arm_draw C hEA hEB hi R hfit cont)
  by_cases h7 : andI (w_x xs i) 31 = 7
  · exact w_tsIn C (tgt := 410) 7 dL_law_32 rfl (by omega) (by omega) hI (by decide) (w_arm_row C hEA hEB hi R hfit cont)
  by_cases h8 : andI (w_x xs i) 31 = 8
  · exact w_tsIn C (tgt := 433) 8 dL_law_32 rfl (by omega) (by omega) hI (by decide) (w_arm_pass C hEA hEB hi R hfit cont)
  by_cases h9 : andI (w_x xs i) 31 = 9
  · exact w_tsIn C (tgt := 456) 9 dL_law_32 rfl (by omega) (by omega) hI (by decide) (w_arm_passes C hEA hEB hi R hfit cont)
  by_cases h10 : andI (w_x xs i) 31 = 10
  · exact w_tsIn C (tgt := 479) 10 dL_law_32 rfl (by omega) (by omega) hI (by decide) (w_arm_best C hEA hEB hi R hfit cont)
  by_cases h11 : andI (w_x xs i) 31 = 11
  · exact w_tsIn C (tgt := 512) 11 dL_law_32 rfl (by omega) (by omega) hI (by decide) (w_arm_even C hEA hEB hi R hfit cont)
  by_cases h12 : andI (w_x xs i) 31 = 12
  · exact w_tsIn C (tgt := 545) 12 dL_law_32 rfl (by omega) (by omega) hI (by decide) (w_arm_newCase C hEA hEB hi R hfit cont)
  by_cases h13 : andI (w_x xs i) 31 = 13
  · exact w_tsIn C (tgt := 558) 13 dL_law_32 rfl (by omega) (by omega) hI (by decide) (w_arm_load C hEA hEB hi R hfit cont)
  by_cases h14 : andI (w_x xs i) 31 = 14
  · exact w_tsIn C (tgt := 601) 14 dL_law_32 rfl (by omega) (by omega) hI (by decide) (w_arm_leak C hEA hEB hi R hfit cont)
  by_cases h15 : andI (w_x xs i) 31 = 15
  · exact w_tsIn C (tgt := 635) 15 dL_law_32 rfl (by omega) (by omega) hI (by decide) (w_arm_worst C hEA hEB hi R hfit cont)
  by_cases h16 : andI (w_x xs i) 31 = 16
  · exact w_tsIn C (tgt := 648) 16 dL_law_32 rfl (by omega) (by omega) hI (by decide) (w_arm_weakest C hEA hEB hi R hfit cont)
  by_cases h17 : andI (w_x xs i) 31 = 17
  · exact w_tsIn C (tgt := 661) 17 dL_law_32 rfl (by omega) (by omega) hI (by decide) (w_arm_weights C hEA hEB hi R hfit cont)
  by_cases h18 : andI (w_x xs i) 31 = 18
  · exact w_tsIn C (tgt := 704) 18 dL_law_32 rfl (by omega) (by omega) hI (by decide) (w_arm_chance C hEA hEB hi R hfit cont)
  by_cases h19 : andI (w_x xs i) 31 = 19
  · exact w_tsIn C (tgt := 748) 19 dL_law_32 rfl (by omega) (by omega) hI (by decide) (w_arm_reading C hEA hEB hi R hfit cont)
  by_cases h20 : andI (w_x xs i) 31 = 20
  · exact w_tsIn C (tgt := 791) 20 dL_law_32 rfl (by omega) (by omega) hI (by decide) (w_arm_forget C hEA hEB hi R hfit cont)
  by_cases h21 : andI (w_x xs i) 31 = 21
  · exact w_tsIn C (tgt := 804) 21 dL_law_32 rfl (by omega) (by omega) hI (by decide) (w_arm_fit C hEA hEB hi R hfit cont)
  by_cases h22 : andI (w_x xs i) 31 = 22
  · exact w_tsIn C (tgt := 817) 22 dL_law_32 rfl (by omega) (by omega) hI (by decide) (w_arm_suspect C hEA hEB hi R hfit cont)
  by_cases h23 : andI (w_x xs i) 31 = 23
  · exact w_tsIn C (tgt := 840) 23 dL_law_32 rfl (by omega) (by omega) hI (by decide) (w_arm_feed C hEA hEB hi R hfit cont)
  by_cases h24 : andI (w_x xs i) 31 = 24
  · exact w_tsIn C (tgt := 903) 24 dL_law_32 rfl (by omega) (by omega) hI (by decide) (w_arm_read C hEA hEB hi R hfit cont)
  by_cases h25 : andI (w_x xs i) 31 = 25
  · exact w_tsIn C (tgt := 916) 25 dL_law_32 rfl (by omega) (by omega) hI (by decide) (w_arm_fault C hEA hEB hi R hfit cont)
  omega
/-! ===== the law's loop, and its start ===== -/
section LAWS
variable {κ : KT} {cA : Nat → ClassId} {D : va_G} {b L : Nat} {xs : Nat → Int32} {Q : State → Prop} {n z : Nat} {ws : va_W} {pc : Nat} {ls : List (Nat × Value)} {st : List Value}
theorem w_iinc (C : CW κ cA D b L xs) {i j : Nat} {m x : Int} {ls' : List (Nat × Value)} (d : decode code pc = .ok (.iinc i m, 3)) (hk : ls[j]? = some (i, vI x)) (hn : i < 4) (hl' : (i, vI (x + m)) :: ls.filter (fun q => !(q.1 == i) && !(q.1 + 1 == i && q.2.category == 2)) = ls') (k : WN κ D 4 Q n z ws (pc + 3) ls' st) : WN κ D 4 Q n z ws pc ls st := fun H locs arr hP hD hS hl => lv_iinc C.1.1 C.1.2.1 d hl hk (Int32.ofInt_add x m).symm hn hl' (fun arr' h' => k H locs arr' hP hD hS h')
theorem w_astore (C : CW κ cA D b L xs) {kk : Fin 4} {i : Nat} {ls' : List (Nat × Value)} {x : Nat} (d : decode code pc = .ok (.astore_n kk, 1)) (hi : (kk : Nat) = i) (hn : i < 4) (hl' : (i, .ref x) :: ls.filter (fun q => !(q.1 == i) && !(q.1 + 1 == i && q.2.category == 2)) = ls') (k : WN κ D 4 Q n z ws (pc + 1) ls' st) : WN κ D 4 Q n z ws pc ls (.ref x :: st) := fun H locs arr hP hD hS hl => lv_astore_n C.1.1 C.1.2.1 d hi hl hn hl' (fun arr' h' => k H locs arr' hP hD hS h')
theorem w_istore (C : CW κ cA D b L xs) {kk : Fin 4} {i : Nat} {ls' : List (Nat × Value)} {x : Int} (d : decode code pc = .ok (.istore_n kk, 1)) (hi : (kk : Nat) = i) (hn : i < 4) (hl' : (i, vI x) :: ls.filter (fun q => !(q.1 == i) && !(q.1 + 1 == i && q.2.category == 2)) = ls') (k : WN κ D 4 Q n z ws (pc + 1) ls' st) : WN κ D 4 Q n z ws pc ls (vI x :: st) := fun H locs arr hP hD hS hl => lv_istore_n C.1.1 C.1.2.1 d hi hl hn hl' (fun arr' h' => k H locs arr' hP hD hS h')
theorem w_dup (C : CW κ cA D b L xs) {v : Value} (d : decode code pc = .ok (.dup, 1)) (hv : v.category = 1) (k : WN κ D 4 Q n z ws (pc + 1) ls (v :: v :: st)) : WN κ D 4 Q n z ws pc ls (v :: st) := fun H locs arr hP hD hS hl => lv_dup C.1.1 C.1.2.1 d hv (k H locs arr hP hD hS hl)
theorem w_new (C : CW κ cA D b L xs) {ci N index : Nat} {fs : List Value} {Cn : String} {T : u_T} (d : decode code pc = .ok (.new index, 3)) (hc : vwCl[ci]? = some (Cn, T, N)) (hin : ∀ w ∈ u_ws Cn T N, w ∈ wsL_law) (ty0 : Nat → FieldType) (hty : ∀ k, k < N → parseFieldDescriptor (T k).2.2.1 = some (ty0 k)) (hcl : Cond.classLink RL index Cn ∈ wsL_law) (hinst : Cond.instantiable Cn N ∈ wsL_law) (hini : Cond.initialized Cn ∈ wsL_law) (hfs : ∀ j, j < N → defaultValue (ty0 j) = vp_V fs j) (h1 : n + 1 ≤ room_1.cells) (h2 : z + N ≤ room_1.slots) (kk : ∀ q : Nat, WN κ D 4 Q (n + 1) (z + N) (ws ++ [(q, .inr (ci, fs))]) (pc + 3) ls (.ref q :: st)) : WN κ D 4 Q n z ws pc ls st := by
  intro H locs arr hP hD hS hl
  exact va_new C.1.1 C.1.2.1 C.1.2.2.2.2 hin ty0 hty C.1.2.2.2.1 (C.1.2.2.2.2 _ hcl) (C.1.2.2.2.2 _ hinst) (C.1.2.2.2.2 _ hini) C.2.1 hP hD hS C.2.2.1 hc hfs (by rw [C.2.2.2.1]; exact h1) (by rw [C.2.2.2.1]; exact h2) d (fun q H1 hP hD hS => kk q H1 locs arr hP hD hS hl)
theorem w_init (C : CW κ cA D b L xs) {y : MethodName} {wsY ws' : List Cond} {rm' : Room} {sh : Shp} {h ci mc ms idx : Nat} {fs : List Value} {adS : Nat → Nat} {E : State → Prop} {I : Mem → Prop} {bytes : ByteArray} {X : va_W} (d : decode code pc = .ok (.invokespecial idx, 3)) (hM : MO κ.1.2.1 y wsY rm' sh h ci fs cA D adS E I mc ms) (hl0 : Cond.methodLink RL idx y ∈ wsL_law) (hini : Cond.initialized y.cls ∈ wsL_law) (hinst : Cond.instanceMethod y ∈ wsL_law) (hG : GoodIn wsL_law wsY) (hw : wsY = Cond.code y bytes 1 none :: ws') (hrc : rm'.cells = mc ∧ rm'.slots = ms) (hd : y.cls ≠ "java/lang/invoke/MethodHandle" ∧ y.cls ≠ "java/lang/invoke/VarHandle" ∧ (parseMethodDescriptor y.desc).map (fun d => d.parameters.length) = some 0) (hy : y.name = "<init>") (hR : rm'.frames + 1 ≤ room_1.frames ∧ 8 + (1 + 11) + rm'.locals ≤ room_1.locals) (hE : ∀ s U : State, s.WarmedH U.vm → E s → E U) (e : E κ.1.2.2.2.2) (hX : m_ext adS κ.2.2 κ.1.2.2.2.2 κ.1.2.2.2.2.heap) (hcat : (st.map fun v => v.category).sum ≤ 8) (h1 : n + mc ≤ room_1.cells) (h2 : z + ms ≤ room_1.slots) (kk : ∀ (r : Nat → Nat) (σ : Mem), I σ → WN κ D 4 Q (n + mc) (z + ms) (X ++ m_cells (sh, o_ad adS h r, cA, D) σ) (pc + 3) ls st) : WN κ D 4 Q n z (X ++ [(h, .inr (ci, fs))]) pc ls (.ref h :: st) := by
  intro H locs arr hP hD hS hl
  have hl2 : (X ++ [(h, (.inr (ci, fs) : va_E))])[X.length]? = some (h, .inr (ci, fs)) := by simp
  have hPc : va_P D vwCl [(h, .inr (ci, fs))] H := fun k q hk => by
    have j0 : k < 1 := (List.getElem?_eq_some_iff.mp hk).1
    rw [show k = 0 by omega] at hk
    cases hk
    exact hP X.length _ hl2
  have hDc : va_D (fun _ : Nat => True) [(h, (.inr (ci, fs) : va_E))] := ⟨fun i j p q hp hq _ => by
    have := (List.getElem?_eq_some_iff.mp hp).1
    have := (List.getElem?_eq_some_iff.mp hq).1
    simp at *
    omega, fun _ _ _ => trivial⟩
  have hFc : ∀ q, va_A [(h, (.inr (ci, fs) : va_E))] H.size q → κ.2.2 q := fun q hq => by
    rcases hq with ⟨j, e', hq⟩ | hq
    · have j0 : j < 1 := (List.getElem?_eq_some_iff.mp hq).1
      rw [show j = 0 by omega] at hq
      have z2 : h = q := (Prod.mk.inj (Option.some.inj hq)).1
      rw [← z2]
      exact hD.2 X.length _ hl2
    · exact C.2.2.1 q (Nat.le_trans hS.1 hq)
  refine va_callv (va_runI (As := []) (rest := st) ⟨C.1.1, C.1.2.1, C.1.2.2.1, C.1.2.2.2.1, C.1.2.2.2.2⟩ (hM H.size) (cwI 0 C.1.2.2.2.2 hG hw hrc.1 hrc.2 (C.1.2.2.2.2 _ hini) (C.1.2.2.2.2 _ hl0) (C.1.2.2.2.2 _ hinst) hy hd (by rw [C.2.2.2.1]; exact hR)) ⟨fun a U g mk q => ?_, fun U hU hW => ⟨rfl, by rw [hU], by rw [hU]; exact hPc, va_K.moved hW.alike C.2.1, hDc, hE _ _ hW e, ?_⟩⟩ rfl rfl hl.1 rfl (lv_room hcat) d ⟨by rw [C.2.2.2.1]; exact h1, by rw [C.2.2.2.1]; exact h2⟩) hS (fun q _ h => hFc q h) hFc (fun u t H1 locs1 ht hvm hi hB hz1 hk1 hS1 => ?_)
  · obtain ⟨q0, q1, qP, qK, qD, qE, qX⟩ := q
    exact ⟨q0, q1, qP, va_K.moved (u := U) (U := U.calling g mk a) (Vm.Alike.refl U.vm) qK, qD, hE U (U.calling g mk a) (State.WarmedH.refl U) qE, m_ext.same (u := U) (U := U.calling g mk a) rfl qX⟩
  · rw [hU]
    exact m_ext.warm hW (m_ext.narrow (m_ext.kept hX (fun a h1 h2 => hS.2.1 a h1 h2)) hFc)
  · obtain ⟨hP1, hD1⟩ := hB
    rw [ht] at hP1
    obtain ⟨hP2, hD2⟩ := n_join hP hD hFc hk1 hP1 hD1
    exact kk u.1 u.2 hi H1 locs1 arr hP2 hD2 hS1 hl
theorem w_loop (C : CW κ cA D b L xs) {adA adB : Nat → Nat} (hEA : m_ext adA κ.2.2 κ.1.2.2.2.2 κ.1.2.2.2.2.heap) (hEB : m_ext adB κ.2.2 κ.1.2.2.2.2 κ.1.2.2.2.2.heap) (hfit : n ≤ room_1.cells ∧ z ≤ room_1.slots) (hend : ∀ (ws : va_W) (ls : List (Nat × Value)), WN κ D 4 Q n z ws 935 ls []) : ∀ (m : Nat) (i : Int) (σ τ : Mem), Rel σ τ → 0 ≤ i ∧ i < (L : Int) + 4 → (L : Int) + 4 - i ≤ m → WN κ D 4 Q n z (m_cells (GB adB cA D) τ ++ m_cells (GA adA cA D) σ) 18 [(3, vI i), (2, .ref (adB 0)), (1, .ref (adA 0)), (0, .ref b)] [] := by
  have hL := C.2.2.2.2.2.2.2
  intro m
  induction m with
  | zero =>
    intro i σ τ R hi hm
    omega
  | succ m ih =>
    intro i σ τ R hi hm
    refine w_iload C 0 dL_law_18 rfl ?_
    refine w_aload C 3 dL_law_19 rfl ?_
    refine w_len C dL_law_20 ?_
    refine w_iconst C dL_law_21 ?_
    refine w_isub C dL_law_22 ?_
    refine w_igt C (by constructor <;> omega) (by constructor <;> omega) dL_law_23 (tgt := 935) (by decide) (fun _ => hend _ _) (fun h => ?_)
    refine w_aload C 3 dL_law_26 rfl ?_
    refine w_iload C 0 dL_law_27 rfl ?_
    refine w_iald C (by omega) dL_law_28 ?_
    refine w_bipush C dL_law_29 (by decide) ?_
    refine w_iand C dL_law_31 ?_
    refine w_case C hEA hEB (by omega) R hfit (fun σ' τ' R' => ?_)
    refine w_iinc (j := 0) (ls' := [(3, vI (i + 4)), (2, .ref (adB 0)), (1, .ref (adA 0)), (0, .ref b)]) C dL_law_929 rfl (by decide) rfl ?_
    refine w_goto C dL_law_932 (tgt := 18) (by decide) ?_
    exact ih (i + 4) σ' τ' R' (by omega) (by omega)
end LAWS
