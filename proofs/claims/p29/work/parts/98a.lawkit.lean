/-! ===== the law: its rows (written by wip/p29/mk98a.py) ===== -/
def CL (κ : KT) (cA : Nat → ClassId) (D : va_G) : Prop :=
  (κ.1.1.tables.exec = Jvm.exec ∧ κ.2.1.2.2.2.2.code = code ∧ κ.2.1.2.2.2.2.maxLocals = 16 ∧ κ.1.2.2.2.2.vm.findClass RL = some κ.2.1.1.cls ∧ (∀ w ∈ wsL_law, w.before κ.2.1.2.1 κ.1.2.2.2.2 = true)) ∧ va_K D vwCl (m_tys cA) κ.1.2.2.2.2 ∧ (∀ q, κ.1.2.2.2.2.heap.size ≤ q → κ.2.2 q) ∧ κ.1.2.2.2.1 = room_1
theorem l_fit {n z : Nat} (h1 : n ≤ 600000) (h2 : z ≤ 7302249) : n ≤ room_1.cells ∧ z ≤ room_1.slots := ⟨h1, h2⟩
section LROWS
variable {κ : KT} {cA : Nat → ClassId} {D : va_G} {Q : State → Prop} {n z : Nat} {ws : va_W} {pc : Nat} {ls : List (Nat × Value)} {st : List Value}
theorem l_iconst (C : CL κ cA D) {x : Int} (d : decode code pc = .ok (.iconst x, 1)) (k : WN κ D 16 Q n z ws (pc + 1) ls (vI x :: st)) : WN κ D 16 Q n z ws pc ls st := fun H locs arr hP hD hS hl => lv_iconst C.1.1 C.1.2.1 d rfl (k H locs arr hP hD hS hl)
theorem l_bipush (C : CL κ cA D) {x : Int} (d : decode code pc = .ok (.bipush x, 2)) (hn : (Int8.ofInt x).toInt32 = Int32.ofInt x) (k : WN κ D 16 Q n z ws (pc + 2) ls (vI x :: st)) : WN κ D 16 Q n z ws pc ls st := fun H locs arr hP hD hS hl => lv_bipush C.1.1 C.1.2.1 d hn (k H locs arr hP hD hS hl)
theorem l_sipush (C : CL κ cA D) {x : Int} (d : decode code pc = .ok (.sipush x, 3)) (hn : (Int16.ofInt x).toInt32 = Int32.ofInt x) (k : WN κ D 16 Q n z ws (pc + 3) ls (vI x :: st)) : WN κ D 16 Q n z ws pc ls st := fun H locs arr hP hD hS hl => lv_sipush C.1.1 C.1.2.1 d hn (k H locs arr hP hD hS hl)
theorem l_ldc (C : CL κ cA D) {index : Nat} {v : Int32} {y : Int} (d : decode code pc = .ok (.ldc index, 2)) (hc : Cond.constant RL index v ∈ wsL_law) (hz : v = Int32.ofInt y) (k : WN κ D 16 Q n z ws (pc + 2) ls (vI y :: st)) : WN κ D 16 Q n z ws pc ls st := fun H locs arr hP hD hS hl => lv_ldc C.1.1 C.1.2.1 C.1.2.2.2.1 (C.1.2.2.2.2 _ hc) d (by rw [hz]; exact k H locs arr hP hD hS hl)
theorem l_iload_n (C : CL κ cA D) {kk : Fin 4} {x : Int} (j : Nat) (d : decode code pc = .ok (.iload_n kk, 1)) (hk : ls[j]? = some ((kk : Nat), vI x)) (k : WN κ D 16 Q n z ws (pc + 1) ls (vI x :: st)) : WN κ D 16 Q n z ws pc ls st := fun H locs arr hP hD hS hl => lv_iload_n C.1.1 C.1.2.1 d rfl (lv_at hl j hk) (k H locs arr hP hD hS hl)
theorem l_iload (C : CL κ cA D) {i : Nat} {x : Int} (j : Nat) (d : decode code pc = .ok (.iload i, 2)) (hk : ls[j]? = some (i, vI x)) (k : WN κ D 16 Q n z ws (pc + 2) ls (vI x :: st)) : WN κ D 16 Q n z ws pc ls st := fun H locs arr hP hD hS hl => lv_iload C.1.1 C.1.2.1 d (lv_at hl j hk) (k H locs arr hP hD hS hl)
theorem l_aload_n (C : CL κ cA D) {kk : Fin 4} {x : Nat} (j : Nat) (d : decode code pc = .ok (.aload_n kk, 1)) (hk : ls[j]? = some ((kk : Nat), .ref x)) (k : WN κ D 16 Q n z ws (pc + 1) ls (.ref x :: st)) : WN κ D 16 Q n z ws pc ls st := fun H locs arr hP hD hS hl => lv_aload_n C.1.1 C.1.2.1 d rfl (lv_at hl j hk) (k H locs arr hP hD hS hl)
theorem l_aload (C : CL κ cA D) {i : Nat} {x : Nat} (j : Nat) (d : decode code pc = .ok (.aload i, 2)) (hk : ls[j]? = some (i, .ref x)) (k : WN κ D 16 Q n z ws (pc + 2) ls (.ref x :: st)) : WN κ D 16 Q n z ws pc ls st := fun H locs arr hP hD hS hl => lv_aload C.1.1 C.1.2.1 d (lv_at hl j hk) (k H locs arr hP hD hS hl)
theorem l_istore_n (C : CL κ cA D) {kk : Fin 4} {i : Nat} {ls' : List (Nat × Value)} {x : Int} (d : decode code pc = .ok (.istore_n kk, 1)) (hi : (kk : Nat) = i) (hn : i < 16) (hl' : (i, vI x) :: ls.filter (fun q => !(q.1 == i) && !(q.1 + 1 == i && q.2.category == 2)) = ls') (k : WN κ D 16 Q n z ws (pc + 1) ls' st) : WN κ D 16 Q n z ws pc ls (vI x :: st) := fun H locs arr hP hD hS hl => lv_istore_n C.1.1 C.1.2.1 d hi hl hn hl' (fun arr' h' => k H locs arr' hP hD hS h')
theorem l_istore (C : CL κ cA D) {i : Nat} {ls' : List (Nat × Value)} {x : Int} (d : decode code pc = .ok (.istore i, 2)) (hn : i < 16) (hl' : (i, vI x) :: ls.filter (fun q => !(q.1 == i) && !(q.1 + 1 == i && q.2.category == 2)) = ls') (k : WN κ D 16 Q n z ws (pc + 2) ls' st) : WN κ D 16 Q n z ws pc ls (vI x :: st) := fun H locs arr hP hD hS hl => lv_istore C.1.1 C.1.2.1 d hl hn hl' (fun arr' h' => k H locs arr' hP hD hS h')
theorem l_astore_n (C : CL κ cA D) {kk : Fin 4} {i : Nat} {ls' : List (Nat × Value)} {x : Nat} (d : decode code pc = .ok (.astore_n kk, 1)) (hi : (kk : Nat) = i) (hn : i < 16) (hl' : (i, .ref x) :: ls.filter (fun q => !(q.1 == i) && !(q.1 + 1 == i && q.2.category == 2)) = ls') (k : WN κ D 16 Q n z ws (pc + 1) ls' st) : WN κ D 16 Q n z ws pc ls (.ref x :: st) := fun H locs arr hP hD hS hl => lv_astore_n C.1.1 C.1.2.1 d hi hl hn hl' (fun arr' h' => k H locs arr' hP hD hS h')
theorem l_astore (C : CL κ cA D) {i : Nat} {ls' : List (Nat × Value)} {x : Nat} (d : decode code pc = .ok (.astore i, 2)) (hn : i < 16) (hl' : (i, .ref x) :: ls.filter (fun q => !(q.1 == i) && !(q.1 + 1 == i && q.2.category == 2)) = ls') (k : WN κ D 16 Q n z ws (pc + 2) ls' st) : WN κ D 16 Q n z ws pc ls (.ref x :: st) := fun H locs arr hP hD hS hl => lv_astore C.1.1 C.1.2.1 d hl hn hl' (fun arr' h' => k H locs arr' hP hD hS h')
theorem l_iinc (C : CL κ cA D) {i j : Nat} {m x : Int} {ls' : List (Nat × Value)} (d : decode code pc = .ok (.iinc i m, 3)) (hk : ls[j]? = some (i, vI x)) (hn : i < 16) (hl' : (i, vI (x + m)) :: ls.filter (fun q => !(q.1 == i) && !(q.1 + 1 == i && q.2.category == 2)) = ls') (k : WN κ D 16 Q n z ws (pc + 3) ls' st) : WN κ D 16 Q n z ws pc ls st := fun H locs arr hP hD hS hl => lv_iinc C.1.1 C.1.2.1 d hl hk (Int32.ofInt_add x m).symm hn hl' (fun arr' h' => k H locs arr' hP hD hS h')
theorem l_iadd (C : CL κ cA D) {x y : Int} (d : decode code pc = .ok (.iadd, 1)) (k : WN κ D 16 Q n z ws (pc + 1) ls (vI (x + y) :: st)) : WN κ D 16 Q n z ws pc ls (vI y :: vI x :: st) := by
  intro H locs arr hP hD hS hl
  have h := k H locs arr hP hD hS hl
  rw [vI, Int32.ofInt_add] at h
  exact lv_iadd C.1.1 C.1.2.1 d h
theorem l_isub (C : CL κ cA D) {x y : Int} (d : decode code pc = .ok (.isub, 1)) (k : WN κ D 16 Q n z ws (pc + 1) ls (vI (x - y) :: st)) : WN κ D 16 Q n z ws pc ls (vI y :: vI x :: st) := by
  intro H locs arr hP hD hS hl
  have h := k H locs arr hP hD hS hl
  rw [vI, Int32.ofInt_sub] at h
  exact lv_isub C.1.1 C.1.2.1 d h
theorem l_ior (C : CL κ cA D) {x y : Int} (d : decode code pc = .ok (.ior, 1)) (k : WN κ D 16 Q n z ws (pc + 1) ls (vI (orI x y) :: st)) : WN κ D 16 Q n z ws pc ls (vI y :: vI x :: st) := by
  intro H locs arr hP hD hS hl
  have h := k H locs arr hP hD hS hl
  rw [orI, vI_of] at h
  exact lv_ior C.1.1 C.1.2.1 d h
theorem l_ishl (C : CL κ cA D) {x y : Int} (d : decode code pc = .ok (.ishl, 1)) (k : WN κ D 16 Q n z ws (pc + 1) ls (vI (shlI x y) :: st)) : WN κ D 16 Q n z ws pc ls (vI y :: vI x :: st) := by
  intro H locs arr hP hD hS hl
  have h := k H locs arr hP hD hS hl
  rw [shlI, vI_of] at h
  exact lv_ishl C.1.1 C.1.2.1 d h
theorem l_idiv (C : CL κ cA D) {x y : Int} (d : decode code pc = .ok (.idiv, 1)) (k : (InI x ∧ InI y ∧ ¬ y = 0) ∧ WN κ D 16 Q n z ws (pc + 1) ls (vI (x.tdiv y) :: st)) : WN κ D 16 Q n z ws pc ls (vI y :: vI x :: st) := by
  intro H locs arr hP hD hS hl
  have h := k.2 H locs arr hP hD hS hl
  rw [vI, ← n_divI k.1.1 k.1.2.1] at h
  refine lv_idiv C.1.1 C.1.2.1 d (fun h0 => k.1.2.2 ?_) h
  have h1 : Int32.ofInt y = Int32.ofInt 0 := h0
  rwa [n_eq k.1.2.1 ⟨by omega, by omega⟩] at h1
theorem l_irem (C : CL κ cA D) {x y : Int} (d : decode code pc = .ok (.irem, 1)) (k : (InI x ∧ InI y ∧ ¬ y = 0) ∧ WN κ D 16 Q n z ws (pc + 1) ls (vI (x.tmod y) :: st)) : WN κ D 16 Q n z ws pc ls (vI y :: vI x :: st) := by
  intro H locs arr hP hD hS hl
  have h := k.2 H locs arr hP hD hS hl
  rw [vI, ← n_remI k.1.1 k.1.2.1] at h
  refine lv_irem C.1.1 C.1.2.1 d (fun h0 => k.1.2.2 ?_) h
  have h1 : Int32.ofInt y = Int32.ofInt 0 := h0
  rwa [n_eq k.1.2.1 ⟨by omega, by omega⟩] at h1
theorem l_dup (C : CL κ cA D) {v : Value} (d : decode code pc = .ok (.dup, 1)) (hv : v.category = 1) (k : WN κ D 16 Q n z ws (pc + 1) ls (v :: v :: st)) : WN κ D 16 Q n z ws pc ls (v :: st) := fun H locs arr hP hD hS hl => lv_dup C.1.1 C.1.2.1 d hv (k H locs arr hP hD hS hl)
theorem l_goto (C : CL κ cA D) {off : Int} {tgt : Nat} (d : decode code pc = .ok (.goto off, 3)) (ht : (pc : Int) + off = (tgt : Int)) (k : WN κ D 16 Q n z ws tgt ls st) : WN κ D 16 Q n z ws pc ls st := fun H locs arr hP hD hS hl => lv_goto C.1.1 C.1.2.1 d ht (k H locs arr hP hD hS hl)
theorem l_perm (is : List Nat) {ls' : List (Nat × Value)} (h : lv_pick ls is = ls') (k : WN κ D 16 Q n z ws pc ls' st) : WN κ D 16 Q n z ws pc ls st := fun H locs arr hP hD hS hl => k H locs arr hP hD hS (lv_sub hl is h)
theorem l_icmp_eq (C : CL κ cA D) {x y : Int} {off : Int} {tgt : Nat} (d : decode code pc = .ok (.if_icmp .eq off, 3)) (ht : (pc : Int) + off = (tgt : Int)) (k : (InI x ∧ InI y) ∧ (x = y → WN κ D 16 Q n z ws tgt ls st) ∧ (¬ x = y → WN κ D 16 Q n z ws (pc + 3) ls st)) : WN κ D 16 Q n z ws pc ls (vI y :: vI x :: st) := by
  intro H locs arr hP hD hS hl
  obtain ⟨⟨hx, hy⟩, k1, k2⟩ := k
  refine lv_icmp_eq C.1.1 C.1.2.1 d ht (fun q => k1 ?_ H locs arr hP hD hS hl) (fun q => k2 ?_ H locs arr hP hD hS hl)
  all_goals
    simp only [Int32.not_lt, Int32.not_le, n_lt hx hy, n_lt hy hx, n_le hx hy, n_le hy hx, n_eq hx hy] at q
    omega
theorem l_if_eq (C : CL κ cA D) {x : Int} {off : Int} {tgt : Nat} (d : decode code pc = .ok (.ifCond .eq off, 3)) (ht : (pc : Int) + off = (tgt : Int)) (k : InI x ∧ (x = 0 → WN κ D 16 Q n z ws tgt ls st) ∧ (¬ x = 0 → WN κ D 16 Q n z ws (pc + 3) ls st)) : WN κ D 16 Q n z ws pc ls (vI x :: st) := by
  intro H locs arr hP hD hS hl
  obtain ⟨hx, k1, k2⟩ := k
  have hy : InI 0 := ⟨by omega, by omega⟩
  refine lv_if_eq C.1.1 C.1.2.1 d ht (fun q => k1 ?_ H locs arr hP hD hS hl) (fun q => k2 ?_ H locs arr hP hD hS hl)
  all_goals
    rw [← n_0] at q
    simp only [Int32.not_lt, Int32.not_le, n_lt hx hy, n_lt hy hx, n_le hx hy, n_le hy hx, n_eq hx hy] at q
    omega
theorem l_icmp_ne (C : CL κ cA D) {x y : Int} {off : Int} {tgt : Nat} (d : decode code pc = .ok (.if_icmp .ne off, 3)) (ht : (pc : Int) + off = (tgt : Int)) (k : (InI x ∧ InI y) ∧ (¬ x = y → WN κ D 16 Q n z ws tgt ls st) ∧ (x = y → WN κ D 16 Q n z ws (pc + 3) ls st)) : WN κ D 16 Q n z ws pc ls (vI y :: vI x :: st) := by
  intro H locs arr hP hD hS hl
  obtain ⟨⟨hx, hy⟩, k1, k2⟩ := k
  refine lv_icmp_ne C.1.1 C.1.2.1 d ht (fun q => k1 ?_ H locs arr hP hD hS hl) (fun q => k2 ?_ H locs arr hP hD hS hl)
  all_goals
    simp only [Int32.not_lt, Int32.not_le, n_lt hx hy, n_lt hy hx, n_le hx hy, n_le hy hx, n_eq hx hy] at q
    omega
theorem l_if_ne (C : CL κ cA D) {x : Int} {off : Int} {tgt : Nat} (d : decode code pc = .ok (.ifCond .ne off, 3)) (ht : (pc : Int) + off = (tgt : Int)) (k : InI x ∧ (¬ x = 0 → WN κ D 16 Q n z ws tgt ls st) ∧ (x = 0 → WN κ D 16 Q n z ws (pc + 3) ls st)) : WN κ D 16 Q n z ws pc ls (vI x :: st) := by
  intro H locs arr hP hD hS hl
  obtain ⟨hx, k1, k2⟩ := k
  have hy : InI 0 := ⟨by omega, by omega⟩
  refine lv_if_ne C.1.1 C.1.2.1 d ht (fun q => k1 ?_ H locs arr hP hD hS hl) (fun q => k2 ?_ H locs arr hP hD hS hl)
  all_goals
    rw [← n_0] at q
    simp only [Int32.not_lt, Int32.not_le, n_lt hx hy, n_lt hy hx, n_le hx hy, n_le hy hx, n_eq hx hy] at q
    omega
theorem l_icmp_lt (C : CL κ cA D) {x y : Int} {off : Int} {tgt : Nat} (d : decode code pc = .ok (.if_icmp .lt off, 3)) (ht : (pc : Int) + off = (tgt : Int)) (k : (InI x ∧ InI y) ∧ (x < y → WN κ D 16 Q n z ws tgt ls st) ∧ (y ≤ x → WN κ D 16 Q n z ws (pc + 3) ls st)) : WN κ D 16 Q n z ws pc ls (vI y :: vI x :: st) := by
  intro H locs arr hP hD hS hl
  obtain ⟨⟨hx, hy⟩, k1, k2⟩ := k
  refine lv_icmp_lt C.1.1 C.1.2.1 d ht (fun q => k1 ?_ H locs arr hP hD hS hl) (fun q => k2 ?_ H locs arr hP hD hS hl)
  all_goals
    simp only [Int32.not_lt, Int32.not_le, n_lt hx hy, n_lt hy hx, n_le hx hy, n_le hy hx, n_eq hx hy] at q
    omega
theorem l_if_lt (C : CL κ cA D) {x : Int} {off : Int} {tgt : Nat} (d : decode code pc = .ok (.ifCond .lt off, 3)) (ht : (pc : Int) + off = (tgt : Int)) (k : InI x ∧ (x < 0 → WN κ D 16 Q n z ws tgt ls st) ∧ (0 ≤ x → WN κ D 16 Q n z ws (pc + 3) ls st)) : WN κ D 16 Q n z ws pc ls (vI x :: st) := by
  intro H locs arr hP hD hS hl
  obtain ⟨hx, k1, k2⟩ := k
  have hy : InI 0 := ⟨by omega, by omega⟩
  refine lv_if_lt C.1.1 C.1.2.1 d ht (fun q => k1 ?_ H locs arr hP hD hS hl) (fun q => k2 ?_ H locs arr hP hD hS hl)
  all_goals
    rw [← n_0] at q
    simp only [Int32.not_lt, Int32.not_le, n_lt hx hy, n_lt hy hx, n_le hx hy, n_le hy hx, n_eq hx hy] at q
    omega
theorem l_icmp_ge (C : CL κ cA D) {x y : Int} {off : Int} {tgt : Nat} (d : decode code pc = .ok (.if_icmp .ge off, 3)) (ht : (pc : Int) + off = (tgt : Int)) (k : (InI x ∧ InI y) ∧ (y ≤ x → WN κ D 16 Q n z ws tgt ls st) ∧ (x < y → WN κ D 16 Q n z ws (pc + 3) ls st)) : WN κ D 16 Q n z ws pc ls (vI y :: vI x :: st) := by
  intro H locs arr hP hD hS hl
  obtain ⟨⟨hx, hy⟩, k1, k2⟩ := k
  refine lv_icmp_ge C.1.1 C.1.2.1 d ht (fun q => k1 ?_ H locs arr hP hD hS hl) (fun q => k2 ?_ H locs arr hP hD hS hl)
  all_goals
    simp only [Int32.not_lt, Int32.not_le, n_lt hx hy, n_lt hy hx, n_le hx hy, n_le hy hx, n_eq hx hy] at q
    omega
theorem l_if_ge (C : CL κ cA D) {x : Int} {off : Int} {tgt : Nat} (d : decode code pc = .ok (.ifCond .ge off, 3)) (ht : (pc : Int) + off = (tgt : Int)) (k : InI x ∧ (0 ≤ x → WN κ D 16 Q n z ws tgt ls st) ∧ (x < 0 → WN κ D 16 Q n z ws (pc + 3) ls st)) : WN κ D 16 Q n z ws pc ls (vI x :: st) := by
  intro H locs arr hP hD hS hl
  obtain ⟨hx, k1, k2⟩ := k
  have hy : InI 0 := ⟨by omega, by omega⟩
  refine lv_if_ge C.1.1 C.1.2.1 d ht (fun q => k1 ?_ H locs arr hP hD hS hl) (fun q => k2 ?_ H locs arr hP hD hS hl)
  all_goals
    rw [← n_0] at q
    simp only [Int32.not_lt, Int32.not_le, n_lt hx hy, n_lt hy hx, n_le hx hy, n_le hy hx, n_eq hx hy] at q
    omega
theorem l_icmp_gt (C : CL κ cA D) {x y : Int} {off : Int} {tgt : Nat} (d : decode code pc = .ok (.if_icmp .gt off, 3)) (ht : (pc : Int) + off = (tgt : Int)) (k : (InI x ∧ InI y) ∧ (y < x → WN κ D 16 Q n z ws tgt ls st) ∧ (x ≤ y → WN κ D 16 Q n z ws (pc + 3) ls st)) : WN κ D 16 Q n z ws pc ls (vI y :: vI x :: st) := by
  intro H locs arr hP hD hS hl
  obtain ⟨⟨hx, hy⟩, k1, k2⟩ := k
  refine lv_icmp_gt C.1.1 C.1.2.1 d ht (fun q => k1 ?_ H locs arr hP hD hS hl) (fun q => k2 ?_ H locs arr hP hD hS hl)
  all_goals
    simp only [Int32.not_lt, Int32.not_le, n_lt hx hy, n_lt hy hx, n_le hx hy, n_le hy hx, n_eq hx hy] at q
    omega
theorem l_if_gt (C : CL κ cA D) {x : Int} {off : Int} {tgt : Nat} (d : decode code pc = .ok (.ifCond .gt off, 3)) (ht : (pc : Int) + off = (tgt : Int)) (k : InI x ∧ (0 < x → WN κ D 16 Q n z ws tgt ls st) ∧ (x ≤ 0 → WN κ D 16 Q n z ws (pc + 3) ls st)) : WN κ D 16 Q n z ws pc ls (vI x :: st) := by
  intro H locs arr hP hD hS hl
  obtain ⟨hx, k1, k2⟩ := k
  have hy : InI 0 := ⟨by omega, by omega⟩
  refine lv_if_gt C.1.1 C.1.2.1 d ht (fun q => k1 ?_ H locs arr hP hD hS hl) (fun q => k2 ?_ H locs arr hP hD hS hl)
  all_goals
    rw [← n_0] at q
    simp only [Int32.not_lt, Int32.not_le, n_lt hx hy, n_lt hy hx, n_le hx hy, n_le hy hx, n_eq hx hy] at q
    omega
theorem l_icmp_le (C : CL κ cA D) {x y : Int} {off : Int} {tgt : Nat} (d : decode code pc = .ok (.if_icmp .le off, 3)) (ht : (pc : Int) + off = (tgt : Int)) (k : (InI x ∧ InI y) ∧ (x ≤ y → WN κ D 16 Q n z ws tgt ls st) ∧ (y < x → WN κ D 16 Q n z ws (pc + 3) ls st)) : WN κ D 16 Q n z ws pc ls (vI y :: vI x :: st) := by
  intro H locs arr hP hD hS hl
  obtain ⟨⟨hx, hy⟩, k1, k2⟩ := k
  refine lv_icmp_le C.1.1 C.1.2.1 d ht (fun q => k1 ?_ H locs arr hP hD hS hl) (fun q => k2 ?_ H locs arr hP hD hS hl)
  all_goals
    simp only [Int32.not_lt, Int32.not_le, n_lt hx hy, n_lt hy hx, n_le hx hy, n_le hy hx, n_eq hx hy] at q
    omega
theorem l_if_le (C : CL κ cA D) {x : Int} {off : Int} {tgt : Nat} (d : decode code pc = .ok (.ifCond .le off, 3)) (ht : (pc : Int) + off = (tgt : Int)) (k : InI x ∧ (x ≤ 0 → WN κ D 16 Q n z ws tgt ls st) ∧ (0 < x → WN κ D 16 Q n z ws (pc + 3) ls st)) : WN κ D 16 Q n z ws pc ls (vI x :: st) := by
  intro H locs arr hP hD hS hl
  obtain ⟨hx, k1, k2⟩ := k
  have hy : InI 0 := ⟨by omega, by omega⟩
  refine lv_if_le C.1.1 C.1.2.1 d ht (fun q => k1 ?_ H locs arr hP hD hS hl) (fun q => k2 ?_ H locs arr hP hD hS hl)
  all_goals
    rw [← n_0] at q
    simp only [Int32.not_lt, Int32.not_le, n_lt hx hy, n_lt hy hx, n_le hx hy, n_le hy hx, n_eq hx hy] at q
    omega
theorem l_topI {x : Int} (k : ∀ y : Int, y = x → WN κ D 16 Q n z ws pc ls (vI y :: st)) : WN κ D 16 Q n z ws pc ls (vI x :: st) := k x rfl
theorem l_new (C : CL κ cA D) {ci N index : Nat} {fs : List Value} {Cn : String} {T : u_T} (d : decode code pc = .ok (.new index, 3)) (hc : vwCl[ci]? = some (Cn, T, N)) (hin : ∀ w ∈ u_ws Cn T N, w ∈ wsL_law) (ty0 : Nat → FieldType) (hty : ∀ k, k < N → parseFieldDescriptor (T k).2.2.1 = some (ty0 k)) (hcl : Cond.classLink RL index Cn ∈ wsL_law) (hinst : Cond.instantiable Cn N ∈ wsL_law) (hini : Cond.initialized Cn ∈ wsL_law) (hfs : ∀ j, j < N → defaultValue (ty0 j) = vp_V fs j) (h1 : n + 1 ≤ room_1.cells) (h2 : z + N ≤ room_1.slots) (kk : ∀ q : Nat, WN κ D 16 Q (n + 1) (z + N) (ws ++ [(q, .inr (ci, fs))]) (pc + 3) ls (.ref q :: st)) : WN κ D 16 Q n z ws pc ls st := by
  intro H locs arr hP hD hS hl
  exact va_new C.1.1 C.1.2.1 C.1.2.2.2.2 hin ty0 hty C.1.2.2.2.1 (C.1.2.2.2.2 _ hcl) (C.1.2.2.2.2 _ hinst) (C.1.2.2.2.2 _ hini) C.2.1 hP hD hS C.2.2.1 hc hfs (by rw [C.2.2.2]; exact h1) (by rw [C.2.2.2]; exact h2) d (fun q H1 hP hD hS => kk q H1 locs arr hP hD hS hl)
theorem l_init (C : CL κ cA D) {y : MethodName} {wsY ws' : List Cond} {rm' : Room} {sh : Shp} {h ci mc ms idx : Nat} {fs : List Value} {adS : Nat → Nat} {E : State → Prop} {I : Mem → Prop} {bytes : ByteArray} {X : va_W} (d : decode code pc = .ok (.invokespecial idx, 3)) (hM : MO κ.1.2.1 y wsY rm' sh h ci fs cA D adS E I mc ms) (hl0 : Cond.methodLink RL idx y ∈ wsL_law) (hini : Cond.initialized y.cls ∈ wsL_law) (hinst : Cond.instanceMethod y ∈ wsL_law) (hG : GoodIn wsL_law wsY) (hw : wsY = Cond.code y bytes 1 none :: ws') (hrc : rm'.cells = mc ∧ rm'.slots = ms) (hd : y.cls ≠ "java/lang/invoke/MethodHandle" ∧ y.cls ≠ "java/lang/invoke/VarHandle" ∧ (parseMethodDescriptor y.desc).map (fun d => d.parameters.length) = some 0) (hy : y.name = "<init>") (hR : rm'.frames + 1 ≤ room_1.frames ∧ 8 + (1 + 11) + rm'.locals ≤ room_1.locals) (hE : ∀ s U : State, s.WarmedH U.vm → E s → E U) (e : E κ.1.2.2.2.2) (hX : m_ext adS κ.2.2 κ.1.2.2.2.2 κ.1.2.2.2.2.heap) (hcat : (st.map fun v => v.category).sum ≤ 8) (h1 : n + mc ≤ room_1.cells) (h2 : z + ms ≤ room_1.slots) (kk : ∀ (r : Nat → Nat) (σ : Mem), I σ → WN κ D 16 Q (n + mc) (z + ms) (X ++ m_cells (sh, o_ad adS h r, cA, D) σ) (pc + 3) ls st) : WN κ D 16 Q n z (X ++ [(h, .inr (ci, fs))]) pc ls (.ref h :: st) := by
  intro H locs arr hP hD hS hl
  have hl2 : (X ++ [(h, (.inr (ci, fs) : va_E))])[X.length]? = some (h, .inr (ci, fs)) := by simp
  have hPc : va_P D vwCl [(h, .inr (ci, fs))] H := fun k q hk => by
    have j0 : k < 1 := (List.getElem?_eq_some_iff.mp hk).1
    rw [show k = 0 by omega] at hk
    cases hk
    exact hP X.length _ hl2
  have hDc : va_D (fun _ : Nat => True) [(h, (.inr (ci, fs) : va_E))] := ⟨fun i j p q hp hq _ => by
    have := (List.getElem?_eq_some_iff.mp hp).1
    have := (List.getElem?_eq_some_iff.mp hq).1
    simp at *
    omega, fun _ _ _ => trivial⟩
  have hFc : ∀ q, va_A [(h, (.inr (ci, fs) : va_E))] H.size q → κ.2.2 q := fun q hq => by
    rcases hq with ⟨j, e', hq⟩ | hq
    · have j0 : j < 1 := (List.getElem?_eq_some_iff.mp hq).1
      rw [show j = 0 by omega] at hq
      have z2 : h = q := (Prod.mk.inj (Option.some.inj hq)).1
      rw [← z2]
      exact hD.2 X.length _ hl2
    · exact C.2.2.1 q (Nat.le_trans hS.1 hq)
  refine va_callv (va_runI (As := []) (rest := st) ⟨C.1.1, C.1.2.1, C.1.2.2.1, C.1.2.2.2.1, C.1.2.2.2.2⟩ (hM H.size) (cwI 0 C.1.2.2.2.2 hG hw hrc.1 hrc.2 (C.1.2.2.2.2 _ hini) (C.1.2.2.2.2 _ hl0) (C.1.2.2.2.2 _ hinst) hy hd (by rw [C.2.2.2]; exact hR)) ⟨fun a U g mk q => ?_, fun U hU hW => ⟨rfl, by rw [hU], by rw [hU]; exact hPc, va_K.moved hW.alike C.2.1, hDc, hE _ _ hW e, ?_⟩⟩ rfl rfl hl.1 rfl (lv_room hcat) d ⟨by rw [C.2.2.2]; exact h1, by rw [C.2.2.2]; exact h2⟩) hS (fun q _ h => hFc q h) hFc (fun u t H1 locs1 ht hvm hi hB hz1 hk1 hS1 => ?_)
  · obtain ⟨q0, q1, qP, qK, qD, qE, qX⟩ := q
    exact ⟨q0, q1, qP, va_K.moved (u := U) (U := U.calling g mk a) (Vm.Alike.refl U.vm) qK, qD, hE U (U.calling g mk a) (State.WarmedH.refl U) qE, m_ext.same (u := U) (U := U.calling g mk a) rfl qX⟩
  · rw [hU]
    exact m_ext.warm hW (m_ext.narrow (m_ext.kept hX (fun a h1 h2 => hS.2.1 a h1 h2)) hFc)
  · obtain ⟨hP1, hD1⟩ := hB
    rw [ht] at hP1
    obtain ⟨hP2, hD2⟩ := n_join hP hD hFc hk1 hP1 hD1
    exact kk u.1 u.2 hi H1 locs1 arr hP2 hD2 hS1 hl
theorem l_newI (C : CL κ cA D) {x : Int} {N : Nat} (d : decode code pc = .ok (.newarray .int, 2)) (ha : Cond.arrayClass .int ∈ wsL_law) (hx : x = N ∧ N ≤ 1000) (h1 : n + 1 ≤ room_1.cells) (h2 : z + N ≤ room_1.slots) (k : ∀ q : Nat, WN κ D 16 Q (n + 1) (z + N) (ws ++ [(q, .inl (cA 0, N, .inl fun _ => Int32.ofInt 0))]) (pc + 2) ls (.ref q :: st)) : WN κ D 16 Q n z ws pc ls (vI x :: st) := by
  intro H locs arr hP hD hS hl
  have b0 : InI x := by constructor <;> omega
  refine va_newa (atype := .int) (ty := .int) (a0 := (N, .inl fun _ => Int32.ofInt 0)) C.1.1 C.1.2.1 (C.1.2.2.2.2 _ ha) rfl C.2.1 hP hD hS C.2.2.1 (fun _ => rfl) ?_ ?_ ?_ (by rw [C.2.2.2]; exact h1) (by rw [C.2.2.2]; exact h2) d (fun q c H1 hK hP hD hS => ?_)
  · rw [← n_0, n_lt b0 (by constructor <;> omega)]
    omega
  · rw [n_clamp b0]
    omega
  · show N * 4 ≤ 536870912
    omega
  · have e1 : κ.1.2.2.2.2.vm.findClass ("[" ++ (FieldType.int).toString) = some c := (hK.2 4 (c, .int) rfl).2
    have e2 : κ.1.2.2.2.2.vm.findClass ("[" ++ (FieldType.int).toString) = some (cA 0) := (C.2.1.2 0 _ rfl).2
    have e : c = cA 0 := Option.some.inj (e1.symm.trans e2)
    rw [e] at hP hD
    exact k q H1 locs arr hP hD hS hl
theorem l_iald (C : CL κ cA D) {a q0 N : Nat} {F : Int → Int} {i : Int} (d : decode code pc = .ok (.iaload, 1)) (he : ws[q0]? = some (a, .inl (cA 0, N, .inl fun j : Nat => Int32.ofInt (F (j : Int))))) (hi : 0 ≤ i ∧ i < N ∧ N ≤ 1000) (kk : WN κ D 16 Q n z ws (pc + 1) ls (vI (F i) :: st)) : WN κ D 16 Q n z ws pc ls (vI i :: .ref a :: st) := by
  intro H locs arr hP hD hS hl
  obtain ⟨h1, h2, h3, h4⟩ := n_in (i := i) (n := N) rfl (by omega) ⟨hi.1, hi.2.1⟩
  have h := kk H locs arr hP hD hS hl
  refine va_iald C.1.1 C.1.2.1 C.2.1 hP q0 0 he rfl h1 d ?_
  rw [h2, h4]
  exact h
theorem l_iast (C : CL κ cA D) {a q0 N : Nat} {F : Int → Int} {i x : Int} (d : decode code pc = .ok (.iastore, 1)) (he : ws[q0]? = some (a, .inl (cA 0, N, .inl fun j : Nat => Int32.ofInt (F (j : Int))))) (hi : 0 ≤ i ∧ i < N ∧ N ≤ 1000) (kk : WN κ D 16 Q n z (ws.set q0 (a, .inl (cA 0, N, .inl fun j : Nat => Int32.ofInt (if (j : Int) = i then x else F (j : Int))))) (pc + 1) ls st) : WN κ D 16 Q n z ws pc ls (vI x :: vI i :: .ref a :: st) := by
  intro H locs arr hP hD hS hl
  obtain ⟨h1, h2, h3, h4⟩ := n_in (i := i) (n := N) rfl (by omega) ⟨hi.1, hi.2.1⟩
  have e := m_updI F i x hi.1
  refine va_iast C.1.1 C.1.2.1 C.2.1 hP hD hS q0 0 he rfl h1 d (fun H1 locs1 hP1 hD1 hS1 => kk H1 locs1 arr ?_ ?_ hS1 hl)
  · rw [h2, e] at hP1
    exact hP1
  · rw [h2, e] at hD1
    exact hD1
theorem l_drop {X Y : va_W} (k : WN κ D 16 Q n z X pc ls st) : WN κ D 16 Q n z (X ++ Y) pc ls st := fun H locs arr hP hD hS hl => by
  have lf : ∀ (k : Nat) (q : Nat × va_E), X[k]? = some q → (X ++ Y)[k]? = some q := fun k q hq => by
    rw [List.getElem?_append_left (List.getElem?_eq_some_iff.mp hq).1]
    exact hq
  exact k H locs arr (fun k q hq => hP k q (lf k q hq)) ⟨fun i j p q hp hq => hD.1 i j p q (lf i p hp) (lf j q hq), fun k q hq => hD.2 k q (lf k q hq)⟩ hS hl
theorem l_widen {n' z' : Nat} (h1 : n ≤ n') (h2 : z ≤ z') (k : WN κ D 16 Q n' z' ws pc ls st) : WN κ D 16 Q n z ws pc ls st := fun H locs arr hP hD hS hl => W.widen h1 h2 (k H locs arr hP hD hS hl)
end LROWS
section CALLS
variable {κ : KT} {cA : Nat → ClassId} {D : va_G} {own : String} {cc : ByteArray} {nL : Nat} {Ts : List Cond} {rm : Room} {Q : State → Prop} {n z : Nat} {ws : va_W} {pc : Nat} {ls : List (Nat × Value)} {st : List Value}
theorem o_callS {G : GT} {σ : Mem} {X : va_W} (c5 : κ.1.1.tables.exec = Jvm.exec ∧ κ.2.1.2.2.2.2.code = cc ∧ κ.2.1.2.2.2.2.maxLocals = nL ∧ κ.1.2.2.2.2.vm.findClass own = some κ.2.1.1.cls ∧ (∀ w ∈ Ts, w.before κ.2.1.2.1 κ.1.2.2.2.2 = true)) (K : va_K G.2.2.2 vwCl (m_tys G.2.2.1) κ.1.2.2.2.2) (hA : ∀ q, κ.1.2.2.2.2.heap.size ≤ q → κ.2.2 q) (hRm : κ.1.2.2.2.1 = rm) (hE : m_ext G.2.1 κ.2.2 κ.1.2.2.2.2 κ.1.2.2.2.2.heap)
    {y : MethodName} {wsY ws' : List Cond} {rm' : Room} {oc : Int → Option Value} {WPp : (Int → Mem → Prop) → Prop} {bytes : ByteArray} {maxL nn idx : Nat} {ret' : Option FieldType} {As rest stk : List Value} {rs : Int → List Value}
    (d : decode cc pc = .ok (.invokestatic idx, 3)) (hM : MG κ.1.2.1 y wsY rm' oc As G σ WPp) (hG : GoodIn Ts (va_wsS own idx y wsY)) (hw : wsY = Cond.code y bytes maxL ret' :: ws') (hrc : rm'.cells = 0 ∧ rm'.slots = 0)
    (hd : y.cls ≠ "java/lang/invoke/MethodHandle" ∧ y.cls ≠ "java/lang/invoke/VarHandle" ∧ (parseMethodDescriptor y.desc).map (fun d => d.parameters.length) = some nn) (hR : rm'.frames + 1 ≤ rm.frames ∧ 8 + (maxL + 11) + rm'.locals ≤ rm.locals)
    (hn : As.length = nn) (hst : stk = As.reverse ++ rest) (hcat : (rest.map fun v => v.category).sum ≤ 8) (hrs : ∀ r, (oc r).toList = rs r) (hfit : n ≤ rm.cells ∧ z ≤ rm.slots)
    (h : WPp (fun r σ' => WN κ G.2.2.2 nL Q n z (X ++ m_cells G σ') (pc + 3) ls (rs r ++ rest))) : WN κ G.2.2.2 nL Q n z (X ++ m_cells G σ) pc ls stk := by
  intro H locs arr hP hD hS hl
  subst hst
  have rt : ∀ (σ : Mem) (k : Nat) (q : Nat × va_E), (m_cells G σ)[k]? = some q → (X ++ m_cells G σ)[X.length + k]? = some q := fun σ k q hq => by
    rw [List.getElem?_append_right (by omega), show X.length + k - X.length = k by omega]
    exact hq
  have lf : ∀ (k : Nat) (q : Nat × va_E), X[k]? = some q → (X ++ m_cells G σ)[k]? = some q := fun k q hq => by
    rw [List.getElem?_append_left (List.getElem?_eq_some_iff.mp hq).1]
    exact hq
  have hPc : va_P G.2.2.2 vwCl (m_cells G σ) H := fun k q hq => hP _ q (rt σ k q hq)
  have hDc : va_D κ.2.2 (m_cells G σ) := ⟨fun i j p q hp hq hpq => by
    have := hD.1 _ _ p q (rt σ i p hp) (rt σ j q hq) hpq
    omega, fun k q hq => hD.2 _ q (rt σ k q hq)⟩
  have hF : ∀ q, va_A (m_cells G σ) H.size q → κ.2.2 q := by
    intro q h
    rcases h with ⟨k, e, h⟩ | h
    · exact hDc.2 k (q, e) h
    · exact hA q (Nat.le_trans hS.1 h)
  have apart : ∀ (k : Nat) (q : Nat × va_E), X[k]? = some q → q.1 < H.size ∧ ¬ va_A (m_cells G σ) H.size q.1 := fun k q hq => by
    have b := (hP k q (lf k q hq)).lt
    refine ⟨b, fun y => ?_⟩
    rcases y with ⟨j, e', y⟩ | y
    · have := hD.1 k _ q (q.1, e') (lf k q hq) (rt σ j _ y) rfl
      have := (List.getElem?_eq_some_iff.mp hq).1
      omega
    · omega
  have hpre1 : FrameBlind (m_Pre As G σ H.size) := fun a U g mk q => by
    obtain ⟨q0, q1, qP, qK, qD, qE⟩ := q
    exact ⟨q0, q1, qP, va_K.moved (u := U) (U := U.calling g mk a) (Vm.Alike.refl U.vm) qK, qD, m_ext.same (u := U) (U := U.calling g mk a) rfl qE⟩
  have hpre2 : ∀ U : State, U.heap = H → κ.1.2.2.2.2.WarmedH U.vm → m_Pre As G σ H.size As.toArray U := fun U hU hW => by
    refine ⟨rfl, by rw [hU], by rw [hU]; exact hPc, va_K.moved hW.alike K, hDc.weaken (fun _ _ _ _ => trivial), ?_⟩
    rw [hU]
    exact m_ext.warm hW (m_ext.narrow (m_ext.kept hE (fun a h1 h2 => hS.2.1 a h1 h2)) hF)
  have hr : va_Run κ.1.1 κ.1.2.1 κ.1.2.2.1 κ.1.2.2.2.1 κ.1.2.2.2.2 κ.2.1.1 κ.2.1.2.1 κ.2.1.2.2.1 κ.2.1.2.2.2.1 κ.2.1.2.2.2.2 H locs n z 0 0 (F0 κ.2.1.1 pc arr (As.reverse ++ rest)) rest (m_Q oc (fun r σ' => WN κ G.2.2.2 nL Q n z (X ++ m_cells G σ') (pc + 3) ls (rs r ++ rest)) G (va_A (m_cells G σ) H.size) As.toArray) (va_A (m_cells G σ) H.size) := va_runS (As := As) (rest := rest) ⟨c5.1, c5.2.1, c5.2.2.1, c5.2.2.2.1, c5.2.2.2.2⟩ (hM _ H.size h) (va_cwS nn c5.2.2.2.2 hG hw hrc.1 hrc.2 hd (by rw [hRm]; exact hR)) ⟨hpre1, hpre2⟩ rfl hn hl.1 rfl (lv_room hcat) d (by rw [hRm]; exact hfit)
  intro T hT Xs
  obtain ⟨v, st₀, t, T', L, h0, X', hL, e1, e2, ⟨⟨r, σ', hv, hp, hb⟩, hz, hk⟩, stp⟩ := hr T hT Xs
  cases hv
  rw [h0] at hz hk
  have hS' : va_S κ.2.2 κ.1.2.2.2.2.heap T'.heap (locs ++ L) := by
    refine ⟨Nat.le_trans hS.1 (by rw [e1]; exact hz), fun q h1 h2 => ?_, fun q hq => ?_⟩
    · rw [e1, hk q (Nat.lt_of_lt_of_le h1 hS.1) (fun z => h2 (hF q z))]
      exact hS.2.1 q h1 h2
    · rcases List.mem_append.mp hq with h | h
      · exact hS.2.2 q h
      · exact hF _ (hL q h)
  have hP' : va_P G.2.2.2 vwCl (X ++ m_cells G σ') T'.heap := by
    refine va_P.app (fun k q hq => ?_) (by rw [e1]; exact hb)
    have a := apart k q hq
    exact va_at.kept (hP k q (lf k q hq)) (by rw [e1]; exact hk q.1 a.1 a.2)
  have hD' : va_D κ.2.2 (X ++ m_cells G σ') := o_D hD (by rw [List.map_append, List.map_append, o_fst])
  obtain ⟨t2, a1, b1⟩ := hp T'.heap (locs ++ L) arr hP' hD' hS' hl T' rfl X'
  refine ⟨t2, stp t2 ?_, b1⟩
  rw [hrs]
  exact a1
end CALLS
