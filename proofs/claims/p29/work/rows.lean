section
-- ===== PART A: goes FIRST, ahead of the names: the tables' words, and 'selects' of the private methods out of them =====
/-- a private method of a class that the tables say can be made, by its rows of tables_1 -/
def lw_okq (q : MethodName × Nat) : Prop := (q.1.cls ≠ "java/lang/invoke/MethodHandle" ∧ q.1.cls ≠ "java/lang/invoke/VarHandle") ∧ Cond.instantiable q.1.cls q.2 ∈ tables_1 ∧ Cond.privateMethod q.1 ∈ tables_1 ∧ Cond.instanceMethod q.1 ∈ tables_1
theorem lw_p0 : lw_okq (⟨"BoltRing$Lifts", "fillSystem", "(LBoltRing$Joint;[III)V"⟩, 6) := ⟨⟨by decide +kernel, by decide +kernel⟩, List.mem_of_getElem? (i := 68) (by decide +kernel), List.mem_of_getElem? (i := 302) (by decide +kernel), List.mem_of_getElem? (i := 303) (by decide +kernel)⟩
theorem lw_p1 : lw_okq (⟨"BoltRing$Lifts", "fillArcs", "(II)V"⟩, 6) := ⟨⟨by decide +kernel, by decide +kernel⟩, List.mem_of_getElem? (i := 68) (by decide +kernel), List.mem_of_getElem? (i := 307) (by decide +kernel), List.mem_of_getElem? (i := 308) (by decide +kernel)⟩
theorem lw_p2 : lw_okq (⟨"BoltRing$Lifts", "solve", "(II)V"⟩, 6) := ⟨⟨by decide +kernel, by decide +kernel⟩, List.mem_of_getElem? (i := 68) (by decide +kernel), List.mem_of_getElem? (i := 311) (by decide +kernel), List.mem_of_getElem? (i := 312) (by decide +kernel)⟩
theorem lw_p3 : lw_okq (⟨"BoltRing$Lifts", "liftedSet", "(LBoltRing$Joint;)I"⟩, 6) := ⟨⟨by decide +kernel, by decide +kernel⟩, List.mem_of_getElem? (i := 68) (by decide +kernel), List.mem_of_getElem? (i := 315) (by decide +kernel), List.mem_of_getElem? (i := 316) (by decide +kernel)⟩
theorem lw_p4 : lw_okq (⟨"BoltRing$Lifts", "aboveTurnsSet", "(LBoltRing$Joint;)I"⟩, 6) := ⟨⟨by decide +kernel, by decide +kernel⟩, List.mem_of_getElem? (i := 68) (by decide +kernel), List.mem_of_getElem? (i := 319) (by decide +kernel), List.mem_of_getElem? (i := 320) (by decide +kernel)⟩
theorem lw_p5 : lw_okq (⟨"BoltRing$Joint", "isRow", "(I)Z"⟩, 8) := ⟨⟨by decide +kernel, by decide +kernel⟩, List.mem_of_getElem? (i := 21) (by decide +kernel), List.mem_of_getElem? (i := 372) (by decide +kernel), List.mem_of_getElem? (i := 373) (by decide +kernel)⟩
theorem lw_p6 : lw_okq (⟨"BoltRing$Drawing", "allHold", "(LBoltRing$Joint;I)Z"⟩, 7) := ⟨⟨by decide +kernel, by decide +kernel⟩, List.mem_of_getElem? (i := 96) (by decide +kernel), List.mem_of_getElem? (i := 392) (by decide +kernel), List.mem_of_getElem? (i := 393) (by decide +kernel)⟩
def lw_privs_1 : List (MethodName × Nat) := [(⟨"BoltRing$Lifts", "fillSystem", "(LBoltRing$Joint;[III)V"⟩, 6), (⟨"BoltRing$Lifts", "fillArcs", "(II)V"⟩, 6), (⟨"BoltRing$Lifts", "solve", "(II)V"⟩, 6), (⟨"BoltRing$Lifts", "liftedSet", "(LBoltRing$Joint;)I"⟩, 6), (⟨"BoltRing$Lifts", "aboveTurnsSet", "(LBoltRing$Joint;)I"⟩, 6), (⟨"BoltRing$Joint", "isRow", "(I)Z"⟩, 8), (⟨"BoltRing$Drawing", "allHold", "(LBoltRing$Joint;I)Z"⟩, 7)]
theorem lw_r1 : ∀ q ∈ lw_privs_1, lw_okq q := List.forall_mem_cons.mpr ⟨lw_p0, List.forall_mem_cons.mpr ⟨lw_p1, List.forall_mem_cons.mpr ⟨lw_p2, List.forall_mem_cons.mpr ⟨lw_p3, List.forall_mem_cons.mpr ⟨lw_p4, List.forall_mem_cons.mpr ⟨lw_p5, List.forall_mem_cons.mpr ⟨lw_p6, fun _ h => absurd h List.not_mem_nil⟩⟩⟩⟩⟩⟩⟩
def lw_privs : List (MethodName × Nat) := lw_privs_1
def lw_tbl : List Cond := k2_sels lw_privs ++ tables_1
theorem lw_privs_ok : ∀ q ∈ lw_privs, lw_okq q := lw_r1
end
section
/-! ===== BEGIN words of one list among another's, by their places ===== -/
theorem goodIn_r {big : List Cond} (ws : List Cond) (ps : List Nat) (hp : ws = ps.filterMap (fun i => big[i]?)) (h : ws.all goodWord = true) : GoodIn big ws := by
  intro w hw
  have h1 := List.all_eq_true.mp h w hw
  rw [hp] at hw
  obtain ⟨i, -, hi⟩ := List.mem_filterMap.mp hw
  have hm : w ∈ big := by first | exact List.mem_of_getElem? hi | exact List.getElem?_mem hi
  exact ⟨hm, good_of_word h1⟩
theorem goodIn_app {big a b : List Cond} (ha : GoodIn big a) (hb : GoodIn big b) : GoodIn big (a ++ b) := fun w h => (List.mem_append.mp h).elim (ha w) (hb w)
theorem goodIn_ca {big a b : List Cond} {c : Cond} (ha : GoodIn big (c :: a)) (hb : GoodIn big b) : GoodIn big (c :: (a ++ b)) := fun w h => (List.mem_cons.mp h).elim (fun e => ha w (List.mem_cons.mpr (Or.inl e))) (fun h => (List.mem_append.mp h).elim (fun h => ha w (List.mem_cons.mpr (Or.inr h))) (hb w))
theorem goodIn_sub {big ws : List Cond} (hm : ∀ w ∈ ws, w ∈ big) (h : ws.all goodWord = true) : GoodIn big ws := fun w hw => ⟨hm w hw, good_of_word (List.all_eq_true.mp h w hw)⟩
/-! ===== END ===== -/

/-! ===== BEGIN new T[n][m]: the outer array a place, the inner ones among the pooled ===== -/
/-- f, but v at every address of l -/
def vr_up {α : Type} (f : Nat → α) (l : List Nat) (v : α) : Nat → α := fun a => if a ∈ l then v else f a
theorem vr_up_in {α : Type} {f : Nat → α} {l : List Nat} {v : α} {a : Nat} (h : a ∈ l) : vr_up f l v a = v := if_pos h
theorem vr_up_ne {α : Type} {f : Nat → α} {l : List Nat} {v : α} {a : Nat} (h : a ∉ l) : vr_up f l v a = f a := if_neg h
theorem vr_rows {L l : List Nat} {f : Nat → va_E} {e : va_E} (h : ∀ a, a ∈ l → a ∉ L) : va_pl L f ++ l.map (fun a => (a, e)) = va_pl (L ++ l) (vr_up f l e) := by
  unfold va_pl
  rw [List.map_append]
  congr 1
  · apply List.map_congr_left
    intro a ha
    rw [vr_up_ne (fun q => h a q ha)]
  · apply List.map_congr_left
    intro a ha
    rw [vr_up_in ha]
theorem vr_lay {X rows : va_W} {x : Nat × va_E} {pl : va_W} {D : va_G} {cl : List vw_C} {H : Heap} (hP : va_P D cl (((X ++ pl) ++ [x]) ++ rows) H) : va_P D cl ((X ++ [x]) ++ (pl ++ rows)) H := by
  rw [List.append_assoc (X ++ pl)] at hP
  have h := va_P.swap hP
  rw [← List.append_assoc X] at h
  have h2 := va_P.swap h
  rw [List.append_assoc (X ++ [x])] at h2
  exact h2
theorem vr_layD {X rows : va_W} {x : Nat × va_E} {pl : va_W} {A : Nat → Prop} (hD : va_D A (((X ++ pl) ++ [x]) ++ rows)) : va_D A ((X ++ [x]) ++ (pl ++ rows)) := by
  rw [List.append_assoc (X ++ pl)] at hD
  have h := va_D.swap hD
  rw [← List.append_assoc X] at h
  have h2 := va_D.swap h
  rw [List.append_assoc (X ++ [x])] at h2
  exact h2
theorem vr_outer (c : ClassId) (N h0 : Nat) : ∀ i : Nat, Jvm.Free.Multi.outerC c N h0 i = arrV c N (fun j => va_rf (if j < i then some (h0 + 1 + j) else none))
  | 0 => by
    show ({ cls := c, slots := Array.replicate N .null, vm := .none } : Cell) = _
    rw [arrV_new]
    refine congrArg (arrV c N) (funext fun j => ?_)
    simp [va_rf]
  | i + 1 => by
    show (Jvm.Free.Multi.outerC c N h0 i).setSlot i (.ref (h0 + 1 + i)) = _
    rw [vr_outer c N h0 i, arrV_store]
    refine congrArg (arrV c N) (funext fun j => ?_)
    by_cases e : j = i
    · subst e
      simp [updV, va_rf]
    · by_cases h : j < i
      · simp [updV, e, h, Nat.lt_succ_of_lt h]
      · simp [updV, e, h, show ¬ j < i + 1 by omega]
def va_AOA (t : FieldType) (U : State) : Prop := (Cond.arrayOver (.array t)).before #[] U = true
theorem va_AOA.use {t : FieldType} {A : Array Value} {U : State} (h : va_AOA t U) : (Cond.arrayOver (.array t)).before A U = true := h
section VGM
variable {p : Program} {l : Launch} {e : Env} {R : Room} {s : State} {m : MethodId} {args : Array Value} {below : List Frame} {meth : Method} {c : Code} {H : Heap} {locs : List Loc} {cells slots : Nat} {Q : State → Prop}
variable {cc : ByteArray} {pc : Nat} {ls : Array Slot} {rest : List Value} {D : va_G} {cl : List vw_C} {A : Nat → Prop} {a : Nat} {tys : List (ClassId × FieldType)} {ws : va_W} {H0 : Heap}
theorem va_mna {X : va_W} {L : List Nat} {f : Nat → va_E} {cc : ByteArray} (hexec : p.tables.exec = Jvm.exec) (hb : c.code = cc) {own : String} {index : Nat} {ty : FieldType} {cy : ClassId} (hown : s.vm.findClass own = some m.cls) (hclink : (Cond.classLink own index ("[" ++ (FieldType.array ty).toString)).before args s = true) (hover : va_AOA ty s) (harr : (Cond.arrayClass ty).before args s = true) (hcy : s.vm.findClass (FieldType.array ty).toString = some cy)
    (hK : va_K D cl tys s) (hP : va_P D cl (X ++ va_pl L f) H) (hD : va_D A (X ++ va_pl L f)) (hS : va_S A H0 H locs) (hA : ∀ q, H0.size ≤ q → A q) {n k : Int32} {N' K' : Nat} {z : vp_A} (hn : ¬ n < 0) (hk : ¬ k < 0) (hN : n.toNatClampNeg = N') (hM : k.toNatClampNeg = K')
    (hb1 : N' * 4 ≤ 536870912) (hb2 : K' * componentBytes ty ≤ 536870912) (hb3 : K' ≤ 536870912) (hdf : fits ty (defaultValue ty) = true) (hdd : (defaultValue ty).isDefault = true) (hcells : cells + (1 + N') ≤ R.cells) (hslots : slots + (N' + N' * K') ≤ R.slots) (hz : ∀ c : ClassId, Jvm.Free.Multi.innerC c K' (defaultValue ty) = vp_cell c z) (hdg : decode cc pc = .ok (.multianewarray index 2, 4))
    (kk : ∀ (q : Nat) (r : Nat → Nat) (cA : ClassId) (H1 : Heap), (∀ i j : Nat, i < N' → j < N' → r i = r j → i = j) → (∀ i : Nat, i < N' → r i ∉ L) → va_K D cl (tys ++ [(cA, .array ty)]) s →
      va_P D cl ((X ++ [(q, .inl (cA, N', .inr (.inr (.inr (.inr (fun i => if i < N' then some (r i) else none))))))]) ++ va_pl (L ++ (List.range N').map r) (vr_up f ((List.range N').map r) (.inl (cy, z)))) H1 → va_D A ((X ++ [(q, .inl (cA, N', .inr (.inr (.inr (.inr (fun i => if i < N' then some (r i) else none))))))]) ++ va_pl (L ++ (List.range N').map r) (vr_up f ((List.range N').map r) (.inl (cy, z)))) → va_S A H0 H1 locs →
      W p l e R s m args below meth c H1 locs (cells + 1 + N') (slots + N' + N' * K') Q (F0 m (pc + 4) ls (.ref q :: rest))) : W p l e R s m args below meth c H locs cells slots Q (F0 m pc ls (.int k :: .int n :: rest)) := by
  subst hN
  subst hM
  intro T hT Xs
  obtain ⟨vm₁, cA, comp, -, fA, fC, hO, -, X', step⟩ := Xs.multianewarray2F hexec hown hclink (va_AOA.use hover) harr (g := F0 m pc ls (.int k :: .int n :: rest)) rfl (by rw [hb]; exact hdg) rfl hn hk hb1 hb2 hb3 hdf hdd hcells hslots
  have ec : some cy = some comp := hcy.symm.trans fC
  cases ec
  generalize hF : Jvm.Free.Multi.fill (T.setVm vm₁) cA cy n.toNatClampNeg k.toNatClampNeg (defaultValue ty) n.toNatClampNeg = F at X' step
  have hTh : (T.setVm vm₁).heap = H := hT
  obtain ⟨f1, f2, -, -⟩ := Jvm.Free.Multi.fill_facts (T.setVm vm₁) cA cy n.toNatClampNeg k.toNatClampNeg (defaultValue ty) n.toNatClampNeg
  rw [hF, hTh] at f1 f2
  have hold : ∀ x : Nat, x < H.size → F.heap[x]? = H[x]? := fun x hx => by
    have := Jvm.Free.Multi.fill_old (T.setVm vm₁) cA cy n.toNatClampNeg k.toNatClampNeg (defaultValue ty) (a := x) (by rw [hTh]; exact hx) n.toNatClampNeg
    rw [hF, hTh] at this
    exact this
  have hrow : ∀ j : Nat, j < n.toNatClampNeg → F.heap[H.size + 1 + j]? = some (vp_cell cy z) := fun j hj => by
    have := Jvm.Free.Multi.fill_inner (T.setVm vm₁) cA cy n.toNatClampNeg k.toNatClampNeg (defaultValue ty) n.toNatClampNeg j hj
    rw [hF, hTh, hz] at this
    exact this
  have hout : Jvm.Free.Multi.outerC cA n.toNatClampNeg H.size n.toNatClampNeg = vp_cell cA (n.toNatClampNeg, .inr (.inr (.inr (.inr (fun i => if i < n.toNatClampNeg then some (H.size + 1 + i) else none))))) := by
    rw [vp_cell_q]
    exact vr_outer cA n.toNatClampNeg H.size n.toNatClampNeg
  rw [hout] at f2
  have hlt : ∀ a, a ∈ L → a < H.size := fun a ha => by
    obtain ⟨k9, hk9⟩ := va_pl_get (X := X) (f := f) ha
    exact (hP k9 _ hk9).lt
  have hnl : ∀ i : Nat, i < n.toNatClampNeg → H.size + 1 + i ∉ L := fun i _ h => by
    have := hlt _ h
    omega
  have hnm : ∀ a, a ∈ (List.range n.toNatClampNeg).map (fun i => H.size + 1 + i) → a ∉ L := fun a ha h => by
    obtain ⟨i, -, rfl⟩ := List.mem_map.mp ha
    have := hlt _ h
    omega
  have hP0 : va_P D cl (X ++ va_pl L f) F.heap := hP.kept (fun k9 x hx => hold x.1 ((hP k9 x hx).lt))
  have hP1 : va_P D cl ((X ++ va_pl L f) ++ [(H.size, .inl (cA, n.toNatClampNeg, .inr (.inr (.inr (.inr (fun i => if i < n.toNatClampNeg then some (H.size + 1 + i) else none))))))]) F.heap := hP0.app (fun k9 x hx => by
    have h0 : k9 < 1 := (List.getElem?_eq_some_iff.mp hx).1
    rw [show k9 = 0 by omega] at hx
    cases hx
    exact f2)
  have hP2 : va_P D cl (((X ++ va_pl L f) ++ [(H.size, .inl (cA, n.toNatClampNeg, .inr (.inr (.inr (.inr (fun i => if i < n.toNatClampNeg then some (H.size + 1 + i) else none))))))]) ++ ((List.range n.toNatClampNeg).map (fun i => H.size + 1 + i)).map (fun a => (a, .inl (cy, z)))) F.heap := hP1.app (fun k9 x hx => by
    obtain ⟨a, ha, rfl⟩ := List.mem_map.mp (List.mem_of_getElem? hx)
    obtain ⟨i, hi, rfl⟩ := List.mem_map.mp ha
    exact hrow i (List.mem_range.mp hi))
  have hD2 : va_D A (((X ++ va_pl L f) ++ [(H.size, .inl (cA, n.toNatClampNeg, .inr (.inr (.inr (.inr (fun i => if i < n.toNatClampNeg then some (H.size + 1 + i) else none))))))]) ++ ((List.range n.toNatClampNeg).map (fun i => H.size + 1 + i)).map (fun a => (a, .inl (cy, z)))) := by
    have hD1 := hD.push (e := .inl (cA, n.toNatClampNeg, .inr (.inr (.inr (.inr (fun i => if i < n.toNatClampNeg then some (H.size + 1 + i) else none)))))) hP rfl (hA _ hS.1)
    generalize hW1 : (X ++ va_pl L f) ++ [(H.size, .inl (cA, n.toNatClampNeg, .inr (.inr (.inr (.inr (fun i => if i < n.toNatClampNeg then some (H.size + 1 + i) else none))))))] = W1 at hD1 hP1 ⊢
    have hle : ∀ (k9 : Nat) (x : Nat × va_E), W1[k9]? = some x → x.1 ≤ H.size := fun k9 x hx => by
      rw [← hW1] at hx
      by_cases hl : k9 < (X ++ va_pl L f).length
      · rw [List.getElem?_append_left hl] at hx
        exact Nat.le_of_lt ((hP k9 x hx).lt)
      · rw [List.getElem?_append_right (by omega)] at hx
        have h0 : k9 - (X ++ va_pl L f).length < 1 := (List.getElem?_eq_some_iff.mp hx).1
        rw [show k9 - (X ++ va_pl L f).length = 0 by omega] at hx
        cases hx
        exact Nat.le_refl _
    have hr : ∀ (k9 : Nat) (x : Nat × va_E), (((List.range n.toNatClampNeg).map (fun i => H.size + 1 + i)).map (fun a => ((a, .inl (cy, z)) : Nat × va_E)))[k9]? = some x → x.1 = H.size + 1 + k9 := fun k9 x hx => by
      rw [List.getElem?_map, List.getElem?_map] at hx
      by_cases h9 : k9 < n.toNatClampNeg
      · rw [List.getElem?_range h9] at hx
        cases hx
        rfl
      · have hn0 : (List.range n.toNatClampNeg)[k9]? = none := List.getElem?_eq_none (by rw [List.length_range]; omega)
        rw [hn0] at hx
        cases hx
    refine ⟨fun i j x y hi hj hxy => ?_, fun k9 x hx => ?_⟩
    · by_cases h1 : i < W1.length <;> by_cases h2 : j < W1.length
      · rw [List.getElem?_append_left h1] at hi
        rw [List.getElem?_append_left h2] at hj
        exact hD1.1 i j x y hi hj hxy
      · rw [List.getElem?_append_left h1] at hi
        rw [List.getElem?_append_right (by omega)] at hj
        have := hle _ _ hi
        have := hr _ _ hj
        omega
      · rw [List.getElem?_append_right (by omega)] at hi
        rw [List.getElem?_append_left h2] at hj
        have := hle _ _ hj
        have := hr _ _ hi
        omega
      · rw [List.getElem?_append_right (by omega)] at hi hj
        have := hr _ _ hi
        have := hr _ _ hj
        omega
    · by_cases h1 : k9 < W1.length
      · rw [List.getElem?_append_left h1] at hx
        exact hD1.2 k9 x hx
      · rw [List.getElem?_append_right (by omega)] at hx
        have := hr _ _ hx
        exact hA _ (by have := hS.1; omega)
  have hAr : ArrOfT s cA (.array ty) := fun N9 z9 => by
    obtain ⟨-, k9, hk9, cm9, hkk9⟩ := (hO 0 0 0).1
    exact ⟨(fun q hq => by cases hq), k9, hk9, cm9, hkk9⟩
  have hK2 : va_K D cl (tys ++ [(cA, .array ty)]) s := ⟨hK.1, fun k9 x hx => by
    by_cases hl : k9 < tys.length
    · rw [List.getElem?_append_left hl] at hx
      exact hK.2 k9 x hx
    · rw [List.getElem?_append_right (by omega)] at hx
      have h0 : k9 - tys.length < 1 := (List.getElem?_eq_some_iff.mp hx).1
      rw [show k9 - tys.length = 0 by omega] at hx
      cases hx
      exact ⟨hAr, fA⟩⟩
  obtain ⟨t, a1, b1⟩ := kk H.size (fun i => H.size + 1 + i) cA F.heap (fun i j _ _ h => by have h9 : H.size + 1 + i = H.size + 1 + j := h; omega) hnl hK2 (by rw [← vr_rows hnm]; exact vr_lay hP2) (by rw [← vr_rows hnm]; exact vr_layD hD2) ⟨by rw [f1]; have := hS.1; omega, fun x h1 h2 => (hold x (Nat.lt_of_lt_of_le h1 hS.1)).trans (hS.2.1 x h1 h2), hS.2.2⟩ F rfl X'
  refine ⟨t, step t ?_, b1⟩
  have e : T.heap.size = H.size := by rw [hT]
  rw [e]
  exact a1
end VGM
/-! ===== END ===== -/

/-! ===== BEGIN printed: names, fields, word lists, decode rows ===== -/
def RX0 : String := "BoltRing$Cases"
def TX0 : u_T := fun k => match k with
  | 0 => ("BoltRing$Cases", "count", "I", false)
  | 1 => ("BoltRing$Cases", "loads", "[[I", true)
  | 2 => ("BoltRing$Cases", "leastUpper", "J", false)
  | _ => ("BoltRing$Cases", "leastLower", "J", false)
def tyX0 : Nat → FieldType := fun k => match k with
  | 0 => .int
  | 1 => .array (.array .int)
  | 2 => .long
  | _ => .long
abbrev wsX00 : List Cond := u_ws RX0 TX0 4
theorem nmX0 : ∀ a, a < 4 → ∀ b, b < 4 → a ≠ b → (TX0 a).2.1 ≠ (TX0 b).2.1 := by decide +kernel
theorem tyX0_ok : ∀ k, k < 4 → parseFieldDescriptor (TX0 k).2.2.1 = some (tyX0 k) := by decide +kernel
abbrev cX0_init : ByteArray := prog_2_method_1_code
def yX0_init : MethodName := ⟨RX0, "<init>", "()V"⟩
def RX1 : String := "BoltRing$Drawing"
def TX1 : u_T := fun k => match k with
  | 0 => ("BoltRing$Drawing", "bestPasses", "I", false)
  | 1 => ("BoltRing$Drawing", "bestDrawn", "I", false)
  | 2 => ("BoltRing$Drawing", "bestFigures", "I", false)
  | 3 => ("BoltRing$Drawing", "lifts", "LBoltRing$Lifts;", true)
  | 4 => ("BoltRing$Drawing", "kept", "[I", true)
  | 5 => ("BoltRing$Drawing", "trial", "[I", true)
  | _ => ("BoltRing$Drawing", "byNumbers", "[I", true)
def tyX1 : Nat → FieldType := fun k => match k with
  | 0 => .int
  | 1 => .int
  | 2 => .int
  | 3 => .object "BoltRing$Lifts"
  | 4 => .array .int
  | 5 => .array .int
  | _ => .array .int
abbrev wsX10 : List Cond := u_ws RX1 TX1 7
theorem nmX1 : ∀ a, a < 7 → ∀ b, b < 7 → a ≠ b → (TX1 a).2.1 ≠ (TX1 b).2.1 := by decide +kernel
theorem tyX1_ok : ∀ k, k < 7 → parseFieldDescriptor (TX1 k).2.2.1 = some (tyX1 k) := by decide +kernel
abbrev cX1_init : ByteArray := prog_3_method_1_code
def yX1_init : MethodName := ⟨RX1, "<init>", "()V"⟩
abbrev cX1_keepTurns : ByteArray := prog_3_method_2_code
def yX1_keepTurns : MethodName := ⟨RX1, "keepTurns", "(LBoltRing$Joint;)V"⟩
abbrev cX1_putTurnsBack : ByteArray := prog_3_method_3_code
def yX1_putTurnsBack : MethodName := ⟨RX1, "putTurnsBack", "(LBoltRing$Joint;)V"⟩
abbrev cX1_drawBolt : ByteArray := prog_3_method_4_code
def yX1_drawBolt : MethodName := ⟨RX1, "drawBolt", "(LBoltRing$Joint;II)I"⟩
abbrev cX1_goRound : ByteArray := prog_3_method_5_code
def yX1_goRound : MethodName := ⟨RX1, "goRound", "(LBoltRing$Joint;[II)I"⟩
abbrev cX1_goRounds : ByteArray := prog_3_method_6_code
def yX1_goRounds : MethodName := ⟨RX1, "goRounds", "(LBoltRing$Joint;[III)I"⟩
abbrev cX1_allHold : ByteArray := prog_3_method_7_code
def yX1_allHold : MethodName := ⟨RX1, "allHold", "(LBoltRing$Joint;I)Z"⟩
abbrev cX1_findBestRow : ByteArray := prog_3_method_8_code
def yX1_findBestRow : MethodName := ⟨RX1, "findBestRow", "(LBoltRing$Joint;I)V"⟩
abbrev cX1_figuresOf : ByteArray := prog_3_method_9_code
def yX1_figuresOf : MethodName := ⟨RX1, "figuresOf", "([II)I"⟩
abbrev cX1_toNextOrder : ByteArray := prog_3_method_10_code
def yX1_toNextOrder : MethodName := ⟨RX1, "toNextOrder", "([II)Z"⟩
abbrev cX1_swap : ByteArray := prog_3_method_11_code
def yX1_swap : MethodName := ⟨RX1, "swap", "([III)V"⟩
abbrev cX1_drawEvenFromNothing : ByteArray := prog_3_method_12_code
def yX1_drawEvenFromNothing : MethodName := ⟨RX1, "drawEvenFromNothing", "(LBoltRing$Joint;I)Z"⟩
def RX2 : String := "BoltRing$Joint"
def TX2 : u_T := fun k => match k with
  | 0 => ("BoltRing$Joint", "bolts", "I", false)
  | 1 => ("BoltRing$Joint", "rib", "I", false)
  | 2 => ("BoltRing$Joint", "brokenSet", "I", false)
  | 3 => ("BoltRing$Joint", "stiffness", "[I", true)
  | 4 => ("BoltRing$Joint", "pads", "[I", true)
  | 5 => ("BoltRing$Joint", "turns", "[I", true)
  | 6 => ("BoltRing$Joint", "loads", "[I", true)
  | _ => ("BoltRing$Joint", "order", "[I", true)
def tyX2 : Nat → FieldType := fun k => match k with
  | 0 => .int
  | 1 => .int
  | 2 => .int
  | 3 => .array .int
  | 4 => .array .int
  | 5 => .array .int
  | 6 => .array .int
  | _ => .array .int
abbrev wsX20 : List Cond := u_ws RX2 TX2 8
theorem nmX2 : ∀ a, a < 8 → ∀ b, b < 8 → a ≠ b → (TX2 a).2.1 ≠ (TX2 b).2.1 := by decide +kernel
theorem tyX2_ok : ∀ k, k < 8 → parseFieldDescriptor (TX2 k).2.2.1 = some (tyX2 k) := by decide +kernel
abbrev cX2_init : ByteArray := prog_4_method_1_code
def yX2_init : MethodName := ⟨RX2, "<init>", "()V"⟩
abbrev cX2_begin : ByteArray := prog_4_method_2_code
def yX2_begin : MethodName := ⟨RX2, "begin", "(II)V"⟩
abbrev cX2_has : ByteArray := prog_4_method_3_code
def yX2_has : MethodName := ⟨RX2, "has", "(I)Z"⟩
abbrev cX2_allSet : ByteArray := prog_4_method_4_code
def yX2_allSet : MethodName := ⟨RX2, "allSet", "()I"⟩
abbrev cX2_isBroken : ByteArray := prog_4_method_5_code
def yX2_isBroken : MethodName := ⟨RX2, "isBroken", "(I)Z"⟩
abbrev cX2_markBroken : ByteArray := prog_4_method_6_code
def yX2_markBroken : MethodName := ⟨RX2, "markBroken", "(IZ)V"⟩
abbrev cX2_wholeCount : ByteArray := prog_4_method_7_code
def yX2_wholeCount : MethodName := ⟨RX2, "wholeCount", "()I"⟩
abbrev cX2_valuesOf : ByteArray := prog_4_method_8_code
def yX2_valuesOf : MethodName := ⟨RX2, "valuesOf", "(I)[I"⟩
abbrev cX2_sumOf : ByteArray := prog_4_method_9_code
def yX2_sumOf : MethodName := ⟨RX2, "sumOf", "([I)I"⟩
abbrev cX2_placeInRow : ByteArray := prog_4_method_10_code
def yX2_placeInRow : MethodName := ⟨RX2, "placeInRow", "(I)I"⟩
abbrev cX2_takeRow : ByteArray := prog_4_method_11_code
def yX2_takeRow : MethodName := ⟨RX2, "takeRow", "(I)Z"⟩
abbrev cX2_isRow : ByteArray := prog_4_method_12_code
def yX2_isRow : MethodName := ⟨RX2, "isRow", "(I)Z"⟩
def RX3 : String := "BoltRing$Lifts"
def TX3 : u_T := fun k => match k with
  | 0 => ("BoltRing$Lifts", "upper", "[J", true)
  | 1 => ("BoltRing$Lifts", "lower", "J", false)
  | 2 => ("BoltRing$Lifts", "diagonal", "[J", true)
  | 3 => ("BoltRing$Lifts", "side", "[J", true)
  | 4 => ("BoltRing$Lifts", "ribPowers", "[J", true)
  | _ => ("BoltRing$Lifts", "arcs", "[J", true)
def tyX3 : Nat → FieldType := fun k => match k with
  | 0 => .array .long
  | 1 => .long
  | 2 => .array .long
  | 3 => .array .long
  | 4 => .array .long
  | _ => .array .long
abbrev wsX30 : List Cond := u_ws RX3 TX3 6
theorem nmX3 : ∀ a, a < 6 → ∀ b, b < 6 → a ≠ b → (TX3 a).2.1 ≠ (TX3 b).2.1 := by decide +kernel
theorem tyX3_ok : ∀ k, k < 6 → parseFieldDescriptor (TX3 k).2.2.1 = some (tyX3 k) := by decide +kernel
abbrev cX3_init : ByteArray := prog_5_method_1_code
def yX3_init : MethodName := ⟨RX3, "<init>", "()V"⟩
abbrev cX3_settle : ByteArray := prog_5_method_2_code
def yX3_settle : MethodName := ⟨RX3, "settle", "(LBoltRing$Joint;[I)V"⟩
abbrev cX3_settleHolding : ByteArray := prog_5_method_3_code
def yX3_settleHolding : MethodName := ⟨RX3, "settleHolding", "(LBoltRing$Joint;[III)V"⟩
abbrev cX3_fillSystem : ByteArray := prog_5_method_4_code
def yX3_fillSystem : MethodName := ⟨RX3, "fillSystem", "(LBoltRing$Joint;[III)V"⟩
abbrev cX3_fillArcs : ByteArray := prog_5_method_5_code
def yX3_fillArcs : MethodName := ⟨RX3, "fillArcs", "(II)V"⟩
abbrev cX3_solve : ByteArray := prog_5_method_6_code
def yX3_solve : MethodName := ⟨RX3, "solve", "(II)V"⟩
abbrev cX3_liftedSet : ByteArray := prog_5_method_7_code
def yX3_liftedSet : MethodName := ⟨RX3, "liftedSet", "(LBoltRing$Joint;)I"⟩
abbrev cX3_aboveTurnsSet : ByteArray := prog_5_method_8_code
def yX3_aboveTurnsSet : MethodName := ⟨RX3, "aboveTurnsSet", "(LBoltRing$Joint;)I"⟩
abbrev cX3_pullUpper : ByteArray := prog_5_method_9_code
def yX3_pullUpper : MethodName := ⟨RX3, "pullUpper", "(LBoltRing$Joint;I)J"⟩
abbrev cX3_pressUpper : ByteArray := prog_5_method_10_code
def yX3_pressUpper : MethodName := ⟨RX3, "pressUpper", "(LBoltRing$Joint;I)J"⟩
abbrev cX3_slackCount : ByteArray := prog_5_method_12_code
def yX3_slackCount : MethodName := ⟨RX3, "slackCount", "(LBoltRing$Joint;)I"⟩
abbrev cX3_openCount : ByteArray := prog_5_method_13_code
def yX3_openCount : MethodName := ⟨RX3, "openCount", "(LBoltRing$Joint;)I"⟩
def RX4 : String := "BoltRing$Misses"
def TX4 : u_T := fun k => match k with
  | 0 => ("BoltRing$Misses", "weights", "[I", true)
  | _ => ("BoltRing$Misses", "meant", "[I", true)
def tyX4 : Nat → FieldType := fun k => match k with
  | 0 => .array .int
  | _ => .array .int
abbrev wsX40 : List Cond := u_ws RX4 TX4 2
theorem nmX4 : ∀ a, a < 2 → ∀ b, b < 2 → a ≠ b → (TX4 a).2.1 ≠ (TX4 b).2.1 := by decide +kernel
theorem tyX4_ok : ∀ k, k < 2 → parseFieldDescriptor (TX4 k).2.2.1 = some (tyX4 k) := by decide +kernel
abbrev cX4_init : ByteArray := prog_6_method_1_code
def yX4_init : MethodName := ⟨RX4, "<init>", "()V"⟩
abbrev cX4_begin : ByteArray := prog_6_method_2_code
def yX4_begin : MethodName := ⟨RX4, "begin", "()V"⟩
abbrev cX4_weigh : ByteArray := prog_6_method_3_code
def yX4_weigh : MethodName := ⟨RX4, "weigh", "(III)V"⟩
def RX5 : String := "BoltRing$Orders"
def TX5 : u_T := fun k => match k with
  | 0 => ("BoltRing$Orders", "length", "I", false)
  | 1 => ("BoltRing$Orders", "flaw", "I", false)
  | 2 => ("BoltRing$Orders", "flawAt", "I", false)
  | 3 => ("BoltRing$Orders", "clauses", "I", false)
  | 4 => ("BoltRing$Orders", "kinds", "[I", true)
  | 5 => ("BoltRing$Orders", "firsts", "[I", true)
  | 6 => ("BoltRing$Orders", "seconds", "[I", true)
  | 7 => ("BoltRing$Orders", "signs", "[I", true)
  | 8 => ("BoltRing$Orders", "place", "I", false)
  | 9 => ("BoltRing$Orders", "token", "I", false)
  | 10 => ("BoltRing$Orders", "tokenAt", "I", false)
  | _ => ("BoltRing$Orders", "value", "I", false)
def tyX5 : Nat → FieldType := fun k => match k with
  | 0 => .int
  | 1 => .int
  | 2 => .int
  | 3 => .int
  | 4 => .array .int
  | 5 => .array .int
  | 6 => .array .int
  | 7 => .array .int
  | 8 => .int
  | 9 => .int
  | 10 => .int
  | _ => .int
abbrev wsX50 : List Cond := u_ws RX5 TX5 12
theorem nmX5 : ∀ a, a < 12 → ∀ b, b < 12 → a ≠ b → (TX5 a).2.1 ≠ (TX5 b).2.1 := by decide +kernel
theorem tyX5_ok : ∀ k, k < 12 → parseFieldDescriptor (TX5 k).2.2.1 = some (tyX5 k) := by decide +kernel
abbrev cX5_init : ByteArray := prog_7_method_1_code
def yX5_init : MethodName := ⟨RX5, "<init>", "()V"⟩
def RX6 : String := "BoltRing$Readings"
def TX6 : u_T := fun k => match k with
  | 0 => ("BoltRing$Readings", "told", "I", false)
  | 1 => ("BoltRing$Readings", "lows", "[I", true)
  | _ => ("BoltRing$Readings", "highs", "[I", true)
def tyX6 : Nat → FieldType := fun k => match k with
  | 0 => .int
  | 1 => .array .int
  | _ => .array .int
abbrev wsX60 : List Cond := u_ws RX6 TX6 3
theorem nmX6 : ∀ a, a < 3 → ∀ b, b < 3 → a ≠ b → (TX6 a).2.1 ≠ (TX6 b).2.1 := by decide +kernel
theorem tyX6_ok : ∀ k, k < 3 → parseFieldDescriptor (TX6 k).2.2.1 = some (tyX6 k) := by decide +kernel
abbrev cX6_init : ByteArray := prog_8_method_1_code
def yX6_init : MethodName := ⟨RX6, "<init>", "()V"⟩
def RX7 : String := "BoltRing"
def TX7 : u_T := fun k => match k with
  | 0 => ("BoltRing", "ring", "LBoltRing$Joint;", true)
  | 1 => ("BoltRing", "lifts", "LBoltRing$Lifts;", true)
  | 2 => ("BoltRing", "drawing", "LBoltRing$Drawing;", true)
  | 3 => ("BoltRing", "cases", "LBoltRing$Cases;", true)
  | 4 => ("BoltRing", "misses", "LBoltRing$Misses;", true)
  | 5 => ("BoltRing", "readings", "LBoltRing$Readings;", true)
  | 6 => ("BoltRing", "orders", "LBoltRing$Orders;", true)
  | _ => ("BoltRing", "clausesDone", "I", false)
def tyX7 : Nat → FieldType := fun k => match k with
  | 0 => .object "BoltRing$Joint"
  | 1 => .object "BoltRing$Lifts"
  | 2 => .object "BoltRing$Drawing"
  | 3 => .object "BoltRing$Cases"
  | 4 => .object "BoltRing$Misses"
  | 5 => .object "BoltRing$Readings"
  | 6 => .object "BoltRing$Orders"
  | _ => .int
abbrev wsX70 : List Cond := u_ws RX7 TX7 8
theorem nmX7 : ∀ a, a < 8 → ∀ b, b < 8 → a ≠ b → (TX7 a).2.1 ≠ (TX7 b).2.1 := by decide +kernel
theorem tyX7_ok : ∀ k, k < 8 → parseFieldDescriptor (TX7 k).2.2.1 = some (tyX7 k) := by decide +kernel
abbrev cX7_init : ByteArray := prog_1_method_1_code
def yX7_init : MethodName := ⟨RX7, "<init>", "()V"⟩
abbrev cX7_joint : ByteArray := prog_1_method_2_code
def yX7_joint : MethodName := ⟨RX7, "joint", "(II)I"⟩
abbrev cX7_set : ByteArray := prog_1_method_3_code
def yX7_set : MethodName := ⟨RX7, "set", "(III)I"⟩
abbrev cX7_broken : ByteArray := prog_1_method_4_code
def yX7_broken : MethodName := ⟨RX7, "broken", "(IZ)I"⟩
abbrev cX7_told : ByteArray := prog_1_method_5_code
def yX7_told : MethodName := ⟨RX7, "told", "(II)I"⟩
abbrev cX7_count : ByteArray := prog_1_method_7_code
def yX7_count : MethodName := ⟨RX7, "count", "(I)I"⟩
abbrev cX7_row : ByteArray := prog_1_method_9_code
def yX7_row : MethodName := ⟨RX7, "row", "(I)I"⟩
abbrev cX7_passes : ByteArray := prog_1_method_11_code
def yX7_passes : MethodName := ⟨RX7, "passes", "(I)I"⟩
abbrev cX7_best : ByteArray := prog_1_method_12_code
def yX7_best : MethodName := ⟨RX7, "best", "(II)I"⟩
abbrev cX7_even : ByteArray := prog_1_method_13_code
def yX7_even : MethodName := ⟨RX7, "even", "(II)I"⟩
abbrev cX7_within : ByteArray := prog_1_method_29_code
def yX7_within : MethodName := ⟨RX7, "within", "(III)Z"⟩
abbrev cX7_asNumber : ByteArray := prog_1_method_30_code
def yX7_asNumber : MethodName := ⟨RX7, "asNumber", "(Z)I"⟩
abbrev cX7_leastOf : ByteArray := prog_1_method_31_code
def yX7_leastOf : MethodName := ⟨RX7, "leastOf", "(I)I"⟩
abbrev cX7_mostOf : ByteArray := prog_1_method_32_code
def yX7_mostOf : MethodName := ⟨RX7, "mostOf", "(I)I"⟩
abbrev cX7_wholeFrom : ByteArray := prog_1_method_35_code
def yX7_wholeFrom : MethodName := ⟨RX7, "wholeFrom", "(JJ)J"⟩
def RX8 : String := "BoltRingModel"
def TX8 : u_T := fun k => match k with
  | _ => ("", "", "", false)
def tyX8 : Nat → FieldType := fun k => match k with
  | _ => .int
abbrev wsX80 : List Cond := u_ws RX8 TX8 0
theorem nmX8 : ∀ a, a < 0 → ∀ b, b < 0 → a ≠ b → (TX8 a).2.1 ≠ (TX8 b).2.1 := by decide +kernel
theorem tyX8_ok : ∀ k, k < 0 → parseFieldDescriptor (TX8 k).2.2.1 = some (tyX8 k) := by decide +kernel
def RJ6 : String := "java/lang/Integer"
def TJ6 : u_T := fun k => match k with
  | _ => ("", "", "", false)
def tyJ6 : Nat → FieldType := fun k => match k with
  | _ => .int
abbrev wsJ60 : List Cond := u_ws RJ6 TJ6 0
theorem nmJ6 : ∀ a, a < 0 → ∀ b, b < 0 → a ≠ b → (TJ6 a).2.1 ≠ (TJ6 b).2.1 := by decide +kernel
theorem tyJ6_ok : ∀ k, k < 0 → parseFieldDescriptor (TJ6 k).2.2.1 = some (tyJ6 k) := by decide +kernel
abbrev cJ6_bitCount_0f7a4 : ByteArray := prog_11_method_49_code
def yJ6_bitCount_0f7a4 : MethodName := ⟨RJ6, "bitCount", "(I)I"⟩
def RJ9 : String := "java/lang/Math"
def TJ9 : u_T := fun k => match k with
  | _ => ("", "", "", false)
def tyJ9 : Nat → FieldType := fun k => match k with
  | _ => .int
abbrev wsJ90 : List Cond := u_ws RJ9 TJ9 0
theorem nmJ9 : ∀ a, a < 0 → ∀ b, b < 0 → a ≠ b → (TJ9 a).2.1 ≠ (TJ9 b).2.1 := by decide +kernel
theorem tyJ9_ok : ∀ k, k < 0 → parseFieldDescriptor (TJ9 k).2.2.1 = some (tyJ9 k) := by decide +kernel
abbrev cJ9_max_f86c9 : ByteArray := prog_12_method_66_code
def yJ9_max_f86c9 : MethodName := ⟨RJ9, "max", "(JJ)J"⟩
def RJ10 : String := "java/lang/System"
def TJ10 : u_T := fun k => match k with
  | _ => ("", "", "", false)
def tyJ10 : Nat → FieldType := fun k => match k with
  | _ => .int
abbrev wsJ100 : List Cond := u_ws RJ10 TJ10 0
theorem nmJ10 : ∀ a, a < 0 → ∀ b, b < 0 → a ≠ b → (TJ10 a).2.1 ≠ (TJ10 b).2.1 := by decide +kernel
theorem tyJ10_ok : ∀ k, k < 0 → parseFieldDescriptor (TJ10 k).2.2.1 = some (tyJ10 k) := by decide +kernel
def RL : String := "BoltRingLaw"
abbrev cL_cell : ByteArray := method_2_code
def yL_cell : MethodName := ⟨RL, "cell", "([II)I"⟩
abbrev cL_low : ByteArray := method_3_code
def yL_low : MethodName := ⟨RL, "low", "(II)I"⟩
abbrev cL_make : ByteArray := method_4_code
def yL_make : MethodName := ⟨RL, "make", "(LBoltRing;[II)Z"⟩
abbrev cL_law : ByteArray := code
def yL_law : MethodName := ⟨RL, "law", "([I)Z"⟩
def wsX0_init : List Cond := .code yX0_init cX0_init 1 none :: ([.methodLink RX0 3 objectInit, .instanceMethod objectInit, .code objectInit ⟨#[0xb1]⟩ 1 none, .classLink RX0 11 "[[I", .arrayClass .int, .fieldLink RX0 13 "BoltRing$Cases" "loads" "[[I", .fieldLink RX0 16 "BoltRing$Cases" "leastLower" "J"] ++ wsX00)
def wsX3_init : List Cond := .code yX3_init cX3_init 1 none :: ([.methodLink RX3 3 objectInit, .instanceMethod objectInit, .code objectInit ⟨#[0xb1]⟩ 1 none, .arrayClass .long, .fieldLink RX3 9 "BoltRing$Lifts" "upper" "[J", .fieldLink RX3 15 "BoltRing$Lifts" "lower" "J", .fieldLink RX3 19 "BoltRing$Lifts" "diagonal" "[J", .fieldLink RX3 22 "BoltRing$Lifts" "side" "[J", .fieldLink RX3 25 "BoltRing$Lifts" "ribPowers" "[J", .fieldLink RX3 28 "BoltRing$Lifts" "arcs" "[J"] ++ wsX30)
def wsX1_init : List Cond := .code yX1_init cX1_init 1 none :: ([.methodLink RX1 3 objectInit, .instanceMethod objectInit, .code objectInit ⟨#[0xb1]⟩ 1 none, .classLink RX1 9 RX3, .instantiable RX3 6, .initialized RX3, .fieldLink RX1 12 "BoltRing$Drawing" "lifts" "LBoltRing$Lifts;", .arrayClass .int, .fieldLink RX1 18 "BoltRing$Drawing" "kept" "[I", .fieldLink RX1 22 "BoltRing$Drawing" "trial" "[I", .fieldLink RX1 25 "BoltRing$Drawing" "byNumbers" "[I", .instanceMethod yX3_init, .code yX3_init cX3_init 1 none, .methodLink RX3 3 objectInit, .arrayClass .long, .fieldLink RX3 9 "BoltRing$Lifts" "upper" "[J", .fieldLink RX3 15 "BoltRing$Lifts" "lower" "J", .fieldLink RX3 19 "BoltRing$Lifts" "diagonal" "[J", .fieldLink RX3 22 "BoltRing$Lifts" "side" "[J", .fieldLink RX3 25 "BoltRing$Lifts" "ribPowers" "[J", .fieldLink RX3 28 "BoltRing$Lifts" "arcs" "[J"] ++ wsX30 ++ wsX10)
def wsX1_keepTurns : List Cond := .code yX1_keepTurns cX1_keepTurns 2 none :: ([.fieldLink RX1 28 "BoltRing$Joint" "turns" "[I", .fieldLink RX1 18 "BoltRing$Drawing" "kept" "[I", .methodLink RX1 33 arraycopyName, .native arraycopyName, .static arraycopyName, .initialized "java/lang/System"] ++ wsX20 ++ wsX10)
def wsX1_putTurnsBack : List Cond := .code yX1_putTurnsBack cX1_putTurnsBack 2 none :: ([.fieldLink RX1 18 "BoltRing$Drawing" "kept" "[I", .fieldLink RX1 28 "BoltRing$Joint" "turns" "[I", .methodLink RX1 33 arraycopyName, .native arraycopyName, .static arraycopyName, .initialized "java/lang/System"] ++ wsX10 ++ wsX20)
def wsJ6_bitCount_0f7a4 : List Cond := .code yJ6_bitCount_0f7a4 cJ6_bitCount_0f7a4 1 (some .int) :: ([.constant RJ6 265 (1431655765), .constant RJ6 266 (858993459), .constant RJ6 267 (252645135)])
def wsX2_wholeCount : List Cond := .code yX2_wholeCount cX2_wholeCount 1 (some .int) :: ([.fieldLink RX2 27 "BoltRing$Joint" "bolts" "I", .fieldLink RX2 34 "BoltRing$Joint" "brokenSet" "I", .methodLink RX2 37 yJ6_bitCount_0f7a4, .static yJ6_bitCount_0f7a4, .initialized RJ6, .code yJ6_bitCount_0f7a4 cJ6_bitCount_0f7a4 1 (some .int), .constant RJ6 265 (1431655765), .constant RJ6 266 (858993459), .constant RJ6 267 (252645135)] ++ wsX20)
def wsX2_sumOf : List Cond := .code yX2_sumOf cX2_sumOf 4 (some .int) :: ([.fieldLink RX2 27 "BoltRing$Joint" "bolts" "I"] ++ wsX20)
def wsX2_allSet : List Cond := .code yX2_allSet cX2_allSet 1 (some .int) :: ([.fieldLink RX2 27 "BoltRing$Joint" "bolts" "I"] ++ wsX20)
def wsX3_fillSystem : List Cond := .code yX3_fillSystem cX3_fillSystem 10 none :: ([.fieldLink RX3 48 "BoltRing$Joint" "bolts" "I", .constantLong RX3 68 (2), .fieldLink RX3 51 "BoltRing$Joint" "rib" "I", .fieldLink RX3 70 "BoltRing$Joint" "stiffness" "[I", .fieldLink RX3 74 "BoltRing$Joint" "turns" "[I", .fieldLink RX3 77 "BoltRing$Joint" "pads" "[I", .fieldLink RX3 19 "BoltRing$Lifts" "diagonal" "[J", .fieldLink RX3 22 "BoltRing$Lifts" "side" "[J"] ++ wsX20 ++ wsX30)
def wsX3_fillArcs : List Cond := .code yX3_fillArcs cX3_fillArcs 9 none :: ([.fieldLink RX3 28 "BoltRing$Lifts" "arcs" "[J", .fieldLink RX3 19 "BoltRing$Lifts" "diagonal" "[J", .fieldLink RX3 25 "BoltRing$Lifts" "ribPowers" "[J"] ++ wsX30)
def wsX3_solve : List Cond := .code yX3_solve cX3_solve 15 none :: ([.fieldLink RX3 19 "BoltRing$Lifts" "diagonal" "[J", .fieldLink RX3 28 "BoltRing$Lifts" "arcs" "[J", .constantLong RX3 68 (2), .fieldLink RX3 25 "BoltRing$Lifts" "ribPowers" "[J", .fieldLink RX3 15 "BoltRing$Lifts" "lower" "J", .fieldLink RX3 22 "BoltRing$Lifts" "side" "[J", .fieldLink RX3 9 "BoltRing$Lifts" "upper" "[J"] ++ wsX30)
def wsX3_liftedSet : List Cond := .code yX3_liftedSet cX3_liftedSet 4 (some .int) :: ([.fieldLink RX3 48 "BoltRing$Joint" "bolts" "I", .fieldLink RX3 9 "BoltRing$Lifts" "upper" "[J"] ++ wsX20 ++ wsX30)
def wsX3_aboveTurnsSet : List Cond := .code yX3_aboveTurnsSet cX3_aboveTurnsSet 4 (some .int) :: ([.fieldLink RX3 48 "BoltRing$Joint" "bolts" "I", .fieldLink RX3 9 "BoltRing$Lifts" "upper" "[J", .fieldLink RX3 15 "BoltRing$Lifts" "lower" "J", .fieldLink RX3 74 "BoltRing$Joint" "turns" "[I"] ++ wsX20 ++ wsX30)
def wsX3_settleHolding_r1 : List Cond := [Cond.fieldLink RX3 41 "BoltRing$Joint" "brokenSet" "I", Cond.fieldLink RX3 22 "BoltRing$Lifts" "side" "[J", Cond.fieldLink RX3 48 "BoltRing$Joint" "bolts" "I", Cond.fieldLink RX3 51 "BoltRing$Joint" "rib" "I", Cond.methodLink RX3 35 yX2_allSet, Cond.instanceMethod yX2_allSet, Cond.selects RX2 yX2_allSet yX2_allSet, Cond.initialized RX2, Cond.code yX2_allSet cX2_allSet 1 (some .int), Cond.fieldLink RX2 27 "BoltRing$Joint" "bolts" "I", Cond.methodLink RX3 45 yX3_fillSystem, Cond.instanceMethod yX3_fillSystem, Cond.selects RX3 yX3_fillSystem yX3_fillSystem, Cond.initialized RX3, Cond.code yX3_fillSystem cX3_fillSystem 10 none, Cond.constantLong RX3 68 (2), Cond.fieldLink RX3 70 "BoltRing$Joint" "stiffness" "[I", Cond.fieldLink RX3 74 "BoltRing$Joint" "turns" "[I", Cond.fieldLink RX3 77 "BoltRing$Joint" "pads" "[I", Cond.fieldLink RX3 19 "BoltRing$Lifts" "diagonal" "[J", Cond.methodLink RX3 54 yX3_fillArcs, Cond.instanceMethod yX3_fillArcs, Cond.selects RX3 yX3_fillArcs yX3_fillArcs, Cond.code yX3_fillArcs cX3_fillArcs 9 none]
def wsX3_settleHolding_r2 : List Cond := [Cond.fieldLink RX3 28 "BoltRing$Lifts" "arcs" "[J", Cond.fieldLink RX3 25 "BoltRing$Lifts" "ribPowers" "[J", Cond.methodLink RX3 58 yX3_solve, Cond.instanceMethod yX3_solve, Cond.selects RX3 yX3_solve yX3_solve, Cond.code yX3_solve cX3_solve 15 none, Cond.fieldLink RX3 15 "BoltRing$Lifts" "lower" "J", Cond.fieldLink RX3 9 "BoltRing$Lifts" "upper" "[J", Cond.methodLink RX3 61 yX3_liftedSet, Cond.instanceMethod yX3_liftedSet, Cond.selects RX3 yX3_liftedSet yX3_liftedSet, Cond.code yX3_liftedSet cX3_liftedSet 4 (some .int), Cond.methodLink RX3 65 yX3_aboveTurnsSet, Cond.instanceMethod yX3_aboveTurnsSet, Cond.selects RX3 yX3_aboveTurnsSet yX3_aboveTurnsSet, Cond.code yX3_aboveTurnsSet cX3_aboveTurnsSet 4 (some .int)]
def wsX3_settleHolding : List Cond := .code yX3_settleHolding cX3_settleHolding 10 none :: ((wsX3_settleHolding_r1 ++ wsX3_settleHolding_r2) ++ wsX20 ++ wsX30)
def wsX7_wholeFrom : List Cond := .code yX7_wholeFrom cX7_wholeFrom 4 (some .long) :: ([])
def wsX1_drawBolt_r1 : List Cond := [Cond.fieldLink RX1 43 "BoltRing$Joint" "loads" "[I", Cond.fieldLink RX1 12 "BoltRing$Drawing" "lifts" "LBoltRing$Lifts;", Cond.fieldLink RX1 54 "BoltRing$Joint" "stiffness" "[I", Cond.fieldLink RX1 57 "BoltRing$Lifts" "upper" "[J", Cond.fieldLink RX1 61 "BoltRing$Lifts" "lower" "J", Cond.fieldLink RX1 28 "BoltRing$Joint" "turns" "[I", Cond.methodLink RX1 69 Lib.MathLoose.max_long.x, Cond.static Lib.MathLoose.max_long.x, Cond.initialized "java/lang/Math", Cond.code Lib.MathLoose.max_long.x Lib.MathLoose.max_long.code 4 (some .long), Cond.constantLong RX1 74 (200), Cond.methodLink RX1 39 yX2_wholeCount, Cond.instanceMethod yX2_wholeCount, Cond.selects RX2 yX2_wholeCount yX2_wholeCount, Cond.initialized RX2, Cond.code yX2_wholeCount cX2_wholeCount 1 (some .int), Cond.fieldLink RX2 27 "BoltRing$Joint" "bolts" "I", Cond.fieldLink RX2 34 "BoltRing$Joint" "brokenSet" "I", Cond.methodLink RX2 37 yJ6_bitCount_0f7a4, Cond.static yJ6_bitCount_0f7a4, Cond.initialized RJ6, Cond.code yJ6_bitCount_0f7a4 cJ6_bitCount_0f7a4 1 (some .int), Cond.constant RJ6 265 (1431655765), Cond.constant RJ6 266 (858993459)]
def wsX1_drawBolt_r2 : List Cond := [Cond.constant RJ6 267 (252645135), Cond.methodLink RX1 46 yX2_sumOf, Cond.instanceMethod yX2_sumOf, Cond.selects RX2 yX2_sumOf yX2_sumOf, Cond.code yX2_sumOf cX2_sumOf 4 (some .int), Cond.methodLink RX1 50 yX3_settleHolding, Cond.instanceMethod yX3_settleHolding, Cond.selects RX3 yX3_settleHolding yX3_settleHolding, Cond.initialized RX3, Cond.code yX3_settleHolding cX3_settleHolding 10 none, Cond.fieldLink RX3 41 "BoltRing$Joint" "brokenSet" "I", Cond.fieldLink RX3 22 "BoltRing$Lifts" "side" "[J", Cond.fieldLink RX3 48 "BoltRing$Joint" "bolts" "I", Cond.fieldLink RX3 51 "BoltRing$Joint" "rib" "I", Cond.methodLink RX3 35 yX2_allSet, Cond.instanceMethod yX2_allSet, Cond.selects RX2 yX2_allSet yX2_allSet, Cond.code yX2_allSet cX2_allSet 1 (some .int), Cond.methodLink RX3 45 yX3_fillSystem, Cond.instanceMethod yX3_fillSystem, Cond.selects RX3 yX3_fillSystem yX3_fillSystem, Cond.code yX3_fillSystem cX3_fillSystem 10 none, Cond.constantLong RX3 68 (2), Cond.fieldLink RX3 70 "BoltRing$Joint" "stiffness" "[I"]
def wsX1_drawBolt_r3 : List Cond := [Cond.fieldLink RX3 74 "BoltRing$Joint" "turns" "[I", Cond.fieldLink RX3 77 "BoltRing$Joint" "pads" "[I", Cond.fieldLink RX3 19 "BoltRing$Lifts" "diagonal" "[J", Cond.methodLink RX3 54 yX3_fillArcs, Cond.instanceMethod yX3_fillArcs, Cond.selects RX3 yX3_fillArcs yX3_fillArcs, Cond.code yX3_fillArcs cX3_fillArcs 9 none, Cond.fieldLink RX3 28 "BoltRing$Lifts" "arcs" "[J", Cond.fieldLink RX3 25 "BoltRing$Lifts" "ribPowers" "[J", Cond.methodLink RX3 58 yX3_solve, Cond.instanceMethod yX3_solve, Cond.selects RX3 yX3_solve yX3_solve, Cond.code yX3_solve cX3_solve 15 none, Cond.fieldLink RX3 15 "BoltRing$Lifts" "lower" "J", Cond.fieldLink RX3 9 "BoltRing$Lifts" "upper" "[J", Cond.methodLink RX3 61 yX3_liftedSet, Cond.instanceMethod yX3_liftedSet, Cond.selects RX3 yX3_liftedSet yX3_liftedSet, Cond.code yX3_liftedSet cX3_liftedSet 4 (some .int), Cond.methodLink RX3 65 yX3_aboveTurnsSet, Cond.instanceMethod yX3_aboveTurnsSet, Cond.selects RX3 yX3_aboveTurnsSet yX3_aboveTurnsSet, Cond.code yX3_aboveTurnsSet cX3_aboveTurnsSet 4 (some .int), Cond.static yX7_wholeFrom]
def wsX1_drawBolt_r4 : List Cond := [Cond.initialized RX7, Cond.code yX7_wholeFrom cX7_wholeFrom 4 (some .long)]
def wsX1_drawBolt : List Cond := .code yX1_drawBolt cX1_drawBolt 10 (some .int) :: ((wsX1_drawBolt_r1 ++ (wsX1_drawBolt_r2 ++ (wsX1_drawBolt_r3 ++ wsX1_drawBolt_r4))) ++ wsX20 ++ wsX10 ++ wsX30)
def wsX2_isBroken : List Cond := .code yX2_isBroken cX2_isBroken 2 (some .boolean) :: ([.fieldLink RX2 34 "BoltRing$Joint" "brokenSet" "I"] ++ wsX20)
def wsX1_goRound_r1 : List Cond := [Cond.fieldLink RX1 76 "BoltRing$Joint" "bolts" "I", Cond.methodLink RX1 80 yX2_isBroken, Cond.instanceMethod yX2_isBroken, Cond.selects RX2 yX2_isBroken yX2_isBroken, Cond.initialized RX2, Cond.code yX2_isBroken cX2_isBroken 2 (some .boolean), Cond.fieldLink RX2 34 "BoltRing$Joint" "brokenSet" "I", Cond.methodLink RX1 84 yX1_drawBolt, Cond.instanceMethod yX1_drawBolt, Cond.selects RX1 yX1_drawBolt yX1_drawBolt, Cond.initialized RX1, Cond.code yX1_drawBolt cX1_drawBolt 10 (some .int), Cond.fieldLink RX1 43 "BoltRing$Joint" "loads" "[I", Cond.fieldLink RX1 12 "BoltRing$Drawing" "lifts" "LBoltRing$Lifts;", Cond.fieldLink RX1 54 "BoltRing$Joint" "stiffness" "[I", Cond.fieldLink RX1 57 "BoltRing$Lifts" "upper" "[J", Cond.fieldLink RX1 61 "BoltRing$Lifts" "lower" "J", Cond.fieldLink RX1 28 "BoltRing$Joint" "turns" "[I", Cond.methodLink RX1 69 Lib.MathLoose.max_long.x, Cond.static Lib.MathLoose.max_long.x, Cond.initialized "java/lang/Math", Cond.code Lib.MathLoose.max_long.x Lib.MathLoose.max_long.code 4 (some .long), Cond.constantLong RX1 74 (200), Cond.methodLink RX1 39 yX2_wholeCount]
def wsX1_goRound_r2 : List Cond := [Cond.instanceMethod yX2_wholeCount, Cond.selects RX2 yX2_wholeCount yX2_wholeCount, Cond.code yX2_wholeCount cX2_wholeCount 1 (some .int), Cond.fieldLink RX2 27 "BoltRing$Joint" "bolts" "I", Cond.methodLink RX2 37 yJ6_bitCount_0f7a4, Cond.static yJ6_bitCount_0f7a4, Cond.initialized RJ6, Cond.code yJ6_bitCount_0f7a4 cJ6_bitCount_0f7a4 1 (some .int), Cond.constant RJ6 265 (1431655765), Cond.constant RJ6 266 (858993459), Cond.constant RJ6 267 (252645135), Cond.methodLink RX1 46 yX2_sumOf, Cond.instanceMethod yX2_sumOf, Cond.selects RX2 yX2_sumOf yX2_sumOf, Cond.code yX2_sumOf cX2_sumOf 4 (some .int), Cond.methodLink RX1 50 yX3_settleHolding, Cond.instanceMethod yX3_settleHolding, Cond.selects RX3 yX3_settleHolding yX3_settleHolding, Cond.initialized RX3, Cond.code yX3_settleHolding cX3_settleHolding 10 none, Cond.fieldLink RX3 41 "BoltRing$Joint" "brokenSet" "I", Cond.fieldLink RX3 22 "BoltRing$Lifts" "side" "[J", Cond.fieldLink RX3 48 "BoltRing$Joint" "bolts" "I", Cond.fieldLink RX3 51 "BoltRing$Joint" "rib" "I"]
def wsX1_goRound_r3 : List Cond := [Cond.methodLink RX3 35 yX2_allSet, Cond.instanceMethod yX2_allSet, Cond.selects RX2 yX2_allSet yX2_allSet, Cond.code yX2_allSet cX2_allSet 1 (some .int), Cond.methodLink RX3 45 yX3_fillSystem, Cond.instanceMethod yX3_fillSystem, Cond.selects RX3 yX3_fillSystem yX3_fillSystem, Cond.code yX3_fillSystem cX3_fillSystem 10 none, Cond.constantLong RX3 68 (2), Cond.fieldLink RX3 70 "BoltRing$Joint" "stiffness" "[I", Cond.fieldLink RX3 74 "BoltRing$Joint" "turns" "[I", Cond.fieldLink RX3 77 "BoltRing$Joint" "pads" "[I", Cond.fieldLink RX3 19 "BoltRing$Lifts" "diagonal" "[J", Cond.methodLink RX3 54 yX3_fillArcs, Cond.instanceMethod yX3_fillArcs, Cond.selects RX3 yX3_fillArcs yX3_fillArcs, Cond.code yX3_fillArcs cX3_fillArcs 9 none, Cond.fieldLink RX3 28 "BoltRing$Lifts" "arcs" "[J", Cond.fieldLink RX3 25 "BoltRing$Lifts" "ribPowers" "[J", Cond.methodLink RX3 58 yX3_solve, Cond.instanceMethod yX3_solve, Cond.selects RX3 yX3_solve yX3_solve, Cond.code yX3_solve cX3_solve 15 none, Cond.fieldLink RX3 15 "BoltRing$Lifts" "lower" "J"]
def wsX1_goRound_r4 : List Cond := [Cond.fieldLink RX3 9 "BoltRing$Lifts" "upper" "[J", Cond.methodLink RX3 61 yX3_liftedSet, Cond.instanceMethod yX3_liftedSet, Cond.selects RX3 yX3_liftedSet yX3_liftedSet, Cond.code yX3_liftedSet cX3_liftedSet 4 (some .int), Cond.methodLink RX3 65 yX3_aboveTurnsSet, Cond.instanceMethod yX3_aboveTurnsSet, Cond.selects RX3 yX3_aboveTurnsSet yX3_aboveTurnsSet, Cond.code yX3_aboveTurnsSet cX3_aboveTurnsSet 4 (some .int), Cond.static yX7_wholeFrom, Cond.initialized RX7, Cond.code yX7_wholeFrom cX7_wholeFrom 4 (some .long)]
def wsX1_goRound : List Cond := .code yX1_goRound cX1_goRound 8 (some .int) :: ((wsX1_goRound_r1 ++ (wsX1_goRound_r2 ++ (wsX1_goRound_r3 ++ wsX1_goRound_r4))) ++ wsX20 ++ wsX10 ++ wsX30)
def wsX3_settle_r1 : List Cond := [Cond.methodLink RX3 31 yX3_settleHolding, Cond.instanceMethod yX3_settleHolding, Cond.selects RX3 yX3_settleHolding yX3_settleHolding, Cond.initialized RX3, Cond.code yX3_settleHolding cX3_settleHolding 10 none, Cond.fieldLink RX3 41 "BoltRing$Joint" "brokenSet" "I", Cond.fieldLink RX3 22 "BoltRing$Lifts" "side" "[J", Cond.fieldLink RX3 48 "BoltRing$Joint" "bolts" "I", Cond.fieldLink RX3 51 "BoltRing$Joint" "rib" "I", Cond.methodLink RX3 35 yX2_allSet, Cond.instanceMethod yX2_allSet, Cond.selects RX2 yX2_allSet yX2_allSet, Cond.initialized RX2, Cond.code yX2_allSet cX2_allSet 1 (some .int), Cond.fieldLink RX2 27 "BoltRing$Joint" "bolts" "I", Cond.methodLink RX3 45 yX3_fillSystem, Cond.instanceMethod yX3_fillSystem, Cond.selects RX3 yX3_fillSystem yX3_fillSystem, Cond.code yX3_fillSystem cX3_fillSystem 10 none, Cond.constantLong RX3 68 (2), Cond.fieldLink RX3 70 "BoltRing$Joint" "stiffness" "[I", Cond.fieldLink RX3 74 "BoltRing$Joint" "turns" "[I", Cond.fieldLink RX3 77 "BoltRing$Joint" "pads" "[I", Cond.fieldLink RX3 19 "BoltRing$Lifts" "diagonal" "[J"]
def wsX3_settle_r2 : List Cond := [Cond.methodLink RX3 54 yX3_fillArcs, Cond.instanceMethod yX3_fillArcs, Cond.selects RX3 yX3_fillArcs yX3_fillArcs, Cond.code yX3_fillArcs cX3_fillArcs 9 none, Cond.fieldLink RX3 28 "BoltRing$Lifts" "arcs" "[J", Cond.fieldLink RX3 25 "BoltRing$Lifts" "ribPowers" "[J", Cond.methodLink RX3 58 yX3_solve, Cond.instanceMethod yX3_solve, Cond.selects RX3 yX3_solve yX3_solve, Cond.code yX3_solve cX3_solve 15 none, Cond.fieldLink RX3 15 "BoltRing$Lifts" "lower" "J", Cond.fieldLink RX3 9 "BoltRing$Lifts" "upper" "[J", Cond.methodLink RX3 61 yX3_liftedSet, Cond.instanceMethod yX3_liftedSet, Cond.selects RX3 yX3_liftedSet yX3_liftedSet, Cond.code yX3_liftedSet cX3_liftedSet 4 (some .int), Cond.methodLink RX3 65 yX3_aboveTurnsSet, Cond.instanceMethod yX3_aboveTurnsSet, Cond.selects RX3 yX3_aboveTurnsSet yX3_aboveTurnsSet, Cond.code yX3_aboveTurnsSet cX3_aboveTurnsSet 4 (some .int)]
def wsX3_settle : List Cond := .code yX3_settle cX3_settle 3 none :: ((wsX3_settle_r1 ++ wsX3_settle_r2) ++ wsX20 ++ wsX30)
def wsX3_pullUpper : List Cond := .code yX3_pullUpper cX3_pullUpper 3 (some .long) :: ([.fieldLink RX3 70 "BoltRing$Joint" "stiffness" "[I", .fieldLink RX3 15 "BoltRing$Lifts" "lower" "J", .fieldLink RX3 74 "BoltRing$Joint" "turns" "[I", .fieldLink RX3 9 "BoltRing$Lifts" "upper" "[J", .methodLink RX3 84 Lib.MathLoose.max_long.x, .static Lib.MathLoose.max_long.x, .initialized "java/lang/Math", .code Lib.MathLoose.max_long.x Lib.MathLoose.max_long.code 4 (some .long), .methodLink RX3 80 yX2_isBroken, .instanceMethod yX2_isBroken, .selects RX2 yX2_isBroken yX2_isBroken, .initialized RX2, .code yX2_isBroken cX2_isBroken 2 (some .boolean), .fieldLink RX2 34 "BoltRing$Joint" "brokenSet" "I"] ++ wsX20 ++ wsX30)
def wsX1_allHold_r1 : List Cond := [Cond.fieldLink RX1 12 "BoltRing$Drawing" "lifts" "LBoltRing$Lifts;", Cond.fieldLink RX1 43 "BoltRing$Joint" "loads" "[I", Cond.fieldLink RX1 76 "BoltRing$Joint" "bolts" "I", Cond.fieldLink RX1 61 "BoltRing$Lifts" "lower" "J", Cond.methodLink RX1 96 yX3_settle, Cond.instanceMethod yX3_settle, Cond.selects RX3 yX3_settle yX3_settle, Cond.initialized RX3, Cond.code yX3_settle cX3_settle 3 none, Cond.methodLink RX3 31 yX3_settleHolding, Cond.instanceMethod yX3_settleHolding, Cond.selects RX3 yX3_settleHolding yX3_settleHolding, Cond.code yX3_settleHolding cX3_settleHolding 10 none, Cond.fieldLink RX3 41 "BoltRing$Joint" "brokenSet" "I", Cond.fieldLink RX3 22 "BoltRing$Lifts" "side" "[J", Cond.fieldLink RX3 48 "BoltRing$Joint" "bolts" "I", Cond.fieldLink RX3 51 "BoltRing$Joint" "rib" "I", Cond.methodLink RX3 35 yX2_allSet, Cond.instanceMethod yX2_allSet, Cond.selects RX2 yX2_allSet yX2_allSet, Cond.initialized RX2, Cond.code yX2_allSet cX2_allSet 1 (some .int), Cond.fieldLink RX2 27 "BoltRing$Joint" "bolts" "I", Cond.methodLink RX3 45 yX3_fillSystem]
def wsX1_allHold_r2 : List Cond := [Cond.instanceMethod yX3_fillSystem, Cond.selects RX3 yX3_fillSystem yX3_fillSystem, Cond.code yX3_fillSystem cX3_fillSystem 10 none, Cond.constantLong RX3 68 (2), Cond.fieldLink RX3 70 "BoltRing$Joint" "stiffness" "[I", Cond.fieldLink RX3 74 "BoltRing$Joint" "turns" "[I", Cond.fieldLink RX3 77 "BoltRing$Joint" "pads" "[I", Cond.fieldLink RX3 19 "BoltRing$Lifts" "diagonal" "[J", Cond.methodLink RX3 54 yX3_fillArcs, Cond.instanceMethod yX3_fillArcs, Cond.selects RX3 yX3_fillArcs yX3_fillArcs, Cond.code yX3_fillArcs cX3_fillArcs 9 none, Cond.fieldLink RX3 28 "BoltRing$Lifts" "arcs" "[J", Cond.fieldLink RX3 25 "BoltRing$Lifts" "ribPowers" "[J", Cond.methodLink RX3 58 yX3_solve, Cond.instanceMethod yX3_solve, Cond.selects RX3 yX3_solve yX3_solve, Cond.code yX3_solve cX3_solve 15 none, Cond.fieldLink RX3 15 "BoltRing$Lifts" "lower" "J", Cond.fieldLink RX3 9 "BoltRing$Lifts" "upper" "[J", Cond.methodLink RX3 61 yX3_liftedSet, Cond.instanceMethod yX3_liftedSet, Cond.selects RX3 yX3_liftedSet yX3_liftedSet, Cond.code yX3_liftedSet cX3_liftedSet 4 (some .int)]
def wsX1_allHold_r3 : List Cond := [Cond.methodLink RX3 65 yX3_aboveTurnsSet, Cond.instanceMethod yX3_aboveTurnsSet, Cond.selects RX3 yX3_aboveTurnsSet yX3_aboveTurnsSet, Cond.code yX3_aboveTurnsSet cX3_aboveTurnsSet 4 (some .int), Cond.methodLink RX1 80 yX2_isBroken, Cond.instanceMethod yX2_isBroken, Cond.selects RX2 yX2_isBroken yX2_isBroken, Cond.code yX2_isBroken cX2_isBroken 2 (some .boolean), Cond.fieldLink RX2 34 "BoltRing$Joint" "brokenSet" "I", Cond.methodLink RX1 100 yX3_pullUpper, Cond.instanceMethod yX3_pullUpper, Cond.selects RX3 yX3_pullUpper yX3_pullUpper, Cond.code yX3_pullUpper cX3_pullUpper 3 (some .long), Cond.methodLink RX3 84 Lib.MathLoose.max_long.x, Cond.static Lib.MathLoose.max_long.x, Cond.initialized "java/lang/Math", Cond.code Lib.MathLoose.max_long.x Lib.MathLoose.max_long.code 4 (some .long), Cond.methodLink RX3 80 yX2_isBroken]
def wsX1_allHold : List Cond := .code yX1_allHold cX1_allHold 4 (some .boolean) :: ((wsX1_allHold_r1 ++ (wsX1_allHold_r2 ++ wsX1_allHold_r3)) ++ wsX10 ++ wsX20 ++ wsX30)
def wsX1_goRounds_r1 : List Cond := [Cond.methodLink RX1 88 yX1_allHold, Cond.instanceMethod yX1_allHold, Cond.selects RX1 yX1_allHold yX1_allHold, Cond.initialized RX1, Cond.code yX1_allHold cX1_allHold 4 (some .boolean), Cond.fieldLink RX1 12 "BoltRing$Drawing" "lifts" "LBoltRing$Lifts;", Cond.fieldLink RX1 43 "BoltRing$Joint" "loads" "[I", Cond.fieldLink RX1 76 "BoltRing$Joint" "bolts" "I", Cond.fieldLink RX1 61 "BoltRing$Lifts" "lower" "J", Cond.methodLink RX1 96 yX3_settle, Cond.instanceMethod yX3_settle, Cond.selects RX3 yX3_settle yX3_settle, Cond.initialized RX3, Cond.code yX3_settle cX3_settle 3 none, Cond.methodLink RX3 31 yX3_settleHolding, Cond.instanceMethod yX3_settleHolding, Cond.selects RX3 yX3_settleHolding yX3_settleHolding, Cond.code yX3_settleHolding cX3_settleHolding 10 none, Cond.fieldLink RX3 41 "BoltRing$Joint" "brokenSet" "I", Cond.fieldLink RX3 22 "BoltRing$Lifts" "side" "[J", Cond.fieldLink RX3 48 "BoltRing$Joint" "bolts" "I", Cond.fieldLink RX3 51 "BoltRing$Joint" "rib" "I", Cond.methodLink RX3 35 yX2_allSet, Cond.instanceMethod yX2_allSet]
def wsX1_goRounds_r2 : List Cond := [Cond.selects RX2 yX2_allSet yX2_allSet, Cond.initialized RX2, Cond.code yX2_allSet cX2_allSet 1 (some .int), Cond.fieldLink RX2 27 "BoltRing$Joint" "bolts" "I", Cond.methodLink RX3 45 yX3_fillSystem, Cond.instanceMethod yX3_fillSystem, Cond.selects RX3 yX3_fillSystem yX3_fillSystem, Cond.code yX3_fillSystem cX3_fillSystem 10 none, Cond.constantLong RX3 68 (2), Cond.fieldLink RX3 70 "BoltRing$Joint" "stiffness" "[I", Cond.fieldLink RX3 74 "BoltRing$Joint" "turns" "[I", Cond.fieldLink RX3 77 "BoltRing$Joint" "pads" "[I", Cond.fieldLink RX3 19 "BoltRing$Lifts" "diagonal" "[J", Cond.methodLink RX3 54 yX3_fillArcs, Cond.instanceMethod yX3_fillArcs, Cond.selects RX3 yX3_fillArcs yX3_fillArcs, Cond.code yX3_fillArcs cX3_fillArcs 9 none, Cond.fieldLink RX3 28 "BoltRing$Lifts" "arcs" "[J", Cond.fieldLink RX3 25 "BoltRing$Lifts" "ribPowers" "[J", Cond.methodLink RX3 58 yX3_solve, Cond.instanceMethod yX3_solve, Cond.selects RX3 yX3_solve yX3_solve, Cond.code yX3_solve cX3_solve 15 none, Cond.fieldLink RX3 15 "BoltRing$Lifts" "lower" "J"]
def wsX1_goRounds_r3 : List Cond := [Cond.fieldLink RX3 9 "BoltRing$Lifts" "upper" "[J", Cond.methodLink RX3 61 yX3_liftedSet, Cond.instanceMethod yX3_liftedSet, Cond.selects RX3 yX3_liftedSet yX3_liftedSet, Cond.code yX3_liftedSet cX3_liftedSet 4 (some .int), Cond.methodLink RX3 65 yX3_aboveTurnsSet, Cond.instanceMethod yX3_aboveTurnsSet, Cond.selects RX3 yX3_aboveTurnsSet yX3_aboveTurnsSet, Cond.code yX3_aboveTurnsSet cX3_aboveTurnsSet 4 (some .int), Cond.methodLink RX1 80 yX2_isBroken, Cond.instanceMethod yX2_isBroken, Cond.selects RX2 yX2_isBroken yX2_isBroken, Cond.code yX2_isBroken cX2_isBroken 2 (some .boolean), Cond.fieldLink RX2 34 "BoltRing$Joint" "brokenSet" "I", Cond.methodLink RX1 100 yX3_pullUpper, Cond.instanceMethod yX3_pullUpper, Cond.selects RX3 yX3_pullUpper yX3_pullUpper, Cond.code yX3_pullUpper cX3_pullUpper 3 (some .long), Cond.methodLink RX3 84 Lib.MathLoose.max_long.x, Cond.static Lib.MathLoose.max_long.x, Cond.initialized "java/lang/Math", Cond.code Lib.MathLoose.max_long.x Lib.MathLoose.max_long.code 4 (some .long), Cond.methodLink RX3 80 yX2_isBroken, Cond.methodLink RX1 92 yX1_goRound]
def wsX1_goRounds_r4 : List Cond := [Cond.instanceMethod yX1_goRound, Cond.selects RX1 yX1_goRound yX1_goRound, Cond.code yX1_goRound cX1_goRound 8 (some .int), Cond.methodLink RX1 84 yX1_drawBolt, Cond.instanceMethod yX1_drawBolt, Cond.selects RX1 yX1_drawBolt yX1_drawBolt, Cond.code yX1_drawBolt cX1_drawBolt 10 (some .int), Cond.fieldLink RX1 54 "BoltRing$Joint" "stiffness" "[I", Cond.fieldLink RX1 57 "BoltRing$Lifts" "upper" "[J", Cond.fieldLink RX1 28 "BoltRing$Joint" "turns" "[I", Cond.methodLink RX1 69 Lib.MathLoose.max_long.x, Cond.constantLong RX1 74 (200), Cond.methodLink RX1 39 yX2_wholeCount, Cond.instanceMethod yX2_wholeCount, Cond.selects RX2 yX2_wholeCount yX2_wholeCount, Cond.code yX2_wholeCount cX2_wholeCount 1 (some .int), Cond.methodLink RX2 37 yJ6_bitCount_0f7a4, Cond.static yJ6_bitCount_0f7a4, Cond.initialized RJ6, Cond.code yJ6_bitCount_0f7a4 cJ6_bitCount_0f7a4 1 (some .int), Cond.constant RJ6 265 (1431655765), Cond.constant RJ6 266 (858993459), Cond.constant RJ6 267 (252645135), Cond.methodLink RX1 46 yX2_sumOf]
def wsX1_goRounds_r5 : List Cond := [Cond.instanceMethod yX2_sumOf, Cond.selects RX2 yX2_sumOf yX2_sumOf, Cond.code yX2_sumOf cX2_sumOf 4 (some .int), Cond.methodLink RX1 50 yX3_settleHolding, Cond.static yX7_wholeFrom, Cond.initialized RX7, Cond.code yX7_wholeFrom cX7_wholeFrom 4 (some .long)]
def wsX1_goRounds : List Cond := .code yX1_goRounds cX1_goRounds 6 (some .int) :: ((wsX1_goRounds_r1 ++ (wsX1_goRounds_r2 ++ (wsX1_goRounds_r3 ++ (wsX1_goRounds_r4 ++ wsX1_goRounds_r5)))) ++ wsX10 ++ wsX20 ++ wsX30)
def wsX1_figuresOf : List Cond := .code yX1_figuresOf cX1_figuresOf 4 (some .int) :: ([])
def wsX1_swap : List Cond := .code yX1_swap cX1_swap 4 none :: ([])
def wsX1_toNextOrder : List Cond := .code yX1_toNextOrder cX1_toNextOrder 6 (some .boolean) :: ([.methodLink RX1 132 yX1_swap, .static yX1_swap, .initialized RX1, .code yX1_swap cX1_swap 4 none])
def wsX1_findBestRow_r1 : List Cond := [Cond.fieldLink RX1 28 "BoltRing$Joint" "turns" "[I", Cond.fieldLink RX1 25 "BoltRing$Drawing" "byNumbers" "[I", Cond.fieldLink RX1 22 "BoltRing$Drawing" "trial" "[I", Cond.methodLink RX1 33 arraycopyName, Cond.native arraycopyName, Cond.static arraycopyName, Cond.initialized "java/lang/System", Cond.fieldLink RX1 108 "BoltRing$Drawing" "bestPasses" "I", Cond.fieldLink RX1 118 "BoltRing$Drawing" "bestDrawn" "I", Cond.fieldLink RX1 76 "BoltRing$Joint" "bolts" "I", Cond.fieldLink RX1 125 "BoltRing$Drawing" "bestFigures" "I", Cond.methodLink RX1 104 yX1_keepTurns, Cond.instanceMethod yX1_keepTurns, Cond.selects RX1 yX1_keepTurns yX1_keepTurns, Cond.initialized RX1, Cond.code yX1_keepTurns cX1_keepTurns 2 none, Cond.fieldLink RX1 18 "BoltRing$Drawing" "kept" "[I", Cond.methodLink RX1 46 yX2_sumOf, Cond.instanceMethod yX2_sumOf, Cond.selects RX2 yX2_sumOf yX2_sumOf, Cond.initialized RX2, Cond.code yX2_sumOf cX2_sumOf 4 (some .int), Cond.fieldLink RX2 27 "BoltRing$Joint" "bolts" "I", Cond.methodLink RX1 111 yX1_goRounds]
def wsX1_findBestRow_r2 : List Cond := [Cond.instanceMethod yX1_goRounds, Cond.selects RX1 yX1_goRounds yX1_goRounds, Cond.code yX1_goRounds cX1_goRounds 6 (some .int), Cond.methodLink RX1 88 yX1_allHold, Cond.instanceMethod yX1_allHold, Cond.selects RX1 yX1_allHold yX1_allHold, Cond.code yX1_allHold cX1_allHold 4 (some .boolean), Cond.fieldLink RX1 12 "BoltRing$Drawing" "lifts" "LBoltRing$Lifts;", Cond.fieldLink RX1 43 "BoltRing$Joint" "loads" "[I", Cond.fieldLink RX1 61 "BoltRing$Lifts" "lower" "J", Cond.methodLink RX1 96 yX3_settle, Cond.instanceMethod yX3_settle, Cond.selects RX3 yX3_settle yX3_settle, Cond.initialized RX3, Cond.code yX3_settle cX3_settle 3 none, Cond.methodLink RX3 31 yX3_settleHolding, Cond.instanceMethod yX3_settleHolding, Cond.selects RX3 yX3_settleHolding yX3_settleHolding, Cond.code yX3_settleHolding cX3_settleHolding 10 none, Cond.fieldLink RX3 41 "BoltRing$Joint" "brokenSet" "I", Cond.fieldLink RX3 22 "BoltRing$Lifts" "side" "[J", Cond.fieldLink RX3 48 "BoltRing$Joint" "bolts" "I", Cond.fieldLink RX3 51 "BoltRing$Joint" "rib" "I", Cond.methodLink RX3 35 yX2_allSet]
def wsX1_findBestRow_r3 : List Cond := [Cond.instanceMethod yX2_allSet, Cond.selects RX2 yX2_allSet yX2_allSet, Cond.code yX2_allSet cX2_allSet 1 (some .int), Cond.methodLink RX3 45 yX3_fillSystem, Cond.instanceMethod yX3_fillSystem, Cond.selects RX3 yX3_fillSystem yX3_fillSystem, Cond.code yX3_fillSystem cX3_fillSystem 10 none, Cond.constantLong RX3 68 (2), Cond.fieldLink RX3 70 "BoltRing$Joint" "stiffness" "[I", Cond.fieldLink RX3 74 "BoltRing$Joint" "turns" "[I", Cond.fieldLink RX3 77 "BoltRing$Joint" "pads" "[I", Cond.fieldLink RX3 19 "BoltRing$Lifts" "diagonal" "[J", Cond.methodLink RX3 54 yX3_fillArcs, Cond.instanceMethod yX3_fillArcs, Cond.selects RX3 yX3_fillArcs yX3_fillArcs, Cond.code yX3_fillArcs cX3_fillArcs 9 none, Cond.fieldLink RX3 28 "BoltRing$Lifts" "arcs" "[J", Cond.fieldLink RX3 25 "BoltRing$Lifts" "ribPowers" "[J", Cond.methodLink RX3 58 yX3_solve, Cond.instanceMethod yX3_solve, Cond.selects RX3 yX3_solve yX3_solve, Cond.code yX3_solve cX3_solve 15 none, Cond.fieldLink RX3 15 "BoltRing$Lifts" "lower" "J", Cond.fieldLink RX3 9 "BoltRing$Lifts" "upper" "[J"]
def wsX1_findBestRow_r4 : List Cond := [Cond.methodLink RX3 61 yX3_liftedSet, Cond.instanceMethod yX3_liftedSet, Cond.selects RX3 yX3_liftedSet yX3_liftedSet, Cond.code yX3_liftedSet cX3_liftedSet 4 (some .int), Cond.methodLink RX3 65 yX3_aboveTurnsSet, Cond.instanceMethod yX3_aboveTurnsSet, Cond.selects RX3 yX3_aboveTurnsSet yX3_aboveTurnsSet, Cond.code yX3_aboveTurnsSet cX3_aboveTurnsSet 4 (some .int), Cond.methodLink RX1 80 yX2_isBroken, Cond.instanceMethod yX2_isBroken, Cond.selects RX2 yX2_isBroken yX2_isBroken, Cond.code yX2_isBroken cX2_isBroken 2 (some .boolean), Cond.fieldLink RX2 34 "BoltRing$Joint" "brokenSet" "I", Cond.methodLink RX1 100 yX3_pullUpper, Cond.instanceMethod yX3_pullUpper, Cond.selects RX3 yX3_pullUpper yX3_pullUpper, Cond.code yX3_pullUpper cX3_pullUpper 3 (some .long), Cond.methodLink RX3 84 Lib.MathLoose.max_long.x, Cond.static Lib.MathLoose.max_long.x, Cond.initialized "java/lang/Math", Cond.code Lib.MathLoose.max_long.x Lib.MathLoose.max_long.code 4 (some .long), Cond.methodLink RX3 80 yX2_isBroken, Cond.methodLink RX1 92 yX1_goRound, Cond.instanceMethod yX1_goRound]
def wsX1_findBestRow_r5 : List Cond := [Cond.selects RX1 yX1_goRound yX1_goRound, Cond.code yX1_goRound cX1_goRound 8 (some .int), Cond.methodLink RX1 84 yX1_drawBolt, Cond.instanceMethod yX1_drawBolt, Cond.selects RX1 yX1_drawBolt yX1_drawBolt, Cond.code yX1_drawBolt cX1_drawBolt 10 (some .int), Cond.fieldLink RX1 54 "BoltRing$Joint" "stiffness" "[I", Cond.fieldLink RX1 57 "BoltRing$Lifts" "upper" "[J", Cond.methodLink RX1 69 Lib.MathLoose.max_long.x, Cond.constantLong RX1 74 (200), Cond.methodLink RX1 39 yX2_wholeCount, Cond.instanceMethod yX2_wholeCount, Cond.selects RX2 yX2_wholeCount yX2_wholeCount, Cond.code yX2_wholeCount cX2_wholeCount 1 (some .int), Cond.methodLink RX2 37 yJ6_bitCount_0f7a4, Cond.static yJ6_bitCount_0f7a4, Cond.initialized RJ6, Cond.code yJ6_bitCount_0f7a4 cJ6_bitCount_0f7a4 1 (some .int), Cond.constant RJ6 265 (1431655765), Cond.constant RJ6 266 (858993459), Cond.constant RJ6 267 (252645135), Cond.methodLink RX1 50 yX3_settleHolding, Cond.static yX7_wholeFrom, Cond.initialized RX7]
def wsX1_findBestRow_r6 : List Cond := [Cond.code yX7_wholeFrom cX7_wholeFrom 4 (some .long), Cond.methodLink RX1 115 yX1_putTurnsBack, Cond.instanceMethod yX1_putTurnsBack, Cond.selects RX1 yX1_putTurnsBack yX1_putTurnsBack, Cond.code yX1_putTurnsBack cX1_putTurnsBack 2 none, Cond.methodLink RX1 121 yX1_figuresOf, Cond.static yX1_figuresOf, Cond.code yX1_figuresOf cX1_figuresOf 4 (some .int), Cond.methodLink RX1 128 yX1_toNextOrder, Cond.static yX1_toNextOrder, Cond.code yX1_toNextOrder cX1_toNextOrder 6 (some .boolean), Cond.methodLink RX1 132 yX1_swap, Cond.static yX1_swap, Cond.code yX1_swap cX1_swap 4 none]
def wsX1_findBestRow : List Cond := .code yX1_findBestRow cX1_findBestRow 8 none :: ((wsX1_findBestRow_r1 ++ (wsX1_findBestRow_r2 ++ (wsX1_findBestRow_r3 ++ (wsX1_findBestRow_r4 ++ (wsX1_findBestRow_r5 ++ wsX1_findBestRow_r6))))) ++ wsX20 ++ wsX10 ++ wsX30)
def wsX1_drawEvenFromNothing_r1 : List Cond := [Cond.fieldLink RX1 76 "BoltRing$Joint" "bolts" "I", Cond.fieldLink RX1 28 "BoltRing$Joint" "turns" "[I", Cond.fieldLink RX1 25 "BoltRing$Drawing" "byNumbers" "[I", Cond.methodLink RX1 80 yX2_isBroken, Cond.instanceMethod yX2_isBroken, Cond.selects RX2 yX2_isBroken yX2_isBroken, Cond.initialized RX2, Cond.code yX2_isBroken cX2_isBroken 2 (some .boolean), Cond.fieldLink RX2 34 "BoltRing$Joint" "brokenSet" "I", Cond.methodLink RX1 92 yX1_goRound, Cond.instanceMethod yX1_goRound, Cond.selects RX1 yX1_goRound yX1_goRound, Cond.initialized RX1, Cond.code yX1_goRound cX1_goRound 8 (some .int), Cond.methodLink RX1 84 yX1_drawBolt, Cond.instanceMethod yX1_drawBolt, Cond.selects RX1 yX1_drawBolt yX1_drawBolt, Cond.code yX1_drawBolt cX1_drawBolt 10 (some .int), Cond.fieldLink RX1 43 "BoltRing$Joint" "loads" "[I", Cond.fieldLink RX1 12 "BoltRing$Drawing" "lifts" "LBoltRing$Lifts;", Cond.fieldLink RX1 54 "BoltRing$Joint" "stiffness" "[I", Cond.fieldLink RX1 57 "BoltRing$Lifts" "upper" "[J", Cond.fieldLink RX1 61 "BoltRing$Lifts" "lower" "J", Cond.methodLink RX1 69 Lib.MathLoose.max_long.x]
def wsX1_drawEvenFromNothing_r2 : List Cond := [Cond.static Lib.MathLoose.max_long.x, Cond.initialized "java/lang/Math", Cond.code Lib.MathLoose.max_long.x Lib.MathLoose.max_long.code 4 (some .long), Cond.constantLong RX1 74 (200), Cond.methodLink RX1 39 yX2_wholeCount, Cond.instanceMethod yX2_wholeCount, Cond.selects RX2 yX2_wholeCount yX2_wholeCount, Cond.code yX2_wholeCount cX2_wholeCount 1 (some .int), Cond.fieldLink RX2 27 "BoltRing$Joint" "bolts" "I", Cond.methodLink RX2 37 yJ6_bitCount_0f7a4, Cond.static yJ6_bitCount_0f7a4, Cond.initialized RJ6, Cond.code yJ6_bitCount_0f7a4 cJ6_bitCount_0f7a4 1 (some .int), Cond.constant RJ6 265 (1431655765), Cond.constant RJ6 266 (858993459), Cond.constant RJ6 267 (252645135), Cond.methodLink RX1 46 yX2_sumOf, Cond.instanceMethod yX2_sumOf, Cond.selects RX2 yX2_sumOf yX2_sumOf, Cond.code yX2_sumOf cX2_sumOf 4 (some .int), Cond.methodLink RX1 50 yX3_settleHolding, Cond.instanceMethod yX3_settleHolding, Cond.selects RX3 yX3_settleHolding yX3_settleHolding, Cond.initialized RX3]
def wsX1_drawEvenFromNothing_r3 : List Cond := [Cond.code yX3_settleHolding cX3_settleHolding 10 none, Cond.fieldLink RX3 41 "BoltRing$Joint" "brokenSet" "I", Cond.fieldLink RX3 22 "BoltRing$Lifts" "side" "[J", Cond.fieldLink RX3 48 "BoltRing$Joint" "bolts" "I", Cond.fieldLink RX3 51 "BoltRing$Joint" "rib" "I", Cond.methodLink RX3 35 yX2_allSet, Cond.instanceMethod yX2_allSet, Cond.selects RX2 yX2_allSet yX2_allSet, Cond.code yX2_allSet cX2_allSet 1 (some .int), Cond.methodLink RX3 45 yX3_fillSystem, Cond.instanceMethod yX3_fillSystem, Cond.selects RX3 yX3_fillSystem yX3_fillSystem, Cond.code yX3_fillSystem cX3_fillSystem 10 none, Cond.constantLong RX3 68 (2), Cond.fieldLink RX3 70 "BoltRing$Joint" "stiffness" "[I", Cond.fieldLink RX3 74 "BoltRing$Joint" "turns" "[I", Cond.fieldLink RX3 77 "BoltRing$Joint" "pads" "[I", Cond.fieldLink RX3 19 "BoltRing$Lifts" "diagonal" "[J", Cond.methodLink RX3 54 yX3_fillArcs, Cond.instanceMethod yX3_fillArcs, Cond.selects RX3 yX3_fillArcs yX3_fillArcs, Cond.code yX3_fillArcs cX3_fillArcs 9 none, Cond.fieldLink RX3 28 "BoltRing$Lifts" "arcs" "[J", Cond.fieldLink RX3 25 "BoltRing$Lifts" "ribPowers" "[J"]
def wsX1_drawEvenFromNothing_r4 : List Cond := [Cond.methodLink RX3 58 yX3_solve, Cond.instanceMethod yX3_solve, Cond.selects RX3 yX3_solve yX3_solve, Cond.code yX3_solve cX3_solve 15 none, Cond.fieldLink RX3 15 "BoltRing$Lifts" "lower" "J", Cond.fieldLink RX3 9 "BoltRing$Lifts" "upper" "[J", Cond.methodLink RX3 61 yX3_liftedSet, Cond.instanceMethod yX3_liftedSet, Cond.selects RX3 yX3_liftedSet yX3_liftedSet, Cond.code yX3_liftedSet cX3_liftedSet 4 (some .int), Cond.methodLink RX3 65 yX3_aboveTurnsSet, Cond.instanceMethod yX3_aboveTurnsSet, Cond.selects RX3 yX3_aboveTurnsSet yX3_aboveTurnsSet, Cond.code yX3_aboveTurnsSet cX3_aboveTurnsSet 4 (some .int), Cond.static yX7_wholeFrom, Cond.initialized RX7, Cond.code yX7_wholeFrom cX7_wholeFrom 4 (some .long)]
def wsX1_drawEvenFromNothing : List Cond := .code yX1_drawEvenFromNothing cX1_drawEvenFromNothing 5 (some .boolean) :: ((wsX1_drawEvenFromNothing_r1 ++ (wsX1_drawEvenFromNothing_r2 ++ (wsX1_drawEvenFromNothing_r3 ++ wsX1_drawEvenFromNothing_r4))) ++ wsX20 ++ wsX10 ++ wsX30)
def wsX2_init : List Cond := .code yX2_init cX2_init 1 none :: ([.methodLink RX2 3 objectInit, .instanceMethod objectInit, .code objectInit ⟨#[0xb1]⟩ 1 none, .arrayClass .int, .fieldLink RX2 9 "BoltRing$Joint" "stiffness" "[I", .fieldLink RX2 15 "BoltRing$Joint" "pads" "[I", .fieldLink RX2 18 "BoltRing$Joint" "turns" "[I", .fieldLink RX2 21 "BoltRing$Joint" "loads" "[I", .fieldLink RX2 24 "BoltRing$Joint" "order" "[I"] ++ wsX20)
def wsX2_begin : List Cond := .code yX2_begin cX2_begin 4 none :: ([.fieldLink RX2 27 "BoltRing$Joint" "bolts" "I", .fieldLink RX2 31 "BoltRing$Joint" "rib" "I", .fieldLink RX2 34 "BoltRing$Joint" "brokenSet" "I", .fieldLink RX2 9 "BoltRing$Joint" "stiffness" "[I", .fieldLink RX2 15 "BoltRing$Joint" "pads" "[I", .fieldLink RX2 18 "BoltRing$Joint" "turns" "[I", .fieldLink RX2 21 "BoltRing$Joint" "loads" "[I", .fieldLink RX2 24 "BoltRing$Joint" "order" "[I"] ++ wsX20)
def wsX2_has : List Cond := .code yX2_has cX2_has 2 (some .boolean) :: ([.fieldLink RX2 27 "BoltRing$Joint" "bolts" "I"] ++ wsX20)
def wsX2_markBroken : List Cond := .code yX2_markBroken cX2_markBroken 3 none :: ([.fieldLink RX2 34 "BoltRing$Joint" "brokenSet" "I"] ++ wsX20)
def wsX2_valuesOf : List Cond := .code yX2_valuesOf cX2_valuesOf 2 (some (.array .int)) :: ([.fieldLink RX2 9 "BoltRing$Joint" "stiffness" "[I", .fieldLink RX2 15 "BoltRing$Joint" "pads" "[I", .fieldLink RX2 18 "BoltRing$Joint" "turns" "[I", .fieldLink RX2 21 "BoltRing$Joint" "loads" "[I"] ++ wsX20)
def wsX2_placeInRow : List Cond := .code yX2_placeInRow cX2_placeInRow 3 (some .int) :: ([.fieldLink RX2 27 "BoltRing$Joint" "bolts" "I", .fieldLink RX2 24 "BoltRing$Joint" "order" "[I"] ++ wsX20)
def wsX2_isRow : List Cond := .code yX2_isRow cX2_isRow 6 (some .boolean) :: ([.fieldLink RX2 27 "BoltRing$Joint" "bolts" "I", .methodLink RX2 47 yX2_allSet, .instanceMethod yX2_allSet, .selects RX2 yX2_allSet yX2_allSet, .initialized RX2, .code yX2_allSet cX2_allSet 1 (some .int)] ++ wsX20)
def wsX2_takeRow : List Cond := .code yX2_takeRow cX2_takeRow 4 (some .boolean) :: ([.fieldLink RX2 27 "BoltRing$Joint" "bolts" "I", .fieldLink RX2 24 "BoltRing$Joint" "order" "[I", .methodLink RX2 43 yX2_isRow, .instanceMethod yX2_isRow, .selects RX2 yX2_isRow yX2_isRow, .initialized RX2, .code yX2_isRow cX2_isRow 6 (some .boolean), .methodLink RX2 47 yX2_allSet, .instanceMethod yX2_allSet, .selects RX2 yX2_allSet yX2_allSet, .code yX2_allSet cX2_allSet 1 (some .int)] ++ wsX20)
def wsX3_pressUpper : List Cond := .code yX3_pressUpper cX3_pressUpper 3 (some .long) :: ([.fieldLink RX3 77 "BoltRing$Joint" "pads" "[I", .fieldLink RX3 9 "BoltRing$Lifts" "upper" "[J", .methodLink RX3 84 Lib.MathLoose.max_long.x, .static Lib.MathLoose.max_long.x, .initialized "java/lang/Math", .code Lib.MathLoose.max_long.x Lib.MathLoose.max_long.code 4 (some .long)] ++ wsX20 ++ wsX30)
def wsX7_asNumber : List Cond := .code yX7_asNumber cX7_asNumber 1 (some .int) :: ([])
def wsX3_slackCount : List Cond := .code yX3_slackCount cX3_slackCount 4 (some .int) :: ([.fieldLink RX3 48 "BoltRing$Joint" "bolts" "I", .methodLink RX3 90 yX3_pullUpper, .instanceMethod yX3_pullUpper, .selects RX3 yX3_pullUpper yX3_pullUpper, .initialized RX3, .code yX3_pullUpper cX3_pullUpper 3 (some .long), .fieldLink RX3 70 "BoltRing$Joint" "stiffness" "[I", .fieldLink RX3 15 "BoltRing$Lifts" "lower" "J", .fieldLink RX3 74 "BoltRing$Joint" "turns" "[I", .fieldLink RX3 9 "BoltRing$Lifts" "upper" "[J", .methodLink RX3 84 Lib.MathLoose.max_long.x, .static Lib.MathLoose.max_long.x, .initialized "java/lang/Math", .code Lib.MathLoose.max_long.x Lib.MathLoose.max_long.code 4 (some .long), .methodLink RX3 80 yX2_isBroken, .instanceMethod yX2_isBroken, .selects RX2 yX2_isBroken yX2_isBroken, .initialized RX2, .code yX2_isBroken cX2_isBroken 2 (some .boolean), .fieldLink RX2 34 "BoltRing$Joint" "brokenSet" "I", .static yX7_asNumber, .initialized RX7, .code yX7_asNumber cX7_asNumber 1 (some .int)] ++ wsX20 ++ wsX30)
def wsX3_openCount : List Cond := .code yX3_openCount cX3_openCount 4 (some .int) :: ([.fieldLink RX3 48 "BoltRing$Joint" "bolts" "I", .methodLink RX3 98 yX3_pressUpper, .instanceMethod yX3_pressUpper, .selects RX3 yX3_pressUpper yX3_pressUpper, .initialized RX3, .code yX3_pressUpper cX3_pressUpper 3 (some .long), .fieldLink RX3 77 "BoltRing$Joint" "pads" "[I", .fieldLink RX3 9 "BoltRing$Lifts" "upper" "[J", .methodLink RX3 84 Lib.MathLoose.max_long.x, .static Lib.MathLoose.max_long.x, .initialized "java/lang/Math", .code Lib.MathLoose.max_long.x Lib.MathLoose.max_long.code 4 (some .long), .static yX7_asNumber, .initialized RX7, .code yX7_asNumber cX7_asNumber 1 (some .int)] ++ wsX20 ++ wsX30)
def wsX4_init : List Cond := .code yX4_init cX4_init 1 none :: ([.methodLink RX4 3 objectInit, .instanceMethod objectInit, .code objectInit ⟨#[0xb1]⟩ 1 none, .arrayClass .int, .fieldLink RX4 9 "BoltRing$Misses" "weights" "[I", .fieldLink RX4 15 "BoltRing$Misses" "meant" "[I"] ++ wsX40)
def wsX4_weigh : List Cond := .code yX4_weigh cX4_weigh 4 none :: ([.fieldLink RX4 9 "BoltRing$Misses" "weights" "[I"] ++ wsX40)
def wsX4_begin : List Cond := .code yX4_begin cX4_begin 1 none :: ([.methodLink RX4 18 yX4_weigh, .instanceMethod yX4_weigh, .selects RX4 yX4_weigh yX4_weigh, .initialized RX4, .code yX4_weigh cX4_weigh 4 none, .fieldLink RX4 9 "BoltRing$Misses" "weights" "[I"] ++ wsX40)
def wsX5_init : List Cond := .code yX5_init cX5_init 1 none :: ([.methodLink RX5 3 objectInit, .instanceMethod objectInit, .code objectInit ⟨#[0xb1]⟩ 1 none, .fieldLink RX5 9 "BoltRing$Orders" "flawAt" "I", .arrayClass .int, .fieldLink RX5 15 "BoltRing$Orders" "kinds" "[I", .fieldLink RX5 19 "BoltRing$Orders" "firsts" "[I", .fieldLink RX5 22 "BoltRing$Orders" "seconds" "[I", .fieldLink RX5 25 "BoltRing$Orders" "signs" "[I"] ++ wsX50)
def wsX6_init : List Cond := .code yX6_init cX6_init 1 none :: ([.methodLink RX6 3 objectInit, .instanceMethod objectInit, .code objectInit ⟨#[0xb1]⟩ 1 none, .arrayClass .int, .fieldLink RX6 9 "BoltRing$Readings" "lows" "[I", .fieldLink RX6 15 "BoltRing$Readings" "highs" "[I"] ++ wsX60)
def wsX7_init_r1 : List Cond := [Cond.methodLink RX7 1 objectInit, Cond.instanceMethod objectInit, Cond.code objectInit ⟨#[0xb1]⟩ 1 none, Cond.classLink RX7 7 RX2, Cond.instantiable RX2 8, Cond.initialized RX2, Cond.fieldLink RX7 10 "BoltRing" "ring" "LBoltRing$Joint;", Cond.classLink RX7 16 RX3, Cond.instantiable RX3 6, Cond.initialized RX3, Cond.fieldLink RX7 19 "BoltRing" "lifts" "LBoltRing$Lifts;", Cond.classLink RX7 23 RX1, Cond.instantiable RX1 7, Cond.initialized RX1, Cond.fieldLink RX7 26 "BoltRing" "drawing" "LBoltRing$Drawing;", Cond.classLink RX7 30 RX0, Cond.instantiable RX0 4, Cond.initialized RX0, Cond.fieldLink RX7 33 "BoltRing" "cases" "LBoltRing$Cases;", Cond.classLink RX7 37 RX4, Cond.instantiable RX4 2, Cond.initialized RX4, Cond.fieldLink RX7 40 "BoltRing" "misses" "LBoltRing$Misses;", Cond.classLink RX7 44 RX6]
def wsX7_init_r2 : List Cond := [Cond.instantiable RX6 3, Cond.initialized RX6, Cond.fieldLink RX7 47 "BoltRing" "readings" "LBoltRing$Readings;", Cond.classLink RX7 51 RX5, Cond.instantiable RX5 12, Cond.initialized RX5, Cond.fieldLink RX7 54 "BoltRing" "orders" "LBoltRing$Orders;", Cond.instanceMethod yX2_init, Cond.code yX2_init cX2_init 1 none, Cond.methodLink RX2 3 objectInit, Cond.arrayClass .int, Cond.fieldLink RX2 9 "BoltRing$Joint" "stiffness" "[I", Cond.fieldLink RX2 15 "BoltRing$Joint" "pads" "[I", Cond.fieldLink RX2 18 "BoltRing$Joint" "turns" "[I", Cond.fieldLink RX2 21 "BoltRing$Joint" "loads" "[I", Cond.fieldLink RX2 24 "BoltRing$Joint" "order" "[I", Cond.instanceMethod yX3_init, Cond.code yX3_init cX3_init 1 none, Cond.methodLink RX3 3 objectInit, Cond.arrayClass .long, Cond.fieldLink RX3 9 "BoltRing$Lifts" "upper" "[J", Cond.fieldLink RX3 15 "BoltRing$Lifts" "lower" "J", Cond.fieldLink RX3 19 "BoltRing$Lifts" "diagonal" "[J", Cond.fieldLink RX3 22 "BoltRing$Lifts" "side" "[J"]
def wsX7_init_r3 : List Cond := [Cond.fieldLink RX3 25 "BoltRing$Lifts" "ribPowers" "[J", Cond.fieldLink RX3 28 "BoltRing$Lifts" "arcs" "[J", Cond.instanceMethod yX1_init, Cond.code yX1_init cX1_init 1 none, Cond.methodLink RX1 3 objectInit, Cond.classLink RX1 9 RX3, Cond.fieldLink RX1 12 "BoltRing$Drawing" "lifts" "LBoltRing$Lifts;", Cond.fieldLink RX1 18 "BoltRing$Drawing" "kept" "[I", Cond.fieldLink RX1 22 "BoltRing$Drawing" "trial" "[I", Cond.fieldLink RX1 25 "BoltRing$Drawing" "byNumbers" "[I", Cond.instanceMethod yX0_init, Cond.code yX0_init cX0_init 1 none, Cond.methodLink RX0 3 objectInit, Cond.classLink RX0 11 "[[I", Cond.fieldLink RX0 13 "BoltRing$Cases" "loads" "[[I", Cond.fieldLink RX0 16 "BoltRing$Cases" "leastLower" "J", Cond.instanceMethod yX4_init, Cond.code yX4_init cX4_init 1 none, Cond.methodLink RX4 3 objectInit, Cond.fieldLink RX4 9 "BoltRing$Misses" "weights" "[I", Cond.fieldLink RX4 15 "BoltRing$Misses" "meant" "[I", Cond.instanceMethod yX6_init, Cond.code yX6_init cX6_init 1 none, Cond.methodLink RX6 3 objectInit]
def wsX7_init_r4 : List Cond := [Cond.fieldLink RX6 9 "BoltRing$Readings" "lows" "[I", Cond.fieldLink RX6 15 "BoltRing$Readings" "highs" "[I", Cond.instanceMethod yX5_init, Cond.code yX5_init cX5_init 1 none, Cond.methodLink RX5 3 objectInit, Cond.fieldLink RX5 9 "BoltRing$Orders" "flawAt" "I", Cond.fieldLink RX5 15 "BoltRing$Orders" "kinds" "[I", Cond.fieldLink RX5 19 "BoltRing$Orders" "firsts" "[I", Cond.fieldLink RX5 22 "BoltRing$Orders" "seconds" "[I", Cond.fieldLink RX5 25 "BoltRing$Orders" "signs" "[I", Cond.methodLink RX7 58 yX2_begin, Cond.instanceMethod yX2_begin, Cond.selects RX2 yX2_begin yX2_begin, Cond.code yX2_begin cX2_begin 4 none, Cond.fieldLink RX2 27 "BoltRing$Joint" "bolts" "I", Cond.fieldLink RX2 31 "BoltRing$Joint" "rib" "I", Cond.fieldLink RX2 34 "BoltRing$Joint" "brokenSet" "I"]
def wsX7_init : List Cond := .code yX7_init cX7_init 1 none :: ((wsX7_init_r1 ++ (wsX7_init_r2 ++ (wsX7_init_r3 ++ wsX7_init_r4))) ++ wsX20 ++ wsX70 ++ wsX30 ++ wsX10 ++ wsX00 ++ wsX40 ++ wsX60 ++ wsX50)
def wsX7_within : List Cond := .code yX7_within cX7_within 3 (some .boolean) :: ([])
def wsX7_joint_r1 : List Cond := [Cond.constant RX7 66 (-100002), Cond.fieldLink RX7 10 "BoltRing" "ring" "LBoltRing$Joint;", Cond.fieldLink RX7 33 "BoltRing" "cases" "LBoltRing$Cases;", Cond.fieldLink RX7 67 "BoltRing$Cases" "count" "I", Cond.fieldLink RX7 40 "BoltRing" "misses" "LBoltRing$Misses;", Cond.fieldLink RX7 47 "BoltRing" "readings" "LBoltRing$Readings;", Cond.fieldLink RX7 73 "BoltRing$Readings" "told" "I", Cond.methodLink RX7 62 yX7_within, Cond.static yX7_within, Cond.initialized RX7, Cond.code yX7_within cX7_within 3 (some .boolean), Cond.methodLink RX7 58 yX2_begin, Cond.instanceMethod yX2_begin, Cond.selects RX2 yX2_begin yX2_begin, Cond.initialized RX2, Cond.code yX2_begin cX2_begin 4 none, Cond.fieldLink RX2 27 "BoltRing$Joint" "bolts" "I", Cond.fieldLink RX2 31 "BoltRing$Joint" "rib" "I", Cond.fieldLink RX2 34 "BoltRing$Joint" "brokenSet" "I", Cond.fieldLink RX2 9 "BoltRing$Joint" "stiffness" "[I", Cond.fieldLink RX2 15 "BoltRing$Joint" "pads" "[I", Cond.fieldLink RX2 18 "BoltRing$Joint" "turns" "[I", Cond.fieldLink RX2 21 "BoltRing$Joint" "loads" "[I", Cond.fieldLink RX2 24 "BoltRing$Joint" "order" "[I"]
def wsX7_joint_r2 : List Cond := [Cond.methodLink RX7 71 yX4_begin, Cond.instanceMethod yX4_begin, Cond.selects RX4 yX4_begin yX4_begin, Cond.initialized RX4, Cond.code yX4_begin cX4_begin 1 none, Cond.methodLink RX4 18 yX4_weigh, Cond.instanceMethod yX4_weigh, Cond.selects RX4 yX4_weigh yX4_weigh, Cond.code yX4_weigh cX4_weigh 4 none, Cond.fieldLink RX4 9 "BoltRing$Misses" "weights" "[I"]
def wsX7_joint : List Cond := .code yX7_joint cX7_joint 3 (some .int) :: ((wsX7_joint_r1 ++ wsX7_joint_r2) ++ wsX70 ++ wsX00 ++ wsX60 ++ wsX20 ++ wsX40)
def wsX7_leastOf : List Cond := .code yX7_leastOf cX7_leastOf 1 (some .int) :: ([])
def wsX7_mostOf : List Cond := .code yX7_mostOf cX7_mostOf 1 (some .int) :: ([])
def wsX7_set_r1 : List Cond := [Cond.fieldLink RX7 10 "BoltRing" "ring" "LBoltRing$Joint;", Cond.constant RX7 80 (-100001), Cond.constant RX7 66 (-100002), Cond.methodLink RX7 76 yX2_has, Cond.instanceMethod yX2_has, Cond.selects RX2 yX2_has yX2_has, Cond.initialized RX2, Cond.code yX2_has cX2_has 2 (some .boolean), Cond.fieldLink RX2 27 "BoltRing$Joint" "bolts" "I", Cond.methodLink RX7 62 yX7_within, Cond.static yX7_within, Cond.initialized RX7, Cond.code yX7_within cX7_within 3 (some .boolean), Cond.methodLink RX7 81 yX7_leastOf, Cond.static yX7_leastOf, Cond.code yX7_leastOf cX7_leastOf 1 (some .int), Cond.methodLink RX7 85 yX7_mostOf, Cond.static yX7_mostOf, Cond.code yX7_mostOf cX7_mostOf 1 (some .int), Cond.methodLink RX7 88 yX2_valuesOf, Cond.instanceMethod yX2_valuesOf, Cond.selects RX2 yX2_valuesOf yX2_valuesOf, Cond.code yX2_valuesOf cX2_valuesOf 2 (some (.array .int)), Cond.fieldLink RX2 9 "BoltRing$Joint" "stiffness" "[I"]
def wsX7_set_r2 : List Cond := [Cond.fieldLink RX2 15 "BoltRing$Joint" "pads" "[I", Cond.fieldLink RX2 18 "BoltRing$Joint" "turns" "[I", Cond.fieldLink RX2 21 "BoltRing$Joint" "loads" "[I"]
def wsX7_set : List Cond := .code yX7_set cX7_set 6 (some .int) :: ((wsX7_set_r1 ++ wsX7_set_r2) ++ wsX70 ++ wsX20)
def wsX7_broken_r1 : List Cond := [Cond.fieldLink RX7 10 "BoltRing" "ring" "LBoltRing$Joint;", Cond.constant RX7 80 (-100001), Cond.constant RX7 99 (-100003), Cond.methodLink RX7 76 yX2_has, Cond.instanceMethod yX2_has, Cond.selects RX2 yX2_has yX2_has, Cond.initialized RX2, Cond.code yX2_has cX2_has 2 (some .boolean), Cond.fieldLink RX2 27 "BoltRing$Joint" "bolts" "I", Cond.methodLink RX7 92 yX2_isBroken, Cond.instanceMethod yX2_isBroken, Cond.selects RX2 yX2_isBroken yX2_isBroken, Cond.code yX2_isBroken cX2_isBroken 2 (some .boolean), Cond.fieldLink RX2 34 "BoltRing$Joint" "brokenSet" "I", Cond.methodLink RX7 95 yX2_wholeCount, Cond.instanceMethod yX2_wholeCount, Cond.selects RX2 yX2_wholeCount yX2_wholeCount, Cond.code yX2_wholeCount cX2_wholeCount 1 (some .int), Cond.methodLink RX2 37 yJ6_bitCount_0f7a4, Cond.static yJ6_bitCount_0f7a4, Cond.initialized RJ6, Cond.code yJ6_bitCount_0f7a4 cJ6_bitCount_0f7a4 1 (some .int), Cond.constant RJ6 265 (1431655765), Cond.constant RJ6 266 (858993459)]
def wsX7_broken_r2 : List Cond := [Cond.constant RJ6 267 (252645135), Cond.methodLink RX7 100 yX2_markBroken, Cond.instanceMethod yX2_markBroken, Cond.selects RX2 yX2_markBroken yX2_markBroken, Cond.code yX2_markBroken cX2_markBroken 3 none, Cond.methodLink RX7 104 yX7_asNumber, Cond.static yX7_asNumber, Cond.initialized RX7, Cond.code yX7_asNumber cX7_asNumber 1 (some .int)]
def wsX7_broken : List Cond := .code yX7_broken cX7_broken 4 (some .int) :: ((wsX7_broken_r1 ++ wsX7_broken_r2) ++ wsX70 ++ wsX20)
def wsX7_told_r1 : List Cond := [Cond.fieldLink RX7 10 "BoltRing" "ring" "LBoltRing$Joint;", Cond.constant RX7 80 (-100001), Cond.fieldLink RX7 19 "BoltRing" "lifts" "LBoltRing$Lifts;", Cond.fieldLink RX7 108 "BoltRing$Joint" "loads" "[I", Cond.constant RX7 66 (-100002), Cond.methodLink RX7 76 yX2_has, Cond.instanceMethod yX2_has, Cond.selects RX2 yX2_has yX2_has, Cond.initialized RX2, Cond.code yX2_has cX2_has 2 (some .boolean), Cond.fieldLink RX2 27 "BoltRing$Joint" "bolts" "I", Cond.methodLink RX7 88 yX2_valuesOf, Cond.instanceMethod yX2_valuesOf, Cond.selects RX2 yX2_valuesOf yX2_valuesOf, Cond.code yX2_valuesOf cX2_valuesOf 2 (some (.array .int)), Cond.fieldLink RX2 9 "BoltRing$Joint" "stiffness" "[I", Cond.fieldLink RX2 15 "BoltRing$Joint" "pads" "[I", Cond.fieldLink RX2 18 "BoltRing$Joint" "turns" "[I", Cond.fieldLink RX2 21 "BoltRing$Joint" "loads" "[I", Cond.methodLink RX7 92 yX2_isBroken, Cond.instanceMethod yX2_isBroken, Cond.selects RX2 yX2_isBroken yX2_isBroken, Cond.code yX2_isBroken cX2_isBroken 2 (some .boolean), Cond.fieldLink RX2 34 "BoltRing$Joint" "brokenSet" "I"]
def wsX7_told_r2 : List Cond := [Cond.methodLink RX7 104 yX7_asNumber, Cond.static yX7_asNumber, Cond.initialized RX7, Cond.code yX7_asNumber cX7_asNumber 1 (some .int), Cond.methodLink RX7 112 yX3_settle, Cond.instanceMethod yX3_settle, Cond.selects RX3 yX3_settle yX3_settle, Cond.initialized RX3, Cond.code yX3_settle cX3_settle 3 none, Cond.methodLink RX3 31 yX3_settleHolding, Cond.instanceMethod yX3_settleHolding, Cond.selects RX3 yX3_settleHolding yX3_settleHolding, Cond.code yX3_settleHolding cX3_settleHolding 10 none, Cond.fieldLink RX3 41 "BoltRing$Joint" "brokenSet" "I", Cond.fieldLink RX3 22 "BoltRing$Lifts" "side" "[J", Cond.fieldLink RX3 48 "BoltRing$Joint" "bolts" "I", Cond.fieldLink RX3 51 "BoltRing$Joint" "rib" "I", Cond.methodLink RX3 35 yX2_allSet, Cond.instanceMethod yX2_allSet, Cond.selects RX2 yX2_allSet yX2_allSet, Cond.code yX2_allSet cX2_allSet 1 (some .int), Cond.methodLink RX3 45 yX3_fillSystem, Cond.instanceMethod yX3_fillSystem, Cond.selects RX3 yX3_fillSystem yX3_fillSystem]
def wsX7_told_r3 : List Cond := [Cond.code yX3_fillSystem cX3_fillSystem 10 none, Cond.constantLong RX3 68 (2), Cond.fieldLink RX3 70 "BoltRing$Joint" "stiffness" "[I", Cond.fieldLink RX3 74 "BoltRing$Joint" "turns" "[I", Cond.fieldLink RX3 77 "BoltRing$Joint" "pads" "[I", Cond.fieldLink RX3 19 "BoltRing$Lifts" "diagonal" "[J", Cond.methodLink RX3 54 yX3_fillArcs, Cond.instanceMethod yX3_fillArcs, Cond.selects RX3 yX3_fillArcs yX3_fillArcs, Cond.code yX3_fillArcs cX3_fillArcs 9 none, Cond.fieldLink RX3 28 "BoltRing$Lifts" "arcs" "[J", Cond.fieldLink RX3 25 "BoltRing$Lifts" "ribPowers" "[J", Cond.methodLink RX3 58 yX3_solve, Cond.instanceMethod yX3_solve, Cond.selects RX3 yX3_solve yX3_solve, Cond.code yX3_solve cX3_solve 15 none, Cond.fieldLink RX3 15 "BoltRing$Lifts" "lower" "J", Cond.fieldLink RX3 9 "BoltRing$Lifts" "upper" "[J", Cond.methodLink RX3 61 yX3_liftedSet, Cond.instanceMethod yX3_liftedSet, Cond.selects RX3 yX3_liftedSet yX3_liftedSet, Cond.code yX3_liftedSet cX3_liftedSet 4 (some .int), Cond.methodLink RX3 65 yX3_aboveTurnsSet, Cond.instanceMethod yX3_aboveTurnsSet]
def wsX7_told_r4 : List Cond := [Cond.selects RX3 yX3_aboveTurnsSet yX3_aboveTurnsSet, Cond.code yX3_aboveTurnsSet cX3_aboveTurnsSet 4 (some .int), Cond.methodLink RX7 116 yX3_pullUpper, Cond.instanceMethod yX3_pullUpper, Cond.selects RX3 yX3_pullUpper yX3_pullUpper, Cond.code yX3_pullUpper cX3_pullUpper 3 (some .long), Cond.methodLink RX3 84 Lib.MathLoose.max_long.x, Cond.static Lib.MathLoose.max_long.x, Cond.initialized "java/lang/Math", Cond.code Lib.MathLoose.max_long.x Lib.MathLoose.max_long.code 4 (some .long), Cond.methodLink RX3 80 yX2_isBroken, Cond.methodLink RX7 120 yX3_pressUpper, Cond.instanceMethod yX3_pressUpper, Cond.selects RX3 yX3_pressUpper yX3_pressUpper, Cond.code yX3_pressUpper cX3_pressUpper 3 (some .long), Cond.methodLink RX7 123 yX2_placeInRow, Cond.instanceMethod yX2_placeInRow, Cond.selects RX2 yX2_placeInRow yX2_placeInRow, Cond.code yX2_placeInRow cX2_placeInRow 3 (some .int), Cond.fieldLink RX2 24 "BoltRing$Joint" "order" "[I"]
def wsX7_told : List Cond := .code yX7_told cX7_told 3 (some .int) :: ((wsX7_told_r1 ++ (wsX7_told_r2 ++ (wsX7_told_r3 ++ wsX7_told_r4))) ++ wsX70 ++ wsX20 ++ wsX30)
def wsX7_count_r1 : List Cond := [Cond.fieldLink RX7 10 "BoltRing" "ring" "LBoltRing$Joint;", Cond.fieldLink RX7 142 "BoltRing$Joint" "bolts" "I", Cond.fieldLink RX7 145 "BoltRing$Joint" "brokenSet" "I", Cond.fieldLink RX7 19 "BoltRing" "lifts" "LBoltRing$Lifts;", Cond.fieldLink RX7 108 "BoltRing$Joint" "loads" "[I", Cond.fieldLink RX7 160 "BoltRing$Joint" "turns" "[I", Cond.fieldLink RX7 33 "BoltRing" "cases" "LBoltRing$Cases;", Cond.fieldLink RX7 67 "BoltRing$Cases" "count" "I", Cond.fieldLink RX7 47 "BoltRing" "readings" "LBoltRing$Readings;", Cond.fieldLink RX7 73 "BoltRing$Readings" "told" "I", Cond.fieldLink RX7 54 "BoltRing" "orders" "LBoltRing$Orders;", Cond.fieldLink RX7 167 "BoltRing$Orders" "length" "I", Cond.fieldLink RX7 170 "BoltRing" "clausesDone" "I", Cond.constant RX7 66 (-100002), Cond.methodLink RX7 148 yJ6_bitCount_0f7a4, Cond.static yJ6_bitCount_0f7a4, Cond.initialized RJ6, Cond.code yJ6_bitCount_0f7a4 cJ6_bitCount_0f7a4 1 (some .int), Cond.constant RJ6 265 (1431655765), Cond.constant RJ6 266 (858993459), Cond.constant RJ6 267 (252645135), Cond.methodLink RX7 112 yX3_settle, Cond.instanceMethod yX3_settle, Cond.selects RX3 yX3_settle yX3_settle]
def wsX7_count_r2 : List Cond := [Cond.initialized RX3, Cond.code yX3_settle cX3_settle 3 none, Cond.methodLink RX3 31 yX3_settleHolding, Cond.instanceMethod yX3_settleHolding, Cond.selects RX3 yX3_settleHolding yX3_settleHolding, Cond.code yX3_settleHolding cX3_settleHolding 10 none, Cond.fieldLink RX3 41 "BoltRing$Joint" "brokenSet" "I", Cond.fieldLink RX3 22 "BoltRing$Lifts" "side" "[J", Cond.fieldLink RX3 48 "BoltRing$Joint" "bolts" "I", Cond.fieldLink RX3 51 "BoltRing$Joint" "rib" "I", Cond.methodLink RX3 35 yX2_allSet, Cond.instanceMethod yX2_allSet, Cond.selects RX2 yX2_allSet yX2_allSet, Cond.initialized RX2, Cond.code yX2_allSet cX2_allSet 1 (some .int), Cond.fieldLink RX2 27 "BoltRing$Joint" "bolts" "I", Cond.methodLink RX3 45 yX3_fillSystem, Cond.instanceMethod yX3_fillSystem, Cond.selects RX3 yX3_fillSystem yX3_fillSystem, Cond.code yX3_fillSystem cX3_fillSystem 10 none, Cond.constantLong RX3 68 (2), Cond.fieldLink RX3 70 "BoltRing$Joint" "stiffness" "[I", Cond.fieldLink RX3 74 "BoltRing$Joint" "turns" "[I", Cond.fieldLink RX3 77 "BoltRing$Joint" "pads" "[I"]
def wsX7_count_r3 : List Cond := [Cond.fieldLink RX3 19 "BoltRing$Lifts" "diagonal" "[J", Cond.methodLink RX3 54 yX3_fillArcs, Cond.instanceMethod yX3_fillArcs, Cond.selects RX3 yX3_fillArcs yX3_fillArcs, Cond.code yX3_fillArcs cX3_fillArcs 9 none, Cond.fieldLink RX3 28 "BoltRing$Lifts" "arcs" "[J", Cond.fieldLink RX3 25 "BoltRing$Lifts" "ribPowers" "[J", Cond.methodLink RX3 58 yX3_solve, Cond.instanceMethod yX3_solve, Cond.selects RX3 yX3_solve yX3_solve, Cond.code yX3_solve cX3_solve 15 none, Cond.fieldLink RX3 15 "BoltRing$Lifts" "lower" "J", Cond.fieldLink RX3 9 "BoltRing$Lifts" "upper" "[J", Cond.methodLink RX3 61 yX3_liftedSet, Cond.instanceMethod yX3_liftedSet, Cond.selects RX3 yX3_liftedSet yX3_liftedSet, Cond.code yX3_liftedSet cX3_liftedSet 4 (some .int), Cond.methodLink RX3 65 yX3_aboveTurnsSet, Cond.instanceMethod yX3_aboveTurnsSet, Cond.selects RX3 yX3_aboveTurnsSet yX3_aboveTurnsSet, Cond.code yX3_aboveTurnsSet cX3_aboveTurnsSet 4 (some .int), Cond.methodLink RX7 153 yX3_slackCount, Cond.instanceMethod yX3_slackCount, Cond.selects RX3 yX3_slackCount yX3_slackCount]
def wsX7_count_r4 : List Cond := [Cond.code yX3_slackCount cX3_slackCount 4 (some .int), Cond.methodLink RX3 90 yX3_pullUpper, Cond.instanceMethod yX3_pullUpper, Cond.selects RX3 yX3_pullUpper yX3_pullUpper, Cond.code yX3_pullUpper cX3_pullUpper 3 (some .long), Cond.methodLink RX3 84 Lib.MathLoose.max_long.x, Cond.static Lib.MathLoose.max_long.x, Cond.initialized "java/lang/Math", Cond.code Lib.MathLoose.max_long.x Lib.MathLoose.max_long.code 4 (some .long), Cond.methodLink RX3 80 yX2_isBroken, Cond.instanceMethod yX2_isBroken, Cond.selects RX2 yX2_isBroken yX2_isBroken, Cond.code yX2_isBroken cX2_isBroken 2 (some .boolean), Cond.fieldLink RX2 34 "BoltRing$Joint" "brokenSet" "I", Cond.static yX7_asNumber, Cond.initialized RX7, Cond.code yX7_asNumber cX7_asNumber 1 (some .int), Cond.methodLink RX7 157 yX3_openCount, Cond.instanceMethod yX3_openCount, Cond.selects RX3 yX3_openCount yX3_openCount, Cond.code yX3_openCount cX3_openCount 4 (some .int), Cond.methodLink RX3 98 yX3_pressUpper, Cond.instanceMethod yX3_pressUpper, Cond.selects RX3 yX3_pressUpper yX3_pressUpper]
def wsX7_count_r5 : List Cond := [Cond.code yX3_pressUpper cX3_pressUpper 3 (some .long), Cond.methodLink RX7 163 yX2_sumOf, Cond.instanceMethod yX2_sumOf, Cond.selects RX2 yX2_sumOf yX2_sumOf, Cond.code yX2_sumOf cX2_sumOf 4 (some .int)]
def wsX7_count : List Cond := .code yX7_count cX7_count 2 (some .int) :: ((wsX7_count_r1 ++ (wsX7_count_r2 ++ (wsX7_count_r3 ++ (wsX7_count_r4 ++ wsX7_count_r5)))) ++ wsX70 ++ wsX20 ++ wsX00 ++ wsX60 ++ wsX50 ++ wsX30)
def wsX7_row : List Cond := .code yX7_row cX7_row 2 (some .int) :: ([.fieldLink RX7 10 "BoltRing" "ring" "LBoltRing$Joint;", .constant RX7 66 (-100002), .methodLink RX7 177 yX2_takeRow, .instanceMethod yX2_takeRow, .selects RX2 yX2_takeRow yX2_takeRow, .initialized RX2, .code yX2_takeRow cX2_takeRow 4 (some .boolean), .fieldLink RX2 27 "BoltRing$Joint" "bolts" "I", .fieldLink RX2 24 "BoltRing$Joint" "order" "[I", .methodLink RX2 43 yX2_isRow, .instanceMethod yX2_isRow, .selects RX2 yX2_isRow yX2_isRow, .code yX2_isRow cX2_isRow 6 (some .boolean), .methodLink RX2 47 yX2_allSet, .instanceMethod yX2_allSet, .selects RX2 yX2_allSet yX2_allSet, .code yX2_allSet cX2_allSet 1 (some .int)] ++ wsX70 ++ wsX20)
def wsX7_passes_r1 : List Cond := [Cond.constant RX7 66 (-100002), Cond.fieldLink RX7 26 "BoltRing" "drawing" "LBoltRing$Drawing;", Cond.fieldLink RX7 10 "BoltRing" "ring" "LBoltRing$Joint;", Cond.fieldLink RX7 180 "BoltRing$Joint" "order" "[I", Cond.constant RX7 99 (-100003), Cond.methodLink RX7 62 yX7_within, Cond.static yX7_within, Cond.initialized RX7, Cond.code yX7_within cX7_within 3 (some .boolean), Cond.methodLink RX7 187 yX1_keepTurns, Cond.instanceMethod yX1_keepTurns, Cond.selects RX1 yX1_keepTurns yX1_keepTurns, Cond.initialized RX1, Cond.code yX1_keepTurns cX1_keepTurns 2 none, Cond.fieldLink RX1 28 "BoltRing$Joint" "turns" "[I", Cond.fieldLink RX1 18 "BoltRing$Drawing" "kept" "[I", Cond.methodLink RX1 33 arraycopyName, Cond.native arraycopyName, Cond.static arraycopyName, Cond.initialized "java/lang/System", Cond.methodLink RX7 191 yX1_goRounds, Cond.instanceMethod yX1_goRounds, Cond.selects RX1 yX1_goRounds yX1_goRounds, Cond.code yX1_goRounds cX1_goRounds 6 (some .int)]
def wsX7_passes_r2 : List Cond := [Cond.methodLink RX1 88 yX1_allHold, Cond.instanceMethod yX1_allHold, Cond.selects RX1 yX1_allHold yX1_allHold, Cond.code yX1_allHold cX1_allHold 4 (some .boolean), Cond.fieldLink RX1 12 "BoltRing$Drawing" "lifts" "LBoltRing$Lifts;", Cond.fieldLink RX1 43 "BoltRing$Joint" "loads" "[I", Cond.fieldLink RX1 76 "BoltRing$Joint" "bolts" "I", Cond.fieldLink RX1 61 "BoltRing$Lifts" "lower" "J", Cond.methodLink RX1 96 yX3_settle, Cond.instanceMethod yX3_settle, Cond.selects RX3 yX3_settle yX3_settle, Cond.initialized RX3, Cond.code yX3_settle cX3_settle 3 none, Cond.methodLink RX3 31 yX3_settleHolding, Cond.instanceMethod yX3_settleHolding, Cond.selects RX3 yX3_settleHolding yX3_settleHolding, Cond.code yX3_settleHolding cX3_settleHolding 10 none, Cond.fieldLink RX3 41 "BoltRing$Joint" "brokenSet" "I", Cond.fieldLink RX3 22 "BoltRing$Lifts" "side" "[J", Cond.fieldLink RX3 48 "BoltRing$Joint" "bolts" "I", Cond.fieldLink RX3 51 "BoltRing$Joint" "rib" "I", Cond.methodLink RX3 35 yX2_allSet, Cond.instanceMethod yX2_allSet, Cond.selects RX2 yX2_allSet yX2_allSet]
def wsX7_passes_r3 : List Cond := [Cond.initialized RX2, Cond.code yX2_allSet cX2_allSet 1 (some .int), Cond.fieldLink RX2 27 "BoltRing$Joint" "bolts" "I", Cond.methodLink RX3 45 yX3_fillSystem, Cond.instanceMethod yX3_fillSystem, Cond.selects RX3 yX3_fillSystem yX3_fillSystem, Cond.code yX3_fillSystem cX3_fillSystem 10 none, Cond.constantLong RX3 68 (2), Cond.fieldLink RX3 70 "BoltRing$Joint" "stiffness" "[I", Cond.fieldLink RX3 74 "BoltRing$Joint" "turns" "[I", Cond.fieldLink RX3 77 "BoltRing$Joint" "pads" "[I", Cond.fieldLink RX3 19 "BoltRing$Lifts" "diagonal" "[J", Cond.methodLink RX3 54 yX3_fillArcs, Cond.instanceMethod yX3_fillArcs, Cond.selects RX3 yX3_fillArcs yX3_fillArcs, Cond.code yX3_fillArcs cX3_fillArcs 9 none, Cond.fieldLink RX3 28 "BoltRing$Lifts" "arcs" "[J", Cond.fieldLink RX3 25 "BoltRing$Lifts" "ribPowers" "[J", Cond.methodLink RX3 58 yX3_solve, Cond.instanceMethod yX3_solve, Cond.selects RX3 yX3_solve yX3_solve, Cond.code yX3_solve cX3_solve 15 none, Cond.fieldLink RX3 15 "BoltRing$Lifts" "lower" "J", Cond.fieldLink RX3 9 "BoltRing$Lifts" "upper" "[J"]
def wsX7_passes_r4 : List Cond := [Cond.methodLink RX3 61 yX3_liftedSet, Cond.instanceMethod yX3_liftedSet, Cond.selects RX3 yX3_liftedSet yX3_liftedSet, Cond.code yX3_liftedSet cX3_liftedSet 4 (some .int), Cond.methodLink RX3 65 yX3_aboveTurnsSet, Cond.instanceMethod yX3_aboveTurnsSet, Cond.selects RX3 yX3_aboveTurnsSet yX3_aboveTurnsSet, Cond.code yX3_aboveTurnsSet cX3_aboveTurnsSet 4 (some .int), Cond.methodLink RX1 80 yX2_isBroken, Cond.instanceMethod yX2_isBroken, Cond.selects RX2 yX2_isBroken yX2_isBroken, Cond.code yX2_isBroken cX2_isBroken 2 (some .boolean), Cond.fieldLink RX2 34 "BoltRing$Joint" "brokenSet" "I", Cond.methodLink RX1 100 yX3_pullUpper, Cond.instanceMethod yX3_pullUpper, Cond.selects RX3 yX3_pullUpper yX3_pullUpper, Cond.code yX3_pullUpper cX3_pullUpper 3 (some .long), Cond.methodLink RX3 84 Lib.MathLoose.max_long.x, Cond.static Lib.MathLoose.max_long.x, Cond.initialized "java/lang/Math", Cond.code Lib.MathLoose.max_long.x Lib.MathLoose.max_long.code 4 (some .long), Cond.methodLink RX3 80 yX2_isBroken, Cond.methodLink RX1 92 yX1_goRound, Cond.instanceMethod yX1_goRound]
def wsX7_passes_r5 : List Cond := [Cond.selects RX1 yX1_goRound yX1_goRound, Cond.code yX1_goRound cX1_goRound 8 (some .int), Cond.methodLink RX1 84 yX1_drawBolt, Cond.instanceMethod yX1_drawBolt, Cond.selects RX1 yX1_drawBolt yX1_drawBolt, Cond.code yX1_drawBolt cX1_drawBolt 10 (some .int), Cond.fieldLink RX1 54 "BoltRing$Joint" "stiffness" "[I", Cond.fieldLink RX1 57 "BoltRing$Lifts" "upper" "[J", Cond.methodLink RX1 69 Lib.MathLoose.max_long.x, Cond.constantLong RX1 74 (200), Cond.methodLink RX1 39 yX2_wholeCount, Cond.instanceMethod yX2_wholeCount, Cond.selects RX2 yX2_wholeCount yX2_wholeCount, Cond.code yX2_wholeCount cX2_wholeCount 1 (some .int), Cond.methodLink RX2 37 yJ6_bitCount_0f7a4, Cond.static yJ6_bitCount_0f7a4, Cond.initialized RJ6, Cond.code yJ6_bitCount_0f7a4 cJ6_bitCount_0f7a4 1 (some .int), Cond.constant RJ6 265 (1431655765), Cond.constant RJ6 266 (858993459), Cond.constant RJ6 267 (252645135), Cond.methodLink RX1 46 yX2_sumOf, Cond.instanceMethod yX2_sumOf, Cond.selects RX2 yX2_sumOf yX2_sumOf]
def wsX7_passes_r6 : List Cond := [Cond.code yX2_sumOf cX2_sumOf 4 (some .int), Cond.methodLink RX1 50 yX3_settleHolding, Cond.static yX7_wholeFrom, Cond.code yX7_wholeFrom cX7_wholeFrom 4 (some .long), Cond.methodLink RX7 195 yX1_putTurnsBack, Cond.instanceMethod yX1_putTurnsBack, Cond.selects RX1 yX1_putTurnsBack yX1_putTurnsBack, Cond.code yX1_putTurnsBack cX1_putTurnsBack 2 none]
def wsX7_passes : List Cond := .code yX7_passes cX7_passes 3 (some .int) :: ((wsX7_passes_r1 ++ (wsX7_passes_r2 ++ (wsX7_passes_r3 ++ (wsX7_passes_r4 ++ (wsX7_passes_r5 ++ wsX7_passes_r6))))) ++ wsX70 ++ wsX20 ++ wsX10 ++ wsX30)
def wsX7_best_r1 : List Cond := [Cond.constant RX7 66 (-100002), Cond.fieldLink RX7 10 "BoltRing" "ring" "LBoltRing$Joint;", Cond.fieldLink RX7 142 "BoltRing$Joint" "bolts" "I", Cond.constant RX7 198 (-100005), Cond.fieldLink RX7 26 "BoltRing" "drawing" "LBoltRing$Drawing;", Cond.fieldLink RX7 203 "BoltRing$Drawing" "bestPasses" "I", Cond.constant RX7 99 (-100003), Cond.fieldLink RX7 206 "BoltRing$Drawing" "bestFigures" "I", Cond.fieldLink RX7 209 "BoltRing$Drawing" "bestDrawn" "I", Cond.methodLink RX7 62 yX7_within, Cond.static yX7_within, Cond.initialized RX7, Cond.code yX7_within cX7_within 3 (some .boolean), Cond.methodLink RX7 199 yX1_findBestRow, Cond.instanceMethod yX1_findBestRow, Cond.selects RX1 yX1_findBestRow yX1_findBestRow, Cond.initialized RX1, Cond.code yX1_findBestRow cX1_findBestRow 8 none, Cond.fieldLink RX1 28 "BoltRing$Joint" "turns" "[I", Cond.fieldLink RX1 25 "BoltRing$Drawing" "byNumbers" "[I", Cond.fieldLink RX1 22 "BoltRing$Drawing" "trial" "[I", Cond.methodLink RX1 33 arraycopyName, Cond.native arraycopyName, Cond.static arraycopyName]
def wsX7_best_r2 : List Cond := [Cond.initialized "java/lang/System", Cond.fieldLink RX1 108 "BoltRing$Drawing" "bestPasses" "I", Cond.fieldLink RX1 118 "BoltRing$Drawing" "bestDrawn" "I", Cond.fieldLink RX1 76 "BoltRing$Joint" "bolts" "I", Cond.fieldLink RX1 125 "BoltRing$Drawing" "bestFigures" "I", Cond.methodLink RX1 104 yX1_keepTurns, Cond.instanceMethod yX1_keepTurns, Cond.selects RX1 yX1_keepTurns yX1_keepTurns, Cond.code yX1_keepTurns cX1_keepTurns 2 none, Cond.fieldLink RX1 18 "BoltRing$Drawing" "kept" "[I", Cond.methodLink RX1 46 yX2_sumOf, Cond.instanceMethod yX2_sumOf, Cond.selects RX2 yX2_sumOf yX2_sumOf, Cond.initialized RX2, Cond.code yX2_sumOf cX2_sumOf 4 (some .int), Cond.fieldLink RX2 27 "BoltRing$Joint" "bolts" "I", Cond.methodLink RX1 111 yX1_goRounds, Cond.instanceMethod yX1_goRounds, Cond.selects RX1 yX1_goRounds yX1_goRounds, Cond.code yX1_goRounds cX1_goRounds 6 (some .int), Cond.methodLink RX1 88 yX1_allHold, Cond.instanceMethod yX1_allHold, Cond.selects RX1 yX1_allHold yX1_allHold, Cond.code yX1_allHold cX1_allHold 4 (some .boolean)]
def wsX7_best_r3 : List Cond := [Cond.fieldLink RX1 12 "BoltRing$Drawing" "lifts" "LBoltRing$Lifts;", Cond.fieldLink RX1 43 "BoltRing$Joint" "loads" "[I", Cond.fieldLink RX1 61 "BoltRing$Lifts" "lower" "J", Cond.methodLink RX1 96 yX3_settle, Cond.instanceMethod yX3_settle, Cond.selects RX3 yX3_settle yX3_settle, Cond.initialized RX3, Cond.code yX3_settle cX3_settle 3 none, Cond.methodLink RX3 31 yX3_settleHolding, Cond.instanceMethod yX3_settleHolding, Cond.selects RX3 yX3_settleHolding yX3_settleHolding, Cond.code yX3_settleHolding cX3_settleHolding 10 none, Cond.fieldLink RX3 41 "BoltRing$Joint" "brokenSet" "I", Cond.fieldLink RX3 22 "BoltRing$Lifts" "side" "[J", Cond.fieldLink RX3 48 "BoltRing$Joint" "bolts" "I", Cond.fieldLink RX3 51 "BoltRing$Joint" "rib" "I", Cond.methodLink RX3 35 yX2_allSet, Cond.instanceMethod yX2_allSet, Cond.selects RX2 yX2_allSet yX2_allSet, Cond.code yX2_allSet cX2_allSet 1 (some .int), Cond.methodLink RX3 45 yX3_fillSystem, Cond.instanceMethod yX3_fillSystem, Cond.selects RX3 yX3_fillSystem yX3_fillSystem, Cond.code yX3_fillSystem cX3_fillSystem 10 none]
def wsX7_best_r4 : List Cond := [Cond.constantLong RX3 68 (2), Cond.fieldLink RX3 70 "BoltRing$Joint" "stiffness" "[I", Cond.fieldLink RX3 74 "BoltRing$Joint" "turns" "[I", Cond.fieldLink RX3 77 "BoltRing$Joint" "pads" "[I", Cond.fieldLink RX3 19 "BoltRing$Lifts" "diagonal" "[J", Cond.methodLink RX3 54 yX3_fillArcs, Cond.instanceMethod yX3_fillArcs, Cond.selects RX3 yX3_fillArcs yX3_fillArcs, Cond.code yX3_fillArcs cX3_fillArcs 9 none, Cond.fieldLink RX3 28 "BoltRing$Lifts" "arcs" "[J", Cond.fieldLink RX3 25 "BoltRing$Lifts" "ribPowers" "[J", Cond.methodLink RX3 58 yX3_solve, Cond.instanceMethod yX3_solve, Cond.selects RX3 yX3_solve yX3_solve, Cond.code yX3_solve cX3_solve 15 none, Cond.fieldLink RX3 15 "BoltRing$Lifts" "lower" "J", Cond.fieldLink RX3 9 "BoltRing$Lifts" "upper" "[J", Cond.methodLink RX3 61 yX3_liftedSet, Cond.instanceMethod yX3_liftedSet, Cond.selects RX3 yX3_liftedSet yX3_liftedSet, Cond.code yX3_liftedSet cX3_liftedSet 4 (some .int), Cond.methodLink RX3 65 yX3_aboveTurnsSet, Cond.instanceMethod yX3_aboveTurnsSet, Cond.selects RX3 yX3_aboveTurnsSet yX3_aboveTurnsSet]
def wsX7_best_r5 : List Cond := [Cond.code yX3_aboveTurnsSet cX3_aboveTurnsSet 4 (some .int), Cond.methodLink RX1 80 yX2_isBroken, Cond.instanceMethod yX2_isBroken, Cond.selects RX2 yX2_isBroken yX2_isBroken, Cond.code yX2_isBroken cX2_isBroken 2 (some .boolean), Cond.fieldLink RX2 34 "BoltRing$Joint" "brokenSet" "I", Cond.methodLink RX1 100 yX3_pullUpper, Cond.instanceMethod yX3_pullUpper, Cond.selects RX3 yX3_pullUpper yX3_pullUpper, Cond.code yX3_pullUpper cX3_pullUpper 3 (some .long), Cond.methodLink RX3 84 Lib.MathLoose.max_long.x, Cond.static Lib.MathLoose.max_long.x, Cond.initialized "java/lang/Math", Cond.code Lib.MathLoose.max_long.x Lib.MathLoose.max_long.code 4 (some .long), Cond.methodLink RX3 80 yX2_isBroken, Cond.methodLink RX1 92 yX1_goRound, Cond.instanceMethod yX1_goRound, Cond.selects RX1 yX1_goRound yX1_goRound, Cond.code yX1_goRound cX1_goRound 8 (some .int), Cond.methodLink RX1 84 yX1_drawBolt, Cond.instanceMethod yX1_drawBolt, Cond.selects RX1 yX1_drawBolt yX1_drawBolt, Cond.code yX1_drawBolt cX1_drawBolt 10 (some .int), Cond.fieldLink RX1 54 "BoltRing$Joint" "stiffness" "[I"]
def wsX7_best_r6 : List Cond := [Cond.fieldLink RX1 57 "BoltRing$Lifts" "upper" "[J", Cond.methodLink RX1 69 Lib.MathLoose.max_long.x, Cond.constantLong RX1 74 (200), Cond.methodLink RX1 39 yX2_wholeCount, Cond.instanceMethod yX2_wholeCount, Cond.selects RX2 yX2_wholeCount yX2_wholeCount, Cond.code yX2_wholeCount cX2_wholeCount 1 (some .int), Cond.methodLink RX2 37 yJ6_bitCount_0f7a4, Cond.static yJ6_bitCount_0f7a4, Cond.initialized RJ6, Cond.code yJ6_bitCount_0f7a4 cJ6_bitCount_0f7a4 1 (some .int), Cond.constant RJ6 265 (1431655765), Cond.constant RJ6 266 (858993459), Cond.constant RJ6 267 (252645135), Cond.methodLink RX1 50 yX3_settleHolding, Cond.static yX7_wholeFrom, Cond.code yX7_wholeFrom cX7_wholeFrom 4 (some .long), Cond.methodLink RX1 115 yX1_putTurnsBack, Cond.instanceMethod yX1_putTurnsBack, Cond.selects RX1 yX1_putTurnsBack yX1_putTurnsBack, Cond.code yX1_putTurnsBack cX1_putTurnsBack 2 none, Cond.methodLink RX1 121 yX1_figuresOf, Cond.static yX1_figuresOf, Cond.code yX1_figuresOf cX1_figuresOf 4 (some .int)]
def wsX7_best_r7 : List Cond := [Cond.methodLink RX1 128 yX1_toNextOrder, Cond.static yX1_toNextOrder, Cond.code yX1_toNextOrder cX1_toNextOrder 6 (some .boolean), Cond.methodLink RX1 132 yX1_swap, Cond.static yX1_swap, Cond.code yX1_swap cX1_swap 4 none]
def wsX7_best : List Cond := .code yX7_best cX7_best 3 (some .int) :: ((wsX7_best_r1 ++ (wsX7_best_r2 ++ (wsX7_best_r3 ++ (wsX7_best_r4 ++ (wsX7_best_r5 ++ (wsX7_best_r6 ++ wsX7_best_r7)))))) ++ wsX70 ++ wsX20 ++ wsX10 ++ wsX30)
def wsX7_even_r1 : List Cond := [Cond.fieldLink RX7 10 "BoltRing" "ring" "LBoltRing$Joint;", Cond.constant RX7 80 (-100001), Cond.constant RX7 66 (-100002), Cond.fieldLink RX7 26 "BoltRing" "drawing" "LBoltRing$Drawing;", Cond.fieldLink RX7 160 "BoltRing$Joint" "turns" "[I", Cond.constant RX7 99 (-100003), Cond.methodLink RX7 76 yX2_has, Cond.instanceMethod yX2_has, Cond.selects RX2 yX2_has yX2_has, Cond.initialized RX2, Cond.code yX2_has cX2_has 2 (some .boolean), Cond.fieldLink RX2 27 "BoltRing$Joint" "bolts" "I", Cond.methodLink RX7 62 yX7_within, Cond.static yX7_within, Cond.initialized RX7, Cond.code yX7_within cX7_within 3 (some .boolean), Cond.methodLink RX7 187 yX1_keepTurns, Cond.instanceMethod yX1_keepTurns, Cond.selects RX1 yX1_keepTurns yX1_keepTurns, Cond.initialized RX1, Cond.code yX1_keepTurns cX1_keepTurns 2 none, Cond.fieldLink RX1 28 "BoltRing$Joint" "turns" "[I", Cond.fieldLink RX1 18 "BoltRing$Drawing" "kept" "[I", Cond.methodLink RX1 33 arraycopyName]
def wsX7_even_r2 : List Cond := [Cond.native arraycopyName, Cond.static arraycopyName, Cond.initialized "java/lang/System", Cond.methodLink RX7 212 yX1_drawEvenFromNothing, Cond.instanceMethod yX1_drawEvenFromNothing, Cond.selects RX1 yX1_drawEvenFromNothing yX1_drawEvenFromNothing, Cond.code yX1_drawEvenFromNothing cX1_drawEvenFromNothing 5 (some .boolean), Cond.fieldLink RX1 76 "BoltRing$Joint" "bolts" "I", Cond.fieldLink RX1 25 "BoltRing$Drawing" "byNumbers" "[I", Cond.methodLink RX1 80 yX2_isBroken, Cond.instanceMethod yX2_isBroken, Cond.selects RX2 yX2_isBroken yX2_isBroken, Cond.code yX2_isBroken cX2_isBroken 2 (some .boolean), Cond.fieldLink RX2 34 "BoltRing$Joint" "brokenSet" "I", Cond.methodLink RX1 92 yX1_goRound, Cond.instanceMethod yX1_goRound, Cond.selects RX1 yX1_goRound yX1_goRound, Cond.code yX1_goRound cX1_goRound 8 (some .int), Cond.methodLink RX1 84 yX1_drawBolt, Cond.instanceMethod yX1_drawBolt, Cond.selects RX1 yX1_drawBolt yX1_drawBolt, Cond.code yX1_drawBolt cX1_drawBolt 10 (some .int), Cond.fieldLink RX1 43 "BoltRing$Joint" "loads" "[I", Cond.fieldLink RX1 12 "BoltRing$Drawing" "lifts" "LBoltRing$Lifts;"]
def wsX7_even_r3 : List Cond := [Cond.fieldLink RX1 54 "BoltRing$Joint" "stiffness" "[I", Cond.fieldLink RX1 57 "BoltRing$Lifts" "upper" "[J", Cond.fieldLink RX1 61 "BoltRing$Lifts" "lower" "J", Cond.methodLink RX1 69 Lib.MathLoose.max_long.x, Cond.static Lib.MathLoose.max_long.x, Cond.initialized "java/lang/Math", Cond.code Lib.MathLoose.max_long.x Lib.MathLoose.max_long.code 4 (some .long), Cond.constantLong RX1 74 (200), Cond.methodLink RX1 39 yX2_wholeCount, Cond.instanceMethod yX2_wholeCount, Cond.selects RX2 yX2_wholeCount yX2_wholeCount, Cond.code yX2_wholeCount cX2_wholeCount 1 (some .int), Cond.methodLink RX2 37 yJ6_bitCount_0f7a4, Cond.static yJ6_bitCount_0f7a4, Cond.initialized RJ6, Cond.code yJ6_bitCount_0f7a4 cJ6_bitCount_0f7a4 1 (some .int), Cond.constant RJ6 265 (1431655765), Cond.constant RJ6 266 (858993459), Cond.constant RJ6 267 (252645135), Cond.methodLink RX1 46 yX2_sumOf, Cond.instanceMethod yX2_sumOf, Cond.selects RX2 yX2_sumOf yX2_sumOf, Cond.code yX2_sumOf cX2_sumOf 4 (some .int), Cond.methodLink RX1 50 yX3_settleHolding]
def wsX7_even_r4 : List Cond := [Cond.instanceMethod yX3_settleHolding, Cond.selects RX3 yX3_settleHolding yX3_settleHolding, Cond.initialized RX3, Cond.code yX3_settleHolding cX3_settleHolding 10 none, Cond.fieldLink RX3 41 "BoltRing$Joint" "brokenSet" "I", Cond.fieldLink RX3 22 "BoltRing$Lifts" "side" "[J", Cond.fieldLink RX3 48 "BoltRing$Joint" "bolts" "I", Cond.fieldLink RX3 51 "BoltRing$Joint" "rib" "I", Cond.methodLink RX3 35 yX2_allSet, Cond.instanceMethod yX2_allSet, Cond.selects RX2 yX2_allSet yX2_allSet, Cond.code yX2_allSet cX2_allSet 1 (some .int), Cond.methodLink RX3 45 yX3_fillSystem, Cond.instanceMethod yX3_fillSystem, Cond.selects RX3 yX3_fillSystem yX3_fillSystem, Cond.code yX3_fillSystem cX3_fillSystem 10 none, Cond.constantLong RX3 68 (2), Cond.fieldLink RX3 70 "BoltRing$Joint" "stiffness" "[I", Cond.fieldLink RX3 74 "BoltRing$Joint" "turns" "[I", Cond.fieldLink RX3 77 "BoltRing$Joint" "pads" "[I", Cond.fieldLink RX3 19 "BoltRing$Lifts" "diagonal" "[J", Cond.methodLink RX3 54 yX3_fillArcs, Cond.instanceMethod yX3_fillArcs, Cond.selects RX3 yX3_fillArcs yX3_fillArcs]
def wsX7_even_r5 : List Cond := [Cond.code yX3_fillArcs cX3_fillArcs 9 none, Cond.fieldLink RX3 28 "BoltRing$Lifts" "arcs" "[J", Cond.fieldLink RX3 25 "BoltRing$Lifts" "ribPowers" "[J", Cond.methodLink RX3 58 yX3_solve, Cond.instanceMethod yX3_solve, Cond.selects RX3 yX3_solve yX3_solve, Cond.code yX3_solve cX3_solve 15 none, Cond.fieldLink RX3 15 "BoltRing$Lifts" "lower" "J", Cond.fieldLink RX3 9 "BoltRing$Lifts" "upper" "[J", Cond.methodLink RX3 61 yX3_liftedSet, Cond.instanceMethod yX3_liftedSet, Cond.selects RX3 yX3_liftedSet yX3_liftedSet, Cond.code yX3_liftedSet cX3_liftedSet 4 (some .int), Cond.methodLink RX3 65 yX3_aboveTurnsSet, Cond.instanceMethod yX3_aboveTurnsSet, Cond.selects RX3 yX3_aboveTurnsSet yX3_aboveTurnsSet, Cond.code yX3_aboveTurnsSet cX3_aboveTurnsSet 4 (some .int), Cond.static yX7_wholeFrom, Cond.code yX7_wholeFrom cX7_wholeFrom 4 (some .long), Cond.methodLink RX7 163 yX2_sumOf, Cond.methodLink RX7 195 yX1_putTurnsBack, Cond.instanceMethod yX1_putTurnsBack, Cond.selects RX1 yX1_putTurnsBack yX1_putTurnsBack, Cond.code yX1_putTurnsBack cX1_putTurnsBack 2 none]
def wsX7_even : List Cond := .code yX7_even cX7_even 5 (some .int) :: ((wsX7_even_r1 ++ (wsX7_even_r2 ++ (wsX7_even_r3 ++ (wsX7_even_r4 ++ wsX7_even_r5)))) ++ wsX70 ++ wsX20 ++ wsX10 ++ wsX30)
def wsJ9_max_f86c9 : List Cond := .code yJ9_max_f86c9 cJ9_max_f86c9 4 (some .long) :: ([])
def wsL_cell : List Cond := .code yL_cell cL_cell 2 (some .int) :: ([.constant RL 7 (747796405)])
def wsL_low : List Cond := .code yL_low cL_low 2 (some .int) :: ([.constant RL 8 (2147483647)])
def wsL_make_r1 : List Cond := [Cond.methodLink RL 9 yL_cell, Cond.static yL_cell, Cond.initialized RL, Cond.code yL_cell cL_cell 2 (some .int), Cond.constant RL 7 (747796405), Cond.methodLink RL 15 yL_low, Cond.static yL_low, Cond.code yL_low cL_low 2 (some .int), Cond.constant RL 8 (2147483647), Cond.methodLink RL 19 yX7_joint, Cond.instanceMethod yX7_joint, Cond.selects RX7 yX7_joint yX7_joint, Cond.initialized RX7, Cond.code yX7_joint cX7_joint 3 (some .int), Cond.constant RX7 66 (-100002), Cond.fieldLink RX7 10 "BoltRing" "ring" "LBoltRing$Joint;", Cond.fieldLink RX7 33 "BoltRing" "cases" "LBoltRing$Cases;", Cond.fieldLink RX7 67 "BoltRing$Cases" "count" "I", Cond.fieldLink RX7 40 "BoltRing" "misses" "LBoltRing$Misses;", Cond.fieldLink RX7 47 "BoltRing" "readings" "LBoltRing$Readings;", Cond.fieldLink RX7 73 "BoltRing$Readings" "told" "I", Cond.methodLink RX7 62 yX7_within, Cond.static yX7_within, Cond.code yX7_within cX7_within 3 (some .boolean)]
def wsL_make_r2 : List Cond := [Cond.methodLink RX7 58 yX2_begin, Cond.instanceMethod yX2_begin, Cond.selects RX2 yX2_begin yX2_begin, Cond.initialized RX2, Cond.code yX2_begin cX2_begin 4 none, Cond.fieldLink RX2 27 "BoltRing$Joint" "bolts" "I", Cond.fieldLink RX2 31 "BoltRing$Joint" "rib" "I", Cond.fieldLink RX2 34 "BoltRing$Joint" "brokenSet" "I", Cond.fieldLink RX2 9 "BoltRing$Joint" "stiffness" "[I", Cond.fieldLink RX2 15 "BoltRing$Joint" "pads" "[I", Cond.fieldLink RX2 18 "BoltRing$Joint" "turns" "[I", Cond.fieldLink RX2 21 "BoltRing$Joint" "loads" "[I", Cond.fieldLink RX2 24 "BoltRing$Joint" "order" "[I", Cond.methodLink RX7 71 yX4_begin, Cond.instanceMethod yX4_begin, Cond.selects RX4 yX4_begin yX4_begin, Cond.initialized RX4, Cond.code yX4_begin cX4_begin 1 none, Cond.methodLink RX4 18 yX4_weigh, Cond.instanceMethod yX4_weigh, Cond.selects RX4 yX4_weigh yX4_weigh, Cond.code yX4_weigh cX4_weigh 4 none, Cond.fieldLink RX4 9 "BoltRing$Misses" "weights" "[I", Cond.methodLink RL 24 yX7_set]
def wsL_make_r3 : List Cond := [Cond.instanceMethod yX7_set, Cond.selects RX7 yX7_set yX7_set, Cond.code yX7_set cX7_set 6 (some .int), Cond.constant RX7 80 (-100001), Cond.methodLink RX7 76 yX2_has, Cond.instanceMethod yX2_has, Cond.selects RX2 yX2_has yX2_has, Cond.code yX2_has cX2_has 2 (some .boolean), Cond.methodLink RX7 81 yX7_leastOf, Cond.static yX7_leastOf, Cond.code yX7_leastOf cX7_leastOf 1 (some .int), Cond.methodLink RX7 85 yX7_mostOf, Cond.static yX7_mostOf, Cond.code yX7_mostOf cX7_mostOf 1 (some .int), Cond.methodLink RX7 88 yX2_valuesOf, Cond.instanceMethod yX2_valuesOf, Cond.selects RX2 yX2_valuesOf yX2_valuesOf, Cond.code yX2_valuesOf cX2_valuesOf 2 (some (.array .int)), Cond.methodLink RL 28 yX7_broken, Cond.instanceMethod yX7_broken, Cond.selects RX7 yX7_broken yX7_broken, Cond.code yX7_broken cX7_broken 4 (some .int), Cond.constant RX7 99 (-100003), Cond.methodLink RX7 92 yX2_isBroken]
def wsL_make_r4 : List Cond := [Cond.instanceMethod yX2_isBroken, Cond.selects RX2 yX2_isBroken yX2_isBroken, Cond.code yX2_isBroken cX2_isBroken 2 (some .boolean), Cond.methodLink RX7 95 yX2_wholeCount, Cond.instanceMethod yX2_wholeCount, Cond.selects RX2 yX2_wholeCount yX2_wholeCount, Cond.code yX2_wholeCount cX2_wholeCount 1 (some .int), Cond.methodLink RX2 37 yJ6_bitCount_0f7a4, Cond.static yJ6_bitCount_0f7a4, Cond.initialized RJ6, Cond.code yJ6_bitCount_0f7a4 cJ6_bitCount_0f7a4 1 (some .int), Cond.constant RJ6 265 (1431655765), Cond.constant RJ6 266 (858993459), Cond.constant RJ6 267 (252645135), Cond.methodLink RX7 100 yX2_markBroken, Cond.instanceMethod yX2_markBroken, Cond.selects RX2 yX2_markBroken yX2_markBroken, Cond.code yX2_markBroken cX2_markBroken 3 none, Cond.methodLink RX7 104 yX7_asNumber, Cond.static yX7_asNumber, Cond.code yX7_asNumber cX7_asNumber 1 (some .int)]
def wsL_make : List Cond := .code yL_make cL_make 4 (some .boolean) :: ((wsL_make_r1 ++ (wsL_make_r2 ++ (wsL_make_r3 ++ wsL_make_r4))) ++ wsX70 ++ wsX00 ++ wsX60 ++ wsX20 ++ wsX40)
def wsL_law_r1 : List Cond := [Cond.classLink RL 20 RX7, Cond.instantiable RX7 8, Cond.initialized RX7, Cond.arrayClass .int, Cond.constant RL 53 (-100003), Cond.constant RL 57 (-100005), Cond.constant RL 58 (-100002), Cond.methodLink RL 32 yX7_init, Cond.instanceMethod yX7_init, Cond.code yX7_init cX7_init 1 none, Cond.methodLink RX7 1 objectInit, Cond.instanceMethod objectInit, Cond.code objectInit ⟨#[0xb1]⟩ 1 none, Cond.classLink RX7 7 RX2, Cond.instantiable RX2 8, Cond.initialized RX2, Cond.fieldLink RX7 10 "BoltRing" "ring" "LBoltRing$Joint;", Cond.classLink RX7 16 RX3, Cond.instantiable RX3 6, Cond.initialized RX3, Cond.fieldLink RX7 19 "BoltRing" "lifts" "LBoltRing$Lifts;", Cond.classLink RX7 23 RX1, Cond.instantiable RX1 7, Cond.initialized RX1]
def wsL_law_r2 : List Cond := [Cond.fieldLink RX7 26 "BoltRing" "drawing" "LBoltRing$Drawing;", Cond.classLink RX7 30 RX0, Cond.instantiable RX0 4, Cond.initialized RX0, Cond.fieldLink RX7 33 "BoltRing" "cases" "LBoltRing$Cases;", Cond.classLink RX7 37 RX4, Cond.instantiable RX4 2, Cond.initialized RX4, Cond.fieldLink RX7 40 "BoltRing" "misses" "LBoltRing$Misses;", Cond.classLink RX7 44 RX6, Cond.instantiable RX6 3, Cond.initialized RX6, Cond.fieldLink RX7 47 "BoltRing" "readings" "LBoltRing$Readings;", Cond.classLink RX7 51 RX5, Cond.instantiable RX5 12, Cond.initialized RX5, Cond.fieldLink RX7 54 "BoltRing" "orders" "LBoltRing$Orders;", Cond.instanceMethod yX2_init, Cond.code yX2_init cX2_init 1 none, Cond.methodLink RX2 3 objectInit, Cond.fieldLink RX2 9 "BoltRing$Joint" "stiffness" "[I", Cond.fieldLink RX2 15 "BoltRing$Joint" "pads" "[I", Cond.fieldLink RX2 18 "BoltRing$Joint" "turns" "[I", Cond.fieldLink RX2 21 "BoltRing$Joint" "loads" "[I"]
def wsL_law_r3 : List Cond := [Cond.fieldLink RX2 24 "BoltRing$Joint" "order" "[I", Cond.instanceMethod yX3_init, Cond.code yX3_init cX3_init 1 none, Cond.methodLink RX3 3 objectInit, Cond.arrayClass .long, Cond.fieldLink RX3 9 "BoltRing$Lifts" "upper" "[J", Cond.fieldLink RX3 15 "BoltRing$Lifts" "lower" "J", Cond.fieldLink RX3 19 "BoltRing$Lifts" "diagonal" "[J", Cond.fieldLink RX3 22 "BoltRing$Lifts" "side" "[J", Cond.fieldLink RX3 25 "BoltRing$Lifts" "ribPowers" "[J", Cond.fieldLink RX3 28 "BoltRing$Lifts" "arcs" "[J", Cond.instanceMethod yX1_init, Cond.code yX1_init cX1_init 1 none, Cond.methodLink RX1 3 objectInit, Cond.classLink RX1 9 RX3, Cond.fieldLink RX1 12 "BoltRing$Drawing" "lifts" "LBoltRing$Lifts;", Cond.fieldLink RX1 18 "BoltRing$Drawing" "kept" "[I", Cond.fieldLink RX1 22 "BoltRing$Drawing" "trial" "[I", Cond.fieldLink RX1 25 "BoltRing$Drawing" "byNumbers" "[I", Cond.instanceMethod yX0_init, Cond.code yX0_init cX0_init 1 none, Cond.methodLink RX0 3 objectInit, Cond.classLink RX0 11 "[[I", Cond.fieldLink RX0 13 "BoltRing$Cases" "loads" "[[I"]
def wsL_law_r4 : List Cond := [Cond.fieldLink RX0 16 "BoltRing$Cases" "leastLower" "J", Cond.instanceMethod yX4_init, Cond.code yX4_init cX4_init 1 none, Cond.methodLink RX4 3 objectInit, Cond.fieldLink RX4 9 "BoltRing$Misses" "weights" "[I", Cond.fieldLink RX4 15 "BoltRing$Misses" "meant" "[I", Cond.instanceMethod yX6_init, Cond.code yX6_init cX6_init 1 none, Cond.methodLink RX6 3 objectInit, Cond.fieldLink RX6 9 "BoltRing$Readings" "lows" "[I", Cond.fieldLink RX6 15 "BoltRing$Readings" "highs" "[I", Cond.instanceMethod yX5_init, Cond.code yX5_init cX5_init 1 none, Cond.methodLink RX5 3 objectInit, Cond.fieldLink RX5 9 "BoltRing$Orders" "flawAt" "I", Cond.fieldLink RX5 15 "BoltRing$Orders" "kinds" "[I", Cond.fieldLink RX5 19 "BoltRing$Orders" "firsts" "[I", Cond.fieldLink RX5 22 "BoltRing$Orders" "seconds" "[I", Cond.fieldLink RX5 25 "BoltRing$Orders" "signs" "[I", Cond.methodLink RX7 58 yX2_begin, Cond.instanceMethod yX2_begin, Cond.selects RX2 yX2_begin yX2_begin, Cond.code yX2_begin cX2_begin 4 none, Cond.fieldLink RX2 27 "BoltRing$Joint" "bolts" "I"]
def wsL_law_r5 : List Cond := [Cond.fieldLink RX2 31 "BoltRing$Joint" "rib" "I", Cond.fieldLink RX2 34 "BoltRing$Joint" "brokenSet" "I", Cond.methodLink RL 9 yL_cell, Cond.static yL_cell, Cond.initialized RL, Cond.code yL_cell cL_cell 2 (some .int), Cond.constant RL 7 (747796405), Cond.methodLink RL 15 yL_low, Cond.static yL_low, Cond.code yL_low cL_low 2 (some .int), Cond.constant RL 8 (2147483647), Cond.methodLink RL 33 yL_make, Cond.static yL_make, Cond.code yL_make cL_make 4 (some .boolean), Cond.methodLink RL 19 yX7_joint, Cond.instanceMethod yX7_joint, Cond.selects RX7 yX7_joint yX7_joint, Cond.code yX7_joint cX7_joint 3 (some .int), Cond.constant RX7 66 (-100002), Cond.fieldLink RX7 67 "BoltRing$Cases" "count" "I", Cond.fieldLink RX7 73 "BoltRing$Readings" "told" "I", Cond.methodLink RX7 62 yX7_within, Cond.static yX7_within, Cond.code yX7_within cX7_within 3 (some .boolean)]
def wsL_law_r6 : List Cond := [Cond.methodLink RX7 71 yX4_begin, Cond.instanceMethod yX4_begin, Cond.selects RX4 yX4_begin yX4_begin, Cond.code yX4_begin cX4_begin 1 none, Cond.methodLink RX4 18 yX4_weigh, Cond.instanceMethod yX4_weigh, Cond.selects RX4 yX4_weigh yX4_weigh, Cond.code yX4_weigh cX4_weigh 4 none, Cond.methodLink RL 24 yX7_set, Cond.instanceMethod yX7_set, Cond.selects RX7 yX7_set yX7_set, Cond.code yX7_set cX7_set 6 (some .int), Cond.constant RX7 80 (-100001), Cond.methodLink RX7 76 yX2_has, Cond.instanceMethod yX2_has, Cond.selects RX2 yX2_has yX2_has, Cond.code yX2_has cX2_has 2 (some .boolean), Cond.methodLink RX7 81 yX7_leastOf, Cond.static yX7_leastOf, Cond.code yX7_leastOf cX7_leastOf 1 (some .int), Cond.methodLink RX7 85 yX7_mostOf, Cond.static yX7_mostOf, Cond.code yX7_mostOf cX7_mostOf 1 (some .int), Cond.methodLink RX7 88 yX2_valuesOf]
def wsL_law_r7 : List Cond := [Cond.instanceMethod yX2_valuesOf, Cond.selects RX2 yX2_valuesOf yX2_valuesOf, Cond.code yX2_valuesOf cX2_valuesOf 2 (some (.array .int)), Cond.methodLink RL 28 yX7_broken, Cond.instanceMethod yX7_broken, Cond.selects RX7 yX7_broken yX7_broken, Cond.code yX7_broken cX7_broken 4 (some .int), Cond.constant RX7 99 (-100003), Cond.methodLink RX7 92 yX2_isBroken, Cond.instanceMethod yX2_isBroken, Cond.selects RX2 yX2_isBroken yX2_isBroken, Cond.code yX2_isBroken cX2_isBroken 2 (some .boolean), Cond.methodLink RX7 95 yX2_wholeCount, Cond.instanceMethod yX2_wholeCount, Cond.selects RX2 yX2_wholeCount yX2_wholeCount, Cond.code yX2_wholeCount cX2_wholeCount 1 (some .int), Cond.methodLink RX2 37 yJ6_bitCount_0f7a4, Cond.static yJ6_bitCount_0f7a4, Cond.initialized RJ6, Cond.code yJ6_bitCount_0f7a4 cJ6_bitCount_0f7a4 1 (some .int), Cond.constant RJ6 265 (1431655765), Cond.constant RJ6 266 (858993459), Cond.constant RJ6 267 (252645135), Cond.methodLink RX7 100 yX2_markBroken]
def wsL_law_r8 : List Cond := [Cond.instanceMethod yX2_markBroken, Cond.selects RX2 yX2_markBroken yX2_markBroken, Cond.code yX2_markBroken cX2_markBroken 3 none, Cond.methodLink RX7 104 yX7_asNumber, Cond.static yX7_asNumber, Cond.code yX7_asNumber cX7_asNumber 1 (some .int), Cond.methodLink RL 37 yX7_told, Cond.instanceMethod yX7_told, Cond.selects RX7 yX7_told yX7_told, Cond.code yX7_told cX7_told 3 (some .int), Cond.fieldLink RX7 108 "BoltRing$Joint" "loads" "[I", Cond.methodLink RX7 112 yX3_settle, Cond.instanceMethod yX3_settle, Cond.selects RX3 yX3_settle yX3_settle, Cond.code yX3_settle cX3_settle 3 none, Cond.methodLink RX3 31 yX3_settleHolding, Cond.instanceMethod yX3_settleHolding, Cond.selects RX3 yX3_settleHolding yX3_settleHolding, Cond.code yX3_settleHolding cX3_settleHolding 10 none, Cond.fieldLink RX3 41 "BoltRing$Joint" "brokenSet" "I", Cond.fieldLink RX3 48 "BoltRing$Joint" "bolts" "I", Cond.fieldLink RX3 51 "BoltRing$Joint" "rib" "I", Cond.methodLink RX3 35 yX2_allSet, Cond.instanceMethod yX2_allSet]
def wsL_law_r9 : List Cond := [Cond.selects RX2 yX2_allSet yX2_allSet, Cond.code yX2_allSet cX2_allSet 1 (some .int), Cond.methodLink RX3 45 yX3_fillSystem, Cond.instanceMethod yX3_fillSystem, Cond.selects RX3 yX3_fillSystem yX3_fillSystem, Cond.code yX3_fillSystem cX3_fillSystem 10 none, Cond.constantLong RX3 68 (2), Cond.fieldLink RX3 70 "BoltRing$Joint" "stiffness" "[I", Cond.fieldLink RX3 74 "BoltRing$Joint" "turns" "[I", Cond.fieldLink RX3 77 "BoltRing$Joint" "pads" "[I", Cond.methodLink RX3 54 yX3_fillArcs, Cond.instanceMethod yX3_fillArcs, Cond.selects RX3 yX3_fillArcs yX3_fillArcs, Cond.code yX3_fillArcs cX3_fillArcs 9 none, Cond.methodLink RX3 58 yX3_solve, Cond.instanceMethod yX3_solve, Cond.selects RX3 yX3_solve yX3_solve, Cond.code yX3_solve cX3_solve 15 none, Cond.methodLink RX3 61 yX3_liftedSet, Cond.instanceMethod yX3_liftedSet, Cond.selects RX3 yX3_liftedSet yX3_liftedSet, Cond.code yX3_liftedSet cX3_liftedSet 4 (some .int), Cond.methodLink RX3 65 yX3_aboveTurnsSet, Cond.instanceMethod yX3_aboveTurnsSet]
def wsL_law_r10 : List Cond := [Cond.selects RX3 yX3_aboveTurnsSet yX3_aboveTurnsSet, Cond.code yX3_aboveTurnsSet cX3_aboveTurnsSet 4 (some .int), Cond.methodLink RX7 116 yX3_pullUpper, Cond.instanceMethod yX3_pullUpper, Cond.selects RX3 yX3_pullUpper yX3_pullUpper, Cond.code yX3_pullUpper cX3_pullUpper 3 (some .long), Cond.methodLink RX3 84 Lib.MathLoose.max_long.x, Cond.static Lib.MathLoose.max_long.x, Cond.initialized "java/lang/Math", Cond.code Lib.MathLoose.max_long.x Lib.MathLoose.max_long.code 4 (some .long), Cond.methodLink RX3 80 yX2_isBroken, Cond.methodLink RX7 120 yX3_pressUpper, Cond.instanceMethod yX3_pressUpper, Cond.selects RX3 yX3_pressUpper yX3_pressUpper, Cond.code yX3_pressUpper cX3_pressUpper 3 (some .long), Cond.methodLink RX7 123 yX2_placeInRow, Cond.instanceMethod yX2_placeInRow, Cond.selects RX2 yX2_placeInRow yX2_placeInRow, Cond.code yX2_placeInRow cX2_placeInRow 3 (some .int), Cond.methodLink RL 40 yX7_row, Cond.instanceMethod yX7_row, Cond.selects RX7 yX7_row yX7_row, Cond.code yX7_row cX7_row 2 (some .int), Cond.methodLink RX7 177 yX2_takeRow]
def wsL_law_r11 : List Cond := [Cond.instanceMethod yX2_takeRow, Cond.selects RX2 yX2_takeRow yX2_takeRow, Cond.code yX2_takeRow cX2_takeRow 4 (some .boolean), Cond.methodLink RX2 43 yX2_isRow, Cond.instanceMethod yX2_isRow, Cond.selects RX2 yX2_isRow yX2_isRow, Cond.code yX2_isRow cX2_isRow 6 (some .boolean), Cond.methodLink RX2 47 yX2_allSet, Cond.methodLink RL 44 yX7_passes, Cond.instanceMethod yX7_passes, Cond.selects RX7 yX7_passes yX7_passes, Cond.code yX7_passes cX7_passes 3 (some .int), Cond.fieldLink RX7 180 "BoltRing$Joint" "order" "[I", Cond.methodLink RX7 187 yX1_keepTurns, Cond.instanceMethod yX1_keepTurns, Cond.selects RX1 yX1_keepTurns yX1_keepTurns, Cond.code yX1_keepTurns cX1_keepTurns 2 none, Cond.fieldLink RX1 28 "BoltRing$Joint" "turns" "[I", Cond.methodLink RX1 33 arraycopyName, Cond.native arraycopyName, Cond.static arraycopyName, Cond.initialized "java/lang/System", Cond.methodLink RX7 191 yX1_goRounds, Cond.instanceMethod yX1_goRounds]
def wsL_law_r12 : List Cond := [Cond.selects RX1 yX1_goRounds yX1_goRounds, Cond.code yX1_goRounds cX1_goRounds 6 (some .int), Cond.methodLink RX1 88 yX1_allHold, Cond.instanceMethod yX1_allHold, Cond.selects RX1 yX1_allHold yX1_allHold, Cond.code yX1_allHold cX1_allHold 4 (some .boolean), Cond.fieldLink RX1 43 "BoltRing$Joint" "loads" "[I", Cond.fieldLink RX1 76 "BoltRing$Joint" "bolts" "I", Cond.fieldLink RX1 61 "BoltRing$Lifts" "lower" "J", Cond.methodLink RX1 96 yX3_settle, Cond.methodLink RX1 80 yX2_isBroken, Cond.methodLink RX1 100 yX3_pullUpper, Cond.methodLink RX1 92 yX1_goRound, Cond.instanceMethod yX1_goRound, Cond.selects RX1 yX1_goRound yX1_goRound, Cond.code yX1_goRound cX1_goRound 8 (some .int), Cond.methodLink RX1 84 yX1_drawBolt, Cond.instanceMethod yX1_drawBolt, Cond.selects RX1 yX1_drawBolt yX1_drawBolt, Cond.code yX1_drawBolt cX1_drawBolt 10 (some .int), Cond.fieldLink RX1 54 "BoltRing$Joint" "stiffness" "[I", Cond.fieldLink RX1 57 "BoltRing$Lifts" "upper" "[J", Cond.methodLink RX1 69 Lib.MathLoose.max_long.x, Cond.constantLong RX1 74 (200)]
def wsL_law_r13 : List Cond := [Cond.methodLink RX1 39 yX2_wholeCount, Cond.methodLink RX1 46 yX2_sumOf, Cond.instanceMethod yX2_sumOf, Cond.selects RX2 yX2_sumOf yX2_sumOf, Cond.code yX2_sumOf cX2_sumOf 4 (some .int), Cond.methodLink RX1 50 yX3_settleHolding, Cond.static yX7_wholeFrom, Cond.code yX7_wholeFrom cX7_wholeFrom 4 (some .long), Cond.methodLink RX7 195 yX1_putTurnsBack, Cond.instanceMethod yX1_putTurnsBack, Cond.selects RX1 yX1_putTurnsBack yX1_putTurnsBack, Cond.code yX1_putTurnsBack cX1_putTurnsBack 2 none, Cond.methodLink RL 47 yX7_count, Cond.instanceMethod yX7_count, Cond.selects RX7 yX7_count yX7_count, Cond.code yX7_count cX7_count 2 (some .int), Cond.fieldLink RX7 142 "BoltRing$Joint" "bolts" "I", Cond.fieldLink RX7 145 "BoltRing$Joint" "brokenSet" "I", Cond.fieldLink RX7 160 "BoltRing$Joint" "turns" "[I", Cond.fieldLink RX7 167 "BoltRing$Orders" "length" "I", Cond.fieldLink RX7 170 "BoltRing" "clausesDone" "I", Cond.methodLink RX7 148 yJ6_bitCount_0f7a4, Cond.methodLink RX7 153 yX3_slackCount, Cond.instanceMethod yX3_slackCount]
def wsL_law_r14 : List Cond := [Cond.selects RX3 yX3_slackCount yX3_slackCount, Cond.code yX3_slackCount cX3_slackCount 4 (some .int), Cond.methodLink RX3 90 yX3_pullUpper, Cond.methodLink RX7 157 yX3_openCount, Cond.instanceMethod yX3_openCount, Cond.selects RX3 yX3_openCount yX3_openCount, Cond.code yX3_openCount cX3_openCount 4 (some .int), Cond.methodLink RX3 98 yX3_pressUpper, Cond.methodLink RX7 163 yX2_sumOf, Cond.methodLink RL 50 yX7_best, Cond.instanceMethod yX7_best, Cond.selects RX7 yX7_best yX7_best, Cond.code yX7_best cX7_best 3 (some .int), Cond.constant RX7 198 (-100005), Cond.fieldLink RX7 203 "BoltRing$Drawing" "bestPasses" "I", Cond.fieldLink RX7 206 "BoltRing$Drawing" "bestFigures" "I", Cond.fieldLink RX7 209 "BoltRing$Drawing" "bestDrawn" "I", Cond.methodLink RX7 199 yX1_findBestRow, Cond.instanceMethod yX1_findBestRow, Cond.selects RX1 yX1_findBestRow yX1_findBestRow, Cond.code yX1_findBestRow cX1_findBestRow 8 none, Cond.fieldLink RX1 108 "BoltRing$Drawing" "bestPasses" "I", Cond.fieldLink RX1 118 "BoltRing$Drawing" "bestDrawn" "I", Cond.fieldLink RX1 125 "BoltRing$Drawing" "bestFigures" "I"]
def wsL_law_r15 : List Cond := [Cond.methodLink RX1 104 yX1_keepTurns, Cond.methodLink RX1 111 yX1_goRounds, Cond.methodLink RX1 115 yX1_putTurnsBack, Cond.methodLink RX1 121 yX1_figuresOf, Cond.static yX1_figuresOf, Cond.code yX1_figuresOf cX1_figuresOf 4 (some .int), Cond.methodLink RX1 128 yX1_toNextOrder, Cond.static yX1_toNextOrder, Cond.code yX1_toNextOrder cX1_toNextOrder 6 (some .boolean), Cond.methodLink RX1 132 yX1_swap, Cond.static yX1_swap, Cond.code yX1_swap cX1_swap 4 none, Cond.methodLink RL 54 yX7_even, Cond.instanceMethod yX7_even, Cond.selects RX7 yX7_even yX7_even, Cond.code yX7_even cX7_even 5 (some .int), Cond.methodLink RX7 212 yX1_drawEvenFromNothing, Cond.instanceMethod yX1_drawEvenFromNothing, Cond.selects RX1 yX1_drawEvenFromNothing yX1_drawEvenFromNothing, Cond.code yX1_drawEvenFromNothing cX1_drawEvenFromNothing 5 (some .boolean)]
def wsL_law : List Cond := (wsL_law_r1 ++ (wsL_law_r2 ++ (wsL_law_r3 ++ (wsL_law_r4 ++ (wsL_law_r5 ++ (wsL_law_r6 ++ (wsL_law_r7 ++ (wsL_law_r8 ++ (wsL_law_r9 ++ (wsL_law_r10 ++ (wsL_law_r11 ++ (wsL_law_r12 ++ (wsL_law_r13 ++ (wsL_law_r14 ++ wsL_law_r15)))))))))))))) ++ wsX70 ++ wsX20 ++ wsX30 ++ wsX10 ++ wsX00 ++ wsX40 ++ wsX60 ++ wsX50 ++ ([] : List Cond)
abbrev vwCl : List vw_C := [(RX0, TX0, 4), (RX1, TX1, 7), (RX2, TX2, 8), (RX3, TX3, 6), (RX4, TX4, 2), (RX5, TX5, 12), (RX6, TX6, 3), (RX7, TX7, 8)]
end
section
theorem dX0_init_0 : decode cX0_init 0 = .ok (.aload_n 0, 1) := by decide +kernel
theorem dX0_init_1 : decode cX0_init 1 = .ok (.invokespecial 3, 3) := by decide +kernel
theorem dX0_init_4 : decode cX0_init 4 = .ok (.aload_n 0, 1) := by decide +kernel
theorem dX0_init_5 : decode cX0_init 5 = .ok (.bipush 6, 2) := by decide +kernel
theorem dX0_init_7 : decode cX0_init 7 = .ok (.bipush 6, 2) := by decide +kernel
theorem dX0_init_9 : decode cX0_init 9 = .ok (.multianewarray 11 2, 4) := by decide +kernel
theorem dX0_init_13 : decode cX0_init 13 = .ok (.putfield 13, 3) := by decide +kernel
theorem dX0_init_16 : decode cX0_init 16 = .ok (.aload_n 0, 1) := by decide +kernel
theorem dX0_init_17 : decode cX0_init 17 = .ok (.lconst 1, 1) := by decide +kernel
theorem dX0_init_18 : decode cX0_init 18 = .ok (.putfield 16, 3) := by decide +kernel
theorem dX0_init_21 : decode cX0_init 21 = .ok (.return_, 1) := by decide +kernel
set_option maxRecDepth 20000 in
theorem ggX1_init_X3_init : GoodIn wsX1_init wsX3_init := goodIn_r _ [13, 14, 2, 3, 15, 16, 17, 18, 19, 20, 21, 22, 23, 24, 25, 26, 27] (by decide +kernel) (by decide +kernel)
set_option maxRecDepth 20000 in
theorem gX1_init_X3_init_n11 : GoodIn wsX1_init (wsX3_init) := ggX1_init_X3_init
theorem dX1_init_0 : decode cX1_init 0 = .ok (.aload_n 0, 1) := by decide +kernel
theorem dX1_init_1 : decode cX1_init 1 = .ok (.invokespecial 3, 3) := by decide +kernel
theorem dX1_init_4 : decode cX1_init 4 = .ok (.aload_n 0, 1) := by decide +kernel
theorem dX1_init_5 : decode cX1_init 5 = .ok (.new 9, 3) := by decide +kernel
theorem dX1_init_8 : decode cX1_init 8 = .ok (.dup, 1) := by decide +kernel
theorem dX1_init_9 : decode cX1_init 9 = .ok (.invokespecial 11, 3) := by decide +kernel
theorem dX1_init_12 : decode cX1_init 12 = .ok (.putfield 12, 3) := by decide +kernel
theorem dX1_init_15 : decode cX1_init 15 = .ok (.aload_n 0, 1) := by decide +kernel
theorem dX1_init_16 : decode cX1_init 16 = .ok (.bipush 6, 2) := by decide +kernel
theorem dX1_init_18 : decode cX1_init 18 = .ok (.newarray .int, 2) := by decide +kernel
theorem dX1_init_20 : decode cX1_init 20 = .ok (.putfield 18, 3) := by decide +kernel
theorem dX1_init_23 : decode cX1_init 23 = .ok (.aload_n 0, 1) := by decide +kernel
theorem dX1_init_24 : decode cX1_init 24 = .ok (.bipush 6, 2) := by decide +kernel
theorem dX1_init_26 : decode cX1_init 26 = .ok (.newarray .int, 2) := by decide +kernel
theorem dX1_init_28 : decode cX1_init 28 = .ok (.putfield 22, 3) := by decide +kernel
theorem dX1_init_31 : decode cX1_init 31 = .ok (.aload_n 0, 1) := by decide +kernel
theorem dX1_init_32 : decode cX1_init 32 = .ok (.bipush 6, 2) := by decide +kernel
theorem dX1_init_34 : decode cX1_init 34 = .ok (.newarray .int, 2) := by decide +kernel
theorem dX1_init_36 : decode cX1_init 36 = .ok (.dup, 1) := by decide +kernel
theorem dX1_init_37 : decode cX1_init 37 = .ok (.iconst 0, 1) := by decide +kernel
theorem dX1_init_38 : decode cX1_init 38 = .ok (.iconst 0, 1) := by decide +kernel
theorem dX1_init_39 : decode cX1_init 39 = .ok (.iastore, 1) := by decide +kernel
theorem dX1_init_40 : decode cX1_init 40 = .ok (.dup, 1) := by decide +kernel
theorem dX1_init_41 : decode cX1_init 41 = .ok (.iconst 1, 1) := by decide +kernel
theorem dX1_init_42 : decode cX1_init 42 = .ok (.iconst 1, 1) := by decide +kernel
theorem dX1_init_43 : decode cX1_init 43 = .ok (.iastore, 1) := by decide +kernel
theorem dX1_init_44 : decode cX1_init 44 = .ok (.dup, 1) := by decide +kernel
theorem dX1_init_45 : decode cX1_init 45 = .ok (.iconst 2, 1) := by decide +kernel
theorem dX1_init_46 : decode cX1_init 46 = .ok (.iconst 2, 1) := by decide +kernel
theorem dX1_init_47 : decode cX1_init 47 = .ok (.iastore, 1) := by decide +kernel
theorem dX1_init_48 : decode cX1_init 48 = .ok (.dup, 1) := by decide +kernel
theorem dX1_init_49 : decode cX1_init 49 = .ok (.iconst 3, 1) := by decide +kernel
theorem dX1_init_50 : decode cX1_init 50 = .ok (.iconst 3, 1) := by decide +kernel
theorem dX1_init_51 : decode cX1_init 51 = .ok (.iastore, 1) := by decide +kernel
theorem dX1_init_52 : decode cX1_init 52 = .ok (.dup, 1) := by decide +kernel
theorem dX1_init_53 : decode cX1_init 53 = .ok (.iconst 4, 1) := by decide +kernel
theorem dX1_init_54 : decode cX1_init 54 = .ok (.iconst 4, 1) := by decide +kernel
theorem dX1_init_55 : decode cX1_init 55 = .ok (.iastore, 1) := by decide +kernel
theorem dX1_init_56 : decode cX1_init 56 = .ok (.dup, 1) := by decide +kernel
theorem dX1_init_57 : decode cX1_init 57 = .ok (.iconst 5, 1) := by decide +kernel
theorem dX1_init_58 : decode cX1_init 58 = .ok (.iconst 5, 1) := by decide +kernel
theorem dX1_init_59 : decode cX1_init 59 = .ok (.iastore, 1) := by decide +kernel
theorem dX1_init_60 : decode cX1_init 60 = .ok (.putfield 25, 3) := by decide +kernel
theorem dX1_init_63 : decode cX1_init 63 = .ok (.return_, 1) := by decide +kernel
theorem dX1_keepTurns_0 : decode cX1_keepTurns 0 = .ok (.aload_n 1, 1) := by decide +kernel
theorem dX1_keepTurns_1 : decode cX1_keepTurns 1 = .ok (.getfield 28, 3) := by decide +kernel
theorem dX1_keepTurns_4 : decode cX1_keepTurns 4 = .ok (.iconst 0, 1) := by decide +kernel
theorem dX1_keepTurns_5 : decode cX1_keepTurns 5 = .ok (.aload_n 0, 1) := by decide +kernel
theorem dX1_keepTurns_6 : decode cX1_keepTurns 6 = .ok (.getfield 18, 3) := by decide +kernel
theorem dX1_keepTurns_9 : decode cX1_keepTurns 9 = .ok (.iconst 0, 1) := by decide +kernel
theorem dX1_keepTurns_10 : decode cX1_keepTurns 10 = .ok (.bipush 6, 2) := by decide +kernel
theorem dX1_keepTurns_12 : decode cX1_keepTurns 12 = .ok (.invokestatic 33, 3) := by decide +kernel
theorem dX1_keepTurns_15 : decode cX1_keepTurns 15 = .ok (.return_, 1) := by decide +kernel
theorem dX1_putTurnsBack_0 : decode cX1_putTurnsBack 0 = .ok (.aload_n 0, 1) := by decide +kernel
theorem dX1_putTurnsBack_1 : decode cX1_putTurnsBack 1 = .ok (.getfield 18, 3) := by decide +kernel
theorem dX1_putTurnsBack_4 : decode cX1_putTurnsBack 4 = .ok (.iconst 0, 1) := by decide +kernel
theorem dX1_putTurnsBack_5 : decode cX1_putTurnsBack 5 = .ok (.aload_n 1, 1) := by decide +kernel
theorem dX1_putTurnsBack_6 : decode cX1_putTurnsBack 6 = .ok (.getfield 28, 3) := by decide +kernel
theorem dX1_putTurnsBack_9 : decode cX1_putTurnsBack 9 = .ok (.iconst 0, 1) := by decide +kernel
theorem dX1_putTurnsBack_10 : decode cX1_putTurnsBack 10 = .ok (.bipush 6, 2) := by decide +kernel
theorem dX1_putTurnsBack_12 : decode cX1_putTurnsBack 12 = .ok (.invokestatic 33, 3) := by decide +kernel
theorem dX1_putTurnsBack_15 : decode cX1_putTurnsBack 15 = .ok (.return_, 1) := by decide +kernel
set_option maxRecDepth 20000 in
theorem ggX1_drawBolt_X2_wholeCount : GoodIn wsX1_drawBolt wsX2_wholeCount := goodIn_r _ [16, 17, 18, 19, 20, 21, 22, 23, 24, 25, 75, 76, 77, 78, 79, 80, 81, 82] (by decide +kernel) (by decide +kernel)
set_option maxRecDepth 20000 in
theorem gX1_drawBolt_X2_wholeCount : GoodIn wsX1_drawBolt (wsV RX1 39 RX2 yX2_wholeCount wsX2_wholeCount) := goodIn_app (goodIn_of _ (by decide +kernel)) ggX1_drawBolt_X2_wholeCount
set_option maxRecDepth 20000 in
theorem ggX1_drawBolt_X2_sumOf : GoodIn wsX1_drawBolt wsX2_sumOf := goodIn_r _ [29, 17, 75, 76, 77, 78, 79, 80, 81, 82] (by decide +kernel) (by decide +kernel)
set_option maxRecDepth 20000 in
theorem gX1_drawBolt_X2_sumOf : GoodIn wsX1_drawBolt (wsV RX1 46 RX2 yX2_sumOf wsX2_sumOf) := goodIn_app (goodIn_of _ (by decide +kernel)) ggX1_drawBolt_X2_sumOf
set_option maxRecDepth 20000 in
theorem ggX1_drawBolt_X3_settleHolding : GoodIn wsX1_drawBolt wsX3_settleHolding := goodIn_r _ [34, 35, 36, 37, 38, 39, 40, 41, 15, 42, 17, 43, 44, 45, 33, 46, 47, 48, 49, 50, 51, 52, 53, 54, 55, 56, 57, 58, 59, 60, 61, 62, 63, 64, 65, 66, 67, 68, 69, 70, 71, 75, 76, 77, 78, 79, 80, 81, 82, 90, 91, 92, 93, 94, 95] (by decide +kernel) (by decide +kernel)
set_option maxRecDepth 20000 in
theorem gX1_drawBolt_X3_settleHolding : GoodIn wsX1_drawBolt (wsV RX1 50 RX3 yX3_settleHolding wsX3_settleHolding) := goodIn_app (goodIn_of _ (by decide +kernel)) ggX1_drawBolt_X3_settleHolding
set_option maxRecDepth 20000 in
theorem ggX1_drawBolt_X7_wholeFrom : GoodIn wsX1_drawBolt wsX7_wholeFrom := goodIn_r _ [74] (by decide +kernel) (by decide +kernel)
set_option maxRecDepth 20000 in
theorem gX1_drawBolt_X7_wholeFrom_n65 : GoodIn wsX1_drawBolt (wsX7_wholeFrom) := ggX1_drawBolt_X7_wholeFrom
theorem dX1_drawBolt_0 : decode cX1_drawBolt 0 = .ok (.aload_n 1, 1) := by decide +kernel
theorem dX1_drawBolt_1 : decode cX1_drawBolt 1 = .ok (.invokevirtual 39, 3) := by decide +kernel
theorem dX1_drawBolt_4 : decode cX1_drawBolt 4 = .ok (.iconst 1, 1) := by decide +kernel
theorem dX1_drawBolt_5 : decode cX1_drawBolt 5 = .ok (.if_icmp .ne 17, 3) := by decide +kernel
theorem dX1_drawBolt_8 : decode cX1_drawBolt 8 = .ok (.aload_n 1, 1) := by decide +kernel
theorem dX1_drawBolt_9 : decode cX1_drawBolt 9 = .ok (.aload_n 1, 1) := by decide +kernel
theorem dX1_drawBolt_10 : decode cX1_drawBolt 10 = .ok (.getfield 43, 3) := by decide +kernel
theorem dX1_drawBolt_13 : decode cX1_drawBolt 13 = .ok (.invokevirtual 46, 3) := by decide +kernel
theorem dX1_drawBolt_16 : decode cX1_drawBolt 16 = .ok (.iload_n 3, 1) := by decide +kernel
theorem dX1_drawBolt_17 : decode cX1_drawBolt 17 = .ok (.if_icmp .lt 5, 3) := by decide +kernel
theorem dX1_drawBolt_20 : decode cX1_drawBolt 20 = .ok (.iconst 0, 1) := by decide +kernel
theorem dX1_drawBolt_21 : decode cX1_drawBolt 21 = .ok (.ireturn, 1) := by decide +kernel
theorem dX1_drawBolt_22 : decode cX1_drawBolt 22 = .ok (.aload_n 0, 1) := by decide +kernel
theorem dX1_drawBolt_23 : decode cX1_drawBolt 23 = .ok (.getfield 12, 3) := by decide +kernel
theorem dX1_drawBolt_26 : decode cX1_drawBolt 26 = .ok (.aload_n 1, 1) := by decide +kernel
theorem dX1_drawBolt_27 : decode cX1_drawBolt 27 = .ok (.aload_n 1, 1) := by decide +kernel
theorem dX1_drawBolt_28 : decode cX1_drawBolt 28 = .ok (.getfield 43, 3) := by decide +kernel
theorem dX1_drawBolt_31 : decode cX1_drawBolt 31 = .ok (.iload_n 2, 1) := by decide +kernel
theorem dX1_drawBolt_32 : decode cX1_drawBolt 32 = .ok (.iload_n 3, 1) := by decide +kernel
theorem dX1_drawBolt_33 : decode cX1_drawBolt 33 = .ok (.invokevirtual 50, 3) := by decide +kernel
theorem dX1_drawBolt_36 : decode cX1_drawBolt 36 = .ok (.aload_n 1, 1) := by decide +kernel
theorem dX1_drawBolt_37 : decode cX1_drawBolt 37 = .ok (.getfield 54, 3) := by decide +kernel
theorem dX1_drawBolt_40 : decode cX1_drawBolt 40 = .ok (.iload_n 2, 1) := by decide +kernel
theorem dX1_drawBolt_41 : decode cX1_drawBolt 41 = .ok (.iaload, 1) := by decide +kernel
theorem dX1_drawBolt_42 : decode cX1_drawBolt 42 = .ok (.i2l, 1) := by decide +kernel
theorem dX1_drawBolt_43 : decode cX1_drawBolt 43 = .ok (.lstore 4, 2) := by decide +kernel
theorem dX1_drawBolt_45 : decode cX1_drawBolt 45 = .ok (.lload 4, 2) := by decide +kernel
theorem dX1_drawBolt_47 : decode cX1_drawBolt 47 = .ok (.aload_n 0, 1) := by decide +kernel
theorem dX1_drawBolt_48 : decode cX1_drawBolt 48 = .ok (.getfield 12, 3) := by decide +kernel
theorem dX1_drawBolt_51 : decode cX1_drawBolt 51 = .ok (.getfield 57, 3) := by decide +kernel
theorem dX1_drawBolt_54 : decode cX1_drawBolt 54 = .ok (.iload_n 2, 1) := by decide +kernel
theorem dX1_drawBolt_55 : decode cX1_drawBolt 55 = .ok (.laload, 1) := by decide +kernel
theorem dX1_drawBolt_56 : decode cX1_drawBolt 56 = .ok (.lmul, 1) := by decide +kernel
theorem dX1_drawBolt_57 : decode cX1_drawBolt 57 = .ok (.iload_n 3, 1) := by decide +kernel
theorem dX1_drawBolt_58 : decode cX1_drawBolt 58 = .ok (.i2l, 1) := by decide +kernel
theorem dX1_drawBolt_59 : decode cX1_drawBolt 59 = .ok (.aload_n 0, 1) := by decide +kernel
theorem dX1_drawBolt_60 : decode cX1_drawBolt 60 = .ok (.getfield 12, 3) := by decide +kernel
theorem dX1_drawBolt_63 : decode cX1_drawBolt 63 = .ok (.getfield 61, 3) := by decide +kernel
theorem dX1_drawBolt_66 : decode cX1_drawBolt 66 = .ok (.lmul, 1) := by decide +kernel
theorem dX1_drawBolt_67 : decode cX1_drawBolt 67 = .ok (.ladd, 1) := by decide +kernel
theorem dX1_drawBolt_68 : decode cX1_drawBolt 68 = .ok (.lstore 6, 2) := by decide +kernel
theorem dX1_drawBolt_70 : decode cX1_drawBolt 70 = .ok (.lconst 0, 1) := by decide +kernel
theorem dX1_drawBolt_71 : decode cX1_drawBolt 71 = .ok (.lload 6, 2) := by decide +kernel
theorem dX1_drawBolt_73 : decode cX1_drawBolt 73 = .ok (.lload 4, 2) := by decide +kernel
theorem dX1_drawBolt_75 : decode cX1_drawBolt 75 = .ok (.aload_n 0, 1) := by decide +kernel
theorem dX1_drawBolt_76 : decode cX1_drawBolt 76 = .ok (.getfield 12, 3) := by decide +kernel
theorem dX1_drawBolt_79 : decode cX1_drawBolt 79 = .ok (.getfield 61, 3) := by decide +kernel
theorem dX1_drawBolt_82 : decode cX1_drawBolt 82 = .ok (.lmul, 1) := by decide +kernel
theorem dX1_drawBolt_83 : decode cX1_drawBolt 83 = .ok (.invokestatic 65, 3) := by decide +kernel
theorem dX1_drawBolt_86 : decode cX1_drawBolt 86 = .ok (.aload_n 1, 1) := by decide +kernel
theorem dX1_drawBolt_87 : decode cX1_drawBolt 87 = .ok (.getfield 28, 3) := by decide +kernel
theorem dX1_drawBolt_90 : decode cX1_drawBolt 90 = .ok (.iload_n 2, 1) := by decide +kernel
theorem dX1_drawBolt_91 : decode cX1_drawBolt 91 = .ok (.iaload, 1) := by decide +kernel
theorem dX1_drawBolt_92 : decode cX1_drawBolt 92 = .ok (.i2l, 1) := by decide +kernel
theorem dX1_drawBolt_93 : decode cX1_drawBolt 93 = .ok (.lsub, 1) := by decide +kernel
theorem dX1_drawBolt_94 : decode cX1_drawBolt 94 = .ok (.invokestatic 69, 3) := by decide +kernel
theorem dX1_drawBolt_97 : decode cX1_drawBolt 97 = .ok (.lstore 8, 2) := by decide +kernel
theorem dX1_drawBolt_99 : decode cX1_drawBolt 99 = .ok (.aload_n 1, 1) := by decide +kernel
theorem dX1_drawBolt_100 : decode cX1_drawBolt 100 = .ok (.getfield 28, 3) := by decide +kernel
theorem dX1_drawBolt_103 : decode cX1_drawBolt 103 = .ok (.iload_n 2, 1) := by decide +kernel
theorem dX1_drawBolt_104 : decode cX1_drawBolt 104 = .ok (.iaload, 1) := by decide +kernel
theorem dX1_drawBolt_105 : decode cX1_drawBolt 105 = .ok (.i2l, 1) := by decide +kernel
theorem dX1_drawBolt_106 : decode cX1_drawBolt 106 = .ok (.lload 8, 2) := by decide +kernel
theorem dX1_drawBolt_108 : decode cX1_drawBolt 108 = .ok (.ladd, 1) := by decide +kernel
theorem dX1_drawBolt_109 : decode cX1_drawBolt 109 = .ok (.ldc2_w 74, 3) := by decide +kernel
theorem dX1_drawBolt_112 : decode cX1_drawBolt 112 = .ok (.lcmp, 1) := by decide +kernel
theorem dX1_drawBolt_113 : decode cX1_drawBolt 113 = .ok (.ifCond .le 5, 3) := by decide +kernel
theorem dX1_drawBolt_116 : decode cX1_drawBolt 116 = .ok (.iconst (-1), 1) := by decide +kernel
theorem dX1_drawBolt_117 : decode cX1_drawBolt 117 = .ok (.ireturn, 1) := by decide +kernel
theorem dX1_drawBolt_118 : decode cX1_drawBolt 118 = .ok (.aload_n 1, 1) := by decide +kernel
theorem dX1_drawBolt_119 : decode cX1_drawBolt 119 = .ok (.getfield 28, 3) := by decide +kernel
theorem dX1_drawBolt_122 : decode cX1_drawBolt 122 = .ok (.iload_n 2, 1) := by decide +kernel
theorem dX1_drawBolt_123 : decode cX1_drawBolt 123 = .ok (.dup2, 1) := by decide +kernel
theorem dX1_drawBolt_124 : decode cX1_drawBolt 124 = .ok (.iaload, 1) := by decide +kernel
theorem dX1_drawBolt_125 : decode cX1_drawBolt 125 = .ok (.lload 8, 2) := by decide +kernel
theorem dX1_drawBolt_127 : decode cX1_drawBolt 127 = .ok (.l2i, 1) := by decide +kernel
theorem dX1_drawBolt_128 : decode cX1_drawBolt 128 = .ok (.iadd, 1) := by decide +kernel
theorem dX1_drawBolt_129 : decode cX1_drawBolt 129 = .ok (.iastore, 1) := by decide +kernel
theorem dX1_drawBolt_130 : decode cX1_drawBolt 130 = .ok (.lload 8, 2) := by decide +kernel
theorem dX1_drawBolt_132 : decode cX1_drawBolt 132 = .ok (.l2i, 1) := by decide +kernel
theorem dX1_drawBolt_133 : decode cX1_drawBolt 133 = .ok (.ireturn, 1) := by decide +kernel
set_option maxRecDepth 20000 in
theorem ggX1_goRound_X2_isBroken : GoodIn wsX1_goRound wsX2_isBroken := goodIn_r _ [6, 7, 85, 86, 87, 88, 89, 90, 91, 92] (by decide +kernel) (by decide +kernel)
set_option maxRecDepth 20000 in
theorem gX1_goRound_X2_isBroken : GoodIn wsX1_goRound (wsV RX1 80 RX2 yX2_isBroken wsX2_isBroken) := goodIn_app (goodIn_of _ (by decide +kernel)) ggX1_goRound_X2_isBroken
set_option maxRecDepth 20000 in
theorem ggX1_goRound_X1_drawBolt : GoodIn wsX1_goRound wsX1_drawBolt := goodIn_r _ [12, 13, 14, 15, 16, 17, 18, 19, 20, 21, 22, 23, 24, 25, 26, 5, 27, 28, 7, 29, 30, 31, 32, 33, 34, 35, 36, 37, 38, 39, 40, 41, 42, 43, 44, 45, 46, 47, 48, 49, 50, 51, 52, 53, 54, 55, 56, 57, 58, 59, 60, 61, 62, 63, 64, 65, 66, 67, 68, 69, 70, 71, 72, 73, 74, 75, 76, 77, 78, 79, 80, 81, 82, 83, 84, 85, 86, 87, 88, 89, 90, 91, 92, 93, 94, 95, 96, 97, 98, 99, 100, 101, 102, 103, 104, 105] (by decide +kernel) (by decide +kernel)
set_option maxRecDepth 20000 in
theorem gX1_goRound_X1_drawBolt : GoodIn wsX1_goRound (wsV RX1 84 RX1 yX1_drawBolt wsX1_drawBolt) := goodIn_app (goodIn_of _ (by decide +kernel)) ggX1_goRound_X1_drawBolt
theorem dX1_goRound_0 : decode cX1_goRound 0 = .ok (.iconst 0, 1) := by decide +kernel
theorem dX1_goRound_1 : decode cX1_goRound 1 = .ok (.istore 4, 2) := by decide +kernel
theorem dX1_goRound_3 : decode cX1_goRound 3 = .ok (.iconst 0, 1) := by decide +kernel
theorem dX1_goRound_4 : decode cX1_goRound 4 = .ok (.istore 5, 2) := by decide +kernel
theorem dX1_goRound_6 : decode cX1_goRound 6 = .ok (.iload 5, 2) := by decide +kernel
theorem dX1_goRound_8 : decode cX1_goRound 8 = .ok (.aload_n 1, 1) := by decide +kernel
theorem dX1_goRound_9 : decode cX1_goRound 9 = .ok (.getfield 76, 3) := by decide +kernel
theorem dX1_goRound_12 : decode cX1_goRound 12 = .ok (.if_icmp .ge 52, 3) := by decide +kernel
theorem dX1_goRound_15 : decode cX1_goRound 15 = .ok (.aload_n 2, 1) := by decide +kernel
theorem dX1_goRound_16 : decode cX1_goRound 16 = .ok (.iload 5, 2) := by decide +kernel
theorem dX1_goRound_18 : decode cX1_goRound 18 = .ok (.iaload, 1) := by decide +kernel
theorem dX1_goRound_19 : decode cX1_goRound 19 = .ok (.istore 6, 2) := by decide +kernel
theorem dX1_goRound_21 : decode cX1_goRound 21 = .ok (.aload_n 1, 1) := by decide +kernel
theorem dX1_goRound_22 : decode cX1_goRound 22 = .ok (.iload 6, 2) := by decide +kernel
theorem dX1_goRound_24 : decode cX1_goRound 24 = .ok (.invokevirtual 80, 3) := by decide +kernel
theorem dX1_goRound_27 : decode cX1_goRound 27 = .ok (.ifCond .eq 6, 3) := by decide +kernel
theorem dX1_goRound_30 : decode cX1_goRound 30 = .ok (.goto 28, 3) := by decide +kernel
theorem dX1_goRound_33 : decode cX1_goRound 33 = .ok (.aload_n 0, 1) := by decide +kernel
theorem dX1_goRound_34 : decode cX1_goRound 34 = .ok (.aload_n 1, 1) := by decide +kernel
theorem dX1_goRound_35 : decode cX1_goRound 35 = .ok (.iload 6, 2) := by decide +kernel
theorem dX1_goRound_37 : decode cX1_goRound 37 = .ok (.iload_n 3, 1) := by decide +kernel
theorem dX1_goRound_38 : decode cX1_goRound 38 = .ok (.invokevirtual 84, 3) := by decide +kernel
theorem dX1_goRound_41 : decode cX1_goRound 41 = .ok (.istore 7, 2) := by decide +kernel
theorem dX1_goRound_43 : decode cX1_goRound 43 = .ok (.iload 7, 2) := by decide +kernel
theorem dX1_goRound_45 : decode cX1_goRound 45 = .ok (.iconst (-1), 1) := by decide +kernel
theorem dX1_goRound_46 : decode cX1_goRound 46 = .ok (.if_icmp .ne 5, 3) := by decide +kernel
theorem dX1_goRound_49 : decode cX1_goRound 49 = .ok (.iconst (-1), 1) := by decide +kernel
theorem dX1_goRound_50 : decode cX1_goRound 50 = .ok (.ireturn, 1) := by decide +kernel
theorem dX1_goRound_51 : decode cX1_goRound 51 = .ok (.iload 4, 2) := by decide +kernel
theorem dX1_goRound_53 : decode cX1_goRound 53 = .ok (.iload 7, 2) := by decide +kernel
theorem dX1_goRound_55 : decode cX1_goRound 55 = .ok (.iadd, 1) := by decide +kernel
theorem dX1_goRound_56 : decode cX1_goRound 56 = .ok (.istore 4, 2) := by decide +kernel
theorem dX1_goRound_58 : decode cX1_goRound 58 = .ok (.iinc 5 1, 3) := by decide +kernel
theorem dX1_goRound_61 : decode cX1_goRound 61 = .ok (.goto (-55), 3) := by decide +kernel
theorem dX1_goRound_64 : decode cX1_goRound 64 = .ok (.iload 4, 2) := by decide +kernel
theorem dX1_goRound_66 : decode cX1_goRound 66 = .ok (.ireturn, 1) := by decide +kernel
set_option maxRecDepth 20000 in
theorem ggX1_goRounds_X1_allHold : GoodIn wsX1_goRounds wsX1_allHold := goodIn_r _ [5, 6, 7, 8, 9, 10, 11, 12, 13, 14, 15, 16, 17, 18, 19, 20, 21, 22, 23, 24, 25, 26, 27, 28, 29, 30, 31, 32, 33, 34, 35, 36, 37, 38, 39, 40, 41, 42, 43, 44, 45, 46, 47, 48, 49, 50, 51, 52, 53, 54, 55, 56, 57, 58, 59, 60, 61, 62, 63, 64, 65, 66, 67, 68, 69, 70, 71, 104, 105, 106, 107, 108, 109, 110, 111, 112, 113, 114, 115, 116, 117, 118, 119, 120, 121, 122, 123, 124] (by decide +kernel) (by decide +kernel)
set_option maxRecDepth 20000 in
theorem gX1_goRounds_X1_allHold : GoodIn wsX1_goRounds (wsV RX1 88 RX1 yX1_allHold wsX1_allHold) := goodIn_app (goodIn_of _ (by decide +kernel)) ggX1_goRounds_X1_allHold
set_option maxRecDepth 20000 in
theorem ggX1_goRounds_X1_goRound : GoodIn wsX1_goRounds wsX1_goRound := goodIn_r _ [75, 8, 58, 59, 60, 26, 61, 62, 76, 77, 78, 4, 79, 7, 6, 80, 81, 9, 82, 83, 68, 69, 70, 84, 85, 86, 87, 88, 28, 89, 90, 91, 92, 93, 94, 95, 96, 97, 98, 99, 100, 16, 17, 13, 18, 19, 20, 21, 22, 23, 24, 25, 27, 29, 30, 31, 32, 33, 34, 35, 36, 37, 38, 39, 40, 41, 42, 43, 44, 45, 46, 47, 48, 49, 50, 51, 52, 53, 54, 55, 56, 57, 101, 102, 103, 111, 112, 113, 114, 115, 116, 117, 118, 104, 105, 106, 107, 108, 109, 110, 119, 120, 121, 122, 123, 124] (by decide +kernel) (by decide +kernel)
set_option maxRecDepth 20000 in
theorem gX1_goRounds_X1_goRound : GoodIn wsX1_goRounds (wsV RX1 92 RX1 yX1_goRound wsX1_goRound) := goodIn_app (goodIn_of _ (by decide +kernel)) ggX1_goRounds_X1_goRound
theorem dX1_goRounds_0 : decode cX1_goRounds 0 = .ok (.iconst 0, 1) := by decide +kernel
theorem dX1_goRounds_1 : decode cX1_goRounds 1 = .ok (.istore 5, 2) := by decide +kernel
theorem dX1_goRounds_3 : decode cX1_goRounds 3 = .ok (.iload 5, 2) := by decide +kernel
theorem dX1_goRounds_5 : decode cX1_goRounds 5 = .ok (.iload 4, 2) := by decide +kernel
theorem dX1_goRounds_7 : decode cX1_goRounds 7 = .ok (.if_icmp .ge 34, 3) := by decide +kernel
theorem dX1_goRounds_10 : decode cX1_goRounds 10 = .ok (.aload_n 0, 1) := by decide +kernel
theorem dX1_goRounds_11 : decode cX1_goRounds 11 = .ok (.aload_n 1, 1) := by decide +kernel
theorem dX1_goRounds_12 : decode cX1_goRounds 12 = .ok (.iload_n 3, 1) := by decide +kernel
theorem dX1_goRounds_13 : decode cX1_goRounds 13 = .ok (.invokevirtual 88, 3) := by decide +kernel
theorem dX1_goRounds_16 : decode cX1_goRounds 16 = .ok (.ifCond .eq 6, 3) := by decide +kernel
theorem dX1_goRounds_19 : decode cX1_goRounds 19 = .ok (.iload 5, 2) := by decide +kernel
theorem dX1_goRounds_21 : decode cX1_goRounds 21 = .ok (.ireturn, 1) := by decide +kernel
theorem dX1_goRounds_22 : decode cX1_goRounds 22 = .ok (.aload_n 0, 1) := by decide +kernel
theorem dX1_goRounds_23 : decode cX1_goRounds 23 = .ok (.aload_n 1, 1) := by decide +kernel
theorem dX1_goRounds_24 : decode cX1_goRounds 24 = .ok (.aload_n 2, 1) := by decide +kernel
theorem dX1_goRounds_25 : decode cX1_goRounds 25 = .ok (.iload_n 3, 1) := by decide +kernel
theorem dX1_goRounds_26 : decode cX1_goRounds 26 = .ok (.invokevirtual 92, 3) := by decide +kernel
theorem dX1_goRounds_29 : decode cX1_goRounds 29 = .ok (.iconst (-1), 1) := by decide +kernel
theorem dX1_goRounds_30 : decode cX1_goRounds 30 = .ok (.if_icmp .ne 5, 3) := by decide +kernel
theorem dX1_goRounds_33 : decode cX1_goRounds 33 = .ok (.iconst (-1), 1) := by decide +kernel
theorem dX1_goRounds_34 : decode cX1_goRounds 34 = .ok (.ireturn, 1) := by decide +kernel
theorem dX1_goRounds_35 : decode cX1_goRounds 35 = .ok (.iinc 5 1, 3) := by decide +kernel
theorem dX1_goRounds_38 : decode cX1_goRounds 38 = .ok (.goto (-35), 3) := by decide +kernel
theorem dX1_goRounds_41 : decode cX1_goRounds 41 = .ok (.aload_n 0, 1) := by decide +kernel
theorem dX1_goRounds_42 : decode cX1_goRounds 42 = .ok (.aload_n 1, 1) := by decide +kernel
theorem dX1_goRounds_43 : decode cX1_goRounds 43 = .ok (.iload_n 3, 1) := by decide +kernel
theorem dX1_goRounds_44 : decode cX1_goRounds 44 = .ok (.invokevirtual 88, 3) := by decide +kernel
theorem dX1_goRounds_47 : decode cX1_goRounds 47 = .ok (.ifCond .eq 8, 3) := by decide +kernel
theorem dX1_goRounds_50 : decode cX1_goRounds 50 = .ok (.iload 4, 2) := by decide +kernel
theorem dX1_goRounds_52 : decode cX1_goRounds 52 = .ok (.goto 4, 3) := by decide +kernel
theorem dX1_goRounds_55 : decode cX1_goRounds 55 = .ok (.iconst (-1), 1) := by decide +kernel
theorem dX1_goRounds_56 : decode cX1_goRounds 56 = .ok (.ireturn, 1) := by decide +kernel
set_option maxRecDepth 20000 in
theorem ggX1_allHold_X3_settle : GoodIn wsX1_allHold wsX3_settle := goodIn_r _ [9, 10, 11, 12, 8, 13, 14, 15, 16, 17, 18, 19, 20, 21, 22, 23, 24, 25, 26, 27, 28, 29, 30, 31, 32, 33, 34, 35, 36, 37, 38, 39, 40, 41, 42, 43, 44, 45, 46, 47, 48, 49, 50, 51, 52, 74, 75, 76, 77, 78, 79, 80, 81, 82, 83, 84, 85, 86, 87] (by decide +kernel) (by decide +kernel)
set_option maxRecDepth 20000 in
theorem gX1_allHold_X3_settle : GoodIn wsX1_allHold (wsV RX1 96 RX3 yX3_settle wsX3_settle) := goodIn_app (goodIn_of _ (by decide +kernel)) ggX1_allHold_X3_settle
set_option maxRecDepth 20000 in
theorem ggX1_allHold_X2_isBroken : GoodIn wsX1_allHold wsX2_isBroken := goodIn_r _ [56, 57, 74, 75, 76, 77, 78, 79, 80, 81] (by decide +kernel) (by decide +kernel)
set_option maxRecDepth 20000 in
theorem gX1_allHold_X2_isBroken : GoodIn wsX1_allHold (wsV RX1 80 RX2 yX2_isBroken wsX2_isBroken) := goodIn_app (goodIn_of _ (by decide +kernel)) ggX1_allHold_X2_isBroken
set_option maxRecDepth 20000 in
theorem ggX1_allHold_X3_pullUpper : GoodIn wsX1_allHold wsX3_pullUpper := goodIn_r _ [61, 29, 43, 30, 44, 62, 63, 64, 65, 66, 54, 55, 21, 56, 57, 74, 75, 76, 77, 78, 79, 80, 81, 82, 83, 84, 85, 86, 87] (by decide +kernel) (by decide +kernel)
set_option maxRecDepth 20000 in
theorem gX1_allHold_X3_pullUpper : GoodIn wsX1_allHold (wsV RX1 100 RX3 yX3_pullUpper wsX3_pullUpper) := goodIn_app (goodIn_of _ (by decide +kernel)) ggX1_allHold_X3_pullUpper
theorem dX1_allHold_0 : decode cX1_allHold 0 = .ok (.aload_n 0, 1) := by decide +kernel
theorem dX1_allHold_1 : decode cX1_allHold 1 = .ok (.getfield 12, 3) := by decide +kernel
theorem dX1_allHold_4 : decode cX1_allHold 4 = .ok (.aload_n 1, 1) := by decide +kernel
theorem dX1_allHold_5 : decode cX1_allHold 5 = .ok (.aload_n 1, 1) := by decide +kernel
theorem dX1_allHold_6 : decode cX1_allHold 6 = .ok (.getfield 43, 3) := by decide +kernel
theorem dX1_allHold_9 : decode cX1_allHold 9 = .ok (.invokevirtual 96, 3) := by decide +kernel
theorem dX1_allHold_12 : decode cX1_allHold 12 = .ok (.iconst 0, 1) := by decide +kernel
theorem dX1_allHold_13 : decode cX1_allHold 13 = .ok (.istore_n 3, 1) := by decide +kernel
theorem dX1_allHold_14 : decode cX1_allHold 14 = .ok (.iload_n 3, 1) := by decide +kernel
theorem dX1_allHold_15 : decode cX1_allHold 15 = .ok (.aload_n 1, 1) := by decide +kernel
theorem dX1_allHold_16 : decode cX1_allHold 16 = .ok (.getfield 76, 3) := by decide +kernel
theorem dX1_allHold_19 : decode cX1_allHold 19 = .ok (.if_icmp .ge 42, 3) := by decide +kernel
theorem dX1_allHold_22 : decode cX1_allHold 22 = .ok (.aload_n 1, 1) := by decide +kernel
theorem dX1_allHold_23 : decode cX1_allHold 23 = .ok (.iload_n 3, 1) := by decide +kernel
theorem dX1_allHold_24 : decode cX1_allHold 24 = .ok (.invokevirtual 80, 3) := by decide +kernel
theorem dX1_allHold_27 : decode cX1_allHold 27 = .ok (.ifCond .ne 28, 3) := by decide +kernel
theorem dX1_allHold_30 : decode cX1_allHold 30 = .ok (.aload_n 0, 1) := by decide +kernel
theorem dX1_allHold_31 : decode cX1_allHold 31 = .ok (.getfield 12, 3) := by decide +kernel
theorem dX1_allHold_34 : decode cX1_allHold 34 = .ok (.aload_n 1, 1) := by decide +kernel
theorem dX1_allHold_35 : decode cX1_allHold 35 = .ok (.iload_n 3, 1) := by decide +kernel
theorem dX1_allHold_36 : decode cX1_allHold 36 = .ok (.invokevirtual 100, 3) := by decide +kernel
theorem dX1_allHold_39 : decode cX1_allHold 39 = .ok (.aload_n 0, 1) := by decide +kernel
theorem dX1_allHold_40 : decode cX1_allHold 40 = .ok (.getfield 12, 3) := by decide +kernel
theorem dX1_allHold_43 : decode cX1_allHold 43 = .ok (.getfield 61, 3) := by decide +kernel
theorem dX1_allHold_46 : decode cX1_allHold 46 = .ok (.iload_n 2, 1) := by decide +kernel
theorem dX1_allHold_47 : decode cX1_allHold 47 = .ok (.i2l, 1) := by decide +kernel
theorem dX1_allHold_48 : decode cX1_allHold 48 = .ok (.lmul, 1) := by decide +kernel
theorem dX1_allHold_49 : decode cX1_allHold 49 = .ok (.lcmp, 1) := by decide +kernel
theorem dX1_allHold_50 : decode cX1_allHold 50 = .ok (.ifCond .ge 5, 3) := by decide +kernel
theorem dX1_allHold_53 : decode cX1_allHold 53 = .ok (.iconst 0, 1) := by decide +kernel
theorem dX1_allHold_54 : decode cX1_allHold 54 = .ok (.ireturn, 1) := by decide +kernel
theorem dX1_allHold_55 : decode cX1_allHold 55 = .ok (.iinc 3 1, 3) := by decide +kernel
theorem dX1_allHold_58 : decode cX1_allHold 58 = .ok (.goto (-44), 3) := by decide +kernel
theorem dX1_allHold_61 : decode cX1_allHold 61 = .ok (.iconst 1, 1) := by decide +kernel
theorem dX1_allHold_62 : decode cX1_allHold 62 = .ok (.ireturn, 1) := by decide +kernel
set_option maxRecDepth 20000 in
theorem ggX1_findBestRow_X1_keepTurns : GoodIn wsX1_findBestRow wsX1_keepTurns := goodIn_r _ [16, 1, 17, 4, 5, 6, 7, 135, 136, 137, 138, 139, 140, 141, 142, 143, 144, 145, 146, 147, 148, 149] (by decide +kernel) (by decide +kernel)
set_option maxRecDepth 20000 in
theorem gX1_findBestRow_X1_keepTurns : GoodIn wsX1_findBestRow (wsV RX1 104 RX1 yX1_keepTurns wsX1_keepTurns) := goodIn_app (goodIn_of _ (by decide +kernel)) ggX1_findBestRow_X1_keepTurns
set_option maxRecDepth 20000 in
theorem ggX1_findBestRow_X2_sumOf : GoodIn wsX1_findBestRow wsX2_sumOf := goodIn_r _ [22, 23, 135, 136, 137, 138, 139, 140, 141, 142] (by decide +kernel) (by decide +kernel)
set_option maxRecDepth 20000 in
theorem gX1_findBestRow_X2_sumOf : GoodIn wsX1_findBestRow (wsV RX1 46 RX2 yX2_sumOf wsX2_sumOf) := goodIn_app (goodIn_of _ (by decide +kernel)) ggX1_findBestRow_X2_sumOf
set_option maxRecDepth 20000 in
theorem ggX1_findBestRow_X1_goRounds : GoodIn wsX1_findBestRow wsX1_goRounds := goodIn_r _ [27, 28, 29, 30, 15, 31, 32, 33, 10, 34, 35, 36, 37, 38, 39, 40, 41, 42, 43, 44, 45, 46, 47, 48, 49, 50, 21, 51, 23, 52, 53, 54, 55, 56, 57, 58, 59, 60, 61, 62, 63, 64, 65, 66, 67, 68, 69, 70, 71, 72, 73, 74, 75, 76, 77, 78, 79, 80, 81, 82, 83, 84, 85, 86, 87, 88, 89, 90, 91, 92, 93, 94, 95, 96, 97, 98, 99, 100, 101, 102, 103, 104, 1, 105, 106, 107, 108, 109, 110, 111, 112, 113, 114, 115, 116, 117, 18, 19, 20, 22, 118, 119, 120, 121, 143, 144, 145, 146, 147, 148, 149, 135, 136, 137, 138, 139, 140, 141, 142, 150, 151, 152, 153, 154, 155] (by decide +kernel) (by decide +kernel)
set_option maxRecDepth 20000 in
theorem gX1_findBestRow_X1_goRounds : GoodIn wsX1_findBestRow (wsV RX1 111 RX1 yX1_goRounds wsX1_goRounds) := goodIn_app (goodIn_of _ (by decide +kernel)) ggX1_findBestRow_X1_goRounds
set_option maxRecDepth 20000 in
theorem ggX1_findBestRow_X1_putTurnsBack : GoodIn wsX1_findBestRow wsX1_putTurnsBack := goodIn_r _ [125, 17, 1, 4, 5, 6, 7, 143, 144, 145, 146, 147, 148, 149, 135, 136, 137, 138, 139, 140, 141, 142] (by decide +kernel) (by decide +kernel)
set_option maxRecDepth 20000 in
theorem gX1_findBestRow_X1_putTurnsBack : GoodIn wsX1_findBestRow (wsV RX1 115 RX1 yX1_putTurnsBack wsX1_putTurnsBack) := goodIn_app (goodIn_of _ (by decide +kernel)) ggX1_findBestRow_X1_putTurnsBack
set_option maxRecDepth 20000 in
theorem ggX1_findBestRow_X1_figuresOf : GoodIn wsX1_findBestRow wsX1_figuresOf := goodIn_r _ [128] (by decide +kernel) (by decide +kernel)
set_option maxRecDepth 20000 in
theorem gX1_findBestRow_X1_figuresOf : GoodIn wsX1_findBestRow (va_wsS RX1 121 yX1_figuresOf wsX1_figuresOf) := goodIn_app (goodIn_of _ (by decide +kernel)) ggX1_findBestRow_X1_figuresOf
set_option maxRecDepth 20000 in
theorem ggX1_findBestRow_X1_toNextOrder : GoodIn wsX1_findBestRow wsX1_toNextOrder := goodIn_r _ [131, 132, 133, 15, 134] (by decide +kernel) (by decide +kernel)
set_option maxRecDepth 20000 in
theorem gX1_findBestRow_X1_toNextOrder : GoodIn wsX1_findBestRow (va_wsS RX1 128 yX1_toNextOrder wsX1_toNextOrder) := goodIn_app (goodIn_of _ (by decide +kernel)) ggX1_findBestRow_X1_toNextOrder
theorem dX1_findBestRow_0 : decode cX1_findBestRow 0 = .ok (.aload_n 0, 1) := by decide +kernel
theorem dX1_findBestRow_1 : decode cX1_findBestRow 1 = .ok (.aload_n 1, 1) := by decide +kernel
theorem dX1_findBestRow_2 : decode cX1_findBestRow 2 = .ok (.invokevirtual 104, 3) := by decide +kernel
theorem dX1_findBestRow_5 : decode cX1_findBestRow 5 = .ok (.aload_n 1, 1) := by decide +kernel
theorem dX1_findBestRow_6 : decode cX1_findBestRow 6 = .ok (.aload_n 1, 1) := by decide +kernel
theorem dX1_findBestRow_7 : decode cX1_findBestRow 7 = .ok (.getfield 28, 3) := by decide +kernel
theorem dX1_findBestRow_10 : decode cX1_findBestRow 10 = .ok (.invokevirtual 46, 3) := by decide +kernel
theorem dX1_findBestRow_13 : decode cX1_findBestRow 13 = .ok (.istore_n 3, 1) := by decide +kernel
theorem dX1_findBestRow_14 : decode cX1_findBestRow 14 = .ok (.aload_n 0, 1) := by decide +kernel
theorem dX1_findBestRow_15 : decode cX1_findBestRow 15 = .ok (.getfield 25, 3) := by decide +kernel
theorem dX1_findBestRow_18 : decode cX1_findBestRow 18 = .ok (.iconst 0, 1) := by decide +kernel
theorem dX1_findBestRow_19 : decode cX1_findBestRow 19 = .ok (.aload_n 0, 1) := by decide +kernel
theorem dX1_findBestRow_20 : decode cX1_findBestRow 20 = .ok (.getfield 22, 3) := by decide +kernel
theorem dX1_findBestRow_23 : decode cX1_findBestRow 23 = .ok (.iconst 0, 1) := by decide +kernel
theorem dX1_findBestRow_24 : decode cX1_findBestRow 24 = .ok (.bipush 6, 2) := by decide +kernel
theorem dX1_findBestRow_26 : decode cX1_findBestRow 26 = .ok (.invokestatic 33, 3) := by decide +kernel
theorem dX1_findBestRow_29 : decode cX1_findBestRow 29 = .ok (.aload_n 0, 1) := by decide +kernel
theorem dX1_findBestRow_30 : decode cX1_findBestRow 30 = .ok (.iconst (-1), 1) := by decide +kernel
theorem dX1_findBestRow_31 : decode cX1_findBestRow 31 = .ok (.putfield 108, 3) := by decide +kernel
theorem dX1_findBestRow_34 : decode cX1_findBestRow 34 = .ok (.iconst 1, 1) := by decide +kernel
theorem dX1_findBestRow_35 : decode cX1_findBestRow 35 = .ok (.istore 4, 2) := by decide +kernel
theorem dX1_findBestRow_37 : decode cX1_findBestRow 37 = .ok (.iconst 0, 1) := by decide +kernel
theorem dX1_findBestRow_38 : decode cX1_findBestRow 38 = .ok (.istore 5, 2) := by decide +kernel
theorem dX1_findBestRow_40 : decode cX1_findBestRow 40 = .ok (.iload 5, 2) := by decide +kernel
theorem dX1_findBestRow_42 : decode cX1_findBestRow 42 = .ok (.sipush 720, 3) := by decide +kernel
theorem dX1_findBestRow_45 : decode cX1_findBestRow 45 = .ok (.if_icmp .ge 141, 3) := by decide +kernel
theorem dX1_findBestRow_48 : decode cX1_findBestRow 48 = .ok (.iload 4, 2) := by decide +kernel
theorem dX1_findBestRow_50 : decode cX1_findBestRow 50 = .ok (.ifCond .eq 136, 3) := by decide +kernel
theorem dX1_findBestRow_53 : decode cX1_findBestRow 53 = .ok (.aload_n 0, 1) := by decide +kernel
theorem dX1_findBestRow_54 : decode cX1_findBestRow 54 = .ok (.aload_n 1, 1) := by decide +kernel
theorem dX1_findBestRow_55 : decode cX1_findBestRow 55 = .ok (.aload_n 0, 1) := by decide +kernel
theorem dX1_findBestRow_56 : decode cX1_findBestRow 56 = .ok (.getfield 22, 3) := by decide +kernel
theorem dX1_findBestRow_59 : decode cX1_findBestRow 59 = .ok (.iload_n 2, 1) := by decide +kernel
theorem dX1_findBestRow_60 : decode cX1_findBestRow 60 = .ok (.aload_n 0, 1) := by decide +kernel
theorem dX1_findBestRow_61 : decode cX1_findBestRow 61 = .ok (.getfield 108, 3) := by decide +kernel
theorem dX1_findBestRow_64 : decode cX1_findBestRow 64 = .ok (.iconst (-1), 1) := by decide +kernel
theorem dX1_findBestRow_65 : decode cX1_findBestRow 65 = .ok (.if_icmp .ne 8, 3) := by decide +kernel
theorem dX1_findBestRow_68 : decode cX1_findBestRow 68 = .ok (.bipush 20, 2) := by decide +kernel
theorem dX1_findBestRow_70 : decode cX1_findBestRow 70 = .ok (.goto 7, 3) := by decide +kernel
theorem dX1_findBestRow_73 : decode cX1_findBestRow 73 = .ok (.aload_n 0, 1) := by decide +kernel
theorem dX1_findBestRow_74 : decode cX1_findBestRow 74 = .ok (.getfield 108, 3) := by decide +kernel
theorem dX1_findBestRow_77 : decode cX1_findBestRow 77 = .ok (.invokevirtual 111, 3) := by decide +kernel
theorem dX1_findBestRow_80 : decode cX1_findBestRow 80 = .ok (.istore 6, 2) := by decide +kernel
theorem dX1_findBestRow_82 : decode cX1_findBestRow 82 = .ok (.aload_n 1, 1) := by decide +kernel
theorem dX1_findBestRow_83 : decode cX1_findBestRow 83 = .ok (.aload_n 1, 1) := by decide +kernel
theorem dX1_findBestRow_84 : decode cX1_findBestRow 84 = .ok (.getfield 28, 3) := by decide +kernel
theorem dX1_findBestRow_87 : decode cX1_findBestRow 87 = .ok (.invokevirtual 46, 3) := by decide +kernel
theorem dX1_findBestRow_90 : decode cX1_findBestRow 90 = .ok (.iload_n 3, 1) := by decide +kernel
theorem dX1_findBestRow_91 : decode cX1_findBestRow 91 = .ok (.isub, 1) := by decide +kernel
theorem dX1_findBestRow_92 : decode cX1_findBestRow 92 = .ok (.istore 7, 2) := by decide +kernel
theorem dX1_findBestRow_94 : decode cX1_findBestRow 94 = .ok (.aload_n 0, 1) := by decide +kernel
theorem dX1_findBestRow_95 : decode cX1_findBestRow 95 = .ok (.aload_n 1, 1) := by decide +kernel
theorem dX1_findBestRow_96 : decode cX1_findBestRow 96 = .ok (.invokevirtual 115, 3) := by decide +kernel
theorem dX1_findBestRow_99 : decode cX1_findBestRow 99 = .ok (.iload 6, 2) := by decide +kernel
theorem dX1_findBestRow_101 : decode cX1_findBestRow 101 = .ok (.iconst (-1), 1) := by decide +kernel
theorem dX1_findBestRow_102 : decode cX1_findBestRow 102 = .ok (.if_icmp .eq 65, 3) := by decide +kernel
theorem dX1_findBestRow_105 : decode cX1_findBestRow 105 = .ok (.aload_n 0, 1) := by decide +kernel
theorem dX1_findBestRow_106 : decode cX1_findBestRow 106 = .ok (.getfield 108, 3) := by decide +kernel
theorem dX1_findBestRow_109 : decode cX1_findBestRow 109 = .ok (.iconst (-1), 1) := by decide +kernel
theorem dX1_findBestRow_110 : decode cX1_findBestRow 110 = .ok (.if_icmp .eq 30, 3) := by decide +kernel
theorem dX1_findBestRow_113 : decode cX1_findBestRow 113 = .ok (.iload 6, 2) := by decide +kernel
theorem dX1_findBestRow_115 : decode cX1_findBestRow 115 = .ok (.aload_n 0, 1) := by decide +kernel
theorem dX1_findBestRow_116 : decode cX1_findBestRow 116 = .ok (.getfield 108, 3) := by decide +kernel
theorem dX1_findBestRow_119 : decode cX1_findBestRow 119 = .ok (.if_icmp .lt 21, 3) := by decide +kernel
theorem dX1_findBestRow_122 : decode cX1_findBestRow 122 = .ok (.iload 6, 2) := by decide +kernel
theorem dX1_findBestRow_124 : decode cX1_findBestRow 124 = .ok (.aload_n 0, 1) := by decide +kernel
theorem dX1_findBestRow_125 : decode cX1_findBestRow 125 = .ok (.getfield 108, 3) := by decide +kernel
theorem dX1_findBestRow_128 : decode cX1_findBestRow 128 = .ok (.if_icmp .ne 39, 3) := by decide +kernel
theorem dX1_findBestRow_131 : decode cX1_findBestRow 131 = .ok (.iload 7, 2) := by decide +kernel
theorem dX1_findBestRow_133 : decode cX1_findBestRow 133 = .ok (.aload_n 0, 1) := by decide +kernel
theorem dX1_findBestRow_134 : decode cX1_findBestRow 134 = .ok (.getfield 118, 3) := by decide +kernel
theorem dX1_findBestRow_137 : decode cX1_findBestRow 137 = .ok (.if_icmp .ge 30, 3) := by decide +kernel
theorem dX1_findBestRow_140 : decode cX1_findBestRow 140 = .ok (.aload_n 0, 1) := by decide +kernel
theorem dX1_findBestRow_141 : decode cX1_findBestRow 141 = .ok (.iload 6, 2) := by decide +kernel
theorem dX1_findBestRow_143 : decode cX1_findBestRow 143 = .ok (.putfield 108, 3) := by decide +kernel
theorem dX1_findBestRow_146 : decode cX1_findBestRow 146 = .ok (.aload_n 0, 1) := by decide +kernel
theorem dX1_findBestRow_147 : decode cX1_findBestRow 147 = .ok (.iload 7, 2) := by decide +kernel
theorem dX1_findBestRow_149 : decode cX1_findBestRow 149 = .ok (.putfield 118, 3) := by decide +kernel
theorem dX1_findBestRow_152 : decode cX1_findBestRow 152 = .ok (.aload_n 0, 1) := by decide +kernel
theorem dX1_findBestRow_153 : decode cX1_findBestRow 153 = .ok (.aload_n 0, 1) := by decide +kernel
theorem dX1_findBestRow_154 : decode cX1_findBestRow 154 = .ok (.getfield 22, 3) := by decide +kernel
theorem dX1_findBestRow_157 : decode cX1_findBestRow 157 = .ok (.aload_n 1, 1) := by decide +kernel
theorem dX1_findBestRow_158 : decode cX1_findBestRow 158 = .ok (.getfield 76, 3) := by decide +kernel
theorem dX1_findBestRow_161 : decode cX1_findBestRow 161 = .ok (.invokestatic 121, 3) := by decide +kernel
theorem dX1_findBestRow_164 : decode cX1_findBestRow 164 = .ok (.putfield 125, 3) := by decide +kernel
theorem dX1_findBestRow_167 : decode cX1_findBestRow 167 = .ok (.aload_n 0, 1) := by decide +kernel
theorem dX1_findBestRow_168 : decode cX1_findBestRow 168 = .ok (.getfield 22, 3) := by decide +kernel
theorem dX1_findBestRow_171 : decode cX1_findBestRow 171 = .ok (.aload_n 1, 1) := by decide +kernel
theorem dX1_findBestRow_172 : decode cX1_findBestRow 172 = .ok (.getfield 76, 3) := by decide +kernel
theorem dX1_findBestRow_175 : decode cX1_findBestRow 175 = .ok (.invokestatic 128, 3) := by decide +kernel
theorem dX1_findBestRow_178 : decode cX1_findBestRow 178 = .ok (.istore 4, 2) := by decide +kernel
theorem dX1_findBestRow_180 : decode cX1_findBestRow 180 = .ok (.iinc 5 1, 3) := by decide +kernel
theorem dX1_findBestRow_183 : decode cX1_findBestRow 183 = .ok (.goto (-143), 3) := by decide +kernel
theorem dX1_findBestRow_186 : decode cX1_findBestRow 186 = .ok (.return_, 1) := by decide +kernel
theorem dX1_figuresOf_0 : decode cX1_figuresOf 0 = .ok (.iconst 0, 1) := by decide +kernel
theorem dX1_figuresOf_1 : decode cX1_figuresOf 1 = .ok (.istore_n 2, 1) := by decide +kernel
theorem dX1_figuresOf_2 : decode cX1_figuresOf 2 = .ok (.iconst 0, 1) := by decide +kernel
theorem dX1_figuresOf_3 : decode cX1_figuresOf 3 = .ok (.istore_n 3, 1) := by decide +kernel
theorem dX1_figuresOf_4 : decode cX1_figuresOf 4 = .ok (.iload_n 3, 1) := by decide +kernel
theorem dX1_figuresOf_5 : decode cX1_figuresOf 5 = .ok (.iload_n 1, 1) := by decide +kernel
theorem dX1_figuresOf_6 : decode cX1_figuresOf 6 = .ok (.if_icmp .ge 18, 3) := by decide +kernel
theorem dX1_figuresOf_9 : decode cX1_figuresOf 9 = .ok (.bipush 10, 2) := by decide +kernel
theorem dX1_figuresOf_11 : decode cX1_figuresOf 11 = .ok (.iload_n 2, 1) := by decide +kernel
theorem dX1_figuresOf_12 : decode cX1_figuresOf 12 = .ok (.imul, 1) := by decide +kernel
theorem dX1_figuresOf_13 : decode cX1_figuresOf 13 = .ok (.aload_n 0, 1) := by decide +kernel
theorem dX1_figuresOf_14 : decode cX1_figuresOf 14 = .ok (.iload_n 3, 1) := by decide +kernel
theorem dX1_figuresOf_15 : decode cX1_figuresOf 15 = .ok (.iaload, 1) := by decide +kernel
theorem dX1_figuresOf_16 : decode cX1_figuresOf 16 = .ok (.iadd, 1) := by decide +kernel
theorem dX1_figuresOf_17 : decode cX1_figuresOf 17 = .ok (.istore_n 2, 1) := by decide +kernel
theorem dX1_figuresOf_18 : decode cX1_figuresOf 18 = .ok (.iinc 3 1, 3) := by decide +kernel
theorem dX1_figuresOf_21 : decode cX1_figuresOf 21 = .ok (.goto (-17), 3) := by decide +kernel
theorem dX1_figuresOf_24 : decode cX1_figuresOf 24 = .ok (.iload_n 2, 1) := by decide +kernel
theorem dX1_figuresOf_25 : decode cX1_figuresOf 25 = .ok (.ireturn, 1) := by decide +kernel
set_option maxRecDepth 20000 in
theorem ggX1_toNextOrder_X1_swap : GoodIn wsX1_toNextOrder wsX1_swap := goodIn_r _ [4] (by decide +kernel) (by decide +kernel)
set_option maxRecDepth 20000 in
theorem gX1_toNextOrder_X1_swap : GoodIn wsX1_toNextOrder (va_wsS RX1 132 yX1_swap wsX1_swap) := goodIn_app (goodIn_of _ (by decide +kernel)) ggX1_toNextOrder_X1_swap
theorem dX1_toNextOrder_0 : decode cX1_toNextOrder 0 = .ok (.iload_n 1, 1) := by decide +kernel
theorem dX1_toNextOrder_1 : decode cX1_toNextOrder 1 = .ok (.iconst 2, 1) := by decide +kernel
theorem dX1_toNextOrder_2 : decode cX1_toNextOrder 2 = .ok (.isub, 1) := by decide +kernel
theorem dX1_toNextOrder_3 : decode cX1_toNextOrder 3 = .ok (.istore_n 2, 1) := by decide +kernel
theorem dX1_toNextOrder_4 : decode cX1_toNextOrder 4 = .ok (.iload_n 2, 1) := by decide +kernel
theorem dX1_toNextOrder_5 : decode cX1_toNextOrder 5 = .ok (.ifCond .lt 20, 3) := by decide +kernel
theorem dX1_toNextOrder_8 : decode cX1_toNextOrder 8 = .ok (.aload_n 0, 1) := by decide +kernel
theorem dX1_toNextOrder_9 : decode cX1_toNextOrder 9 = .ok (.iload_n 2, 1) := by decide +kernel
theorem dX1_toNextOrder_10 : decode cX1_toNextOrder 10 = .ok (.iaload, 1) := by decide +kernel
theorem dX1_toNextOrder_11 : decode cX1_toNextOrder 11 = .ok (.aload_n 0, 1) := by decide +kernel
theorem dX1_toNextOrder_12 : decode cX1_toNextOrder 12 = .ok (.iload_n 2, 1) := by decide +kernel
theorem dX1_toNextOrder_13 : decode cX1_toNextOrder 13 = .ok (.iconst 1, 1) := by decide +kernel
theorem dX1_toNextOrder_14 : decode cX1_toNextOrder 14 = .ok (.iadd, 1) := by decide +kernel
theorem dX1_toNextOrder_15 : decode cX1_toNextOrder 15 = .ok (.iaload, 1) := by decide +kernel
theorem dX1_toNextOrder_16 : decode cX1_toNextOrder 16 = .ok (.if_icmp .le 9, 3) := by decide +kernel
theorem dX1_toNextOrder_19 : decode cX1_toNextOrder 19 = .ok (.iinc 2 (-1), 3) := by decide +kernel
theorem dX1_toNextOrder_22 : decode cX1_toNextOrder 22 = .ok (.goto (-18), 3) := by decide +kernel
theorem dX1_toNextOrder_25 : decode cX1_toNextOrder 25 = .ok (.iload_n 2, 1) := by decide +kernel
theorem dX1_toNextOrder_26 : decode cX1_toNextOrder 26 = .ok (.ifCond .ge 5, 3) := by decide +kernel
theorem dX1_toNextOrder_29 : decode cX1_toNextOrder 29 = .ok (.iconst 0, 1) := by decide +kernel
theorem dX1_toNextOrder_30 : decode cX1_toNextOrder 30 = .ok (.ireturn, 1) := by decide +kernel
theorem dX1_toNextOrder_31 : decode cX1_toNextOrder 31 = .ok (.iload_n 1, 1) := by decide +kernel
theorem dX1_toNextOrder_32 : decode cX1_toNextOrder 32 = .ok (.iconst 1, 1) := by decide +kernel
theorem dX1_toNextOrder_33 : decode cX1_toNextOrder 33 = .ok (.isub, 1) := by decide +kernel
theorem dX1_toNextOrder_34 : decode cX1_toNextOrder 34 = .ok (.istore_n 3, 1) := by decide +kernel
theorem dX1_toNextOrder_35 : decode cX1_toNextOrder 35 = .ok (.iload_n 3, 1) := by decide +kernel
theorem dX1_toNextOrder_36 : decode cX1_toNextOrder 36 = .ok (.iload_n 2, 1) := by decide +kernel
theorem dX1_toNextOrder_37 : decode cX1_toNextOrder 37 = .ok (.if_icmp .le 18, 3) := by decide +kernel
theorem dX1_toNextOrder_40 : decode cX1_toNextOrder 40 = .ok (.aload_n 0, 1) := by decide +kernel
theorem dX1_toNextOrder_41 : decode cX1_toNextOrder 41 = .ok (.iload_n 3, 1) := by decide +kernel
theorem dX1_toNextOrder_42 : decode cX1_toNextOrder 42 = .ok (.iaload, 1) := by decide +kernel
theorem dX1_toNextOrder_43 : decode cX1_toNextOrder 43 = .ok (.aload_n 0, 1) := by decide +kernel
theorem dX1_toNextOrder_44 : decode cX1_toNextOrder 44 = .ok (.iload_n 2, 1) := by decide +kernel
theorem dX1_toNextOrder_45 : decode cX1_toNextOrder 45 = .ok (.iaload, 1) := by decide +kernel
theorem dX1_toNextOrder_46 : decode cX1_toNextOrder 46 = .ok (.if_icmp .ge 9, 3) := by decide +kernel
theorem dX1_toNextOrder_49 : decode cX1_toNextOrder 49 = .ok (.iinc 3 (-1), 3) := by decide +kernel
theorem dX1_toNextOrder_52 : decode cX1_toNextOrder 52 = .ok (.goto (-17), 3) := by decide +kernel
theorem dX1_toNextOrder_55 : decode cX1_toNextOrder 55 = .ok (.aload_n 0, 1) := by decide +kernel
theorem dX1_toNextOrder_56 : decode cX1_toNextOrder 56 = .ok (.iload_n 2, 1) := by decide +kernel
theorem dX1_toNextOrder_57 : decode cX1_toNextOrder 57 = .ok (.iload_n 3, 1) := by decide +kernel
theorem dX1_toNextOrder_58 : decode cX1_toNextOrder 58 = .ok (.invokestatic 132, 3) := by decide +kernel
theorem dX1_toNextOrder_61 : decode cX1_toNextOrder 61 = .ok (.iload_n 2, 1) := by decide +kernel
theorem dX1_toNextOrder_62 : decode cX1_toNextOrder 62 = .ok (.iconst 1, 1) := by decide +kernel
theorem dX1_toNextOrder_63 : decode cX1_toNextOrder 63 = .ok (.iadd, 1) := by decide +kernel
theorem dX1_toNextOrder_64 : decode cX1_toNextOrder 64 = .ok (.istore 4, 2) := by decide +kernel
theorem dX1_toNextOrder_66 : decode cX1_toNextOrder 66 = .ok (.iload_n 1, 1) := by decide +kernel
theorem dX1_toNextOrder_67 : decode cX1_toNextOrder 67 = .ok (.iconst 1, 1) := by decide +kernel
theorem dX1_toNextOrder_68 : decode cX1_toNextOrder 68 = .ok (.isub, 1) := by decide +kernel
theorem dX1_toNextOrder_69 : decode cX1_toNextOrder 69 = .ok (.istore 5, 2) := by decide +kernel
theorem dX1_toNextOrder_71 : decode cX1_toNextOrder 71 = .ok (.iload 4, 2) := by decide +kernel
theorem dX1_toNextOrder_73 : decode cX1_toNextOrder 73 = .ok (.iload 5, 2) := by decide +kernel
theorem dX1_toNextOrder_75 : decode cX1_toNextOrder 75 = .ok (.if_icmp .ge 20, 3) := by decide +kernel
theorem dX1_toNextOrder_78 : decode cX1_toNextOrder 78 = .ok (.aload_n 0, 1) := by decide +kernel
theorem dX1_toNextOrder_79 : decode cX1_toNextOrder 79 = .ok (.iload 4, 2) := by decide +kernel
theorem dX1_toNextOrder_81 : decode cX1_toNextOrder 81 = .ok (.iload 5, 2) := by decide +kernel
theorem dX1_toNextOrder_83 : decode cX1_toNextOrder 83 = .ok (.invokestatic 132, 3) := by decide +kernel
theorem dX1_toNextOrder_86 : decode cX1_toNextOrder 86 = .ok (.iinc 4 1, 3) := by decide +kernel
theorem dX1_toNextOrder_89 : decode cX1_toNextOrder 89 = .ok (.iinc 5 (-1), 3) := by decide +kernel
theorem dX1_toNextOrder_92 : decode cX1_toNextOrder 92 = .ok (.goto (-21), 3) := by decide +kernel
theorem dX1_toNextOrder_95 : decode cX1_toNextOrder 95 = .ok (.iconst 1, 1) := by decide +kernel
theorem dX1_toNextOrder_96 : decode cX1_toNextOrder 96 = .ok (.ireturn, 1) := by decide +kernel
theorem dX1_swap_0 : decode cX1_swap 0 = .ok (.aload_n 0, 1) := by decide +kernel
theorem dX1_swap_1 : decode cX1_swap 1 = .ok (.iload_n 1, 1) := by decide +kernel
theorem dX1_swap_2 : decode cX1_swap 2 = .ok (.iaload, 1) := by decide +kernel
theorem dX1_swap_3 : decode cX1_swap 3 = .ok (.istore_n 3, 1) := by decide +kernel
theorem dX1_swap_4 : decode cX1_swap 4 = .ok (.aload_n 0, 1) := by decide +kernel
theorem dX1_swap_5 : decode cX1_swap 5 = .ok (.iload_n 1, 1) := by decide +kernel
theorem dX1_swap_6 : decode cX1_swap 6 = .ok (.aload_n 0, 1) := by decide +kernel
theorem dX1_swap_7 : decode cX1_swap 7 = .ok (.iload_n 2, 1) := by decide +kernel
theorem dX1_swap_8 : decode cX1_swap 8 = .ok (.iaload, 1) := by decide +kernel
theorem dX1_swap_9 : decode cX1_swap 9 = .ok (.iastore, 1) := by decide +kernel
theorem dX1_swap_10 : decode cX1_swap 10 = .ok (.aload_n 0, 1) := by decide +kernel
theorem dX1_swap_11 : decode cX1_swap 11 = .ok (.iload_n 2, 1) := by decide +kernel
theorem dX1_swap_12 : decode cX1_swap 12 = .ok (.iload_n 3, 1) := by decide +kernel
theorem dX1_swap_13 : decode cX1_swap 13 = .ok (.iastore, 1) := by decide +kernel
theorem dX1_swap_14 : decode cX1_swap 14 = .ok (.return_, 1) := by decide +kernel
set_option maxRecDepth 20000 in
theorem ggX1_drawEvenFromNothing_X2_isBroken : GoodIn wsX1_drawEvenFromNothing wsX2_isBroken := goodIn_r _ [8, 9, 90, 91, 92, 93, 94, 95, 96, 97] (by decide +kernel) (by decide +kernel)
set_option maxRecDepth 20000 in
theorem gX1_drawEvenFromNothing_X2_isBroken : GoodIn wsX1_drawEvenFromNothing (wsV RX1 80 RX2 yX2_isBroken wsX2_isBroken) := goodIn_app (goodIn_of _ (by decide +kernel)) ggX1_drawEvenFromNothing_X2_isBroken
set_option maxRecDepth 20000 in
theorem ggX1_drawEvenFromNothing_X1_goRound : GoodIn wsX1_drawEvenFromNothing wsX1_goRound := goodIn_r _ [14, 1, 4, 5, 6, 7, 8, 9, 15, 16, 17, 13, 18, 19, 20, 21, 22, 23, 2, 24, 25, 26, 27, 28, 29, 30, 31, 32, 33, 34, 35, 36, 37, 38, 39, 40, 41, 42, 43, 44, 45, 46, 47, 48, 49, 50, 51, 52, 53, 54, 55, 56, 57, 58, 59, 60, 61, 62, 63, 64, 65, 66, 67, 68, 69, 70, 71, 72, 73, 74, 75, 76, 77, 78, 79, 80, 81, 82, 83, 84, 85, 86, 87, 88, 89, 90, 91, 92, 93, 94, 95, 96, 97, 98, 99, 100, 101, 102, 103, 104, 105, 106, 107, 108, 109, 110] (by decide +kernel) (by decide +kernel)
set_option maxRecDepth 20000 in
theorem gX1_drawEvenFromNothing_X1_goRound : GoodIn wsX1_drawEvenFromNothing (wsV RX1 92 RX1 yX1_goRound wsX1_goRound) := goodIn_app (goodIn_of _ (by decide +kernel)) ggX1_drawEvenFromNothing_X1_goRound
theorem dX1_drawEvenFromNothing_0 : decode cX1_drawEvenFromNothing 0 = .ok (.iconst 0, 1) := by decide +kernel
theorem dX1_drawEvenFromNothing_1 : decode cX1_drawEvenFromNothing 1 = .ok (.istore_n 3, 1) := by decide +kernel
theorem dX1_drawEvenFromNothing_2 : decode cX1_drawEvenFromNothing 2 = .ok (.iload_n 3, 1) := by decide +kernel
theorem dX1_drawEvenFromNothing_3 : decode cX1_drawEvenFromNothing 3 = .ok (.aload_n 1, 1) := by decide +kernel
theorem dX1_drawEvenFromNothing_4 : decode cX1_drawEvenFromNothing 4 = .ok (.getfield 76, 3) := by decide +kernel
theorem dX1_drawEvenFromNothing_7 : decode cX1_drawEvenFromNothing 7 = .ok (.if_icmp .ge 24, 3) := by decide +kernel
theorem dX1_drawEvenFromNothing_10 : decode cX1_drawEvenFromNothing 10 = .ok (.aload_n 1, 1) := by decide +kernel
theorem dX1_drawEvenFromNothing_11 : decode cX1_drawEvenFromNothing 11 = .ok (.iload_n 3, 1) := by decide +kernel
theorem dX1_drawEvenFromNothing_12 : decode cX1_drawEvenFromNothing 12 = .ok (.invokevirtual 80, 3) := by decide +kernel
theorem dX1_drawEvenFromNothing_15 : decode cX1_drawEvenFromNothing 15 = .ok (.ifCond .ne 10, 3) := by decide +kernel
theorem dX1_drawEvenFromNothing_18 : decode cX1_drawEvenFromNothing 18 = .ok (.aload_n 1, 1) := by decide +kernel
theorem dX1_drawEvenFromNothing_19 : decode cX1_drawEvenFromNothing 19 = .ok (.getfield 28, 3) := by decide +kernel
theorem dX1_drawEvenFromNothing_22 : decode cX1_drawEvenFromNothing 22 = .ok (.iload_n 3, 1) := by decide +kernel
theorem dX1_drawEvenFromNothing_23 : decode cX1_drawEvenFromNothing 23 = .ok (.iconst 0, 1) := by decide +kernel
theorem dX1_drawEvenFromNothing_24 : decode cX1_drawEvenFromNothing 24 = .ok (.iastore, 1) := by decide +kernel
theorem dX1_drawEvenFromNothing_25 : decode cX1_drawEvenFromNothing 25 = .ok (.iinc 3 1, 3) := by decide +kernel
theorem dX1_drawEvenFromNothing_28 : decode cX1_drawEvenFromNothing 28 = .ok (.goto (-26), 3) := by decide +kernel
theorem dX1_drawEvenFromNothing_31 : decode cX1_drawEvenFromNothing 31 = .ok (.iconst 0, 1) := by decide +kernel
theorem dX1_drawEvenFromNothing_32 : decode cX1_drawEvenFromNothing 32 = .ok (.istore_n 3, 1) := by decide +kernel
theorem dX1_drawEvenFromNothing_33 : decode cX1_drawEvenFromNothing 33 = .ok (.iload_n 3, 1) := by decide +kernel
theorem dX1_drawEvenFromNothing_34 : decode cX1_drawEvenFromNothing 34 = .ok (.sipush 1202, 3) := by decide +kernel
theorem dX1_drawEvenFromNothing_37 : decode cX1_drawEvenFromNothing 37 = .ok (.if_icmp .ge 43, 3) := by decide +kernel
theorem dX1_drawEvenFromNothing_40 : decode cX1_drawEvenFromNothing 40 = .ok (.aload_n 0, 1) := by decide +kernel
theorem dX1_drawEvenFromNothing_41 : decode cX1_drawEvenFromNothing 41 = .ok (.aload_n 1, 1) := by decide +kernel
theorem dX1_drawEvenFromNothing_42 : decode cX1_drawEvenFromNothing 42 = .ok (.aload_n 0, 1) := by decide +kernel
theorem dX1_drawEvenFromNothing_43 : decode cX1_drawEvenFromNothing 43 = .ok (.getfield 25, 3) := by decide +kernel
theorem dX1_drawEvenFromNothing_46 : decode cX1_drawEvenFromNothing 46 = .ok (.iload_n 2, 1) := by decide +kernel
theorem dX1_drawEvenFromNothing_47 : decode cX1_drawEvenFromNothing 47 = .ok (.invokevirtual 92, 3) := by decide +kernel
theorem dX1_drawEvenFromNothing_50 : decode cX1_drawEvenFromNothing 50 = .ok (.istore 4, 2) := by decide +kernel
theorem dX1_drawEvenFromNothing_52 : decode cX1_drawEvenFromNothing 52 = .ok (.iload 4, 2) := by decide +kernel
theorem dX1_drawEvenFromNothing_54 : decode cX1_drawEvenFromNothing 54 = .ok (.iconst (-1), 1) := by decide +kernel
theorem dX1_drawEvenFromNothing_55 : decode cX1_drawEvenFromNothing 55 = .ok (.if_icmp .eq 8, 3) := by decide +kernel
theorem dX1_drawEvenFromNothing_58 : decode cX1_drawEvenFromNothing 58 = .ok (.iload 4, 2) := by decide +kernel
theorem dX1_drawEvenFromNothing_60 : decode cX1_drawEvenFromNothing 60 = .ok (.ifCond .ne 14, 3) := by decide +kernel
theorem dX1_drawEvenFromNothing_63 : decode cX1_drawEvenFromNothing 63 = .ok (.iload 4, 2) := by decide +kernel
theorem dX1_drawEvenFromNothing_65 : decode cX1_drawEvenFromNothing 65 = .ok (.ifCond .ne 7, 3) := by decide +kernel
theorem dX1_drawEvenFromNothing_68 : decode cX1_drawEvenFromNothing 68 = .ok (.iconst 1, 1) := by decide +kernel
theorem dX1_drawEvenFromNothing_69 : decode cX1_drawEvenFromNothing 69 = .ok (.goto 4, 3) := by decide +kernel
theorem dX1_drawEvenFromNothing_72 : decode cX1_drawEvenFromNothing 72 = .ok (.iconst 0, 1) := by decide +kernel
theorem dX1_drawEvenFromNothing_73 : decode cX1_drawEvenFromNothing 73 = .ok (.ireturn, 1) := by decide +kernel
theorem dX1_drawEvenFromNothing_74 : decode cX1_drawEvenFromNothing 74 = .ok (.iinc 3 1, 3) := by decide +kernel
theorem dX1_drawEvenFromNothing_77 : decode cX1_drawEvenFromNothing 77 = .ok (.goto (-44), 3) := by decide +kernel
theorem dX1_drawEvenFromNothing_80 : decode cX1_drawEvenFromNothing 80 = .ok (.iconst 0, 1) := by decide +kernel
theorem dX1_drawEvenFromNothing_81 : decode cX1_drawEvenFromNothing 81 = .ok (.ireturn, 1) := by decide +kernel
theorem dX2_init_0 : decode cX2_init 0 = .ok (.aload_n 0, 1) := by decide +kernel
theorem dX2_init_1 : decode cX2_init 1 = .ok (.invokespecial 3, 3) := by decide +kernel
theorem dX2_init_4 : decode cX2_init 4 = .ok (.aload_n 0, 1) := by decide +kernel
theorem dX2_init_5 : decode cX2_init 5 = .ok (.bipush 6, 2) := by decide +kernel
theorem dX2_init_7 : decode cX2_init 7 = .ok (.newarray .int, 2) := by decide +kernel
theorem dX2_init_9 : decode cX2_init 9 = .ok (.putfield 9, 3) := by decide +kernel
theorem dX2_init_12 : decode cX2_init 12 = .ok (.aload_n 0, 1) := by decide +kernel
theorem dX2_init_13 : decode cX2_init 13 = .ok (.bipush 6, 2) := by decide +kernel
theorem dX2_init_15 : decode cX2_init 15 = .ok (.newarray .int, 2) := by decide +kernel
theorem dX2_init_17 : decode cX2_init 17 = .ok (.putfield 15, 3) := by decide +kernel
theorem dX2_init_20 : decode cX2_init 20 = .ok (.aload_n 0, 1) := by decide +kernel
theorem dX2_init_21 : decode cX2_init 21 = .ok (.bipush 6, 2) := by decide +kernel
theorem dX2_init_23 : decode cX2_init 23 = .ok (.newarray .int, 2) := by decide +kernel
theorem dX2_init_25 : decode cX2_init 25 = .ok (.putfield 18, 3) := by decide +kernel
theorem dX2_init_28 : decode cX2_init 28 = .ok (.aload_n 0, 1) := by decide +kernel
theorem dX2_init_29 : decode cX2_init 29 = .ok (.bipush 6, 2) := by decide +kernel
theorem dX2_init_31 : decode cX2_init 31 = .ok (.newarray .int, 2) := by decide +kernel
theorem dX2_init_33 : decode cX2_init 33 = .ok (.putfield 21, 3) := by decide +kernel
theorem dX2_init_36 : decode cX2_init 36 = .ok (.aload_n 0, 1) := by decide +kernel
theorem dX2_init_37 : decode cX2_init 37 = .ok (.bipush 6, 2) := by decide +kernel
theorem dX2_init_39 : decode cX2_init 39 = .ok (.newarray .int, 2) := by decide +kernel
theorem dX2_init_41 : decode cX2_init 41 = .ok (.putfield 24, 3) := by decide +kernel
theorem dX2_init_44 : decode cX2_init 44 = .ok (.return_, 1) := by decide +kernel
theorem dX2_begin_0 : decode cX2_begin 0 = .ok (.aload_n 0, 1) := by decide +kernel
theorem dX2_begin_1 : decode cX2_begin 1 = .ok (.iload_n 1, 1) := by decide +kernel
theorem dX2_begin_2 : decode cX2_begin 2 = .ok (.putfield 27, 3) := by decide +kernel
theorem dX2_begin_5 : decode cX2_begin 5 = .ok (.aload_n 0, 1) := by decide +kernel
theorem dX2_begin_6 : decode cX2_begin 6 = .ok (.iload_n 2, 1) := by decide +kernel
theorem dX2_begin_7 : decode cX2_begin 7 = .ok (.putfield 31, 3) := by decide +kernel
theorem dX2_begin_10 : decode cX2_begin 10 = .ok (.aload_n 0, 1) := by decide +kernel
theorem dX2_begin_11 : decode cX2_begin 11 = .ok (.iconst 0, 1) := by decide +kernel
theorem dX2_begin_12 : decode cX2_begin 12 = .ok (.putfield 34, 3) := by decide +kernel
theorem dX2_begin_15 : decode cX2_begin 15 = .ok (.iconst 0, 1) := by decide +kernel
theorem dX2_begin_16 : decode cX2_begin 16 = .ok (.istore_n 3, 1) := by decide +kernel
theorem dX2_begin_17 : decode cX2_begin 17 = .ok (.iload_n 3, 1) := by decide +kernel
theorem dX2_begin_18 : decode cX2_begin 18 = .ok (.bipush 6, 2) := by decide +kernel
theorem dX2_begin_20 : decode cX2_begin 20 = .ok (.if_icmp .ge 44, 3) := by decide +kernel
theorem dX2_begin_23 : decode cX2_begin 23 = .ok (.aload_n 0, 1) := by decide +kernel
theorem dX2_begin_24 : decode cX2_begin 24 = .ok (.getfield 9, 3) := by decide +kernel
theorem dX2_begin_27 : decode cX2_begin 27 = .ok (.iload_n 3, 1) := by decide +kernel
theorem dX2_begin_28 : decode cX2_begin 28 = .ok (.iconst 5, 1) := by decide +kernel
theorem dX2_begin_29 : decode cX2_begin 29 = .ok (.iastore, 1) := by decide +kernel
theorem dX2_begin_30 : decode cX2_begin 30 = .ok (.aload_n 0, 1) := by decide +kernel
theorem dX2_begin_31 : decode cX2_begin 31 = .ok (.getfield 15, 3) := by decide +kernel
theorem dX2_begin_34 : decode cX2_begin 34 = .ok (.iload_n 3, 1) := by decide +kernel
theorem dX2_begin_35 : decode cX2_begin 35 = .ok (.iconst 3, 1) := by decide +kernel
theorem dX2_begin_36 : decode cX2_begin 36 = .ok (.iastore, 1) := by decide +kernel
theorem dX2_begin_37 : decode cX2_begin 37 = .ok (.aload_n 0, 1) := by decide +kernel
theorem dX2_begin_38 : decode cX2_begin 38 = .ok (.getfield 18, 3) := by decide +kernel
theorem dX2_begin_41 : decode cX2_begin 41 = .ok (.iload_n 3, 1) := by decide +kernel
theorem dX2_begin_42 : decode cX2_begin 42 = .ok (.iconst 0, 1) := by decide +kernel
theorem dX2_begin_43 : decode cX2_begin 43 = .ok (.iastore, 1) := by decide +kernel
theorem dX2_begin_44 : decode cX2_begin 44 = .ok (.aload_n 0, 1) := by decide +kernel
theorem dX2_begin_45 : decode cX2_begin 45 = .ok (.getfield 21, 3) := by decide +kernel
theorem dX2_begin_48 : decode cX2_begin 48 = .ok (.iload_n 3, 1) := by decide +kernel
theorem dX2_begin_49 : decode cX2_begin 49 = .ok (.iconst 0, 1) := by decide +kernel
theorem dX2_begin_50 : decode cX2_begin 50 = .ok (.iastore, 1) := by decide +kernel
theorem dX2_begin_51 : decode cX2_begin 51 = .ok (.aload_n 0, 1) := by decide +kernel
theorem dX2_begin_52 : decode cX2_begin 52 = .ok (.getfield 24, 3) := by decide +kernel
theorem dX2_begin_55 : decode cX2_begin 55 = .ok (.iload_n 3, 1) := by decide +kernel
theorem dX2_begin_56 : decode cX2_begin 56 = .ok (.iload_n 3, 1) := by decide +kernel
theorem dX2_begin_57 : decode cX2_begin 57 = .ok (.iastore, 1) := by decide +kernel
theorem dX2_begin_58 : decode cX2_begin 58 = .ok (.iinc 3 1, 3) := by decide +kernel
theorem dX2_begin_61 : decode cX2_begin 61 = .ok (.goto (-44), 3) := by decide +kernel
theorem dX2_begin_64 : decode cX2_begin 64 = .ok (.return_, 1) := by decide +kernel
theorem dX2_has_0 : decode cX2_has 0 = .ok (.iload_n 1, 1) := by decide +kernel
theorem dX2_has_1 : decode cX2_has 1 = .ok (.ifCond .lt 15, 3) := by decide +kernel
theorem dX2_has_4 : decode cX2_has 4 = .ok (.iload_n 1, 1) := by decide +kernel
theorem dX2_has_5 : decode cX2_has 5 = .ok (.aload_n 0, 1) := by decide +kernel
theorem dX2_has_6 : decode cX2_has 6 = .ok (.getfield 27, 3) := by decide +kernel
theorem dX2_has_9 : decode cX2_has 9 = .ok (.if_icmp .ge 7, 3) := by decide +kernel
theorem dX2_has_12 : decode cX2_has 12 = .ok (.iconst 1, 1) := by decide +kernel
theorem dX2_has_13 : decode cX2_has 13 = .ok (.goto 4, 3) := by decide +kernel
theorem dX2_has_16 : decode cX2_has 16 = .ok (.iconst 0, 1) := by decide +kernel
theorem dX2_has_17 : decode cX2_has 17 = .ok (.ireturn, 1) := by decide +kernel
theorem dX2_allSet_0 : decode cX2_allSet 0 = .ok (.iconst 1, 1) := by decide +kernel
theorem dX2_allSet_1 : decode cX2_allSet 1 = .ok (.aload_n 0, 1) := by decide +kernel
theorem dX2_allSet_2 : decode cX2_allSet 2 = .ok (.getfield 27, 3) := by decide +kernel
theorem dX2_allSet_5 : decode cX2_allSet 5 = .ok (.ishl, 1) := by decide +kernel
theorem dX2_allSet_6 : decode cX2_allSet 6 = .ok (.iconst 1, 1) := by decide +kernel
theorem dX2_allSet_7 : decode cX2_allSet 7 = .ok (.isub, 1) := by decide +kernel
theorem dX2_allSet_8 : decode cX2_allSet 8 = .ok (.ireturn, 1) := by decide +kernel
theorem dX2_isBroken_0 : decode cX2_isBroken 0 = .ok (.aload_n 0, 1) := by decide +kernel
theorem dX2_isBroken_1 : decode cX2_isBroken 1 = .ok (.getfield 34, 3) := by decide +kernel
theorem dX2_isBroken_4 : decode cX2_isBroken 4 = .ok (.iload_n 1, 1) := by decide +kernel
theorem dX2_isBroken_5 : decode cX2_isBroken 5 = .ok (.ishr, 1) := by decide +kernel
theorem dX2_isBroken_6 : decode cX2_isBroken 6 = .ok (.iconst 1, 1) := by decide +kernel
theorem dX2_isBroken_7 : decode cX2_isBroken 7 = .ok (.iand, 1) := by decide +kernel
theorem dX2_isBroken_8 : decode cX2_isBroken 8 = .ok (.ifCond .eq 7, 3) := by decide +kernel
theorem dX2_isBroken_11 : decode cX2_isBroken 11 = .ok (.iconst 1, 1) := by decide +kernel
theorem dX2_isBroken_12 : decode cX2_isBroken 12 = .ok (.goto 4, 3) := by decide +kernel
theorem dX2_isBroken_15 : decode cX2_isBroken 15 = .ok (.iconst 0, 1) := by decide +kernel
theorem dX2_isBroken_16 : decode cX2_isBroken 16 = .ok (.ireturn, 1) := by decide +kernel
theorem dX2_markBroken_0 : decode cX2_markBroken 0 = .ok (.aload_n 0, 1) := by decide +kernel
theorem dX2_markBroken_1 : decode cX2_markBroken 1 = .ok (.iload_n 2, 1) := by decide +kernel
theorem dX2_markBroken_2 : decode cX2_markBroken 2 = .ok (.ifCond .eq 14, 3) := by decide +kernel
theorem dX2_markBroken_5 : decode cX2_markBroken 5 = .ok (.aload_n 0, 1) := by decide +kernel
theorem dX2_markBroken_6 : decode cX2_markBroken 6 = .ok (.getfield 34, 3) := by decide +kernel
theorem dX2_markBroken_9 : decode cX2_markBroken 9 = .ok (.iconst 1, 1) := by decide +kernel
theorem dX2_markBroken_10 : decode cX2_markBroken 10 = .ok (.iload_n 1, 1) := by decide +kernel
theorem dX2_markBroken_11 : decode cX2_markBroken 11 = .ok (.ishl, 1) := by decide +kernel
theorem dX2_markBroken_12 : decode cX2_markBroken 12 = .ok (.ior, 1) := by decide +kernel
theorem dX2_markBroken_13 : decode cX2_markBroken 13 = .ok (.goto 13, 3) := by decide +kernel
theorem dX2_markBroken_16 : decode cX2_markBroken 16 = .ok (.aload_n 0, 1) := by decide +kernel
theorem dX2_markBroken_17 : decode cX2_markBroken 17 = .ok (.getfield 34, 3) := by decide +kernel
theorem dX2_markBroken_20 : decode cX2_markBroken 20 = .ok (.iconst 1, 1) := by decide +kernel
theorem dX2_markBroken_21 : decode cX2_markBroken 21 = .ok (.iload_n 1, 1) := by decide +kernel
theorem dX2_markBroken_22 : decode cX2_markBroken 22 = .ok (.ishl, 1) := by decide +kernel
theorem dX2_markBroken_23 : decode cX2_markBroken 23 = .ok (.iconst (-1), 1) := by decide +kernel
theorem dX2_markBroken_24 : decode cX2_markBroken 24 = .ok (.ixor, 1) := by decide +kernel
theorem dX2_markBroken_25 : decode cX2_markBroken 25 = .ok (.iand, 1) := by decide +kernel
theorem dX2_markBroken_26 : decode cX2_markBroken 26 = .ok (.putfield 34, 3) := by decide +kernel
theorem dX2_markBroken_29 : decode cX2_markBroken 29 = .ok (.return_, 1) := by decide +kernel
set_option maxRecDepth 20000 in
theorem ggX2_wholeCount_J6_bitCount_0f7a4 : GoodIn wsX2_wholeCount wsJ6_bitCount_0f7a4 := goodIn_r _ [6, 7, 8, 9] (by decide +kernel) (by decide +kernel)
set_option maxRecDepth 20000 in
theorem gX2_wholeCount_J6_bitCount_0f7a4 : GoodIn wsX2_wholeCount (va_wsS RX2 37 yJ6_bitCount_0f7a4 wsJ6_bitCount_0f7a4) := goodIn_app (goodIn_of _ (by decide +kernel)) ggX2_wholeCount_J6_bitCount_0f7a4
theorem dX2_wholeCount_0 : decode cX2_wholeCount 0 = .ok (.aload_n 0, 1) := by decide +kernel
theorem dX2_wholeCount_1 : decode cX2_wholeCount 1 = .ok (.getfield 27, 3) := by decide +kernel
theorem dX2_wholeCount_4 : decode cX2_wholeCount 4 = .ok (.aload_n 0, 1) := by decide +kernel
theorem dX2_wholeCount_5 : decode cX2_wholeCount 5 = .ok (.getfield 34, 3) := by decide +kernel
theorem dX2_wholeCount_8 : decode cX2_wholeCount 8 = .ok (.invokestatic 37, 3) := by decide +kernel
theorem dX2_wholeCount_11 : decode cX2_wholeCount 11 = .ok (.isub, 1) := by decide +kernel
theorem dX2_wholeCount_12 : decode cX2_wholeCount 12 = .ok (.ireturn, 1) := by decide +kernel
theorem dX2_valuesOf_0 : decode cX2_valuesOf 0 = .ok (.iload_n 1, 1) := by decide +kernel
theorem dX2_valuesOf_1 : decode cX2_valuesOf 1 = .ok (.tableswitch 42 0 2 #[27, 32, 37], 27) := by decide +kernel
theorem dX2_valuesOf_28 : decode cX2_valuesOf 28 = .ok (.aload_n 0, 1) := by decide +kernel
theorem dX2_valuesOf_29 : decode cX2_valuesOf 29 = .ok (.getfield 9, 3) := by decide +kernel
theorem dX2_valuesOf_32 : decode cX2_valuesOf 32 = .ok (.areturn, 1) := by decide +kernel
theorem dX2_valuesOf_33 : decode cX2_valuesOf 33 = .ok (.aload_n 0, 1) := by decide +kernel
theorem dX2_valuesOf_34 : decode cX2_valuesOf 34 = .ok (.getfield 15, 3) := by decide +kernel
theorem dX2_valuesOf_37 : decode cX2_valuesOf 37 = .ok (.areturn, 1) := by decide +kernel
theorem dX2_valuesOf_38 : decode cX2_valuesOf 38 = .ok (.aload_n 0, 1) := by decide +kernel
theorem dX2_valuesOf_39 : decode cX2_valuesOf 39 = .ok (.getfield 18, 3) := by decide +kernel
theorem dX2_valuesOf_42 : decode cX2_valuesOf 42 = .ok (.areturn, 1) := by decide +kernel
theorem dX2_valuesOf_43 : decode cX2_valuesOf 43 = .ok (.aload_n 0, 1) := by decide +kernel
theorem dX2_valuesOf_44 : decode cX2_valuesOf 44 = .ok (.getfield 21, 3) := by decide +kernel
theorem dX2_valuesOf_47 : decode cX2_valuesOf 47 = .ok (.areturn, 1) := by decide +kernel
theorem dX2_sumOf_0 : decode cX2_sumOf 0 = .ok (.iconst 0, 1) := by decide +kernel
theorem dX2_sumOf_1 : decode cX2_sumOf 1 = .ok (.istore_n 2, 1) := by decide +kernel
theorem dX2_sumOf_2 : decode cX2_sumOf 2 = .ok (.iconst 0, 1) := by decide +kernel
theorem dX2_sumOf_3 : decode cX2_sumOf 3 = .ok (.istore_n 3, 1) := by decide +kernel
theorem dX2_sumOf_4 : decode cX2_sumOf 4 = .ok (.iload_n 3, 1) := by decide +kernel
theorem dX2_sumOf_5 : decode cX2_sumOf 5 = .ok (.aload_n 0, 1) := by decide +kernel
theorem dX2_sumOf_6 : decode cX2_sumOf 6 = .ok (.getfield 27, 3) := by decide +kernel
theorem dX2_sumOf_9 : decode cX2_sumOf 9 = .ok (.if_icmp .ge 15, 3) := by decide +kernel
theorem dX2_sumOf_12 : decode cX2_sumOf 12 = .ok (.iload_n 2, 1) := by decide +kernel
theorem dX2_sumOf_13 : decode cX2_sumOf 13 = .ok (.aload_n 1, 1) := by decide +kernel
theorem dX2_sumOf_14 : decode cX2_sumOf 14 = .ok (.iload_n 3, 1) := by decide +kernel
theorem dX2_sumOf_15 : decode cX2_sumOf 15 = .ok (.iaload, 1) := by decide +kernel
theorem dX2_sumOf_16 : decode cX2_sumOf 16 = .ok (.iadd, 1) := by decide +kernel
theorem dX2_sumOf_17 : decode cX2_sumOf 17 = .ok (.istore_n 2, 1) := by decide +kernel
theorem dX2_sumOf_18 : decode cX2_sumOf 18 = .ok (.iinc 3 1, 3) := by decide +kernel
theorem dX2_sumOf_21 : decode cX2_sumOf 21 = .ok (.goto (-17), 3) := by decide +kernel
theorem dX2_sumOf_24 : decode cX2_sumOf 24 = .ok (.iload_n 2, 1) := by decide +kernel
theorem dX2_sumOf_25 : decode cX2_sumOf 25 = .ok (.ireturn, 1) := by decide +kernel
theorem dX2_placeInRow_0 : decode cX2_placeInRow 0 = .ok (.iconst 0, 1) := by decide +kernel
theorem dX2_placeInRow_1 : decode cX2_placeInRow 1 = .ok (.istore_n 2, 1) := by decide +kernel
theorem dX2_placeInRow_2 : decode cX2_placeInRow 2 = .ok (.iload_n 2, 1) := by decide +kernel
theorem dX2_placeInRow_3 : decode cX2_placeInRow 3 = .ok (.aload_n 0, 1) := by decide +kernel
theorem dX2_placeInRow_4 : decode cX2_placeInRow 4 = .ok (.getfield 27, 3) := by decide +kernel
theorem dX2_placeInRow_7 : decode cX2_placeInRow 7 = .ok (.iconst 1, 1) := by decide +kernel
theorem dX2_placeInRow_8 : decode cX2_placeInRow 8 = .ok (.isub, 1) := by decide +kernel
theorem dX2_placeInRow_9 : decode cX2_placeInRow 9 = .ok (.if_icmp .ge 19, 3) := by decide +kernel
theorem dX2_placeInRow_12 : decode cX2_placeInRow 12 = .ok (.aload_n 0, 1) := by decide +kernel
theorem dX2_placeInRow_13 : decode cX2_placeInRow 13 = .ok (.getfield 24, 3) := by decide +kernel
theorem dX2_placeInRow_16 : decode cX2_placeInRow 16 = .ok (.iload_n 2, 1) := by decide +kernel
theorem dX2_placeInRow_17 : decode cX2_placeInRow 17 = .ok (.iaload, 1) := by decide +kernel
theorem dX2_placeInRow_18 : decode cX2_placeInRow 18 = .ok (.iload_n 1, 1) := by decide +kernel
theorem dX2_placeInRow_19 : decode cX2_placeInRow 19 = .ok (.if_icmp .eq 9, 3) := by decide +kernel
theorem dX2_placeInRow_22 : decode cX2_placeInRow 22 = .ok (.iinc 2 1, 3) := by decide +kernel
theorem dX2_placeInRow_25 : decode cX2_placeInRow 25 = .ok (.goto (-23), 3) := by decide +kernel
theorem dX2_placeInRow_28 : decode cX2_placeInRow 28 = .ok (.iload_n 2, 1) := by decide +kernel
theorem dX2_placeInRow_29 : decode cX2_placeInRow 29 = .ok (.ireturn, 1) := by decide +kernel
set_option maxRecDepth 20000 in
theorem ggX2_takeRow_X2_isRow : GoodIn wsX2_takeRow wsX2_isRow := goodIn_r _ [7, 1, 8, 9, 10, 6, 11, 12, 13, 14, 15, 16, 17, 18, 19] (by decide +kernel) (by decide +kernel)
set_option maxRecDepth 20000 in
theorem gX2_takeRow_X2_isRow : GoodIn wsX2_takeRow (wsV RX2 43 RX2 yX2_isRow wsX2_isRow) := goodIn_app (goodIn_of _ (by decide +kernel)) ggX2_takeRow_X2_isRow
theorem dX2_takeRow_0 : decode cX2_takeRow 0 = .ok (.aload_n 0, 1) := by decide +kernel
theorem dX2_takeRow_1 : decode cX2_takeRow 1 = .ok (.iload_n 1, 1) := by decide +kernel
theorem dX2_takeRow_2 : decode cX2_takeRow 2 = .ok (.invokevirtual 43, 3) := by decide +kernel
theorem dX2_takeRow_5 : decode cX2_takeRow 5 = .ok (.ifCond .ne 5, 3) := by decide +kernel
theorem dX2_takeRow_8 : decode cX2_takeRow 8 = .ok (.iconst 0, 1) := by decide +kernel
theorem dX2_takeRow_9 : decode cX2_takeRow 9 = .ok (.ireturn, 1) := by decide +kernel
theorem dX2_takeRow_10 : decode cX2_takeRow 10 = .ok (.iload_n 1, 1) := by decide +kernel
theorem dX2_takeRow_11 : decode cX2_takeRow 11 = .ok (.istore_n 2, 1) := by decide +kernel
theorem dX2_takeRow_12 : decode cX2_takeRow 12 = .ok (.aload_n 0, 1) := by decide +kernel
theorem dX2_takeRow_13 : decode cX2_takeRow 13 = .ok (.getfield 27, 3) := by decide +kernel
theorem dX2_takeRow_16 : decode cX2_takeRow 16 = .ok (.iconst 1, 1) := by decide +kernel
theorem dX2_takeRow_17 : decode cX2_takeRow 17 = .ok (.isub, 1) := by decide +kernel
theorem dX2_takeRow_18 : decode cX2_takeRow 18 = .ok (.istore_n 3, 1) := by decide +kernel
theorem dX2_takeRow_19 : decode cX2_takeRow 19 = .ok (.iload_n 3, 1) := by decide +kernel
end
section
theorem dX2_takeRow_20 : decode cX2_takeRow 20 = .ok (.ifCond .lt 24, 3) := by decide +kernel
theorem dX2_takeRow_23 : decode cX2_takeRow 23 = .ok (.aload_n 0, 1) := by decide +kernel
theorem dX2_takeRow_24 : decode cX2_takeRow 24 = .ok (.getfield 24, 3) := by decide +kernel
theorem dX2_takeRow_27 : decode cX2_takeRow 27 = .ok (.iload_n 3, 1) := by decide +kernel
theorem dX2_takeRow_28 : decode cX2_takeRow 28 = .ok (.iload_n 2, 1) := by decide +kernel
theorem dX2_takeRow_29 : decode cX2_takeRow 29 = .ok (.bipush 10, 2) := by decide +kernel
theorem dX2_takeRow_31 : decode cX2_takeRow 31 = .ok (.irem, 1) := by decide +kernel
theorem dX2_takeRow_32 : decode cX2_takeRow 32 = .ok (.iastore, 1) := by decide +kernel
theorem dX2_takeRow_33 : decode cX2_takeRow 33 = .ok (.iload_n 2, 1) := by decide +kernel
theorem dX2_takeRow_34 : decode cX2_takeRow 34 = .ok (.bipush 10, 2) := by decide +kernel
theorem dX2_takeRow_36 : decode cX2_takeRow 36 = .ok (.idiv, 1) := by decide +kernel
theorem dX2_takeRow_37 : decode cX2_takeRow 37 = .ok (.istore_n 2, 1) := by decide +kernel
theorem dX2_takeRow_38 : decode cX2_takeRow 38 = .ok (.iinc 3 (-1), 3) := by decide +kernel
theorem dX2_takeRow_41 : decode cX2_takeRow 41 = .ok (.goto (-22), 3) := by decide +kernel
theorem dX2_takeRow_44 : decode cX2_takeRow 44 = .ok (.iconst 1, 1) := by decide +kernel
theorem dX2_takeRow_45 : decode cX2_takeRow 45 = .ok (.ireturn, 1) := by decide +kernel
set_option maxRecDepth 20000 in
theorem ggX2_isRow_X2_allSet : GoodIn wsX2_isRow wsX2_allSet := goodIn_r _ [6, 1, 7, 8, 9, 10, 11, 12, 13, 14] (by decide +kernel) (by decide +kernel)
set_option maxRecDepth 20000 in
theorem gX2_isRow_X2_allSet : GoodIn wsX2_isRow (wsV RX2 47 RX2 yX2_allSet wsX2_allSet) := goodIn_app (goodIn_of _ (by decide +kernel)) ggX2_isRow_X2_allSet
theorem dX2_isRow_0 : decode cX2_isRow 0 = .ok (.iload_n 1, 1) := by decide +kernel
theorem dX2_isRow_1 : decode cX2_isRow 1 = .ok (.ifCond .ge 5, 3) := by decide +kernel
theorem dX2_isRow_4 : decode cX2_isRow 4 = .ok (.iconst 0, 1) := by decide +kernel
theorem dX2_isRow_5 : decode cX2_isRow 5 = .ok (.ireturn, 1) := by decide +kernel
theorem dX2_isRow_6 : decode cX2_isRow 6 = .ok (.iconst 0, 1) := by decide +kernel
theorem dX2_isRow_7 : decode cX2_isRow 7 = .ok (.istore_n 2, 1) := by decide +kernel
theorem dX2_isRow_8 : decode cX2_isRow 8 = .ok (.iload_n 1, 1) := by decide +kernel
theorem dX2_isRow_9 : decode cX2_isRow 9 = .ok (.istore_n 3, 1) := by decide +kernel
theorem dX2_isRow_10 : decode cX2_isRow 10 = .ok (.iconst 0, 1) := by decide +kernel
theorem dX2_isRow_11 : decode cX2_isRow 11 = .ok (.istore 4, 2) := by decide +kernel
theorem dX2_isRow_13 : decode cX2_isRow 13 = .ok (.iload 4, 2) := by decide +kernel
theorem dX2_isRow_15 : decode cX2_isRow 15 = .ok (.aload_n 0, 1) := by decide +kernel
theorem dX2_isRow_16 : decode cX2_isRow 16 = .ok (.getfield 27, 3) := by decide +kernel
theorem dX2_isRow_19 : decode cX2_isRow 19 = .ok (.if_icmp .ge 38, 3) := by decide +kernel
theorem dX2_isRow_22 : decode cX2_isRow 22 = .ok (.iload_n 3, 1) := by decide +kernel
theorem dX2_isRow_23 : decode cX2_isRow 23 = .ok (.bipush 10, 2) := by decide +kernel
theorem dX2_isRow_25 : decode cX2_isRow 25 = .ok (.irem, 1) := by decide +kernel
theorem dX2_isRow_26 : decode cX2_isRow 26 = .ok (.istore 5, 2) := by decide +kernel
theorem dX2_isRow_28 : decode cX2_isRow 28 = .ok (.iload 5, 2) := by decide +kernel
theorem dX2_isRow_30 : decode cX2_isRow 30 = .ok (.aload_n 0, 1) := by decide +kernel
theorem dX2_isRow_31 : decode cX2_isRow 31 = .ok (.getfield 27, 3) := by decide +kernel
theorem dX2_isRow_34 : decode cX2_isRow 34 = .ok (.if_icmp .lt 5, 3) := by decide +kernel
theorem dX2_isRow_37 : decode cX2_isRow 37 = .ok (.iconst 0, 1) := by decide +kernel
theorem dX2_isRow_38 : decode cX2_isRow 38 = .ok (.ireturn, 1) := by decide +kernel
theorem dX2_isRow_39 : decode cX2_isRow 39 = .ok (.iload_n 2, 1) := by decide +kernel
theorem dX2_isRow_40 : decode cX2_isRow 40 = .ok (.iconst 1, 1) := by decide +kernel
theorem dX2_isRow_41 : decode cX2_isRow 41 = .ok (.iload 5, 2) := by decide +kernel
theorem dX2_isRow_43 : decode cX2_isRow 43 = .ok (.ishl, 1) := by decide +kernel
theorem dX2_isRow_44 : decode cX2_isRow 44 = .ok (.ior, 1) := by decide +kernel
theorem dX2_isRow_45 : decode cX2_isRow 45 = .ok (.istore_n 2, 1) := by decide +kernel
theorem dX2_isRow_46 : decode cX2_isRow 46 = .ok (.iload_n 3, 1) := by decide +kernel
theorem dX2_isRow_47 : decode cX2_isRow 47 = .ok (.bipush 10, 2) := by decide +kernel
theorem dX2_isRow_49 : decode cX2_isRow 49 = .ok (.idiv, 1) := by decide +kernel
theorem dX2_isRow_50 : decode cX2_isRow 50 = .ok (.istore_n 3, 1) := by decide +kernel
theorem dX2_isRow_51 : decode cX2_isRow 51 = .ok (.iinc 4 1, 3) := by decide +kernel
theorem dX2_isRow_54 : decode cX2_isRow 54 = .ok (.goto (-41), 3) := by decide +kernel
theorem dX2_isRow_57 : decode cX2_isRow 57 = .ok (.iload_n 3, 1) := by decide +kernel
theorem dX2_isRow_58 : decode cX2_isRow 58 = .ok (.ifCond .ne 15, 3) := by decide +kernel
theorem dX2_isRow_61 : decode cX2_isRow 61 = .ok (.iload_n 2, 1) := by decide +kernel
theorem dX2_isRow_62 : decode cX2_isRow 62 = .ok (.aload_n 0, 1) := by decide +kernel
theorem dX2_isRow_63 : decode cX2_isRow 63 = .ok (.invokevirtual 47, 3) := by decide +kernel
theorem dX2_isRow_66 : decode cX2_isRow 66 = .ok (.if_icmp .ne 7, 3) := by decide +kernel
theorem dX2_isRow_69 : decode cX2_isRow 69 = .ok (.iconst 1, 1) := by decide +kernel
theorem dX2_isRow_70 : decode cX2_isRow 70 = .ok (.goto 4, 3) := by decide +kernel
theorem dX2_isRow_73 : decode cX2_isRow 73 = .ok (.iconst 0, 1) := by decide +kernel
theorem dX2_isRow_74 : decode cX2_isRow 74 = .ok (.ireturn, 1) := by decide +kernel
theorem dX3_init_0 : decode cX3_init 0 = .ok (.aload_n 0, 1) := by decide +kernel
theorem dX3_init_1 : decode cX3_init 1 = .ok (.invokespecial 3, 3) := by decide +kernel
theorem dX3_init_4 : decode cX3_init 4 = .ok (.aload_n 0, 1) := by decide +kernel
theorem dX3_init_5 : decode cX3_init 5 = .ok (.bipush 6, 2) := by decide +kernel
theorem dX3_init_7 : decode cX3_init 7 = .ok (.newarray .long, 2) := by decide +kernel
theorem dX3_init_9 : decode cX3_init 9 = .ok (.putfield 9, 3) := by decide +kernel
theorem dX3_init_12 : decode cX3_init 12 = .ok (.aload_n 0, 1) := by decide +kernel
theorem dX3_init_13 : decode cX3_init 13 = .ok (.lconst 1, 1) := by decide +kernel
theorem dX3_init_14 : decode cX3_init 14 = .ok (.putfield 15, 3) := by decide +kernel
theorem dX3_init_17 : decode cX3_init 17 = .ok (.aload_n 0, 1) := by decide +kernel
theorem dX3_init_18 : decode cX3_init 18 = .ok (.bipush 6, 2) := by decide +kernel
theorem dX3_init_20 : decode cX3_init 20 = .ok (.newarray .long, 2) := by decide +kernel
theorem dX3_init_22 : decode cX3_init 22 = .ok (.putfield 19, 3) := by decide +kernel
theorem dX3_init_25 : decode cX3_init 25 = .ok (.aload_n 0, 1) := by decide +kernel
theorem dX3_init_26 : decode cX3_init 26 = .ok (.bipush 6, 2) := by decide +kernel
theorem dX3_init_28 : decode cX3_init 28 = .ok (.newarray .long, 2) := by decide +kernel
theorem dX3_init_30 : decode cX3_init 30 = .ok (.putfield 22, 3) := by decide +kernel
theorem dX3_init_33 : decode cX3_init 33 = .ok (.aload_n 0, 1) := by decide +kernel
theorem dX3_init_34 : decode cX3_init 34 = .ok (.bipush 7, 2) := by decide +kernel
theorem dX3_init_36 : decode cX3_init 36 = .ok (.newarray .long, 2) := by decide +kernel
theorem dX3_init_38 : decode cX3_init 38 = .ok (.putfield 25, 3) := by decide +kernel
theorem dX3_init_41 : decode cX3_init 41 = .ok (.aload_n 0, 1) := by decide +kernel
theorem dX3_init_42 : decode cX3_init 42 = .ok (.bipush 36, 2) := by decide +kernel
theorem dX3_init_44 : decode cX3_init 44 = .ok (.newarray .long, 2) := by decide +kernel
theorem dX3_init_46 : decode cX3_init 46 = .ok (.putfield 28, 3) := by decide +kernel
theorem dX3_init_49 : decode cX3_init 49 = .ok (.return_, 1) := by decide +kernel
set_option maxRecDepth 20000 in
theorem ggX3_settle_X3_settleHolding : GoodIn wsX3_settle wsX3_settleHolding := goodIn_r _ [5, 6, 7, 8, 9, 10, 11, 12, 13, 14, 15, 16, 17, 18, 4, 19, 20, 21, 22, 23, 24, 25, 26, 27, 28, 29, 30, 31, 32, 33, 34, 35, 36, 37, 38, 39, 40, 41, 42, 43, 44, 45, 46, 47, 48, 49, 50, 51, 52, 53, 54, 55, 56, 57, 58] (by decide +kernel) (by decide +kernel)
set_option maxRecDepth 20000 in
theorem gX3_settle_X3_settleHolding : GoodIn wsX3_settle (wsV RX3 31 RX3 yX3_settleHolding wsX3_settleHolding) := goodIn_app (goodIn_of _ (by decide +kernel)) ggX3_settle_X3_settleHolding
theorem dX3_settle_0 : decode cX3_settle 0 = .ok (.aload_n 0, 1) := by decide +kernel
theorem dX3_settle_1 : decode cX3_settle 1 = .ok (.aload_n 1, 1) := by decide +kernel
theorem dX3_settle_2 : decode cX3_settle 2 = .ok (.aload_n 2, 1) := by decide +kernel
theorem dX3_settle_3 : decode cX3_settle 3 = .ok (.iconst (-1), 1) := by decide +kernel
theorem dX3_settle_4 : decode cX3_settle 4 = .ok (.iconst 0, 1) := by decide +kernel
theorem dX3_settle_5 : decode cX3_settle 5 = .ok (.invokevirtual 31, 3) := by decide +kernel
theorem dX3_settle_8 : decode cX3_settle 8 = .ok (.return_, 1) := by decide +kernel
set_option maxRecDepth 20000 in
theorem ggX3_settleHolding_X2_allSet : GoodIn wsX3_settleHolding wsX2_allSet := goodIn_r _ [9, 10, 41, 42, 43, 44, 45, 46, 47, 48] (by decide +kernel) (by decide +kernel)
set_option maxRecDepth 20000 in
theorem gX3_settleHolding_X2_allSet : GoodIn wsX3_settleHolding (wsV RX3 35 RX2 yX2_allSet wsX2_allSet) := goodIn_app (goodIn_of _ (by decide +kernel)) ggX3_settleHolding_X2_allSet
set_option maxRecDepth 20000 in
theorem ggX3_settleHolding_X3_fillSystem : GoodIn wsX3_settleHolding wsX3_fillSystem := goodIn_r _ [15, 3, 16, 4, 17, 18, 19, 20, 2, 41, 42, 43, 44, 45, 46, 47, 48, 49, 50, 51, 52, 53, 54] (by decide +kernel) (by decide +kernel)
set_option maxRecDepth 20000 in
theorem gX3_settleHolding_X3_fillSystem : GoodIn wsX3_settleHolding (wsV RX3 45 RX3 yX3_fillSystem wsX3_fillSystem) := goodIn_app (goodIn_of _ (by decide +kernel)) ggX3_settleHolding_X3_fillSystem
set_option maxRecDepth 20000 in
theorem ggX3_settleHolding_X3_fillArcs : GoodIn wsX3_settleHolding wsX3_fillArcs := goodIn_r _ [24, 25, 20, 26, 49, 50, 51, 52, 53, 54] (by decide +kernel) (by decide +kernel)
set_option maxRecDepth 20000 in
theorem gX3_settleHolding_X3_fillArcs : GoodIn wsX3_settleHolding (wsV RX3 54 RX3 yX3_fillArcs wsX3_fillArcs) := goodIn_app (goodIn_of _ (by decide +kernel)) ggX3_settleHolding_X3_fillArcs
set_option maxRecDepth 20000 in
theorem ggX3_settleHolding_X3_solve : GoodIn wsX3_settleHolding wsX3_solve := goodIn_r _ [30, 20, 25, 16, 26, 31, 2, 32, 49, 50, 51, 52, 53, 54] (by decide +kernel) (by decide +kernel)
set_option maxRecDepth 20000 in
theorem gX3_settleHolding_X3_solve : GoodIn wsX3_settleHolding (wsV RX3 58 RX3 yX3_solve wsX3_solve) := goodIn_app (goodIn_of _ (by decide +kernel)) ggX3_settleHolding_X3_solve
set_option maxRecDepth 20000 in
theorem ggX3_settleHolding_X3_liftedSet : GoodIn wsX3_settleHolding wsX3_liftedSet := goodIn_r _ [36, 3, 32, 41, 42, 43, 44, 45, 46, 47, 48, 49, 50, 51, 52, 53, 54] (by decide +kernel) (by decide +kernel)
set_option maxRecDepth 20000 in
theorem gX3_settleHolding_X3_liftedSet : GoodIn wsX3_settleHolding (wsV RX3 61 RX3 yX3_liftedSet wsX3_liftedSet) := goodIn_app (goodIn_of _ (by decide +kernel)) ggX3_settleHolding_X3_liftedSet
set_option maxRecDepth 20000 in
theorem ggX3_settleHolding_X3_aboveTurnsSet : GoodIn wsX3_settleHolding wsX3_aboveTurnsSet := goodIn_r _ [40, 3, 32, 31, 18, 41, 42, 43, 44, 45, 46, 47, 48, 49, 50, 51, 52, 53, 54] (by decide +kernel) (by decide +kernel)
set_option maxRecDepth 20000 in
theorem gX3_settleHolding_X3_aboveTurnsSet : GoodIn wsX3_settleHolding (wsV RX3 65 RX3 yX3_aboveTurnsSet wsX3_aboveTurnsSet) := goodIn_app (goodIn_of _ (by decide +kernel)) ggX3_settleHolding_X3_aboveTurnsSet
theorem dX3_settleHolding_0 : decode cX3_settleHolding 0 = .ok (.aload_n 1, 1) := by decide +kernel
theorem dX3_settleHolding_1 : decode cX3_settleHolding 1 = .ok (.invokevirtual 35, 3) := by decide +kernel
theorem dX3_settleHolding_4 : decode cX3_settleHolding 4 = .ok (.aload_n 1, 1) := by decide +kernel
theorem dX3_settleHolding_5 : decode cX3_settleHolding 5 = .ok (.getfield 41, 3) := by decide +kernel
theorem dX3_settleHolding_8 : decode cX3_settleHolding 8 = .ok (.iconst (-1), 1) := by decide +kernel
theorem dX3_settleHolding_9 : decode cX3_settleHolding 9 = .ok (.ixor, 1) := by decide +kernel
theorem dX3_settleHolding_10 : decode cX3_settleHolding 10 = .ok (.iand, 1) := by decide +kernel
theorem dX3_settleHolding_11 : decode cX3_settleHolding 11 = .ok (.istore 5, 2) := by decide +kernel
theorem dX3_settleHolding_13 : decode cX3_settleHolding 13 = .ok (.iload_n 3, 1) := by decide +kernel
theorem dX3_settleHolding_14 : decode cX3_settleHolding 14 = .ok (.iconst (-1), 1) := by decide +kernel
theorem dX3_settleHolding_15 : decode cX3_settleHolding 15 = .ok (.if_icmp .eq 13, 3) := by decide +kernel
theorem dX3_settleHolding_18 : decode cX3_settleHolding 18 = .ok (.iload 5, 2) := by decide +kernel
theorem dX3_settleHolding_20 : decode cX3_settleHolding 20 = .ok (.iconst 1, 1) := by decide +kernel
theorem dX3_settleHolding_21 : decode cX3_settleHolding 21 = .ok (.iload_n 3, 1) := by decide +kernel
theorem dX3_settleHolding_22 : decode cX3_settleHolding 22 = .ok (.ishl, 1) := by decide +kernel
theorem dX3_settleHolding_23 : decode cX3_settleHolding 23 = .ok (.iconst (-1), 1) := by decide +kernel
theorem dX3_settleHolding_24 : decode cX3_settleHolding 24 = .ok (.ixor, 1) := by decide +kernel
theorem dX3_settleHolding_25 : decode cX3_settleHolding 25 = .ok (.iand, 1) := by decide +kernel
theorem dX3_settleHolding_26 : decode cX3_settleHolding 26 = .ok (.istore 5, 2) := by decide +kernel
theorem dX3_settleHolding_28 : decode cX3_settleHolding 28 = .ok (.aload_n 1, 1) := by decide +kernel
theorem dX3_settleHolding_29 : decode cX3_settleHolding 29 = .ok (.invokevirtual 35, 3) := by decide +kernel
theorem dX3_settleHolding_32 : decode cX3_settleHolding 32 = .ok (.istore 6, 2) := by decide +kernel
theorem dX3_settleHolding_34 : decode cX3_settleHolding 34 = .ok (.iconst 0, 1) := by decide +kernel
theorem dX3_settleHolding_35 : decode cX3_settleHolding 35 = .ok (.istore 7, 2) := by decide +kernel
theorem dX3_settleHolding_37 : decode cX3_settleHolding 37 = .ok (.iload 7, 2) := by decide +kernel
theorem dX3_settleHolding_39 : decode cX3_settleHolding 39 = .ok (.sipush 200, 3) := by decide +kernel
theorem dX3_settleHolding_42 : decode cX3_settleHolding 42 = .ok (.if_icmp .ge 109, 3) := by decide +kernel
theorem dX3_settleHolding_45 : decode cX3_settleHolding 45 = .ok (.aload_n 0, 1) := by decide +kernel
theorem dX3_settleHolding_46 : decode cX3_settleHolding 46 = .ok (.aload_n 1, 1) := by decide +kernel
theorem dX3_settleHolding_47 : decode cX3_settleHolding 47 = .ok (.aload_n 2, 1) := by decide +kernel
theorem dX3_settleHolding_48 : decode cX3_settleHolding 48 = .ok (.iload 5, 2) := by decide +kernel
theorem dX3_settleHolding_50 : decode cX3_settleHolding 50 = .ok (.iload 6, 2) := by decide +kernel
theorem dX3_settleHolding_52 : decode cX3_settleHolding 52 = .ok (.invokevirtual 45, 3) := by decide +kernel
theorem dX3_settleHolding_55 : decode cX3_settleHolding 55 = .ok (.iload_n 3, 1) := by decide +kernel
theorem dX3_settleHolding_56 : decode cX3_settleHolding 56 = .ok (.iconst (-1), 1) := by decide +kernel
theorem dX3_settleHolding_57 : decode cX3_settleHolding 57 = .ok (.if_icmp .eq 15, 3) := by decide +kernel
theorem dX3_settleHolding_60 : decode cX3_settleHolding 60 = .ok (.aload_n 0, 1) := by decide +kernel
theorem dX3_settleHolding_61 : decode cX3_settleHolding 61 = .ok (.getfield 22, 3) := by decide +kernel
theorem dX3_settleHolding_64 : decode cX3_settleHolding 64 = .ok (.iload_n 3, 1) := by decide +kernel
theorem dX3_settleHolding_65 : decode cX3_settleHolding 65 = .ok (.dup2, 1) := by decide +kernel
theorem dX3_settleHolding_66 : decode cX3_settleHolding 66 = .ok (.laload, 1) := by decide +kernel
theorem dX3_settleHolding_67 : decode cX3_settleHolding 67 = .ok (.iload 4, 2) := by decide +kernel
theorem dX3_settleHolding_69 : decode cX3_settleHolding 69 = .ok (.i2l, 1) := by decide +kernel
theorem dX3_settleHolding_70 : decode cX3_settleHolding 70 = .ok (.ladd, 1) := by decide +kernel
theorem dX3_settleHolding_71 : decode cX3_settleHolding 71 = .ok (.lastore, 1) := by decide +kernel
theorem dX3_settleHolding_72 : decode cX3_settleHolding 72 = .ok (.aload_n 0, 1) := by decide +kernel
theorem dX3_settleHolding_73 : decode cX3_settleHolding 73 = .ok (.aload_n 1, 1) := by decide +kernel
theorem dX3_settleHolding_74 : decode cX3_settleHolding 74 = .ok (.getfield 48, 3) := by decide +kernel
theorem dX3_settleHolding_77 : decode cX3_settleHolding 77 = .ok (.aload_n 1, 1) := by decide +kernel
theorem dX3_settleHolding_78 : decode cX3_settleHolding 78 = .ok (.getfield 51, 3) := by decide +kernel
theorem dX3_settleHolding_81 : decode cX3_settleHolding 81 = .ok (.invokevirtual 54, 3) := by decide +kernel
theorem dX3_settleHolding_84 : decode cX3_settleHolding 84 = .ok (.aload_n 0, 1) := by decide +kernel
theorem dX3_settleHolding_85 : decode cX3_settleHolding 85 = .ok (.aload_n 1, 1) := by decide +kernel
theorem dX3_settleHolding_86 : decode cX3_settleHolding 86 = .ok (.getfield 48, 3) := by decide +kernel
theorem dX3_settleHolding_89 : decode cX3_settleHolding 89 = .ok (.aload_n 1, 1) := by decide +kernel
theorem dX3_settleHolding_90 : decode cX3_settleHolding 90 = .ok (.getfield 51, 3) := by decide +kernel
theorem dX3_settleHolding_93 : decode cX3_settleHolding 93 = .ok (.invokevirtual 58, 3) := by decide +kernel
theorem dX3_settleHolding_96 : decode cX3_settleHolding 96 = .ok (.aload_n 0, 1) := by decide +kernel
theorem dX3_settleHolding_97 : decode cX3_settleHolding 97 = .ok (.aload_n 1, 1) := by decide +kernel
theorem dX3_settleHolding_98 : decode cX3_settleHolding 98 = .ok (.invokevirtual 61, 3) := by decide +kernel
theorem dX3_settleHolding_101 : decode cX3_settleHolding 101 = .ok (.istore 8, 2) := by decide +kernel
theorem dX3_settleHolding_103 : decode cX3_settleHolding 103 = .ok (.iload 5, 2) := by decide +kernel
theorem dX3_settleHolding_105 : decode cX3_settleHolding 105 = .ok (.aload_n 0, 1) := by decide +kernel
theorem dX3_settleHolding_106 : decode cX3_settleHolding 106 = .ok (.aload_n 1, 1) := by decide +kernel
theorem dX3_settleHolding_107 : decode cX3_settleHolding 107 = .ok (.invokevirtual 65, 3) := by decide +kernel
theorem dX3_settleHolding_110 : decode cX3_settleHolding 110 = .ok (.iand, 1) := by decide +kernel
theorem dX3_settleHolding_111 : decode cX3_settleHolding 111 = .ok (.istore 9, 2) := by decide +kernel
theorem dX3_settleHolding_113 : decode cX3_settleHolding 113 = .ok (.iload 8, 2) := by decide +kernel
theorem dX3_settleHolding_115 : decode cX3_settleHolding 115 = .ok (.iload 6, 2) := by decide +kernel
theorem dX3_settleHolding_117 : decode cX3_settleHolding 117 = .ok (.if_icmp .eq 10, 3) := by decide +kernel
theorem dX3_settleHolding_120 : decode cX3_settleHolding 120 = .ok (.iload 8, 2) := by decide +kernel
theorem dX3_settleHolding_122 : decode cX3_settleHolding 122 = .ok (.istore 6, 2) := by decide +kernel
theorem dX3_settleHolding_124 : decode cX3_settleHolding 124 = .ok (.goto 21, 3) := by decide +kernel
theorem dX3_settleHolding_127 : decode cX3_settleHolding 127 = .ok (.iload 9, 2) := by decide +kernel
theorem dX3_settleHolding_129 : decode cX3_settleHolding 129 = .ok (.ifCond .eq 15, 3) := by decide +kernel
theorem dX3_settleHolding_132 : decode cX3_settleHolding 132 = .ok (.iload 5, 2) := by decide +kernel
theorem dX3_settleHolding_134 : decode cX3_settleHolding 134 = .ok (.iload 9, 2) := by decide +kernel
theorem dX3_settleHolding_136 : decode cX3_settleHolding 136 = .ok (.iconst (-1), 1) := by decide +kernel
theorem dX3_settleHolding_137 : decode cX3_settleHolding 137 = .ok (.ixor, 1) := by decide +kernel
theorem dX3_settleHolding_138 : decode cX3_settleHolding 138 = .ok (.iand, 1) := by decide +kernel
theorem dX3_settleHolding_139 : decode cX3_settleHolding 139 = .ok (.istore 5, 2) := by decide +kernel
theorem dX3_settleHolding_141 : decode cX3_settleHolding 141 = .ok (.goto 4, 3) := by decide +kernel
theorem dX3_settleHolding_144 : decode cX3_settleHolding 144 = .ok (.return_, 1) := by decide +kernel
theorem dX3_settleHolding_145 : decode cX3_settleHolding 145 = .ok (.iinc 7 1, 3) := by decide +kernel
theorem dX3_settleHolding_148 : decode cX3_settleHolding 148 = .ok (.goto (-111), 3) := by decide +kernel
theorem dX3_settleHolding_151 : decode cX3_settleHolding 151 = .ok (.return_, 1) := by decide +kernel
theorem dX3_fillSystem_0 : decode cX3_fillSystem 0 = .ok (.iconst 0, 1) := by decide +kernel
theorem dX3_fillSystem_1 : decode cX3_fillSystem 1 = .ok (.istore 5, 2) := by decide +kernel
theorem dX3_fillSystem_3 : decode cX3_fillSystem 3 = .ok (.iload 5, 2) := by decide +kernel
theorem dX3_fillSystem_5 : decode cX3_fillSystem 5 = .ok (.aload_n 1, 1) := by decide +kernel
theorem dX3_fillSystem_6 : decode cX3_fillSystem 6 = .ok (.getfield 48, 3) := by decide +kernel
theorem dX3_fillSystem_9 : decode cX3_fillSystem 9 = .ok (.if_icmp .ge 113, 3) := by decide +kernel
theorem dX3_fillSystem_12 : decode cX3_fillSystem 12 = .ok (.ldc2_w 68, 3) := by decide +kernel
theorem dX3_fillSystem_15 : decode cX3_fillSystem 15 = .ok (.aload_n 1, 1) := by decide +kernel
theorem dX3_fillSystem_16 : decode cX3_fillSystem 16 = .ok (.getfield 51, 3) := by decide +kernel
theorem dX3_fillSystem_19 : decode cX3_fillSystem 19 = .ok (.i2l, 1) := by decide +kernel
theorem dX3_fillSystem_20 : decode cX3_fillSystem 20 = .ok (.lmul, 1) := by decide +kernel
theorem dX3_fillSystem_21 : decode cX3_fillSystem 21 = .ok (.lstore 6, 2) := by decide +kernel
theorem dX3_fillSystem_23 : decode cX3_fillSystem 23 = .ok (.aload_n 2, 1) := by decide +kernel
theorem dX3_fillSystem_24 : decode cX3_fillSystem 24 = .ok (.iload 5, 2) := by decide +kernel
theorem dX3_fillSystem_26 : decode cX3_fillSystem 26 = .ok (.iaload, 1) := by decide +kernel
theorem dX3_fillSystem_27 : decode cX3_fillSystem 27 = .ok (.ineg, 1) := by decide +kernel
theorem dX3_fillSystem_28 : decode cX3_fillSystem 28 = .ok (.i2l, 1) := by decide +kernel
theorem dX3_fillSystem_29 : decode cX3_fillSystem 29 = .ok (.lstore 8, 2) := by decide +kernel
theorem dX3_fillSystem_31 : decode cX3_fillSystem 31 = .ok (.iload_n 3, 1) := by decide +kernel
theorem dX3_fillSystem_32 : decode cX3_fillSystem 32 = .ok (.iload 5, 2) := by decide +kernel
theorem dX3_fillSystem_34 : decode cX3_fillSystem 34 = .ok (.ishr, 1) := by decide +kernel
theorem dX3_fillSystem_35 : decode cX3_fillSystem 35 = .ok (.iconst 1, 1) := by decide +kernel
theorem dX3_fillSystem_36 : decode cX3_fillSystem 36 = .ok (.iand, 1) := by decide +kernel
theorem dX3_fillSystem_37 : decode cX3_fillSystem 37 = .ok (.ifCond .eq 38, 3) := by decide +kernel
theorem dX3_fillSystem_40 : decode cX3_fillSystem 40 = .ok (.lload 6, 2) := by decide +kernel
theorem dX3_fillSystem_42 : decode cX3_fillSystem 42 = .ok (.aload_n 1, 1) := by decide +kernel
theorem dX3_fillSystem_43 : decode cX3_fillSystem 43 = .ok (.getfield 70, 3) := by decide +kernel
theorem dX3_fillSystem_46 : decode cX3_fillSystem 46 = .ok (.iload 5, 2) := by decide +kernel
theorem dX3_fillSystem_48 : decode cX3_fillSystem 48 = .ok (.iaload, 1) := by decide +kernel
theorem dX3_fillSystem_49 : decode cX3_fillSystem 49 = .ok (.i2l, 1) := by decide +kernel
theorem dX3_fillSystem_50 : decode cX3_fillSystem 50 = .ok (.ladd, 1) := by decide +kernel
theorem dX3_fillSystem_51 : decode cX3_fillSystem 51 = .ok (.lstore 6, 2) := by decide +kernel
theorem dX3_fillSystem_53 : decode cX3_fillSystem 53 = .ok (.lload 8, 2) := by decide +kernel
theorem dX3_fillSystem_55 : decode cX3_fillSystem 55 = .ok (.aload_n 1, 1) := by decide +kernel
theorem dX3_fillSystem_56 : decode cX3_fillSystem 56 = .ok (.getfield 70, 3) := by decide +kernel
theorem dX3_fillSystem_59 : decode cX3_fillSystem 59 = .ok (.iload 5, 2) := by decide +kernel
theorem dX3_fillSystem_61 : decode cX3_fillSystem 61 = .ok (.iaload, 1) := by decide +kernel
theorem dX3_fillSystem_62 : decode cX3_fillSystem 62 = .ok (.i2l, 1) := by decide +kernel
theorem dX3_fillSystem_63 : decode cX3_fillSystem 63 = .ok (.aload_n 1, 1) := by decide +kernel
theorem dX3_fillSystem_64 : decode cX3_fillSystem 64 = .ok (.getfield 74, 3) := by decide +kernel
theorem dX3_fillSystem_67 : decode cX3_fillSystem 67 = .ok (.iload 5, 2) := by decide +kernel
theorem dX3_fillSystem_69 : decode cX3_fillSystem 69 = .ok (.iaload, 1) := by decide +kernel
theorem dX3_fillSystem_70 : decode cX3_fillSystem 70 = .ok (.i2l, 1) := by decide +kernel
theorem dX3_fillSystem_71 : decode cX3_fillSystem 71 = .ok (.lmul, 1) := by decide +kernel
theorem dX3_fillSystem_72 : decode cX3_fillSystem 72 = .ok (.ladd, 1) := by decide +kernel
theorem dX3_fillSystem_73 : decode cX3_fillSystem 73 = .ok (.lstore 8, 2) := by decide +kernel
theorem dX3_fillSystem_75 : decode cX3_fillSystem 75 = .ok (.iload 4, 2) := by decide +kernel
theorem dX3_fillSystem_77 : decode cX3_fillSystem 77 = .ok (.iload 5, 2) := by decide +kernel
theorem dX3_fillSystem_79 : decode cX3_fillSystem 79 = .ok (.ishr, 1) := by decide +kernel
theorem dX3_fillSystem_80 : decode cX3_fillSystem 80 = .ok (.iconst 1, 1) := by decide +kernel
theorem dX3_fillSystem_81 : decode cX3_fillSystem 81 = .ok (.iand, 1) := by decide +kernel
theorem dX3_fillSystem_82 : decode cX3_fillSystem 82 = .ok (.ifCond .eq 16, 3) := by decide +kernel
theorem dX3_fillSystem_85 : decode cX3_fillSystem 85 = .ok (.lload 6, 2) := by decide +kernel
theorem dX3_fillSystem_87 : decode cX3_fillSystem 87 = .ok (.aload_n 1, 1) := by decide +kernel
theorem dX3_fillSystem_88 : decode cX3_fillSystem 88 = .ok (.getfield 77, 3) := by decide +kernel
theorem dX3_fillSystem_91 : decode cX3_fillSystem 91 = .ok (.iload 5, 2) := by decide +kernel
theorem dX3_fillSystem_93 : decode cX3_fillSystem 93 = .ok (.iaload, 1) := by decide +kernel
theorem dX3_fillSystem_94 : decode cX3_fillSystem 94 = .ok (.i2l, 1) := by decide +kernel
theorem dX3_fillSystem_95 : decode cX3_fillSystem 95 = .ok (.ladd, 1) := by decide +kernel
theorem dX3_fillSystem_96 : decode cX3_fillSystem 96 = .ok (.lstore 6, 2) := by decide +kernel
theorem dX3_fillSystem_98 : decode cX3_fillSystem 98 = .ok (.aload_n 0, 1) := by decide +kernel
theorem dX3_fillSystem_99 : decode cX3_fillSystem 99 = .ok (.getfield 19, 3) := by decide +kernel
theorem dX3_fillSystem_102 : decode cX3_fillSystem 102 = .ok (.iload 5, 2) := by decide +kernel
theorem dX3_fillSystem_104 : decode cX3_fillSystem 104 = .ok (.lload 6, 2) := by decide +kernel
theorem dX3_fillSystem_106 : decode cX3_fillSystem 106 = .ok (.lastore, 1) := by decide +kernel
theorem dX3_fillSystem_107 : decode cX3_fillSystem 107 = .ok (.aload_n 0, 1) := by decide +kernel
theorem dX3_fillSystem_108 : decode cX3_fillSystem 108 = .ok (.getfield 22, 3) := by decide +kernel
theorem dX3_fillSystem_111 : decode cX3_fillSystem 111 = .ok (.iload 5, 2) := by decide +kernel
theorem dX3_fillSystem_113 : decode cX3_fillSystem 113 = .ok (.lload 8, 2) := by decide +kernel
theorem dX3_fillSystem_115 : decode cX3_fillSystem 115 = .ok (.lastore, 1) := by decide +kernel
theorem dX3_fillSystem_116 : decode cX3_fillSystem 116 = .ok (.iinc 5 1, 3) := by decide +kernel
theorem dX3_fillSystem_119 : decode cX3_fillSystem 119 = .ok (.goto (-116), 3) := by decide +kernel
theorem dX3_fillSystem_122 : decode cX3_fillSystem 122 = .ok (.return_, 1) := by decide +kernel
theorem dX3_fillArcs_0 : decode cX3_fillArcs 0 = .ok (.iload_n 2, 1) := by decide +kernel
theorem dX3_fillArcs_1 : decode cX3_fillArcs 1 = .ok (.i2l, 1) := by decide +kernel
theorem dX3_fillArcs_2 : decode cX3_fillArcs 2 = .ok (.iload_n 2, 1) := by decide +kernel
theorem dX3_fillArcs_3 : decode cX3_fillArcs 3 = .ok (.i2l, 1) := by decide +kernel
theorem dX3_fillArcs_4 : decode cX3_fillArcs 4 = .ok (.lmul, 1) := by decide +kernel
theorem dX3_fillArcs_5 : decode cX3_fillArcs 5 = .ok (.lstore_n 3, 1) := by decide +kernel
theorem dX3_fillArcs_6 : decode cX3_fillArcs 6 = .ok (.iconst 0, 1) := by decide +kernel
theorem dX3_fillArcs_7 : decode cX3_fillArcs 7 = .ok (.istore 5, 2) := by decide +kernel
theorem dX3_fillArcs_9 : decode cX3_fillArcs 9 = .ok (.iload 5, 2) := by decide +kernel
theorem dX3_fillArcs_11 : decode cX3_fillArcs 11 = .ok (.iload_n 1, 1) := by decide +kernel
theorem dX3_fillArcs_12 : decode cX3_fillArcs 12 = .ok (.if_icmp .ge 122, 3) := by decide +kernel
theorem dX3_fillArcs_15 : decode cX3_fillArcs 15 = .ok (.bipush 6, 2) := by decide +kernel
theorem dX3_fillArcs_17 : decode cX3_fillArcs 17 = .ok (.iload 5, 2) := by decide +kernel
theorem dX3_fillArcs_19 : decode cX3_fillArcs 19 = .ok (.imul, 1) := by decide +kernel
theorem dX3_fillArcs_20 : decode cX3_fillArcs 20 = .ok (.istore 6, 2) := by decide +kernel
theorem dX3_fillArcs_22 : decode cX3_fillArcs 22 = .ok (.aload_n 0, 1) := by decide +kernel
theorem dX3_fillArcs_23 : decode cX3_fillArcs 23 = .ok (.getfield 28, 3) := by decide +kernel
theorem dX3_fillArcs_26 : decode cX3_fillArcs 26 = .ok (.iload 6, 2) := by decide +kernel
theorem dX3_fillArcs_28 : decode cX3_fillArcs 28 = .ok (.lconst 1, 1) := by decide +kernel
theorem dX3_fillArcs_29 : decode cX3_fillArcs 29 = .ok (.lastore, 1) := by decide +kernel
theorem dX3_fillArcs_30 : decode cX3_fillArcs 30 = .ok (.aload_n 0, 1) := by decide +kernel
theorem dX3_fillArcs_31 : decode cX3_fillArcs 31 = .ok (.getfield 28, 3) := by decide +kernel
theorem dX3_fillArcs_34 : decode cX3_fillArcs 34 = .ok (.iload 6, 2) := by decide +kernel
theorem dX3_fillArcs_36 : decode cX3_fillArcs 36 = .ok (.iconst 1, 1) := by decide +kernel
theorem dX3_fillArcs_37 : decode cX3_fillArcs 37 = .ok (.iadd, 1) := by decide +kernel
theorem dX3_fillArcs_38 : decode cX3_fillArcs 38 = .ok (.aload_n 0, 1) := by decide +kernel
theorem dX3_fillArcs_39 : decode cX3_fillArcs 39 = .ok (.getfield 19, 3) := by decide +kernel
theorem dX3_fillArcs_42 : decode cX3_fillArcs 42 = .ok (.iload 5, 2) := by decide +kernel
theorem dX3_fillArcs_44 : decode cX3_fillArcs 44 = .ok (.laload, 1) := by decide +kernel
theorem dX3_fillArcs_45 : decode cX3_fillArcs 45 = .ok (.lastore, 1) := by decide +kernel
theorem dX3_fillArcs_46 : decode cX3_fillArcs 46 = .ok (.iload 5, 2) := by decide +kernel
theorem dX3_fillArcs_48 : decode cX3_fillArcs 48 = .ok (.istore 7, 2) := by decide +kernel
theorem dX3_fillArcs_50 : decode cX3_fillArcs 50 = .ok (.iconst 2, 1) := by decide +kernel
theorem dX3_fillArcs_51 : decode cX3_fillArcs 51 = .ok (.istore 8, 2) := by decide +kernel
theorem dX3_fillArcs_53 : decode cX3_fillArcs 53 = .ok (.iload 8, 2) := by decide +kernel
theorem dX3_fillArcs_55 : decode cX3_fillArcs 55 = .ok (.iload_n 1, 1) := by decide +kernel
theorem dX3_fillArcs_56 : decode cX3_fillArcs 56 = .ok (.if_icmp .ge 72, 3) := by decide +kernel
theorem dX3_fillArcs_59 : decode cX3_fillArcs 59 = .ok (.iload 7, 2) := by decide +kernel
theorem dX3_fillArcs_61 : decode cX3_fillArcs 61 = .ok (.iconst 1, 1) := by decide +kernel
theorem dX3_fillArcs_62 : decode cX3_fillArcs 62 = .ok (.iadd, 1) := by decide +kernel
theorem dX3_fillArcs_63 : decode cX3_fillArcs 63 = .ok (.iload_n 1, 1) := by decide +kernel
theorem dX3_fillArcs_64 : decode cX3_fillArcs 64 = .ok (.if_icmp .ge 10, 3) := by decide +kernel
theorem dX3_fillArcs_67 : decode cX3_fillArcs 67 = .ok (.iload 7, 2) := by decide +kernel
theorem dX3_fillArcs_69 : decode cX3_fillArcs 69 = .ok (.iconst 1, 1) := by decide +kernel
theorem dX3_fillArcs_70 : decode cX3_fillArcs 70 = .ok (.iadd, 1) := by decide +kernel
theorem dX3_fillArcs_71 : decode cX3_fillArcs 71 = .ok (.goto 4, 3) := by decide +kernel
theorem dX3_fillArcs_74 : decode cX3_fillArcs 74 = .ok (.iconst 0, 1) := by decide +kernel
theorem dX3_fillArcs_75 : decode cX3_fillArcs 75 = .ok (.istore 7, 2) := by decide +kernel
theorem dX3_fillArcs_77 : decode cX3_fillArcs 77 = .ok (.aload_n 0, 1) := by decide +kernel
theorem dX3_fillArcs_78 : decode cX3_fillArcs 78 = .ok (.getfield 28, 3) := by decide +kernel
theorem dX3_fillArcs_81 : decode cX3_fillArcs 81 = .ok (.iload 6, 2) := by decide +kernel
theorem dX3_fillArcs_83 : decode cX3_fillArcs 83 = .ok (.iload 8, 2) := by decide +kernel
theorem dX3_fillArcs_85 : decode cX3_fillArcs 85 = .ok (.iadd, 1) := by decide +kernel
theorem dX3_fillArcs_86 : decode cX3_fillArcs 86 = .ok (.aload_n 0, 1) := by decide +kernel
theorem dX3_fillArcs_87 : decode cX3_fillArcs 87 = .ok (.getfield 19, 3) := by decide +kernel
theorem dX3_fillArcs_90 : decode cX3_fillArcs 90 = .ok (.iload 7, 2) := by decide +kernel
theorem dX3_fillArcs_92 : decode cX3_fillArcs 92 = .ok (.laload, 1) := by decide +kernel
theorem dX3_fillArcs_93 : decode cX3_fillArcs 93 = .ok (.aload_n 0, 1) := by decide +kernel
theorem dX3_fillArcs_94 : decode cX3_fillArcs 94 = .ok (.getfield 28, 3) := by decide +kernel
theorem dX3_fillArcs_97 : decode cX3_fillArcs 97 = .ok (.iload 6, 2) := by decide +kernel
theorem dX3_fillArcs_99 : decode cX3_fillArcs 99 = .ok (.iload 8, 2) := by decide +kernel
theorem dX3_fillArcs_101 : decode cX3_fillArcs 101 = .ok (.iadd, 1) := by decide +kernel
theorem dX3_fillArcs_102 : decode cX3_fillArcs 102 = .ok (.iconst 1, 1) := by decide +kernel
theorem dX3_fillArcs_103 : decode cX3_fillArcs 103 = .ok (.isub, 1) := by decide +kernel
theorem dX3_fillArcs_104 : decode cX3_fillArcs 104 = .ok (.laload, 1) := by decide +kernel
theorem dX3_fillArcs_105 : decode cX3_fillArcs 105 = .ok (.lmul, 1) := by decide +kernel
theorem dX3_fillArcs_106 : decode cX3_fillArcs 106 = .ok (.lload_n 3, 1) := by decide +kernel
theorem dX3_fillArcs_107 : decode cX3_fillArcs 107 = .ok (.aload_n 0, 1) := by decide +kernel
theorem dX3_fillArcs_108 : decode cX3_fillArcs 108 = .ok (.getfield 28, 3) := by decide +kernel
theorem dX3_fillArcs_111 : decode cX3_fillArcs 111 = .ok (.iload 6, 2) := by decide +kernel
theorem dX3_fillArcs_113 : decode cX3_fillArcs 113 = .ok (.iload 8, 2) := by decide +kernel
theorem dX3_fillArcs_115 : decode cX3_fillArcs 115 = .ok (.iadd, 1) := by decide +kernel
theorem dX3_fillArcs_116 : decode cX3_fillArcs 116 = .ok (.iconst 2, 1) := by decide +kernel
theorem dX3_fillArcs_117 : decode cX3_fillArcs 117 = .ok (.isub, 1) := by decide +kernel
theorem dX3_fillArcs_118 : decode cX3_fillArcs 118 = .ok (.laload, 1) := by decide +kernel
theorem dX3_fillArcs_119 : decode cX3_fillArcs 119 = .ok (.lmul, 1) := by decide +kernel
theorem dX3_fillArcs_120 : decode cX3_fillArcs 120 = .ok (.lsub, 1) := by decide +kernel
theorem dX3_fillArcs_121 : decode cX3_fillArcs 121 = .ok (.lastore, 1) := by decide +kernel
theorem dX3_fillArcs_122 : decode cX3_fillArcs 122 = .ok (.iinc 8 1, 3) := by decide +kernel
theorem dX3_fillArcs_125 : decode cX3_fillArcs 125 = .ok (.goto (-72), 3) := by decide +kernel
theorem dX3_fillArcs_128 : decode cX3_fillArcs 128 = .ok (.iinc 5 1, 3) := by decide +kernel
theorem dX3_fillArcs_131 : decode cX3_fillArcs 131 = .ok (.goto (-122), 3) := by decide +kernel
theorem dX3_fillArcs_134 : decode cX3_fillArcs 134 = .ok (.aload_n 0, 1) := by decide +kernel
theorem dX3_fillArcs_135 : decode cX3_fillArcs 135 = .ok (.getfield 25, 3) := by decide +kernel
theorem dX3_fillArcs_138 : decode cX3_fillArcs 138 = .ok (.iconst 0, 1) := by decide +kernel
theorem dX3_fillArcs_139 : decode cX3_fillArcs 139 = .ok (.lconst 1, 1) := by decide +kernel
theorem dX3_fillArcs_140 : decode cX3_fillArcs 140 = .ok (.lastore, 1) := by decide +kernel
theorem dX3_fillArcs_141 : decode cX3_fillArcs 141 = .ok (.iconst 1, 1) := by decide +kernel
theorem dX3_fillArcs_142 : decode cX3_fillArcs 142 = .ok (.istore 5, 2) := by decide +kernel
theorem dX3_fillArcs_144 : decode cX3_fillArcs 144 = .ok (.iload 5, 2) := by decide +kernel
theorem dX3_fillArcs_146 : decode cX3_fillArcs 146 = .ok (.iload_n 1, 1) := by decide +kernel
theorem dX3_fillArcs_147 : decode cX3_fillArcs 147 = .ok (.if_icmp .gt 28, 3) := by decide +kernel
theorem dX3_fillArcs_150 : decode cX3_fillArcs 150 = .ok (.aload_n 0, 1) := by decide +kernel
theorem dX3_fillArcs_151 : decode cX3_fillArcs 151 = .ok (.getfield 25, 3) := by decide +kernel
theorem dX3_fillArcs_154 : decode cX3_fillArcs 154 = .ok (.iload 5, 2) := by decide +kernel
theorem dX3_fillArcs_156 : decode cX3_fillArcs 156 = .ok (.aload_n 0, 1) := by decide +kernel
theorem dX3_fillArcs_157 : decode cX3_fillArcs 157 = .ok (.getfield 25, 3) := by decide +kernel
theorem dX3_fillArcs_160 : decode cX3_fillArcs 160 = .ok (.iload 5, 2) := by decide +kernel
theorem dX3_fillArcs_162 : decode cX3_fillArcs 162 = .ok (.iconst 1, 1) := by decide +kernel
theorem dX3_fillArcs_163 : decode cX3_fillArcs 163 = .ok (.isub, 1) := by decide +kernel
theorem dX3_fillArcs_164 : decode cX3_fillArcs 164 = .ok (.laload, 1) := by decide +kernel
theorem dX3_fillArcs_165 : decode cX3_fillArcs 165 = .ok (.iload_n 2, 1) := by decide +kernel
theorem dX3_fillArcs_166 : decode cX3_fillArcs 166 = .ok (.i2l, 1) := by decide +kernel
theorem dX3_fillArcs_167 : decode cX3_fillArcs 167 = .ok (.lmul, 1) := by decide +kernel
theorem dX3_fillArcs_168 : decode cX3_fillArcs 168 = .ok (.lastore, 1) := by decide +kernel
theorem dX3_fillArcs_169 : decode cX3_fillArcs 169 = .ok (.iinc 5 1, 3) := by decide +kernel
theorem dX3_fillArcs_172 : decode cX3_fillArcs 172 = .ok (.goto (-28), 3) := by decide +kernel
theorem dX3_fillArcs_175 : decode cX3_fillArcs 175 = .ok (.return_, 1) := by decide +kernel
theorem dX3_solve_0 : decode cX3_solve 0 = .ok (.bipush 6, 2) := by decide +kernel
theorem dX3_solve_2 : decode cX3_solve 2 = .ok (.istore_n 3, 1) := by decide +kernel
theorem dX3_solve_3 : decode cX3_solve 3 = .ok (.aload_n 0, 1) := by decide +kernel
theorem dX3_solve_4 : decode cX3_solve 4 = .ok (.aload_n 0, 1) := by decide +kernel
theorem dX3_solve_5 : decode cX3_solve 5 = .ok (.getfield 19, 3) := by decide +kernel
theorem dX3_solve_8 : decode cX3_solve 8 = .ok (.iconst 0, 1) := by decide +kernel
theorem dX3_solve_9 : decode cX3_solve 9 = .ok (.laload, 1) := by decide +kernel
theorem dX3_solve_10 : decode cX3_solve 10 = .ok (.aload_n 0, 1) := by decide +kernel
theorem dX3_solve_11 : decode cX3_solve 11 = .ok (.getfield 28, 3) := by decide +kernel
theorem dX3_solve_14 : decode cX3_solve 14 = .ok (.iload_n 3, 1) := by decide +kernel
theorem dX3_solve_15 : decode cX3_solve 15 = .ok (.iload_n 1, 1) := by decide +kernel
theorem dX3_solve_16 : decode cX3_solve 16 = .ok (.iadd, 1) := by decide +kernel
theorem dX3_solve_17 : decode cX3_solve 17 = .ok (.iconst 1, 1) := by decide +kernel
theorem dX3_solve_18 : decode cX3_solve 18 = .ok (.isub, 1) := by decide +kernel
theorem dX3_solve_19 : decode cX3_solve 19 = .ok (.laload, 1) := by decide +kernel
theorem dX3_solve_20 : decode cX3_solve 20 = .ok (.lmul, 1) := by decide +kernel
theorem dX3_solve_21 : decode cX3_solve 21 = .ok (.ldc2_w 68, 3) := by decide +kernel
theorem dX3_solve_24 : decode cX3_solve 24 = .ok (.aload_n 0, 1) := by decide +kernel
theorem dX3_solve_25 : decode cX3_solve 25 = .ok (.getfield 25, 3) := by decide +kernel
theorem dX3_solve_28 : decode cX3_solve 28 = .ok (.iload_n 1, 1) := by decide +kernel
theorem dX3_solve_29 : decode cX3_solve 29 = .ok (.laload, 1) := by decide +kernel
theorem dX3_solve_30 : decode cX3_solve 30 = .ok (.lmul, 1) := by decide +kernel
theorem dX3_solve_31 : decode cX3_solve 31 = .ok (.lsub, 1) := by decide +kernel
theorem dX3_solve_32 : decode cX3_solve 32 = .ok (.iload_n 2, 1) := by decide +kernel
theorem dX3_solve_33 : decode cX3_solve 33 = .ok (.i2l, 1) := by decide +kernel
theorem dX3_solve_34 : decode cX3_solve 34 = .ok (.iload_n 2, 1) := by decide +kernel
theorem dX3_solve_35 : decode cX3_solve 35 = .ok (.i2l, 1) := by decide +kernel
theorem dX3_solve_36 : decode cX3_solve 36 = .ok (.lmul, 1) := by decide +kernel
theorem dX3_solve_37 : decode cX3_solve 37 = .ok (.aload_n 0, 1) := by decide +kernel
theorem dX3_solve_38 : decode cX3_solve 38 = .ok (.getfield 28, 3) := by decide +kernel
theorem dX3_solve_41 : decode cX3_solve 41 = .ok (.iload_n 3, 1) := by decide +kernel
theorem dX3_solve_42 : decode cX3_solve 42 = .ok (.iload_n 1, 1) := by decide +kernel
theorem dX3_solve_43 : decode cX3_solve 43 = .ok (.iadd, 1) := by decide +kernel
theorem dX3_solve_44 : decode cX3_solve 44 = .ok (.iconst 2, 1) := by decide +kernel
theorem dX3_solve_45 : decode cX3_solve 45 = .ok (.isub, 1) := by decide +kernel
theorem dX3_solve_46 : decode cX3_solve 46 = .ok (.laload, 1) := by decide +kernel
theorem dX3_solve_47 : decode cX3_solve 47 = .ok (.aload_n 0, 1) := by decide +kernel
theorem dX3_solve_48 : decode cX3_solve 48 = .ok (.getfield 28, 3) := by decide +kernel
theorem dX3_solve_51 : decode cX3_solve 51 = .ok (.bipush 12, 2) := by decide +kernel
theorem dX3_solve_53 : decode cX3_solve 53 = .ok (.iload_n 1, 1) := by decide +kernel
theorem dX3_solve_54 : decode cX3_solve 54 = .ok (.iadd, 1) := by decide +kernel
theorem dX3_solve_55 : decode cX3_solve 55 = .ok (.iconst 2, 1) := by decide +kernel
theorem dX3_solve_56 : decode cX3_solve 56 = .ok (.isub, 1) := by decide +kernel
theorem dX3_solve_57 : decode cX3_solve 57 = .ok (.laload, 1) := by decide +kernel
theorem dX3_solve_58 : decode cX3_solve 58 = .ok (.ladd, 1) := by decide +kernel
theorem dX3_solve_59 : decode cX3_solve 59 = .ok (.lmul, 1) := by decide +kernel
theorem dX3_solve_60 : decode cX3_solve 60 = .ok (.lsub, 1) := by decide +kernel
theorem dX3_solve_61 : decode cX3_solve 61 = .ok (.putfield 15, 3) := by decide +kernel
theorem dX3_solve_64 : decode cX3_solve 64 = .ok (.iconst 0, 1) := by decide +kernel
theorem dX3_solve_65 : decode cX3_solve 65 = .ok (.istore 4, 2) := by decide +kernel
theorem dX3_solve_67 : decode cX3_solve 67 = .ok (.iload 4, 2) := by decide +kernel
theorem dX3_solve_69 : decode cX3_solve 69 = .ok (.iload_n 1, 1) := by decide +kernel
theorem dX3_solve_70 : decode cX3_solve 70 = .ok (.if_icmp .ge 184, 3) := by decide +kernel
theorem dX3_solve_73 : decode cX3_solve 73 = .ok (.bipush 6, 2) := by decide +kernel
theorem dX3_solve_75 : decode cX3_solve 75 = .ok (.iload 4, 2) := by decide +kernel
theorem dX3_solve_77 : decode cX3_solve 77 = .ok (.iconst 1, 1) := by decide +kernel
theorem dX3_solve_78 : decode cX3_solve 78 = .ok (.iadd, 1) := by decide +kernel
theorem dX3_solve_79 : decode cX3_solve 79 = .ok (.iload_n 1, 1) := by decide +kernel
theorem dX3_solve_80 : decode cX3_solve 80 = .ok (.if_icmp .ge 10, 3) := by decide +kernel
theorem dX3_solve_83 : decode cX3_solve 83 = .ok (.iload 4, 2) := by decide +kernel
theorem dX3_solve_85 : decode cX3_solve 85 = .ok (.iconst 1, 1) := by decide +kernel
theorem dX3_solve_86 : decode cX3_solve 86 = .ok (.iadd, 1) := by decide +kernel
theorem dX3_solve_87 : decode cX3_solve 87 = .ok (.goto 4, 3) := by decide +kernel
theorem dX3_solve_90 : decode cX3_solve 90 = .ok (.iconst 0, 1) := by decide +kernel
theorem dX3_solve_91 : decode cX3_solve 91 = .ok (.imul, 1) := by decide +kernel
theorem dX3_solve_92 : decode cX3_solve 92 = .ok (.istore 5, 2) := by decide +kernel
theorem dX3_solve_94 : decode cX3_solve 94 = .ok (.aload_n 0, 1) := by decide +kernel
theorem dX3_solve_95 : decode cX3_solve 95 = .ok (.getfield 22, 3) := by decide +kernel
theorem dX3_solve_98 : decode cX3_solve 98 = .ok (.iload 4, 2) := by decide +kernel
theorem dX3_solve_100 : decode cX3_solve 100 = .ok (.laload, 1) := by decide +kernel
theorem dX3_solve_101 : decode cX3_solve 101 = .ok (.aload_n 0, 1) := by decide +kernel
theorem dX3_solve_102 : decode cX3_solve 102 = .ok (.getfield 28, 3) := by decide +kernel
theorem dX3_solve_105 : decode cX3_solve 105 = .ok (.iload 5, 2) := by decide +kernel
theorem dX3_solve_107 : decode cX3_solve 107 = .ok (.iload_n 1, 1) := by decide +kernel
theorem dX3_solve_108 : decode cX3_solve 108 = .ok (.iadd, 1) := by decide +kernel
theorem dX3_solve_109 : decode cX3_solve 109 = .ok (.iconst 1, 1) := by decide +kernel
theorem dX3_solve_110 : decode cX3_solve 110 = .ok (.isub, 1) := by decide +kernel
theorem dX3_solve_111 : decode cX3_solve 111 = .ok (.laload, 1) := by decide +kernel
theorem dX3_solve_112 : decode cX3_solve 112 = .ok (.lmul, 1) := by decide +kernel
theorem dX3_solve_113 : decode cX3_solve 113 = .ok (.lstore 6, 2) := by decide +kernel
theorem dX3_solve_115 : decode cX3_solve 115 = .ok (.iload 4, 2) := by decide +kernel
theorem dX3_solve_117 : decode cX3_solve 117 = .ok (.istore 8, 2) := by decide +kernel
theorem dX3_solve_119 : decode cX3_solve 119 = .ok (.iconst 1, 1) := by decide +kernel
theorem dX3_solve_120 : decode cX3_solve 120 = .ok (.istore 9, 2) := by decide +kernel
theorem dX3_solve_122 : decode cX3_solve 122 = .ok (.iload 9, 2) := by decide +kernel
theorem dX3_solve_124 : decode cX3_solve 124 = .ok (.iload_n 1, 1) := by decide +kernel
theorem dX3_solve_125 : decode cX3_solve 125 = .ok (.if_icmp .ge 114, 3) := by decide +kernel
theorem dX3_solve_128 : decode cX3_solve 128 = .ok (.iload 8, 2) := by decide +kernel
theorem dX3_solve_130 : decode cX3_solve 130 = .ok (.iconst 1, 1) := by decide +kernel
theorem dX3_solve_131 : decode cX3_solve 131 = .ok (.iadd, 1) := by decide +kernel
theorem dX3_solve_132 : decode cX3_solve 132 = .ok (.iload_n 1, 1) := by decide +kernel
theorem dX3_solve_133 : decode cX3_solve 133 = .ok (.if_icmp .ge 10, 3) := by decide +kernel
theorem dX3_solve_136 : decode cX3_solve 136 = .ok (.iload 8, 2) := by decide +kernel
theorem dX3_solve_138 : decode cX3_solve 138 = .ok (.iconst 1, 1) := by decide +kernel
theorem dX3_solve_139 : decode cX3_solve 139 = .ok (.iadd, 1) := by decide +kernel
theorem dX3_solve_140 : decode cX3_solve 140 = .ok (.goto 4, 3) := by decide +kernel
theorem dX3_solve_143 : decode cX3_solve 143 = .ok (.iconst 0, 1) := by decide +kernel
theorem dX3_solve_144 : decode cX3_solve 144 = .ok (.istore 8, 2) := by decide +kernel
theorem dX3_solve_146 : decode cX3_solve 146 = .ok (.bipush 6, 2) := by decide +kernel
theorem dX3_solve_148 : decode cX3_solve 148 = .ok (.iload 8, 2) := by decide +kernel
theorem dX3_solve_150 : decode cX3_solve 150 = .ok (.iconst 1, 1) := by decide +kernel
theorem dX3_solve_151 : decode cX3_solve 151 = .ok (.iadd, 1) := by decide +kernel
theorem dX3_solve_152 : decode cX3_solve 152 = .ok (.iload_n 1, 1) := by decide +kernel
theorem dX3_solve_153 : decode cX3_solve 153 = .ok (.if_icmp .ge 10, 3) := by decide +kernel
theorem dX3_solve_156 : decode cX3_solve 156 = .ok (.iload 8, 2) := by decide +kernel
theorem dX3_solve_158 : decode cX3_solve 158 = .ok (.iconst 1, 1) := by decide +kernel
theorem dX3_solve_159 : decode cX3_solve 159 = .ok (.iadd, 1) := by decide +kernel
theorem dX3_solve_160 : decode cX3_solve 160 = .ok (.goto 4, 3) := by decide +kernel
theorem dX3_solve_163 : decode cX3_solve 163 = .ok (.iconst 0, 1) := by decide +kernel
theorem dX3_solve_164 : decode cX3_solve 164 = .ok (.imul, 1) := by decide +kernel
theorem dX3_solve_165 : decode cX3_solve 165 = .ok (.istore 10, 2) := by decide +kernel
theorem dX3_solve_167 : decode cX3_solve 167 = .ok (.aload_n 0, 1) := by decide +kernel
theorem dX3_solve_168 : decode cX3_solve 168 = .ok (.getfield 25, 3) := by decide +kernel
theorem dX3_solve_171 : decode cX3_solve 171 = .ok (.iload 9, 2) := by decide +kernel
theorem dX3_solve_173 : decode cX3_solve 173 = .ok (.laload, 1) := by decide +kernel
theorem dX3_solve_174 : decode cX3_solve 174 = .ok (.aload_n 0, 1) := by decide +kernel
theorem dX3_solve_175 : decode cX3_solve 175 = .ok (.getfield 28, 3) := by decide +kernel
theorem dX3_solve_178 : decode cX3_solve 178 = .ok (.iload 10, 2) := by decide +kernel
theorem dX3_solve_180 : decode cX3_solve 180 = .ok (.iload_n 1, 1) := by decide +kernel
theorem dX3_solve_181 : decode cX3_solve 181 = .ok (.iadd, 1) := by decide +kernel
theorem dX3_solve_182 : decode cX3_solve 182 = .ok (.iconst 1, 1) := by decide +kernel
theorem dX3_solve_183 : decode cX3_solve 183 = .ok (.isub, 1) := by decide +kernel
theorem dX3_solve_184 : decode cX3_solve 184 = .ok (.iload 9, 2) := by decide +kernel
theorem dX3_solve_186 : decode cX3_solve 186 = .ok (.isub, 1) := by decide +kernel
theorem dX3_solve_187 : decode cX3_solve 187 = .ok (.laload, 1) := by decide +kernel
theorem dX3_solve_188 : decode cX3_solve 188 = .ok (.lmul, 1) := by decide +kernel
theorem dX3_solve_189 : decode cX3_solve 189 = .ok (.lstore 11, 2) := by decide +kernel
theorem dX3_solve_191 : decode cX3_solve 191 = .ok (.aload_n 0, 1) := by decide +kernel
theorem dX3_solve_192 : decode cX3_solve 192 = .ok (.getfield 25, 3) := by decide +kernel
theorem dX3_solve_195 : decode cX3_solve 195 = .ok (.iload_n 1, 1) := by decide +kernel
theorem dX3_solve_196 : decode cX3_solve 196 = .ok (.iload 9, 2) := by decide +kernel
theorem dX3_solve_198 : decode cX3_solve 198 = .ok (.isub, 1) := by decide +kernel
theorem dX3_solve_199 : decode cX3_solve 199 = .ok (.laload, 1) := by decide +kernel
theorem dX3_solve_200 : decode cX3_solve 200 = .ok (.aload_n 0, 1) := by decide +kernel
theorem dX3_solve_201 : decode cX3_solve 201 = .ok (.getfield 28, 3) := by decide +kernel
theorem dX3_solve_204 : decode cX3_solve 204 = .ok (.iload 5, 2) := by decide +kernel
theorem dX3_solve_206 : decode cX3_solve 206 = .ok (.iload 9, 2) := by decide +kernel
theorem dX3_solve_208 : decode cX3_solve 208 = .ok (.iadd, 1) := by decide +kernel
theorem dX3_solve_209 : decode cX3_solve 209 = .ok (.iconst 1, 1) := by decide +kernel
theorem dX3_solve_210 : decode cX3_solve 210 = .ok (.isub, 1) := by decide +kernel
theorem dX3_solve_211 : decode cX3_solve 211 = .ok (.laload, 1) := by decide +kernel
theorem dX3_solve_212 : decode cX3_solve 212 = .ok (.lmul, 1) := by decide +kernel
theorem dX3_solve_213 : decode cX3_solve 213 = .ok (.lstore 13, 2) := by decide +kernel
theorem dX3_solve_215 : decode cX3_solve 215 = .ok (.lload 6, 2) := by decide +kernel
theorem dX3_solve_217 : decode cX3_solve 217 = .ok (.aload_n 0, 1) := by decide +kernel
theorem dX3_solve_218 : decode cX3_solve 218 = .ok (.getfield 22, 3) := by decide +kernel
theorem dX3_solve_221 : decode cX3_solve 221 = .ok (.iload 8, 2) := by decide +kernel
theorem dX3_solve_223 : decode cX3_solve 223 = .ok (.laload, 1) := by decide +kernel
theorem dX3_solve_224 : decode cX3_solve 224 = .ok (.lload 11, 2) := by decide +kernel
theorem dX3_solve_226 : decode cX3_solve 226 = .ok (.lload 13, 2) := by decide +kernel
theorem dX3_solve_228 : decode cX3_solve 228 = .ok (.ladd, 1) := by decide +kernel
theorem dX3_solve_229 : decode cX3_solve 229 = .ok (.lmul, 1) := by decide +kernel
theorem dX3_solve_230 : decode cX3_solve 230 = .ok (.ladd, 1) := by decide +kernel
theorem dX3_solve_231 : decode cX3_solve 231 = .ok (.lstore 6, 2) := by decide +kernel
theorem dX3_solve_233 : decode cX3_solve 233 = .ok (.iinc 9 1, 3) := by decide +kernel
theorem dX3_solve_236 : decode cX3_solve 236 = .ok (.goto (-114), 3) := by decide +kernel
theorem dX3_solve_239 : decode cX3_solve 239 = .ok (.aload_n 0, 1) := by decide +kernel
theorem dX3_solve_240 : decode cX3_solve 240 = .ok (.getfield 9, 3) := by decide +kernel
theorem dX3_solve_243 : decode cX3_solve 243 = .ok (.iload 4, 2) := by decide +kernel
theorem dX3_solve_245 : decode cX3_solve 245 = .ok (.lload 6, 2) := by decide +kernel
theorem dX3_solve_247 : decode cX3_solve 247 = .ok (.lastore, 1) := by decide +kernel
theorem dX3_solve_248 : decode cX3_solve 248 = .ok (.iinc 4 1, 3) := by decide +kernel
theorem dX3_solve_251 : decode cX3_solve 251 = .ok (.goto (-184), 3) := by decide +kernel
theorem dX3_solve_254 : decode cX3_solve 254 = .ok (.return_, 1) := by decide +kernel
theorem dX3_liftedSet_0 : decode cX3_liftedSet 0 = .ok (.iconst 0, 1) := by decide +kernel
theorem dX3_liftedSet_1 : decode cX3_liftedSet 1 = .ok (.istore_n 2, 1) := by decide +kernel
theorem dX3_liftedSet_2 : decode cX3_liftedSet 2 = .ok (.iconst 0, 1) := by decide +kernel
theorem dX3_liftedSet_3 : decode cX3_liftedSet 3 = .ok (.istore_n 3, 1) := by decide +kernel
theorem dX3_liftedSet_4 : decode cX3_liftedSet 4 = .ok (.iload_n 3, 1) := by decide +kernel
theorem dX3_liftedSet_5 : decode cX3_liftedSet 5 = .ok (.aload_n 1, 1) := by decide +kernel
theorem dX3_liftedSet_6 : decode cX3_liftedSet 6 = .ok (.getfield 48, 3) := by decide +kernel
theorem dX3_liftedSet_9 : decode cX3_liftedSet 9 = .ok (.if_icmp .ge 26, 3) := by decide +kernel
theorem dX3_liftedSet_12 : decode cX3_liftedSet 12 = .ok (.aload_n 0, 1) := by decide +kernel
theorem dX3_liftedSet_13 : decode cX3_liftedSet 13 = .ok (.getfield 9, 3) := by decide +kernel
theorem dX3_liftedSet_16 : decode cX3_liftedSet 16 = .ok (.iload_n 3, 1) := by decide +kernel
theorem dX3_liftedSet_17 : decode cX3_liftedSet 17 = .ok (.laload, 1) := by decide +kernel
theorem dX3_liftedSet_18 : decode cX3_liftedSet 18 = .ok (.lconst 0, 1) := by decide +kernel
theorem dX3_liftedSet_19 : decode cX3_liftedSet 19 = .ok (.lcmp, 1) := by decide +kernel
theorem dX3_liftedSet_20 : decode cX3_liftedSet 20 = .ok (.ifCond .le 9, 3) := by decide +kernel
theorem dX3_liftedSet_23 : decode cX3_liftedSet 23 = .ok (.iload_n 2, 1) := by decide +kernel
theorem dX3_liftedSet_24 : decode cX3_liftedSet 24 = .ok (.iconst 1, 1) := by decide +kernel
theorem dX3_liftedSet_25 : decode cX3_liftedSet 25 = .ok (.iload_n 3, 1) := by decide +kernel
theorem dX3_liftedSet_26 : decode cX3_liftedSet 26 = .ok (.ishl, 1) := by decide +kernel
theorem dX3_liftedSet_27 : decode cX3_liftedSet 27 = .ok (.ior, 1) := by decide +kernel
theorem dX3_liftedSet_28 : decode cX3_liftedSet 28 = .ok (.istore_n 2, 1) := by decide +kernel
theorem dX3_liftedSet_29 : decode cX3_liftedSet 29 = .ok (.iinc 3 1, 3) := by decide +kernel
theorem dX3_liftedSet_32 : decode cX3_liftedSet 32 = .ok (.goto (-28), 3) := by decide +kernel
theorem dX3_liftedSet_35 : decode cX3_liftedSet 35 = .ok (.iload_n 2, 1) := by decide +kernel
theorem dX3_liftedSet_36 : decode cX3_liftedSet 36 = .ok (.ireturn, 1) := by decide +kernel
theorem dX3_aboveTurnsSet_0 : decode cX3_aboveTurnsSet 0 = .ok (.iconst 0, 1) := by decide +kernel
theorem dX3_aboveTurnsSet_1 : decode cX3_aboveTurnsSet 1 = .ok (.istore_n 2, 1) := by decide +kernel
theorem dX3_aboveTurnsSet_2 : decode cX3_aboveTurnsSet 2 = .ok (.iconst 0, 1) := by decide +kernel
theorem dX3_aboveTurnsSet_3 : decode cX3_aboveTurnsSet 3 = .ok (.istore_n 3, 1) := by decide +kernel
theorem dX3_aboveTurnsSet_4 : decode cX3_aboveTurnsSet 4 = .ok (.iload_n 3, 1) := by decide +kernel
theorem dX3_aboveTurnsSet_5 : decode cX3_aboveTurnsSet 5 = .ok (.aload_n 1, 1) := by decide +kernel
theorem dX3_aboveTurnsSet_6 : decode cX3_aboveTurnsSet 6 = .ok (.getfield 48, 3) := by decide +kernel
theorem dX3_aboveTurnsSet_9 : decode cX3_aboveTurnsSet 9 = .ok (.if_icmp .ge 37, 3) := by decide +kernel
theorem dX3_aboveTurnsSet_12 : decode cX3_aboveTurnsSet 12 = .ok (.aload_n 0, 1) := by decide +kernel
theorem dX3_aboveTurnsSet_13 : decode cX3_aboveTurnsSet 13 = .ok (.getfield 9, 3) := by decide +kernel
theorem dX3_aboveTurnsSet_16 : decode cX3_aboveTurnsSet 16 = .ok (.iload_n 3, 1) := by decide +kernel
theorem dX3_aboveTurnsSet_17 : decode cX3_aboveTurnsSet 17 = .ok (.laload, 1) := by decide +kernel
theorem dX3_aboveTurnsSet_18 : decode cX3_aboveTurnsSet 18 = .ok (.aload_n 0, 1) := by decide +kernel
theorem dX3_aboveTurnsSet_19 : decode cX3_aboveTurnsSet 19 = .ok (.getfield 15, 3) := by decide +kernel
theorem dX3_aboveTurnsSet_22 : decode cX3_aboveTurnsSet 22 = .ok (.aload_n 1, 1) := by decide +kernel
theorem dX3_aboveTurnsSet_23 : decode cX3_aboveTurnsSet 23 = .ok (.getfield 74, 3) := by decide +kernel
theorem dX3_aboveTurnsSet_26 : decode cX3_aboveTurnsSet 26 = .ok (.iload_n 3, 1) := by decide +kernel
theorem dX3_aboveTurnsSet_27 : decode cX3_aboveTurnsSet 27 = .ok (.iaload, 1) := by decide +kernel
theorem dX3_aboveTurnsSet_28 : decode cX3_aboveTurnsSet 28 = .ok (.i2l, 1) := by decide +kernel
theorem dX3_aboveTurnsSet_29 : decode cX3_aboveTurnsSet 29 = .ok (.lmul, 1) := by decide +kernel
theorem dX3_aboveTurnsSet_30 : decode cX3_aboveTurnsSet 30 = .ok (.lcmp, 1) := by decide +kernel
theorem dX3_aboveTurnsSet_31 : decode cX3_aboveTurnsSet 31 = .ok (.ifCond .le 9, 3) := by decide +kernel
theorem dX3_aboveTurnsSet_34 : decode cX3_aboveTurnsSet 34 = .ok (.iload_n 2, 1) := by decide +kernel
theorem dX3_aboveTurnsSet_35 : decode cX3_aboveTurnsSet 35 = .ok (.iconst 1, 1) := by decide +kernel
theorem dX3_aboveTurnsSet_36 : decode cX3_aboveTurnsSet 36 = .ok (.iload_n 3, 1) := by decide +kernel
theorem dX3_aboveTurnsSet_37 : decode cX3_aboveTurnsSet 37 = .ok (.ishl, 1) := by decide +kernel
theorem dX3_aboveTurnsSet_38 : decode cX3_aboveTurnsSet 38 = .ok (.ior, 1) := by decide +kernel
theorem dX3_aboveTurnsSet_39 : decode cX3_aboveTurnsSet 39 = .ok (.istore_n 2, 1) := by decide +kernel
theorem dX3_aboveTurnsSet_40 : decode cX3_aboveTurnsSet 40 = .ok (.iinc 3 1, 3) := by decide +kernel
theorem dX3_aboveTurnsSet_43 : decode cX3_aboveTurnsSet 43 = .ok (.goto (-39), 3) := by decide +kernel
theorem dX3_aboveTurnsSet_46 : decode cX3_aboveTurnsSet 46 = .ok (.iload_n 2, 1) := by decide +kernel
theorem dX3_aboveTurnsSet_47 : decode cX3_aboveTurnsSet 47 = .ok (.ireturn, 1) := by decide +kernel
set_option maxRecDepth 20000 in
theorem ggX3_pullUpper_X2_isBroken : GoodIn wsX3_pullUpper wsX2_isBroken := goodIn_r _ [13, 14, 15, 16, 17, 18, 19, 20, 21, 22] (by decide +kernel) (by decide +kernel)
set_option maxRecDepth 20000 in
theorem gX3_pullUpper_X2_isBroken : GoodIn wsX3_pullUpper (wsV RX3 80 RX2 yX2_isBroken wsX2_isBroken) := goodIn_app (goodIn_of _ (by decide +kernel)) ggX3_pullUpper_X2_isBroken
theorem dX3_pullUpper_0 : decode cX3_pullUpper 0 = .ok (.aload_n 1, 1) := by decide +kernel
theorem dX3_pullUpper_1 : decode cX3_pullUpper 1 = .ok (.iload_n 2, 1) := by decide +kernel
theorem dX3_pullUpper_2 : decode cX3_pullUpper 2 = .ok (.invokevirtual 80, 3) := by decide +kernel
theorem dX3_pullUpper_5 : decode cX3_pullUpper 5 = .ok (.ifCond .eq 5, 3) := by decide +kernel
theorem dX3_pullUpper_8 : decode cX3_pullUpper 8 = .ok (.lconst 0, 1) := by decide +kernel
theorem dX3_pullUpper_9 : decode cX3_pullUpper 9 = .ok (.lreturn, 1) := by decide +kernel
theorem dX3_pullUpper_10 : decode cX3_pullUpper 10 = .ok (.aload_n 1, 1) := by decide +kernel
theorem dX3_pullUpper_11 : decode cX3_pullUpper 11 = .ok (.getfield 70, 3) := by decide +kernel
theorem dX3_pullUpper_14 : decode cX3_pullUpper 14 = .ok (.iload_n 2, 1) := by decide +kernel
theorem dX3_pullUpper_15 : decode cX3_pullUpper 15 = .ok (.iaload, 1) := by decide +kernel
theorem dX3_pullUpper_16 : decode cX3_pullUpper 16 = .ok (.i2l, 1) := by decide +kernel
theorem dX3_pullUpper_17 : decode cX3_pullUpper 17 = .ok (.lconst 0, 1) := by decide +kernel
theorem dX3_pullUpper_18 : decode cX3_pullUpper 18 = .ok (.aload_n 0, 1) := by decide +kernel
theorem dX3_pullUpper_19 : decode cX3_pullUpper 19 = .ok (.getfield 15, 3) := by decide +kernel
theorem dX3_pullUpper_22 : decode cX3_pullUpper 22 = .ok (.aload_n 1, 1) := by decide +kernel
theorem dX3_pullUpper_23 : decode cX3_pullUpper 23 = .ok (.getfield 74, 3) := by decide +kernel
theorem dX3_pullUpper_26 : decode cX3_pullUpper 26 = .ok (.iload_n 2, 1) := by decide +kernel
theorem dX3_pullUpper_27 : decode cX3_pullUpper 27 = .ok (.iaload, 1) := by decide +kernel
theorem dX3_pullUpper_28 : decode cX3_pullUpper 28 = .ok (.i2l, 1) := by decide +kernel
theorem dX3_pullUpper_29 : decode cX3_pullUpper 29 = .ok (.lmul, 1) := by decide +kernel
theorem dX3_pullUpper_30 : decode cX3_pullUpper 30 = .ok (.aload_n 0, 1) := by decide +kernel
theorem dX3_pullUpper_31 : decode cX3_pullUpper 31 = .ok (.getfield 9, 3) := by decide +kernel
theorem dX3_pullUpper_34 : decode cX3_pullUpper 34 = .ok (.iload_n 2, 1) := by decide +kernel
theorem dX3_pullUpper_35 : decode cX3_pullUpper 35 = .ok (.laload, 1) := by decide +kernel
theorem dX3_pullUpper_36 : decode cX3_pullUpper 36 = .ok (.lsub, 1) := by decide +kernel
theorem dX3_pullUpper_37 : decode cX3_pullUpper 37 = .ok (.invokestatic 84, 3) := by decide +kernel
theorem dX3_pullUpper_40 : decode cX3_pullUpper 40 = .ok (.lmul, 1) := by decide +kernel
theorem dX3_pullUpper_41 : decode cX3_pullUpper 41 = .ok (.lreturn, 1) := by decide +kernel
theorem dX3_pressUpper_0 : decode cX3_pressUpper 0 = .ok (.aload_n 1, 1) := by decide +kernel
theorem dX3_pressUpper_1 : decode cX3_pressUpper 1 = .ok (.getfield 77, 3) := by decide +kernel
theorem dX3_pressUpper_4 : decode cX3_pressUpper 4 = .ok (.iload_n 2, 1) := by decide +kernel
theorem dX3_pressUpper_5 : decode cX3_pressUpper 5 = .ok (.iaload, 1) := by decide +kernel
theorem dX3_pressUpper_6 : decode cX3_pressUpper 6 = .ok (.i2l, 1) := by decide +kernel
theorem dX3_pressUpper_7 : decode cX3_pressUpper 7 = .ok (.lconst 0, 1) := by decide +kernel
theorem dX3_pressUpper_8 : decode cX3_pressUpper 8 = .ok (.aload_n 0, 1) := by decide +kernel
theorem dX3_pressUpper_9 : decode cX3_pressUpper 9 = .ok (.getfield 9, 3) := by decide +kernel
theorem dX3_pressUpper_12 : decode cX3_pressUpper 12 = .ok (.iload_n 2, 1) := by decide +kernel
theorem dX3_pressUpper_13 : decode cX3_pressUpper 13 = .ok (.laload, 1) := by decide +kernel
theorem dX3_pressUpper_14 : decode cX3_pressUpper 14 = .ok (.invokestatic 84, 3) := by decide +kernel
theorem dX3_pressUpper_17 : decode cX3_pressUpper 17 = .ok (.lmul, 1) := by decide +kernel
theorem dX3_pressUpper_18 : decode cX3_pressUpper 18 = .ok (.lreturn, 1) := by decide +kernel
set_option maxRecDepth 20000 in
theorem ggX3_slackCount_X3_pullUpper : GoodIn wsX3_slackCount wsX3_pullUpper := goodIn_r _ [6, 7, 8, 9, 10, 11, 12, 13, 14, 15, 16, 17, 18, 19, 20, 24, 25, 26, 27, 28, 29, 30, 31, 32, 33, 34, 35, 36, 37] (by decide +kernel) (by decide +kernel)
set_option maxRecDepth 20000 in
theorem gX3_slackCount_X3_pullUpper : GoodIn wsX3_slackCount (wsV RX3 90 RX3 yX3_pullUpper wsX3_pullUpper) := goodIn_app (goodIn_of _ (by decide +kernel)) ggX3_slackCount_X3_pullUpper
set_option maxRecDepth 20000 in
theorem ggX3_slackCount_X7_asNumber : GoodIn wsX3_slackCount wsX7_asNumber := goodIn_r _ [23] (by decide +kernel) (by decide +kernel)
set_option maxRecDepth 20000 in
theorem gX3_slackCount_X7_asNumber_n94 : GoodIn wsX3_slackCount (wsX7_asNumber) := ggX3_slackCount_X7_asNumber
theorem dX3_slackCount_0 : decode cX3_slackCount 0 = .ok (.iconst 0, 1) := by decide +kernel
theorem dX3_slackCount_1 : decode cX3_slackCount 1 = .ok (.istore_n 2, 1) := by decide +kernel
theorem dX3_slackCount_2 : decode cX3_slackCount 2 = .ok (.iconst 0, 1) := by decide +kernel
theorem dX3_slackCount_3 : decode cX3_slackCount 3 = .ok (.istore_n 3, 1) := by decide +kernel
theorem dX3_slackCount_4 : decode cX3_slackCount 4 = .ok (.iload_n 3, 1) := by decide +kernel
theorem dX3_slackCount_5 : decode cX3_slackCount 5 = .ok (.aload_n 1, 1) := by decide +kernel
theorem dX3_slackCount_6 : decode cX3_slackCount 6 = .ok (.getfield 48, 3) := by decide +kernel
theorem dX3_slackCount_9 : decode cX3_slackCount 9 = .ok (.if_icmp .ge 31, 3) := by decide +kernel
theorem dX3_slackCount_12 : decode cX3_slackCount 12 = .ok (.iload_n 2, 1) := by decide +kernel
theorem dX3_slackCount_13 : decode cX3_slackCount 13 = .ok (.aload_n 0, 1) := by decide +kernel
theorem dX3_slackCount_14 : decode cX3_slackCount 14 = .ok (.aload_n 1, 1) := by decide +kernel
theorem dX3_slackCount_15 : decode cX3_slackCount 15 = .ok (.iload_n 3, 1) := by decide +kernel
theorem dX3_slackCount_16 : decode cX3_slackCount 16 = .ok (.invokevirtual 90, 3) := by decide +kernel
theorem dX3_slackCount_19 : decode cX3_slackCount 19 = .ok (.lconst 0, 1) := by decide +kernel
theorem dX3_slackCount_20 : decode cX3_slackCount 20 = .ok (.lcmp, 1) := by decide +kernel
theorem dX3_slackCount_21 : decode cX3_slackCount 21 = .ok (.ifCond .ne 7, 3) := by decide +kernel
theorem dX3_slackCount_24 : decode cX3_slackCount 24 = .ok (.iconst 1, 1) := by decide +kernel
theorem dX3_slackCount_25 : decode cX3_slackCount 25 = .ok (.goto 4, 3) := by decide +kernel
theorem dX3_slackCount_28 : decode cX3_slackCount 28 = .ok (.iconst 0, 1) := by decide +kernel
theorem dX3_slackCount_29 : decode cX3_slackCount 29 = .ok (.invokestatic 94, 3) := by decide +kernel
theorem dX3_slackCount_32 : decode cX3_slackCount 32 = .ok (.iadd, 1) := by decide +kernel
theorem dX3_slackCount_33 : decode cX3_slackCount 33 = .ok (.istore_n 2, 1) := by decide +kernel
theorem dX3_slackCount_34 : decode cX3_slackCount 34 = .ok (.iinc 3 1, 3) := by decide +kernel
theorem dX3_slackCount_37 : decode cX3_slackCount 37 = .ok (.goto (-33), 3) := by decide +kernel
theorem dX3_slackCount_40 : decode cX3_slackCount 40 = .ok (.iload_n 2, 1) := by decide +kernel
theorem dX3_slackCount_41 : decode cX3_slackCount 41 = .ok (.ireturn, 1) := by decide +kernel
set_option maxRecDepth 20000 in
theorem ggX3_openCount_X3_pressUpper : GoodIn wsX3_openCount wsX3_pressUpper := goodIn_r _ [6, 7, 8, 9, 10, 11, 12, 16, 17, 18, 19, 20, 21, 22, 23, 24, 25, 26, 27, 28, 29] (by decide +kernel) (by decide +kernel)
set_option maxRecDepth 20000 in
theorem gX3_openCount_X3_pressUpper : GoodIn wsX3_openCount (wsV RX3 98 RX3 yX3_pressUpper wsX3_pressUpper) := goodIn_app (goodIn_of _ (by decide +kernel)) ggX3_openCount_X3_pressUpper
set_option maxRecDepth 20000 in
theorem ggX3_openCount_X7_asNumber : GoodIn wsX3_openCount wsX7_asNumber := goodIn_r _ [15] (by decide +kernel) (by decide +kernel)
set_option maxRecDepth 20000 in
theorem gX3_openCount_X7_asNumber_n94 : GoodIn wsX3_openCount (wsX7_asNumber) := ggX3_openCount_X7_asNumber
theorem dX3_openCount_0 : decode cX3_openCount 0 = .ok (.iconst 0, 1) := by decide +kernel
theorem dX3_openCount_1 : decode cX3_openCount 1 = .ok (.istore_n 2, 1) := by decide +kernel
theorem dX3_openCount_2 : decode cX3_openCount 2 = .ok (.iconst 0, 1) := by decide +kernel
theorem dX3_openCount_3 : decode cX3_openCount 3 = .ok (.istore_n 3, 1) := by decide +kernel
theorem dX3_openCount_4 : decode cX3_openCount 4 = .ok (.iload_n 3, 1) := by decide +kernel
theorem dX3_openCount_5 : decode cX3_openCount 5 = .ok (.aload_n 1, 1) := by decide +kernel
theorem dX3_openCount_6 : decode cX3_openCount 6 = .ok (.getfield 48, 3) := by decide +kernel
theorem dX3_openCount_9 : decode cX3_openCount 9 = .ok (.if_icmp .ge 31, 3) := by decide +kernel
theorem dX3_openCount_12 : decode cX3_openCount 12 = .ok (.iload_n 2, 1) := by decide +kernel
theorem dX3_openCount_13 : decode cX3_openCount 13 = .ok (.aload_n 0, 1) := by decide +kernel
theorem dX3_openCount_14 : decode cX3_openCount 14 = .ok (.aload_n 1, 1) := by decide +kernel
theorem dX3_openCount_15 : decode cX3_openCount 15 = .ok (.iload_n 3, 1) := by decide +kernel
theorem dX3_openCount_16 : decode cX3_openCount 16 = .ok (.invokevirtual 98, 3) := by decide +kernel
theorem dX3_openCount_19 : decode cX3_openCount 19 = .ok (.lconst 0, 1) := by decide +kernel
theorem dX3_openCount_20 : decode cX3_openCount 20 = .ok (.lcmp, 1) := by decide +kernel
theorem dX3_openCount_21 : decode cX3_openCount 21 = .ok (.ifCond .ne 7, 3) := by decide +kernel
theorem dX3_openCount_24 : decode cX3_openCount 24 = .ok (.iconst 1, 1) := by decide +kernel
theorem dX3_openCount_25 : decode cX3_openCount 25 = .ok (.goto 4, 3) := by decide +kernel
theorem dX3_openCount_28 : decode cX3_openCount 28 = .ok (.iconst 0, 1) := by decide +kernel
theorem dX3_openCount_29 : decode cX3_openCount 29 = .ok (.invokestatic 94, 3) := by decide +kernel
theorem dX3_openCount_32 : decode cX3_openCount 32 = .ok (.iadd, 1) := by decide +kernel
theorem dX3_openCount_33 : decode cX3_openCount 33 = .ok (.istore_n 2, 1) := by decide +kernel
theorem dX3_openCount_34 : decode cX3_openCount 34 = .ok (.iinc 3 1, 3) := by decide +kernel
theorem dX3_openCount_37 : decode cX3_openCount 37 = .ok (.goto (-33), 3) := by decide +kernel
theorem dX3_openCount_40 : decode cX3_openCount 40 = .ok (.iload_n 2, 1) := by decide +kernel
theorem dX3_openCount_41 : decode cX3_openCount 41 = .ok (.ireturn, 1) := by decide +kernel
theorem dX4_init_0 : decode cX4_init 0 = .ok (.aload_n 0, 1) := by decide +kernel
theorem dX4_init_1 : decode cX4_init 1 = .ok (.invokespecial 3, 3) := by decide +kernel
theorem dX4_init_4 : decode cX4_init 4 = .ok (.aload_n 0, 1) := by decide +kernel
theorem dX4_init_5 : decode cX4_init 5 = .ok (.iconst 3, 1) := by decide +kernel
theorem dX4_init_6 : decode cX4_init 6 = .ok (.newarray .int, 2) := by decide +kernel
theorem dX4_init_8 : decode cX4_init 8 = .ok (.dup, 1) := by decide +kernel
theorem dX4_init_9 : decode cX4_init 9 = .ok (.iconst 0, 1) := by decide +kernel
theorem dX4_init_10 : decode cX4_init 10 = .ok (.iconst 1, 1) := by decide +kernel
theorem dX4_init_11 : decode cX4_init 11 = .ok (.iastore, 1) := by decide +kernel
theorem dX4_init_12 : decode cX4_init 12 = .ok (.dup, 1) := by decide +kernel
theorem dX4_init_13 : decode cX4_init 13 = .ok (.iconst 1, 1) := by decide +kernel
theorem dX4_init_14 : decode cX4_init 14 = .ok (.iconst 2, 1) := by decide +kernel
theorem dX4_init_15 : decode cX4_init 15 = .ok (.iastore, 1) := by decide +kernel
theorem dX4_init_16 : decode cX4_init 16 = .ok (.dup, 1) := by decide +kernel
theorem dX4_init_17 : decode cX4_init 17 = .ok (.iconst 2, 1) := by decide +kernel
theorem dX4_init_18 : decode cX4_init 18 = .ok (.iconst 1, 1) := by decide +kernel
theorem dX4_init_19 : decode cX4_init 19 = .ok (.iastore, 1) := by decide +kernel
theorem dX4_init_20 : decode cX4_init 20 = .ok (.putfield 9, 3) := by decide +kernel
theorem dX4_init_23 : decode cX4_init 23 = .ok (.aload_n 0, 1) := by decide +kernel
theorem dX4_init_24 : decode cX4_init 24 = .ok (.bipush 6, 2) := by decide +kernel
theorem dX4_init_26 : decode cX4_init 26 = .ok (.newarray .int, 2) := by decide +kernel
theorem dX4_init_28 : decode cX4_init 28 = .ok (.putfield 15, 3) := by decide +kernel
theorem dX4_init_31 : decode cX4_init 31 = .ok (.return_, 1) := by decide +kernel
set_option maxRecDepth 20000 in
theorem ggX4_begin_X4_weigh : GoodIn wsX4_begin wsX4_weigh := goodIn_r _ [5, 6, 7, 8] (by decide +kernel) (by decide +kernel)
set_option maxRecDepth 20000 in
theorem gX4_begin_X4_weigh : GoodIn wsX4_begin (wsV RX4 18 RX4 yX4_weigh wsX4_weigh) := goodIn_app (goodIn_of _ (by decide +kernel)) ggX4_begin_X4_weigh
theorem dX4_begin_0 : decode cX4_begin 0 = .ok (.aload_n 0, 1) := by decide +kernel
theorem dX4_begin_1 : decode cX4_begin 1 = .ok (.iconst 1, 1) := by decide +kernel
theorem dX4_begin_2 : decode cX4_begin 2 = .ok (.iconst 2, 1) := by decide +kernel
theorem dX4_begin_3 : decode cX4_begin 3 = .ok (.iconst 1, 1) := by decide +kernel
theorem dX4_begin_4 : decode cX4_begin 4 = .ok (.invokevirtual 18, 3) := by decide +kernel
theorem dX4_begin_7 : decode cX4_begin 7 = .ok (.return_, 1) := by decide +kernel
theorem dX4_weigh_0 : decode cX4_weigh 0 = .ok (.aload_n 0, 1) := by decide +kernel
theorem dX4_weigh_1 : decode cX4_weigh 1 = .ok (.getfield 9, 3) := by decide +kernel
theorem dX4_weigh_4 : decode cX4_weigh 4 = .ok (.iconst 0, 1) := by decide +kernel
theorem dX4_weigh_5 : decode cX4_weigh 5 = .ok (.iload_n 1, 1) := by decide +kernel
theorem dX4_weigh_6 : decode cX4_weigh 6 = .ok (.iastore, 1) := by decide +kernel
end
section
theorem dX4_weigh_7 : decode cX4_weigh 7 = .ok (.aload_n 0, 1) := by decide +kernel
theorem dX4_weigh_8 : decode cX4_weigh 8 = .ok (.getfield 9, 3) := by decide +kernel
theorem dX4_weigh_11 : decode cX4_weigh 11 = .ok (.iconst 1, 1) := by decide +kernel
theorem dX4_weigh_12 : decode cX4_weigh 12 = .ok (.iload_n 2, 1) := by decide +kernel
theorem dX4_weigh_13 : decode cX4_weigh 13 = .ok (.iastore, 1) := by decide +kernel
theorem dX4_weigh_14 : decode cX4_weigh 14 = .ok (.aload_n 0, 1) := by decide +kernel
theorem dX4_weigh_15 : decode cX4_weigh 15 = .ok (.getfield 9, 3) := by decide +kernel
theorem dX4_weigh_18 : decode cX4_weigh 18 = .ok (.iconst 2, 1) := by decide +kernel
theorem dX4_weigh_19 : decode cX4_weigh 19 = .ok (.iload_n 3, 1) := by decide +kernel
theorem dX4_weigh_20 : decode cX4_weigh 20 = .ok (.iastore, 1) := by decide +kernel
theorem dX4_weigh_21 : decode cX4_weigh 21 = .ok (.return_, 1) := by decide +kernel
theorem dX5_init_0 : decode cX5_init 0 = .ok (.aload_n 0, 1) := by decide +kernel
theorem dX5_init_1 : decode cX5_init 1 = .ok (.invokespecial 3, 3) := by decide +kernel
theorem dX5_init_4 : decode cX5_init 4 = .ok (.aload_n 0, 1) := by decide +kernel
theorem dX5_init_5 : decode cX5_init 5 = .ok (.iconst (-1), 1) := by decide +kernel
theorem dX5_init_6 : decode cX5_init 6 = .ok (.putfield 9, 3) := by decide +kernel
theorem dX5_init_9 : decode cX5_init 9 = .ok (.aload_n 0, 1) := by decide +kernel
theorem dX5_init_10 : decode cX5_init 10 = .ok (.bipush 12, 2) := by decide +kernel
theorem dX5_init_12 : decode cX5_init 12 = .ok (.newarray .int, 2) := by decide +kernel
theorem dX5_init_14 : decode cX5_init 14 = .ok (.putfield 15, 3) := by decide +kernel
theorem dX5_init_17 : decode cX5_init 17 = .ok (.aload_n 0, 1) := by decide +kernel
theorem dX5_init_18 : decode cX5_init 18 = .ok (.bipush 12, 2) := by decide +kernel
theorem dX5_init_20 : decode cX5_init 20 = .ok (.newarray .int, 2) := by decide +kernel
theorem dX5_init_22 : decode cX5_init 22 = .ok (.putfield 19, 3) := by decide +kernel
theorem dX5_init_25 : decode cX5_init 25 = .ok (.aload_n 0, 1) := by decide +kernel
theorem dX5_init_26 : decode cX5_init 26 = .ok (.bipush 12, 2) := by decide +kernel
theorem dX5_init_28 : decode cX5_init 28 = .ok (.newarray .int, 2) := by decide +kernel
theorem dX5_init_30 : decode cX5_init 30 = .ok (.putfield 22, 3) := by decide +kernel
theorem dX5_init_33 : decode cX5_init 33 = .ok (.aload_n 0, 1) := by decide +kernel
theorem dX5_init_34 : decode cX5_init 34 = .ok (.sipush 160, 3) := by decide +kernel
theorem dX5_init_37 : decode cX5_init 37 = .ok (.newarray .int, 2) := by decide +kernel
theorem dX5_init_39 : decode cX5_init 39 = .ok (.putfield 25, 3) := by decide +kernel
theorem dX5_init_42 : decode cX5_init 42 = .ok (.return_, 1) := by decide +kernel
theorem dX6_init_0 : decode cX6_init 0 = .ok (.aload_n 0, 1) := by decide +kernel
theorem dX6_init_1 : decode cX6_init 1 = .ok (.invokespecial 3, 3) := by decide +kernel
theorem dX6_init_4 : decode cX6_init 4 = .ok (.aload_n 0, 1) := by decide +kernel
theorem dX6_init_5 : decode cX6_init 5 = .ok (.bipush 6, 2) := by decide +kernel
theorem dX6_init_7 : decode cX6_init 7 = .ok (.newarray .int, 2) := by decide +kernel
theorem dX6_init_9 : decode cX6_init 9 = .ok (.putfield 9, 3) := by decide +kernel
theorem dX6_init_12 : decode cX6_init 12 = .ok (.aload_n 0, 1) := by decide +kernel
theorem dX6_init_13 : decode cX6_init 13 = .ok (.bipush 6, 2) := by decide +kernel
theorem dX6_init_15 : decode cX6_init 15 = .ok (.newarray .int, 2) := by decide +kernel
theorem dX6_init_17 : decode cX6_init 17 = .ok (.putfield 15, 3) := by decide +kernel
theorem dX6_init_20 : decode cX6_init 20 = .ok (.return_, 1) := by decide +kernel
set_option maxRecDepth 20000 in
theorem ggX7_init_X2_init : GoodIn wsX7_init wsX2_init := goodIn_r _ [33, 34, 2, 3, 35, 36, 37, 38, 39, 40, 90, 91, 92, 93, 94, 95, 96, 97] (by decide +kernel) (by decide +kernel)
set_option maxRecDepth 20000 in
theorem gX7_init_X2_init_n9 : GoodIn wsX7_init (wsX2_init) := ggX7_init_X2_init
set_option maxRecDepth 20000 in
theorem ggX7_init_X3_init : GoodIn wsX7_init wsX3_init := goodIn_r _ [42, 43, 2, 3, 44, 45, 46, 47, 48, 49, 50, 106, 107, 108, 109, 110, 111] (by decide +kernel) (by decide +kernel)
set_option maxRecDepth 20000 in
theorem gX7_init_X3_init_n18 : GoodIn wsX7_init (wsX3_init) := ggX7_init_X3_init
set_option maxRecDepth 20000 in
theorem ggX7_init_X1_init : GoodIn wsX7_init wsX1_init := goodIn_r _ [52, 53, 2, 3, 54, 9, 10, 55, 35, 56, 57, 58, 41, 42, 43, 44, 45, 46, 47, 48, 49, 50, 106, 107, 108, 109, 110, 111, 112, 113, 114, 115, 116, 117, 118] (by decide +kernel) (by decide +kernel)
set_option maxRecDepth 20000 in
theorem gX7_init_X1_init_n25 : GoodIn wsX7_init (wsX1_init) := ggX7_init_X1_init
set_option maxRecDepth 20000 in
theorem ggX7_init_X0_init : GoodIn wsX7_init wsX0_init := goodIn_r _ [60, 61, 2, 3, 62, 35, 63, 64, 119, 120, 121, 122] (by decide +kernel) (by decide +kernel)
set_option maxRecDepth 20000 in
theorem gX7_init_X0_init_n32 : GoodIn wsX7_init (wsX0_init) := ggX7_init_X0_init
set_option maxRecDepth 20000 in
theorem ggX7_init_X4_init : GoodIn wsX7_init wsX4_init := goodIn_r _ [66, 67, 2, 3, 35, 68, 69, 123, 124] (by decide +kernel) (by decide +kernel)
set_option maxRecDepth 20000 in
theorem gX7_init_X4_init_n39 : GoodIn wsX7_init (wsX4_init) := ggX7_init_X4_init
set_option maxRecDepth 20000 in
theorem ggX7_init_X6_init : GoodIn wsX7_init wsX6_init := goodIn_r _ [71, 72, 2, 3, 35, 73, 74, 125, 126, 127] (by decide +kernel) (by decide +kernel)
set_option maxRecDepth 20000 in
theorem gX7_init_X6_init_n46 : GoodIn wsX7_init (wsX6_init) := ggX7_init_X6_init
set_option maxRecDepth 20000 in
theorem ggX7_init_X5_init : GoodIn wsX7_init wsX5_init := goodIn_r _ [76, 77, 2, 3, 78, 35, 79, 80, 81, 82, 128, 129, 130, 131, 132, 133, 134, 135, 136, 137, 138, 139] (by decide +kernel) (by decide +kernel)
set_option maxRecDepth 20000 in
theorem gX7_init_X5_init_n53 : GoodIn wsX7_init (wsX5_init) := ggX7_init_X5_init
set_option maxRecDepth 20000 in
theorem ggX7_init_X2_begin : GoodIn wsX7_init wsX2_begin := goodIn_r _ [86, 87, 88, 89, 36, 37, 38, 39, 40, 90, 91, 92, 93, 94, 95, 96, 97] (by decide +kernel) (by decide +kernel)
set_option maxRecDepth 20000 in
theorem gX7_init_X2_begin : GoodIn wsX7_init (wsV RX7 58 RX2 yX2_begin wsX2_begin) := goodIn_app (goodIn_of _ (by decide +kernel)) ggX7_init_X2_begin
theorem dX7_init_0 : decode cX7_init 0 = .ok (.aload_n 0, 1) := by decide +kernel
theorem dX7_init_1 : decode cX7_init 1 = .ok (.invokespecial 1, 3) := by decide +kernel
theorem dX7_init_4 : decode cX7_init 4 = .ok (.aload_n 0, 1) := by decide +kernel
theorem dX7_init_5 : decode cX7_init 5 = .ok (.new 7, 3) := by decide +kernel
theorem dX7_init_8 : decode cX7_init 8 = .ok (.dup, 1) := by decide +kernel
theorem dX7_init_9 : decode cX7_init 9 = .ok (.invokespecial 9, 3) := by decide +kernel
theorem dX7_init_12 : decode cX7_init 12 = .ok (.putfield 10, 3) := by decide +kernel
theorem dX7_init_15 : decode cX7_init 15 = .ok (.aload_n 0, 1) := by decide +kernel
theorem dX7_init_16 : decode cX7_init 16 = .ok (.new 16, 3) := by decide +kernel
theorem dX7_init_19 : decode cX7_init 19 = .ok (.dup, 1) := by decide +kernel
theorem dX7_init_20 : decode cX7_init 20 = .ok (.invokespecial 18, 3) := by decide +kernel
theorem dX7_init_23 : decode cX7_init 23 = .ok (.putfield 19, 3) := by decide +kernel
theorem dX7_init_26 : decode cX7_init 26 = .ok (.aload_n 0, 1) := by decide +kernel
theorem dX7_init_27 : decode cX7_init 27 = .ok (.new 23, 3) := by decide +kernel
theorem dX7_init_30 : decode cX7_init 30 = .ok (.dup, 1) := by decide +kernel
theorem dX7_init_31 : decode cX7_init 31 = .ok (.invokespecial 25, 3) := by decide +kernel
theorem dX7_init_34 : decode cX7_init 34 = .ok (.putfield 26, 3) := by decide +kernel
theorem dX7_init_37 : decode cX7_init 37 = .ok (.aload_n 0, 1) := by decide +kernel
theorem dX7_init_38 : decode cX7_init 38 = .ok (.new 30, 3) := by decide +kernel
theorem dX7_init_41 : decode cX7_init 41 = .ok (.dup, 1) := by decide +kernel
theorem dX7_init_42 : decode cX7_init 42 = .ok (.invokespecial 32, 3) := by decide +kernel
theorem dX7_init_45 : decode cX7_init 45 = .ok (.putfield 33, 3) := by decide +kernel
theorem dX7_init_48 : decode cX7_init 48 = .ok (.aload_n 0, 1) := by decide +kernel
theorem dX7_init_49 : decode cX7_init 49 = .ok (.new 37, 3) := by decide +kernel
theorem dX7_init_52 : decode cX7_init 52 = .ok (.dup, 1) := by decide +kernel
theorem dX7_init_53 : decode cX7_init 53 = .ok (.invokespecial 39, 3) := by decide +kernel
theorem dX7_init_56 : decode cX7_init 56 = .ok (.putfield 40, 3) := by decide +kernel
theorem dX7_init_59 : decode cX7_init 59 = .ok (.aload_n 0, 1) := by decide +kernel
theorem dX7_init_60 : decode cX7_init 60 = .ok (.new 44, 3) := by decide +kernel
theorem dX7_init_63 : decode cX7_init 63 = .ok (.dup, 1) := by decide +kernel
theorem dX7_init_64 : decode cX7_init 64 = .ok (.invokespecial 46, 3) := by decide +kernel
theorem dX7_init_67 : decode cX7_init 67 = .ok (.putfield 47, 3) := by decide +kernel
theorem dX7_init_70 : decode cX7_init 70 = .ok (.aload_n 0, 1) := by decide +kernel
theorem dX7_init_71 : decode cX7_init 71 = .ok (.new 51, 3) := by decide +kernel
theorem dX7_init_74 : decode cX7_init 74 = .ok (.dup, 1) := by decide +kernel
theorem dX7_init_75 : decode cX7_init 75 = .ok (.invokespecial 53, 3) := by decide +kernel
theorem dX7_init_78 : decode cX7_init 78 = .ok (.putfield 54, 3) := by decide +kernel
theorem dX7_init_81 : decode cX7_init 81 = .ok (.aload_n 0, 1) := by decide +kernel
theorem dX7_init_82 : decode cX7_init 82 = .ok (.getfield 10, 3) := by decide +kernel
theorem dX7_init_85 : decode cX7_init 85 = .ok (.iconst 4, 1) := by decide +kernel
theorem dX7_init_86 : decode cX7_init 86 = .ok (.iconst 2, 1) := by decide +kernel
theorem dX7_init_87 : decode cX7_init 87 = .ok (.invokevirtual 58, 3) := by decide +kernel
theorem dX7_init_90 : decode cX7_init 90 = .ok (.return_, 1) := by decide +kernel
set_option maxRecDepth 20000 in
theorem ggX7_joint_X7_within : GoodIn wsX7_joint wsX7_within := goodIn_r _ [11] (by decide +kernel) (by decide +kernel)
set_option maxRecDepth 20000 in
theorem gX7_joint_X7_within : GoodIn wsX7_joint (va_wsS RX7 62 yX7_within wsX7_within) := goodIn_app (goodIn_of _ (by decide +kernel)) ggX7_joint_X7_within
set_option maxRecDepth 20000 in
theorem ggX7_joint_X2_begin : GoodIn wsX7_joint wsX2_begin := goodIn_r _ [16, 17, 18, 19, 20, 21, 22, 23, 24, 50, 51, 52, 53, 54, 55, 56, 57] (by decide +kernel) (by decide +kernel)
set_option maxRecDepth 20000 in
theorem gX7_joint_X2_begin : GoodIn wsX7_joint (wsV RX7 58 RX2 yX2_begin wsX2_begin) := goodIn_app (goodIn_of _ (by decide +kernel)) ggX7_joint_X2_begin
set_option maxRecDepth 20000 in
theorem ggX7_joint_X4_begin : GoodIn wsX7_joint wsX4_begin := goodIn_r _ [29, 30, 31, 32, 28, 33, 34, 58, 59] (by decide +kernel) (by decide +kernel)
set_option maxRecDepth 20000 in
theorem gX7_joint_X4_begin : GoodIn wsX7_joint (wsV RX7 71 RX4 yX4_begin wsX4_begin) := goodIn_app (goodIn_of _ (by decide +kernel)) ggX7_joint_X4_begin
theorem dX7_joint_0 : decode cX7_joint 0 = .ok (.iload_n 1, 1) := by decide +kernel
theorem dX7_joint_1 : decode cX7_joint 1 = .ok (.iconst 3, 1) := by decide +kernel
theorem dX7_joint_2 : decode cX7_joint 2 = .ok (.bipush 6, 2) := by decide +kernel
theorem dX7_joint_4 : decode cX7_joint 4 = .ok (.invokestatic 62, 3) := by decide +kernel
theorem dX7_joint_7 : decode cX7_joint 7 = .ok (.ifCond .eq 13, 3) := by decide +kernel
theorem dX7_joint_10 : decode cX7_joint 10 = .ok (.iload_n 2, 1) := by decide +kernel
theorem dX7_joint_11 : decode cX7_joint 11 = .ok (.iconst 1, 1) := by decide +kernel
theorem dX7_joint_12 : decode cX7_joint 12 = .ok (.bipush 9, 2) := by decide +kernel
theorem dX7_joint_14 : decode cX7_joint 14 = .ok (.invokestatic 62, 3) := by decide +kernel
theorem dX7_joint_17 : decode cX7_joint 17 = .ok (.ifCond .ne 6, 3) := by decide +kernel
theorem dX7_joint_20 : decode cX7_joint 20 = .ok (.ldc 66, 2) := by decide +kernel
theorem dX7_joint_22 : decode cX7_joint 22 = .ok (.ireturn, 1) := by decide +kernel
theorem dX7_joint_23 : decode cX7_joint 23 = .ok (.aload_n 0, 1) := by decide +kernel
theorem dX7_joint_24 : decode cX7_joint 24 = .ok (.getfield 10, 3) := by decide +kernel
theorem dX7_joint_27 : decode cX7_joint 27 = .ok (.iload_n 1, 1) := by decide +kernel
theorem dX7_joint_28 : decode cX7_joint 28 = .ok (.iload_n 2, 1) := by decide +kernel
theorem dX7_joint_29 : decode cX7_joint 29 = .ok (.invokevirtual 58, 3) := by decide +kernel
theorem dX7_joint_32 : decode cX7_joint 32 = .ok (.aload_n 0, 1) := by decide +kernel
theorem dX7_joint_33 : decode cX7_joint 33 = .ok (.getfield 33, 3) := by decide +kernel
theorem dX7_joint_36 : decode cX7_joint 36 = .ok (.iconst 0, 1) := by decide +kernel
theorem dX7_joint_37 : decode cX7_joint 37 = .ok (.putfield 67, 3) := by decide +kernel
theorem dX7_joint_40 : decode cX7_joint 40 = .ok (.aload_n 0, 1) := by decide +kernel
theorem dX7_joint_41 : decode cX7_joint 41 = .ok (.getfield 40, 3) := by decide +kernel
theorem dX7_joint_44 : decode cX7_joint 44 = .ok (.invokevirtual 71, 3) := by decide +kernel
theorem dX7_joint_47 : decode cX7_joint 47 = .ok (.aload_n 0, 1) := by decide +kernel
theorem dX7_joint_48 : decode cX7_joint 48 = .ok (.getfield 47, 3) := by decide +kernel
theorem dX7_joint_51 : decode cX7_joint 51 = .ok (.iconst 0, 1) := by decide +kernel
theorem dX7_joint_52 : decode cX7_joint 52 = .ok (.putfield 73, 3) := by decide +kernel
theorem dX7_joint_55 : decode cX7_joint 55 = .ok (.iload_n 1, 1) := by decide +kernel
theorem dX7_joint_56 : decode cX7_joint 56 = .ok (.ireturn, 1) := by decide +kernel
set_option maxRecDepth 20000 in
theorem ggX7_set_X2_has : GoodIn wsX7_set wsX2_has := goodIn_r _ [8, 9, 36, 37, 38, 39, 40, 41, 42, 43] (by decide +kernel) (by decide +kernel)
set_option maxRecDepth 20000 in
theorem gX7_set_X2_has : GoodIn wsX7_set (wsV RX7 76 RX2 yX2_has wsX2_has) := goodIn_app (goodIn_of _ (by decide +kernel)) ggX7_set_X2_has
set_option maxRecDepth 20000 in
theorem ggX7_set_X7_within : GoodIn wsX7_set wsX7_within := goodIn_r _ [13] (by decide +kernel) (by decide +kernel)
set_option maxRecDepth 20000 in
theorem gX7_set_X7_within : GoodIn wsX7_set (va_wsS RX7 62 yX7_within wsX7_within) := goodIn_app (goodIn_of _ (by decide +kernel)) ggX7_set_X7_within
set_option maxRecDepth 20000 in
theorem ggX7_set_X7_leastOf : GoodIn wsX7_set wsX7_leastOf := goodIn_r _ [16] (by decide +kernel) (by decide +kernel)
set_option maxRecDepth 20000 in
theorem gX7_set_X7_leastOf : GoodIn wsX7_set (va_wsS RX7 81 yX7_leastOf wsX7_leastOf) := goodIn_app (goodIn_of _ (by decide +kernel)) ggX7_set_X7_leastOf
set_option maxRecDepth 20000 in
theorem ggX7_set_X7_mostOf : GoodIn wsX7_set wsX7_mostOf := goodIn_r _ [19] (by decide +kernel) (by decide +kernel)
set_option maxRecDepth 20000 in
theorem gX7_set_X7_mostOf : GoodIn wsX7_set (va_wsS RX7 85 yX7_mostOf wsX7_mostOf) := goodIn_app (goodIn_of _ (by decide +kernel)) ggX7_set_X7_mostOf
set_option maxRecDepth 20000 in
theorem ggX7_set_X2_valuesOf : GoodIn wsX7_set wsX2_valuesOf := goodIn_r _ [23, 24, 25, 26, 27, 36, 37, 38, 39, 40, 41, 42, 43] (by decide +kernel) (by decide +kernel)
set_option maxRecDepth 20000 in
theorem gX7_set_X2_valuesOf : GoodIn wsX7_set (wsV RX7 88 RX2 yX2_valuesOf wsX2_valuesOf) := goodIn_app (goodIn_of _ (by decide +kernel)) ggX7_set_X2_valuesOf
theorem dX7_set_0 : decode cX7_set 0 = .ok (.aload_n 0, 1) := by decide +kernel
theorem dX7_set_1 : decode cX7_set 1 = .ok (.getfield 10, 3) := by decide +kernel
theorem dX7_set_4 : decode cX7_set 4 = .ok (.iload_n 1, 1) := by decide +kernel
theorem dX7_set_5 : decode cX7_set 5 = .ok (.invokevirtual 76, 3) := by decide +kernel
theorem dX7_set_8 : decode cX7_set 8 = .ok (.ifCond .ne 6, 3) := by decide +kernel
theorem dX7_set_11 : decode cX7_set 11 = .ok (.ldc 80, 2) := by decide +kernel
theorem dX7_set_13 : decode cX7_set 13 = .ok (.ireturn, 1) := by decide +kernel
theorem dX7_set_14 : decode cX7_set 14 = .ok (.iload_n 2, 1) := by decide +kernel
theorem dX7_set_15 : decode cX7_set 15 = .ok (.iconst 0, 1) := by decide +kernel
theorem dX7_set_16 : decode cX7_set 16 = .ok (.iconst 3, 1) := by decide +kernel
theorem dX7_set_17 : decode cX7_set 17 = .ok (.invokestatic 62, 3) := by decide +kernel
theorem dX7_set_20 : decode cX7_set 20 = .ok (.ifCond .eq 18, 3) := by decide +kernel
theorem dX7_set_23 : decode cX7_set 23 = .ok (.iload_n 3, 1) := by decide +kernel
theorem dX7_set_24 : decode cX7_set 24 = .ok (.iload_n 2, 1) := by decide +kernel
theorem dX7_set_25 : decode cX7_set 25 = .ok (.invokestatic 81, 3) := by decide +kernel
theorem dX7_set_28 : decode cX7_set 28 = .ok (.iload_n 2, 1) := by decide +kernel
theorem dX7_set_29 : decode cX7_set 29 = .ok (.invokestatic 85, 3) := by decide +kernel
theorem dX7_set_32 : decode cX7_set 32 = .ok (.invokestatic 62, 3) := by decide +kernel
theorem dX7_set_35 : decode cX7_set 35 = .ok (.ifCond .ne 6, 3) := by decide +kernel
theorem dX7_set_38 : decode cX7_set 38 = .ok (.ldc 66, 2) := by decide +kernel
theorem dX7_set_40 : decode cX7_set 40 = .ok (.ireturn, 1) := by decide +kernel
theorem dX7_set_41 : decode cX7_set 41 = .ok (.aload_n 0, 1) := by decide +kernel
theorem dX7_set_42 : decode cX7_set 42 = .ok (.getfield 10, 3) := by decide +kernel
theorem dX7_set_45 : decode cX7_set 45 = .ok (.iload_n 2, 1) := by decide +kernel
theorem dX7_set_46 : decode cX7_set 46 = .ok (.invokevirtual 88, 3) := by decide +kernel
theorem dX7_set_49 : decode cX7_set 49 = .ok (.astore 4, 2) := by decide +kernel
theorem dX7_set_51 : decode cX7_set 51 = .ok (.aload 4, 2) := by decide +kernel
theorem dX7_set_53 : decode cX7_set 53 = .ok (.iload_n 1, 1) := by decide +kernel
theorem dX7_set_54 : decode cX7_set 54 = .ok (.iaload, 1) := by decide +kernel
theorem dX7_set_55 : decode cX7_set 55 = .ok (.istore 5, 2) := by decide +kernel
theorem dX7_set_57 : decode cX7_set 57 = .ok (.aload 4, 2) := by decide +kernel
theorem dX7_set_59 : decode cX7_set 59 = .ok (.iload_n 1, 1) := by decide +kernel
theorem dX7_set_60 : decode cX7_set 60 = .ok (.iload_n 3, 1) := by decide +kernel
theorem dX7_set_61 : decode cX7_set 61 = .ok (.iastore, 1) := by decide +kernel
theorem dX7_set_62 : decode cX7_set 62 = .ok (.iload 5, 2) := by decide +kernel
theorem dX7_set_64 : decode cX7_set 64 = .ok (.ireturn, 1) := by decide +kernel
set_option maxRecDepth 20000 in
theorem ggX7_broken_X2_has : GoodIn wsX7_broken wsX2_has := goodIn_r _ [8, 9, 42, 43, 44, 45, 46, 47, 48, 49] (by decide +kernel) (by decide +kernel)
set_option maxRecDepth 20000 in
theorem gX7_broken_X2_has : GoodIn wsX7_broken (wsV RX7 76 RX2 yX2_has wsX2_has) := goodIn_app (goodIn_of _ (by decide +kernel)) ggX7_broken_X2_has
set_option maxRecDepth 20000 in
theorem ggX7_broken_X2_isBroken : GoodIn wsX7_broken wsX2_isBroken := goodIn_r _ [13, 14, 42, 43, 44, 45, 46, 47, 48, 49] (by decide +kernel) (by decide +kernel)
set_option maxRecDepth 20000 in
theorem gX7_broken_X2_isBroken : GoodIn wsX7_broken (wsV RX7 92 RX2 yX2_isBroken wsX2_isBroken) := goodIn_app (goodIn_of _ (by decide +kernel)) ggX7_broken_X2_isBroken
set_option maxRecDepth 20000 in
theorem ggX7_broken_X2_wholeCount : GoodIn wsX7_broken wsX2_wholeCount := goodIn_r _ [18, 9, 14, 19, 20, 21, 22, 23, 24, 25, 42, 43, 44, 45, 46, 47, 48, 49] (by decide +kernel) (by decide +kernel)
set_option maxRecDepth 20000 in
theorem gX7_broken_X2_wholeCount : GoodIn wsX7_broken (wsV RX7 95 RX2 yX2_wholeCount wsX2_wholeCount) := goodIn_app (goodIn_of _ (by decide +kernel)) ggX7_broken_X2_wholeCount
set_option maxRecDepth 20000 in
theorem ggX7_broken_X2_markBroken : GoodIn wsX7_broken wsX2_markBroken := goodIn_r _ [29, 14, 42, 43, 44, 45, 46, 47, 48, 49] (by decide +kernel) (by decide +kernel)
set_option maxRecDepth 20000 in
theorem gX7_broken_X2_markBroken : GoodIn wsX7_broken (wsV RX7 100 RX2 yX2_markBroken wsX2_markBroken) := goodIn_app (goodIn_of _ (by decide +kernel)) ggX7_broken_X2_markBroken
set_option maxRecDepth 20000 in
theorem ggX7_broken_X7_asNumber : GoodIn wsX7_broken wsX7_asNumber := goodIn_r _ [33] (by decide +kernel) (by decide +kernel)
set_option maxRecDepth 20000 in
theorem gX7_broken_X7_asNumber : GoodIn wsX7_broken (va_wsS RX7 104 yX7_asNumber wsX7_asNumber) := goodIn_app (goodIn_of _ (by decide +kernel)) ggX7_broken_X7_asNumber
theorem dX7_broken_0 : decode cX7_broken 0 = .ok (.aload_n 0, 1) := by decide +kernel
theorem dX7_broken_1 : decode cX7_broken 1 = .ok (.getfield 10, 3) := by decide +kernel
theorem dX7_broken_4 : decode cX7_broken 4 = .ok (.iload_n 1, 1) := by decide +kernel
theorem dX7_broken_5 : decode cX7_broken 5 = .ok (.invokevirtual 76, 3) := by decide +kernel
theorem dX7_broken_8 : decode cX7_broken 8 = .ok (.ifCond .ne 6, 3) := by decide +kernel
theorem dX7_broken_11 : decode cX7_broken 11 = .ok (.ldc 80, 2) := by decide +kernel
theorem dX7_broken_13 : decode cX7_broken 13 = .ok (.ireturn, 1) := by decide +kernel
theorem dX7_broken_14 : decode cX7_broken 14 = .ok (.aload_n 0, 1) := by decide +kernel
theorem dX7_broken_15 : decode cX7_broken 15 = .ok (.getfield 10, 3) := by decide +kernel
theorem dX7_broken_18 : decode cX7_broken 18 = .ok (.iload_n 1, 1) := by decide +kernel
theorem dX7_broken_19 : decode cX7_broken 19 = .ok (.invokevirtual 92, 3) := by decide +kernel
theorem dX7_broken_22 : decode cX7_broken 22 = .ok (.istore_n 3, 1) := by decide +kernel
theorem dX7_broken_23 : decode cX7_broken 23 = .ok (.iload_n 2, 1) := by decide +kernel
theorem dX7_broken_24 : decode cX7_broken 24 = .ok (.ifCond .eq 21, 3) := by decide +kernel
theorem dX7_broken_27 : decode cX7_broken 27 = .ok (.iload_n 3, 1) := by decide +kernel
theorem dX7_broken_28 : decode cX7_broken 28 = .ok (.ifCond .ne 17, 3) := by decide +kernel
theorem dX7_broken_31 : decode cX7_broken 31 = .ok (.aload_n 0, 1) := by decide +kernel
theorem dX7_broken_32 : decode cX7_broken 32 = .ok (.getfield 10, 3) := by decide +kernel
theorem dX7_broken_35 : decode cX7_broken 35 = .ok (.invokevirtual 95, 3) := by decide +kernel
theorem dX7_broken_38 : decode cX7_broken 38 = .ok (.iconst 1, 1) := by decide +kernel
theorem dX7_broken_39 : decode cX7_broken 39 = .ok (.if_icmp .ne 6, 3) := by decide +kernel
theorem dX7_broken_42 : decode cX7_broken 42 = .ok (.ldc 99, 2) := by decide +kernel
theorem dX7_broken_44 : decode cX7_broken 44 = .ok (.ireturn, 1) := by decide +kernel
theorem dX7_broken_45 : decode cX7_broken 45 = .ok (.aload_n 0, 1) := by decide +kernel
theorem dX7_broken_46 : decode cX7_broken 46 = .ok (.getfield 10, 3) := by decide +kernel
theorem dX7_broken_49 : decode cX7_broken 49 = .ok (.iload_n 1, 1) := by decide +kernel
theorem dX7_broken_50 : decode cX7_broken 50 = .ok (.iload_n 2, 1) := by decide +kernel
theorem dX7_broken_51 : decode cX7_broken 51 = .ok (.invokevirtual 100, 3) := by decide +kernel
theorem dX7_broken_54 : decode cX7_broken 54 = .ok (.iload_n 3, 1) := by decide +kernel
theorem dX7_broken_55 : decode cX7_broken 55 = .ok (.invokestatic 104, 3) := by decide +kernel
theorem dX7_broken_58 : decode cX7_broken 58 = .ok (.ireturn, 1) := by decide +kernel
set_option maxRecDepth 20000 in
theorem ggX7_told_X2_has : GoodIn wsX7_told wsX2_has := goodIn_r _ [10, 11, 101, 102, 103, 104, 105, 106, 107, 108] (by decide +kernel) (by decide +kernel)
set_option maxRecDepth 20000 in
theorem gX7_told_X2_has : GoodIn wsX7_told (wsV RX7 76 RX2 yX2_has wsX2_has) := goodIn_app (goodIn_of _ (by decide +kernel)) ggX7_told_X2_has
set_option maxRecDepth 20000 in
theorem ggX7_told_X2_valuesOf : GoodIn wsX7_told wsX2_valuesOf := goodIn_r _ [15, 16, 17, 18, 19, 101, 102, 103, 104, 105, 106, 107, 108] (by decide +kernel) (by decide +kernel)
set_option maxRecDepth 20000 in
theorem gX7_told_X2_valuesOf : GoodIn wsX7_told (wsV RX7 88 RX2 yX2_valuesOf wsX2_valuesOf) := goodIn_app (goodIn_of _ (by decide +kernel)) ggX7_told_X2_valuesOf
set_option maxRecDepth 20000 in
theorem ggX7_told_X2_isBroken : GoodIn wsX7_told wsX2_isBroken := goodIn_r _ [23, 24, 101, 102, 103, 104, 105, 106, 107, 108] (by decide +kernel) (by decide +kernel)
set_option maxRecDepth 20000 in
theorem gX7_told_X2_isBroken : GoodIn wsX7_told (wsV RX7 92 RX2 yX2_isBroken wsX2_isBroken) := goodIn_app (goodIn_of _ (by decide +kernel)) ggX7_told_X2_isBroken
set_option maxRecDepth 20000 in
theorem ggX7_told_X7_asNumber : GoodIn wsX7_told wsX7_asNumber := goodIn_r _ [28] (by decide +kernel) (by decide +kernel)
set_option maxRecDepth 20000 in
theorem gX7_told_X7_asNumber : GoodIn wsX7_told (va_wsS RX7 104 yX7_asNumber wsX7_asNumber) := goodIn_app (goodIn_of _ (by decide +kernel)) ggX7_told_X7_asNumber
set_option maxRecDepth 20000 in
theorem ggX7_told_X3_settle : GoodIn wsX7_told wsX3_settle := goodIn_r _ [33, 34, 35, 36, 32, 37, 38, 39, 40, 41, 42, 43, 44, 9, 45, 11, 46, 47, 48, 49, 50, 51, 52, 53, 54, 55, 56, 57, 58, 59, 60, 61, 62, 63, 64, 65, 66, 67, 68, 69, 70, 71, 72, 73, 74, 101, 102, 103, 104, 105, 106, 107, 108, 109, 110, 111, 112, 113, 114] (by decide +kernel) (by decide +kernel)
set_option maxRecDepth 20000 in
theorem gX7_told_X3_settle : GoodIn wsX7_told (wsV RX7 112 RX3 yX3_settle wsX3_settle) := goodIn_app (goodIn_of _ (by decide +kernel)) ggX7_told_X3_settle
set_option maxRecDepth 20000 in
theorem ggX7_told_X3_pullUpper : GoodIn wsX7_told wsX3_pullUpper := goodIn_r _ [78, 51, 65, 52, 66, 79, 80, 81, 82, 83, 21, 22, 9, 23, 24, 101, 102, 103, 104, 105, 106, 107, 108, 109, 110, 111, 112, 113, 114] (by decide +kernel) (by decide +kernel)
set_option maxRecDepth 20000 in
theorem gX7_told_X3_pullUpper : GoodIn wsX7_told (wsV RX7 116 RX3 yX3_pullUpper wsX3_pullUpper) := goodIn_app (goodIn_of _ (by decide +kernel)) ggX7_told_X3_pullUpper
set_option maxRecDepth 20000 in
theorem ggX7_told_X3_pressUpper : GoodIn wsX7_told wsX3_pressUpper := goodIn_r _ [87, 53, 66, 79, 80, 81, 82, 101, 102, 103, 104, 105, 106, 107, 108, 109, 110, 111, 112, 113, 114] (by decide +kernel) (by decide +kernel)
set_option maxRecDepth 20000 in
theorem gX7_told_X3_pressUpper : GoodIn wsX7_told (wsV RX7 120 RX3 yX3_pressUpper wsX3_pressUpper) := goodIn_app (goodIn_of _ (by decide +kernel)) ggX7_told_X3_pressUpper
set_option maxRecDepth 20000 in
theorem ggX7_told_X2_placeInRow : GoodIn wsX7_told wsX2_placeInRow := goodIn_r _ [91, 11, 92, 101, 102, 103, 104, 105, 106, 107, 108] (by decide +kernel) (by decide +kernel)
set_option maxRecDepth 20000 in
theorem gX7_told_X2_placeInRow : GoodIn wsX7_told (wsV RX7 123 RX2 yX2_placeInRow wsX2_placeInRow) := goodIn_app (goodIn_of _ (by decide +kernel)) ggX7_told_X2_placeInRow
theorem dX7_told_0 : decode cX7_told 0 = .ok (.aload_n 0, 1) := by decide +kernel
theorem dX7_told_1 : decode cX7_told 1 = .ok (.getfield 10, 3) := by decide +kernel
theorem dX7_told_4 : decode cX7_told 4 = .ok (.iload_n 1, 1) := by decide +kernel
theorem dX7_told_5 : decode cX7_told 5 = .ok (.invokevirtual 76, 3) := by decide +kernel
theorem dX7_told_8 : decode cX7_told 8 = .ok (.ifCond .ne 6, 3) := by decide +kernel
theorem dX7_told_11 : decode cX7_told 11 = .ok (.ldc 80, 2) := by decide +kernel
theorem dX7_told_13 : decode cX7_told 13 = .ok (.ireturn, 1) := by decide +kernel
theorem dX7_told_14 : decode cX7_told 14 = .ok (.iload_n 2, 1) := by decide +kernel
theorem dX7_told_15 : decode cX7_told 15 = .ok (.tableswitch 165 0 7 #[45, 45, 45, 45, 56, 68, 112, 156], 45) := by decide +kernel
theorem dX7_told_60 : decode cX7_told 60 = .ok (.aload_n 0, 1) := by decide +kernel
theorem dX7_told_61 : decode cX7_told 61 = .ok (.getfield 10, 3) := by decide +kernel
theorem dX7_told_64 : decode cX7_told 64 = .ok (.iload_n 2, 1) := by decide +kernel
theorem dX7_told_65 : decode cX7_told 65 = .ok (.invokevirtual 88, 3) := by decide +kernel
theorem dX7_told_68 : decode cX7_told 68 = .ok (.iload_n 1, 1) := by decide +kernel
theorem dX7_told_69 : decode cX7_told 69 = .ok (.iaload, 1) := by decide +kernel
theorem dX7_told_70 : decode cX7_told 70 = .ok (.ireturn, 1) := by decide +kernel
theorem dX7_told_71 : decode cX7_told 71 = .ok (.aload_n 0, 1) := by decide +kernel
theorem dX7_told_72 : decode cX7_told 72 = .ok (.getfield 10, 3) := by decide +kernel
theorem dX7_told_75 : decode cX7_told 75 = .ok (.iload_n 1, 1) := by decide +kernel
theorem dX7_told_76 : decode cX7_told 76 = .ok (.invokevirtual 92, 3) := by decide +kernel
theorem dX7_told_79 : decode cX7_told 79 = .ok (.invokestatic 104, 3) := by decide +kernel
theorem dX7_told_82 : decode cX7_told 82 = .ok (.ireturn, 1) := by decide +kernel
theorem dX7_told_83 : decode cX7_told 83 = .ok (.aload_n 0, 1) := by decide +kernel
theorem dX7_told_84 : decode cX7_told 84 = .ok (.getfield 19, 3) := by decide +kernel
theorem dX7_told_87 : decode cX7_told 87 = .ok (.aload_n 0, 1) := by decide +kernel
theorem dX7_told_88 : decode cX7_told 88 = .ok (.getfield 10, 3) := by decide +kernel
theorem dX7_told_91 : decode cX7_told 91 = .ok (.aload_n 0, 1) := by decide +kernel
theorem dX7_told_92 : decode cX7_told 92 = .ok (.getfield 10, 3) := by decide +kernel
theorem dX7_told_95 : decode cX7_told 95 = .ok (.getfield 108, 3) := by decide +kernel
theorem dX7_told_98 : decode cX7_told 98 = .ok (.invokevirtual 112, 3) := by decide +kernel
theorem dX7_told_101 : decode cX7_told 101 = .ok (.aload_n 0, 1) := by decide +kernel
theorem dX7_told_102 : decode cX7_told 102 = .ok (.getfield 19, 3) := by decide +kernel
theorem dX7_told_105 : decode cX7_told 105 = .ok (.aload_n 0, 1) := by decide +kernel
theorem dX7_told_106 : decode cX7_told 106 = .ok (.getfield 10, 3) := by decide +kernel
theorem dX7_told_109 : decode cX7_told 109 = .ok (.iload_n 1, 1) := by decide +kernel
theorem dX7_told_110 : decode cX7_told 110 = .ok (.invokevirtual 116, 3) := by decide +kernel
theorem dX7_told_113 : decode cX7_told 113 = .ok (.lconst 0, 1) := by decide +kernel
theorem dX7_told_114 : decode cX7_told 114 = .ok (.lcmp, 1) := by decide +kernel
theorem dX7_told_115 : decode cX7_told 115 = .ok (.ifCond .ne 7, 3) := by decide +kernel
theorem dX7_told_118 : decode cX7_told 118 = .ok (.iconst 1, 1) := by decide +kernel
theorem dX7_told_119 : decode cX7_told 119 = .ok (.goto 4, 3) := by decide +kernel
theorem dX7_told_122 : decode cX7_told 122 = .ok (.iconst 0, 1) := by decide +kernel
theorem dX7_told_123 : decode cX7_told 123 = .ok (.invokestatic 104, 3) := by decide +kernel
theorem dX7_told_126 : decode cX7_told 126 = .ok (.ireturn, 1) := by decide +kernel
theorem dX7_told_127 : decode cX7_told 127 = .ok (.aload_n 0, 1) := by decide +kernel
theorem dX7_told_128 : decode cX7_told 128 = .ok (.getfield 19, 3) := by decide +kernel
theorem dX7_told_131 : decode cX7_told 131 = .ok (.aload_n 0, 1) := by decide +kernel
theorem dX7_told_132 : decode cX7_told 132 = .ok (.getfield 10, 3) := by decide +kernel
theorem dX7_told_135 : decode cX7_told 135 = .ok (.aload_n 0, 1) := by decide +kernel
theorem dX7_told_136 : decode cX7_told 136 = .ok (.getfield 10, 3) := by decide +kernel
theorem dX7_told_139 : decode cX7_told 139 = .ok (.getfield 108, 3) := by decide +kernel
theorem dX7_told_142 : decode cX7_told 142 = .ok (.invokevirtual 112, 3) := by decide +kernel
theorem dX7_told_145 : decode cX7_told 145 = .ok (.aload_n 0, 1) := by decide +kernel
theorem dX7_told_146 : decode cX7_told 146 = .ok (.getfield 19, 3) := by decide +kernel
theorem dX7_told_149 : decode cX7_told 149 = .ok (.aload_n 0, 1) := by decide +kernel
theorem dX7_told_150 : decode cX7_told 150 = .ok (.getfield 10, 3) := by decide +kernel
theorem dX7_told_153 : decode cX7_told 153 = .ok (.iload_n 1, 1) := by decide +kernel
theorem dX7_told_154 : decode cX7_told 154 = .ok (.invokevirtual 120, 3) := by decide +kernel
theorem dX7_told_157 : decode cX7_told 157 = .ok (.lconst 0, 1) := by decide +kernel
theorem dX7_told_158 : decode cX7_told 158 = .ok (.lcmp, 1) := by decide +kernel
theorem dX7_told_159 : decode cX7_told 159 = .ok (.ifCond .ne 7, 3) := by decide +kernel
theorem dX7_told_162 : decode cX7_told 162 = .ok (.iconst 1, 1) := by decide +kernel
theorem dX7_told_163 : decode cX7_told 163 = .ok (.goto 4, 3) := by decide +kernel
theorem dX7_told_166 : decode cX7_told 166 = .ok (.iconst 0, 1) := by decide +kernel
theorem dX7_told_167 : decode cX7_told 167 = .ok (.invokestatic 104, 3) := by decide +kernel
theorem dX7_told_170 : decode cX7_told 170 = .ok (.ireturn, 1) := by decide +kernel
theorem dX7_told_171 : decode cX7_told 171 = .ok (.aload_n 0, 1) := by decide +kernel
theorem dX7_told_172 : decode cX7_told 172 = .ok (.getfield 10, 3) := by decide +kernel
theorem dX7_told_175 : decode cX7_told 175 = .ok (.iload_n 1, 1) := by decide +kernel
theorem dX7_told_176 : decode cX7_told 176 = .ok (.invokevirtual 123, 3) := by decide +kernel
theorem dX7_told_179 : decode cX7_told 179 = .ok (.ireturn, 1) := by decide +kernel
theorem dX7_told_180 : decode cX7_told 180 = .ok (.ldc 66, 2) := by decide +kernel
theorem dX7_told_182 : decode cX7_told 182 = .ok (.ireturn, 1) := by decide +kernel
set_option maxRecDepth 20000 in
theorem ggX7_count_J6_bitCount_0f7a4 : GoodIn wsX7_count wsJ6_bitCount_0f7a4 := goodIn_r _ [18, 19, 20, 21] (by decide +kernel) (by decide +kernel)
set_option maxRecDepth 20000 in
theorem gX7_count_J6_bitCount_0f7a4 : GoodIn wsX7_count (va_wsS RX7 148 yJ6_bitCount_0f7a4 wsJ6_bitCount_0f7a4) := goodIn_app (goodIn_of _ (by decide +kernel)) ggX7_count_J6_bitCount_0f7a4
set_option maxRecDepth 20000 in
theorem ggX7_count_X3_settle : GoodIn wsX7_count wsX3_settle := goodIn_r _ [26, 27, 28, 29, 25, 30, 31, 32, 33, 34, 35, 36, 37, 38, 39, 40, 41, 42, 43, 44, 45, 46, 47, 48, 49, 50, 51, 52, 53, 54, 55, 56, 57, 58, 59, 60, 61, 62, 63, 64, 65, 66, 67, 68, 69, 110, 111, 112, 113, 114, 115, 116, 117, 137, 138, 139, 140, 141, 142] (by decide +kernel) (by decide +kernel)
set_option maxRecDepth 20000 in
theorem gX7_count_X3_settle : GoodIn wsX7_count (wsV RX7 112 RX3 yX3_settle wsX3_settle) := goodIn_app (goodIn_of _ (by decide +kernel)) ggX7_count_X3_settle
set_option maxRecDepth 20000 in
theorem ggX7_count_X3_slackCount : GoodIn wsX7_count wsX3_slackCount := goodIn_r _ [73, 33, 74, 75, 76, 25, 77, 46, 60, 47, 61, 78, 79, 80, 81, 82, 83, 84, 38, 85, 86, 87, 88, 89, 110, 111, 112, 113, 114, 115, 116, 117, 137, 138, 139, 140, 141, 142] (by decide +kernel) (by decide +kernel)
set_option maxRecDepth 20000 in
theorem gX7_count_X3_slackCount : GoodIn wsX7_count (wsV RX7 153 RX3 yX3_slackCount wsX3_slackCount) := goodIn_app (goodIn_of _ (by decide +kernel)) ggX7_count_X3_slackCount
set_option maxRecDepth 20000 in
theorem ggX7_count_X3_openCount : GoodIn wsX7_count wsX3_openCount := goodIn_r _ [93, 33, 94, 95, 96, 25, 97, 48, 61, 78, 79, 80, 81, 87, 88, 89, 110, 111, 112, 113, 114, 115, 116, 117, 137, 138, 139, 140, 141, 142] (by decide +kernel) (by decide +kernel)
set_option maxRecDepth 20000 in
theorem gX7_count_X3_openCount : GoodIn wsX7_count (wsV RX7 157 RX3 yX3_openCount wsX3_openCount) := goodIn_app (goodIn_of _ (by decide +kernel)) ggX7_count_X3_openCount
set_option maxRecDepth 20000 in
theorem ggX7_count_X2_sumOf : GoodIn wsX7_count wsX2_sumOf := goodIn_r _ [101, 40, 110, 111, 112, 113, 114, 115, 116, 117] (by decide +kernel) (by decide +kernel)
set_option maxRecDepth 20000 in
theorem gX7_count_X2_sumOf : GoodIn wsX7_count (wsV RX7 163 RX2 yX2_sumOf wsX2_sumOf) := goodIn_app (goodIn_of _ (by decide +kernel)) ggX7_count_X2_sumOf
theorem dX7_count_0 : decode cX7_count 0 = .ok (.iload_n 1, 1) := by decide +kernel
theorem dX7_count_1 : decode cX7_count 1 = .ok (.tableswitch 177 0 8 #[51, 59, 70, 100, 130, 145, 153, 164, 172], 51) := by decide +kernel
theorem dX7_count_52 : decode cX7_count 52 = .ok (.aload_n 0, 1) := by decide +kernel
theorem dX7_count_53 : decode cX7_count 53 = .ok (.getfield 10, 3) := by decide +kernel
theorem dX7_count_56 : decode cX7_count 56 = .ok (.getfield 142, 3) := by decide +kernel
theorem dX7_count_59 : decode cX7_count 59 = .ok (.ireturn, 1) := by decide +kernel
theorem dX7_count_60 : decode cX7_count 60 = .ok (.aload_n 0, 1) := by decide +kernel
theorem dX7_count_61 : decode cX7_count 61 = .ok (.getfield 10, 3) := by decide +kernel
theorem dX7_count_64 : decode cX7_count 64 = .ok (.getfield 145, 3) := by decide +kernel
theorem dX7_count_67 : decode cX7_count 67 = .ok (.invokestatic 148, 3) := by decide +kernel
theorem dX7_count_70 : decode cX7_count 70 = .ok (.ireturn, 1) := by decide +kernel
theorem dX7_count_71 : decode cX7_count 71 = .ok (.aload_n 0, 1) := by decide +kernel
theorem dX7_count_72 : decode cX7_count 72 = .ok (.getfield 19, 3) := by decide +kernel
theorem dX7_count_75 : decode cX7_count 75 = .ok (.aload_n 0, 1) := by decide +kernel
theorem dX7_count_76 : decode cX7_count 76 = .ok (.getfield 10, 3) := by decide +kernel
theorem dX7_count_79 : decode cX7_count 79 = .ok (.aload_n 0, 1) := by decide +kernel
theorem dX7_count_80 : decode cX7_count 80 = .ok (.getfield 10, 3) := by decide +kernel
theorem dX7_count_83 : decode cX7_count 83 = .ok (.getfield 108, 3) := by decide +kernel
theorem dX7_count_86 : decode cX7_count 86 = .ok (.invokevirtual 112, 3) := by decide +kernel
theorem dX7_count_89 : decode cX7_count 89 = .ok (.aload_n 0, 1) := by decide +kernel
theorem dX7_count_90 : decode cX7_count 90 = .ok (.getfield 19, 3) := by decide +kernel
theorem dX7_count_93 : decode cX7_count 93 = .ok (.aload_n 0, 1) := by decide +kernel
theorem dX7_count_94 : decode cX7_count 94 = .ok (.getfield 10, 3) := by decide +kernel
theorem dX7_count_97 : decode cX7_count 97 = .ok (.invokevirtual 153, 3) := by decide +kernel
theorem dX7_count_100 : decode cX7_count 100 = .ok (.ireturn, 1) := by decide +kernel
theorem dX7_count_101 : decode cX7_count 101 = .ok (.aload_n 0, 1) := by decide +kernel
theorem dX7_count_102 : decode cX7_count 102 = .ok (.getfield 19, 3) := by decide +kernel
theorem dX7_count_105 : decode cX7_count 105 = .ok (.aload_n 0, 1) := by decide +kernel
theorem dX7_count_106 : decode cX7_count 106 = .ok (.getfield 10, 3) := by decide +kernel
theorem dX7_count_109 : decode cX7_count 109 = .ok (.aload_n 0, 1) := by decide +kernel
theorem dX7_count_110 : decode cX7_count 110 = .ok (.getfield 10, 3) := by decide +kernel
theorem dX7_count_113 : decode cX7_count 113 = .ok (.getfield 108, 3) := by decide +kernel
theorem dX7_count_116 : decode cX7_count 116 = .ok (.invokevirtual 112, 3) := by decide +kernel
theorem dX7_count_119 : decode cX7_count 119 = .ok (.aload_n 0, 1) := by decide +kernel
theorem dX7_count_120 : decode cX7_count 120 = .ok (.getfield 19, 3) := by decide +kernel
theorem dX7_count_123 : decode cX7_count 123 = .ok (.aload_n 0, 1) := by decide +kernel
theorem dX7_count_124 : decode cX7_count 124 = .ok (.getfield 10, 3) := by decide +kernel
theorem dX7_count_127 : decode cX7_count 127 = .ok (.invokevirtual 157, 3) := by decide +kernel
theorem dX7_count_130 : decode cX7_count 130 = .ok (.ireturn, 1) := by decide +kernel
theorem dX7_count_131 : decode cX7_count 131 = .ok (.aload_n 0, 1) := by decide +kernel
theorem dX7_count_132 : decode cX7_count 132 = .ok (.getfield 10, 3) := by decide +kernel
theorem dX7_count_135 : decode cX7_count 135 = .ok (.aload_n 0, 1) := by decide +kernel
theorem dX7_count_136 : decode cX7_count 136 = .ok (.getfield 10, 3) := by decide +kernel
theorem dX7_count_139 : decode cX7_count 139 = .ok (.getfield 160, 3) := by decide +kernel
theorem dX7_count_142 : decode cX7_count 142 = .ok (.invokevirtual 163, 3) := by decide +kernel
theorem dX7_count_145 : decode cX7_count 145 = .ok (.ireturn, 1) := by decide +kernel
theorem dX7_count_146 : decode cX7_count 146 = .ok (.aload_n 0, 1) := by decide +kernel
theorem dX7_count_147 : decode cX7_count 147 = .ok (.getfield 33, 3) := by decide +kernel
theorem dX7_count_150 : decode cX7_count 150 = .ok (.getfield 67, 3) := by decide +kernel
theorem dX7_count_153 : decode cX7_count 153 = .ok (.ireturn, 1) := by decide +kernel
theorem dX7_count_154 : decode cX7_count 154 = .ok (.aload_n 0, 1) := by decide +kernel
theorem dX7_count_155 : decode cX7_count 155 = .ok (.getfield 47, 3) := by decide +kernel
theorem dX7_count_158 : decode cX7_count 158 = .ok (.getfield 73, 3) := by decide +kernel
theorem dX7_count_161 : decode cX7_count 161 = .ok (.invokestatic 148, 3) := by decide +kernel
theorem dX7_count_164 : decode cX7_count 164 = .ok (.ireturn, 1) := by decide +kernel
theorem dX7_count_165 : decode cX7_count 165 = .ok (.aload_n 0, 1) := by decide +kernel
theorem dX7_count_166 : decode cX7_count 166 = .ok (.getfield 54, 3) := by decide +kernel
theorem dX7_count_169 : decode cX7_count 169 = .ok (.getfield 167, 3) := by decide +kernel
theorem dX7_count_172 : decode cX7_count 172 = .ok (.ireturn, 1) := by decide +kernel
theorem dX7_count_173 : decode cX7_count 173 = .ok (.aload_n 0, 1) := by decide +kernel
theorem dX7_count_174 : decode cX7_count 174 = .ok (.getfield 170, 3) := by decide +kernel
theorem dX7_count_177 : decode cX7_count 177 = .ok (.ireturn, 1) := by decide +kernel
theorem dX7_count_178 : decode cX7_count 178 = .ok (.ldc 66, 2) := by decide +kernel
theorem dX7_count_180 : decode cX7_count 180 = .ok (.ireturn, 1) := by decide +kernel
set_option maxRecDepth 20000 in
theorem ggX7_row_X2_takeRow : GoodIn wsX7_row wsX2_takeRow := goodIn_r _ [7, 8, 9, 10, 11, 12, 6, 13, 14, 15, 16, 17, 26, 27, 28, 29, 30, 31, 32, 33] (by decide +kernel) (by decide +kernel)
set_option maxRecDepth 20000 in
theorem gX7_row_X2_takeRow : GoodIn wsX7_row (wsV RX7 177 RX2 yX2_takeRow wsX2_takeRow) := goodIn_app (goodIn_of _ (by decide +kernel)) ggX7_row_X2_takeRow
theorem dX7_row_0 : decode cX7_row 0 = .ok (.aload_n 0, 1) := by decide +kernel
theorem dX7_row_1 : decode cX7_row 1 = .ok (.getfield 10, 3) := by decide +kernel
theorem dX7_row_4 : decode cX7_row 4 = .ok (.iload_n 1, 1) := by decide +kernel
theorem dX7_row_5 : decode cX7_row 5 = .ok (.invokevirtual 177, 3) := by decide +kernel
theorem dX7_row_8 : decode cX7_row 8 = .ok (.ifCond .eq 7, 3) := by decide +kernel
theorem dX7_row_11 : decode cX7_row 11 = .ok (.iconst 1, 1) := by decide +kernel
theorem dX7_row_12 : decode cX7_row 12 = .ok (.goto 5, 3) := by decide +kernel
theorem dX7_row_15 : decode cX7_row 15 = .ok (.ldc 66, 2) := by decide +kernel
theorem dX7_row_17 : decode cX7_row 17 = .ok (.ireturn, 1) := by decide +kernel
set_option maxRecDepth 20000 in
theorem ggX7_passes_X7_within : GoodIn wsX7_passes wsX7_within := goodIn_r _ [9] (by decide +kernel) (by decide +kernel)
set_option maxRecDepth 20000 in
theorem gX7_passes_X7_within : GoodIn wsX7_passes (va_wsS RX7 62 yX7_within wsX7_within) := goodIn_app (goodIn_of _ (by decide +kernel)) ggX7_passes_X7_within
set_option maxRecDepth 20000 in
theorem ggX7_passes_X1_keepTurns : GoodIn wsX7_passes wsX1_keepTurns := goodIn_r _ [14, 15, 16, 17, 18, 19, 20, 137, 138, 139, 140, 141, 142, 143, 144, 145, 146, 147, 148, 149, 150, 151] (by decide +kernel) (by decide +kernel)
set_option maxRecDepth 20000 in
theorem gX7_passes_X1_keepTurns : GoodIn wsX7_passes (wsV RX7 187 RX1 yX1_keepTurns wsX1_keepTurns) := goodIn_app (goodIn_of _ (by decide +kernel)) ggX7_passes_X1_keepTurns
set_option maxRecDepth 20000 in
theorem ggX7_passes_X1_goRounds : GoodIn wsX7_passes wsX1_goRounds := goodIn_r _ [24, 25, 26, 27, 13, 28, 29, 30, 31, 32, 33, 34, 35, 36, 37, 38, 39, 40, 41, 42, 43, 44, 45, 46, 47, 48, 49, 50, 51, 52, 53, 54, 55, 56, 57, 58, 59, 60, 61, 62, 63, 64, 65, 66, 67, 68, 69, 70, 71, 72, 73, 74, 75, 76, 77, 78, 79, 80, 81, 82, 83, 84, 85, 86, 87, 88, 89, 90, 91, 92, 93, 94, 95, 96, 97, 98, 99, 100, 101, 102, 103, 104, 15, 105, 106, 107, 108, 109, 110, 111, 112, 113, 114, 115, 116, 117, 118, 119, 120, 121, 122, 123, 8, 124, 145, 146, 147, 148, 149, 150, 151, 137, 138, 139, 140, 141, 142, 143, 144, 152, 153, 154, 155, 156, 157] (by decide +kernel) (by decide +kernel)
set_option maxRecDepth 20000 in
theorem gX7_passes_X1_goRounds : GoodIn wsX7_passes (wsV RX7 191 RX1 yX1_goRounds wsX1_goRounds) := goodIn_app (goodIn_of _ (by decide +kernel)) ggX7_passes_X1_goRounds
set_option maxRecDepth 20000 in
theorem ggX7_passes_X1_putTurnsBack : GoodIn wsX7_passes wsX1_putTurnsBack := goodIn_r _ [128, 16, 15, 17, 18, 19, 20, 145, 146, 147, 148, 149, 150, 151, 137, 138, 139, 140, 141, 142, 143, 144] (by decide +kernel) (by decide +kernel)
set_option maxRecDepth 20000 in
theorem gX7_passes_X1_putTurnsBack : GoodIn wsX7_passes (wsV RX7 195 RX1 yX1_putTurnsBack wsX1_putTurnsBack) := goodIn_app (goodIn_of _ (by decide +kernel)) ggX7_passes_X1_putTurnsBack
theorem dX7_passes_0 : decode cX7_passes 0 = .ok (.iload_n 1, 1) := by decide +kernel
theorem dX7_passes_1 : decode cX7_passes 1 = .ok (.iconst 1, 1) := by decide +kernel
theorem dX7_passes_2 : decode cX7_passes 2 = .ok (.sipush 900, 3) := by decide +kernel
theorem dX7_passes_5 : decode cX7_passes 5 = .ok (.invokestatic 62, 3) := by decide +kernel
theorem dX7_passes_8 : decode cX7_passes 8 = .ok (.ifCond .ne 6, 3) := by decide +kernel
theorem dX7_passes_11 : decode cX7_passes 11 = .ok (.ldc 66, 2) := by decide +kernel
theorem dX7_passes_13 : decode cX7_passes 13 = .ok (.ireturn, 1) := by decide +kernel
theorem dX7_passes_14 : decode cX7_passes 14 = .ok (.aload_n 0, 1) := by decide +kernel
theorem dX7_passes_15 : decode cX7_passes 15 = .ok (.getfield 26, 3) := by decide +kernel
theorem dX7_passes_18 : decode cX7_passes 18 = .ok (.aload_n 0, 1) := by decide +kernel
theorem dX7_passes_19 : decode cX7_passes 19 = .ok (.getfield 10, 3) := by decide +kernel
theorem dX7_passes_22 : decode cX7_passes 22 = .ok (.invokevirtual 187, 3) := by decide +kernel
theorem dX7_passes_25 : decode cX7_passes 25 = .ok (.aload_n 0, 1) := by decide +kernel
theorem dX7_passes_26 : decode cX7_passes 26 = .ok (.getfield 26, 3) := by decide +kernel
theorem dX7_passes_29 : decode cX7_passes 29 = .ok (.aload_n 0, 1) := by decide +kernel
theorem dX7_passes_30 : decode cX7_passes 30 = .ok (.getfield 10, 3) := by decide +kernel
theorem dX7_passes_33 : decode cX7_passes 33 = .ok (.aload_n 0, 1) := by decide +kernel
theorem dX7_passes_34 : decode cX7_passes 34 = .ok (.getfield 10, 3) := by decide +kernel
theorem dX7_passes_37 : decode cX7_passes 37 = .ok (.getfield 180, 3) := by decide +kernel
theorem dX7_passes_40 : decode cX7_passes 40 = .ok (.iload_n 1, 1) := by decide +kernel
theorem dX7_passes_41 : decode cX7_passes 41 = .ok (.bipush 20, 2) := by decide +kernel
theorem dX7_passes_43 : decode cX7_passes 43 = .ok (.invokevirtual 191, 3) := by decide +kernel
theorem dX7_passes_46 : decode cX7_passes 46 = .ok (.istore_n 2, 1) := by decide +kernel
theorem dX7_passes_47 : decode cX7_passes 47 = .ok (.iload_n 2, 1) := by decide +kernel
theorem dX7_passes_48 : decode cX7_passes 48 = .ok (.iconst (-1), 1) := by decide +kernel
theorem dX7_passes_49 : decode cX7_passes 49 = .ok (.if_icmp .ne 17, 3) := by decide +kernel
theorem dX7_passes_52 : decode cX7_passes 52 = .ok (.aload_n 0, 1) := by decide +kernel
theorem dX7_passes_53 : decode cX7_passes 53 = .ok (.getfield 26, 3) := by decide +kernel
theorem dX7_passes_56 : decode cX7_passes 56 = .ok (.aload_n 0, 1) := by decide +kernel
theorem dX7_passes_57 : decode cX7_passes 57 = .ok (.getfield 10, 3) := by decide +kernel
theorem dX7_passes_60 : decode cX7_passes 60 = .ok (.invokevirtual 195, 3) := by decide +kernel
theorem dX7_passes_63 : decode cX7_passes 63 = .ok (.ldc 99, 2) := by decide +kernel
theorem dX7_passes_65 : decode cX7_passes 65 = .ok (.ireturn, 1) := by decide +kernel
theorem dX7_passes_66 : decode cX7_passes 66 = .ok (.iload_n 2, 1) := by decide +kernel
theorem dX7_passes_67 : decode cX7_passes 67 = .ok (.ireturn, 1) := by decide +kernel
set_option maxRecDepth 20000 in
theorem ggX7_best_X7_within : GoodIn wsX7_best wsX7_within := goodIn_r _ [13] (by decide +kernel) (by decide +kernel)
set_option maxRecDepth 20000 in
theorem gX7_best_X7_within : GoodIn wsX7_best (va_wsS RX7 62 yX7_within wsX7_within) := goodIn_app (goodIn_of _ (by decide +kernel)) ggX7_best_X7_within
set_option maxRecDepth 20000 in
theorem ggX7_best_X1_findBestRow : GoodIn wsX7_best wsX1_findBestRow := goodIn_r _ [18, 19, 20, 21, 22, 23, 24, 25, 26, 27, 28, 29, 30, 31, 32, 17, 33, 34, 35, 36, 37, 38, 39, 40, 41, 42, 43, 44, 45, 46, 47, 48, 49, 50, 51, 52, 53, 54, 55, 56, 57, 58, 59, 60, 61, 62, 63, 64, 65, 66, 67, 68, 69, 70, 71, 72, 73, 74, 75, 76, 77, 78, 79, 80, 81, 82, 83, 84, 85, 86, 87, 88, 89, 90, 91, 92, 93, 94, 95, 96, 97, 98, 99, 100, 101, 102, 103, 104, 105, 106, 107, 108, 109, 110, 111, 112, 113, 114, 115, 116, 117, 118, 119, 120, 121, 122, 123, 124, 125, 126, 127, 128, 129, 130, 131, 132, 133, 134, 135, 136, 12, 137, 138, 139, 140, 141, 142, 143, 144, 145, 146, 147, 148, 149, 150, 159, 160, 161, 162, 163, 164, 165, 166, 167, 168, 169, 170, 171, 172, 173, 174, 175, 176, 177, 178, 179] (by decide +kernel) (by decide +kernel)
set_option maxRecDepth 20000 in
theorem gX7_best_X1_findBestRow : GoodIn wsX7_best (wsV RX7 199 RX1 yX1_findBestRow wsX1_findBestRow) := goodIn_app (goodIn_of _ (by decide +kernel)) ggX7_best_X1_findBestRow
theorem dX7_best_0 : decode cX7_best 0 = .ok (.iload_n 1, 1) := by decide +kernel
theorem dX7_best_1 : decode cX7_best 1 = .ok (.iconst 1, 1) := by decide +kernel
theorem dX7_best_2 : decode cX7_best 2 = .ok (.sipush 900, 3) := by decide +kernel
theorem dX7_best_5 : decode cX7_best 5 = .ok (.invokestatic 62, 3) := by decide +kernel
theorem dX7_best_8 : decode cX7_best 8 = .ok (.ifCond .eq 12, 3) := by decide +kernel
theorem dX7_best_11 : decode cX7_best 11 = .ok (.iload_n 2, 1) := by decide +kernel
theorem dX7_best_12 : decode cX7_best 12 = .ok (.iconst 0, 1) := by decide +kernel
theorem dX7_best_13 : decode cX7_best 13 = .ok (.iconst 2, 1) := by decide +kernel
theorem dX7_best_14 : decode cX7_best 14 = .ok (.invokestatic 62, 3) := by decide +kernel
theorem dX7_best_17 : decode cX7_best 17 = .ok (.ifCond .ne 6, 3) := by decide +kernel
theorem dX7_best_20 : decode cX7_best 20 = .ok (.ldc 66, 2) := by decide +kernel
theorem dX7_best_22 : decode cX7_best 22 = .ok (.ireturn, 1) := by decide +kernel
theorem dX7_best_23 : decode cX7_best 23 = .ok (.aload_n 0, 1) := by decide +kernel
theorem dX7_best_24 : decode cX7_best 24 = .ok (.getfield 10, 3) := by decide +kernel
theorem dX7_best_27 : decode cX7_best 27 = .ok (.getfield 142, 3) := by decide +kernel
theorem dX7_best_30 : decode cX7_best 30 = .ok (.bipush 6, 2) := by decide +kernel
theorem dX7_best_32 : decode cX7_best 32 = .ok (.if_icmp .ne 6, 3) := by decide +kernel
theorem dX7_best_35 : decode cX7_best 35 = .ok (.ldc 198, 2) := by decide +kernel
theorem dX7_best_37 : decode cX7_best 37 = .ok (.ireturn, 1) := by decide +kernel
theorem dX7_best_38 : decode cX7_best 38 = .ok (.aload_n 0, 1) := by decide +kernel
theorem dX7_best_39 : decode cX7_best 39 = .ok (.getfield 26, 3) := by decide +kernel
theorem dX7_best_42 : decode cX7_best 42 = .ok (.aload_n 0, 1) := by decide +kernel
theorem dX7_best_43 : decode cX7_best 43 = .ok (.getfield 10, 3) := by decide +kernel
theorem dX7_best_46 : decode cX7_best 46 = .ok (.iload_n 1, 1) := by decide +kernel
theorem dX7_best_47 : decode cX7_best 47 = .ok (.invokevirtual 199, 3) := by decide +kernel
theorem dX7_best_50 : decode cX7_best 50 = .ok (.aload_n 0, 1) := by decide +kernel
theorem dX7_best_51 : decode cX7_best 51 = .ok (.getfield 26, 3) := by decide +kernel
theorem dX7_best_54 : decode cX7_best 54 = .ok (.getfield 203, 3) := by decide +kernel
theorem dX7_best_57 : decode cX7_best 57 = .ok (.iconst (-1), 1) := by decide +kernel
theorem dX7_best_58 : decode cX7_best 58 = .ok (.if_icmp .ne 6, 3) := by decide +kernel
theorem dX7_best_61 : decode cX7_best 61 = .ok (.ldc 99, 2) := by decide +kernel
theorem dX7_best_63 : decode cX7_best 63 = .ok (.ireturn, 1) := by decide +kernel
theorem dX7_best_64 : decode cX7_best 64 = .ok (.iload_n 2, 1) := by decide +kernel
theorem dX7_best_65 : decode cX7_best 65 = .ok (.ifCond .ne 11, 3) := by decide +kernel
theorem dX7_best_68 : decode cX7_best 68 = .ok (.aload_n 0, 1) := by decide +kernel
theorem dX7_best_69 : decode cX7_best 69 = .ok (.getfield 26, 3) := by decide +kernel
theorem dX7_best_72 : decode cX7_best 72 = .ok (.getfield 206, 3) := by decide +kernel
theorem dX7_best_75 : decode cX7_best 75 = .ok (.ireturn, 1) := by decide +kernel
theorem dX7_best_76 : decode cX7_best 76 = .ok (.iload_n 2, 1) := by decide +kernel
theorem dX7_best_77 : decode cX7_best 77 = .ok (.iconst 1, 1) := by decide +kernel
theorem dX7_best_78 : decode cX7_best 78 = .ok (.if_icmp .ne 13, 3) := by decide +kernel
theorem dX7_best_81 : decode cX7_best 81 = .ok (.aload_n 0, 1) := by decide +kernel
theorem dX7_best_82 : decode cX7_best 82 = .ok (.getfield 26, 3) := by decide +kernel
theorem dX7_best_85 : decode cX7_best 85 = .ok (.getfield 203, 3) := by decide +kernel
theorem dX7_best_88 : decode cX7_best 88 = .ok (.goto 10, 3) := by decide +kernel
theorem dX7_best_91 : decode cX7_best 91 = .ok (.aload_n 0, 1) := by decide +kernel
theorem dX7_best_92 : decode cX7_best 92 = .ok (.getfield 26, 3) := by decide +kernel
theorem dX7_best_95 : decode cX7_best 95 = .ok (.getfield 209, 3) := by decide +kernel
theorem dX7_best_98 : decode cX7_best 98 = .ok (.ireturn, 1) := by decide +kernel
set_option maxRecDepth 20000 in
theorem ggX7_even_X2_has : GoodIn wsX7_even wsX2_has := goodIn_r _ [11, 12, 129, 130, 131, 132, 133, 134, 135, 136] (by decide +kernel) (by decide +kernel)
set_option maxRecDepth 20000 in
theorem gX7_even_X2_has : GoodIn wsX7_even (wsV RX7 76 RX2 yX2_has wsX2_has) := goodIn_app (goodIn_of _ (by decide +kernel)) ggX7_even_X2_has
set_option maxRecDepth 20000 in
theorem ggX7_even_X7_within : GoodIn wsX7_even wsX7_within := goodIn_r _ [16] (by decide +kernel) (by decide +kernel)
set_option maxRecDepth 20000 in
theorem gX7_even_X7_within : GoodIn wsX7_even (va_wsS RX7 62 yX7_within wsX7_within) := goodIn_app (goodIn_of _ (by decide +kernel)) ggX7_even_X7_within
set_option maxRecDepth 20000 in
theorem ggX7_even_X1_keepTurns : GoodIn wsX7_even wsX1_keepTurns := goodIn_r _ [21, 22, 23, 24, 25, 26, 27, 129, 130, 131, 132, 133, 134, 135, 136, 137, 138, 139, 140, 141, 142, 143] (by decide +kernel) (by decide +kernel)
set_option maxRecDepth 20000 in
theorem gX7_even_X1_keepTurns : GoodIn wsX7_even (wsV RX7 187 RX1 yX1_keepTurns wsX1_keepTurns) := goodIn_app (goodIn_of _ (by decide +kernel)) ggX7_even_X1_keepTurns
set_option maxRecDepth 20000 in
theorem ggX7_even_X1_drawEvenFromNothing : GoodIn wsX7_even wsX1_drawEvenFromNothing := goodIn_r _ [31, 32, 22, 33, 34, 35, 36, 10, 37, 38, 39, 40, 41, 20, 42, 43, 44, 45, 46, 47, 48, 49, 50, 51, 52, 53, 54, 55, 56, 57, 58, 59, 60, 12, 61, 62, 63, 64, 65, 66, 67, 68, 69, 70, 71, 72, 73, 74, 75, 76, 77, 78, 79, 80, 81, 82, 83, 84, 85, 86, 87, 88, 89, 90, 91, 92, 93, 94, 95, 96, 97, 98, 99, 100, 101, 102, 103, 104, 105, 106, 107, 108, 109, 110, 111, 112, 113, 114, 15, 115, 129, 130, 131, 132, 133, 134, 135, 136, 137, 138, 139, 140, 141, 142, 143, 144, 145, 146, 147, 148, 149] (by decide +kernel) (by decide +kernel)
set_option maxRecDepth 20000 in
theorem gX7_even_X1_drawEvenFromNothing : GoodIn wsX7_even (wsV RX7 212 RX1 yX1_drawEvenFromNothing wsX1_drawEvenFromNothing) := goodIn_app (goodIn_of _ (by decide +kernel)) ggX7_even_X1_drawEvenFromNothing
set_option maxRecDepth 20000 in
theorem ggX7_even_X2_sumOf : GoodIn wsX7_even wsX2_sumOf := goodIn_r _ [71, 12, 129, 130, 131, 132, 133, 134, 135, 136] (by decide +kernel) (by decide +kernel)
set_option maxRecDepth 20000 in
theorem gX7_even_X2_sumOf : GoodIn wsX7_even (wsV RX7 163 RX2 yX2_sumOf wsX2_sumOf) := goodIn_app (goodIn_of _ (by decide +kernel)) ggX7_even_X2_sumOf
set_option maxRecDepth 20000 in
theorem ggX7_even_X1_putTurnsBack : GoodIn wsX7_even wsX1_putTurnsBack := goodIn_r _ [120, 23, 22, 24, 25, 26, 27, 137, 138, 139, 140, 141, 142, 143, 129, 130, 131, 132, 133, 134, 135, 136] (by decide +kernel) (by decide +kernel)
set_option maxRecDepth 20000 in
theorem gX7_even_X1_putTurnsBack : GoodIn wsX7_even (wsV RX7 195 RX1 yX1_putTurnsBack wsX1_putTurnsBack) := goodIn_app (goodIn_of _ (by decide +kernel)) ggX7_even_X1_putTurnsBack
theorem dX7_even_0 : decode cX7_even 0 = .ok (.iload_n 2, 1) := by decide +kernel
theorem dX7_even_1 : decode cX7_even 1 = .ok (.iconst (-1), 1) := by decide +kernel
theorem dX7_even_2 : decode cX7_even 2 = .ok (.if_icmp .eq 17, 3) := by decide +kernel
theorem dX7_even_5 : decode cX7_even 5 = .ok (.aload_n 0, 1) := by decide +kernel
theorem dX7_even_6 : decode cX7_even 6 = .ok (.getfield 10, 3) := by decide +kernel
theorem dX7_even_9 : decode cX7_even 9 = .ok (.iload_n 2, 1) := by decide +kernel
theorem dX7_even_10 : decode cX7_even 10 = .ok (.invokevirtual 76, 3) := by decide +kernel
theorem dX7_even_13 : decode cX7_even 13 = .ok (.ifCond .ne 6, 3) := by decide +kernel
theorem dX7_even_16 : decode cX7_even 16 = .ok (.ldc 80, 2) := by decide +kernel
theorem dX7_even_18 : decode cX7_even 18 = .ok (.ireturn, 1) := by decide +kernel
theorem dX7_even_19 : decode cX7_even 19 = .ok (.iload_n 1, 1) := by decide +kernel
theorem dX7_even_20 : decode cX7_even 20 = .ok (.iconst 1, 1) := by decide +kernel
theorem dX7_even_21 : decode cX7_even 21 = .ok (.sipush 900, 3) := by decide +kernel
theorem dX7_even_24 : decode cX7_even 24 = .ok (.invokestatic 62, 3) := by decide +kernel
theorem dX7_even_27 : decode cX7_even 27 = .ok (.ifCond .ne 6, 3) := by decide +kernel
theorem dX7_even_30 : decode cX7_even 30 = .ok (.ldc 66, 2) := by decide +kernel
theorem dX7_even_32 : decode cX7_even 32 = .ok (.ireturn, 1) := by decide +kernel
theorem dX7_even_33 : decode cX7_even 33 = .ok (.aload_n 0, 1) := by decide +kernel
theorem dX7_even_34 : decode cX7_even 34 = .ok (.getfield 26, 3) := by decide +kernel
theorem dX7_even_37 : decode cX7_even 37 = .ok (.aload_n 0, 1) := by decide +kernel
theorem dX7_even_38 : decode cX7_even 38 = .ok (.getfield 10, 3) := by decide +kernel
theorem dX7_even_41 : decode cX7_even 41 = .ok (.invokevirtual 187, 3) := by decide +kernel
theorem dX7_even_44 : decode cX7_even 44 = .ok (.aload_n 0, 1) := by decide +kernel
theorem dX7_even_45 : decode cX7_even 45 = .ok (.getfield 26, 3) := by decide +kernel
theorem dX7_even_48 : decode cX7_even 48 = .ok (.aload_n 0, 1) := by decide +kernel
theorem dX7_even_49 : decode cX7_even 49 = .ok (.getfield 10, 3) := by decide +kernel
theorem dX7_even_52 : decode cX7_even 52 = .ok (.iload_n 1, 1) := by decide +kernel
theorem dX7_even_53 : decode cX7_even 53 = .ok (.invokevirtual 212, 3) := by decide +kernel
theorem dX7_even_56 : decode cX7_even 56 = .ok (.istore_n 3, 1) := by decide +kernel
theorem dX7_even_57 : decode cX7_even 57 = .ok (.iload_n 2, 1) := by decide +kernel
theorem dX7_even_58 : decode cX7_even 58 = .ok (.iconst (-1), 1) := by decide +kernel
theorem dX7_even_59 : decode cX7_even 59 = .ok (.if_icmp .ne 20, 3) := by decide +kernel
theorem dX7_even_62 : decode cX7_even 62 = .ok (.aload_n 0, 1) := by decide +kernel
theorem dX7_even_63 : decode cX7_even 63 = .ok (.getfield 10, 3) := by decide +kernel
theorem dX7_even_66 : decode cX7_even 66 = .ok (.aload_n 0, 1) := by decide +kernel
theorem dX7_even_67 : decode cX7_even 67 = .ok (.getfield 10, 3) := by decide +kernel
theorem dX7_even_70 : decode cX7_even 70 = .ok (.getfield 160, 3) := by decide +kernel
theorem dX7_even_73 : decode cX7_even 73 = .ok (.invokevirtual 163, 3) := by decide +kernel
theorem dX7_even_76 : decode cX7_even 76 = .ok (.goto 12, 3) := by decide +kernel
theorem dX7_even_79 : decode cX7_even 79 = .ok (.aload_n 0, 1) := by decide +kernel
theorem dX7_even_80 : decode cX7_even 80 = .ok (.getfield 10, 3) := by decide +kernel
theorem dX7_even_83 : decode cX7_even 83 = .ok (.getfield 160, 3) := by decide +kernel
theorem dX7_even_86 : decode cX7_even 86 = .ok (.iload_n 2, 1) := by decide +kernel
theorem dX7_even_87 : decode cX7_even 87 = .ok (.iaload, 1) := by decide +kernel
theorem dX7_even_88 : decode cX7_even 88 = .ok (.istore 4, 2) := by decide +kernel
theorem dX7_even_90 : decode cX7_even 90 = .ok (.aload_n 0, 1) := by decide +kernel
theorem dX7_even_91 : decode cX7_even 91 = .ok (.getfield 26, 3) := by decide +kernel
theorem dX7_even_94 : decode cX7_even 94 = .ok (.aload_n 0, 1) := by decide +kernel
theorem dX7_even_95 : decode cX7_even 95 = .ok (.getfield 10, 3) := by decide +kernel
theorem dX7_even_98 : decode cX7_even 98 = .ok (.invokevirtual 195, 3) := by decide +kernel
theorem dX7_even_101 : decode cX7_even 101 = .ok (.iload_n 3, 1) := by decide +kernel
theorem dX7_even_102 : decode cX7_even 102 = .ok (.ifCond .eq 8, 3) := by decide +kernel
theorem dX7_even_105 : decode cX7_even 105 = .ok (.iload 4, 2) := by decide +kernel
theorem dX7_even_107 : decode cX7_even 107 = .ok (.goto 5, 3) := by decide +kernel
theorem dX7_even_110 : decode cX7_even 110 = .ok (.ldc 99, 2) := by decide +kernel
theorem dX7_even_112 : decode cX7_even 112 = .ok (.ireturn, 1) := by decide +kernel
theorem dX7_within_0 : decode cX7_within 0 = .ok (.iload_n 0, 1) := by decide +kernel
theorem dX7_within_1 : decode cX7_within 1 = .ok (.iload_n 1, 1) := by decide +kernel
theorem dX7_within_2 : decode cX7_within 2 = .ok (.if_icmp .lt 12, 3) := by decide +kernel
theorem dX7_within_5 : decode cX7_within 5 = .ok (.iload_n 0, 1) := by decide +kernel
theorem dX7_within_6 : decode cX7_within 6 = .ok (.iload_n 2, 1) := by decide +kernel
theorem dX7_within_7 : decode cX7_within 7 = .ok (.if_icmp .gt 7, 3) := by decide +kernel
theorem dX7_within_10 : decode cX7_within 10 = .ok (.iconst 1, 1) := by decide +kernel
theorem dX7_within_11 : decode cX7_within 11 = .ok (.goto 4, 3) := by decide +kernel
theorem dX7_within_14 : decode cX7_within 14 = .ok (.iconst 0, 1) := by decide +kernel
theorem dX7_within_15 : decode cX7_within 15 = .ok (.ireturn, 1) := by decide +kernel
theorem dX7_asNumber_0 : decode cX7_asNumber 0 = .ok (.iload_n 0, 1) := by decide +kernel
theorem dX7_asNumber_1 : decode cX7_asNumber 1 = .ok (.ifCond .eq 7, 3) := by decide +kernel
theorem dX7_asNumber_4 : decode cX7_asNumber 4 = .ok (.iconst 1, 1) := by decide +kernel
theorem dX7_asNumber_5 : decode cX7_asNumber 5 = .ok (.goto 4, 3) := by decide +kernel
theorem dX7_asNumber_8 : decode cX7_asNumber 8 = .ok (.iconst 0, 1) := by decide +kernel
theorem dX7_asNumber_9 : decode cX7_asNumber 9 = .ok (.ireturn, 1) := by decide +kernel
theorem dX7_leastOf_0 : decode cX7_leastOf 0 = .ok (.iload_n 0, 1) := by decide +kernel
theorem dX7_leastOf_1 : decode cX7_leastOf 1 = .ok (.ifCond .eq 8, 3) := by decide +kernel
theorem dX7_leastOf_4 : decode cX7_leastOf 4 = .ok (.iload_n 0, 1) := by decide +kernel
theorem dX7_leastOf_5 : decode cX7_leastOf 5 = .ok (.iconst 1, 1) := by decide +kernel
theorem dX7_leastOf_6 : decode cX7_leastOf 6 = .ok (.if_icmp .ne 7, 3) := by decide +kernel
theorem dX7_leastOf_9 : decode cX7_leastOf 9 = .ok (.iconst 1, 1) := by decide +kernel
theorem dX7_leastOf_10 : decode cX7_leastOf 10 = .ok (.goto 4, 3) := by decide +kernel
theorem dX7_leastOf_13 : decode cX7_leastOf 13 = .ok (.iconst 0, 1) := by decide +kernel
theorem dX7_leastOf_14 : decode cX7_leastOf 14 = .ok (.ireturn, 1) := by decide +kernel
theorem dX7_mostOf_0 : decode cX7_mostOf 0 = .ok (.iload_n 0, 1) := by decide +kernel
theorem dX7_mostOf_1 : decode cX7_mostOf 1 = .ok (.iconst 2, 1) := by decide +kernel
theorem dX7_mostOf_2 : decode cX7_mostOf 2 = .ok (.if_icmp .ne 7, 3) := by decide +kernel
theorem dX7_mostOf_5 : decode cX7_mostOf 5 = .ok (.sipush 200, 3) := by decide +kernel
theorem dX7_mostOf_8 : decode cX7_mostOf 8 = .ok (.ireturn, 1) := by decide +kernel
theorem dX7_mostOf_9 : decode cX7_mostOf 9 = .ok (.iload_n 0, 1) := by decide +kernel
theorem dX7_mostOf_10 : decode cX7_mostOf 10 = .ok (.iconst 3, 1) := by decide +kernel
theorem dX7_mostOf_11 : decode cX7_mostOf 11 = .ok (.if_icmp .ne 9, 3) := by decide +kernel
theorem dX7_mostOf_14 : decode cX7_mostOf 14 = .ok (.sipush 200, 3) := by decide +kernel
theorem dX7_mostOf_17 : decode cX7_mostOf 17 = .ok (.goto 5, 3) := by decide +kernel
theorem dX7_mostOf_20 : decode cX7_mostOf 20 = .ok (.bipush 9, 2) := by decide +kernel
theorem dX7_mostOf_22 : decode cX7_mostOf 22 = .ok (.ireturn, 1) := by decide +kernel
theorem dX7_wholeFrom_0 : decode cX7_wholeFrom 0 = .ok (.lload_n 0, 1) := by decide +kernel
theorem dX7_wholeFrom_1 : decode cX7_wholeFrom 1 = .ok (.lconst 0, 1) := by decide +kernel
theorem dX7_wholeFrom_2 : decode cX7_wholeFrom 2 = .ok (.lcmp, 1) := by decide +kernel
theorem dX7_wholeFrom_3 : decode cX7_wholeFrom 3 = .ok (.ifCond .le 9, 3) := by decide +kernel
theorem dX7_wholeFrom_6 : decode cX7_wholeFrom 6 = .ok (.lload_n 2, 1) := by decide +kernel
theorem dX7_wholeFrom_7 : decode cX7_wholeFrom 7 = .ok (.lconst 0, 1) := by decide +kernel
theorem dX7_wholeFrom_8 : decode cX7_wholeFrom 8 = .ok (.lcmp, 1) := by decide +kernel
theorem dX7_wholeFrom_9 : decode cX7_wholeFrom 9 = .ok (.ifCond .gt 7, 3) := by decide +kernel
theorem dX7_wholeFrom_12 : decode cX7_wholeFrom 12 = .ok (.lconst 0, 1) := by decide +kernel
theorem dX7_wholeFrom_13 : decode cX7_wholeFrom 13 = .ok (.goto 10, 3) := by decide +kernel
theorem dX7_wholeFrom_16 : decode cX7_wholeFrom 16 = .ok (.lload_n 0, 1) := by decide +kernel
theorem dX7_wholeFrom_17 : decode cX7_wholeFrom 17 = .ok (.lload_n 2, 1) := by decide +kernel
theorem dX7_wholeFrom_18 : decode cX7_wholeFrom 18 = .ok (.ladd, 1) := by decide +kernel
theorem dX7_wholeFrom_19 : decode cX7_wholeFrom 19 = .ok (.lconst 1, 1) := by decide +kernel
theorem dX7_wholeFrom_20 : decode cX7_wholeFrom 20 = .ok (.lsub, 1) := by decide +kernel
theorem dX7_wholeFrom_21 : decode cX7_wholeFrom 21 = .ok (.lload_n 2, 1) := by decide +kernel
theorem dX7_wholeFrom_22 : decode cX7_wholeFrom 22 = .ok (.ldiv, 1) := by decide +kernel
theorem dX7_wholeFrom_23 : decode cX7_wholeFrom 23 = .ok (.lreturn, 1) := by decide +kernel
theorem dJ6_bitCount_0f7a4_0 : decode cJ6_bitCount_0f7a4 0 = .ok (.iload_n 0, 1) := by decide +kernel
theorem dJ6_bitCount_0f7a4_1 : decode cJ6_bitCount_0f7a4 1 = .ok (.iload_n 0, 1) := by decide +kernel
theorem dJ6_bitCount_0f7a4_2 : decode cJ6_bitCount_0f7a4 2 = .ok (.iconst 1, 1) := by decide +kernel
theorem dJ6_bitCount_0f7a4_3 : decode cJ6_bitCount_0f7a4 3 = .ok (.iushr, 1) := by decide +kernel
theorem dJ6_bitCount_0f7a4_4 : decode cJ6_bitCount_0f7a4 4 = .ok (.ldc_w 265, 3) := by decide +kernel
theorem dJ6_bitCount_0f7a4_7 : decode cJ6_bitCount_0f7a4 7 = .ok (.iand, 1) := by decide +kernel
theorem dJ6_bitCount_0f7a4_8 : decode cJ6_bitCount_0f7a4 8 = .ok (.isub, 1) := by decide +kernel
theorem dJ6_bitCount_0f7a4_9 : decode cJ6_bitCount_0f7a4 9 = .ok (.istore_n 0, 1) := by decide +kernel
theorem dJ6_bitCount_0f7a4_10 : decode cJ6_bitCount_0f7a4 10 = .ok (.iload_n 0, 1) := by decide +kernel
theorem dJ6_bitCount_0f7a4_11 : decode cJ6_bitCount_0f7a4 11 = .ok (.ldc_w 266, 3) := by decide +kernel
theorem dJ6_bitCount_0f7a4_14 : decode cJ6_bitCount_0f7a4 14 = .ok (.iand, 1) := by decide +kernel
theorem dJ6_bitCount_0f7a4_15 : decode cJ6_bitCount_0f7a4 15 = .ok (.iload_n 0, 1) := by decide +kernel
theorem dJ6_bitCount_0f7a4_16 : decode cJ6_bitCount_0f7a4 16 = .ok (.iconst 2, 1) := by decide +kernel
theorem dJ6_bitCount_0f7a4_17 : decode cJ6_bitCount_0f7a4 17 = .ok (.iushr, 1) := by decide +kernel
theorem dJ6_bitCount_0f7a4_18 : decode cJ6_bitCount_0f7a4 18 = .ok (.ldc_w 266, 3) := by decide +kernel
theorem dJ6_bitCount_0f7a4_21 : decode cJ6_bitCount_0f7a4 21 = .ok (.iand, 1) := by decide +kernel
theorem dJ6_bitCount_0f7a4_22 : decode cJ6_bitCount_0f7a4 22 = .ok (.iadd, 1) := by decide +kernel
theorem dJ6_bitCount_0f7a4_23 : decode cJ6_bitCount_0f7a4 23 = .ok (.istore_n 0, 1) := by decide +kernel
theorem dJ6_bitCount_0f7a4_24 : decode cJ6_bitCount_0f7a4 24 = .ok (.iload_n 0, 1) := by decide +kernel
theorem dJ6_bitCount_0f7a4_25 : decode cJ6_bitCount_0f7a4 25 = .ok (.iload_n 0, 1) := by decide +kernel
theorem dJ6_bitCount_0f7a4_26 : decode cJ6_bitCount_0f7a4 26 = .ok (.iconst 4, 1) := by decide +kernel
theorem dJ6_bitCount_0f7a4_27 : decode cJ6_bitCount_0f7a4 27 = .ok (.iushr, 1) := by decide +kernel
theorem dJ6_bitCount_0f7a4_28 : decode cJ6_bitCount_0f7a4 28 = .ok (.iadd, 1) := by decide +kernel
theorem dJ6_bitCount_0f7a4_29 : decode cJ6_bitCount_0f7a4 29 = .ok (.ldc_w 267, 3) := by decide +kernel
theorem dJ6_bitCount_0f7a4_32 : decode cJ6_bitCount_0f7a4 32 = .ok (.iand, 1) := by decide +kernel
theorem dJ6_bitCount_0f7a4_33 : decode cJ6_bitCount_0f7a4 33 = .ok (.istore_n 0, 1) := by decide +kernel
theorem dJ6_bitCount_0f7a4_34 : decode cJ6_bitCount_0f7a4 34 = .ok (.iload_n 0, 1) := by decide +kernel
theorem dJ6_bitCount_0f7a4_35 : decode cJ6_bitCount_0f7a4 35 = .ok (.iload_n 0, 1) := by decide +kernel
theorem dJ6_bitCount_0f7a4_36 : decode cJ6_bitCount_0f7a4 36 = .ok (.bipush 8, 2) := by decide +kernel
theorem dJ6_bitCount_0f7a4_38 : decode cJ6_bitCount_0f7a4 38 = .ok (.iushr, 1) := by decide +kernel
theorem dJ6_bitCount_0f7a4_39 : decode cJ6_bitCount_0f7a4 39 = .ok (.iadd, 1) := by decide +kernel
theorem dJ6_bitCount_0f7a4_40 : decode cJ6_bitCount_0f7a4 40 = .ok (.istore_n 0, 1) := by decide +kernel
theorem dJ6_bitCount_0f7a4_41 : decode cJ6_bitCount_0f7a4 41 = .ok (.iload_n 0, 1) := by decide +kernel
theorem dJ6_bitCount_0f7a4_42 : decode cJ6_bitCount_0f7a4 42 = .ok (.iload_n 0, 1) := by decide +kernel
theorem dJ6_bitCount_0f7a4_43 : decode cJ6_bitCount_0f7a4 43 = .ok (.bipush 16, 2) := by decide +kernel
theorem dJ6_bitCount_0f7a4_45 : decode cJ6_bitCount_0f7a4 45 = .ok (.iushr, 1) := by decide +kernel
theorem dJ6_bitCount_0f7a4_46 : decode cJ6_bitCount_0f7a4 46 = .ok (.iadd, 1) := by decide +kernel
theorem dJ6_bitCount_0f7a4_47 : decode cJ6_bitCount_0f7a4 47 = .ok (.istore_n 0, 1) := by decide +kernel
theorem dJ6_bitCount_0f7a4_48 : decode cJ6_bitCount_0f7a4 48 = .ok (.iload_n 0, 1) := by decide +kernel
theorem dJ6_bitCount_0f7a4_49 : decode cJ6_bitCount_0f7a4 49 = .ok (.bipush 63, 2) := by decide +kernel
theorem dJ6_bitCount_0f7a4_51 : decode cJ6_bitCount_0f7a4 51 = .ok (.iand, 1) := by decide +kernel
theorem dJ6_bitCount_0f7a4_52 : decode cJ6_bitCount_0f7a4 52 = .ok (.ireturn, 1) := by decide +kernel
theorem dJ9_max_f86c9_0 : decode cJ9_max_f86c9 0 = .ok (.lload_n 0, 1) := by decide +kernel
theorem dJ9_max_f86c9_1 : decode cJ9_max_f86c9 1 = .ok (.lload_n 2, 1) := by decide +kernel
theorem dJ9_max_f86c9_2 : decode cJ9_max_f86c9 2 = .ok (.lcmp, 1) := by decide +kernel
theorem dJ9_max_f86c9_3 : decode cJ9_max_f86c9 3 = .ok (.ifCond .lt 7, 3) := by decide +kernel
theorem dJ9_max_f86c9_6 : decode cJ9_max_f86c9 6 = .ok (.lload_n 0, 1) := by decide +kernel
theorem dJ9_max_f86c9_7 : decode cJ9_max_f86c9 7 = .ok (.goto 4, 3) := by decide +kernel
theorem dJ9_max_f86c9_10 : decode cJ9_max_f86c9 10 = .ok (.lload_n 2, 1) := by decide +kernel
theorem dJ9_max_f86c9_11 : decode cJ9_max_f86c9 11 = .ok (.lreturn, 1) := by decide +kernel
end
section
theorem dL_cell_0 : decode cL_cell 0 = .ok (.iload_n 1, 1) := by decide +kernel
theorem dL_cell_1 : decode cL_cell 1 = .ok (.aload_n 0, 1) := by decide +kernel
theorem dL_cell_2 : decode cL_cell 2 = .ok (.arraylength, 1) := by decide +kernel
theorem dL_cell_3 : decode cL_cell 3 = .ok (.if_icmp .ge 9, 3) := by decide +kernel
theorem dL_cell_6 : decode cL_cell 6 = .ok (.aload_n 0, 1) := by decide +kernel
theorem dL_cell_7 : decode cL_cell 7 = .ok (.iload_n 1, 1) := by decide +kernel
theorem dL_cell_8 : decode cL_cell 8 = .ok (.iaload, 1) := by decide +kernel
theorem dL_cell_9 : decode cL_cell 9 = .ok (.goto 9, 3) := by decide +kernel
theorem dL_cell_12 : decode cL_cell 12 = .ok (.ldc 7, 2) := by decide +kernel
theorem dL_cell_14 : decode cL_cell 14 = .ok (.iload_n 1, 1) := by decide +kernel
theorem dL_cell_15 : decode cL_cell 15 = .ok (.iconst 1, 1) := by decide +kernel
theorem dL_cell_16 : decode cL_cell 16 = .ok (.iadd, 1) := by decide +kernel
theorem dL_cell_17 : decode cL_cell 17 = .ok (.imul, 1) := by decide +kernel
theorem dL_cell_18 : decode cL_cell 18 = .ok (.ireturn, 1) := by decide +kernel
theorem dL_low_0 : decode cL_low 0 = .ok (.iload_n 0, 1) := by decide +kernel
theorem dL_low_1 : decode cL_low 1 = .ok (.ldc 8, 2) := by decide +kernel
theorem dL_low_3 : decode cL_low 3 = .ok (.iand, 1) := by decide +kernel
theorem dL_low_4 : decode cL_low 4 = .ok (.iload_n 1, 1) := by decide +kernel
theorem dL_low_5 : decode cL_low 5 = .ok (.irem, 1) := by decide +kernel
theorem dL_low_6 : decode cL_low 6 = .ok (.ireturn, 1) := by decide +kernel
set_option maxRecDepth 20000 in
theorem ggL_make_L_cell : GoodIn wsL_make wsL_cell := goodIn_r _ [4, 5] (by decide +kernel) (by decide +kernel)
set_option maxRecDepth 20000 in
theorem gL_make_L_cell : GoodIn wsL_make (va_wsS RL 9 yL_cell wsL_cell) := goodIn_app (goodIn_of _ (by decide +kernel)) ggL_make_L_cell
set_option maxRecDepth 20000 in
theorem ggL_make_L_low : GoodIn wsL_make wsL_low := goodIn_r _ [8, 9] (by decide +kernel) (by decide +kernel)
set_option maxRecDepth 20000 in
theorem gL_make_L_low : GoodIn wsL_make (va_wsS RL 15 yL_low wsL_low) := goodIn_app (goodIn_of _ (by decide +kernel)) ggL_make_L_low
set_option maxRecDepth 20000 in
theorem ggL_make_X7_joint : GoodIn wsL_make wsX7_joint := goodIn_r _ [14, 15, 16, 17, 18, 19, 20, 21, 22, 23, 13, 24, 25, 26, 27, 28, 29, 30, 31, 32, 33, 34, 35, 36, 37, 38, 39, 40, 41, 42, 43, 44, 45, 46, 47, 94, 95, 96, 97, 98, 99, 100, 101, 102, 103, 104, 105, 106, 107, 108, 109, 110, 111, 112, 113, 114, 115, 116, 117, 118] (by decide +kernel) (by decide +kernel)
set_option maxRecDepth 20000 in
theorem gL_make_X7_joint : GoodIn wsL_make (wsV RL 19 RX7 yX7_joint wsX7_joint) := goodIn_app (goodIn_of _ (by decide +kernel)) ggL_make_X7_joint
set_option maxRecDepth 20000 in
theorem ggL_make_X7_set : GoodIn wsL_make wsX7_set := goodIn_r _ [51, 16, 52, 15, 53, 54, 55, 28, 56, 30, 22, 23, 13, 24, 57, 58, 59, 60, 61, 62, 63, 64, 65, 66, 33, 34, 35, 36, 94, 95, 96, 97, 98, 99, 100, 101, 109, 110, 111, 112, 113, 114, 115, 116] (by decide +kernel) (by decide +kernel)
set_option maxRecDepth 20000 in
theorem gL_make_X7_set : GoodIn wsL_make (wsV RL 24 RX7 yX7_set wsX7_set) := goodIn_app (goodIn_of _ (by decide +kernel)) ggL_make_X7_set
set_option maxRecDepth 20000 in
theorem ggL_make_X7_broken : GoodIn wsL_make wsX7_broken := goodIn_r _ [70, 16, 52, 71, 53, 54, 55, 28, 56, 30, 72, 73, 74, 75, 32, 76, 77, 78, 79, 80, 81, 82, 83, 84, 85, 86, 87, 88, 89, 90, 91, 92, 13, 93, 94, 95, 96, 97, 98, 99, 100, 101, 109, 110, 111, 112, 113, 114, 115, 116] (by decide +kernel) (by decide +kernel)
set_option maxRecDepth 20000 in
theorem gL_make_X7_broken : GoodIn wsL_make (wsV RL 28 RX7 yX7_broken wsX7_broken) := goodIn_app (goodIn_of _ (by decide +kernel)) ggL_make_X7_broken
theorem dL_make_0 : decode cL_make 0 = .ok (.aload_n 0, 1) := by decide +kernel
theorem dL_make_1 : decode cL_make 1 = .ok (.iload_n 2, 1) := by decide +kernel
theorem dL_make_2 : decode cL_make 2 = .ok (.iconst 1, 1) := by decide +kernel
theorem dL_make_3 : decode cL_make 3 = .ok (.aload_n 1, 1) := by decide +kernel
theorem dL_make_4 : decode cL_make 4 = .ok (.iconst 1, 1) := by decide +kernel
theorem dL_make_5 : decode cL_make 5 = .ok (.invokestatic 9, 3) := by decide +kernel
theorem dL_make_8 : decode cL_make 8 = .ok (.bipush 9, 2) := by decide +kernel
theorem dL_make_10 : decode cL_make 10 = .ok (.invokestatic 15, 3) := by decide +kernel
theorem dL_make_13 : decode cL_make 13 = .ok (.iadd, 1) := by decide +kernel
theorem dL_make_14 : decode cL_make 14 = .ok (.invokevirtual 19, 3) := by decide +kernel
theorem dL_make_17 : decode cL_make 17 = .ok (.iload_n 2, 1) := by decide +kernel
theorem dL_make_18 : decode cL_make 18 = .ok (.if_icmp .eq 5, 3) := by decide +kernel
theorem dL_make_21 : decode cL_make 21 = .ok (.iconst 0, 1) := by decide +kernel
theorem dL_make_22 : decode cL_make 22 = .ok (.ireturn, 1) := by decide +kernel
theorem dL_make_23 : decode cL_make 23 = .ok (.iconst 0, 1) := by decide +kernel
theorem dL_make_24 : decode cL_make 24 = .ok (.istore_n 3, 1) := by decide +kernel
theorem dL_make_25 : decode cL_make 25 = .ok (.iload_n 3, 1) := by decide +kernel
theorem dL_make_26 : decode cL_make 26 = .ok (.iload_n 2, 1) := by decide +kernel
theorem dL_make_27 : decode cL_make 27 = .ok (.if_icmp .ge 172, 3) := by decide +kernel
theorem dL_make_30 : decode cL_make 30 = .ok (.aload_n 0, 1) := by decide +kernel
theorem dL_make_31 : decode cL_make 31 = .ok (.iload_n 3, 1) := by decide +kernel
theorem dL_make_32 : decode cL_make 32 = .ok (.iconst 0, 1) := by decide +kernel
theorem dL_make_33 : decode cL_make 33 = .ok (.iconst 1, 1) := by decide +kernel
theorem dL_make_34 : decode cL_make 34 = .ok (.aload_n 1, 1) := by decide +kernel
theorem dL_make_35 : decode cL_make 35 = .ok (.iconst 2, 1) := by decide +kernel
theorem dL_make_36 : decode cL_make 36 = .ok (.iload_n 3, 1) := by decide +kernel
theorem dL_make_37 : decode cL_make 37 = .ok (.iadd, 1) := by decide +kernel
theorem dL_make_38 : decode cL_make 38 = .ok (.invokestatic 9, 3) := by decide +kernel
theorem dL_make_41 : decode cL_make 41 = .ok (.bipush 9, 2) := by decide +kernel
theorem dL_make_43 : decode cL_make 43 = .ok (.invokestatic 15, 3) := by decide +kernel
theorem dL_make_46 : decode cL_make 46 = .ok (.iadd, 1) := by decide +kernel
theorem dL_make_47 : decode cL_make 47 = .ok (.invokevirtual 24, 3) := by decide +kernel
theorem dL_make_50 : decode cL_make 50 = .ok (.iconst 5, 1) := by decide +kernel
theorem dL_make_51 : decode cL_make 51 = .ok (.if_icmp .ne 110, 3) := by decide +kernel
theorem dL_make_54 : decode cL_make 54 = .ok (.aload_n 0, 1) := by decide +kernel
theorem dL_make_55 : decode cL_make 55 = .ok (.iload_n 3, 1) := by decide +kernel
theorem dL_make_56 : decode cL_make 56 = .ok (.iconst 1, 1) := by decide +kernel
theorem dL_make_57 : decode cL_make 57 = .ok (.iconst 1, 1) := by decide +kernel
theorem dL_make_58 : decode cL_make 58 = .ok (.aload_n 1, 1) := by decide +kernel
theorem dL_make_59 : decode cL_make 59 = .ok (.bipush 10, 2) := by decide +kernel
theorem dL_make_61 : decode cL_make 61 = .ok (.iload_n 3, 1) := by decide +kernel
theorem dL_make_62 : decode cL_make 62 = .ok (.iadd, 1) := by decide +kernel
theorem dL_make_63 : decode cL_make 63 = .ok (.invokestatic 9, 3) := by decide +kernel
theorem dL_make_66 : decode cL_make 66 = .ok (.bipush 9, 2) := by decide +kernel
theorem dL_make_68 : decode cL_make 68 = .ok (.invokestatic 15, 3) := by decide +kernel
theorem dL_make_71 : decode cL_make 71 = .ok (.iadd, 1) := by decide +kernel
theorem dL_make_72 : decode cL_make 72 = .ok (.invokevirtual 24, 3) := by decide +kernel
theorem dL_make_75 : decode cL_make 75 = .ok (.iconst 3, 1) := by decide +kernel
theorem dL_make_76 : decode cL_make 76 = .ok (.if_icmp .ne 85, 3) := by decide +kernel
theorem dL_make_79 : decode cL_make 79 = .ok (.aload_n 0, 1) := by decide +kernel
theorem dL_make_80 : decode cL_make 80 = .ok (.iload_n 3, 1) := by decide +kernel
theorem dL_make_81 : decode cL_make 81 = .ok (.iconst 2, 1) := by decide +kernel
theorem dL_make_82 : decode cL_make 82 = .ok (.aload_n 1, 1) := by decide +kernel
theorem dL_make_83 : decode cL_make 83 = .ok (.bipush 20, 2) := by decide +kernel
theorem dL_make_85 : decode cL_make 85 = .ok (.iload_n 3, 1) := by decide +kernel
theorem dL_make_86 : decode cL_make 86 = .ok (.iadd, 1) := by decide +kernel
theorem dL_make_87 : decode cL_make 87 = .ok (.invokestatic 9, 3) := by decide +kernel
theorem dL_make_90 : decode cL_make 90 = .ok (.aload_n 1, 1) := by decide +kernel
theorem dL_make_91 : decode cL_make 91 = .ok (.bipush 26, 2) := by decide +kernel
theorem dL_make_93 : decode cL_make 93 = .ok (.invokestatic 9, 3) := by decide +kernel
theorem dL_make_96 : decode cL_make 96 = .ok (.iconst 2, 1) := by decide +kernel
theorem dL_make_97 : decode cL_make 97 = .ok (.invokestatic 15, 3) := by decide +kernel
theorem dL_make_100 : decode cL_make 100 = .ok (.ifCond .ne 9, 3) := by decide +kernel
theorem dL_make_103 : decode cL_make 103 = .ok (.sipush 201, 3) := by decide +kernel
theorem dL_make_106 : decode cL_make 106 = .ok (.goto 5, 3) := by decide +kernel
theorem dL_make_109 : decode cL_make 109 = .ok (.bipush 20, 2) := by decide +kernel
theorem dL_make_111 : decode cL_make 111 = .ok (.invokestatic 15, 3) := by decide +kernel
theorem dL_make_114 : decode cL_make 114 = .ok (.invokevirtual 24, 3) := by decide +kernel
theorem dL_make_117 : decode cL_make 117 = .ok (.ifCond .ne 44, 3) := by decide +kernel
theorem dL_make_120 : decode cL_make 120 = .ok (.aload_n 0, 1) := by decide +kernel
theorem dL_make_121 : decode cL_make 121 = .ok (.iload_n 3, 1) := by decide +kernel
theorem dL_make_122 : decode cL_make 122 = .ok (.iconst 3, 1) := by decide +kernel
theorem dL_make_123 : decode cL_make 123 = .ok (.aload_n 1, 1) := by decide +kernel
theorem dL_make_124 : decode cL_make 124 = .ok (.bipush 30, 2) := by decide +kernel
theorem dL_make_126 : decode cL_make 126 = .ok (.iload_n 3, 1) := by decide +kernel
theorem dL_make_127 : decode cL_make 127 = .ok (.iadd, 1) := by decide +kernel
theorem dL_make_128 : decode cL_make 128 = .ok (.invokestatic 9, 3) := by decide +kernel
theorem dL_make_131 : decode cL_make 131 = .ok (.aload_n 1, 1) := by decide +kernel
theorem dL_make_132 : decode cL_make 132 = .ok (.bipush 27, 2) := by decide +kernel
theorem dL_make_134 : decode cL_make 134 = .ok (.invokestatic 9, 3) := by decide +kernel
theorem dL_make_137 : decode cL_make 137 = .ok (.iconst 2, 1) := by decide +kernel
theorem dL_make_138 : decode cL_make 138 = .ok (.invokestatic 15, 3) := by decide +kernel
theorem dL_make_141 : decode cL_make 141 = .ok (.ifCond .ne 9, 3) := by decide +kernel
theorem dL_make_144 : decode cL_make 144 = .ok (.sipush 201, 3) := by decide +kernel
theorem dL_make_147 : decode cL_make 147 = .ok (.goto 5, 3) := by decide +kernel
theorem dL_make_150 : decode cL_make 150 = .ok (.bipush 10, 2) := by decide +kernel
theorem dL_make_152 : decode cL_make 152 = .ok (.invokestatic 15, 3) := by decide +kernel
theorem dL_make_155 : decode cL_make 155 = .ok (.invokevirtual 24, 3) := by decide +kernel
theorem dL_make_158 : decode cL_make 158 = .ok (.ifCond .eq 5, 3) := by decide +kernel
theorem dL_make_161 : decode cL_make 161 = .ok (.iconst 0, 1) := by decide +kernel
theorem dL_make_162 : decode cL_make 162 = .ok (.ireturn, 1) := by decide +kernel
theorem dL_make_163 : decode cL_make 163 = .ok (.iload_n 3, 1) := by decide +kernel
theorem dL_make_164 : decode cL_make 164 = .ok (.ifCond .le 29, 3) := by decide +kernel
theorem dL_make_167 : decode cL_make 167 = .ok (.aload_n 1, 1) := by decide +kernel
theorem dL_make_168 : decode cL_make 168 = .ok (.bipush 40, 2) := by decide +kernel
theorem dL_make_170 : decode cL_make 170 = .ok (.iload_n 3, 1) := by decide +kernel
theorem dL_make_171 : decode cL_make 171 = .ok (.iadd, 1) := by decide +kernel
theorem dL_make_172 : decode cL_make 172 = .ok (.invokestatic 9, 3) := by decide +kernel
theorem dL_make_175 : decode cL_make 175 = .ok (.iconst 5, 1) := by decide +kernel
theorem dL_make_176 : decode cL_make 176 = .ok (.invokestatic 15, 3) := by decide +kernel
theorem dL_make_179 : decode cL_make 179 = .ok (.ifCond .ne 14, 3) := by decide +kernel
theorem dL_make_182 : decode cL_make 182 = .ok (.aload_n 0, 1) := by decide +kernel
theorem dL_make_183 : decode cL_make 183 = .ok (.iload_n 3, 1) := by decide +kernel
theorem dL_make_184 : decode cL_make 184 = .ok (.iconst 1, 1) := by decide +kernel
theorem dL_make_185 : decode cL_make 185 = .ok (.invokevirtual 28, 3) := by decide +kernel
theorem dL_make_188 : decode cL_make 188 = .ok (.ifCond .eq 5, 3) := by decide +kernel
theorem dL_make_191 : decode cL_make 191 = .ok (.iconst 0, 1) := by decide +kernel
theorem dL_make_192 : decode cL_make 192 = .ok (.ireturn, 1) := by decide +kernel
theorem dL_make_193 : decode cL_make 193 = .ok (.iinc 3 1, 3) := by decide +kernel
theorem dL_make_196 : decode cL_make 196 = .ok (.goto (-171), 3) := by decide +kernel
theorem dL_make_199 : decode cL_make 199 = .ok (.iconst 1, 1) := by decide +kernel
theorem dL_make_200 : decode cL_make 200 = .ok (.ireturn, 1) := by decide +kernel
end
section
/-! ===== memory as numbers; worlds by shape ===== -/
abbrev Mem : Type := Nat → Int → Int
def vI (x : Int) : Value := .int (Int32.ofInt x)
def vL (x : Int) : Value := .long (Int64.ofInt x)
abbrev InI (x : Int) : Prop := -2147483648 ≤ x ∧ x ≤ 2147483647
abbrev InL (x : Int) : Prop := -9223372036854775808 ≤ x ∧ x ≤ 9223372036854775807
def m_upd (σ : Mem) (a : Nat) (i v : Int) : Mem := fun b => if b = a then (fun j => if j = i then v else σ a j) else σ b
theorem m_upd_at (σ : Mem) (a : Nat) (i v : Int) (b : Nat) (j : Int) : m_upd σ a i v b j = if b = a ∧ j = i then v else σ b j := by
  unfold m_upd
  by_cases h : b = a
  · subst h
    by_cases h2 : j = i <;> simp [h2]
  · simp [h]
theorem m_upd_ne (σ : Mem) (a : Nat) (i v : Int) (b : Nat) (h : b ≠ a) : m_upd σ a i v b = σ b := by
  unfold m_upd
  simp [h]
abbrev Shp : Type := List ((Nat × List Nat) ⊕ (Nat × Nat))
def m_fk (ad : Nat → Nat) (fk : Nat) (x : Int) : Value := match fk with
  | 0 => vI x
  | 1 => vL x
  | k + 2 => .ref (ad k)
def m_fvs (ad : Nat → Nat) (f : Int → Int) : Nat → List Nat → List Value
  | _, [] => []
  | j, fk :: r => m_fk ad fk (f (j : Int)) :: m_fvs ad f (j + 1) r
def m_E (ad : Nat → Nat) (cA : Nat → ClassId) (f : Int → Int) (x : (Nat × List Nat) ⊕ (Nat × Nat)) : va_E := match x with
  | .inl (ci, fks) => .inr (ci, m_fvs ad f 0 fks)
  | .inr (0, n) => .inl (cA 0, n, .inl fun j => Int32.ofInt (f (j : Int)))
  | .inr (1, n) => .inl (cA 1, n, .inr (.inl fun j => Int64.ofInt (f (j : Int))))
  | .inr (2, n) => .inl (cA 2, n, .inl fun j => Int32.ofInt (f (j : Int)))
  | .inr (k + 3, n) => .inl (cA 3, n, .inr (.inr (.inr (.inr fun j => some (ad (k + j))))))
def m_cel (ad : Nat → Nat) (cA : Nat → ClassId) (σ : Mem) : Nat → Shp → va_W
  | _, [] => []
  | i, s :: r => (ad i, m_E ad cA (σ i) s) :: m_cel ad cA σ (i + 1) r
theorem m_fvs_get (ad : Nat → Nat) (f : Int → Int) : ∀ (fks : List Nat) (j k fk : Nat), fks[k]? = some fk → (m_fvs ad f j fks)[k]? = some (m_fk ad fk (f ((j + k : Nat) : Int)))
  | [], j, k, fk, h => by simp at h
  | a :: r, j, 0, fk, h => by
    simp at h
    subst h
    simp [m_fvs]
  | a :: r, j, k + 1, fk, h => by
    rw [List.getElem?_cons_succ] at h
    rw [m_fvs, List.getElem?_cons_succ, m_fvs_get ad f r (j + 1) k fk h]
    rw [show j + 1 + k = j + (k + 1) by omega]
theorem m_fvs_ge (ad : Nat → Nat) : ∀ (fks : List Nat) (j : Nat) (f g : Int → Int), (∀ i : Nat, j ≤ i → f (i : Int) = g (i : Int)) → m_fvs ad f j fks = m_fvs ad g j fks
  | [], j, f, g, h => rfl
  | a :: r, j, f, g, h => by
    rw [m_fvs, m_fvs, h j (Nat.le_refl _), m_fvs_ge ad r (j + 1) f g (fun i hi => h i (by omega))]
theorem m_fvs_set (ad : Nat → Nat) (v : Int) : ∀ (fks : List Nat) (j k fk : Nat) (f : Int → Int), fks[k]? = some fk → (m_fvs ad f j fks).set k (m_fk ad fk v) = m_fvs ad (fun i => if i = ((j + k : Nat) : Int) then v else f i) j fks
  | [], j, k, fk, f, h => by simp at h
  | a :: r, j, 0, fk, f, h => by
    simp at h
    subst h
    rw [m_fvs, m_fvs, List.set_cons_zero]
    rw [m_fvs_ge ad r (j + 1) f (fun i => if i = ((j + 0 : Nat) : Int) then v else f i) (fun i hi => by
      have : ¬ ((i : Int) = ((j + 0 : Nat) : Int)) := by omega
      simp only [if_neg this])]
    simp
  | a :: r, j, k + 1, fk, f, h => by
    rw [List.getElem?_cons_succ] at h
    rw [m_fvs, m_fvs, List.set_cons_succ, m_fvs_set ad v r (j + 1) k fk f h]
    have : ¬ ((j : Int) = ((j + (k + 1) : Nat) : Int)) := by omega
    simp only [if_neg this]
    rw [show j + 1 + k = j + (k + 1) by omega]
theorem m_fvs_len (ad : Nat → Nat) (f : Int → Int) : ∀ (fks : List Nat) (j : Nat), (m_fvs ad f j fks).length = fks.length
  | [], j => rfl
  | a :: r, j => by rw [m_fvs, List.length_cons, List.length_cons, m_fvs_len ad f r (j + 1)]
theorem m_cel_get (ad : Nat → Nat) (cA : Nat → ClassId) (σ : Mem) : ∀ (sh : Shp) (i k : Nat) (s : (Nat × List Nat) ⊕ (Nat × Nat)), sh[k]? = some s → (m_cel ad cA σ i sh)[k]? = some (ad (i + k), m_E ad cA (σ (i + k)) s)
  | [], i, k, s, h => by simp at h
  | a :: r, i, 0, s, h => by
    simp at h
    subst h
    simp [m_cel]
  | a :: r, i, k + 1, s, h => by
    rw [List.getElem?_cons_succ] at h
    rw [m_cel, List.getElem?_cons_succ, m_cel_get ad cA σ r (i + 1) k s h]
    rw [show i + 1 + k = i + (k + 1) by omega]
theorem m_cel_ge (ad : Nat → Nat) (cA : Nat → ClassId) : ∀ (sh : Shp) (i : Nat) (σ τ : Mem), (∀ b : Nat, i ≤ b → σ b = τ b) → m_cel ad cA σ i sh = m_cel ad cA τ i sh
  | [], i, σ, τ, h => rfl
  | a :: r, i, σ, τ, h => by
    rw [m_cel, m_cel, h i (Nat.le_refl _), m_cel_ge ad cA r (i + 1) σ τ (fun b hb => h b (by omega))]
theorem m_cel_set (ad : Nat → Nat) (cA : Nat → ClassId) (f : Int → Int) : ∀ (sh : Shp) (i k : Nat) (s : (Nat × List Nat) ⊕ (Nat × Nat)) (σ : Mem), sh[k]? = some s → (m_cel ad cA σ i sh).set k (ad (i + k), m_E ad cA f s) = m_cel ad cA (fun b => if b = i + k then f else σ b) i sh
  | [], i, k, s, σ, h => by simp at h
  | a :: r, i, 0, s, σ, h => by
    simp at h
    subst h
    rw [m_cel, m_cel, List.set_cons_zero]
    rw [m_cel_ge ad cA r (i + 1) σ (fun b => if b = i + 0 then f else σ b) (fun b hb => by
      have : ¬ (b = i + 0) := by omega
      simp only [if_neg this])]
    simp
  | a :: r, i, k + 1, s, σ, h => by
    rw [List.getElem?_cons_succ] at h
    rw [m_cel, m_cel, List.set_cons_succ]
    have h2 := m_cel_set ad cA f r (i + 1) k s σ h
    rw [show i + 1 + k = i + (k + 1) by omega] at h2
    rw [h2]
    have : ¬ (i = i + (k + 1)) := by omega
    simp only [if_neg this]
theorem m_cel_D (ad : Nat → Nat) (cA : Nat → ClassId) (A : Nat → Prop) : ∀ (sh : Shp) (i k : Nat) (σ : Mem) (q : Nat × va_E), (m_cel ad cA σ i sh)[k]? = some q → k < sh.length ∧ q.1 = ad (i + k)
  | [], i, k, σ, q, h => by simp [m_cel] at h
  | a :: r, i, 0, σ, q, h => by
    simp [m_cel] at h
    subst h
    simp
  | a :: r, i, k + 1, σ, q, h => by
    rw [m_cel, List.getElem?_cons_succ] at h
    obtain ⟨h1, h2⟩ := m_cel_D ad cA A r (i + 1) k σ q h
    refine ⟨by simp; omega, ?_⟩
    rw [h2, show i + 1 + k = i + (k + 1) by omega]
theorem m_cel_len (ad : Nat → Nat) (cA : Nat → ClassId) (σ : Mem) : ∀ (sh : Shp) (i : Nat), (m_cel ad cA σ i sh).length = sh.length
  | [], i => rfl
  | a :: r, i => by rw [m_cel, List.length_cons, List.length_cons, m_cel_len ad cA σ r (i + 1)]
/-- the addresses alone decide whether cells are apart -/
theorem m_cel_D2 {ad : Nat → Nat} {cA : Nat → ClassId} {A : Nat → Prop} {sh : Shp} {σ τ : Mem} (h : va_D A (m_cel ad cA σ 0 sh)) : va_D A (m_cel ad cA τ 0 sh) := by
  have key : ∀ (k : Nat) (q : Nat × va_E), (m_cel ad cA τ 0 sh)[k]? = some q → ∃ q' : Nat × va_E, (m_cel ad cA σ 0 sh)[k]? = some q' ∧ q'.1 = q.1 := by
    intro k q hq
    obtain ⟨h1, h2⟩ := m_cel_D ad cA A sh 0 k τ q hq
    obtain ⟨q', hq'⟩ : ∃ q', (m_cel ad cA σ 0 sh)[k]? = some q' := ⟨_, List.getElem?_eq_getElem (by rw [m_cel_len]; exact h1)⟩
    exact ⟨q', hq', by rw [h2, (m_cel_D ad cA A sh 0 k σ q' hq').2]⟩
  refine ⟨fun i j p q hi hj hpq => ?_, fun k q hk => ?_⟩
  · obtain ⟨p', h1, h2⟩ := key i p hi
    obtain ⟨q', h3, h4⟩ := key j q hj
    exact h.1 i j p' q' h1 h3 (by rw [h2, h4]; exact hpq)
  · obtain ⟨q', h1, h2⟩ := key k q hk
    rw [← h2]
    exact h.2 k q' h1
theorem m_cel_A {ad : Nat → Nat} {cA : Nat → ClassId} {sh : Shp} {σ τ : Mem} {sz : Nat} {q : Nat} (h : va_A (m_cel ad cA σ 0 sh) sz q) : va_A (m_cel ad cA τ 0 sh) sz q := by
  rcases h with ⟨k, e, h⟩ | h
  · obtain ⟨h1, h2⟩ := m_cel_D ad cA (fun _ => True) sh 0 k σ _ h
    obtain ⟨q', hq'⟩ : ∃ q', (m_cel ad cA τ 0 sh)[k]? = some q' := ⟨_, List.getElem?_eq_getElem (by rw [m_cel_len]; exact h1)⟩
    have h3 := (m_cel_D ad cA (fun _ => True) sh 0 k τ q' hq').2
    obtain ⟨a, b⟩ := q'
    refine Or.inl ⟨k, b, ?_⟩
    simp at h2 h3
    rw [hq', h2, h3]
  · exact Or.inr h
theorem m_cel_Aeq (ad : Nat → Nat) (cA : Nat → ClassId) (sh : Shp) (σ τ : Mem) (sz : Nat) : va_A (m_cel ad cA σ 0 sh) sz = va_A (m_cel ad cA τ 0 sh) sz := funext fun _ => propext ⟨m_cel_A, m_cel_A⟩
/-! ===== numbers ===== -/
theorem n_toI {x : Int} (h : InI x) : (Int32.ofInt x).toInt = x := Int32.toInt_ofInt_of_le (by have := h.1; omega) (by have := h.2; omega)
theorem n_toL {x : Int} (h : InL x) : (Int64.ofInt x).toInt = x := Int64.toInt_ofInt_of_le (by have := h.1; omega) (by have := h.2; omega)
theorem n_lt {x y : Int} (hx : InI x) (hy : InI y) : Int32.ofInt x < Int32.ofInt y ↔ x < y := by rw [Int32.lt_iff_toInt_lt, n_toI hx, n_toI hy]
theorem n_le {x y : Int} (hx : InI x) (hy : InI y) : Int32.ofInt x ≤ Int32.ofInt y ↔ x ≤ y := by rw [Int32.le_iff_toInt_le, n_toI hx, n_toI hy]
theorem n_eq {x y : Int} (hx : InI x) (hy : InI y) : Int32.ofInt x = Int32.ofInt y ↔ x = y := by rw [← Int32.toInt_inj, n_toI hx, n_toI hy]
theorem n_ltL {x y : Int} (hx : InL x) (hy : InL y) : Int64.ofInt x < Int64.ofInt y ↔ x < y := by rw [Int64.lt_iff_toInt_lt, n_toL hx, n_toL hy]
theorem n_leL {x y : Int} (hx : InL x) (hy : InL y) : Int64.ofInt x ≤ Int64.ofInt y ↔ x ≤ y := by rw [Int64.le_iff_toInt_le, n_toL hx, n_toL hy]
theorem n_eqL {x y : Int} (hx : InL x) (hy : InL y) : Int64.ofInt x = Int64.ofInt y ↔ x = y := by rw [← Int64.toInt_inj, n_toL hx, n_toL hy]
theorem n_0 : Int32.ofInt 0 = 0 := rfl
theorem n_clamp {x : Int} (h : InI x) : (Int32.ofInt x).toNatClampNeg = x.toNat := Int32.toNatClampNeg_ofInt_of_le (by have := h.1; omega) (by have := h.2; omega)
theorem n_in {i nz : Int} {n : Nat} (hn : (n : Int) = nz) (hb : n < 2147483648) (h : 0 ≤ i ∧ i < nz) : vp_in (Int32.ofInt i) n ∧ (Int32.ofInt i).toNatClampNeg = i.toNat ∧ i.toNat < n ∧ ((i.toNat : Nat) : Int) = i := by
  have hi : InI i := ⟨by omega, by omega⟩
  have h0 : InI 0 := ⟨by omega, by omega⟩
  refine ⟨?_, n_clamp hi, by omega, by omega⟩
  rintro (q | q)
  · rw [← n_0, n_lt hi h0] at q
    omega
  · rw [n_clamp hi] at q
    omega
theorem n_divI {x y : Int} (hx : InI x) (hy : InI y) : Int32.ofInt x / Int32.ofInt y = Int32.ofInt (x.tdiv y) := by
  rw [Int32.ofInt_tdiv (by have := hx.1; rw [Int32.toInt_minValue]; omega) (by have := hx.2; rw [Int32.toInt_maxValue]; omega) (by have := hy.1; rw [Int32.toInt_minValue]; omega) (by have := hy.2; rw [Int32.toInt_maxValue]; omega)]
theorem n_divL {x y : Int} (hx : InL x) (hy : InL y) : Int64.ofInt x / Int64.ofInt y = Int64.ofInt (x.tdiv y) := by
  rw [Int64.ofInt_tdiv (by have := hx.1; rw [Int64.toInt_minValue]; omega) (by have := hx.2; rw [Int64.toInt_maxValue]; omega) (by have := hy.1; rw [Int64.toInt_minValue]; omega) (by have := hy.2; rw [Int64.toInt_maxValue]; omega)]
theorem n_remI {x y : Int} (hx : InI x) (hy : InI y) : Int32.ofInt x - Int32.ofInt x / Int32.ofInt y * Int32.ofInt y = Int32.ofInt (x.tmod y) := by
  rw [n_divI hx hy, Int.tmod_def, Int32.ofInt_sub, Int32.ofInt_mul, Int32.mul_comm]
theorem n_remL {x y : Int} (hx : InL x) (hy : InL y) : Int64.ofInt x - Int64.ofInt x / Int64.ofInt y * Int64.ofInt y = Int64.ofInt (x.tmod y) := by
  rw [n_divL hx hy, Int.tmod_def, Int64.ofInt_sub, Int64.ofInt_mul, Int64.mul_comm]
theorem n_i2l {x : Int} (h : InI x) : (Int32.ofInt x).toInt64 = Int64.ofInt x := Int32.toInt64_ofInt (by have := h.1; rw [Int32.toInt_minValue]; omega) (by have := h.2; rw [Int32.toInt_maxValue]; omega)
/-! bits, on the numbers of the machine -/
def andI (x y : Int) : Int := (Int32.ofInt x &&& Int32.ofInt y).toInt
def orI (x y : Int) : Int := (Int32.ofInt x ||| Int32.ofInt y).toInt
def xorI (x y : Int) : Int := (Int32.ofInt x ^^^ Int32.ofInt y).toInt
def shlI (x y : Int) : Int := (Int32.ofInt x <<< (Int32.ofInt y &&& 31)).toInt
def shrI (x y : Int) : Int := (Int32.ofInt x >>> (Int32.ofInt y &&& 31)).toInt
def andL (x y : Int) : Int := (Int64.ofInt x &&& Int64.ofInt y).toInt
def orL (x y : Int) : Int := (Int64.ofInt x ||| Int64.ofInt y).toInt
def ushrI (x y : Int) : Int := (((Int32.ofInt x).toUInt32 >>> ((Int32.ofInt y).toUInt32 &&& Int32.toUInt32 31)).toInt32).toInt
def i2cI (x : Int) : Int := ((Int32.ofInt x).toUInt32.toUInt16.toUInt32.toInt32).toInt
def shrL (x y : Int) : Int := (Int64.ofInt x >>> ((Int32.ofInt y).toInt64 &&& 63)).toInt
def shlL (x y : Int) : Int := (Int64.ofInt x <<< ((Int32.ofInt y).toInt64 &&& 63)).toInt
theorem vI_of (x : Int32) : vI x.toInt = .int x := by rw [vI, Int32.ofInt_toInt]
theorem vL_of (x : Int64) : vL x.toInt = .long x := by rw [vL, Int64.ofInt_toInt]
/-! ===== the judgement over memories ===== -/
abbrev KT : Type := (Program × Launch × Env × Room × State) × (MethodId × Array Value × List Frame × Method × Code) × (Nat → Prop)
abbrev GT : Type := Shp × (Nat → Nat) × (Nat → ClassId) × va_G
def m_tys (cA : Nat → ClassId) : List (ClassId × FieldType) := [(cA 0, .int), (cA 1, .long), (cA 0, .int), (cA 3, .array .int)]
abbrev m_cells (G : GT) (σ : Mem) : va_W := m_cel G.2.1 G.2.2.1 σ 0 G.1
/-! what every contract takes as given beside its cells: links between nest mates, and the law's script -/
def m_x (ad : Nat → Nat) (i : Int) : Int := ((ad (2000 + i.toNat) : Nat) : Int) - 2147483648
def m_L (ad : Nat → Nat) : Int := ((ad 1001 : Nat) : Int)
def m_xs (ad : Nat → Nat) (j : Nat) : Int32 := Int32.ofInt (((ad (2000 + j) : Nat) : Int) - 2147483648)
def m_nest (U : State) : Prop := va_Nw (.methodLinkNest RX1 65 yX7_wholeFrom RX7) U ∧ va_Nw (.methodLinkNest RX3 94 yX7_asNumber RX7) U
def m_scr (ad : Nat → Nat) (A : Nat → Prop) (U : State) (H : Heap) : Prop := va_X (ad 1000) (ad 1001) (m_xs ad) U H ∧ ad 1000 < H.size ∧ ¬ A (ad 1000) ∧ ad 1001 ≤ 260
def m_ext (ad : Nat → Nat) (A : Nat → Prop) (U : State) (H : Heap) : Prop := m_nest U ∧ m_scr ad A U H
theorem m_ext.warm {ad : Nat → Nat} {A : Nat → Prop} {s U : State} {H : Heap} (hW : s.WarmedH U.vm) (h : m_ext ad A s H) : m_ext ad A U H := by
  obtain ⟨⟨n1, n2⟩, x, r⟩ := h
  exact ⟨⟨va_Nw.warmM hW n1, va_Nw.warmM hW n2⟩, x.moved hW.alike, r⟩
theorem m_ext.same {ad : Nat → Nat} {A : Nat → Prop} {u U : State} {H : Heap} (hv : U.vm = u.vm) (h : m_ext ad A u H) : m_ext ad A U H := m_ext.warm (by rw [hv]; exact State.WarmedH.refl u) h
theorem m_ext.kept {ad : Nat → Nat} {A : Nat → Prop} {U : State} {H H1 : Heap} (h : m_ext ad A U H) (hq : ∀ a : Nat, a < H.size → ¬ A a → H1[a]? = H[a]?) : m_ext ad A U H1 := by
  obtain ⟨hn, x, h1, h2, h3⟩ := h
  have e := hq _ h1 h2
  refine ⟨hn, x.kept e, ?_, h2, h3⟩
  obtain ⟨scr, hs, -⟩ := x
  rw [← e] at hs
  exact (Array.getElem?_eq_some_iff.mp hs).1
theorem m_ext.narrow {ad : Nat → Nat} {A B : Nat → Prop} {U : State} {H : Heap} (h : m_ext ad A U H) (hAB : ∀ q, B q → A q) : m_ext ad B U H := by
  obtain ⟨hn, x, h1, h2, h3⟩ := h
  exact ⟨hn, x, h1, fun q => h2 (hAB _ q), h3⟩
def WK (κ : KT) (H : Heap) (locs : List Loc) (Q : State → Prop) (g : JFrame) : Prop :=
  W κ.1.1 κ.1.2.1 κ.1.2.2.1 κ.1.2.2.2.1 κ.1.2.2.2.2 κ.2.1.1 κ.2.1.2.1 κ.2.1.2.2.1 κ.2.1.2.2.2.1 κ.2.1.2.2.2.2 H locs 0 0 Q g
def WM (κ : KT) (G : GT) (nL : Nat) (Q : State → Prop) (σ : Mem) (pc : Nat) (ls : List (Nat × Value)) (st : List Value) : Prop :=
  ∀ (H : Heap) (locs : List Loc) (arr : Array Slot), va_P G.2.2.2 vwCl (m_cells G σ) H → va_S κ.2.2 κ.1.2.2.2.2.heap H locs → lv_has arr nL ls → WK κ H locs Q (F0 κ.2.1.1 pc arr st)
def CX (κ : KT) (G : GT) (own : String) (cc : ByteArray) (nL : Nat) (Ts : List Cond) (rm : Room) (ret : Option FieldType) : Prop :=
  κ.1.1.tables.exec = Jvm.exec ∧ κ.2.1.2.2.2.2.code = cc ∧ κ.2.1.2.2.2.2.maxLocals = nL ∧ κ.1.2.2.2.2.vm.findClass own = some κ.2.1.1.cls ∧ (∀ w ∈ Ts, w.before κ.2.1.2.1 κ.1.2.2.2.2 = true) ∧
  va_K G.2.2.2 vwCl (m_tys G.2.2.1) κ.1.2.2.2.2 ∧ (∀ σ : Mem, va_D κ.2.2 (m_cells G σ)) ∧ (∀ q, κ.1.2.2.2.2.heap.size ≤ q → κ.2.2 q) ∧ κ.1.2.2.2.1 = rm ∧ κ.2.1.2.2.2.1.sig.returnType = ret ∧ κ.2.1.2.2.2.1.locks = false ∧ m_ext G.2.1 κ.2.2 κ.1.2.2.2.2 κ.1.2.2.2.2.heap
theorem CX.x {κ : KT} {G : GT} {own : String} {cc : ByteArray} {nL : Nat} {Ts : List Cond} {rm : Room} {ret : Option FieldType} (C : CX κ G own cc nL Ts rm ret) : κ.1.1.tables.exec = Jvm.exec := C.1
theorem CX.b {κ : KT} {G : GT} {own : String} {cc : ByteArray} {nL : Nat} {Ts : List Cond} {rm : Room} {ret : Option FieldType} (C : CX κ G own cc nL Ts rm ret) : κ.2.1.2.2.2.2.code = cc := C.2.1
theorem CX.ml {κ : KT} {G : GT} {own : String} {cc : ByteArray} {nL : Nat} {Ts : List Cond} {rm : Room} {ret : Option FieldType} (C : CX κ G own cc nL Ts rm ret) : κ.2.1.2.2.2.2.maxLocals = nL := C.2.2.1
theorem CX.own {κ : KT} {G : GT} {own : String} {cc : ByteArray} {nL : Nat} {Ts : List Cond} {rm : Room} {ret : Option FieldType} (C : CX κ G own cc nL Ts rm ret) : κ.1.2.2.2.2.vm.findClass own = some κ.2.1.1.cls := C.2.2.2.1
theorem CX.ts {κ : KT} {G : GT} {own : String} {cc : ByteArray} {nL : Nat} {Ts : List Cond} {rm : Room} {ret : Option FieldType} (C : CX κ G own cc nL Ts rm ret) : ∀ w ∈ Ts, w.before κ.2.1.2.1 κ.1.2.2.2.2 = true := C.2.2.2.2.1
theorem CX.K {κ : KT} {G : GT} {own : String} {cc : ByteArray} {nL : Nat} {Ts : List Cond} {rm : Room} {ret : Option FieldType} (C : CX κ G own cc nL Ts rm ret) : va_K G.2.2.2 vwCl (m_tys G.2.2.1) κ.1.2.2.2.2 := C.2.2.2.2.2.1
theorem CX.D {κ : KT} {G : GT} {own : String} {cc : ByteArray} {nL : Nat} {Ts : List Cond} {rm : Room} {ret : Option FieldType} (C : CX κ G own cc nL Ts rm ret) : ∀ σ : Mem, va_D κ.2.2 (m_cells G σ) := C.2.2.2.2.2.2.1
theorem CX.A {κ : KT} {G : GT} {own : String} {cc : ByteArray} {nL : Nat} {Ts : List Cond} {rm : Room} {ret : Option FieldType} (C : CX κ G own cc nL Ts rm ret) : ∀ q, κ.1.2.2.2.2.heap.size ≤ q → κ.2.2 q := C.2.2.2.2.2.2.2.1
theorem CX.R {κ : KT} {G : GT} {own : String} {cc : ByteArray} {nL : Nat} {Ts : List Cond} {rm : Room} {ret : Option FieldType} (C : CX κ G own cc nL Ts rm ret) : κ.1.2.2.2.1 = rm := C.2.2.2.2.2.2.2.2.1
theorem CX.rt {κ : KT} {G : GT} {own : String} {cc : ByteArray} {nL : Nat} {Ts : List Cond} {rm : Room} {ret : Option FieldType} (C : CX κ G own cc nL Ts rm ret) : κ.2.1.2.2.2.1.sig.returnType = ret := C.2.2.2.2.2.2.2.2.2.1
theorem CX.lk {κ : KT} {G : GT} {own : String} {cc : ByteArray} {nL : Nat} {Ts : List Cond} {rm : Room} {ret : Option FieldType} (C : CX κ G own cc nL Ts rm ret) : κ.2.1.2.2.2.1.locks = false := C.2.2.2.2.2.2.2.2.2.2.1
theorem CX.e {κ : KT} {G : GT} {own : String} {cc : ByteArray} {nL : Nat} {Ts : List Cond} {rm : Room} {ret : Option FieldType} (C : CX κ G own cc nL Ts rm ret) : m_ext G.2.1 κ.2.2 κ.1.2.2.2.2 κ.1.2.2.2.2.heap := C.2.2.2.2.2.2.2.2.2.2.2
section ROWS
variable {κ : KT} {G : GT} {own : String} {cc : ByteArray} {nL : Nat} {Ts : List Cond} {rm : Room} {ret : Option FieldType} {Q : State → Prop} {σ : Mem} {pc : Nat} {ls : List (Nat × Value)} {st : List Value}
theorem r_iconst (C : CX κ G own cc nL Ts rm ret) {n : Int} (d : decode cc pc = .ok (.iconst n, 1)) (k : WM κ G nL Q σ (pc + 1) ls (vI n :: st)) : WM κ G nL Q σ pc ls st := fun H locs arr hP hS hl => lv_iconst C.x C.b d rfl (k H locs arr hP hS hl)
theorem r_bipush (C : CX κ G own cc nL Ts rm ret) {n : Int} (d : decode cc pc = .ok (.bipush n, 2)) (hn : (Int8.ofInt n).toInt32 = Int32.ofInt n) (k : WM κ G nL Q σ (pc + 2) ls (vI n :: st)) : WM κ G nL Q σ pc ls st := fun H locs arr hP hS hl => lv_bipush C.x C.b d hn (k H locs arr hP hS hl)
theorem r_sipush (C : CX κ G own cc nL Ts rm ret) {n : Int} (d : decode cc pc = .ok (.sipush n, 3)) (hn : (Int16.ofInt n).toInt32 = Int32.ofInt n) (k : WM κ G nL Q σ (pc + 3) ls (vI n :: st)) : WM κ G nL Q σ pc ls st := fun H locs arr hP hS hl => lv_sipush C.x C.b d hn (k H locs arr hP hS hl)
theorem r_lconst (C : CX κ G own cc nL Ts rm ret) {n : Fin 2} {z : Int} (d : decode cc pc = .ok (.lconst n, 1)) (hz : Int64.ofNat (n : Nat) = Int64.ofInt z) (k : WM κ G nL Q σ (pc + 1) ls (vL z :: st)) : WM κ G nL Q σ pc ls st := fun H locs arr hP hS hl => lv_lconst C.x C.b d hz (k H locs arr hP hS hl)
theorem r_ldc (C : CX κ G own cc nL Ts rm ret) {index : Nat} {v : Int32} {z : Int} (d : decode cc pc = .ok (.ldc index, 2)) (hc : Cond.constant own index v ∈ Ts) (hz : v = Int32.ofInt z) (k : WM κ G nL Q σ (pc + 2) ls (vI z :: st)) : WM κ G nL Q σ pc ls st := fun H locs arr hP hS hl => lv_ldc C.x C.b C.own (C.ts _ hc) d (by rw [hz]; exact k H locs arr hP hS hl)
theorem r_ldc2 (C : CX κ G own cc nL Ts rm ret) {index : Nat} {v : Int64} {z : Int} (d : decode cc pc = .ok (.ldc2_w index, 3)) (hc : Cond.constantLong own index v ∈ Ts) (hz : v = Int64.ofInt z) (k : WM κ G nL Q σ (pc + 3) ls (vL z :: st)) : WM κ G nL Q σ pc ls st := fun H locs arr hP hS hl => lv_ldc2 C.x C.b C.own (C.ts _ hc) d (by rw [hz]; exact k H locs arr hP hS hl)
theorem r_iload_n (C : CX κ G own cc nL Ts rm ret) {kk : Fin 4} {x : Int} (j : Nat) (d : decode cc pc = .ok (.iload_n kk, 1)) (hk : ls[j]? = some ((kk : Nat), vI x)) (k : WM κ G nL Q σ (pc + 1) ls (vI x :: st)) : WM κ G nL Q σ pc ls st := fun H locs arr hP hS hl => lv_iload_n C.x C.b d rfl (lv_at hl j hk) (k H locs arr hP hS hl)
theorem r_iload (C : CX κ G own cc nL Ts rm ret) {i : Nat} {x : Int} (j : Nat) (d : decode cc pc = .ok (.iload i, 2)) (hk : ls[j]? = some (i, vI x)) (k : WM κ G nL Q σ (pc + 2) ls (vI x :: st)) : WM κ G nL Q σ pc ls st := fun H locs arr hP hS hl => lv_iload C.x C.b d (lv_at hl j hk) (k H locs arr hP hS hl)
theorem r_lload_n (C : CX κ G own cc nL Ts rm ret) {kk : Fin 4} {x : Int} (j : Nat) (d : decode cc pc = .ok (.lload_n kk, 1)) (hk : ls[j]? = some ((kk : Nat), vL x)) (k : WM κ G nL Q σ (pc + 1) ls (vL x :: st)) : WM κ G nL Q σ pc ls st := fun H locs arr hP hS hl => lv_lload_n C.x C.b d rfl (lv_at hl j hk) (k H locs arr hP hS hl)
theorem r_lload (C : CX κ G own cc nL Ts rm ret) {i : Nat} {x : Int} (j : Nat) (d : decode cc pc = .ok (.lload i, 2)) (hk : ls[j]? = some (i, vL x)) (k : WM κ G nL Q σ (pc + 2) ls (vL x :: st)) : WM κ G nL Q σ pc ls st := fun H locs arr hP hS hl => lv_lload C.x C.b d (lv_at hl j hk) (k H locs arr hP hS hl)
theorem r_aload_n (C : CX κ G own cc nL Ts rm ret) {kk : Fin 4} {x : Nat} (j : Nat) (d : decode cc pc = .ok (.aload_n kk, 1)) (hk : ls[j]? = some ((kk : Nat), .ref x)) (k : WM κ G nL Q σ (pc + 1) ls (.ref x :: st)) : WM κ G nL Q σ pc ls st := fun H locs arr hP hS hl => lv_aload_n C.x C.b d rfl (lv_at hl j hk) (k H locs arr hP hS hl)
theorem r_aload (C : CX κ G own cc nL Ts rm ret) {i : Nat} {x : Nat} (j : Nat) (d : decode cc pc = .ok (.aload i, 2)) (hk : ls[j]? = some (i, .ref x)) (k : WM κ G nL Q σ (pc + 2) ls (.ref x :: st)) : WM κ G nL Q σ pc ls st := fun H locs arr hP hS hl => lv_aload C.x C.b d (lv_at hl j hk) (k H locs arr hP hS hl)
theorem r_istore_n (C : CX κ G own cc nL Ts rm ret) {kk : Fin 4} {i : Nat} {ls' : List (Nat × Value)} {x : Int} (d : decode cc pc = .ok (.istore_n kk, 1)) (hi : (kk : Nat) = i) (hn : i < nL) (hl' : (i, vI x) :: ls.filter (fun q => !(q.1 == i) && !(q.1 + 1 == i && q.2.category == 2)) = ls') (k : WM κ G nL Q σ (pc + 1) ls' st) : WM κ G nL Q σ pc ls (vI x :: st) := fun H locs arr hP hS hl => lv_istore_n C.x C.b d hi hl hn hl' (fun arr' h' => k H locs arr' hP hS h')
theorem r_istore (C : CX κ G own cc nL Ts rm ret) {i : Nat} {ls' : List (Nat × Value)} {x : Int} (d : decode cc pc = .ok (.istore i, 2)) (hn : i < nL) (hl' : (i, vI x) :: ls.filter (fun q => !(q.1 == i) && !(q.1 + 1 == i && q.2.category == 2)) = ls') (k : WM κ G nL Q σ (pc + 2) ls' st) : WM κ G nL Q σ pc ls (vI x :: st) := fun H locs arr hP hS hl => lv_istore C.x C.b d hl hn hl' (fun arr' h' => k H locs arr' hP hS h')
theorem r_lstore_n (C : CX κ G own cc nL Ts rm ret) {kk : Fin 4} {i : Nat} {ls' : List (Nat × Value)} {x : Int} (d : decode cc pc = .ok (.lstore_n kk, 1)) (hi : (kk : Nat) = i) (hn : i + 1 < nL) (hl' : (i, vL x) :: ls.filter (fun q => !(q.1 == i) && (!(q.1 == i + 1) && !(q.1 + 1 == i && q.2.category == 2))) = ls') (k : WM κ G nL Q σ (pc + 1) ls' st) : WM κ G nL Q σ pc ls (vL x :: st) := fun H locs arr hP hS hl => lv_lstore_n C.x C.b d hi hl hn hl' (fun arr' h' => k H locs arr' hP hS h')
theorem r_lstore (C : CX κ G own cc nL Ts rm ret) {i : Nat} {ls' : List (Nat × Value)} {x : Int} (d : decode cc pc = .ok (.lstore i, 2)) (hn : i + 1 < nL) (hl' : (i, vL x) :: ls.filter (fun q => !(q.1 == i) && (!(q.1 == i + 1) && !(q.1 + 1 == i && q.2.category == 2))) = ls') (k : WM κ G nL Q σ (pc + 2) ls' st) : WM κ G nL Q σ pc ls (vL x :: st) := fun H locs arr hP hS hl => lv_lstore C.x C.b d hl hn hl' (fun arr' h' => k H locs arr' hP hS h')
theorem r_astore_n (C : CX κ G own cc nL Ts rm ret) {kk : Fin 4} {i : Nat} {ls' : List (Nat × Value)} {x : Nat} (d : decode cc pc = .ok (.astore_n kk, 1)) (hi : (kk : Nat) = i) (hn : i < nL) (hl' : (i, .ref x) :: ls.filter (fun q => !(q.1 == i) && !(q.1 + 1 == i && q.2.category == 2)) = ls') (k : WM κ G nL Q σ (pc + 1) ls' st) : WM κ G nL Q σ pc ls (.ref x :: st) := fun H locs arr hP hS hl => lv_astore_n C.x C.b d hi hl hn hl' (fun arr' h' => k H locs arr' hP hS h')
theorem r_astore (C : CX κ G own cc nL Ts rm ret) {i : Nat} {ls' : List (Nat × Value)} {x : Nat} (d : decode cc pc = .ok (.astore i, 2)) (hn : i < nL) (hl' : (i, .ref x) :: ls.filter (fun q => !(q.1 == i) && !(q.1 + 1 == i && q.2.category == 2)) = ls') (k : WM κ G nL Q σ (pc + 2) ls' st) : WM κ G nL Q σ pc ls (.ref x :: st) := fun H locs arr hP hS hl => lv_astore C.x C.b d hl hn hl' (fun arr' h' => k H locs arr' hP hS h')
theorem r_iinc (C : CX κ G own cc nL Ts rm ret) {i j : Nat} {n x : Int} {ls' : List (Nat × Value)} (d : decode cc pc = .ok (.iinc i n, 3)) (hk : ls[j]? = some (i, vI x)) (hn : i < nL) (hl' : (i, vI (x + n)) :: ls.filter (fun q => !(q.1 == i) && !(q.1 + 1 == i && q.2.category == 2)) = ls') (k : WM κ G nL Q σ (pc + 3) ls' st) : WM κ G nL Q σ pc ls st := fun H locs arr hP hS hl => lv_iinc C.x C.b d hl hk (Int32.ofInt_add x n).symm hn hl' (fun arr' h' => k H locs arr' hP hS h')
theorem r_iadd (C : CX κ G own cc nL Ts rm ret) {x y : Int} (d : decode cc pc = .ok (.iadd, 1)) (k : WM κ G nL Q σ (pc + 1) ls (vI (x + y) :: st)) : WM κ G nL Q σ pc ls (vI y :: vI x :: st) := by
  intro H locs arr hP hS hl
  have h := k H locs arr hP hS hl
  rw [vI, Int32.ofInt_add] at h
  exact lv_iadd C.x C.b d h
theorem r_isub (C : CX κ G own cc nL Ts rm ret) {x y : Int} (d : decode cc pc = .ok (.isub, 1)) (k : WM κ G nL Q σ (pc + 1) ls (vI (x - y) :: st)) : WM κ G nL Q σ pc ls (vI y :: vI x :: st) := by
  intro H locs arr hP hS hl
  have h := k H locs arr hP hS hl
  rw [vI, Int32.ofInt_sub] at h
  exact lv_isub C.x C.b d h
theorem r_imul (C : CX κ G own cc nL Ts rm ret) {x y : Int} (d : decode cc pc = .ok (.imul, 1)) (k : WM κ G nL Q σ (pc + 1) ls (vI (x * y) :: st)) : WM κ G nL Q σ pc ls (vI y :: vI x :: st) := by
  intro H locs arr hP hS hl
  have h := k H locs arr hP hS hl
  rw [vI, Int32.ofInt_mul] at h
  exact lv_imul C.x C.b d h
theorem r_ladd (C : CX κ G own cc nL Ts rm ret) {x y : Int} (d : decode cc pc = .ok (.ladd, 1)) (k : WM κ G nL Q σ (pc + 1) ls (vL (x + y) :: st)) : WM κ G nL Q σ pc ls (vL y :: vL x :: st) := by
  intro H locs arr hP hS hl
  have h := k H locs arr hP hS hl
  rw [vL, Int64.ofInt_add] at h
  exact lv_ladd C.x C.b d h
theorem r_lsub (C : CX κ G own cc nL Ts rm ret) {x y : Int} (d : decode cc pc = .ok (.lsub, 1)) (k : WM κ G nL Q σ (pc + 1) ls (vL (x - y) :: st)) : WM κ G nL Q σ pc ls (vL y :: vL x :: st) := by
  intro H locs arr hP hS hl
  have h := k H locs arr hP hS hl
  rw [vL, Int64.ofInt_sub] at h
  exact lv_lsub C.x C.b d h
theorem r_lmul (C : CX κ G own cc nL Ts rm ret) {x y : Int} (d : decode cc pc = .ok (.lmul, 1)) (k : WM κ G nL Q σ (pc + 1) ls (vL (x * y) :: st)) : WM κ G nL Q σ pc ls (vL y :: vL x :: st) := by
  intro H locs arr hP hS hl
  have h := k H locs arr hP hS hl
  rw [vL, Int64.ofInt_mul] at h
  exact lv_lmul C.x C.b d h
theorem r_iand (C : CX κ G own cc nL Ts rm ret) {x y : Int} (d : decode cc pc = .ok (.iand, 1)) (k : WM κ G nL Q σ (pc + 1) ls (vI (andI x y) :: st)) : WM κ G nL Q σ pc ls (vI y :: vI x :: st) := by
  intro H locs arr hP hS hl
  have h := k H locs arr hP hS hl
  rw [andI, vI_of] at h
  exact lv_iand C.x C.b d h
theorem r_ior (C : CX κ G own cc nL Ts rm ret) {x y : Int} (d : decode cc pc = .ok (.ior, 1)) (k : WM κ G nL Q σ (pc + 1) ls (vI (orI x y) :: st)) : WM κ G nL Q σ pc ls (vI y :: vI x :: st) := by
  intro H locs arr hP hS hl
  have h := k H locs arr hP hS hl
  rw [orI, vI_of] at h
  exact lv_ior C.x C.b d h
theorem r_land (C : CX κ G own cc nL Ts rm ret) {x y : Int} (d : decode cc pc = .ok (.land, 1)) (k : WM κ G nL Q σ (pc + 1) ls (vL (andL x y) :: st)) : WM κ G nL Q σ pc ls (vL y :: vL x :: st) := by
  intro H locs arr hP hS hl
  have h := k H locs arr hP hS hl
  rw [andL, vL_of] at h
  exact lv_land C.x C.b d h
theorem r_lor (C : CX κ G own cc nL Ts rm ret) {x y : Int} (d : decode cc pc = .ok (.lor, 1)) (k : WM κ G nL Q σ (pc + 1) ls (vL (orL x y) :: st)) : WM κ G nL Q σ pc ls (vL y :: vL x :: st) := by
  intro H locs arr hP hS hl
  have h := k H locs arr hP hS hl
  rw [orL, vL_of] at h
  exact lv_lor C.x C.b d h
theorem r_ixor (C : CX κ G own cc nL Ts rm ret) {x y : Int} (d : decode cc pc = .ok (.ixor, 1)) (k : WM κ G nL Q σ (pc + 1) ls (vI (xorI x y) :: st)) : WM κ G nL Q σ pc ls (vI y :: vI x :: st) := by
  intro H locs arr hP hS hl
  have h := k H locs arr hP hS hl
  rw [xorI, vI_of] at h
  exact lv_ixor C.x C.b d h
theorem r_ishl (C : CX κ G own cc nL Ts rm ret) {x y : Int} (d : decode cc pc = .ok (.ishl, 1)) (k : WM κ G nL Q σ (pc + 1) ls (vI (shlI x y) :: st)) : WM κ G nL Q σ pc ls (vI y :: vI x :: st) := by
  intro H locs arr hP hS hl
  have h := k H locs arr hP hS hl
  rw [shlI, vI_of] at h
  exact lv_ishl C.x C.b d h
theorem r_ishr (C : CX κ G own cc nL Ts rm ret) {x y : Int} (d : decode cc pc = .ok (.ishr, 1)) (k : WM κ G nL Q σ (pc + 1) ls (vI (shrI x y) :: st)) : WM κ G nL Q σ pc ls (vI y :: vI x :: st) := by
  intro H locs arr hP hS hl
  have h := k H locs arr hP hS hl
  rw [shrI, vI_of] at h
  exact lv_ishr C.x C.b d h
theorem r_iushr (C : CX κ G own cc nL Ts rm ret) {x y : Int} (d : decode cc pc = .ok (.iushr, 1)) (k : WM κ G nL Q σ (pc + 1) ls (vI (ushrI x y) :: st)) : WM κ G nL Q σ pc ls (vI y :: vI x :: st) := fun H locs arr hP hS hl => lv_iushr C.x C.b d rfl (by rw [← vI_of]; exact k H locs arr hP hS hl)
theorem r_lshr (C : CX κ G own cc nL Ts rm ret) {x y : Int} (d : decode cc pc = .ok (.lshr, 1)) (k : WM κ G nL Q σ (pc + 1) ls (vL (shrL x y) :: st)) : WM κ G nL Q σ pc ls (vI y :: vL x :: st) := fun H locs arr hP hS hl => lv_lshr C.x C.b d rfl (by rw [← vL_of]; exact k H locs arr hP hS hl)
theorem r_lshl (C : CX κ G own cc nL Ts rm ret) {x y : Int} (d : decode cc pc = .ok (.lshl, 1)) (k : WM κ G nL Q σ (pc + 1) ls (vL (shlL x y) :: st)) : WM κ G nL Q σ pc ls (vI y :: vL x :: st) := fun H locs arr hP hS hl => lv_lshl C.x C.b d rfl (by rw [← vL_of]; exact k H locs arr hP hS hl)
theorem r_ldcw (C : CX κ G own cc nL Ts rm ret) {index : Nat} {v : Int32} {z : Int} (d : decode cc pc = .ok (.ldc_w index, 3)) (hc : Cond.constant own index v ∈ Ts) (hz : v = Int32.ofInt z) (k : WM κ G nL Q σ (pc + 3) ls (vI z :: st)) : WM κ G nL Q σ pc ls st := fun H locs arr hP hS hl => lv_ldcw C.x C.b C.own (C.ts _ hc) d (by rw [hz]; exact k H locs arr hP hS hl)
theorem r_topI {x : Int} (k : ∀ y : Int, y = x → WM κ G nL Q σ pc ls (vI y :: st)) : WM κ G nL Q σ pc ls (vI x :: st) := k x rfl
theorem r_topL {x : Int} (k : ∀ y : Int, y = x → WM κ G nL Q σ pc ls (vL y :: st)) : WM κ G nL Q σ pc ls (vL x :: st) := k x rfl
theorem r_tsIn (C : CX κ G own cc nL Ts rm ret) {dflt lo hi off x : Int} {offs : Array Int} {len tgt : Nat} (i : Nat) (d : decode cc pc = .ok (.tableswitch dflt lo hi offs, len)) (ho : offs[i]? = some off) (hhi : i < (hi - lo + 1).toNat) (hx : x = lo + i) (hI : InI x) (ht : (pc : Int) + off = (tgt : Int)) (k : WM κ G nL Q σ tgt ls st) : WM κ G nL Q σ pc ls (vI x :: st) := by
  intro H locs arr hP hS hl
  have e : (Int32.ofInt x).toInt = x := n_toI hI
  refine lv_tableIn C.x C.b d (by rw [e]; omega) (by rw [e]; omega) (off := off) ?_ ht (k H locs arr hP hS hl)
  rw [e, show (x - lo).toNat = i by omega]
  exact ho
theorem r_tsAny (C : CX κ G own cc nL Ts rm ret) {dflt lo hi x : Int} {offs : Array Int} {len tgt j : Nat} (d : decode cc pc = .ok (.tableswitch dflt lo hi offs, len)) (ho : ∃ off : Int, offs[j]? = some off ∧ (pc : Int) + off = (tgt : Int)) (hx : x = lo + j) (hle : x ≤ hi) (hI : InI x) (k : WM κ G nL Q σ tgt ls st) : WM κ G nL Q σ pc ls (vI x :: st) := by
  intro H locs arr hP hS hl
  obtain ⟨off, ho, ht⟩ := ho
  have e : (Int32.ofInt x).toInt = x := n_toI hI
  refine lv_tableIn C.x C.b d (by rw [e]; omega) (by rw [e]; omega) (off := off) ?_ ht (k H locs arr hP hS hl)
  rw [e, show (x - lo).toNat = j by omega]
  exact ho
theorem r_pop (C : CX κ G own cc nL Ts rm ret) {v : Value} (d : decode cc pc = .ok (.pop, 1)) (hv : v.category = 1) (k : WM κ G nL Q σ (pc + 1) ls st) : WM κ G nL Q σ pc ls (v :: st) := fun H locs arr hP hS hl => lv_pop C.x C.b d hv (k H locs arr hP hS hl)
theorem r_i2c (C : CX κ G own cc nL Ts rm ret) {x : Int} (d : decode cc pc = .ok (.i2c, 1)) (k : WM κ G nL Q σ (pc + 1) ls (vI (i2cI x) :: st)) : WM κ G nL Q σ pc ls (vI x :: st) := fun H locs arr hP hS hl => lv_i2c C.x C.b d rfl (by rw [← vI_of]; exact k H locs arr hP hS hl)
theorem r_tsOut (C : CX κ G own cc nL Ts rm ret) {dflt lo hi x : Int} {offs : Array Int} {len tgt : Nat} (d : decode cc pc = .ok (.tableswitch dflt lo hi offs, len)) (hx : x < lo ∨ hi < x) (hI : InI x) (ht : (pc : Int) + dflt = (tgt : Int)) (k : WM κ G nL Q σ tgt ls st) : WM κ G nL Q σ pc ls (vI x :: st) := by
  intro H locs arr hP hS hl
  have e : (Int32.ofInt x).toInt = x := n_toI hI
  exact lv_tableOut C.x C.b d (by rw [e]; exact hx) ht (k H locs arr hP hS hl)
theorem r_idiv (C : CX κ G own cc nL Ts rm ret) {x y : Int} (d : decode cc pc = .ok (.idiv, 1)) (k : (InI x ∧ InI y ∧ ¬ y = 0) ∧ WM κ G nL Q σ (pc + 1) ls (vI (x.tdiv y) :: st)) : WM κ G nL Q σ pc ls (vI y :: vI x :: st) := by
  intro H locs arr hP hS hl
  have h := k.2 H locs arr hP hS hl
  rw [vI, ← n_divI k.1.1 k.1.2.1] at h
  refine lv_idiv C.x C.b d (fun h0 => k.1.2.2 ?_) h
  have h1 : Int32.ofInt y = Int32.ofInt 0 := h0
  rwa [n_eq k.1.2.1 ⟨by omega, by omega⟩] at h1
theorem r_irem (C : CX κ G own cc nL Ts rm ret) {x y : Int} (d : decode cc pc = .ok (.irem, 1)) (k : (InI x ∧ InI y ∧ ¬ y = 0) ∧ WM κ G nL Q σ (pc + 1) ls (vI (x.tmod y) :: st)) : WM κ G nL Q σ pc ls (vI y :: vI x :: st) := by
  intro H locs arr hP hS hl
  have h := k.2 H locs arr hP hS hl
  rw [vI, ← n_remI k.1.1 k.1.2.1] at h
  refine lv_irem C.x C.b d (fun h0 => k.1.2.2 ?_) h
  have h1 : Int32.ofInt y = Int32.ofInt 0 := h0
  rwa [n_eq k.1.2.1 ⟨by omega, by omega⟩] at h1
theorem r_ldiv (C : CX κ G own cc nL Ts rm ret) {x y : Int} (d : decode cc pc = .ok (.ldiv, 1)) (k : (InL x ∧ InL y ∧ ¬ y = 0) ∧ WM κ G nL Q σ (pc + 1) ls (vL (x.tdiv y) :: st)) : WM κ G nL Q σ pc ls (vL y :: vL x :: st) := by
  intro H locs arr hP hS hl
  have h := k.2 H locs arr hP hS hl
  rw [vL, ← n_divL k.1.1 k.1.2.1] at h
  refine lv_ldiv C.x C.b d (fun h0 => k.1.2.2 ?_) h
  have h1 : Int64.ofInt y = Int64.ofInt 0 := h0
  rwa [n_eqL k.1.2.1 ⟨by omega, by omega⟩] at h1
theorem r_lrem (C : CX κ G own cc nL Ts rm ret) {x y : Int} (d : decode cc pc = .ok (.lrem, 1)) (k : (InL x ∧ InL y ∧ ¬ y = 0) ∧ WM κ G nL Q σ (pc + 1) ls (vL (x.tmod y) :: st)) : WM κ G nL Q σ pc ls (vL y :: vL x :: st) := by
  intro H locs arr hP hS hl
  have h := k.2 H locs arr hP hS hl
  rw [vL, ← n_remL k.1.1 k.1.2.1] at h
  refine lv_lrem C.x C.b d (fun h0 => k.1.2.2 ?_) h
  have h1 : Int64.ofInt y = Int64.ofInt 0 := h0
  rwa [n_eqL k.1.2.1 ⟨by omega, by omega⟩] at h1
theorem r_ineg (C : CX κ G own cc nL Ts rm ret) {x : Int} (d : decode cc pc = .ok (.ineg, 1)) (k : WM κ G nL Q σ (pc + 1) ls (vI (-x) :: st)) : WM κ G nL Q σ pc ls (vI x :: st) := by
  intro H locs arr hP hS hl
  have h := k H locs arr hP hS hl
  rw [vI, Int32.ofInt_neg] at h
  exact lv_ineg C.x C.b d h
theorem r_i2l (C : CX κ G own cc nL Ts rm ret) {x : Int} (d : decode cc pc = .ok (.i2l, 1)) (k : InI x ∧ WM κ G nL Q σ (pc + 1) ls (vL x :: st)) : WM κ G nL Q σ pc ls (vI x :: st) := fun H locs arr hP hS hl => lv_i2l C.x C.b d (n_i2l k.1) (k.2 H locs arr hP hS hl)
theorem r_l2i (C : CX κ G own cc nL Ts rm ret) {x : Int} (d : decode cc pc = .ok (.l2i, 1)) (k : WM κ G nL Q σ (pc + 1) ls (vI x :: st)) : WM κ G nL Q σ pc ls (vL x :: st) := fun H locs arr hP hS hl => lv_l2i C.x C.b d Int64.toInt32_ofInt (k H locs arr hP hS hl)
theorem r_dup (C : CX κ G own cc nL Ts rm ret) {v : Value} (d : decode cc pc = .ok (.dup, 1)) (hv : v.category = 1) (k : WM κ G nL Q σ (pc + 1) ls (v :: v :: st)) : WM κ G nL Q σ pc ls (v :: st) := fun H locs arr hP hS hl => lv_dup C.x C.b d hv (k H locs arr hP hS hl)
theorem r_dup2 (C : CX κ G own cc nL Ts rm ret) {v w : Value} (d : decode cc pc = .ok (.dup2, 1)) (hv : v.category = 1) (hw : w.category = 1) (k : WM κ G nL Q σ (pc + 1) ls (v :: w :: v :: w :: st)) : WM κ G nL Q σ pc ls (v :: w :: st) := fun H locs arr hP hS hl => lv_dup2_11 C.x C.b d hv hw (k H locs arr hP hS hl)
theorem r_goto (C : CX κ G own cc nL Ts rm ret) {off : Int} {tgt : Nat} (d : decode cc pc = .ok (.goto off, 3)) (ht : (pc : Int) + off = (tgt : Int)) (k : WM κ G nL Q σ tgt ls st) : WM κ G nL Q σ pc ls st := fun H locs arr hP hS hl => lv_goto C.x C.b d ht (k H locs arr hP hS hl)
theorem r_perm (is : List Nat) {ls' : List (Nat × Value)} (h : lv_pick ls is = ls') (k : WM κ G nL Q σ pc ls' st) : WM κ G nL Q σ pc ls st := fun H locs arr hP hS hl => k H locs arr hP hS (lv_sub hl is h)
theorem r_icmp_eq (C : CX κ G own cc nL Ts rm ret) {x y : Int} {off : Int} {tgt : Nat} (d : decode cc pc = .ok (.if_icmp .eq off, 3)) (ht : (pc : Int) + off = (tgt : Int)) (k : (InI x ∧ InI y) ∧ (x = y → WM κ G nL Q σ tgt ls st) ∧ (¬ x = y → WM κ G nL Q σ (pc + 3) ls st)) : WM κ G nL Q σ pc ls (vI y :: vI x :: st) := by
  intro H locs arr hP hS hl
  obtain ⟨⟨hx, hy⟩, k1, k2⟩ := k
  refine lv_icmp_eq C.x C.b d ht (fun q => k1 ?_ H locs arr hP hS hl) (fun q => k2 ?_ H locs arr hP hS hl)
  all_goals
    simp only [Int32.not_lt, Int32.not_le, n_lt hx hy, n_lt hy hx, n_le hx hy, n_le hy hx, n_eq hx hy] at q
    omega
theorem r_if_eq (C : CX κ G own cc nL Ts rm ret) {x : Int} {off : Int} {tgt : Nat} (d : decode cc pc = .ok (.ifCond .eq off, 3)) (ht : (pc : Int) + off = (tgt : Int)) (k : InI x ∧ (x = 0 → WM κ G nL Q σ tgt ls st) ∧ (¬ x = 0 → WM κ G nL Q σ (pc + 3) ls st)) : WM κ G nL Q σ pc ls (vI x :: st) := by
  intro H locs arr hP hS hl
  obtain ⟨hx, k1, k2⟩ := k
  have hy : InI 0 := ⟨by omega, by omega⟩
  refine lv_if_eq C.x C.b d ht (fun q => k1 ?_ H locs arr hP hS hl) (fun q => k2 ?_ H locs arr hP hS hl)
  all_goals
    rw [← n_0] at q
    simp only [Int32.not_lt, Int32.not_le, n_lt hx hy, n_lt hy hx, n_le hx hy, n_le hy hx, n_eq hx hy] at q
    omega
theorem r_icmp_ne (C : CX κ G own cc nL Ts rm ret) {x y : Int} {off : Int} {tgt : Nat} (d : decode cc pc = .ok (.if_icmp .ne off, 3)) (ht : (pc : Int) + off = (tgt : Int)) (k : (InI x ∧ InI y) ∧ (¬ x = y → WM κ G nL Q σ tgt ls st) ∧ (x = y → WM κ G nL Q σ (pc + 3) ls st)) : WM κ G nL Q σ pc ls (vI y :: vI x :: st) := by
  intro H locs arr hP hS hl
  obtain ⟨⟨hx, hy⟩, k1, k2⟩ := k
  refine lv_icmp_ne C.x C.b d ht (fun q => k1 ?_ H locs arr hP hS hl) (fun q => k2 ?_ H locs arr hP hS hl)
  all_goals
    simp only [Int32.not_lt, Int32.not_le, n_lt hx hy, n_lt hy hx, n_le hx hy, n_le hy hx, n_eq hx hy] at q
    omega
theorem r_if_ne (C : CX κ G own cc nL Ts rm ret) {x : Int} {off : Int} {tgt : Nat} (d : decode cc pc = .ok (.ifCond .ne off, 3)) (ht : (pc : Int) + off = (tgt : Int)) (k : InI x ∧ (¬ x = 0 → WM κ G nL Q σ tgt ls st) ∧ (x = 0 → WM κ G nL Q σ (pc + 3) ls st)) : WM κ G nL Q σ pc ls (vI x :: st) := by
  intro H locs arr hP hS hl
  obtain ⟨hx, k1, k2⟩ := k
  have hy : InI 0 := ⟨by omega, by omega⟩
  refine lv_if_ne C.x C.b d ht (fun q => k1 ?_ H locs arr hP hS hl) (fun q => k2 ?_ H locs arr hP hS hl)
  all_goals
    rw [← n_0] at q
    simp only [Int32.not_lt, Int32.not_le, n_lt hx hy, n_lt hy hx, n_le hx hy, n_le hy hx, n_eq hx hy] at q
    omega
theorem r_icmp_lt (C : CX κ G own cc nL Ts rm ret) {x y : Int} {off : Int} {tgt : Nat} (d : decode cc pc = .ok (.if_icmp .lt off, 3)) (ht : (pc : Int) + off = (tgt : Int)) (k : (InI x ∧ InI y) ∧ (x < y → WM κ G nL Q σ tgt ls st) ∧ (y ≤ x → WM κ G nL Q σ (pc + 3) ls st)) : WM κ G nL Q σ pc ls (vI y :: vI x :: st) := by
  intro H locs arr hP hS hl
  obtain ⟨⟨hx, hy⟩, k1, k2⟩ := k
  refine lv_icmp_lt C.x C.b d ht (fun q => k1 ?_ H locs arr hP hS hl) (fun q => k2 ?_ H locs arr hP hS hl)
  all_goals
    simp only [Int32.not_lt, Int32.not_le, n_lt hx hy, n_lt hy hx, n_le hx hy, n_le hy hx, n_eq hx hy] at q
    omega
theorem r_if_lt (C : CX κ G own cc nL Ts rm ret) {x : Int} {off : Int} {tgt : Nat} (d : decode cc pc = .ok (.ifCond .lt off, 3)) (ht : (pc : Int) + off = (tgt : Int)) (k : InI x ∧ (x < 0 → WM κ G nL Q σ tgt ls st) ∧ (0 ≤ x → WM κ G nL Q σ (pc + 3) ls st)) : WM κ G nL Q σ pc ls (vI x :: st) := by
  intro H locs arr hP hS hl
  obtain ⟨hx, k1, k2⟩ := k
  have hy : InI 0 := ⟨by omega, by omega⟩
  refine lv_if_lt C.x C.b d ht (fun q => k1 ?_ H locs arr hP hS hl) (fun q => k2 ?_ H locs arr hP hS hl)
  all_goals
    rw [← n_0] at q
    simp only [Int32.not_lt, Int32.not_le, n_lt hx hy, n_lt hy hx, n_le hx hy, n_le hy hx, n_eq hx hy] at q
    omega
theorem r_icmp_ge (C : CX κ G own cc nL Ts rm ret) {x y : Int} {off : Int} {tgt : Nat} (d : decode cc pc = .ok (.if_icmp .ge off, 3)) (ht : (pc : Int) + off = (tgt : Int)) (k : (InI x ∧ InI y) ∧ (y ≤ x → WM κ G nL Q σ tgt ls st) ∧ (x < y → WM κ G nL Q σ (pc + 3) ls st)) : WM κ G nL Q σ pc ls (vI y :: vI x :: st) := by
  intro H locs arr hP hS hl
  obtain ⟨⟨hx, hy⟩, k1, k2⟩ := k
  refine lv_icmp_ge C.x C.b d ht (fun q => k1 ?_ H locs arr hP hS hl) (fun q => k2 ?_ H locs arr hP hS hl)
  all_goals
    simp only [Int32.not_lt, Int32.not_le, n_lt hx hy, n_lt hy hx, n_le hx hy, n_le hy hx, n_eq hx hy] at q
    omega
theorem r_if_ge (C : CX κ G own cc nL Ts rm ret) {x : Int} {off : Int} {tgt : Nat} (d : decode cc pc = .ok (.ifCond .ge off, 3)) (ht : (pc : Int) + off = (tgt : Int)) (k : InI x ∧ (0 ≤ x → WM κ G nL Q σ tgt ls st) ∧ (x < 0 → WM κ G nL Q σ (pc + 3) ls st)) : WM κ G nL Q σ pc ls (vI x :: st) := by
  intro H locs arr hP hS hl
  obtain ⟨hx, k1, k2⟩ := k
  have hy : InI 0 := ⟨by omega, by omega⟩
  refine lv_if_ge C.x C.b d ht (fun q => k1 ?_ H locs arr hP hS hl) (fun q => k2 ?_ H locs arr hP hS hl)
  all_goals
    rw [← n_0] at q
    simp only [Int32.not_lt, Int32.not_le, n_lt hx hy, n_lt hy hx, n_le hx hy, n_le hy hx, n_eq hx hy] at q
    omega
theorem r_icmp_gt (C : CX κ G own cc nL Ts rm ret) {x y : Int} {off : Int} {tgt : Nat} (d : decode cc pc = .ok (.if_icmp .gt off, 3)) (ht : (pc : Int) + off = (tgt : Int)) (k : (InI x ∧ InI y) ∧ (y < x → WM κ G nL Q σ tgt ls st) ∧ (x ≤ y → WM κ G nL Q σ (pc + 3) ls st)) : WM κ G nL Q σ pc ls (vI y :: vI x :: st) := by
  intro H locs arr hP hS hl
  obtain ⟨⟨hx, hy⟩, k1, k2⟩ := k
  refine lv_icmp_gt C.x C.b d ht (fun q => k1 ?_ H locs arr hP hS hl) (fun q => k2 ?_ H locs arr hP hS hl)
  all_goals
    simp only [Int32.not_lt, Int32.not_le, n_lt hx hy, n_lt hy hx, n_le hx hy, n_le hy hx, n_eq hx hy] at q
    omega
theorem r_if_gt (C : CX κ G own cc nL Ts rm ret) {x : Int} {off : Int} {tgt : Nat} (d : decode cc pc = .ok (.ifCond .gt off, 3)) (ht : (pc : Int) + off = (tgt : Int)) (k : InI x ∧ (0 < x → WM κ G nL Q σ tgt ls st) ∧ (x ≤ 0 → WM κ G nL Q σ (pc + 3) ls st)) : WM κ G nL Q σ pc ls (vI x :: st) := by
  intro H locs arr hP hS hl
  obtain ⟨hx, k1, k2⟩ := k
  have hy : InI 0 := ⟨by omega, by omega⟩
  refine lv_if_gt C.x C.b d ht (fun q => k1 ?_ H locs arr hP hS hl) (fun q => k2 ?_ H locs arr hP hS hl)
  all_goals
    rw [← n_0] at q
    simp only [Int32.not_lt, Int32.not_le, n_lt hx hy, n_lt hy hx, n_le hx hy, n_le hy hx, n_eq hx hy] at q
    omega
theorem r_icmp_le (C : CX κ G own cc nL Ts rm ret) {x y : Int} {off : Int} {tgt : Nat} (d : decode cc pc = .ok (.if_icmp .le off, 3)) (ht : (pc : Int) + off = (tgt : Int)) (k : (InI x ∧ InI y) ∧ (x ≤ y → WM κ G nL Q σ tgt ls st) ∧ (y < x → WM κ G nL Q σ (pc + 3) ls st)) : WM κ G nL Q σ pc ls (vI y :: vI x :: st) := by
  intro H locs arr hP hS hl
  obtain ⟨⟨hx, hy⟩, k1, k2⟩ := k
  refine lv_icmp_le C.x C.b d ht (fun q => k1 ?_ H locs arr hP hS hl) (fun q => k2 ?_ H locs arr hP hS hl)
  all_goals
    simp only [Int32.not_lt, Int32.not_le, n_lt hx hy, n_lt hy hx, n_le hx hy, n_le hy hx, n_eq hx hy] at q
    omega
theorem r_if_le (C : CX κ G own cc nL Ts rm ret) {x : Int} {off : Int} {tgt : Nat} (d : decode cc pc = .ok (.ifCond .le off, 3)) (ht : (pc : Int) + off = (tgt : Int)) (k : InI x ∧ (x ≤ 0 → WM κ G nL Q σ tgt ls st) ∧ (0 < x → WM κ G nL Q σ (pc + 3) ls st)) : WM κ G nL Q σ pc ls (vI x :: st) := by
  intro H locs arr hP hS hl
  obtain ⟨hx, k1, k2⟩ := k
  have hy : InI 0 := ⟨by omega, by omega⟩
  refine lv_if_le C.x C.b d ht (fun q => k1 ?_ H locs arr hP hS hl) (fun q => k2 ?_ H locs arr hP hS hl)
  all_goals
    rw [← n_0] at q
    simp only [Int32.not_lt, Int32.not_le, n_lt hx hy, n_lt hy hx, n_le hx hy, n_le hy hx, n_eq hx hy] at q
    omega
def cmpL (x y : Int) : Int := if x < y then -1 else if x = y then 0 else 1
theorem cmpL_of {x y : Int} (hx : InL x) (hy : InL y) : lg_cmp (Int64.ofInt x) (Int64.ofInt y) = Int32.ofInt (cmpL x y) := by
  unfold lg_cmp cmpL
  simp only [n_ltL hx hy, n_ltL hy hx, n_eqL hx hy, n_leL hx hy, n_leL hy hx, gt_iff_lt]
  by_cases h1 : x < y
  · simp [h1, show ¬ y < x by omega, show ¬ x = y by omega, show ¬ y ≤ x by omega]
  · by_cases h2 : x = y
    · simp [h2]
    · simp [h1, h2, show y < x by omega, show ¬ x ≤ y by omega]
theorem r_lcmp (C : CX κ G own cc nL Ts rm ret) {x y : Int} (d : decode cc pc = .ok (.lcmp, 1)) (k : (InL x ∧ InL y) ∧ WM κ G nL Q σ (pc + 1) ls (vI (cmpL x y) :: st)) : WM κ G nL Q σ pc ls (vL y :: vL x :: st) := by
  intro H locs arr hP hS hl
  have h := k.2 H locs arr hP hS hl
  rw [vI, ← cmpL_of k.1.1 k.1.2] at h
  exact W.lcmp C.x C.b d h
theorem r_lcmp_eq (C : CX κ G own cc nL Ts rm ret) {x y : Int} {off : Int} {tgt : Nat} (d1 : decode cc pc = .ok (.lcmp, 1)) (d : decode cc (pc + 1) = .ok (.ifCond .eq off, 3)) (ht : ((pc + 1 : Nat) : Int) + off = (tgt : Int)) (k : (InL x ∧ InL y) ∧ (x = y → WM κ G nL Q σ tgt ls st) ∧ (¬ x = y → WM κ G nL Q σ (pc + 1 + 3) ls st)) : WM κ G nL Q σ pc ls (vL y :: vL x :: st) := by
  obtain ⟨h, k1, k2⟩ := k
  refine r_lcmp C d1 ⟨h, r_if_eq C d ht ⟨?_, fun q => k1 ?_, fun q => k2 ?_⟩⟩
  · unfold cmpL
    constructor <;> (repeat' split) <;> omega
  all_goals
    unfold cmpL at q
    by_cases h1 : x < y
    · simp [h1] at q <;> omega
    · by_cases h2 : x = y
      · simp [h2] at q <;> omega
      · simp [h1, h2] at q <;> omega
theorem r_lcmp_ne (C : CX κ G own cc nL Ts rm ret) {x y : Int} {off : Int} {tgt : Nat} (d1 : decode cc pc = .ok (.lcmp, 1)) (d : decode cc (pc + 1) = .ok (.ifCond .ne off, 3)) (ht : ((pc + 1 : Nat) : Int) + off = (tgt : Int)) (k : (InL x ∧ InL y) ∧ (¬ x = y → WM κ G nL Q σ tgt ls st) ∧ (x = y → WM κ G nL Q σ (pc + 1 + 3) ls st)) : WM κ G nL Q σ pc ls (vL y :: vL x :: st) := by
  obtain ⟨h, k1, k2⟩ := k
  refine r_lcmp C d1 ⟨h, r_if_ne C d ht ⟨?_, fun q => k1 ?_, fun q => k2 ?_⟩⟩
  · unfold cmpL
    constructor <;> (repeat' split) <;> omega
  all_goals
    unfold cmpL at q
    by_cases h1 : x < y
    · simp [h1] at q <;> omega
    · by_cases h2 : x = y
      · simp [h2] at q <;> omega
      · simp [h1, h2] at q <;> omega
theorem r_lcmp_lt (C : CX κ G own cc nL Ts rm ret) {x y : Int} {off : Int} {tgt : Nat} (d1 : decode cc pc = .ok (.lcmp, 1)) (d : decode cc (pc + 1) = .ok (.ifCond .lt off, 3)) (ht : ((pc + 1 : Nat) : Int) + off = (tgt : Int)) (k : (InL x ∧ InL y) ∧ (x < y → WM κ G nL Q σ tgt ls st) ∧ (y ≤ x → WM κ G nL Q σ (pc + 1 + 3) ls st)) : WM κ G nL Q σ pc ls (vL y :: vL x :: st) := by
  obtain ⟨h, k1, k2⟩ := k
  refine r_lcmp C d1 ⟨h, r_if_lt C d ht ⟨?_, fun q => k1 ?_, fun q => k2 ?_⟩⟩
  · unfold cmpL
    constructor <;> (repeat' split) <;> omega
  all_goals
    unfold cmpL at q
    by_cases h1 : x < y
    · simp [h1] at q <;> omega
    · by_cases h2 : x = y
      · simp [h2] at q <;> omega
      · simp [h1, h2] at q <;> omega
theorem r_lcmp_ge (C : CX κ G own cc nL Ts rm ret) {x y : Int} {off : Int} {tgt : Nat} (d1 : decode cc pc = .ok (.lcmp, 1)) (d : decode cc (pc + 1) = .ok (.ifCond .ge off, 3)) (ht : ((pc + 1 : Nat) : Int) + off = (tgt : Int)) (k : (InL x ∧ InL y) ∧ (y ≤ x → WM κ G nL Q σ tgt ls st) ∧ (x < y → WM κ G nL Q σ (pc + 1 + 3) ls st)) : WM κ G nL Q σ pc ls (vL y :: vL x :: st) := by
  obtain ⟨h, k1, k2⟩ := k
  refine r_lcmp C d1 ⟨h, r_if_ge C d ht ⟨?_, fun q => k1 ?_, fun q => k2 ?_⟩⟩
  · unfold cmpL
    constructor <;> (repeat' split) <;> omega
  all_goals
    unfold cmpL at q
    by_cases h1 : x < y
    · simp [h1] at q <;> omega
    · by_cases h2 : x = y
      · simp [h2] at q <;> omega
      · simp [h1, h2] at q <;> omega
theorem r_lcmp_gt (C : CX κ G own cc nL Ts rm ret) {x y : Int} {off : Int} {tgt : Nat} (d1 : decode cc pc = .ok (.lcmp, 1)) (d : decode cc (pc + 1) = .ok (.ifCond .gt off, 3)) (ht : ((pc + 1 : Nat) : Int) + off = (tgt : Int)) (k : (InL x ∧ InL y) ∧ (y < x → WM κ G nL Q σ tgt ls st) ∧ (x ≤ y → WM κ G nL Q σ (pc + 1 + 3) ls st)) : WM κ G nL Q σ pc ls (vL y :: vL x :: st) := by
  obtain ⟨h, k1, k2⟩ := k
  refine r_lcmp C d1 ⟨h, r_if_gt C d ht ⟨?_, fun q => k1 ?_, fun q => k2 ?_⟩⟩
  · unfold cmpL
    constructor <;> (repeat' split) <;> omega
  all_goals
    unfold cmpL at q
    by_cases h1 : x < y
    · simp [h1] at q <;> omega
    · by_cases h2 : x = y
      · simp [h2] at q <;> omega
      · simp [h1, h2] at q <;> omega
theorem r_lcmp_le (C : CX κ G own cc nL Ts rm ret) {x y : Int} {off : Int} {tgt : Nat} (d1 : decode cc pc = .ok (.lcmp, 1)) (d : decode cc (pc + 1) = .ok (.ifCond .le off, 3)) (ht : ((pc + 1 : Nat) : Int) + off = (tgt : Int)) (k : (InL x ∧ InL y) ∧ (x ≤ y → WM κ G nL Q σ tgt ls st) ∧ (y < x → WM κ G nL Q σ (pc + 1 + 3) ls st)) : WM κ G nL Q σ pc ls (vL y :: vL x :: st) := by
  obtain ⟨h, k1, k2⟩ := k
  refine r_lcmp C d1 ⟨h, r_if_le C d ht ⟨?_, fun q => k1 ?_, fun q => k2 ?_⟩⟩
  · unfold cmpL
    constructor <;> (repeat' split) <;> omega
  all_goals
    unfold cmpL at q
    by_cases h1 : x < y
    · simp [h1] at q <;> omega
    · by_cases h2 : x = y
      · simp [h2] at q <;> omega
      · simp [h1, h2] at q <;> omega
end ROWS
section ROWS2
variable {κ : KT} {G : GT} {own : String} {cc : ByteArray} {nL : Nat} {Ts : List Cond} {rm : Room} {ret : Option FieldType} {Q : State → Prop} {σ : Mem} {pc : Nat} {ls : List (Nat × Value)} {st : List Value}
/-! cells of the world by their places -/
theorem m_at_o {G : GT} {o ci : Nat} {fks : List Nat} (σ : Mem) (hs : G.1[o]? = some (.inl (ci, fks))) : (m_cells G σ)[o]? = some (G.2.1 o, .inr (ci, m_fvs G.2.1 (σ o) 0 fks)) := by
  have h := m_cel_get G.2.1 G.2.2.1 σ G.1 0 o _ hs
  rw [Nat.zero_add] at h
  exact h
theorem m_at_a {G : GT} {a n : Nat} (σ : Mem) (kd : Nat) (hs : G.1[a]? = some (.inr (kd, n))) : (m_cells G σ)[a]? = some (G.2.1 a, m_E G.2.1 G.2.2.1 (σ a) (.inr (kd, n))) := by
  have h := m_cel_get G.2.1 G.2.2.1 σ G.1 0 a _ hs
  rw [Nat.zero_add] at h
  exact h
theorem m_set {G : GT} {o : Nat} {x : (Nat × List Nat) ⊕ (Nat × Nat)} (σ : Mem) (f : Int → Int) (hs : G.1[o]? = some x) : (m_cells G σ).set o (G.2.1 o, m_E G.2.1 G.2.2.1 f x) = m_cells G (fun b => if b = o then f else σ b) := by
  have h := m_cel_set G.2.1 G.2.2.1 f G.1 0 o _ σ hs
  rw [Nat.zero_add] at h
  exact h
theorem m_set_o {G : GT} {o ci j : Nat} {fks : List Nat} {fk : Nat} (σ : Mem) (v : Int) (hs : G.1[o]? = some (.inl (ci, fks))) (hfk : fks[j]? = some fk) : (m_cells G σ).set o (G.2.1 o, .inr (ci, (m_fvs G.2.1 (σ o) 0 fks).set j (m_fk G.2.1 fk v))) = m_cells G (m_upd σ o (j : Int) v) := by
  rw [m_fvs_set G.2.1 v fks 0 j fk (σ o) hfk, Nat.zero_add]
  exact m_set σ (fun i => if i = (j : Int) then v else σ o i) hs
theorem m_updI (f : Int → Int) (i v : Int) (h : 0 ≤ i) : upd (fun j : Nat => Int32.ofInt (f (j : Int))) i.toNat (Int32.ofInt v) = fun j : Nat => Int32.ofInt (if (j : Int) = i then v else f (j : Int)) := by
  funext j
  unfold upd
  by_cases hj : j = i.toNat
  · rw [if_pos hj, if_pos (show (j : Int) = i by omega)]
  · rw [if_neg hj, if_neg (show ¬ (j : Int) = i by omega)]
theorem m_updL (f : Int → Int) (i v : Int) (h : 0 ≤ i) : vp_updL (fun j : Nat => Int64.ofInt (f (j : Int))) i.toNat (Int64.ofInt v) = fun j : Nat => Int64.ofInt (if (j : Int) = i then v else f (j : Int)) := by
  funext j
  unfold vp_updL
  by_cases hj : j = i.toNat
  · rw [if_pos hj, if_pos (show (j : Int) = i by omega)]
  · rw [if_neg hj, if_neg (show ¬ (j : Int) = i by omega)]
theorem r_iald (C : CX κ G own cc nL Ts rm ret) {a n : Nat} {i nz : Int} (d : decode cc pc = .ok (.iaload, 1)) (hs : G.1[a]? = some (.inr (0, n))) (hn : (n : Int) = nz) (hb : n < 2147483648) (k : (0 ≤ i ∧ i < nz) ∧ WM κ G nL Q σ (pc + 1) ls (vI (σ a i) :: st)) : WM κ G nL Q σ pc ls (vI i :: .ref (G.2.1 a) :: st) := by
  intro H locs arr hP hS hl
  obtain ⟨h1, h2, h3, h4⟩ := n_in hn hb k.1
  have h := k.2 H locs arr hP hS hl
  refine va_iald C.x C.b C.K hP a 0 (m_at_a σ 0 hs) rfl h1 d ?_
  show WK κ H locs Q _
  rw [h2, h4]
  exact h
theorem r_iast (C : CX κ G own cc nL Ts rm ret) {a n : Nat} {i nz x : Int} (d : decode cc pc = .ok (.iastore, 1)) (hs : G.1[a]? = some (.inr (0, n))) (hn : (n : Int) = nz) (hb : n < 2147483648) (k : (0 ≤ i ∧ i < nz) ∧ ∀ σ' : Mem, σ' = m_upd σ a i x → WM κ G nL Q σ' (pc + 1) ls st) : WM κ G nL Q σ pc ls (vI x :: vI i :: .ref (G.2.1 a) :: st) := by
  intro H locs arr hP hS hl
  obtain ⟨h1, h2, h3, h4⟩ := n_in hn hb k.1
  refine va_iast C.x C.b C.K hP (C.D σ) hS a 0 (m_at_a σ 0 hs) rfl h1 d (fun H1 locs1 hP1 hD1 hS1 => k.2 _ rfl H1 locs1 arr ?_ hS1 hl)
  have e : ∀ (ws : va_W), va_P G.2.2.2 vwCl ws H1 → ws = m_cells G (m_upd σ a i x) → va_P G.2.2.2 vwCl (m_cells G (m_upd σ a i x)) H1 := fun ws h1 h2 => h2 ▸ h1
  refine e _ hP1 ?_
  · rw [h2]
    rw [m_updI (σ a) i x (by omega)]
    exact m_set σ (fun j => if j = i then x else σ a j) hs
theorem r_lald (C : CX κ G own cc nL Ts rm ret) {a n : Nat} {i nz : Int} (d : decode cc pc = .ok (.laload, 1)) (hs : G.1[a]? = some (.inr (1, n))) (hn : (n : Int) = nz) (hb : n < 2147483648) (k : (0 ≤ i ∧ i < nz) ∧ WM κ G nL Q σ (pc + 1) ls (vL (σ a i) :: st)) : WM κ G nL Q σ pc ls (vI i :: .ref (G.2.1 a) :: st) := by
  intro H locs arr hP hS hl
  obtain ⟨h1, h2, h3, h4⟩ := n_in hn hb k.1
  have h := k.2 H locs arr hP hS hl
  refine va_lald C.x C.b C.K hP a 1 (m_at_a σ 1 hs) rfl h1 d ?_
  show WK κ H locs Q _
  rw [h2, h4]
  exact h
theorem r_last (C : CX κ G own cc nL Ts rm ret) {a n : Nat} {i nz x : Int} (d : decode cc pc = .ok (.lastore, 1)) (hs : G.1[a]? = some (.inr (1, n))) (hn : (n : Int) = nz) (hb : n < 2147483648) (k : (0 ≤ i ∧ i < nz) ∧ ∀ σ' : Mem, σ' = m_upd σ a i x → WM κ G nL Q σ' (pc + 1) ls st) : WM κ G nL Q σ pc ls (vL x :: vI i :: .ref (G.2.1 a) :: st) := by
  intro H locs arr hP hS hl
  obtain ⟨h1, h2, h3, h4⟩ := n_in hn hb k.1
  refine va_last C.x C.b C.K hP (C.D σ) hS a 1 (m_at_a σ 1 hs) rfl h1 d (fun H1 locs1 hP1 hD1 hS1 => k.2 _ rfl H1 locs1 arr ?_ hS1 hl)
  have e : ∀ (ws : va_W), va_P G.2.2.2 vwCl ws H1 → ws = m_cells G (m_upd σ a i x) → va_P G.2.2.2 vwCl (m_cells G (m_upd σ a i x)) H1 := fun ws h1 h2 => h2 ▸ h1
  refine e _ hP1 ?_
  · rw [h2]
    rw [m_updL (σ a) i x (by omega)]
    exact m_set σ (fun j => if j = i then x else σ a j) hs
theorem r_aaload (C : CX κ G own cc nL Ts rm ret) {a b n : Nat} {i nz : Int} (d : decode cc pc = .ok (.aaload, 1)) (hs : G.1[a]? = some (.inr (b + 3, n))) (hn : (n : Int) = nz) (hb : n < 2147483648) (k : (0 ≤ i ∧ i < nz) ∧ WM κ G nL Q σ (pc + 1) ls (.ref (G.2.1 (b + i.toNat)) :: st)) : WM κ G nL Q σ pc ls (vI i :: .ref (G.2.1 a) :: st) := by
  intro H locs arr hP hS hl
  obtain ⟨h1, h2, h3, h4⟩ := n_in hn hb k.1
  have h := k.2 H locs arr hP hS hl
  have hlt : (Int32.ofInt i).toNatClampNeg < n := by rw [h2]; exact h3
  have hc := hP a _ (m_at_a σ (b + 3) hs)
  refine W.aald (v := .ref (G.2.1 (b + i.toNat))) (ty := .array .int) C.x C.b hc ((C.K.2 3 _ rfl).1 n (fun j => va_rf (some (G.2.1 (b + j))))) rfl (fun q => by cases q) (by show ¬ (Int32.ofInt i < 0 ∨ (arrV _ _ _).slots.size ≤ _); rw [arrV_size]; exact h1) (by show (arrV _ _ _).slots[_]? = _; rw [arrV_read _ _ hlt, h2]; rfl) rfl rfl d h
theorem r_get (C : CX κ G own cc nL Ts rm ret) {o ci j fk : Nat} {fks : List Nat} {Cn ref : String} {T : u_T} {N index : Nat} {jz : Int} {v : Value} (d : decode cc pc = .ok (.getfield index, 3)) (hs : G.1[o]? = some (.inl (ci, fks))) (hfk : fks[j]? = some fk) (hc : vwCl[ci]? = some (Cn, T, N)) (hj : j < N) (hin : ∀ w ∈ u_ws Cn T N, w ∈ Ts) (hlink : Cond.fieldLink own index ref (T j).2.1 (T j).2.2.1 ∈ Ts) (href : (T j).1 = ref) (hz : (j : Int) = jz) (hv : m_fk G.2.1 fk (σ o jz) = v) (k : WM κ G nL Q σ (pc + 3) ls (v :: st)) : WM κ G nL Q σ pc ls (.ref (G.2.1 o) :: st) := by
  intro H locs arr hP hS hl
  subst hv
  subst hz
  subst href
  refine va_get C.x C.b C.ts hin C.own C.K hP o (m_at_o σ hs) hc j hj (C.ts _ hlink) (fun _ h9 => h9) (v := m_fk G.2.1 fk (σ o (j : Int))) ?_ d (k H locs arr hP hS hl)
  rw [m_fvs_get G.2.1 (σ o) fks 0 j fk hfk, Nat.zero_add]
theorem r_puti (C : CX κ G own cc nL Ts rm ret) {o ci j : Nat} {fks : List Nat} {Cn ref : String} {T : u_T} {N index : Nat} {jz x : Int} (d : decode cc pc = .ok (.putfield index, 3)) (hs : G.1[o]? = some (.inl (ci, fks))) (hfk : fks[j]? = some 0) (hc : vwCl[ci]? = some (Cn, T, N)) (hj : j < N) (hin : ∀ w ∈ u_ws Cn T N, w ∈ Ts) (ty0 : Nat → FieldType) (hty : ∀ k, k < N → parseFieldDescriptor (T k).2.2.1 = some (ty0 k)) (hnm : ∀ a, a < N → ∀ b, b < N → a ≠ b → (T a).2.1 ≠ (T b).2.1) (hlink : Cond.fieldLink own index ref (T j).2.1 (T j).2.2.1 ∈ Ts) (href : (T j).1 = ref) (hfin : (T j).2.2.2 = false) (hd : parseFieldDescriptor (T j).2.2.1 = some .int) (hz : (j : Int) = jz) (k : ∀ σ' : Mem, σ' = m_upd σ o jz x → WM κ G nL Q σ' (pc + 3) ls st) : WM κ G nL Q σ pc ls (vI x :: .ref (G.2.1 o) :: st) := by
  intro H locs arr hP hS hl
  subst hz
  subst href
  refine va_put C.x C.b C.ts hin ty0 hty hnm C.own C.K hP (C.D σ) hS o (m_at_o σ hs) hc j hj (C.ts _ hlink) (fun _ h9 => h9) hfin hd rfl rfl ?_ d (fun H1 locs1 hP1 hD1 hS1 => k _ rfl H1 locs1 arr ?_ hS1 hl)
  · rw [m_fvs_len]
    exact (List.getElem?_eq_some_iff.mp hfk).1
  · have e := m_set_o σ x hs hfk
    have e2 : m_fk G.2.1 0 x = vI x := rfl
    rw [e2] at e
    rw [← e]
    exact hP1
theorem r_putl (C : CX κ G own cc nL Ts rm ret) {o ci j : Nat} {fks : List Nat} {Cn ref : String} {T : u_T} {N index : Nat} {jz x : Int} (d : decode cc pc = .ok (.putfield index, 3)) (hs : G.1[o]? = some (.inl (ci, fks))) (hfk : fks[j]? = some 1) (hc : vwCl[ci]? = some (Cn, T, N)) (hj : j < N) (hin : ∀ w ∈ u_ws Cn T N, w ∈ Ts) (ty0 : Nat → FieldType) (hty : ∀ k, k < N → parseFieldDescriptor (T k).2.2.1 = some (ty0 k)) (hnm : ∀ a, a < N → ∀ b, b < N → a ≠ b → (T a).2.1 ≠ (T b).2.1) (hlink : Cond.fieldLink own index ref (T j).2.1 (T j).2.2.1 ∈ Ts) (href : (T j).1 = ref) (hfin : (T j).2.2.2 = false) (hd : parseFieldDescriptor (T j).2.2.1 = some .long) (hz : (j : Int) = jz) (k : ∀ σ' : Mem, σ' = m_upd σ o jz x → WM κ G nL Q σ' (pc + 3) ls st) : WM κ G nL Q σ pc ls (vL x :: .ref (G.2.1 o) :: st) := by
  intro H locs arr hP hS hl
  subst hz
  subst href
  refine va_put C.x C.b C.ts hin ty0 hty hnm C.own C.K hP (C.D σ) hS o (m_at_o σ hs) hc j hj (C.ts _ hlink) (fun _ h9 => h9) hfin hd rfl rfl ?_ d (fun H1 locs1 hP1 hD1 hS1 => k _ rfl H1 locs1 arr ?_ hS1 hl)
  · rw [m_fvs_len]
    exact (List.getElem?_eq_some_iff.mp hfk).1
  · have e := m_set_o σ x hs hfk
    have e2 : m_fk G.2.1 1 x = vL x := rfl
    rw [e2] at e
    rw [← e]
    exact hP1
/-- what a method's end must show -/
def m_Q (oc : Int → Option Value) (Pst : Int → Mem → Prop) (G : GT) (A : Nat → Prop) : Array Value → State → Outcome → State → Prop := fun _ st o t => (∃ (r : Int) (σ' : Mem), o = .returned (oc r) ∧ Pst r σ' ∧ va_P G.2.2.2 vwCl (m_cells G σ') t.heap) ∧ va_F A st t
def RT (κ : KT) (G : GT) (oc : Int → Option Value) (Q : State → Prop) (r : Int) (σ : Mem) : Prop := ∃ Pst : Int → Mem → Prop, Q = MQ κ.2.1.2.2.1 (m_Q oc Pst G κ.2.2) κ.2.1.2.1 κ.1.2.2.2.2 0 0 κ.2.2 ∧ Pst r σ
def ocI : Int → Option Value := fun r => some (vI r)
def ocL : Int → Option Value := fun r => some (vL r)
def ocV : Int → Option Value := fun _ => none
def ocR (ad : Nat → Nat) : Int → Option Value := fun r => some (.ref (ad r.toNat))
theorem r_ireturn (C : CX κ G own cc nL Ts rm (some .int)) {x : Int} (d : decode cc pc = .ok (.ireturn, 1)) (h : RT κ G ocI Q x σ) : WM κ G nL Q σ pc ls [vI x] := by
  intro H locs arr hP hS hl
  obtain ⟨Pst, hQ, hp⟩ := h
  subst hQ
  exact W.iret C.x C.b C.rt (fun t ht hW => ⟨⟨x, σ, rfl, hp, by rw [ht]; exact hP⟩, hS.F ht⟩) hS.2.2 d C.lk
theorem r_zreturn (C : CX κ G own cc nL Ts rm (some .boolean)) {x : Int} (d : decode cc pc = .ok (.ireturn, 1)) (h : (0 ≤ x ∧ x ≤ 1) ∧ RT κ G ocI Q x σ) : WM κ G nL Q σ pc ls [vI x] := by
  intro H locs arr hP hS hl
  obtain ⟨hx, Pst, hQ, hp⟩ := h
  subst hQ
  refine W.zret C.x C.b C.rt ?_ (fun t ht hW => ⟨⟨x, σ, rfl, hp, by rw [ht]; exact hP⟩, hS.F ht⟩) hS.2.2 d C.lk
  rcases (show x = 0 ∨ x = 1 by omega) with e | e <;> subst e <;> rfl
theorem r_lreturn (C : CX κ G own cc nL Ts rm (some .long)) {x : Int} (d : decode cc pc = .ok (.lreturn, 1)) (h : RT κ G ocL Q x σ) : WM κ G nL Q σ pc ls [vL x] := by
  intro H locs arr hP hS hl
  obtain ⟨Pst, hQ, hp⟩ := h
  subst hQ
  exact W.lret C.x C.b C.rt (fun t ht hW => ⟨⟨x, σ, rfl, hp, by rw [ht]; exact hP⟩, hS.F ht⟩) hS.2.2 d C.lk
theorem r_return (C : CX κ G own cc nL Ts rm none) (d : decode cc pc = .ok (.return_, 1)) (h : RT κ G ocV Q 0 σ) : WM κ G nL Q σ pc ls [] := by
  intro H locs arr hP hS hl
  obtain ⟨Pst, hQ, hp⟩ := h
  subst hQ
  exact W.vret C.x C.b C.rt (fun t ht hW => ⟨⟨0, σ, rfl, hp, by rw [ht]; exact hP⟩, hS.F ht⟩) hS.2.2 d C.lk
theorem r_areturn {rt : FieldType} (C : CX κ G own cc nL Ts rm (some rt)) {a : Nat} {r : Int} (d : decode cc pc = .ok (.areturn, 1)) (hrt : (∃ n, rt = .object n) ∨ ∃ t, rt = .array t) (hr : r.toNat = a) (h : RT κ G (ocR G.2.1) Q r σ) : WM κ G nL Q σ pc ls [.ref (G.2.1 a)] := by
  intro H locs arr hP hS hl
  obtain ⟨Pst, hQ, hp⟩ := h
  subst hQ
  subst hr
  exact W.aret C.x C.b C.rt hrt (Or.inr ⟨_, rfl⟩) (fun t ht hW => ⟨⟨r, σ, rfl, hp, by rw [ht]; exact hP⟩, hS.F ht⟩) hS.2.2 d C.lk
/-! contracts -/
def m_Pre (avs : List Value) (G : GT) (σ : Mem) (sz : Nat) : Array Value → State → Prop := va_Pc avs (fun U => U.heap.size = sz ∧ va_P G.2.2.2 vwCl (m_cells G σ) U.heap ∧ va_K G.2.2.2 vwCl (m_tys G.2.2.1) U ∧ va_D (fun _ => True) (m_cells G σ) ∧ m_ext G.2.1 (va_A (m_cells G σ) U.heap.size) U U.heap)
def MG (l : Launch) (y : MethodName) (ws : List Cond) (rm : Room) (oc : Int → Option Value) (avs : List Value) (G : GT) (σ : Mem) (WPp : (Int → Mem → Prop) → Prop) : Prop :=
  ∀ (Pst : Int → Mem → Prop) (sz : Nat), WPp Pst → Met l y ws rm (m_Pre avs G σ sz) (m_Q oc Pst G (va_A (m_cells G σ) sz)) 0 0 (va_A (m_cells G σ) sz)
theorem m_met {l : Launch} {y : MethodName} {ws ws' : List Cond} {rm : Room} {oc : Int → Option Value} {avs : List Value} {G : GT} {σ : Mem} {WPp : (Int → Mem → Prop) → Prop} {cc : ByteArray} {nL : Nat} {ret : Option FieldType} {own : String} {ls : List (Nat × Value)}
    (hy : plainName y.cls = true) (hw : ws = Cond.code y cc nL ret :: ws') (hown : y.cls = own) (hsl : (lg_sl avs).length ≤ nL) (hls : lv_args 0 avs = ls) (hrc : rm.cells = 0) (hrs : rm.slots = 0)
    (body : ∀ (κ : KT), κ.1.2.1 = l → CX κ G own cc nL ws rm ret → ∀ (Q : State → Prop) (Pst : Int → Mem → Prop), WPp Pst → (∀ (r : Int) (σ' : Mem), Pst r σ' → RT κ G oc Q r σ') → WM κ G nL Q σ 0 ls []) : MG l y ws rm oc avs G σ WPp := by
  intro Pst sz hWP
  refine Met.ofW (cc := cc) (maxL := nL) (ret := ret) hy hw ?_
  intro p e s m args below meth c s₁ B hml hv
  obtain ⟨rfl, hsz, hP, hK, hD0, hE⟩ := hv
  subst hsz
  have hts := atoms_spec (ws := ws) B.pre
  have hD : ∀ τ : Mem, va_D (va_A (m_cells G σ) s.heap.size) (m_cells G τ) := fun τ => by
    have h := (m_cel_D2 (τ := τ) hD0).self (sz := s.heap.size)
    rw [m_cel_Aeq G.2.1 G.2.2.1 G.1 τ σ] at h
    exact h
  have hC : CX ((p, l, e, (headSpec ws rm).room, s), (m, avs.toArray, below, meth, c), va_A (m_cells G σ) s.heap.size) G own cc nL ws rm ret := by
    refine ⟨B.exec, B.bytes, hml, ?_, hts, hK, hD, fun q h => Or.inr h, rfl, B.returns, B.notSynchronized, hE⟩
    rw [← hown]
    exact findClass_of_methodNamed B.named
  have hb := body ((p, l, e, (headSpec ws rm).room, s), (m, avs.toArray, below, meth, c), va_A (m_cells G σ) s.heap.size) rfl hC
    (MQ below (m_Q oc Pst G (va_A (m_cells G σ) s.heap.size)) avs.toArray s 0 0 (va_A (m_cells G σ) s.heap.size)) Pst hWP (fun r σ' h => ⟨Pst, rfl, h⟩)
  have hl := lv_entry avs (n := nL) hsl
  rw [hls] at hl
  rw [lg_entry_eq]
  exact hb s.heap [] _ hP va_S.rf hl
/-! calls -/
theorem m_run {G : GT} {y : MethodName} {Pst : Int → Mem → Prop} {oc : Int → Option Value} (C : CX κ G own cc nL Ts rm ret) {H : Heap} {locs : List Loc} {arr : Array Slot} {stk rest : List Value} {a : Array Value} {pc : Nat} {rs : Int → List Value}
    (hrs : ∀ r, (oc r).toList = rs r)
    (hP : va_P G.2.2.2 vwCl (m_cells G σ) H) (hS : va_S κ.2.2 κ.1.2.2.2.2.heap H locs) (hl : lv_has arr nL ls)
    (hr : va_Run κ.1.1 κ.1.2.1 κ.1.2.2.1 κ.1.2.2.2.1 κ.1.2.2.2.2 κ.2.1.1 κ.2.1.2.1 κ.2.1.2.2.1 κ.2.1.2.2.2.1 κ.2.1.2.2.2.2 H locs 0 0 0 0 (F0 κ.2.1.1 pc arr stk) rest (m_Q oc Pst G (va_A (m_cells G σ) H.size) a) (va_A (m_cells G σ) H.size))
    (kk : ∀ (r : Int) (σ' : Mem), Pst r σ' → WM κ G nL Q σ' (pc + 3) ls (rs r ++ rest)) : WK κ H locs Q (F0 κ.2.1.1 pc arr stk) := by
  have hF : ∀ q, va_A (m_cells G σ) H.size q → κ.2.2 q := by
    intro q h
    rcases h with ⟨k, e, h⟩ | h
    · exact (C.D σ).2 k (q, e) h
    · exact C.A q (Nat.le_trans hS.1 h)
  intro T hT X
  obtain ⟨v, st₀, t, T', L, h0, X', hL, e1, e2, ⟨⟨r, σ', hv, hp, hb⟩, hz, hk⟩, st⟩ := hr T hT X
  cases hv
  rw [h0] at hz hk
  have hS' : va_S κ.2.2 κ.1.2.2.2.2.heap T'.heap (locs ++ L) := by
    refine ⟨Nat.le_trans hS.1 (by rw [e1]; exact hz), fun q h1 h2 => ?_, fun q hq => ?_⟩
    · rw [e1, hk q (Nat.lt_of_lt_of_le h1 hS.1) (fun z => h2 (hF q z))]
      exact hS.2.1 q h1 h2
    · rcases List.mem_append.mp hq with h | h
      · exact hS.2.2 q h
      · exact hF _ (hL q h)
  have hb' : va_P G.2.2.2 vwCl (m_cells G σ') T'.heap := by rw [e1]; exact hb
  obtain ⟨t2, a1, b1⟩ := kk r σ' hp T'.heap (locs ++ L) arr hb' hS' hl T' rfl X'
  refine ⟨t2, st t2 ?_, b1⟩
  rw [hrs]
  exact a1
theorem m_pre {G : GT} (C : CX κ G own cc nL Ts rm ret) {H : Heap} {locs : List Loc} {avs : List Value} (hP : va_P G.2.2.2 vwCl (m_cells G σ) H) (hS : va_S κ.2.2 κ.1.2.2.2.2.heap H locs) :
    FrameBlind (m_Pre avs G σ H.size) ∧ ∀ U : State, U.heap = H → κ.1.2.2.2.2.WarmedH U.vm → m_Pre avs G σ H.size avs.toArray U := by
  refine ⟨fun a U g mk q => ?_, fun U hU hW => ?_⟩
  · obtain ⟨q0, q1, qP, qK, qD, qE⟩ := q
    exact ⟨q0, q1, qP, va_K.moved (u := U) (U := U.calling g mk a) (Vm.Alike.refl U.vm) qK, qD, m_ext.same (u := U) (U := U.calling g mk a) rfl qE⟩
  · refine ⟨rfl, by rw [hU], by rw [hU]; exact hP, va_K.moved hW.alike C.K, (C.D σ).weaken (fun _ _ _ _ => trivial), ?_⟩
    rw [hU]
    refine m_ext.warm hW (m_ext.narrow (m_ext.kept C.e (fun a h1 h2 => hS.2.1 a h1 h2)) ?_)
    intro q h
    rcases h with ⟨k, e, h⟩ | h
    · exact (C.D σ).2 k (q, e) h
    · exact C.A q (Nat.le_trans hS.1 h)
theorem r_callV (C : CX κ G own cc nL Ts rm ret) {y : MethodName} {ws ws' : List Cond} {rm' : Room} {oc : Int → Option Value} {WPp : (Int → Mem → Prop) → Prop} {bytes : ByteArray} {maxL n idx o ci : Nat} {ret' : Option FieldType} {Cn : String} {fks : List Nat} {T : u_T} {N : Nat} {As rest stk : List Value} {rs : Int → List Value}
    (d : decode cc pc = .ok (.invokevirtual idx, 3)) (hM : MG κ.1.2.1 y ws rm' oc (.ref (G.2.1 o) :: As) G σ WPp) (hG : GoodIn Ts (wsV own idx Cn y ws)) (hw : ws = Cond.code y bytes maxL ret' :: ws') (hrc : rm'.cells = 0 ∧ rm'.slots = 0)
    (hd : y.cls = Cn ∧ y.cls ≠ "java/lang/invoke/MethodHandle" ∧ y.cls ≠ "java/lang/invoke/VarHandle" ∧ (parseMethodDescriptor y.desc).map (fun d => d.parameters.length) = some n) (hR : rm'.frames + 1 ≤ rm.frames ∧ 8 + (maxL + 11) + rm'.locals ≤ rm.locals)
    (hs : G.1[o]? = some (.inl (ci, fks))) (hc : vwCl[ci]? = some (Cn, T, N)) (hn : As.length = n) (hst : stk = As.reverse ++ .ref (G.2.1 o) :: rest) (hcat : (rest.map fun v => v.category).sum ≤ 8) (hrs : ∀ r, (oc r).toList = rs r)
    (h : WPp (fun r σ' => WM κ G nL Q σ' (pc + 3) ls (rs r ++ rest))) : WM κ G nL Q σ pc ls stk := by
  intro H locs arr hP hS hl
  subst hst
  have hpre := m_pre (avs := .ref (G.2.1 o) :: As) C hP hS
  refine m_run (y := y) C hrs hP hS hl (va_runV (As := As) (rest := rest) (b := G.2.1 o) ⟨C.x, C.b, C.ml, C.own, C.ts⟩ (hM _ H.size h) (cwV n C.ts hG hw hrc.1 hrc.2 hd (by rw [C.R]; exact hR)) ⟨hpre.1, va_recv C.K hP hc (m_at_o σ hs), hpre.2⟩ rfl hn hl.1 rfl (lv_room hcat) d ⟨Nat.zero_le _, Nat.zero_le _⟩) (fun r σ' h => h)
theorem r_callS (C : CX κ G own cc nL Ts rm ret) {y : MethodName} {ws ws' : List Cond} {rm' : Room} {oc : Int → Option Value} {WPp : (Int → Mem → Prop) → Prop} {bytes : ByteArray} {maxL n idx : Nat} {ret' : Option FieldType} {As rest stk : List Value} {rs : Int → List Value}
    (d : decode cc pc = .ok (.invokestatic idx, 3)) (hM : MG κ.1.2.1 y ws rm' oc As G σ WPp) (hG : GoodIn Ts (va_wsS own idx y ws)) (hw : ws = Cond.code y bytes maxL ret' :: ws') (hrc : rm'.cells = 0 ∧ rm'.slots = 0)
    (hd : y.cls ≠ "java/lang/invoke/MethodHandle" ∧ y.cls ≠ "java/lang/invoke/VarHandle" ∧ (parseMethodDescriptor y.desc).map (fun d => d.parameters.length) = some n) (hR : rm'.frames + 1 ≤ rm.frames ∧ 8 + (maxL + 11) + rm'.locals ≤ rm.locals)
    (hn : As.length = n) (hst : stk = As.reverse ++ rest) (hcat : (rest.map fun v => v.category).sum ≤ 8) (hrs : ∀ r, (oc r).toList = rs r)
    (h : WPp (fun r σ' => WM κ G nL Q σ' (pc + 3) ls (rs r ++ rest))) : WM κ G nL Q σ pc ls stk := by
  intro H locs arr hP hS hl
  subst hst
  have hpre := m_pre (avs := As) C hP hS
  refine m_run (y := y) C hrs hP hS hl (va_runS (As := As) (rest := rest) ⟨C.x, C.b, C.ml, C.own, C.ts⟩ (hM _ H.size h) (va_cwS n C.ts hG hw hrc.1 hrc.2 hd (by rw [C.R]; exact hR)) ⟨hpre.1, hpre.2⟩ rfl hn hl.1 rfl (lv_room hcat) d ⟨Nat.zero_le _, Nat.zero_le _⟩) (fun r σ' h => h)
theorem r_callSN (C : CX κ G own cc nL Ts rm ret) {y : MethodName} {ws ws' : List Cond} {rm' : Room} {oc : Int → Option Value} {WPp : (Int → Mem → Prop) → Prop} {bytes : ByteArray} {maxL n idx : Nat} {ret' : Option FieldType} {host : String} {As rest stk : List Value} {rs : Int → List Value}
    (d : decode cc pc = .ok (.invokestatic idx, 3)) (hM : MG κ.1.2.1 y ws rm' oc As G σ WPp) (hl0 : va_Nw (.methodLinkNest own idx y host) κ.1.2.2.2.2) (hst0 : Cond.static y ∈ Ts) (hin0 : Cond.initialized y.cls ∈ Ts) (hG : GoodIn Ts ws) (hw : ws = Cond.code y bytes maxL ret' :: ws') (hrc : rm'.cells = 0 ∧ rm'.slots = 0)
    (hd : y.cls ≠ "java/lang/invoke/MethodHandle" ∧ y.cls ≠ "java/lang/invoke/VarHandle" ∧ (parseMethodDescriptor y.desc).map (fun d => d.parameters.length) = some n) (hR : rm'.frames + 1 ≤ rm.frames ∧ 8 + (maxL + 11) + rm'.locals ≤ rm.locals)
    (hn : As.length = n) (hst : stk = As.reverse ++ rest) (hcat : (rest.map fun v => v.category).sum ≤ 8) (hrs : ∀ r, (oc r).toList = rs r)
    (h : WPp (fun r σ' => WM κ G nL Q σ' (pc + 3) ls (rs r ++ rest))) : WM κ G nL Q σ pc ls stk := by
  intro H locs arr hP hS hl
  subst hst
  have hpre := m_pre (avs := As) C hP hS
  refine m_run (y := y) C hrs hP hS hl (va_runSN (As := As) (rest := rest) ⟨C.x, C.b, C.ml, C.own, C.ts⟩ (hM _ H.size h) ⟨va_cnB n C.ts hG hw hrc.1 hrc.2 hl0 (C.ts _ hin0) hd (by rw [C.R]; exact hR), C.ts _ hst0, trivial⟩ ⟨hpre.1, hpre.2⟩ rfl hn hl.1 rfl (lv_room hcat) d ⟨Nat.zero_le _, Nat.zero_le _⟩) (fun r σ' h => h)
/-! the script -/
theorem r_slen (C : CX κ G own cc nL Ts rm ret) (d : decode cc pc = .ok (.arraylength, 1)) (k : WM κ G nL Q σ (pc + 1) ls (vI (m_L G.2.1) :: st)) : WM κ G nL Q σ pc ls (.ref (G.2.1 1000) :: st) := by
  intro H locs arr hP hS hl
  have h := k H locs arr hP hS hl
  rw [m_L, vI, Int32.ofInt_eq_ofNat] at h
  exact va_slen C.x C.b C.e.2.1 C.e.2.2.1 C.e.2.2.2.1 hS d h
theorem r_sald (C : CX κ G own cc nL Ts rm ret) {i : Int} (d : decode cc pc = .ok (.iaload, 1)) (k : (0 ≤ i ∧ i < m_L G.2.1) ∧ WM κ G nL Q σ (pc + 1) ls (vI (m_x G.2.1 i) :: st)) : WM κ G nL Q σ pc ls (vI i :: .ref (G.2.1 1000) :: st) := by
  intro H locs arr hP hS hl
  have hb := C.e.2.2.2.2
  obtain ⟨h1, h2, h3, h4⟩ := n_in (i := i) (n := G.2.1 1001) rfl (by omega) k.1
  have h := k.2 H locs arr hP hS hl
  refine va_sld C.x C.b C.e.2.1 C.e.2.2.1 C.e.2.2.2.1 hS h1 d ?_
  rw [h2]
  exact h
/-! Math and arraycopy -/
theorem r_maxL (C : CX κ G own cc nL Ts rm ret) {index : Nat} {x y : Int} (d : decode cc pc = .ok (.invokestatic index, 3)) (h1 : Cond.methodLink own index Lib.MathLoose.max_long.x ∈ Ts) (h2 : Cond.static Lib.MathLoose.max_long.x ∈ Ts) (h3 : Cond.initialized "java/lang/Math" ∈ Ts) (h4 : Cond.code Lib.MathLoose.max_long.x Lib.MathLoose.max_long.code 4 (some .long) ∈ Ts) (hfr : 1 ≤ rm.frames) (hlo : (st.map fun v => v.category).sum + 15 ≤ rm.locals) (k : (InL x ∧ InL y) ∧ WM κ G nL Q σ (pc + 3) ls (vL (if y < x then x else y) :: st)) : WM κ G nL Q σ pc ls (vL y :: vL x :: st) := by
  intro H locs arr hP hS hl
  have h := k.2 H locs arr hP hS hl
  refine va_mmax_long C.x C.b (C.ml.trans hl.1.symm) C.own (C.ts _ h1) (C.ts _ h2) (C.ts _ h3) (C.ts _ h4) (by rw [C.R]; exact hfr) (by rw [C.R]; exact hlo) (Nat.zero_le _) (Nat.zero_le _) d ?_
  have e : (if Int64.ofInt y < Int64.ofInt x then Int64.ofInt x else Int64.ofInt y) = Int64.ofInt (if y < x then x else y) := by
    rw [apply_ite Int64.ofInt]
    simp only [n_ltL k.1.2 k.1.1]
  rw [e]
  exact h
theorem r_maxI (C : CX κ G own cc nL Ts rm ret) {index : Nat} {x y : Int} (d : decode cc pc = .ok (.invokestatic index, 3)) (h1 : Cond.methodLink own index Lib.Math.max.name ∈ Ts) (h2 : Cond.static Lib.Math.max.name ∈ Ts) (h3 : Cond.initialized "java/lang/Math" ∈ Ts) (h4 : Cond.code Lib.Math.max.name Lib.Math.max.code 2 (some .int) ∈ Ts) (hfr : 1 ≤ rm.frames) (hlo : (st.map fun v => v.category).sum + 13 ≤ rm.locals) (k : (InI x ∧ InI y) ∧ WM κ G nL Q σ (pc + 3) ls (vI (if x < y then y else x) :: st)) : WM κ G nL Q σ pc ls (vI y :: vI x :: st) := by
  intro H locs arr hP hS hl
  have h := k.2 H locs arr hP hS hl
  refine va_mmax C.x C.b (C.ml.trans hl.1.symm) C.own (C.ts _ h1) (C.ts _ h2) (C.ts _ h3) (C.ts _ h4) (by rw [C.R]; exact hfr) (by rw [C.R]; exact hlo) (Nat.zero_le _) (Nat.zero_le _) d ?_
  have e : (if Int32.ofInt x < Int32.ofInt y then Int32.ofInt y else Int32.ofInt x) = Int32.ofInt (if x < y then y else x) := by
    rw [apply_ite Int32.ofInt]
    simp only [n_lt k.1.1 k.1.2]
  rw [e]
  exact h
theorem r_absL (C : CX κ G own cc nL Ts rm ret) {index : Nat} {x : Int} (d : decode cc pc = .ok (.invokestatic index, 3)) (h1 : Cond.methodLink own index Lib.MathLoose.abs_long.x ∈ Ts) (h2 : Cond.static Lib.MathLoose.abs_long.x ∈ Ts) (h3 : Cond.initialized "java/lang/Math" ∈ Ts) (h4 : Cond.code Lib.MathLoose.abs_long.x Lib.MathLoose.abs_long.code 2 (some .long) ∈ Ts) (hfr : 1 ≤ rm.frames) (hlo : (st.map fun v => v.category).sum + 13 ≤ rm.locals) (k : InL x ∧ WM κ G nL Q σ (pc + 3) ls (vL (if (0 : Int) < x then x else -x) :: st)) : WM κ G nL Q σ pc ls (vL x :: st) := by
  intro H locs arr hP hS hl
  have h := k.2 H locs arr hP hS hl
  refine va_mabs_long C.x C.b (C.ml.trans hl.1.symm) C.own (C.ts _ h1) (C.ts _ h2) (C.ts _ h3) (C.ts _ h4) (by rw [C.R]; exact hfr) (by rw [C.R]; exact hlo) (Nat.zero_le _) (Nat.zero_le _) d ?_
  have e0 : (0 : Int64) = Int64.ofInt 0 := rfl
  have e : (if 0 < Int64.ofInt x then Int64.ofInt x else -Int64.ofInt x) = Int64.ofInt (if 0 < x then x else -x) := by
    rw [apply_ite Int64.ofInt, e0, Int64.ofInt_neg]
    simp only [n_ltL (⟨by omega, by omega⟩ : InL 0) k.1]
  rw [e]
  exact h
def m_cpy (σ : Mem) (a b : Nat) (sp dp n : Int) : Mem := fun c => if c = b then (fun j => if dp ≤ j ∧ j < dp + n then σ a (sp + (j - dp)) else σ b j) else σ c
theorem r_copyi (C : CX κ G own cc nL Ts rm ret) {index a b n0 n1 : Nat} {sp dp n n0z n1z : Int} (d : decode cc pc = .ok (.invokestatic index, 3)) (h1 : Cond.methodLink own index arraycopyName ∈ Ts) (h2 : Cond.native arraycopyName ∈ Ts) (h3 : Cond.static arraycopyName ∈ Ts) (h4 : Cond.initialized "java/lang/System" ∈ Ts)
    (hs0 : G.1[a]? = some (.inr (0, n0))) (hs1 : G.1[b]? = some (.inr (0, n1))) (hn0 : (n0 : Int) = n0z) (hn1 : (n1 : Int) = n1z) (hb0 : n0 < 2147483648) (hb1 : n1 < 2147483648) (hfr : 1 ≤ rm.frames) (hlo : (st.map fun v => v.category).sum + (nativeFrameWords "java/lang/System" "arraycopy" 5 + 11) ≤ rm.locals)
    (k : ((0 ≤ sp ∧ 0 ≤ dp ∧ 0 ≤ n) ∧ sp + n ≤ n0z ∧ dp + n ≤ n1z) ∧ ∀ σ' : Mem, σ' = m_cpy σ a b sp dp n → WM κ G nL Q σ' (pc + 3) ls st) : WM κ G nL Q σ pc ls (vI n :: vI dp :: .ref (G.2.1 b) :: vI sp :: .ref (G.2.1 a) :: st) := by
  intro H locs arr hP hS hl
  obtain ⟨⟨⟨p1, p2, p3⟩, p4, p5⟩, k⟩ := k
  have is : InI sp := ⟨by omega, by omega⟩
  have id : InI dp := ⟨by omega, by omega⟩
  have i3 : InI n := ⟨by omega, by omega⟩
  have i0 : InI 0 := ⟨by omega, by omega⟩
  have neg : ∀ {x : Int}, InI x → 0 ≤ x → ¬ Int32.ofInt x < 0 := fun hx h q => by
    rw [← n_0, n_lt hx i0] at q
    omega
  refine va_copyi (f := fun j : Nat => Int32.ofInt (σ a (j : Int))) (g := fun j : Nat => Int32.ofInt (σ b (j : Int))) C.x C.b (C.ml.trans hl.1.symm) C.own (C.ts _ h1) (C.ts _ h2) (C.ts _ h3) (C.ts _ h4) C.K hP (C.D σ) hS a b 0 0 (m_at_a σ 0 hs0) (m_at_a σ 0 hs1) rfl rfl rfl (neg is p1) (neg id p2) (neg i3 p3) (by rw [n_clamp is, n_clamp i3]; omega) (by rw [n_clamp id, n_clamp i3]; omega) (fun i hi => rfl) (by rw [C.R]; exact hfr) (by rw [C.R]; exact hlo) d (fun H1 locs1 hP1 hD1 hS1 => k _ rfl H1 locs1 arr ?_ hS1 hl)
  have e : ∀ (ws : va_W), va_P G.2.2.2 vwCl ws H1 → ws = m_cells G (m_cpy σ a b sp dp n) → va_P G.2.2.2 vwCl (m_cells G (m_cpy σ a b sp dp n)) H1 := fun ws h1 h2 => h2 ▸ h1
  refine e _ hP1 ?_
  rw [n_clamp is, n_clamp id, n_clamp i3]
  have e2 : va_cpy (fun j : Nat => Int32.ofInt (σ a (j : Int))) (fun j : Nat => Int32.ofInt (σ b (j : Int))) sp.toNat dp.toNat n.toNat = fun j : Nat => Int32.ofInt ((fun j : Int => if dp ≤ j ∧ j < dp + n then σ a (sp + (j - dp)) else σ b j) (j : Int)) := by
    funext j
    unfold va_cpy
    by_cases h : dp.toNat ≤ j ∧ j < dp.toNat + n.toNat
    · rw [if_pos h]
      dsimp only
      rw [if_pos (by omega)]
      rw [show ((sp.toNat + (j - dp.toNat) : Nat) : Int) = sp + ((j : Int) - dp) by omega]
    · rw [if_neg h]
      dsimp only
      rw [if_neg (by omega)]
  rw [e2]
  exact m_set σ (fun j => if dp ≤ j ∧ j < dp + n then σ a (sp + (j - dp)) else σ b j) hs1
end ROWS2
end
section
def shA : Shp := [.inl (7, [1 + 2, 7 + 2, 13 + 2, 23 + 2, 31 + 2, 34 + 2, 37 + 2, 0]),
  .inl (2, [0, 0, 0, 2 + 2, 3 + 2, 4 + 2, 5 + 2, 6 + 2]),
  .inr (0, 6),
  .inr (0, 6),
  .inr (0, 6),
  .inr (0, 6),
  .inr (0, 6),
  .inl (3, [8 + 2, 1, 9 + 2, 10 + 2, 11 + 2, 12 + 2]),
  .inr (1, 6),
  .inr (1, 6),
  .inr (1, 6),
  .inr (1, 7),
  .inr (1, 36),
  .inl (1, [0, 0, 0, 14 + 2, 20 + 2, 21 + 2, 22 + 2]),
  .inl (3, [15 + 2, 1, 16 + 2, 17 + 2, 18 + 2, 19 + 2]),
  .inr (1, 6),
  .inr (1, 6),
  .inr (1, 6),
  .inr (1, 7),
  .inr (1, 36),
  .inr (0, 6),
  .inr (0, 6),
  .inr (0, 6),
  .inl (0, [0, 24 + 2, 1, 1]),
  .inr (25 + 3, 6),
  .inr (0, 6),
  .inr (0, 6),
  .inr (0, 6),
  .inr (0, 6),
  .inr (0, 6),
  .inr (0, 6),
  .inl (4, [32 + 2, 33 + 2]),
  .inr (0, 3),
  .inr (0, 6),
  .inl (6, [0, 35 + 2, 36 + 2]),
  .inr (0, 6),
  .inr (0, 6),
  .inl (5, [0, 0, 0, 0, 38 + 2, 39 + 2, 40 + 2, 41 + 2, 0, 0, 0, 0]),
  .inr (0, 12),
  .inr (0, 12),
  .inr (0, 12),
  .inr (0, 160)]
theorem shA_0 : shA[0]? = some (.inl (7, [1 + 2, 7 + 2, 13 + 2, 23 + 2, 31 + 2, 34 + 2, 37 + 2, 0])) := rfl
theorem shA_1 : shA[1]? = some (.inl (2, [0, 0, 0, 2 + 2, 3 + 2, 4 + 2, 5 + 2, 6 + 2])) := rfl
theorem shA_2 : shA[2]? = some (.inr (0, 6)) := rfl
theorem shA_3 : shA[3]? = some (.inr (0, 6)) := rfl
theorem shA_4 : shA[4]? = some (.inr (0, 6)) := rfl
theorem shA_5 : shA[5]? = some (.inr (0, 6)) := rfl
theorem shA_6 : shA[6]? = some (.inr (0, 6)) := rfl
theorem shA_7 : shA[7]? = some (.inl (3, [8 + 2, 1, 9 + 2, 10 + 2, 11 + 2, 12 + 2])) := rfl
theorem shA_8 : shA[8]? = some (.inr (1, 6)) := rfl
theorem shA_9 : shA[9]? = some (.inr (1, 6)) := rfl
theorem shA_10 : shA[10]? = some (.inr (1, 6)) := rfl
theorem shA_11 : shA[11]? = some (.inr (1, 7)) := rfl
theorem shA_12 : shA[12]? = some (.inr (1, 36)) := rfl
theorem shA_13 : shA[13]? = some (.inl (1, [0, 0, 0, 14 + 2, 20 + 2, 21 + 2, 22 + 2])) := rfl
theorem shA_14 : shA[14]? = some (.inl (3, [15 + 2, 1, 16 + 2, 17 + 2, 18 + 2, 19 + 2])) := rfl
theorem shA_15 : shA[15]? = some (.inr (1, 6)) := rfl
theorem shA_16 : shA[16]? = some (.inr (1, 6)) := rfl
theorem shA_17 : shA[17]? = some (.inr (1, 6)) := rfl
theorem shA_18 : shA[18]? = some (.inr (1, 7)) := rfl
theorem shA_19 : shA[19]? = some (.inr (1, 36)) := rfl
theorem shA_20 : shA[20]? = some (.inr (0, 6)) := rfl
theorem shA_21 : shA[21]? = some (.inr (0, 6)) := rfl
theorem shA_22 : shA[22]? = some (.inr (0, 6)) := rfl
theorem shA_23 : shA[23]? = some (.inl (0, [0, 24 + 2, 1, 1])) := rfl
theorem shA_24 : shA[24]? = some (.inr (25 + 3, 6)) := rfl
theorem shA_25 : shA[25]? = some (.inr (0, 6)) := rfl
theorem shA_26 : shA[26]? = some (.inr (0, 6)) := rfl
theorem shA_27 : shA[27]? = some (.inr (0, 6)) := rfl
theorem shA_28 : shA[28]? = some (.inr (0, 6)) := rfl
theorem shA_29 : shA[29]? = some (.inr (0, 6)) := rfl
theorem shA_30 : shA[30]? = some (.inr (0, 6)) := rfl
theorem shA_31 : shA[31]? = some (.inl (4, [32 + 2, 33 + 2])) := rfl
theorem shA_32 : shA[32]? = some (.inr (0, 3)) := rfl
theorem shA_33 : shA[33]? = some (.inr (0, 6)) := rfl
theorem shA_34 : shA[34]? = some (.inl (6, [0, 35 + 2, 36 + 2])) := rfl
theorem shA_35 : shA[35]? = some (.inr (0, 6)) := rfl
theorem shA_36 : shA[36]? = some (.inr (0, 6)) := rfl
theorem shA_37 : shA[37]? = some (.inl (5, [0, 0, 0, 0, 38 + 2, 39 + 2, 40 + 2, 41 + 2, 0, 0, 0, 0])) := rfl
theorem shA_38 : shA[38]? = some (.inr (0, 12)) := rfl
theorem shA_39 : shA[39]? = some (.inr (0, 12)) := rfl
theorem shA_40 : shA[40]? = some (.inr (0, 12)) := rfl
theorem shA_41 : shA[41]? = some (.inr (0, 160)) := rfl
abbrev GA (ad : Nat → Nat) (cA : Nat → ClassId) (D : va_G) : GT := (shA, ad, cA, D)
abbrev LfA (o : Nat) : Prop := o = 7 ∨ o = 14
theorem lf_0 {o : Nat} (ho : LfA o) : shA[o]? = some (.inl (3, [o + 1 + 2, 1, o + 2 + 2, o + 3 + 2, o + 4 + 2, o + 5 + 2])) := by rcases ho with rfl | rfl <;> rfl
theorem lf_1 {o : Nat} (ho : LfA o) : shA[o + 1]? = some (.inr (1, 6)) := by rcases ho with rfl | rfl <;> rfl
theorem lf_2 {o : Nat} (ho : LfA o) : shA[o + 2]? = some (.inr (1, 6)) := by rcases ho with rfl | rfl <;> rfl
theorem lf_3 {o : Nat} (ho : LfA o) : shA[o + 3]? = some (.inr (1, 6)) := by rcases ho with rfl | rfl <;> rfl
theorem lf_4 {o : Nat} (ho : LfA o) : shA[o + 4]? = some (.inr (1, 7)) := by rcases ho with rfl | rfl <;> rfl
theorem lf_5 {o : Nat} (ho : LfA o) : shA[o + 5]? = some (.inr (1, 36)) := by rcases ho with rfl | rfl <;> rfl
end
section
def x2_begin_be (X17 : Int → Mem → Prop) (Q : Int → Mem → Prop) (p1 : Int) (p2 : Int) (s : Mem) : Prop :=
  ∀ s1 : Mem, s1 = m_upd s 1 (0 : Int) p1 → ∀ s2 : Mem, s2 = m_upd s1 1 (1 : Int) p2 → ∀ s3 : Mem, s3 = m_upd s2 1 (2 : Int) (0 : Int) → X17 (0 : Int) s3
def x2_begin_b17 (X17 : Int → Mem → Prop) (Q : Int → Mem → Prop) (x3 : Int) (s : Mem) : Prop :=
  (InI x3 ∧ InI (6 : Int)) ∧ ((6 : Int) ≤ x3 → Q (0 : Int) s) ∧ (x3 < (6 : Int) → ((0 : Int) ≤ x3 ∧ x3 < 6) ∧ ∀ s4 : Mem, s4 = m_upd s 2 x3 (5 : Int) → ((0 : Int) ≤ x3 ∧ x3 < 6) ∧ ∀ s5 : Mem, s5 = m_upd s4 3 x3 (3 : Int) → ((0 : Int) ≤ x3 ∧ x3 < 6) ∧ ∀ s6 : Mem, s6 = m_upd s5 4 x3 (0 : Int) → ((0 : Int) ≤ x3 ∧ x3 < 6) ∧ ∀ s7 : Mem, s7 = m_upd s6 5 x3 (0 : Int) → ((0 : Int) ≤ x3 ∧ x3 < 6) ∧ ∀ s8 : Mem, s8 = m_upd s7 6 x3 x3 → X17 (x3 + (1 : Int)) s8)
theorem x2_begin_me {X17 Y17 : Int → Mem → Prop} {Q R : Int → Mem → Prop} (hX17 : ∀ x3 s, X17 x3 s → Y17 x3 s) (hQ : ∀ r s, Q r s → R r s) {p1 : Int} {p2 : Int} {s : Mem} (h : x2_begin_be X17 Q p1 p2 s) : x2_begin_be Y17 R p1 p2 s :=
  fun s1 e_s1 => have h := h s1 e_s1; fun s2 e_s2 => have h := h s2 e_s2; fun s3 e_s3 => have h := h s3 e_s3; hX17 _ _ h
theorem x2_begin_m17 {X17 Y17 : Int → Mem → Prop} {Q R : Int → Mem → Prop} (hX17 : ∀ x3 s, X17 x3 s → Y17 x3 s) (hQ : ∀ r s, Q r s → R r s) {x3 : Int} {s : Mem} (h : x2_begin_b17 X17 Q x3 s) : x2_begin_b17 Y17 R x3 s :=
  ⟨h.1, fun c => have h := h.2.1 c; hQ _ _ h, fun c => have h := h.2.2 c; ⟨h.1, have h := h.2; fun s4 e_s4 => have h := h s4 e_s4; ⟨h.1, have h := h.2; fun s5 e_s5 => have h := h s5 e_s5; ⟨h.1, have h := h.2; fun s6 e_s6 => have h := h s6 e_s6; ⟨h.1, have h := h.2; fun s7 e_s7 => have h := h s7 e_s7; ⟨h.1, have h := h.2; fun s8 e_s8 => have h := h s8 e_s8; hX17 _ _ h⟩⟩⟩⟩⟩⟩
def x2_begin (p1 : Int) (p2 : Int) (s : Mem) (Q : Int → Mem → Prop) : Prop := ∀ (X17 : Int → Mem → Prop), (∀ x3 s, x2_begin_b17 X17 Q x3 s → X17 x3 s) → x2_begin_be X17 Q p1 p2 s
def x2_begin_L17 (Q : Int → Mem → Prop) (x3 : Int) (s : Mem) : Prop := ∀ (X17 : Int → Mem → Prop), (∀ x3 s, x2_begin_b17 X17 Q x3 s → X17 x3 s) → X17 x3 s
theorem x2_begin_i {Q : Int → Mem → Prop} {p1 : Int} {p2 : Int} {s : Mem} (h : x2_begin_be (x2_begin_L17 Q) Q p1 p2 s) : x2_begin p1 p2 s Q := fun X17 k17 => x2_begin_me (fun _ _ h => h X17 k17) (fun _ _ h => h) h
theorem x2_begin_s17 {Q : Int → Mem → Prop} {x3 : Int} {s : Mem} (h : x2_begin_b17 (x2_begin_L17 Q) Q x3 s) : x2_begin_L17 Q x3 s := fun X17 k17 => k17 _ _ (x2_begin_m17 (fun _ _ h => h X17 k17) (fun _ _ h => h) h)
theorem x2_begin_mono {Q R : Int → Mem → Prop} {p1 : Int} {p2 : Int} {s : Mem} (h : x2_begin p1 p2 s Q) (hQ : ∀ r s, Q r s → R r s) : x2_begin p1 p2 s R := fun X17 k17 => x2_begin_me (fun _ _ h => h) hQ (h X17 (fun _ _ h => k17 _ _ (x2_begin_m17 (fun _ _ h => h) hQ h)))
def x2_begin_rm : Room := { frames := 0, cells := 0, slots := 0, locals := 0 }
theorem w_x2_begin_27 : Cond.fieldLink RX2 27 "BoltRing$Joint" "bolts" "I" ∈ wsX2_begin := by decide +kernel
theorem w_x2_begin_31 : Cond.fieldLink RX2 31 "BoltRing$Joint" "rib" "I" ∈ wsX2_begin := by decide +kernel
theorem w_x2_begin_34 : Cond.fieldLink RX2 34 "BoltRing$Joint" "brokenSet" "I" ∈ wsX2_begin := by decide +kernel
theorem w_x2_begin_9 : Cond.fieldLink RX2 9 "BoltRing$Joint" "stiffness" "[I" ∈ wsX2_begin := by decide +kernel
theorem w_x2_begin_15 : Cond.fieldLink RX2 15 "BoltRing$Joint" "pads" "[I" ∈ wsX2_begin := by decide +kernel
theorem w_x2_begin_18 : Cond.fieldLink RX2 18 "BoltRing$Joint" "turns" "[I" ∈ wsX2_begin := by decide +kernel
theorem w_x2_begin_21 : Cond.fieldLink RX2 21 "BoltRing$Joint" "loads" "[I" ∈ wsX2_begin := by decide +kernel
theorem w_x2_begin_24 : Cond.fieldLink RX2 24 "BoltRing$Joint" "order" "[I" ∈ wsX2_begin := by decide +kernel
theorem in_x2_begin_X2 : ∀ w ∈ wsX20, w ∈ wsX2_begin := by decide +kernel
set_option maxHeartbeats 4000000 in
set_option maxRecDepth 100000 in
theorem x2_begin_bd {κ : KT} {ad : Nat → Nat} {cA : Nat → ClassId} {D : va_G} {Q : State → Prop} {p1 : Int} {p2 : Int} {s : Mem} (C : CX κ (GA ad cA D) RX2 cX2_begin 4 wsX2_begin x2_begin_rm none) (h : x2_begin p1 p2 s (RT κ (GA ad cA D) ocV Q)) : WM κ (GA ad cA D) 4 Q s 0 [(0, .ref (ad 1)), (1, vI p1), (2, vI p2)] [] := by
  obtain ⟨Z17, z17⟩ : ∃ Z : Int → Mem → Prop, ∀ x3 s, Z x3 s ↔ WM κ (GA ad cA D) 4 Q s 17 [(0, .ref (ad 1)), (3, vI x3)] [] := ⟨fun x3 s => WM κ (GA ad cA D) 4 Q s 17 [(0, .ref (ad 1)), (3, vI x3)] [], fun _ _ => Iff.rfl⟩
  refine (fun h => ?_) (h Z17 ?_)
  · refine r_aload_n C 0 dX2_begin_0 rfl ?_
    refine r_iload_n C 1 dX2_begin_1 rfl ?_
    refine r_puti (j := 0) (jz := 0) C dX2_begin_2 (shA_1) rfl rfl (by decide) in_x2_begin_X2 tyX2 tyX2_ok nmX2 w_x2_begin_27 rfl rfl (by decide +kernel) rfl (fun s1 e_s1 => ?_)
    have h := h s1 e_s1
    refine r_aload_n C 0 dX2_begin_5 rfl ?_
    refine r_iload_n C 2 dX2_begin_6 rfl ?_
    refine r_puti (j := 1) (jz := 1) C dX2_begin_7 (shA_1) rfl rfl (by decide) in_x2_begin_X2 tyX2 tyX2_ok nmX2 w_x2_begin_31 rfl rfl (by decide +kernel) rfl (fun s2 e_s2 => ?_)
    have h := h s2 e_s2
    refine r_aload_n C 0 dX2_begin_10 rfl ?_
    refine r_iconst C dX2_begin_11 ?_
    refine r_puti (j := 2) (jz := 2) C dX2_begin_12 (shA_1) rfl rfl (by decide) in_x2_begin_X2 tyX2 tyX2_ok nmX2 w_x2_begin_34 rfl rfl (by decide +kernel) rfl (fun s3 e_s3 => ?_)
    have h := h s3 e_s3
    refine r_iconst C dX2_begin_15 ?_
    refine r_istore_n (ls' := [(3, vI (0 : Int)), (0, .ref (ad 1)), (1, vI p1), (2, vI p2)]) C dX2_begin_16 rfl (by decide) rfl ?_
    exact r_perm [1, 0] rfl ((z17 _ _).1 h)
  · intro x3 s h
    refine (z17 _ _).2 ?_
    refine r_iload_n C 1 dX2_begin_17 rfl ?_
    refine r_bipush C dX2_begin_18 (by decide) ?_
    refine r_icmp_ge (tgt := 64) C dX2_begin_20 (by decide) ⟨h.1, fun c9 => ?_, fun c9 => ?_⟩
    · have h := h.2.1 c9
      exact r_return C dX2_begin_64 h
    · have h := h.2.2 c9
      refine r_aload_n C 0 dX2_begin_23 rfl ?_
      refine r_get (j := 3) (jz := 3) (v := .ref (ad 2)) C dX2_begin_24 (shA_1) rfl rfl (by decide) in_x2_begin_X2 w_x2_begin_9 rfl rfl rfl ?_
      refine r_iload_n C 1 dX2_begin_27 rfl ?_
      refine r_iconst C dX2_begin_28 ?_
      refine r_iast (nz := 6) C dX2_begin_29 (shA_2) rfl (by decide) ⟨h.1, fun s4 e_s4 => ?_⟩
      have h := h.2 s4 e_s4
      refine r_aload_n C 0 dX2_begin_30 rfl ?_
      refine r_get (j := 4) (jz := 4) (v := .ref (ad 3)) C dX2_begin_31 (shA_1) rfl rfl (by decide) in_x2_begin_X2 w_x2_begin_15 rfl rfl rfl ?_
      refine r_iload_n C 1 dX2_begin_34 rfl ?_
      refine r_iconst C dX2_begin_35 ?_
      refine r_iast (nz := 6) C dX2_begin_36 (shA_3) rfl (by decide) ⟨h.1, fun s5 e_s5 => ?_⟩
      have h := h.2 s5 e_s5
      refine r_aload_n C 0 dX2_begin_37 rfl ?_
      refine r_get (j := 5) (jz := 5) (v := .ref (ad 4)) C dX2_begin_38 (shA_1) rfl rfl (by decide) in_x2_begin_X2 w_x2_begin_18 rfl rfl rfl ?_
      refine r_iload_n C 1 dX2_begin_41 rfl ?_
      refine r_iconst C dX2_begin_42 ?_
      refine r_iast (nz := 6) C dX2_begin_43 (shA_4) rfl (by decide) ⟨h.1, fun s6 e_s6 => ?_⟩
      have h := h.2 s6 e_s6
      refine r_aload_n C 0 dX2_begin_44 rfl ?_
      refine r_get (j := 6) (jz := 6) (v := .ref (ad 5)) C dX2_begin_45 (shA_1) rfl rfl (by decide) in_x2_begin_X2 w_x2_begin_21 rfl rfl rfl ?_
      refine r_iload_n C 1 dX2_begin_48 rfl ?_
      refine r_iconst C dX2_begin_49 ?_
      refine r_iast (nz := 6) C dX2_begin_50 (shA_5) rfl (by decide) ⟨h.1, fun s7 e_s7 => ?_⟩
      have h := h.2 s7 e_s7
      refine r_aload_n C 0 dX2_begin_51 rfl ?_
      refine r_get (j := 7) (jz := 7) (v := .ref (ad 6)) C dX2_begin_52 (shA_1) rfl rfl (by decide) in_x2_begin_X2 w_x2_begin_24 rfl rfl rfl ?_
      refine r_iload_n C 1 dX2_begin_55 rfl ?_
      refine r_iload_n C 1 dX2_begin_56 rfl ?_
      refine r_iast (nz := 6) C dX2_begin_57 (shA_6) rfl (by decide) ⟨h.1, fun s8 e_s8 => ?_⟩
      have h := h.2 s8 e_s8
      refine r_iinc (j := 1) (ls' := [(3, vI (x3 + (1 : Int))), (0, .ref (ad 1))]) C dX2_begin_58 rfl (by decide) rfl ?_
      refine r_goto (tgt := 17) C dX2_begin_61 (by decide) ?_
      exact r_perm [1, 0] rfl ((z17 _ _).1 h)
theorem x2_begin_ct (l : Launch) (ad : Nat → Nat) (cA : Nat → ClassId) (D : va_G) (p1 : Int) (p2 : Int) (s : Mem) : MG l yX2_begin wsX2_begin x2_begin_rm ocV [.ref (ad 1), vI p1, vI p2] (GA ad cA D) s (x2_begin p1 p2 s) :=
  m_met (own := RX2) (nL := 4) (by decide) rfl rfl (Nat.le_of_ble_eq_true rfl) rfl rfl rfl (fun κ hl C Q Pst hW hQ => x2_begin_bd C (x2_begin_mono hW hQ))

def x2_has (p1 : Int) (s : Mem) (Q : Int → Mem → Prop) : Prop :=
  InI p1 ∧ (p1 < (0 : Int) → ((0 : Int) ≤ (0 : Int) ∧ (0 : Int) ≤ 1) ∧ Q (0 : Int) s) ∧ ((0 : Int) ≤ p1 → (InI p1 ∧ InI (s 1 (0 : Int))) ∧ ((s 1 (0 : Int)) ≤ p1 → ((0 : Int) ≤ (0 : Int) ∧ (0 : Int) ≤ 1) ∧ Q (0 : Int) s) ∧ (p1 < (s 1 (0 : Int)) → ((0 : Int) ≤ (1 : Int) ∧ (1 : Int) ≤ 1) ∧ Q (1 : Int) s))
theorem x2_has_mono {Q R : Int → Mem → Prop} {p1 : Int} {s : Mem} (h : x2_has p1 s Q) (hQ : ∀ r s, Q r s → R r s) : x2_has p1 s R :=
  ⟨h.1, fun c => have h := h.2.1 c; ⟨h.1, hQ _ _ h.2⟩, fun c => have h := h.2.2 c; ⟨h.1, fun c => have h := h.2.1 c; ⟨h.1, hQ _ _ h.2⟩, fun c => have h := h.2.2 c; ⟨h.1, hQ _ _ h.2⟩⟩⟩
def x2_has_rm : Room := { frames := 0, cells := 0, slots := 0, locals := 0 }
theorem w_x2_has_27 : Cond.fieldLink RX2 27 "BoltRing$Joint" "bolts" "I" ∈ wsX2_has := by decide +kernel
theorem in_x2_has_X2 : ∀ w ∈ wsX20, w ∈ wsX2_has := by decide +kernel
set_option maxHeartbeats 4000000 in
set_option maxRecDepth 100000 in
theorem x2_has_bd {κ : KT} {ad : Nat → Nat} {cA : Nat → ClassId} {D : va_G} {Q : State → Prop} {p1 : Int} {s : Mem} (C : CX κ (GA ad cA D) RX2 cX2_has 2 wsX2_has x2_has_rm (some .boolean)) (h : x2_has p1 s (RT κ (GA ad cA D) ocI Q)) : WM κ (GA ad cA D) 2 Q s 0 [(0, .ref (ad 1)), (1, vI p1)] [] := by
  refine r_iload_n C 1 dX2_has_0 rfl ?_
  refine r_if_lt (tgt := 16) C dX2_has_1 (by decide) ⟨h.1, fun c2 => ?_, fun c2 => ?_⟩
  · have h := h.2.1 c2
    refine r_iconst C dX2_has_16 ?_
    exact r_zreturn C dX2_has_17 h
  · have h := h.2.2 c2
    refine r_iload_n C 1 dX2_has_4 rfl ?_
    refine r_aload_n C 0 dX2_has_5 rfl ?_
    refine r_get (j := 0) (jz := 0) (v := vI (s 1 (0 : Int))) C dX2_has_6 (shA_1) rfl rfl (by decide) in_x2_has_X2 w_x2_has_27 rfl rfl rfl ?_
    refine r_icmp_ge (tgt := 16) C dX2_has_9 (by decide) ⟨h.1, fun c1 => ?_, fun c1 => ?_⟩
    · have h := h.2.1 c1
      refine r_iconst C dX2_has_16 ?_
      exact r_zreturn C dX2_has_17 h
    · have h := h.2.2 c1
      refine r_iconst C dX2_has_12 ?_
      refine r_goto (tgt := 17) C dX2_has_13 (by decide) ?_
      exact r_zreturn C dX2_has_17 h
theorem x2_has_ct (l : Launch) (ad : Nat → Nat) (cA : Nat → ClassId) (D : va_G) (p1 : Int) (s : Mem) : MG l yX2_has wsX2_has x2_has_rm ocI [.ref (ad 1), vI p1] (GA ad cA D) s (x2_has p1 s) :=
  m_met (own := RX2) (nL := 2) (by decide) rfl rfl (Nat.le_of_ble_eq_true rfl) rfl rfl rfl (fun κ hl C Q Pst hW hQ => x2_has_bd C (x2_has_mono hW hQ))

def x2_valuesOf (p1 : Int) (s : Mem) (Q : Int → Mem → Prop) : Prop :=
  InI p1 ∧ ((p1 = 0) → Q ((2 : Nat) : Int) s) ∧ ((p1 = 1) → Q ((3 : Nat) : Int) s) ∧ ((p1 = 2) → Q ((4 : Nat) : Int) s) ∧ ((p1 < 0 ∨ 2 < p1) → Q ((5 : Nat) : Int) s)
theorem x2_valuesOf_mono {Q R : Int → Mem → Prop} {p1 : Int} {s : Mem} (h : x2_valuesOf p1 s Q) (hQ : ∀ r s, Q r s → R r s) : x2_valuesOf p1 s R :=
  ⟨h.1, fun c => have h := h.2.1 c; hQ _ _ h, fun c => have h := h.2.2.1 c; hQ _ _ h, fun c => have h := h.2.2.2.1 c; hQ _ _ h, fun c => have h := h.2.2.2.2 c; hQ _ _ h⟩
def x2_valuesOf_rm : Room := { frames := 0, cells := 0, slots := 0, locals := 0 }
theorem w_x2_valuesOf_9 : Cond.fieldLink RX2 9 "BoltRing$Joint" "stiffness" "[I" ∈ wsX2_valuesOf := by decide +kernel
theorem w_x2_valuesOf_15 : Cond.fieldLink RX2 15 "BoltRing$Joint" "pads" "[I" ∈ wsX2_valuesOf := by decide +kernel
theorem w_x2_valuesOf_18 : Cond.fieldLink RX2 18 "BoltRing$Joint" "turns" "[I" ∈ wsX2_valuesOf := by decide +kernel
theorem w_x2_valuesOf_21 : Cond.fieldLink RX2 21 "BoltRing$Joint" "loads" "[I" ∈ wsX2_valuesOf := by decide +kernel
theorem in_x2_valuesOf_X2 : ∀ w ∈ wsX20, w ∈ wsX2_valuesOf := by decide +kernel
set_option maxHeartbeats 4000000 in
set_option maxRecDepth 100000 in
theorem x2_valuesOf_bd {κ : KT} {ad : Nat → Nat} {cA : Nat → ClassId} {D : va_G} {Q : State → Prop} {p1 : Int} {s : Mem} (C : CX κ (GA ad cA D) RX2 cX2_valuesOf 2 wsX2_valuesOf x2_valuesOf_rm (some (.array .int))) (h : x2_valuesOf p1 s (RT κ (GA ad cA D) (ocR ad) Q)) : WM κ (GA ad cA D) 2 Q s 0 [(0, .ref (ad 1)), (1, vI p1)] [] := by
  refine r_iload_n C 1 dX2_valuesOf_0 rfl ?_
  have hI := h.1
  by_cases c1 : p1 = 0
  · have h := h.2.1 c1
    refine r_tsIn (tgt := 28) C 0 dX2_valuesOf_1 rfl (by decide) c1 hI (by decide) ?_
    refine r_aload_n C 0 dX2_valuesOf_28 rfl ?_
    refine r_get (j := 3) (jz := 3) (v := .ref (ad 2)) C dX2_valuesOf_29 (shA_1) rfl rfl (by decide) in_x2_valuesOf_X2 w_x2_valuesOf_9 rfl rfl rfl ?_
    exact r_areturn C dX2_valuesOf_32 (Or.inr ⟨_, rfl⟩) (Int.toNat_natCast _) h
  by_cases c1 : p1 = 1
  · have h := h.2.2.1 c1
    refine r_tsIn (tgt := 33) C 1 dX2_valuesOf_1 rfl (by decide) c1 hI (by decide) ?_
    refine r_aload_n C 0 dX2_valuesOf_33 rfl ?_
    refine r_get (j := 4) (jz := 4) (v := .ref (ad 3)) C dX2_valuesOf_34 (shA_1) rfl rfl (by decide) in_x2_valuesOf_X2 w_x2_valuesOf_15 rfl rfl rfl ?_
    exact r_areturn C dX2_valuesOf_37 (Or.inr ⟨_, rfl⟩) (Int.toNat_natCast _) h
  by_cases c1 : p1 = 2
  · have h := h.2.2.2.1 c1
    refine r_tsIn (tgt := 38) C 2 dX2_valuesOf_1 rfl (by decide) c1 hI (by decide) ?_
    refine r_aload_n C 0 dX2_valuesOf_38 rfl ?_
    refine r_get (j := 5) (jz := 5) (v := .ref (ad 4)) C dX2_valuesOf_39 (shA_1) rfl rfl (by decide) in_x2_valuesOf_X2 w_x2_valuesOf_18 rfl rfl rfl ?_
    exact r_areturn C dX2_valuesOf_42 (Or.inr ⟨_, rfl⟩) (Int.toNat_natCast _) h
  have c1d : p1 < 0 ∨ 2 < p1 := by omega
  have h := h.2.2.2.2 c1d
  refine r_tsOut (tgt := 43) C dX2_valuesOf_1 c1d hI (by decide) ?_
  refine r_aload_n C 0 dX2_valuesOf_43 rfl ?_
  refine r_get (j := 6) (jz := 6) (v := .ref (ad 5)) C dX2_valuesOf_44 (shA_1) rfl rfl (by decide) in_x2_valuesOf_X2 w_x2_valuesOf_21 rfl rfl rfl ?_
  exact r_areturn C dX2_valuesOf_47 (Or.inr ⟨_, rfl⟩) (Int.toNat_natCast _) h
theorem x2_valuesOf_ct (l : Launch) (ad : Nat → Nat) (cA : Nat → ClassId) (D : va_G) (p1 : Int) (s : Mem) : MG l yX2_valuesOf wsX2_valuesOf x2_valuesOf_rm (ocR ad) [.ref (ad 1), vI p1] (GA ad cA D) s (x2_valuesOf p1 s) :=
  m_met (own := RX2) (nL := 2) (by decide) rfl rfl (Nat.le_of_ble_eq_true rfl) rfl rfl rfl (fun κ hl C Q Pst hW hQ => x2_valuesOf_bd C (x2_valuesOf_mono hW hQ))

def x2_isBroken (p1 : Int) (s : Mem) (Q : Int → Mem → Prop) : Prop :=
  InI (andI (shrI (s 1 (2 : Int)) p1) (1 : Int)) ∧ ((andI (shrI (s 1 (2 : Int)) p1) (1 : Int)) = (0 : Int) → ((0 : Int) ≤ (0 : Int) ∧ (0 : Int) ≤ 1) ∧ Q (0 : Int) s) ∧ (¬ (andI (shrI (s 1 (2 : Int)) p1) (1 : Int)) = (0 : Int) → ((0 : Int) ≤ (1 : Int) ∧ (1 : Int) ≤ 1) ∧ Q (1 : Int) s)
theorem x2_isBroken_mono {Q R : Int → Mem → Prop} {p1 : Int} {s : Mem} (h : x2_isBroken p1 s Q) (hQ : ∀ r s, Q r s → R r s) : x2_isBroken p1 s R :=
  ⟨h.1, fun c => have h := h.2.1 c; ⟨h.1, hQ _ _ h.2⟩, fun c => have h := h.2.2 c; ⟨h.1, hQ _ _ h.2⟩⟩
def x2_isBroken_rm : Room := { frames := 0, cells := 0, slots := 0, locals := 0 }
theorem w_x2_isBroken_34 : Cond.fieldLink RX2 34 "BoltRing$Joint" "brokenSet" "I" ∈ wsX2_isBroken := by decide +kernel
theorem in_x2_isBroken_X2 : ∀ w ∈ wsX20, w ∈ wsX2_isBroken := by decide +kernel
set_option maxHeartbeats 4000000 in
set_option maxRecDepth 100000 in
theorem x2_isBroken_bd {κ : KT} {ad : Nat → Nat} {cA : Nat → ClassId} {D : va_G} {Q : State → Prop} {p1 : Int} {s : Mem} (C : CX κ (GA ad cA D) RX2 cX2_isBroken 2 wsX2_isBroken x2_isBroken_rm (some .boolean)) (h : x2_isBroken p1 s (RT κ (GA ad cA D) ocI Q)) : WM κ (GA ad cA D) 2 Q s 0 [(0, .ref (ad 1)), (1, vI p1)] [] := by
  refine r_aload_n C 0 dX2_isBroken_0 rfl ?_
  refine r_get (j := 2) (jz := 2) (v := vI (s 1 (2 : Int))) C dX2_isBroken_1 (shA_1) rfl rfl (by decide) in_x2_isBroken_X2 w_x2_isBroken_34 rfl rfl rfl ?_
  refine r_iload_n C 1 dX2_isBroken_4 rfl ?_
  refine r_ishr C dX2_isBroken_5 ?_
  refine r_iconst C dX2_isBroken_6 ?_
  refine r_iand C dX2_isBroken_7 ?_
  refine r_if_eq (tgt := 15) C dX2_isBroken_8 (by decide) ⟨h.1, fun c1 => ?_, fun c1 => ?_⟩
  · have h := h.2.1 c1
    refine r_iconst C dX2_isBroken_15 ?_
    exact r_zreturn C dX2_isBroken_16 h
  · have h := h.2.2 c1
    refine r_iconst C dX2_isBroken_11 ?_
    refine r_goto (tgt := 16) C dX2_isBroken_12 (by decide) ?_
    exact r_zreturn C dX2_isBroken_16 h
theorem x2_isBroken_ct (l : Launch) (ad : Nat → Nat) (cA : Nat → ClassId) (D : va_G) (p1 : Int) (s : Mem) : MG l yX2_isBroken wsX2_isBroken x2_isBroken_rm ocI [.ref (ad 1), vI p1] (GA ad cA D) s (x2_isBroken p1 s) :=
  m_met (own := RX2) (nL := 2) (by decide) rfl rfl (Nat.le_of_ble_eq_true rfl) rfl rfl rfl (fun κ hl C Q Pst hW hQ => x2_isBroken_bd C (x2_isBroken_mono hW hQ))

def j6_bitCount_0f7a4 (p0 : Int) (s : Mem) (Q : Int → Mem → Prop) : Prop :=
  ∀ v1 : Int, v1 = (p0 - (andI (ushrI p0 (1 : Int)) (1431655765 : Int))) → ∀ v2 : Int, v2 = ((andI v1 (858993459 : Int)) + (andI (ushrI v1 (2 : Int)) (858993459 : Int))) → ∀ v3 : Int, v3 = (andI (v2 + (ushrI v2 (4 : Int))) (252645135 : Int)) → ∀ v4 : Int, v4 = (v3 + (ushrI v3 (8 : Int))) → ∀ v5 : Int, v5 = (v4 + (ushrI v4 (16 : Int))) → Q (andI v5 (63 : Int)) s
theorem j6_bitCount_0f7a4_mono {Q R : Int → Mem → Prop} {p0 : Int} {s : Mem} (h : j6_bitCount_0f7a4 p0 s Q) (hQ : ∀ r s, Q r s → R r s) : j6_bitCount_0f7a4 p0 s R :=
  fun v1 e_v1 => have h := h v1 e_v1; fun v2 e_v2 => have h := h v2 e_v2; fun v3 e_v3 => have h := h v3 e_v3; fun v4 e_v4 => have h := h v4 e_v4; fun v5 e_v5 => have h := h v5 e_v5; hQ _ _ h
def j6_bitCount_0f7a4_rm : Room := { frames := 0, cells := 0, slots := 0, locals := 0 }
theorem w_j6_bitCount_0f7a4_265 : Cond.constant RJ6 265 (1431655765) ∈ wsJ6_bitCount_0f7a4 := by decide +kernel
theorem w_j6_bitCount_0f7a4_266 : Cond.constant RJ6 266 (858993459) ∈ wsJ6_bitCount_0f7a4 := by decide +kernel
theorem w_j6_bitCount_0f7a4_267 : Cond.constant RJ6 267 (252645135) ∈ wsJ6_bitCount_0f7a4 := by decide +kernel
set_option maxHeartbeats 4000000 in
set_option maxRecDepth 100000 in
theorem j6_bitCount_0f7a4_bd {κ : KT} {ad : Nat → Nat} {cA : Nat → ClassId} {D : va_G} {Q : State → Prop} {p0 : Int} {s : Mem} (C : CX κ (GA ad cA D) RJ6 cJ6_bitCount_0f7a4 1 wsJ6_bitCount_0f7a4 j6_bitCount_0f7a4_rm (some .int)) (h : j6_bitCount_0f7a4 p0 s (RT κ (GA ad cA D) ocI Q)) : WM κ (GA ad cA D) 1 Q s 0 [(0, vI p0)] [] := by
  refine r_iload_n C 0 dJ6_bitCount_0f7a4_0 rfl ?_
  refine r_iload_n C 0 dJ6_bitCount_0f7a4_1 rfl ?_
  refine r_iconst C dJ6_bitCount_0f7a4_2 ?_
  refine r_iushr C dJ6_bitCount_0f7a4_3 ?_
  refine r_ldcw (z := 1431655765) C dJ6_bitCount_0f7a4_4 w_j6_bitCount_0f7a4_265 rfl ?_
  refine r_iand C dJ6_bitCount_0f7a4_7 ?_
  refine r_isub C dJ6_bitCount_0f7a4_8 ?_
  refine r_topI (fun v1 e_v1 => ?_)
  have h := h v1 e_v1
  refine r_istore_n (ls' := [(0, vI v1)]) C dJ6_bitCount_0f7a4_9 rfl (by decide) rfl ?_
  refine r_iload_n C 0 dJ6_bitCount_0f7a4_10 rfl ?_
  refine r_ldcw (z := 858993459) C dJ6_bitCount_0f7a4_11 w_j6_bitCount_0f7a4_266 rfl ?_
  refine r_iand C dJ6_bitCount_0f7a4_14 ?_
  refine r_iload_n C 0 dJ6_bitCount_0f7a4_15 rfl ?_
  refine r_iconst C dJ6_bitCount_0f7a4_16 ?_
  refine r_iushr C dJ6_bitCount_0f7a4_17 ?_
  refine r_ldcw (z := 858993459) C dJ6_bitCount_0f7a4_18 w_j6_bitCount_0f7a4_266 rfl ?_
  refine r_iand C dJ6_bitCount_0f7a4_21 ?_
  refine r_iadd C dJ6_bitCount_0f7a4_22 ?_
  refine r_topI (fun v2 e_v2 => ?_)
  have h := h v2 e_v2
  refine r_istore_n (ls' := [(0, vI v2)]) C dJ6_bitCount_0f7a4_23 rfl (by decide) rfl ?_
  refine r_iload_n C 0 dJ6_bitCount_0f7a4_24 rfl ?_
  refine r_iload_n C 0 dJ6_bitCount_0f7a4_25 rfl ?_
  refine r_iconst C dJ6_bitCount_0f7a4_26 ?_
  refine r_iushr C dJ6_bitCount_0f7a4_27 ?_
  refine r_iadd C dJ6_bitCount_0f7a4_28 ?_
  refine r_ldcw (z := 252645135) C dJ6_bitCount_0f7a4_29 w_j6_bitCount_0f7a4_267 rfl ?_
  refine r_iand C dJ6_bitCount_0f7a4_32 ?_
  refine r_topI (fun v3 e_v3 => ?_)
  have h := h v3 e_v3
  refine r_istore_n (ls' := [(0, vI v3)]) C dJ6_bitCount_0f7a4_33 rfl (by decide) rfl ?_
  refine r_iload_n C 0 dJ6_bitCount_0f7a4_34 rfl ?_
  refine r_iload_n C 0 dJ6_bitCount_0f7a4_35 rfl ?_
  refine r_bipush C dJ6_bitCount_0f7a4_36 (by decide) ?_
  refine r_iushr C dJ6_bitCount_0f7a4_38 ?_
  refine r_iadd C dJ6_bitCount_0f7a4_39 ?_
  refine r_topI (fun v4 e_v4 => ?_)
  have h := h v4 e_v4
  refine r_istore_n (ls' := [(0, vI v4)]) C dJ6_bitCount_0f7a4_40 rfl (by decide) rfl ?_
  refine r_iload_n C 0 dJ6_bitCount_0f7a4_41 rfl ?_
  refine r_iload_n C 0 dJ6_bitCount_0f7a4_42 rfl ?_
  refine r_bipush C dJ6_bitCount_0f7a4_43 (by decide) ?_
  refine r_iushr C dJ6_bitCount_0f7a4_45 ?_
  refine r_iadd C dJ6_bitCount_0f7a4_46 ?_
  refine r_topI (fun v5 e_v5 => ?_)
  have h := h v5 e_v5
  refine r_istore_n (ls' := [(0, vI v5)]) C dJ6_bitCount_0f7a4_47 rfl (by decide) rfl ?_
  refine r_iload_n C 0 dJ6_bitCount_0f7a4_48 rfl ?_
  refine r_bipush C dJ6_bitCount_0f7a4_49 (by decide) ?_
  refine r_iand C dJ6_bitCount_0f7a4_51 ?_
  exact r_ireturn C dJ6_bitCount_0f7a4_52 h
theorem j6_bitCount_0f7a4_ct (l : Launch) (ad : Nat → Nat) (cA : Nat → ClassId) (D : va_G) (p0 : Int) (s : Mem) : MG l yJ6_bitCount_0f7a4 wsJ6_bitCount_0f7a4 j6_bitCount_0f7a4_rm ocI [vI p0] (GA ad cA D) s (j6_bitCount_0f7a4 p0 s) :=
  m_met (own := RJ6) (nL := 1) (by decide) rfl rfl (Nat.le_of_ble_eq_true rfl) rfl rfl rfl (fun κ hl C Q Pst hW hQ => j6_bitCount_0f7a4_bd C (j6_bitCount_0f7a4_mono hW hQ))

def x2_wholeCount  (s : Mem) (Q : Int → Mem → Prop) : Prop :=
  j6_bitCount_0f7a4 (s 1 (2 : Int)) s (fun r2 s1 => Q ((s 1 (0 : Int)) - r2) s1)
theorem x2_wholeCount_mono {Q R : Int → Mem → Prop}  {s : Mem} (h : x2_wholeCount  s Q) (hQ : ∀ r s, Q r s → R r s) : x2_wholeCount  s R :=
  j6_bitCount_0f7a4_mono h (fun r2 s1 h => hQ _ _ h)
def x2_wholeCount_rm : Room := { frames := 1, cells := 0, slots := 0, locals := 20 }
theorem w_x2_wholeCount_27 : Cond.fieldLink RX2 27 "BoltRing$Joint" "bolts" "I" ∈ wsX2_wholeCount := by decide +kernel
theorem w_x2_wholeCount_34 : Cond.fieldLink RX2 34 "BoltRing$Joint" "brokenSet" "I" ∈ wsX2_wholeCount := by decide +kernel
theorem in_x2_wholeCount_X2 : ∀ w ∈ wsX20, w ∈ wsX2_wholeCount := by decide +kernel
set_option maxHeartbeats 4000000 in
set_option maxRecDepth 100000 in
theorem x2_wholeCount_bd {κ : KT} {ad : Nat → Nat} {cA : Nat → ClassId} {D : va_G} {Q : State → Prop}  {s : Mem} (C : CX κ (GA ad cA D) RX2 cX2_wholeCount 1 wsX2_wholeCount x2_wholeCount_rm (some .int)) (h : x2_wholeCount  s (RT κ (GA ad cA D) ocI Q)) : WM κ (GA ad cA D) 1 Q s 0 [(0, .ref (ad 1))] [] := by
  refine r_aload_n C 0 dX2_wholeCount_0 rfl ?_
  refine r_get (j := 0) (jz := 0) (v := vI (s 1 (0 : Int))) C dX2_wholeCount_1 (shA_1) rfl rfl (by decide) in_x2_wholeCount_X2 w_x2_wholeCount_27 rfl rfl rfl ?_
  refine r_aload_n C 0 dX2_wholeCount_4 rfl ?_
  refine r_get (j := 2) (jz := 2) (v := vI (s 1 (2 : Int))) C dX2_wholeCount_5 (shA_1) rfl rfl (by decide) in_x2_wholeCount_X2 w_x2_wholeCount_34 rfl rfl rfl ?_
  refine r_callS (As := [vI (s 1 (2 : Int))]) (n := 1) C dX2_wholeCount_8 (j6_bitCount_0f7a4_ct κ.1.2.1 ad cA D (s 1 (2 : Int)) s) gX2_wholeCount_J6_bitCount_0f7a4 rfl ⟨rfl, rfl⟩ (by decide +kernel) (by decide) rfl rfl (Nat.le_of_ble_eq_true rfl) (fun _ => rfl) ?_
  refine j6_bitCount_0f7a4_mono h (fun r2 s1 h => ?_)
  refine r_isub C dX2_wholeCount_11 ?_
  exact r_ireturn C dX2_wholeCount_12 h
theorem x2_wholeCount_ct (l : Launch) (ad : Nat → Nat) (cA : Nat → ClassId) (D : va_G)  (s : Mem) : MG l yX2_wholeCount wsX2_wholeCount x2_wholeCount_rm ocI [.ref (ad 1)] (GA ad cA D) s (x2_wholeCount  s) :=
  m_met (own := RX2) (nL := 1) (by decide) rfl rfl (Nat.le_of_ble_eq_true rfl) rfl rfl rfl (fun κ hl C Q Pst hW hQ => x2_wholeCount_bd C (x2_wholeCount_mono hW hQ))

def x2_markBroken (p1 : Int) (p2 : Int) (s : Mem) (Q : Int → Mem → Prop) : Prop :=
  InI p2 ∧ (p2 = (0 : Int) → ∀ s1 : Mem, s1 = m_upd s 1 (2 : Int) (andI (s 1 (2 : Int)) (xorI (shlI (1 : Int) p1) (-1 : Int))) → Q (0 : Int) s1) ∧ (¬ p2 = (0 : Int) → ∀ s2 : Mem, s2 = m_upd s 1 (2 : Int) (orI (s 1 (2 : Int)) (shlI (1 : Int) p1)) → Q (0 : Int) s2)
theorem x2_markBroken_mono {Q R : Int → Mem → Prop} {p1 : Int} {p2 : Int} {s : Mem} (h : x2_markBroken p1 p2 s Q) (hQ : ∀ r s, Q r s → R r s) : x2_markBroken p1 p2 s R :=
  ⟨h.1, fun c => have h := h.2.1 c; fun s1 e_s1 => have h := h s1 e_s1; hQ _ _ h, fun c => have h := h.2.2 c; fun s2 e_s2 => have h := h s2 e_s2; hQ _ _ h⟩
def x2_markBroken_rm : Room := { frames := 0, cells := 0, slots := 0, locals := 0 }
theorem w_x2_markBroken_34 : Cond.fieldLink RX2 34 "BoltRing$Joint" "brokenSet" "I" ∈ wsX2_markBroken := by decide +kernel
theorem in_x2_markBroken_X2 : ∀ w ∈ wsX20, w ∈ wsX2_markBroken := by decide +kernel
set_option maxHeartbeats 4000000 in
set_option maxRecDepth 100000 in
theorem x2_markBroken_bd {κ : KT} {ad : Nat → Nat} {cA : Nat → ClassId} {D : va_G} {Q : State → Prop} {p1 : Int} {p2 : Int} {s : Mem} (C : CX κ (GA ad cA D) RX2 cX2_markBroken 3 wsX2_markBroken x2_markBroken_rm none) (h : x2_markBroken p1 p2 s (RT κ (GA ad cA D) ocV Q)) : WM κ (GA ad cA D) 3 Q s 0 [(0, .ref (ad 1)), (1, vI p1), (2, vI p2)] [] := by
  refine r_aload_n C 0 dX2_markBroken_0 rfl ?_
  refine r_iload_n C 2 dX2_markBroken_1 rfl ?_
  refine r_if_eq (tgt := 16) C dX2_markBroken_2 (by decide) ⟨h.1, fun c3 => ?_, fun c3 => ?_⟩
  · have h := h.2.1 c3
    refine r_aload_n C 0 dX2_markBroken_16 rfl ?_
    refine r_get (j := 2) (jz := 2) (v := vI (s 1 (2 : Int))) C dX2_markBroken_17 (shA_1) rfl rfl (by decide) in_x2_markBroken_X2 w_x2_markBroken_34 rfl rfl rfl ?_
    refine r_iconst C dX2_markBroken_20 ?_
    refine r_iload_n C 1 dX2_markBroken_21 rfl ?_
    refine r_ishl C dX2_markBroken_22 ?_
    refine r_iconst C dX2_markBroken_23 ?_
    refine r_ixor C dX2_markBroken_24 ?_
    refine r_iand C dX2_markBroken_25 ?_
    refine r_puti (j := 2) (jz := 2) C dX2_markBroken_26 (shA_1) rfl rfl (by decide) in_x2_markBroken_X2 tyX2 tyX2_ok nmX2 w_x2_markBroken_34 rfl rfl (by decide +kernel) rfl (fun s1 e_s1 => ?_)
    have h := h s1 e_s1
    exact r_return C dX2_markBroken_29 h
  · have h := h.2.2 c3
    refine r_aload_n C 0 dX2_markBroken_5 rfl ?_
    refine r_get (j := 2) (jz := 2) (v := vI (s 1 (2 : Int))) C dX2_markBroken_6 (shA_1) rfl rfl (by decide) in_x2_markBroken_X2 w_x2_markBroken_34 rfl rfl rfl ?_
    refine r_iconst C dX2_markBroken_9 ?_
    refine r_iload_n C 1 dX2_markBroken_10 rfl ?_
    refine r_ishl C dX2_markBroken_11 ?_
    refine r_ior C dX2_markBroken_12 ?_
    refine r_goto (tgt := 26) C dX2_markBroken_13 (by decide) ?_
    refine r_puti (j := 2) (jz := 2) C dX2_markBroken_26 (shA_1) rfl rfl (by decide) in_x2_markBroken_X2 tyX2 tyX2_ok nmX2 w_x2_markBroken_34 rfl rfl (by decide +kernel) rfl (fun s2 e_s2 => ?_)
    have h := h s2 e_s2
    exact r_return C dX2_markBroken_29 h
theorem x2_markBroken_ct (l : Launch) (ad : Nat → Nat) (cA : Nat → ClassId) (D : va_G) (p1 : Int) (p2 : Int) (s : Mem) : MG l yX2_markBroken wsX2_markBroken x2_markBroken_rm ocV [.ref (ad 1), vI p1, vI p2] (GA ad cA D) s (x2_markBroken p1 p2 s) :=
  m_met (own := RX2) (nL := 3) (by decide) rfl rfl (Nat.le_of_ble_eq_true rfl) rfl rfl rfl (fun κ hl C Q Pst hW hQ => x2_markBroken_bd C (x2_markBroken_mono hW hQ))

def x2_allSet  (s : Mem) (Q : Int → Mem → Prop) : Prop :=
  Q ((shlI (1 : Int) (s 1 (0 : Int))) - (1 : Int)) s
theorem x2_allSet_mono {Q R : Int → Mem → Prop}  {s : Mem} (h : x2_allSet  s Q) (hQ : ∀ r s, Q r s → R r s) : x2_allSet  s R :=
  hQ _ _ h
def x2_allSet_rm : Room := { frames := 0, cells := 0, slots := 0, locals := 0 }
theorem w_x2_allSet_27 : Cond.fieldLink RX2 27 "BoltRing$Joint" "bolts" "I" ∈ wsX2_allSet := by decide +kernel
theorem in_x2_allSet_X2 : ∀ w ∈ wsX20, w ∈ wsX2_allSet := by decide +kernel
set_option maxHeartbeats 4000000 in
set_option maxRecDepth 100000 in
theorem x2_allSet_bd {κ : KT} {ad : Nat → Nat} {cA : Nat → ClassId} {D : va_G} {Q : State → Prop}  {s : Mem} (C : CX κ (GA ad cA D) RX2 cX2_allSet 1 wsX2_allSet x2_allSet_rm (some .int)) (h : x2_allSet  s (RT κ (GA ad cA D) ocI Q)) : WM κ (GA ad cA D) 1 Q s 0 [(0, .ref (ad 1))] [] := by
  refine r_iconst C dX2_allSet_0 ?_
  refine r_aload_n C 0 dX2_allSet_1 rfl ?_
  refine r_get (j := 0) (jz := 0) (v := vI (s 1 (0 : Int))) C dX2_allSet_2 (shA_1) rfl rfl (by decide) in_x2_allSet_X2 w_x2_allSet_27 rfl rfl rfl ?_
  refine r_ishl C dX2_allSet_5 ?_
  refine r_iconst C dX2_allSet_6 ?_
  refine r_isub C dX2_allSet_7 ?_
  exact r_ireturn C dX2_allSet_8 h
theorem x2_allSet_ct (l : Launch) (ad : Nat → Nat) (cA : Nat → ClassId) (D : va_G)  (s : Mem) : MG l yX2_allSet wsX2_allSet x2_allSet_rm ocI [.ref (ad 1)] (GA ad cA D) s (x2_allSet  s) :=
  m_met (own := RX2) (nL := 1) (by decide) rfl rfl (Nat.le_of_ble_eq_true rfl) rfl rfl rfl (fun κ hl C Q Pst hW hQ => x2_allSet_bd C (x2_allSet_mono hW hQ))

def x2_placeInRow_be (X2 : Int → Int → Mem → Prop) (Q : Int → Mem → Prop) (p1 : Int) (s : Mem) : Prop :=
  X2 p1 (0 : Int) s
def x2_placeInRow_b2 (X2 : Int → Int → Mem → Prop) (Q : Int → Mem → Prop) (x1 : Int) (x2 : Int) (s : Mem) : Prop :=
  (InI x2 ∧ InI ((s 1 (0 : Int)) - (1 : Int))) ∧ (((s 1 (0 : Int)) - (1 : Int)) ≤ x2 → Q x2 s) ∧ (x2 < ((s 1 (0 : Int)) - (1 : Int)) → ((0 : Int) ≤ x2 ∧ x2 < 6) ∧ (InI (s 6 x2) ∧ InI x1) ∧ ((s 6 x2) = x1 → Q x2 s) ∧ (¬ (s 6 x2) = x1 → X2 x1 (x2 + (1 : Int)) s))
theorem x2_placeInRow_me {X2 Y2 : Int → Int → Mem → Prop} {Q R : Int → Mem → Prop} (hX2 : ∀ x1 x2 s, X2 x1 x2 s → Y2 x1 x2 s) (hQ : ∀ r s, Q r s → R r s) {p1 : Int} {s : Mem} (h : x2_placeInRow_be X2 Q p1 s) : x2_placeInRow_be Y2 R p1 s :=
  hX2 _ _ _ h
theorem x2_placeInRow_m2 {X2 Y2 : Int → Int → Mem → Prop} {Q R : Int → Mem → Prop} (hX2 : ∀ x1 x2 s, X2 x1 x2 s → Y2 x1 x2 s) (hQ : ∀ r s, Q r s → R r s) {x1 : Int} {x2 : Int} {s : Mem} (h : x2_placeInRow_b2 X2 Q x1 x2 s) : x2_placeInRow_b2 Y2 R x1 x2 s :=
  ⟨h.1, fun c => have h := h.2.1 c; hQ _ _ h, fun c => have h := h.2.2 c; ⟨h.1, have h := h.2; ⟨h.1, fun c => have h := h.2.1 c; hQ _ _ h, fun c => have h := h.2.2 c; hX2 _ _ _ h⟩⟩⟩
def x2_placeInRow (p1 : Int) (s : Mem) (Q : Int → Mem → Prop) : Prop := ∀ (X2 : Int → Int → Mem → Prop), (∀ x1 x2 s, x2_placeInRow_b2 X2 Q x1 x2 s → X2 x1 x2 s) → x2_placeInRow_be X2 Q p1 s
def x2_placeInRow_L2 (Q : Int → Mem → Prop) (x1 : Int) (x2 : Int) (s : Mem) : Prop := ∀ (X2 : Int → Int → Mem → Prop), (∀ x1 x2 s, x2_placeInRow_b2 X2 Q x1 x2 s → X2 x1 x2 s) → X2 x1 x2 s
theorem x2_placeInRow_i {Q : Int → Mem → Prop} {p1 : Int} {s : Mem} (h : x2_placeInRow_be (x2_placeInRow_L2 Q) Q p1 s) : x2_placeInRow p1 s Q := fun X2 k2 => x2_placeInRow_me (fun _ _ _ h => h X2 k2) (fun _ _ h => h) h
theorem x2_placeInRow_s2 {Q : Int → Mem → Prop} {x1 : Int} {x2 : Int} {s : Mem} (h : x2_placeInRow_b2 (x2_placeInRow_L2 Q) Q x1 x2 s) : x2_placeInRow_L2 Q x1 x2 s := fun X2 k2 => k2 _ _ _ (x2_placeInRow_m2 (fun _ _ _ h => h X2 k2) (fun _ _ h => h) h)
theorem x2_placeInRow_mono {Q R : Int → Mem → Prop} {p1 : Int} {s : Mem} (h : x2_placeInRow p1 s Q) (hQ : ∀ r s, Q r s → R r s) : x2_placeInRow p1 s R := fun X2 k2 => x2_placeInRow_me (fun _ _ _ h => h) hQ (h X2 (fun _ _ _ h => k2 _ _ _ (x2_placeInRow_m2 (fun _ _ _ h => h) hQ h)))
def x2_placeInRow_rm : Room := { frames := 0, cells := 0, slots := 0, locals := 0 }
theorem w_x2_placeInRow_27 : Cond.fieldLink RX2 27 "BoltRing$Joint" "bolts" "I" ∈ wsX2_placeInRow := by decide +kernel
theorem w_x2_placeInRow_24 : Cond.fieldLink RX2 24 "BoltRing$Joint" "order" "[I" ∈ wsX2_placeInRow := by decide +kernel
theorem in_x2_placeInRow_X2 : ∀ w ∈ wsX20, w ∈ wsX2_placeInRow := by decide +kernel
set_option maxHeartbeats 4000000 in
set_option maxRecDepth 100000 in
theorem x2_placeInRow_bd {κ : KT} {ad : Nat → Nat} {cA : Nat → ClassId} {D : va_G} {Q : State → Prop} {p1 : Int} {s : Mem} (C : CX κ (GA ad cA D) RX2 cX2_placeInRow 3 wsX2_placeInRow x2_placeInRow_rm (some .int)) (h : x2_placeInRow p1 s (RT κ (GA ad cA D) ocI Q)) : WM κ (GA ad cA D) 3 Q s 0 [(0, .ref (ad 1)), (1, vI p1)] [] := by
  obtain ⟨Z2, z2⟩ : ∃ Z : Int → Int → Mem → Prop, ∀ x1 x2 s, Z x1 x2 s ↔ WM κ (GA ad cA D) 3 Q s 2 [(0, .ref (ad 1)), (1, vI x1), (2, vI x2)] [] := ⟨fun x1 x2 s => WM κ (GA ad cA D) 3 Q s 2 [(0, .ref (ad 1)), (1, vI x1), (2, vI x2)] [], fun _ _ _ => Iff.rfl⟩
  refine (fun h => ?_) (h Z2 ?_)
  · refine r_iconst C dX2_placeInRow_0 ?_
    refine r_istore_n (ls' := [(2, vI (0 : Int)), (0, .ref (ad 1)), (1, vI p1)]) C dX2_placeInRow_1 rfl (by decide) rfl ?_
    exact r_perm [1, 2, 0] rfl ((z2 _ _ _).1 h)
  · intro x1 x2 s h
    refine (z2 _ _ _).2 ?_
    refine r_iload_n C 2 dX2_placeInRow_2 rfl ?_
    refine r_aload_n C 0 dX2_placeInRow_3 rfl ?_
    refine r_get (j := 0) (jz := 0) (v := vI (s 1 (0 : Int))) C dX2_placeInRow_4 (shA_1) rfl rfl (by decide) in_x2_placeInRow_X2 w_x2_placeInRow_27 rfl rfl rfl ?_
    refine r_iconst C dX2_placeInRow_7 ?_
    refine r_isub C dX2_placeInRow_8 ?_
    refine r_icmp_ge (tgt := 28) C dX2_placeInRow_9 (by decide) ⟨h.1, fun c2 => ?_, fun c2 => ?_⟩
    · have h := h.2.1 c2
      refine r_iload_n C 2 dX2_placeInRow_28 rfl ?_
      exact r_ireturn C dX2_placeInRow_29 h
    · have h := h.2.2 c2
      refine r_aload_n C 0 dX2_placeInRow_12 rfl ?_
      refine r_get (j := 7) (jz := 7) (v := .ref (ad 6)) C dX2_placeInRow_13 (shA_1) rfl rfl (by decide) in_x2_placeInRow_X2 w_x2_placeInRow_24 rfl rfl rfl ?_
      refine r_iload_n C 2 dX2_placeInRow_16 rfl ?_
      refine r_iald (nz := 6) C dX2_placeInRow_17 (shA_6) rfl (by decide) ⟨h.1, ?_⟩
      have h := h.2
      refine r_iload_n C 1 dX2_placeInRow_18 rfl ?_
      refine r_icmp_eq (tgt := 28) C dX2_placeInRow_19 (by decide) ⟨h.1, fun c1 => ?_, fun c1 => ?_⟩
      · have h := h.2.1 c1
        refine r_iload_n C 2 dX2_placeInRow_28 rfl ?_
        exact r_ireturn C dX2_placeInRow_29 h
      · have h := h.2.2 c1
        refine r_iinc (j := 2) (ls' := [(2, vI (x2 + (1 : Int))), (0, .ref (ad 1)), (1, vI x1)]) C dX2_placeInRow_22 rfl (by decide) rfl ?_
        refine r_goto (tgt := 2) C dX2_placeInRow_25 (by decide) ?_
        exact r_perm [1, 2, 0] rfl ((z2 _ _ _).1 h)
theorem x2_placeInRow_ct (l : Launch) (ad : Nat → Nat) (cA : Nat → ClassId) (D : va_G) (p1 : Int) (s : Mem) : MG l yX2_placeInRow wsX2_placeInRow x2_placeInRow_rm ocI [.ref (ad 1), vI p1] (GA ad cA D) s (x2_placeInRow p1 s) :=
  m_met (own := RX2) (nL := 3) (by decide) rfl rfl (Nat.le_of_ble_eq_true rfl) rfl rfl rfl (fun κ hl C Q Pst hW hQ => x2_placeInRow_bd C (x2_placeInRow_mono hW hQ))

def x2_sumOf_be (X4 : Nat → Int → Int → Mem → Prop) (Q : Int → Mem → Prop) (p1 : Nat) (s : Mem) : Prop :=
  X4 p1 (0 : Int) (0 : Int) s
def x2_sumOf_b4 (X4 : Nat → Int → Int → Mem → Prop) (Q : Int → Mem → Prop) (x1 : Nat) (x2 : Int) (x3 : Int) (s : Mem) : Prop :=
  (InI x3 ∧ InI (s 1 (0 : Int))) ∧ ((s 1 (0 : Int)) ≤ x3 → Q x2 s) ∧ (x3 < (s 1 (0 : Int)) → (shA[x1]? = some (.inr (0, 6))) ∧ ((0 : Int) ≤ x3 ∧ x3 < 6) ∧ X4 x1 (x2 + (s x1 x3)) (x3 + (1 : Int)) s)
theorem x2_sumOf_me {X4 Y4 : Nat → Int → Int → Mem → Prop} {Q R : Int → Mem → Prop} (hX4 : ∀ x1 x2 x3 s, X4 x1 x2 x3 s → Y4 x1 x2 x3 s) (hQ : ∀ r s, Q r s → R r s) {p1 : Nat} {s : Mem} (h : x2_sumOf_be X4 Q p1 s) : x2_sumOf_be Y4 R p1 s :=
  hX4 _ _ _ _ h
theorem x2_sumOf_m4 {X4 Y4 : Nat → Int → Int → Mem → Prop} {Q R : Int → Mem → Prop} (hX4 : ∀ x1 x2 x3 s, X4 x1 x2 x3 s → Y4 x1 x2 x3 s) (hQ : ∀ r s, Q r s → R r s) {x1 : Nat} {x2 : Int} {x3 : Int} {s : Mem} (h : x2_sumOf_b4 X4 Q x1 x2 x3 s) : x2_sumOf_b4 Y4 R x1 x2 x3 s :=
  ⟨h.1, fun c => have h := h.2.1 c; hQ _ _ h, fun c => have h := h.2.2 c; ⟨h.1, have h := h.2; ⟨h.1, have h := h.2; hX4 _ _ _ _ h⟩⟩⟩
def x2_sumOf (p1 : Nat) (s : Mem) (Q : Int → Mem → Prop) : Prop := ∀ (X4 : Nat → Int → Int → Mem → Prop), (∀ x1 x2 x3 s, x2_sumOf_b4 X4 Q x1 x2 x3 s → X4 x1 x2 x3 s) → x2_sumOf_be X4 Q p1 s
def x2_sumOf_L4 (Q : Int → Mem → Prop) (x1 : Nat) (x2 : Int) (x3 : Int) (s : Mem) : Prop := ∀ (X4 : Nat → Int → Int → Mem → Prop), (∀ x1 x2 x3 s, x2_sumOf_b4 X4 Q x1 x2 x3 s → X4 x1 x2 x3 s) → X4 x1 x2 x3 s
theorem x2_sumOf_i {Q : Int → Mem → Prop} {p1 : Nat} {s : Mem} (h : x2_sumOf_be (x2_sumOf_L4 Q) Q p1 s) : x2_sumOf p1 s Q := fun X4 k4 => x2_sumOf_me (fun _ _ _ _ h => h X4 k4) (fun _ _ h => h) h
theorem x2_sumOf_s4 {Q : Int → Mem → Prop} {x1 : Nat} {x2 : Int} {x3 : Int} {s : Mem} (h : x2_sumOf_b4 (x2_sumOf_L4 Q) Q x1 x2 x3 s) : x2_sumOf_L4 Q x1 x2 x3 s := fun X4 k4 => k4 _ _ _ _ (x2_sumOf_m4 (fun _ _ _ _ h => h X4 k4) (fun _ _ h => h) h)
theorem x2_sumOf_mono {Q R : Int → Mem → Prop} {p1 : Nat} {s : Mem} (h : x2_sumOf p1 s Q) (hQ : ∀ r s, Q r s → R r s) : x2_sumOf p1 s R := fun X4 k4 => x2_sumOf_me (fun _ _ _ _ h => h) hQ (h X4 (fun _ _ _ _ h => k4 _ _ _ _ (x2_sumOf_m4 (fun _ _ _ _ h => h) hQ h)))
def x2_sumOf_rm : Room := { frames := 0, cells := 0, slots := 0, locals := 0 }
theorem w_x2_sumOf_27 : Cond.fieldLink RX2 27 "BoltRing$Joint" "bolts" "I" ∈ wsX2_sumOf := by decide +kernel
theorem in_x2_sumOf_X2 : ∀ w ∈ wsX20, w ∈ wsX2_sumOf := by decide +kernel
set_option maxHeartbeats 4000000 in
set_option maxRecDepth 100000 in
theorem x2_sumOf_bd {κ : KT} {ad : Nat → Nat} {cA : Nat → ClassId} {D : va_G} {Q : State → Prop} {p1 : Nat} {s : Mem} (C : CX κ (GA ad cA D) RX2 cX2_sumOf 4 wsX2_sumOf x2_sumOf_rm (some .int)) (h : x2_sumOf p1 s (RT κ (GA ad cA D) ocI Q)) : WM κ (GA ad cA D) 4 Q s 0 [(0, .ref (ad 1)), (1, .ref (ad p1))] [] := by
  obtain ⟨Z4, z4⟩ : ∃ Z : Nat → Int → Int → Mem → Prop, ∀ x1 x2 x3 s, Z x1 x2 x3 s ↔ WM κ (GA ad cA D) 4 Q s 4 [(0, .ref (ad 1)), (1, .ref (ad x1)), (2, vI x2), (3, vI x3)] [] := ⟨fun x1 x2 x3 s => WM κ (GA ad cA D) 4 Q s 4 [(0, .ref (ad 1)), (1, .ref (ad x1)), (2, vI x2), (3, vI x3)] [], fun _ _ _ _ => Iff.rfl⟩
  refine (fun h => ?_) (h Z4 ?_)
  · refine r_iconst C dX2_sumOf_0 ?_
    refine r_istore_n (ls' := [(2, vI (0 : Int)), (0, .ref (ad 1)), (1, .ref (ad p1))]) C dX2_sumOf_1 rfl (by decide) rfl ?_
    refine r_iconst C dX2_sumOf_2 ?_
    refine r_istore_n (ls' := [(3, vI (0 : Int)), (2, vI (0 : Int)), (0, .ref (ad 1)), (1, .ref (ad p1))]) C dX2_sumOf_3 rfl (by decide) rfl ?_
    exact r_perm [2, 3, 1, 0] rfl ((z4 _ _ _ _).1 h)
  · intro x1 x2 x3 s h
    refine (z4 _ _ _ _).2 ?_
    refine r_iload_n C 3 dX2_sumOf_4 rfl ?_
    refine r_aload_n C 0 dX2_sumOf_5 rfl ?_
    refine r_get (j := 0) (jz := 0) (v := vI (s 1 (0 : Int))) C dX2_sumOf_6 (shA_1) rfl rfl (by decide) in_x2_sumOf_X2 w_x2_sumOf_27 rfl rfl rfl ?_
    refine r_icmp_ge (tgt := 24) C dX2_sumOf_9 (by decide) ⟨h.1, fun c1 => ?_, fun c1 => ?_⟩
    · have h := h.2.1 c1
      refine r_iload_n C 2 dX2_sumOf_24 rfl ?_
      exact r_ireturn C dX2_sumOf_25 h
    · have h := h.2.2 c1
      refine r_iload_n C 2 dX2_sumOf_12 rfl ?_
      refine r_aload_n C 1 dX2_sumOf_13 rfl ?_
      refine r_iload_n C 3 dX2_sumOf_14 rfl ?_
      have hg := h.1
      have h := h.2
      refine r_iald (nz := 6) C dX2_sumOf_15 (hg) rfl (by decide) ⟨h.1, ?_⟩
      have h := h.2
      refine r_iadd C dX2_sumOf_16 ?_
      refine r_istore_n (ls' := [(2, vI (x2 + (s x1 x3))), (0, .ref (ad 1)), (1, .ref (ad x1)), (3, vI x3)]) C dX2_sumOf_17 rfl (by decide) rfl ?_
      refine r_iinc (j := 3) (ls' := [(3, vI (x3 + (1 : Int))), (2, vI (x2 + (s x1 x3))), (0, .ref (ad 1)), (1, .ref (ad x1))]) C dX2_sumOf_18 rfl (by decide) rfl ?_
      refine r_goto (tgt := 4) C dX2_sumOf_21 (by decide) ?_
      exact r_perm [2, 3, 1, 0] rfl ((z4 _ _ _ _).1 h)
theorem x2_sumOf_ct (l : Launch) (ad : Nat → Nat) (cA : Nat → ClassId) (D : va_G) (p1 : Nat) (s : Mem) : MG l yX2_sumOf wsX2_sumOf x2_sumOf_rm ocI [.ref (ad 1), .ref (ad p1)] (GA ad cA D) s (x2_sumOf p1 s) :=
  m_met (own := RX2) (nL := 4) (by decide) rfl rfl (Nat.le_of_ble_eq_true rfl) rfl rfl rfl (fun κ hl C Q Pst hW hQ => x2_sumOf_bd C (x2_sumOf_mono hW hQ))

def x2_isRow_be (X13 : Int → Int → Int → Mem → Prop) (Q : Int → Mem → Prop) (p1 : Int) (s : Mem) : Prop :=
  InI p1 ∧ ((0 : Int) ≤ p1 → X13 (0 : Int) p1 (0 : Int) s) ∧ (p1 < (0 : Int) → ((0 : Int) ≤ (0 : Int) ∧ (0 : Int) ≤ 1) ∧ Q (0 : Int) s)
def x2_isRow_b13 (X13 : Int → Int → Int → Mem → Prop) (Q : Int → Mem → Prop) (x2 : Int) (x3 : Int) (x4 : Int) (s : Mem) : Prop :=
  (InI x4 ∧ InI (s 1 (0 : Int))) ∧ ((s 1 (0 : Int)) ≤ x4 → InI x3 ∧ (¬ x3 = (0 : Int) → ((0 : Int) ≤ (0 : Int) ∧ (0 : Int) ≤ 1) ∧ Q (0 : Int) s) ∧ (x3 = (0 : Int) → x2_allSet s (fun r3 s2 => (InI x2 ∧ InI r3) ∧ (¬ x2 = r3 → ((0 : Int) ≤ (0 : Int) ∧ (0 : Int) ≤ 1) ∧ Q (0 : Int) s2) ∧ (x2 = r3 → ((0 : Int) ≤ (1 : Int) ∧ (1 : Int) ≤ 1) ∧ Q (1 : Int) s2)))) ∧ (x4 < (s 1 (0 : Int)) → (InI x3 ∧ InI (10 : Int) ∧ ¬ (10 : Int) = 0) ∧ (InI (Int.tmod x3 (10 : Int)) ∧ InI (s 1 (0 : Int))) ∧ ((Int.tmod x3 (10 : Int)) < (s 1 (0 : Int)) → ∀ v6 : Int, v6 = (orI x2 (shlI (1 : Int) (Int.tmod x3 (10 : Int)))) → (InI x3 ∧ InI (10 : Int) ∧ ¬ (10 : Int) = 0) ∧ X13 v6 (Int.tdiv x3 (10 : Int)) (x4 + (1 : Int)) s) ∧ ((s 1 (0 : Int)) ≤ (Int.tmod x3 (10 : Int)) → ((0 : Int) ≤ (0 : Int) ∧ (0 : Int) ≤ 1) ∧ Q (0 : Int) s))
theorem x2_isRow_me {X13 Y13 : Int → Int → Int → Mem → Prop} {Q R : Int → Mem → Prop} (hX13 : ∀ x2 x3 x4 s, X13 x2 x3 x4 s → Y13 x2 x3 x4 s) (hQ : ∀ r s, Q r s → R r s) {p1 : Int} {s : Mem} (h : x2_isRow_be X13 Q p1 s) : x2_isRow_be Y13 R p1 s :=
  ⟨h.1, fun c => have h := h.2.1 c; hX13 _ _ _ _ h, fun c => have h := h.2.2 c; ⟨h.1, hQ _ _ h.2⟩⟩
theorem x2_isRow_m13 {X13 Y13 : Int → Int → Int → Mem → Prop} {Q R : Int → Mem → Prop} (hX13 : ∀ x2 x3 x4 s, X13 x2 x3 x4 s → Y13 x2 x3 x4 s) (hQ : ∀ r s, Q r s → R r s) {x2 : Int} {x3 : Int} {x4 : Int} {s : Mem} (h : x2_isRow_b13 X13 Q x2 x3 x4 s) : x2_isRow_b13 Y13 R x2 x3 x4 s :=
  ⟨h.1, fun c => have h := h.2.1 c; ⟨h.1, fun c => have h := h.2.1 c; ⟨h.1, hQ _ _ h.2⟩, fun c => have h := h.2.2 c; x2_allSet_mono h (fun r3 s2 h => ⟨h.1, fun c => have h := h.2.1 c; ⟨h.1, hQ _ _ h.2⟩, fun c => have h := h.2.2 c; ⟨h.1, hQ _ _ h.2⟩⟩)⟩, fun c => have h := h.2.2 c; ⟨h.1, have h := h.2; ⟨h.1, fun c => have h := h.2.1 c; fun v6 e_v6 => have h := h v6 e_v6; ⟨h.1, have h := h.2; hX13 _ _ _ _ h⟩, fun c => have h := h.2.2 c; ⟨h.1, hQ _ _ h.2⟩⟩⟩⟩
def x2_isRow (p1 : Int) (s : Mem) (Q : Int → Mem → Prop) : Prop := ∀ (X13 : Int → Int → Int → Mem → Prop), (∀ x2 x3 x4 s, x2_isRow_b13 X13 Q x2 x3 x4 s → X13 x2 x3 x4 s) → x2_isRow_be X13 Q p1 s
def x2_isRow_L13 (Q : Int → Mem → Prop) (x2 : Int) (x3 : Int) (x4 : Int) (s : Mem) : Prop := ∀ (X13 : Int → Int → Int → Mem → Prop), (∀ x2 x3 x4 s, x2_isRow_b13 X13 Q x2 x3 x4 s → X13 x2 x3 x4 s) → X13 x2 x3 x4 s
theorem x2_isRow_i {Q : Int → Mem → Prop} {p1 : Int} {s : Mem} (h : x2_isRow_be (x2_isRow_L13 Q) Q p1 s) : x2_isRow p1 s Q := fun X13 k13 => x2_isRow_me (fun _ _ _ _ h => h X13 k13) (fun _ _ h => h) h
theorem x2_isRow_s13 {Q : Int → Mem → Prop} {x2 : Int} {x3 : Int} {x4 : Int} {s : Mem} (h : x2_isRow_b13 (x2_isRow_L13 Q) Q x2 x3 x4 s) : x2_isRow_L13 Q x2 x3 x4 s := fun X13 k13 => k13 _ _ _ _ (x2_isRow_m13 (fun _ _ _ _ h => h X13 k13) (fun _ _ h => h) h)
theorem x2_isRow_mono {Q R : Int → Mem → Prop} {p1 : Int} {s : Mem} (h : x2_isRow p1 s Q) (hQ : ∀ r s, Q r s → R r s) : x2_isRow p1 s R := fun X13 k13 => x2_isRow_me (fun _ _ _ _ h => h) hQ (h X13 (fun _ _ _ _ h => k13 _ _ _ _ (x2_isRow_m13 (fun _ _ _ _ h => h) hQ h)))
def x2_isRow_rm : Room := { frames := 1, cells := 0, slots := 0, locals := 20 }
theorem w_x2_isRow_27 : Cond.fieldLink RX2 27 "BoltRing$Joint" "bolts" "I" ∈ wsX2_isRow := by decide +kernel
theorem in_x2_isRow_X2 : ∀ w ∈ wsX20, w ∈ wsX2_isRow := by decide +kernel
set_option maxHeartbeats 4000000 in
set_option maxRecDepth 100000 in
theorem x2_isRow_bd {κ : KT} {ad : Nat → Nat} {cA : Nat → ClassId} {D : va_G} {Q : State → Prop} {p1 : Int} {s : Mem} (C : CX κ (GA ad cA D) RX2 cX2_isRow 6 wsX2_isRow x2_isRow_rm (some .boolean)) (h : x2_isRow p1 s (RT κ (GA ad cA D) ocI Q)) : WM κ (GA ad cA D) 6 Q s 0 [(0, .ref (ad 1)), (1, vI p1)] [] := by
  obtain ⟨Z13, z13⟩ : ∃ Z : Int → Int → Int → Mem → Prop, ∀ x2 x3 x4 s, Z x2 x3 x4 s ↔ WM κ (GA ad cA D) 6 Q s 13 [(0, .ref (ad 1)), (2, vI x2), (3, vI x3), (4, vI x4)] [] := ⟨fun x2 x3 x4 s => WM κ (GA ad cA D) 6 Q s 13 [(0, .ref (ad 1)), (2, vI x2), (3, vI x3), (4, vI x4)] [], fun _ _ _ _ => Iff.rfl⟩
  refine (fun h => ?_) (h Z13 ?_)
  · refine r_iload_n C 1 dX2_isRow_0 rfl ?_
    refine r_if_ge (tgt := 6) C dX2_isRow_1 (by decide) ⟨h.1, fun c1 => ?_, fun c1 => ?_⟩
    · have h := h.2.1 c1
      refine r_iconst C dX2_isRow_6 ?_
      refine r_istore_n (ls' := [(2, vI (0 : Int)), (0, .ref (ad 1)), (1, vI p1)]) C dX2_isRow_7 rfl (by decide) rfl ?_
      refine r_iload_n C 2 dX2_isRow_8 rfl ?_
      refine r_istore_n (ls' := [(3, vI p1), (2, vI (0 : Int)), (0, .ref (ad 1)), (1, vI p1)]) C dX2_isRow_9 rfl (by decide) rfl ?_
      refine r_iconst C dX2_isRow_10 ?_
      refine r_istore (ls' := [(4, vI (0 : Int)), (3, vI p1), (2, vI (0 : Int)), (0, .ref (ad 1)), (1, vI p1)]) C dX2_isRow_11 (by decide) rfl ?_
      exact r_perm [3, 2, 1, 0] rfl ((z13 _ _ _ _).1 h)
    · have h := h.2.2 c1
      refine r_iconst C dX2_isRow_4 ?_
      exact r_zreturn C dX2_isRow_5 h
  · intro x2 x3 x4 s h
    refine (z13 _ _ _ _).2 ?_
    refine r_iload C 3 dX2_isRow_13 rfl ?_
    refine r_aload_n C 0 dX2_isRow_15 rfl ?_
    refine r_get (j := 0) (jz := 0) (v := vI (s 1 (0 : Int))) C dX2_isRow_16 (shA_1) rfl rfl (by decide) in_x2_isRow_X2 w_x2_isRow_27 rfl rfl rfl ?_
    refine r_icmp_ge (tgt := 57) C dX2_isRow_19 (by decide) ⟨h.1, fun c8 => ?_, fun c8 => ?_⟩
    · have h := h.2.1 c8
      refine r_iload_n C 2 dX2_isRow_57 rfl ?_
      refine r_if_ne (tgt := 73) C dX2_isRow_58 (by decide) ⟨h.1, fun c5 => ?_, fun c5 => ?_⟩
      · have h := h.2.1 c5
        refine r_iconst C dX2_isRow_73 ?_
        exact r_zreturn C dX2_isRow_74 h
      · have h := h.2.2 c5
        refine r_iload_n C 1 dX2_isRow_61 rfl ?_
        refine r_aload_n C 0 dX2_isRow_62 rfl ?_
        refine r_callV (As := []) (o := 1) (n := 0) C dX2_isRow_63 (x2_allSet_ct κ.1.2.1 ad cA D s) gX2_isRow_X2_allSet rfl ⟨rfl, rfl⟩ (by decide +kernel) (by decide) (shA_1) rfl rfl rfl (Nat.le_of_ble_eq_true rfl) (fun _ => rfl) ?_
        refine x2_allSet_mono h (fun r3 s2 h => ?_)
        refine r_icmp_ne (tgt := 73) C dX2_isRow_66 (by decide) ⟨h.1, fun c4 => ?_, fun c4 => ?_⟩
        · have h := h.2.1 c4
          refine r_iconst C dX2_isRow_73 ?_
          exact r_zreturn C dX2_isRow_74 h
        · have h := h.2.2 c4
          refine r_iconst C dX2_isRow_69 ?_
          refine r_goto (tgt := 74) C dX2_isRow_70 (by decide) ?_
          exact r_zreturn C dX2_isRow_74 h
    · have h := h.2.2 c8
      refine r_iload_n C 2 dX2_isRow_22 rfl ?_
      refine r_bipush C dX2_isRow_23 (by decide) ?_
      refine r_irem C dX2_isRow_25 ⟨h.1, ?_⟩
      have h := h.2
      refine r_istore (ls' := [(5, vI (Int.tmod x3 (10 : Int))), (0, .ref (ad 1)), (2, vI x2), (3, vI x3), (4, vI x4)]) C dX2_isRow_26 (by decide) rfl ?_
      refine r_iload C 0 dX2_isRow_28 rfl ?_
      refine r_aload_n C 1 dX2_isRow_30 rfl ?_
      refine r_get (j := 0) (jz := 0) (v := vI (s 1 (0 : Int))) C dX2_isRow_31 (shA_1) rfl rfl (by decide) in_x2_isRow_X2 w_x2_isRow_27 rfl rfl rfl ?_
      refine r_icmp_lt (tgt := 39) C dX2_isRow_34 (by decide) ⟨h.1, fun c7 => ?_, fun c7 => ?_⟩
      · have h := h.2.1 c7
        refine r_iload_n C 2 dX2_isRow_39 rfl ?_
        refine r_iconst C dX2_isRow_40 ?_
        refine r_iload C 0 dX2_isRow_41 rfl ?_
        refine r_ishl C dX2_isRow_43 ?_
        refine r_ior C dX2_isRow_44 ?_
        refine r_topI (fun v6 e_v6 => ?_)
        have h := h v6 e_v6
        refine r_istore_n (ls' := [(2, vI v6), (5, vI (Int.tmod x3 (10 : Int))), (0, .ref (ad 1)), (3, vI x3), (4, vI x4)]) C dX2_isRow_45 rfl (by decide) rfl ?_
        refine r_iload_n C 3 dX2_isRow_46 rfl ?_
        refine r_bipush C dX2_isRow_47 (by decide) ?_
        refine r_idiv C dX2_isRow_49 ⟨h.1, ?_⟩
        have h := h.2
        refine r_istore_n (ls' := [(3, vI (Int.tdiv x3 (10 : Int))), (2, vI v6), (5, vI (Int.tmod x3 (10 : Int))), (0, .ref (ad 1)), (4, vI x4)]) C dX2_isRow_50 rfl (by decide) rfl ?_
        refine r_iinc (j := 4) (ls' := [(4, vI (x4 + (1 : Int))), (3, vI (Int.tdiv x3 (10 : Int))), (2, vI v6), (5, vI (Int.tmod x3 (10 : Int))), (0, .ref (ad 1))]) C dX2_isRow_51 rfl (by decide) rfl ?_
        refine r_goto (tgt := 13) C dX2_isRow_54 (by decide) ?_
        exact r_perm [4, 2, 1, 0] rfl ((z13 _ _ _ _).1 h)
      · have h := h.2.2 c7
        refine r_iconst C dX2_isRow_37 ?_
        exact r_zreturn C dX2_isRow_38 h
theorem x2_isRow_ct (l : Launch) (ad : Nat → Nat) (cA : Nat → ClassId) (D : va_G) (p1 : Int) (s : Mem) : MG l yX2_isRow wsX2_isRow x2_isRow_rm ocI [.ref (ad 1), vI p1] (GA ad cA D) s (x2_isRow p1 s) :=
  m_met (own := RX2) (nL := 6) (by decide) rfl rfl (Nat.le_of_ble_eq_true rfl) rfl rfl rfl (fun κ hl C Q Pst hW hQ => x2_isRow_bd C (x2_isRow_mono hW hQ))

def x2_takeRow_be (X19 : Int → Int → Mem → Prop) (Q : Int → Mem → Prop) (p1 : Int) (s : Mem) : Prop :=
  x2_isRow p1 s (fun r2 s1 => InI r2 ∧ (¬ r2 = (0 : Int) → X19 p1 ((s1 1 (0 : Int)) - (1 : Int)) s1) ∧ (r2 = (0 : Int) → ((0 : Int) ≤ (0 : Int) ∧ (0 : Int) ≤ 1) ∧ Q (0 : Int) s1))
def x2_takeRow_b19 (X19 : Int → Int → Mem → Prop) (Q : Int → Mem → Prop) (x2 : Int) (x3 : Int) (s : Mem) : Prop :=
  InI x3 ∧ (x3 < (0 : Int) → ((0 : Int) ≤ (1 : Int) ∧ (1 : Int) ≤ 1) ∧ Q (1 : Int) s) ∧ ((0 : Int) ≤ x3 → (InI x2 ∧ InI (10 : Int) ∧ ¬ (10 : Int) = 0) ∧ ((0 : Int) ≤ x3 ∧ x3 < 6) ∧ ∀ s4 : Mem, s4 = m_upd s 6 x3 (Int.tmod x2 (10 : Int)) → (InI x2 ∧ InI (10 : Int) ∧ ¬ (10 : Int) = 0) ∧ X19 (Int.tdiv x2 (10 : Int)) (x3 + (-1 : Int)) s4)
theorem x2_takeRow_me {X19 Y19 : Int → Int → Mem → Prop} {Q R : Int → Mem → Prop} (hX19 : ∀ x2 x3 s, X19 x2 x3 s → Y19 x2 x3 s) (hQ : ∀ r s, Q r s → R r s) {p1 : Int} {s : Mem} (h : x2_takeRow_be X19 Q p1 s) : x2_takeRow_be Y19 R p1 s :=
  x2_isRow_mono h (fun r2 s1 h => ⟨h.1, fun c => have h := h.2.1 c; hX19 _ _ _ h, fun c => have h := h.2.2 c; ⟨h.1, hQ _ _ h.2⟩⟩)
theorem x2_takeRow_m19 {X19 Y19 : Int → Int → Mem → Prop} {Q R : Int → Mem → Prop} (hX19 : ∀ x2 x3 s, X19 x2 x3 s → Y19 x2 x3 s) (hQ : ∀ r s, Q r s → R r s) {x2 : Int} {x3 : Int} {s : Mem} (h : x2_takeRow_b19 X19 Q x2 x3 s) : x2_takeRow_b19 Y19 R x2 x3 s :=
  ⟨h.1, fun c => have h := h.2.1 c; ⟨h.1, hQ _ _ h.2⟩, fun c => have h := h.2.2 c; ⟨h.1, have h := h.2; ⟨h.1, have h := h.2; fun s4 e_s4 => have h := h s4 e_s4; ⟨h.1, have h := h.2; hX19 _ _ _ h⟩⟩⟩⟩
def x2_takeRow (p1 : Int) (s : Mem) (Q : Int → Mem → Prop) : Prop := ∀ (X19 : Int → Int → Mem → Prop), (∀ x2 x3 s, x2_takeRow_b19 X19 Q x2 x3 s → X19 x2 x3 s) → x2_takeRow_be X19 Q p1 s
def x2_takeRow_L19 (Q : Int → Mem → Prop) (x2 : Int) (x3 : Int) (s : Mem) : Prop := ∀ (X19 : Int → Int → Mem → Prop), (∀ x2 x3 s, x2_takeRow_b19 X19 Q x2 x3 s → X19 x2 x3 s) → X19 x2 x3 s
theorem x2_takeRow_i {Q : Int → Mem → Prop} {p1 : Int} {s : Mem} (h : x2_takeRow_be (x2_takeRow_L19 Q) Q p1 s) : x2_takeRow p1 s Q := fun X19 k19 => x2_takeRow_me (fun _ _ _ h => h X19 k19) (fun _ _ h => h) h
theorem x2_takeRow_s19 {Q : Int → Mem → Prop} {x2 : Int} {x3 : Int} {s : Mem} (h : x2_takeRow_b19 (x2_takeRow_L19 Q) Q x2 x3 s) : x2_takeRow_L19 Q x2 x3 s := fun X19 k19 => k19 _ _ _ (x2_takeRow_m19 (fun _ _ _ h => h X19 k19) (fun _ _ h => h) h)
theorem x2_takeRow_mono {Q R : Int → Mem → Prop} {p1 : Int} {s : Mem} (h : x2_takeRow p1 s Q) (hQ : ∀ r s, Q r s → R r s) : x2_takeRow p1 s R := fun X19 k19 => x2_takeRow_me (fun _ _ _ h => h) hQ (h X19 (fun _ _ _ h => k19 _ _ _ (x2_takeRow_m19 (fun _ _ _ h => h) hQ h)))
def x2_takeRow_rm : Room := { frames := 2, cells := 0, slots := 0, locals := 45 }
theorem w_x2_takeRow_27 : Cond.fieldLink RX2 27 "BoltRing$Joint" "bolts" "I" ∈ wsX2_takeRow := by decide +kernel
theorem w_x2_takeRow_24 : Cond.fieldLink RX2 24 "BoltRing$Joint" "order" "[I" ∈ wsX2_takeRow := by decide +kernel
theorem in_x2_takeRow_X2 : ∀ w ∈ wsX20, w ∈ wsX2_takeRow := by decide +kernel
set_option maxHeartbeats 4000000 in
set_option maxRecDepth 100000 in
theorem x2_takeRow_bd {κ : KT} {ad : Nat → Nat} {cA : Nat → ClassId} {D : va_G} {Q : State → Prop} {p1 : Int} {s : Mem} (C : CX κ (GA ad cA D) RX2 cX2_takeRow 4 wsX2_takeRow x2_takeRow_rm (some .boolean)) (h : x2_takeRow p1 s (RT κ (GA ad cA D) ocI Q)) : WM κ (GA ad cA D) 4 Q s 0 [(0, .ref (ad 1)), (1, vI p1)] [] := by
  obtain ⟨Z19, z19⟩ : ∃ Z : Int → Int → Mem → Prop, ∀ x2 x3 s, Z x2 x3 s ↔ WM κ (GA ad cA D) 4 Q s 19 [(0, .ref (ad 1)), (2, vI x2), (3, vI x3)] [] := ⟨fun x2 x3 s => WM κ (GA ad cA D) 4 Q s 19 [(0, .ref (ad 1)), (2, vI x2), (3, vI x3)] [], fun _ _ _ => Iff.rfl⟩
  refine (fun h => ?_) (h Z19 ?_)
  · refine r_aload_n C 0 dX2_takeRow_0 rfl ?_
    refine r_iload_n C 1 dX2_takeRow_1 rfl ?_
    refine r_callV (As := [vI p1]) (o := 1) (n := 1) C dX2_takeRow_2 (x2_isRow_ct κ.1.2.1 ad cA D p1 s) gX2_takeRow_X2_isRow rfl ⟨rfl, rfl⟩ (by decide +kernel) (by decide) (shA_1) rfl rfl rfl (Nat.le_of_ble_eq_true rfl) (fun _ => rfl) ?_
    refine x2_isRow_mono h (fun r2 s1 h => ?_)
    refine r_if_ne (tgt := 10) C dX2_takeRow_5 (by decide) ⟨h.1, fun c3 => ?_, fun c3 => ?_⟩
    · have h := h.2.1 c3
      refine r_iload_n C 1 dX2_takeRow_10 rfl ?_
      refine r_istore_n (ls' := [(2, vI p1), (0, .ref (ad 1)), (1, vI p1)]) C dX2_takeRow_11 rfl (by decide) rfl ?_
      refine r_aload_n C 1 dX2_takeRow_12 rfl ?_
      refine r_get (j := 0) (jz := 0) (v := vI (s1 1 (0 : Int))) C dX2_takeRow_13 (shA_1) rfl rfl (by decide) in_x2_takeRow_X2 w_x2_takeRow_27 rfl rfl rfl ?_
      refine r_iconst C dX2_takeRow_16 ?_
      refine r_isub C dX2_takeRow_17 ?_
      refine r_istore_n (ls' := [(3, vI ((s1 1 (0 : Int)) - (1 : Int))), (2, vI p1), (0, .ref (ad 1)), (1, vI p1)]) C dX2_takeRow_18 rfl (by decide) rfl ?_
      exact r_perm [2, 1, 0] rfl ((z19 _ _ _).1 h)
    · have h := h.2.2 c3
      refine r_iconst C dX2_takeRow_8 ?_
      exact r_zreturn C dX2_takeRow_9 h
  · intro x2 x3 s h
    refine (z19 _ _ _).2 ?_
    refine r_iload_n C 2 dX2_takeRow_19 rfl ?_
    refine r_if_lt (tgt := 44) C dX2_takeRow_20 (by decide) ⟨h.1, fun c5 => ?_, fun c5 => ?_⟩
    · have h := h.2.1 c5
      refine r_iconst C dX2_takeRow_44 ?_
      exact r_zreturn C dX2_takeRow_45 h
    · have h := h.2.2 c5
      refine r_aload_n C 0 dX2_takeRow_23 rfl ?_
      refine r_get (j := 7) (jz := 7) (v := .ref (ad 6)) C dX2_takeRow_24 (shA_1) rfl rfl (by decide) in_x2_takeRow_X2 w_x2_takeRow_24 rfl rfl rfl ?_
      refine r_iload_n C 2 dX2_takeRow_27 rfl ?_
      refine r_iload_n C 1 dX2_takeRow_28 rfl ?_
      refine r_bipush C dX2_takeRow_29 (by decide) ?_
      refine r_irem C dX2_takeRow_31 ⟨h.1, ?_⟩
      have h := h.2
      refine r_iast (nz := 6) C dX2_takeRow_32 (shA_6) rfl (by decide) ⟨h.1, fun s4 e_s4 => ?_⟩
      have h := h.2 s4 e_s4
      refine r_iload_n C 1 dX2_takeRow_33 rfl ?_
      refine r_bipush C dX2_takeRow_34 (by decide) ?_
      refine r_idiv C dX2_takeRow_36 ⟨h.1, ?_⟩
      have h := h.2
      refine r_istore_n (ls' := [(2, vI (Int.tdiv x2 (10 : Int))), (0, .ref (ad 1)), (3, vI x3)]) C dX2_takeRow_37 rfl (by decide) rfl ?_
      refine r_iinc (j := 2) (ls' := [(3, vI (x3 + (-1 : Int))), (2, vI (Int.tdiv x2 (10 : Int))), (0, .ref (ad 1))]) C dX2_takeRow_38 rfl (by decide) rfl ?_
      refine r_goto (tgt := 19) C dX2_takeRow_41 (by decide) ?_
      exact r_perm [2, 1, 0] rfl ((z19 _ _ _).1 h)
theorem x2_takeRow_ct (l : Launch) (ad : Nat → Nat) (cA : Nat → ClassId) (D : va_G) (p1 : Int) (s : Mem) : MG l yX2_takeRow wsX2_takeRow x2_takeRow_rm ocI [.ref (ad 1), vI p1] (GA ad cA D) s (x2_takeRow p1 s) :=
  m_met (own := RX2) (nL := 4) (by decide) rfl rfl (Nat.le_of_ble_eq_true rfl) rfl rfl rfl (fun κ hl C Q Pst hW hQ => x2_takeRow_bd C (x2_takeRow_mono hW hQ))
end
section
def x7_within (p0 : Int) (p1 : Int) (p2 : Int) (s : Mem) (Q : Int → Mem → Prop) : Prop :=
  (InI p0 ∧ InI p1) ∧ (p0 < p1 → ((0 : Int) ≤ (0 : Int) ∧ (0 : Int) ≤ 1) ∧ Q (0 : Int) s) ∧ (p1 ≤ p0 → (InI p0 ∧ InI p2) ∧ (p2 < p0 → ((0 : Int) ≤ (0 : Int) ∧ (0 : Int) ≤ 1) ∧ Q (0 : Int) s) ∧ (p0 ≤ p2 → ((0 : Int) ≤ (1 : Int) ∧ (1 : Int) ≤ 1) ∧ Q (1 : Int) s))
theorem x7_within_mono {Q R : Int → Mem → Prop} {p0 : Int} {p1 : Int} {p2 : Int} {s : Mem} (h : x7_within p0 p1 p2 s Q) (hQ : ∀ r s, Q r s → R r s) : x7_within p0 p1 p2 s R :=
  ⟨h.1, fun c => have h := h.2.1 c; ⟨h.1, hQ _ _ h.2⟩, fun c => have h := h.2.2 c; ⟨h.1, fun c => have h := h.2.1 c; ⟨h.1, hQ _ _ h.2⟩, fun c => have h := h.2.2 c; ⟨h.1, hQ _ _ h.2⟩⟩⟩
def x7_within_rm : Room := { frames := 0, cells := 0, slots := 0, locals := 0 }
set_option maxHeartbeats 4000000 in
set_option maxRecDepth 100000 in
theorem x7_within_bd {κ : KT} {ad : Nat → Nat} {cA : Nat → ClassId} {D : va_G} {Q : State → Prop} {p0 : Int} {p1 : Int} {p2 : Int} {s : Mem} (C : CX κ (GA ad cA D) RX7 cX7_within 3 wsX7_within x7_within_rm (some .boolean)) (h : x7_within p0 p1 p2 s (RT κ (GA ad cA D) ocI Q)) : WM κ (GA ad cA D) 3 Q s 0 [(0, vI p0), (1, vI p1), (2, vI p2)] [] := by
  refine r_iload_n C 0 dX7_within_0 rfl ?_
  refine r_iload_n C 1 dX7_within_1 rfl ?_
  refine r_icmp_lt (tgt := 14) C dX7_within_2 (by decide) ⟨h.1, fun c2 => ?_, fun c2 => ?_⟩
  · have h := h.2.1 c2
    refine r_iconst C dX7_within_14 ?_
    exact r_zreturn C dX7_within_15 h
  · have h := h.2.2 c2
    refine r_iload_n C 0 dX7_within_5 rfl ?_
    refine r_iload_n C 2 dX7_within_6 rfl ?_
    refine r_icmp_gt (tgt := 14) C dX7_within_7 (by decide) ⟨h.1, fun c1 => ?_, fun c1 => ?_⟩
    · have h := h.2.1 c1
      refine r_iconst C dX7_within_14 ?_
      exact r_zreturn C dX7_within_15 h
    · have h := h.2.2 c1
      refine r_iconst C dX7_within_10 ?_
      refine r_goto (tgt := 15) C dX7_within_11 (by decide) ?_
      exact r_zreturn C dX7_within_15 h
theorem x7_within_ct (l : Launch) (ad : Nat → Nat) (cA : Nat → ClassId) (D : va_G) (p0 : Int) (p1 : Int) (p2 : Int) (s : Mem) : MG l yX7_within wsX7_within x7_within_rm ocI [vI p0, vI p1, vI p2] (GA ad cA D) s (x7_within p0 p1 p2 s) :=
  m_met (own := RX7) (nL := 3) (by decide) rfl rfl (Nat.le_of_ble_eq_true rfl) rfl rfl rfl (fun κ hl C Q Pst hW hQ => x7_within_bd C (x7_within_mono hW hQ))

def x7_leastOf (p0 : Int) (s : Mem) (Q : Int → Mem → Prop) : Prop :=
  InI p0 ∧ (p0 = (0 : Int) → Q (1 : Int) s) ∧ (¬ p0 = (0 : Int) → (InI p0 ∧ InI (1 : Int)) ∧ (¬ p0 = (1 : Int) → Q (0 : Int) s) ∧ (p0 = (1 : Int) → Q (1 : Int) s))
theorem x7_leastOf_mono {Q R : Int → Mem → Prop} {p0 : Int} {s : Mem} (h : x7_leastOf p0 s Q) (hQ : ∀ r s, Q r s → R r s) : x7_leastOf p0 s R :=
  ⟨h.1, fun c => have h := h.2.1 c; hQ _ _ h, fun c => have h := h.2.2 c; ⟨h.1, fun c => have h := h.2.1 c; hQ _ _ h, fun c => have h := h.2.2 c; hQ _ _ h⟩⟩
def x7_leastOf_rm : Room := { frames := 0, cells := 0, slots := 0, locals := 0 }
set_option maxHeartbeats 4000000 in
set_option maxRecDepth 100000 in
theorem x7_leastOf_bd {κ : KT} {ad : Nat → Nat} {cA : Nat → ClassId} {D : va_G} {Q : State → Prop} {p0 : Int} {s : Mem} (C : CX κ (GA ad cA D) RX7 cX7_leastOf 1 wsX7_leastOf x7_leastOf_rm (some .int)) (h : x7_leastOf p0 s (RT κ (GA ad cA D) ocI Q)) : WM κ (GA ad cA D) 1 Q s 0 [(0, vI p0)] [] := by
  refine r_iload_n C 0 dX7_leastOf_0 rfl ?_
  refine r_if_eq (tgt := 9) C dX7_leastOf_1 (by decide) ⟨h.1, fun c2 => ?_, fun c2 => ?_⟩
  · have h := h.2.1 c2
    refine r_iconst C dX7_leastOf_9 ?_
    refine r_goto (tgt := 14) C dX7_leastOf_10 (by decide) ?_
    exact r_ireturn C dX7_leastOf_14 h
  · have h := h.2.2 c2
    refine r_iload_n C 0 dX7_leastOf_4 rfl ?_
    refine r_iconst C dX7_leastOf_5 ?_
    refine r_icmp_ne (tgt := 13) C dX7_leastOf_6 (by decide) ⟨h.1, fun c1 => ?_, fun c1 => ?_⟩
    · have h := h.2.1 c1
      refine r_iconst C dX7_leastOf_13 ?_
      exact r_ireturn C dX7_leastOf_14 h
    · have h := h.2.2 c1
      refine r_iconst C dX7_leastOf_9 ?_
      refine r_goto (tgt := 14) C dX7_leastOf_10 (by decide) ?_
      exact r_ireturn C dX7_leastOf_14 h
theorem x7_leastOf_ct (l : Launch) (ad : Nat → Nat) (cA : Nat → ClassId) (D : va_G) (p0 : Int) (s : Mem) : MG l yX7_leastOf wsX7_leastOf x7_leastOf_rm ocI [vI p0] (GA ad cA D) s (x7_leastOf p0 s) :=
  m_met (own := RX7) (nL := 1) (by decide) rfl rfl (Nat.le_of_ble_eq_true rfl) rfl rfl rfl (fun κ hl C Q Pst hW hQ => x7_leastOf_bd C (x7_leastOf_mono hW hQ))

def x7_mostOf (p0 : Int) (s : Mem) (Q : Int → Mem → Prop) : Prop :=
  (InI p0 ∧ InI (2 : Int)) ∧ (¬ p0 = (2 : Int) → (InI p0 ∧ InI (3 : Int)) ∧ (¬ p0 = (3 : Int) → Q (9 : Int) s) ∧ (p0 = (3 : Int) → Q (200 : Int) s)) ∧ (p0 = (2 : Int) → Q (200 : Int) s)
theorem x7_mostOf_mono {Q R : Int → Mem → Prop} {p0 : Int} {s : Mem} (h : x7_mostOf p0 s Q) (hQ : ∀ r s, Q r s → R r s) : x7_mostOf p0 s R :=
  ⟨h.1, fun c => have h := h.2.1 c; ⟨h.1, fun c => have h := h.2.1 c; hQ _ _ h, fun c => have h := h.2.2 c; hQ _ _ h⟩, fun c => have h := h.2.2 c; hQ _ _ h⟩
def x7_mostOf_rm : Room := { frames := 0, cells := 0, slots := 0, locals := 0 }
set_option maxHeartbeats 4000000 in
set_option maxRecDepth 100000 in
theorem x7_mostOf_bd {κ : KT} {ad : Nat → Nat} {cA : Nat → ClassId} {D : va_G} {Q : State → Prop} {p0 : Int} {s : Mem} (C : CX κ (GA ad cA D) RX7 cX7_mostOf 1 wsX7_mostOf x7_mostOf_rm (some .int)) (h : x7_mostOf p0 s (RT κ (GA ad cA D) ocI Q)) : WM κ (GA ad cA D) 1 Q s 0 [(0, vI p0)] [] := by
  refine r_iload_n C 0 dX7_mostOf_0 rfl ?_
  refine r_iconst C dX7_mostOf_1 ?_
  refine r_icmp_ne (tgt := 9) C dX7_mostOf_2 (by decide) ⟨h.1, fun c2 => ?_, fun c2 => ?_⟩
  · have h := h.2.1 c2
    refine r_iload_n C 0 dX7_mostOf_9 rfl ?_
    refine r_iconst C dX7_mostOf_10 ?_
    refine r_icmp_ne (tgt := 20) C dX7_mostOf_11 (by decide) ⟨h.1, fun c1 => ?_, fun c1 => ?_⟩
    · have h := h.2.1 c1
      refine r_bipush C dX7_mostOf_20 (by decide) ?_
      exact r_ireturn C dX7_mostOf_22 h
    · have h := h.2.2 c1
      refine r_sipush C dX7_mostOf_14 (by decide) ?_
      refine r_goto (tgt := 22) C dX7_mostOf_17 (by decide) ?_
      exact r_ireturn C dX7_mostOf_22 h
  · have h := h.2.2 c2
    refine r_sipush C dX7_mostOf_5 (by decide) ?_
    exact r_ireturn C dX7_mostOf_8 h
theorem x7_mostOf_ct (l : Launch) (ad : Nat → Nat) (cA : Nat → ClassId) (D : va_G) (p0 : Int) (s : Mem) : MG l yX7_mostOf wsX7_mostOf x7_mostOf_rm ocI [vI p0] (GA ad cA D) s (x7_mostOf p0 s) :=
  m_met (own := RX7) (nL := 1) (by decide) rfl rfl (Nat.le_of_ble_eq_true rfl) rfl rfl rfl (fun κ hl C Q Pst hW hQ => x7_mostOf_bd C (x7_mostOf_mono hW hQ))

def x7_asNumber (p0 : Int) (s : Mem) (Q : Int → Mem → Prop) : Prop :=
  InI p0 ∧ (p0 = (0 : Int) → Q (0 : Int) s) ∧ (¬ p0 = (0 : Int) → Q (1 : Int) s)
theorem x7_asNumber_mono {Q R : Int → Mem → Prop} {p0 : Int} {s : Mem} (h : x7_asNumber p0 s Q) (hQ : ∀ r s, Q r s → R r s) : x7_asNumber p0 s R :=
  ⟨h.1, fun c => have h := h.2.1 c; hQ _ _ h, fun c => have h := h.2.2 c; hQ _ _ h⟩
def x7_asNumber_rm : Room := { frames := 0, cells := 0, slots := 0, locals := 0 }
set_option maxHeartbeats 4000000 in
set_option maxRecDepth 100000 in
theorem x7_asNumber_bd {κ : KT} {ad : Nat → Nat} {cA : Nat → ClassId} {D : va_G} {Q : State → Prop} {p0 : Int} {s : Mem} (C : CX κ (GA ad cA D) RX7 cX7_asNumber 1 wsX7_asNumber x7_asNumber_rm (some .int)) (h : x7_asNumber p0 s (RT κ (GA ad cA D) ocI Q)) : WM κ (GA ad cA D) 1 Q s 0 [(0, vI p0)] [] := by
  refine r_iload_n C 0 dX7_asNumber_0 rfl ?_
  refine r_if_eq (tgt := 8) C dX7_asNumber_1 (by decide) ⟨h.1, fun c1 => ?_, fun c1 => ?_⟩
  · have h := h.2.1 c1
    refine r_iconst C dX7_asNumber_8 ?_
    exact r_ireturn C dX7_asNumber_9 h
  · have h := h.2.2 c1
    refine r_iconst C dX7_asNumber_4 ?_
    refine r_goto (tgt := 9) C dX7_asNumber_5 (by decide) ?_
    exact r_ireturn C dX7_asNumber_9 h
theorem x7_asNumber_ct (l : Launch) (ad : Nat → Nat) (cA : Nat → ClassId) (D : va_G) (p0 : Int) (s : Mem) : MG l yX7_asNumber wsX7_asNumber x7_asNumber_rm ocI [vI p0] (GA ad cA D) s (x7_asNumber p0 s) :=
  m_met (own := RX7) (nL := 1) (by decide) rfl rfl (Nat.le_of_ble_eq_true rfl) rfl rfl rfl (fun κ hl C Q Pst hW hQ => x7_asNumber_bd C (x7_asNumber_mono hW hQ))

def x7_wholeFrom (p0 : Int) (p2 : Int) (s : Mem) (Q : Int → Mem → Prop) : Prop :=
  (InL p0 ∧ InL (0 : Int)) ∧ (p0 ≤ (0 : Int) → Q (0 : Int) s) ∧ ((0 : Int) < p0 → (InL p2 ∧ InL (0 : Int)) ∧ ((0 : Int) < p2 → (InL ((p0 + p2) - (1 : Int)) ∧ InL p2 ∧ ¬ p2 = 0) ∧ Q (Int.tdiv ((p0 + p2) - (1 : Int)) p2) s) ∧ (p2 ≤ (0 : Int) → Q (0 : Int) s))
theorem x7_wholeFrom_mono {Q R : Int → Mem → Prop} {p0 : Int} {p2 : Int} {s : Mem} (h : x7_wholeFrom p0 p2 s Q) (hQ : ∀ r s, Q r s → R r s) : x7_wholeFrom p0 p2 s R :=
  ⟨h.1, fun c => have h := h.2.1 c; hQ _ _ h, fun c => have h := h.2.2 c; ⟨h.1, fun c => have h := h.2.1 c; ⟨h.1, have h := h.2; hQ _ _ h⟩, fun c => have h := h.2.2 c; hQ _ _ h⟩⟩
def x7_wholeFrom_rm : Room := { frames := 0, cells := 0, slots := 0, locals := 0 }
set_option maxHeartbeats 4000000 in
set_option maxRecDepth 100000 in
theorem x7_wholeFrom_bd {κ : KT} {ad : Nat → Nat} {cA : Nat → ClassId} {D : va_G} {Q : State → Prop} {p0 : Int} {p2 : Int} {s : Mem} (C : CX κ (GA ad cA D) RX7 cX7_wholeFrom 4 wsX7_wholeFrom x7_wholeFrom_rm (some .long)) (h : x7_wholeFrom p0 p2 s (RT κ (GA ad cA D) ocL Q)) : WM κ (GA ad cA D) 4 Q s 0 [(0, vL p0), (2, vL p2)] [] := by
  refine r_lload_n C 0 dX7_wholeFrom_0 rfl ?_
  refine r_lconst (z := 0) C dX7_wholeFrom_1 rfl ?_
  refine r_lcmp_le (tgt := 12) C dX7_wholeFrom_2 dX7_wholeFrom_3 (by decide) ⟨h.1, fun c2 => ?_, fun c2 => ?_⟩
  · have h := h.2.1 c2
    refine r_lconst (z := 0) C dX7_wholeFrom_12 rfl ?_
    refine r_goto (tgt := 23) C dX7_wholeFrom_13 (by decide) ?_
    exact r_lreturn C dX7_wholeFrom_23 h
  · have h := h.2.2 c2
    refine r_lload_n C 1 dX7_wholeFrom_6 rfl ?_
    refine r_lconst (z := 0) C dX7_wholeFrom_7 rfl ?_
    refine r_lcmp_gt (tgt := 16) C dX7_wholeFrom_8 dX7_wholeFrom_9 (by decide) ⟨h.1, fun c1 => ?_, fun c1 => ?_⟩
    · have h := h.2.1 c1
      refine r_lload_n C 0 dX7_wholeFrom_16 rfl ?_
      refine r_lload_n C 1 dX7_wholeFrom_17 rfl ?_
      refine r_ladd C dX7_wholeFrom_18 ?_
      refine r_lconst (z := 1) C dX7_wholeFrom_19 rfl ?_
      refine r_lsub C dX7_wholeFrom_20 ?_
      refine r_lload_n C 1 dX7_wholeFrom_21 rfl ?_
      refine r_ldiv C dX7_wholeFrom_22 ⟨h.1, ?_⟩
      have h := h.2
      exact r_lreturn C dX7_wholeFrom_23 h
    · have h := h.2.2 c1
      refine r_lconst (z := 0) C dX7_wholeFrom_12 rfl ?_
      refine r_goto (tgt := 23) C dX7_wholeFrom_13 (by decide) ?_
      exact r_lreturn C dX7_wholeFrom_23 h
theorem x7_wholeFrom_ct (l : Launch) (ad : Nat → Nat) (cA : Nat → ClassId) (D : va_G) (p0 : Int) (p2 : Int) (s : Mem) : MG l yX7_wholeFrom wsX7_wholeFrom x7_wholeFrom_rm ocL [vL p0, vL p2] (GA ad cA D) s (x7_wholeFrom p0 p2 s) :=
  m_met (own := RX7) (nL := 4) (by decide) rfl rfl (Nat.le_of_ble_eq_true rfl) rfl rfl rfl (fun κ hl C Q Pst hW hQ => x7_wholeFrom_bd C (x7_wholeFrom_mono hW hQ))
end
section
def x3_fillSystem_be (X3 : Nat → Int → Int → Int → Mem → Prop) (X75 : Nat → Int → Int → Int → Int → Int → Mem → Prop) (X98 : Nat → Int → Int → Int → Int → Int → Mem → Prop) (Q : Int → Mem → Prop) (o : Nat) (p2 : Nat) (p3 : Int) (p4 : Int) (s : Mem) : Prop :=
  X3 p2 p3 p4 (0 : Int) s
def x3_fillSystem_b3 (o : Nat) (X3 : Nat → Int → Int → Int → Mem → Prop) (X75 : Nat → Int → Int → Int → Int → Int → Mem → Prop) (X98 : Nat → Int → Int → Int → Int → Int → Mem → Prop) (Q : Int → Mem → Prop) (x2 : Nat) (x3 : Int) (x4 : Int) (x5 : Int) (s : Mem) : Prop :=
  (InI x5 ∧ InI (s 1 (0 : Int))) ∧ ((s 1 (0 : Int)) ≤ x5 → Q (0 : Int) s) ∧ (x5 < (s 1 (0 : Int)) → (InI (s 1 (1 : Int))) ∧ (shA[x2]? = some (.inr (0, 6))) ∧ ((0 : Int) ≤ x5 ∧ x5 < 6) ∧ (InI (-(s x2 x5))) ∧ InI (andI (shrI x3 x5) (1 : Int)) ∧ ((andI (shrI x3 x5) (1 : Int)) = (0 : Int) → X75 x2 x3 x4 x5 ((2 : Int) * (s 1 (1 : Int))) (-(s x2 x5)) s) ∧ (¬ (andI (shrI x3 x5) (1 : Int)) = (0 : Int) → ((0 : Int) ≤ x5 ∧ x5 < 6) ∧ (InI (s 2 x5)) ∧ ∀ v1 : Int, v1 = (((2 : Int) * (s 1 (1 : Int))) + (s 2 x5)) → ((0 : Int) ≤ x5 ∧ x5 < 6) ∧ (InI (s 2 x5)) ∧ ((0 : Int) ≤ x5 ∧ x5 < 6) ∧ (InI (s 4 x5)) ∧ ∀ v2 : Int, v2 = ((-(s x2 x5)) + ((s 2 x5) * (s 4 x5))) → X75 x2 x3 x4 x5 v1 v2 s))
def x3_fillSystem_b75 (o : Nat) (X3 : Nat → Int → Int → Int → Mem → Prop) (X75 : Nat → Int → Int → Int → Int → Int → Mem → Prop) (X98 : Nat → Int → Int → Int → Int → Int → Mem → Prop) (Q : Int → Mem → Prop) (x2 : Nat) (x3 : Int) (x4 : Int) (x5 : Int) (x6 : Int) (x8 : Int) (s : Mem) : Prop :=
  InI (andI (shrI x4 x5) (1 : Int)) ∧ ((andI (shrI x4 x5) (1 : Int)) = (0 : Int) → X98 x2 x3 x4 x5 x6 x8 s) ∧ (¬ (andI (shrI x4 x5) (1 : Int)) = (0 : Int) → ((0 : Int) ≤ x5 ∧ x5 < 6) ∧ (InI (s 3 x5)) ∧ X98 x2 x3 x4 x5 (x6 + (s 3 x5)) x8 s)
def x3_fillSystem_b98 (o : Nat) (X3 : Nat → Int → Int → Int → Mem → Prop) (X75 : Nat → Int → Int → Int → Int → Int → Mem → Prop) (X98 : Nat → Int → Int → Int → Int → Int → Mem → Prop) (Q : Int → Mem → Prop) (x2 : Nat) (x3 : Int) (x4 : Int) (x5 : Int) (x6 : Int) (x8 : Int) (s : Mem) : Prop :=
  ((0 : Int) ≤ x5 ∧ x5 < 6) ∧ ∀ s6 : Mem, s6 = m_upd s (o + 2) x5 x6 → ((0 : Int) ≤ x5 ∧ x5 < 6) ∧ ∀ s7 : Mem, s7 = m_upd s6 (o + 3) x5 x8 → X3 x2 x3 x4 (x5 + (1 : Int)) s7
theorem x3_fillSystem_me {X3 Y3 : Nat → Int → Int → Int → Mem → Prop} {X75 Y75 : Nat → Int → Int → Int → Int → Int → Mem → Prop} {X98 Y98 : Nat → Int → Int → Int → Int → Int → Mem → Prop} {Q R : Int → Mem → Prop} (hX3 : ∀ x2 x3 x4 x5 s, X3 x2 x3 x4 x5 s → Y3 x2 x3 x4 x5 s) (hX75 : ∀ x2 x3 x4 x5 x6 x8 s, X75 x2 x3 x4 x5 x6 x8 s → Y75 x2 x3 x4 x5 x6 x8 s) (hX98 : ∀ x2 x3 x4 x5 x6 x8 s, X98 x2 x3 x4 x5 x6 x8 s → Y98 x2 x3 x4 x5 x6 x8 s) (hQ : ∀ r s, Q r s → R r s) {o : Nat} {p2 : Nat} {p3 : Int} {p4 : Int} {s : Mem} (h : x3_fillSystem_be X3 X75 X98 Q o p2 p3 p4 s) : x3_fillSystem_be Y3 Y75 Y98 R o p2 p3 p4 s :=
  hX3 _ _ _ _ _ h
theorem x3_fillSystem_m3 {o : Nat} {X3 Y3 : Nat → Int → Int → Int → Mem → Prop} {X75 Y75 : Nat → Int → Int → Int → Int → Int → Mem → Prop} {X98 Y98 : Nat → Int → Int → Int → Int → Int → Mem → Prop} {Q R : Int → Mem → Prop} (hX3 : ∀ x2 x3 x4 x5 s, X3 x2 x3 x4 x5 s → Y3 x2 x3 x4 x5 s) (hX75 : ∀ x2 x3 x4 x5 x6 x8 s, X75 x2 x3 x4 x5 x6 x8 s → Y75 x2 x3 x4 x5 x6 x8 s) (hX98 : ∀ x2 x3 x4 x5 x6 x8 s, X98 x2 x3 x4 x5 x6 x8 s → Y98 x2 x3 x4 x5 x6 x8 s) (hQ : ∀ r s, Q r s → R r s) {x2 : Nat} {x3 : Int} {x4 : Int} {x5 : Int} {s : Mem} (h : x3_fillSystem_b3 o X3 X75 X98 Q x2 x3 x4 x5 s) : x3_fillSystem_b3 o Y3 Y75 Y98 R x2 x3 x4 x5 s :=
  ⟨h.1, fun c => have h := h.2.1 c; hQ _ _ h, fun c => have h := h.2.2 c; ⟨h.1, have h := h.2; ⟨h.1, have h := h.2; ⟨h.1, have h := h.2; ⟨h.1, have h := h.2; ⟨h.1, fun c => have h := h.2.1 c; hX75 _ _ _ _ _ _ _ h, fun c => have h := h.2.2 c; ⟨h.1, have h := h.2; ⟨h.1, have h := h.2; fun v1 e_v1 => have h := h v1 e_v1; ⟨h.1, have h := h.2; ⟨h.1, have h := h.2; ⟨h.1, have h := h.2; ⟨h.1, have h := h.2; fun v2 e_v2 => have h := h v2 e_v2; hX75 _ _ _ _ _ _ _ h⟩⟩⟩⟩⟩⟩⟩⟩⟩⟩⟩⟩
theorem x3_fillSystem_m75 {o : Nat} {X3 Y3 : Nat → Int → Int → Int → Mem → Prop} {X75 Y75 : Nat → Int → Int → Int → Int → Int → Mem → Prop} {X98 Y98 : Nat → Int → Int → Int → Int → Int → Mem → Prop} {Q R : Int → Mem → Prop} (hX3 : ∀ x2 x3 x4 x5 s, X3 x2 x3 x4 x5 s → Y3 x2 x3 x4 x5 s) (hX75 : ∀ x2 x3 x4 x5 x6 x8 s, X75 x2 x3 x4 x5 x6 x8 s → Y75 x2 x3 x4 x5 x6 x8 s) (hX98 : ∀ x2 x3 x4 x5 x6 x8 s, X98 x2 x3 x4 x5 x6 x8 s → Y98 x2 x3 x4 x5 x6 x8 s) (hQ : ∀ r s, Q r s → R r s) {x2 : Nat} {x3 : Int} {x4 : Int} {x5 : Int} {x6 : Int} {x8 : Int} {s : Mem} (h : x3_fillSystem_b75 o X3 X75 X98 Q x2 x3 x4 x5 x6 x8 s) : x3_fillSystem_b75 o Y3 Y75 Y98 R x2 x3 x4 x5 x6 x8 s :=
  ⟨h.1, fun c => have h := h.2.1 c; hX98 _ _ _ _ _ _ _ h, fun c => have h := h.2.2 c; ⟨h.1, have h := h.2; ⟨h.1, have h := h.2; hX98 _ _ _ _ _ _ _ h⟩⟩⟩
theorem x3_fillSystem_m98 {o : Nat} {X3 Y3 : Nat → Int → Int → Int → Mem → Prop} {X75 Y75 : Nat → Int → Int → Int → Int → Int → Mem → Prop} {X98 Y98 : Nat → Int → Int → Int → Int → Int → Mem → Prop} {Q R : Int → Mem → Prop} (hX3 : ∀ x2 x3 x4 x5 s, X3 x2 x3 x4 x5 s → Y3 x2 x3 x4 x5 s) (hX75 : ∀ x2 x3 x4 x5 x6 x8 s, X75 x2 x3 x4 x5 x6 x8 s → Y75 x2 x3 x4 x5 x6 x8 s) (hX98 : ∀ x2 x3 x4 x5 x6 x8 s, X98 x2 x3 x4 x5 x6 x8 s → Y98 x2 x3 x4 x5 x6 x8 s) (hQ : ∀ r s, Q r s → R r s) {x2 : Nat} {x3 : Int} {x4 : Int} {x5 : Int} {x6 : Int} {x8 : Int} {s : Mem} (h : x3_fillSystem_b98 o X3 X75 X98 Q x2 x3 x4 x5 x6 x8 s) : x3_fillSystem_b98 o Y3 Y75 Y98 R x2 x3 x4 x5 x6 x8 s :=
  ⟨h.1, have h := h.2; fun s6 e_s6 => have h := h s6 e_s6; ⟨h.1, have h := h.2; fun s7 e_s7 => have h := h s7 e_s7; hX3 _ _ _ _ _ h⟩⟩
def x3_fillSystem (o : Nat) (p2 : Nat) (p3 : Int) (p4 : Int) (s : Mem) (Q : Int → Mem → Prop) : Prop := ∀ (X3 : Nat → Int → Int → Int → Mem → Prop) (X75 : Nat → Int → Int → Int → Int → Int → Mem → Prop) (X98 : Nat → Int → Int → Int → Int → Int → Mem → Prop), (∀ x2 x3 x4 x5 s, x3_fillSystem_b3 o X3 X75 X98 Q x2 x3 x4 x5 s → X3 x2 x3 x4 x5 s) → (∀ x2 x3 x4 x5 x6 x8 s, x3_fillSystem_b75 o X3 X75 X98 Q x2 x3 x4 x5 x6 x8 s → X75 x2 x3 x4 x5 x6 x8 s) → (∀ x2 x3 x4 x5 x6 x8 s, x3_fillSystem_b98 o X3 X75 X98 Q x2 x3 x4 x5 x6 x8 s → X98 x2 x3 x4 x5 x6 x8 s) → x3_fillSystem_be X3 X75 X98 Q o p2 p3 p4 s
def x3_fillSystem_L3 (o : Nat) (Q : Int → Mem → Prop) (x2 : Nat) (x3 : Int) (x4 : Int) (x5 : Int) (s : Mem) : Prop := ∀ (X3 : Nat → Int → Int → Int → Mem → Prop) (X75 : Nat → Int → Int → Int → Int → Int → Mem → Prop) (X98 : Nat → Int → Int → Int → Int → Int → Mem → Prop), (∀ x2 x3 x4 x5 s, x3_fillSystem_b3 o X3 X75 X98 Q x2 x3 x4 x5 s → X3 x2 x3 x4 x5 s) → (∀ x2 x3 x4 x5 x6 x8 s, x3_fillSystem_b75 o X3 X75 X98 Q x2 x3 x4 x5 x6 x8 s → X75 x2 x3 x4 x5 x6 x8 s) → (∀ x2 x3 x4 x5 x6 x8 s, x3_fillSystem_b98 o X3 X75 X98 Q x2 x3 x4 x5 x6 x8 s → X98 x2 x3 x4 x5 x6 x8 s) → X3 x2 x3 x4 x5 s
def x3_fillSystem_L75 (o : Nat) (Q : Int → Mem → Prop) (x2 : Nat) (x3 : Int) (x4 : Int) (x5 : Int) (x6 : Int) (x8 : Int) (s : Mem) : Prop := ∀ (X3 : Nat → Int → Int → Int → Mem → Prop) (X75 : Nat → Int → Int → Int → Int → Int → Mem → Prop) (X98 : Nat → Int → Int → Int → Int → Int → Mem → Prop), (∀ x2 x3 x4 x5 s, x3_fillSystem_b3 o X3 X75 X98 Q x2 x3 x4 x5 s → X3 x2 x3 x4 x5 s) → (∀ x2 x3 x4 x5 x6 x8 s, x3_fillSystem_b75 o X3 X75 X98 Q x2 x3 x4 x5 x6 x8 s → X75 x2 x3 x4 x5 x6 x8 s) → (∀ x2 x3 x4 x5 x6 x8 s, x3_fillSystem_b98 o X3 X75 X98 Q x2 x3 x4 x5 x6 x8 s → X98 x2 x3 x4 x5 x6 x8 s) → X75 x2 x3 x4 x5 x6 x8 s
def x3_fillSystem_L98 (o : Nat) (Q : Int → Mem → Prop) (x2 : Nat) (x3 : Int) (x4 : Int) (x5 : Int) (x6 : Int) (x8 : Int) (s : Mem) : Prop := ∀ (X3 : Nat → Int → Int → Int → Mem → Prop) (X75 : Nat → Int → Int → Int → Int → Int → Mem → Prop) (X98 : Nat → Int → Int → Int → Int → Int → Mem → Prop), (∀ x2 x3 x4 x5 s, x3_fillSystem_b3 o X3 X75 X98 Q x2 x3 x4 x5 s → X3 x2 x3 x4 x5 s) → (∀ x2 x3 x4 x5 x6 x8 s, x3_fillSystem_b75 o X3 X75 X98 Q x2 x3 x4 x5 x6 x8 s → X75 x2 x3 x4 x5 x6 x8 s) → (∀ x2 x3 x4 x5 x6 x8 s, x3_fillSystem_b98 o X3 X75 X98 Q x2 x3 x4 x5 x6 x8 s → X98 x2 x3 x4 x5 x6 x8 s) → X98 x2 x3 x4 x5 x6 x8 s
theorem x3_fillSystem_i {Q : Int → Mem → Prop} {o : Nat} {p2 : Nat} {p3 : Int} {p4 : Int} {s : Mem} (h : x3_fillSystem_be (x3_fillSystem_L3 o Q) (x3_fillSystem_L75 o Q) (x3_fillSystem_L98 o Q) Q o p2 p3 p4 s) : x3_fillSystem o p2 p3 p4 s Q := fun X3 X75 X98 k3 k75 k98 => x3_fillSystem_me (fun _ _ _ _ _ h => h X3 X75 X98 k3 k75 k98) (fun _ _ _ _ _ _ _ h => h X3 X75 X98 k3 k75 k98) (fun _ _ _ _ _ _ _ h => h X3 X75 X98 k3 k75 k98) (fun _ _ h => h) h
theorem x3_fillSystem_s3 {o : Nat} {Q : Int → Mem → Prop} {x2 : Nat} {x3 : Int} {x4 : Int} {x5 : Int} {s : Mem} (h : x3_fillSystem_b3 o (x3_fillSystem_L3 o Q) (x3_fillSystem_L75 o Q) (x3_fillSystem_L98 o Q) Q x2 x3 x4 x5 s) : x3_fillSystem_L3 o Q x2 x3 x4 x5 s := fun X3 X75 X98 k3 k75 k98 => k3 _ _ _ _ _ (x3_fillSystem_m3 (fun _ _ _ _ _ h => h X3 X75 X98 k3 k75 k98) (fun _ _ _ _ _ _ _ h => h X3 X75 X98 k3 k75 k98) (fun _ _ _ _ _ _ _ h => h X3 X75 X98 k3 k75 k98) (fun _ _ h => h) h)
theorem x3_fillSystem_s75 {o : Nat} {Q : Int → Mem → Prop} {x2 : Nat} {x3 : Int} {x4 : Int} {x5 : Int} {x6 : Int} {x8 : Int} {s : Mem} (h : x3_fillSystem_b75 o (x3_fillSystem_L3 o Q) (x3_fillSystem_L75 o Q) (x3_fillSystem_L98 o Q) Q x2 x3 x4 x5 x6 x8 s) : x3_fillSystem_L75 o Q x2 x3 x4 x5 x6 x8 s := fun X3 X75 X98 k3 k75 k98 => k75 _ _ _ _ _ _ _ (x3_fillSystem_m75 (fun _ _ _ _ _ h => h X3 X75 X98 k3 k75 k98) (fun _ _ _ _ _ _ _ h => h X3 X75 X98 k3 k75 k98) (fun _ _ _ _ _ _ _ h => h X3 X75 X98 k3 k75 k98) (fun _ _ h => h) h)
theorem x3_fillSystem_s98 {o : Nat} {Q : Int → Mem → Prop} {x2 : Nat} {x3 : Int} {x4 : Int} {x5 : Int} {x6 : Int} {x8 : Int} {s : Mem} (h : x3_fillSystem_b98 o (x3_fillSystem_L3 o Q) (x3_fillSystem_L75 o Q) (x3_fillSystem_L98 o Q) Q x2 x3 x4 x5 x6 x8 s) : x3_fillSystem_L98 o Q x2 x3 x4 x5 x6 x8 s := fun X3 X75 X98 k3 k75 k98 => k98 _ _ _ _ _ _ _ (x3_fillSystem_m98 (fun _ _ _ _ _ h => h X3 X75 X98 k3 k75 k98) (fun _ _ _ _ _ _ _ h => h X3 X75 X98 k3 k75 k98) (fun _ _ _ _ _ _ _ h => h X3 X75 X98 k3 k75 k98) (fun _ _ h => h) h)
theorem x3_fillSystem_mono {Q R : Int → Mem → Prop} {o : Nat} {p2 : Nat} {p3 : Int} {p4 : Int} {s : Mem} (h : x3_fillSystem o p2 p3 p4 s Q) (hQ : ∀ r s, Q r s → R r s) : x3_fillSystem o p2 p3 p4 s R := fun X3 X75 X98 k3 k75 k98 => x3_fillSystem_me (fun _ _ _ _ _ h => h) (fun _ _ _ _ _ _ _ h => h) (fun _ _ _ _ _ _ _ h => h) hQ (h X3 X75 X98 (fun _ _ _ _ _ h => k3 _ _ _ _ _ (x3_fillSystem_m3 (fun _ _ _ _ _ h => h) (fun _ _ _ _ _ _ _ h => h) (fun _ _ _ _ _ _ _ h => h) hQ h)) (fun _ _ _ _ _ _ _ h => k75 _ _ _ _ _ _ _ (x3_fillSystem_m75 (fun _ _ _ _ _ h => h) (fun _ _ _ _ _ _ _ h => h) (fun _ _ _ _ _ _ _ h => h) hQ h)) (fun _ _ _ _ _ _ _ h => k98 _ _ _ _ _ _ _ (x3_fillSystem_m98 (fun _ _ _ _ _ h => h) (fun _ _ _ _ _ _ _ h => h) (fun _ _ _ _ _ _ _ h => h) hQ h)))
def x3_fillSystem_rm : Room := { frames := 0, cells := 0, slots := 0, locals := 0 }
theorem w_x3_fillSystem_48 : Cond.fieldLink RX3 48 "BoltRing$Joint" "bolts" "I" ∈ wsX3_fillSystem := by decide +kernel
theorem w_x3_fillSystem_68 : Cond.constantLong RX3 68 (2) ∈ wsX3_fillSystem := by decide +kernel
theorem w_x3_fillSystem_51 : Cond.fieldLink RX3 51 "BoltRing$Joint" "rib" "I" ∈ wsX3_fillSystem := by decide +kernel
theorem w_x3_fillSystem_70 : Cond.fieldLink RX3 70 "BoltRing$Joint" "stiffness" "[I" ∈ wsX3_fillSystem := by decide +kernel
theorem w_x3_fillSystem_74 : Cond.fieldLink RX3 74 "BoltRing$Joint" "turns" "[I" ∈ wsX3_fillSystem := by decide +kernel
theorem w_x3_fillSystem_77 : Cond.fieldLink RX3 77 "BoltRing$Joint" "pads" "[I" ∈ wsX3_fillSystem := by decide +kernel
theorem w_x3_fillSystem_19 : Cond.fieldLink RX3 19 "BoltRing$Lifts" "diagonal" "[J" ∈ wsX3_fillSystem := by decide +kernel
theorem w_x3_fillSystem_22 : Cond.fieldLink RX3 22 "BoltRing$Lifts" "side" "[J" ∈ wsX3_fillSystem := by decide +kernel
theorem in_x3_fillSystem_X2 : ∀ w ∈ wsX20, w ∈ wsX3_fillSystem := by decide +kernel
theorem in_x3_fillSystem_X3 : ∀ w ∈ wsX30, w ∈ wsX3_fillSystem := by decide +kernel
set_option maxHeartbeats 4000000 in
set_option maxRecDepth 100000 in
theorem x3_fillSystem_bd {κ : KT} {ad : Nat → Nat} {cA : Nat → ClassId} {D : va_G} {Q : State → Prop} {o : Nat} {p2 : Nat} {p3 : Int} {p4 : Int} {s : Mem} (ho : LfA o) (C : CX κ (GA ad cA D) RX3 cX3_fillSystem 10 wsX3_fillSystem x3_fillSystem_rm none) (h : x3_fillSystem o p2 p3 p4 s (RT κ (GA ad cA D) ocV Q)) : WM κ (GA ad cA D) 10 Q s 0 [(0, .ref (ad o)), (1, .ref (ad 1)), (2, .ref (ad p2)), (3, vI p3), (4, vI p4)] [] := by
  obtain ⟨Z3, z3⟩ : ∃ Z : Nat → Int → Int → Int → Mem → Prop, ∀ x2 x3 x4 x5 s, Z x2 x3 x4 x5 s ↔ WM κ (GA ad cA D) 10 Q s 3 [(0, .ref (ad o)), (1, .ref (ad 1)), (2, .ref (ad x2)), (3, vI x3), (4, vI x4), (5, vI x5)] [] := ⟨fun x2 x3 x4 x5 s => WM κ (GA ad cA D) 10 Q s 3 [(0, .ref (ad o)), (1, .ref (ad 1)), (2, .ref (ad x2)), (3, vI x3), (4, vI x4), (5, vI x5)] [], fun _ _ _ _ _ => Iff.rfl⟩
  obtain ⟨Z75, z75⟩ : ∃ Z : Nat → Int → Int → Int → Int → Int → Mem → Prop, ∀ x2 x3 x4 x5 x6 x8 s, Z x2 x3 x4 x5 x6 x8 s ↔ WM κ (GA ad cA D) 10 Q s 75 [(0, .ref (ad o)), (1, .ref (ad 1)), (2, .ref (ad x2)), (3, vI x3), (4, vI x4), (5, vI x5), (6, vL x6), (8, vL x8)] [] := ⟨fun x2 x3 x4 x5 x6 x8 s => WM κ (GA ad cA D) 10 Q s 75 [(0, .ref (ad o)), (1, .ref (ad 1)), (2, .ref (ad x2)), (3, vI x3), (4, vI x4), (5, vI x5), (6, vL x6), (8, vL x8)] [], fun _ _ _ _ _ _ _ => Iff.rfl⟩
  obtain ⟨Z98, z98⟩ : ∃ Z : Nat → Int → Int → Int → Int → Int → Mem → Prop, ∀ x2 x3 x4 x5 x6 x8 s, Z x2 x3 x4 x5 x6 x8 s ↔ WM κ (GA ad cA D) 10 Q s 98 [(0, .ref (ad o)), (1, .ref (ad 1)), (2, .ref (ad x2)), (3, vI x3), (4, vI x4), (5, vI x5), (6, vL x6), (8, vL x8)] [] := ⟨fun x2 x3 x4 x5 x6 x8 s => WM κ (GA ad cA D) 10 Q s 98 [(0, .ref (ad o)), (1, .ref (ad 1)), (2, .ref (ad x2)), (3, vI x3), (4, vI x4), (5, vI x5), (6, vL x6), (8, vL x8)] [], fun _ _ _ _ _ _ _ => Iff.rfl⟩
  refine (fun h => ?_) (h Z3 Z75 Z98 ?_ ?_ ?_)
  · refine r_iconst C dX3_fillSystem_0 ?_
    refine r_istore (ls' := [(5, vI (0 : Int)), (0, .ref (ad o)), (1, .ref (ad 1)), (2, .ref (ad p2)), (3, vI p3), (4, vI p4)]) C dX3_fillSystem_1 (by decide) rfl ?_
    exact r_perm [1, 2, 3, 4, 5, 0] rfl ((z3 _ _ _ _ _).1 h)
  · intro x2 x3 x4 x5 s h
    refine (z3 _ _ _ _ _).2 ?_
    refine r_iload C 5 dX3_fillSystem_3 rfl ?_
    refine r_aload_n C 1 dX3_fillSystem_5 rfl ?_
    refine r_get (j := 0) (jz := 0) (v := vI (s 1 (0 : Int))) C dX3_fillSystem_6 (shA_1) rfl rfl (by decide) in_x3_fillSystem_X2 w_x3_fillSystem_48 rfl rfl rfl ?_
    refine r_icmp_ge (tgt := 122) C dX3_fillSystem_9 (by decide) ⟨h.1, fun c4 => ?_, fun c4 => ?_⟩
    · have h := h.2.1 c4
      exact r_return C dX3_fillSystem_122 h
    · have h := h.2.2 c4
      refine r_ldc2 (z := 2) C dX3_fillSystem_12 w_x3_fillSystem_68 rfl ?_
      refine r_aload_n C 1 dX3_fillSystem_15 rfl ?_
      refine r_get (j := 1) (jz := 1) (v := vI (s 1 (1 : Int))) C dX3_fillSystem_16 (shA_1) rfl rfl (by decide) in_x3_fillSystem_X2 w_x3_fillSystem_51 rfl rfl rfl ?_
      refine r_i2l C dX3_fillSystem_19 ⟨h.1, ?_⟩
      have h := h.2
      refine r_lmul C dX3_fillSystem_20 ?_
      refine r_lstore (ls' := [(6, vL ((2 : Int) * (s 1 (1 : Int)))), (0, .ref (ad o)), (1, .ref (ad 1)), (2, .ref (ad x2)), (3, vI x3), (4, vI x4), (5, vI x5)]) C dX3_fillSystem_21 (by decide) rfl ?_
      refine r_aload_n C 3 dX3_fillSystem_23 rfl ?_
      refine r_iload C 6 dX3_fillSystem_24 rfl ?_
      have hg := h.1
      have h := h.2
      refine r_iald (nz := 6) C dX3_fillSystem_26 (hg) rfl (by decide) ⟨h.1, ?_⟩
      have h := h.2
      refine r_ineg C dX3_fillSystem_27 ?_
      refine r_i2l C dX3_fillSystem_28 ⟨h.1, ?_⟩
      have h := h.2
      refine r_lstore (ls' := [(8, vL (-(s x2 x5))), (6, vL ((2 : Int) * (s 1 (1 : Int)))), (0, .ref (ad o)), (1, .ref (ad 1)), (2, .ref (ad x2)), (3, vI x3), (4, vI x4), (5, vI x5)]) C dX3_fillSystem_29 (by decide) rfl ?_
      refine r_iload_n C 5 dX3_fillSystem_31 rfl ?_
      refine r_iload C 7 dX3_fillSystem_32 rfl ?_
      refine r_ishr C dX3_fillSystem_34 ?_
      refine r_iconst C dX3_fillSystem_35 ?_
      refine r_iand C dX3_fillSystem_36 ?_
      refine r_if_eq (tgt := 75) C dX3_fillSystem_37 (by decide) ⟨h.1, fun c3 => ?_, fun c3 => ?_⟩
      · have h := h.2.1 c3
        exact r_perm [2, 3, 4, 5, 6, 7, 1, 0] rfl ((z75 _ _ _ _ _ _ _).1 h)
      · have h := h.2.2 c3
        refine r_lload C 1 dX3_fillSystem_40 rfl ?_
        refine r_aload_n C 3 dX3_fillSystem_42 rfl ?_
        refine r_get (j := 3) (jz := 3) (v := .ref (ad 2)) C dX3_fillSystem_43 (shA_1) rfl rfl (by decide) in_x3_fillSystem_X2 w_x3_fillSystem_70 rfl rfl rfl ?_
        refine r_iload C 7 dX3_fillSystem_46 rfl ?_
        refine r_iald (nz := 6) C dX3_fillSystem_48 (shA_2) rfl (by decide) ⟨h.1, ?_⟩
        have h := h.2
        refine r_i2l C dX3_fillSystem_49 ⟨h.1, ?_⟩
        have h := h.2
        refine r_ladd C dX3_fillSystem_50 ?_
        refine r_topL (fun v1 e_v1 => ?_)
        have h := h v1 e_v1
        refine r_lstore (ls' := [(6, vL v1), (8, vL (-(s x2 x5))), (0, .ref (ad o)), (1, .ref (ad 1)), (2, .ref (ad x2)), (3, vI x3), (4, vI x4), (5, vI x5)]) C dX3_fillSystem_51 (by decide) rfl ?_
        refine r_lload C 1 dX3_fillSystem_53 rfl ?_
        refine r_aload_n C 3 dX3_fillSystem_55 rfl ?_
        refine r_get (j := 3) (jz := 3) (v := .ref (ad 2)) C dX3_fillSystem_56 (shA_1) rfl rfl (by decide) in_x3_fillSystem_X2 w_x3_fillSystem_70 rfl rfl rfl ?_
        refine r_iload C 7 dX3_fillSystem_59 rfl ?_
        refine r_iald (nz := 6) C dX3_fillSystem_61 (shA_2) rfl (by decide) ⟨h.1, ?_⟩
        have h := h.2
        refine r_i2l C dX3_fillSystem_62 ⟨h.1, ?_⟩
        have h := h.2
        refine r_aload_n C 3 dX3_fillSystem_63 rfl ?_
        refine r_get (j := 5) (jz := 5) (v := .ref (ad 4)) C dX3_fillSystem_64 (shA_1) rfl rfl (by decide) in_x3_fillSystem_X2 w_x3_fillSystem_74 rfl rfl rfl ?_
        refine r_iload C 7 dX3_fillSystem_67 rfl ?_
        refine r_iald (nz := 6) C dX3_fillSystem_69 (shA_4) rfl (by decide) ⟨h.1, ?_⟩
        have h := h.2
        refine r_i2l C dX3_fillSystem_70 ⟨h.1, ?_⟩
        have h := h.2
        refine r_lmul C dX3_fillSystem_71 ?_
        refine r_ladd C dX3_fillSystem_72 ?_
        refine r_topL (fun v2 e_v2 => ?_)
        have h := h v2 e_v2
        refine r_lstore (ls' := [(8, vL v2), (6, vL v1), (0, .ref (ad o)), (1, .ref (ad 1)), (2, .ref (ad x2)), (3, vI x3), (4, vI x4), (5, vI x5)]) C dX3_fillSystem_73 (by decide) rfl ?_
        exact r_perm [2, 3, 4, 5, 6, 7, 1, 0] rfl ((z75 _ _ _ _ _ _ _).1 h)
  · intro x2 x3 x4 x5 x6 x8 s h
    refine (z75 _ _ _ _ _ _ _).2 ?_
    refine r_iload C 4 dX3_fillSystem_75 rfl ?_
    refine r_iload C 5 dX3_fillSystem_77 rfl ?_
    refine r_ishr C dX3_fillSystem_79 ?_
    refine r_iconst C dX3_fillSystem_80 ?_
    refine r_iand C dX3_fillSystem_81 ?_
    refine r_if_eq (tgt := 98) C dX3_fillSystem_82 (by decide) ⟨h.1, fun c5 => ?_, fun c5 => ?_⟩
    · have h := h.2.1 c5
      exact r_perm [0, 1, 2, 3, 4, 5, 6, 7] rfl ((z98 _ _ _ _ _ _ _).1 h)
    · have h := h.2.2 c5
      refine r_lload C 6 dX3_fillSystem_85 rfl ?_
      refine r_aload_n C 1 dX3_fillSystem_87 rfl ?_
      refine r_get (j := 4) (jz := 4) (v := .ref (ad 3)) C dX3_fillSystem_88 (shA_1) rfl rfl (by decide) in_x3_fillSystem_X2 w_x3_fillSystem_77 rfl rfl rfl ?_
      refine r_iload C 5 dX3_fillSystem_91 rfl ?_
      refine r_iald (nz := 6) C dX3_fillSystem_93 (shA_3) rfl (by decide) ⟨h.1, ?_⟩
      have h := h.2
      refine r_i2l C dX3_fillSystem_94 ⟨h.1, ?_⟩
      have h := h.2
      refine r_ladd C dX3_fillSystem_95 ?_
      refine r_lstore (ls' := [(6, vL (x6 + (s 3 x5))), (0, .ref (ad o)), (1, .ref (ad 1)), (2, .ref (ad x2)), (3, vI x3), (4, vI x4), (5, vI x5), (8, vL x8)]) C dX3_fillSystem_96 (by decide) rfl ?_
      exact r_perm [1, 2, 3, 4, 5, 6, 0, 7] rfl ((z98 _ _ _ _ _ _ _).1 h)
  · intro x2 x3 x4 x5 x6 x8 s h
    refine (z98 _ _ _ _ _ _ _).2 ?_
    refine r_aload_n C 0 dX3_fillSystem_98 rfl ?_
    refine r_get (j := 2) (jz := 2) (v := .ref (ad (o + 2))) C dX3_fillSystem_99 (lf_0 ho) rfl rfl (by decide) in_x3_fillSystem_X3 w_x3_fillSystem_19 rfl rfl rfl ?_
    refine r_iload C 5 dX3_fillSystem_102 rfl ?_
    refine r_lload C 6 dX3_fillSystem_104 rfl ?_
    refine r_last (nz := 6) C dX3_fillSystem_106 (lf_2 ho) rfl (by decide) ⟨h.1, fun s6 e_s6 => ?_⟩
    have h := h.2 s6 e_s6
    refine r_aload_n C 0 dX3_fillSystem_107 rfl ?_
    refine r_get (j := 3) (jz := 3) (v := .ref (ad (o + 3))) C dX3_fillSystem_108 (lf_0 ho) rfl rfl (by decide) in_x3_fillSystem_X3 w_x3_fillSystem_22 rfl rfl rfl ?_
    refine r_iload C 5 dX3_fillSystem_111 rfl ?_
    refine r_lload C 7 dX3_fillSystem_113 rfl ?_
    refine r_last (nz := 6) C dX3_fillSystem_115 (lf_3 ho) rfl (by decide) ⟨h.1, fun s7 e_s7 => ?_⟩
    have h := h.2 s7 e_s7
    refine r_iinc (j := 5) (ls' := [(5, vI (x5 + (1 : Int))), (0, .ref (ad o)), (1, .ref (ad 1)), (2, .ref (ad x2)), (3, vI x3), (4, vI x4), (6, vL x6), (8, vL x8)]) C dX3_fillSystem_116 rfl (by decide) rfl ?_
    refine r_goto (tgt := 3) C dX3_fillSystem_119 (by decide) ?_
    exact r_perm [1, 2, 3, 4, 5, 0] rfl ((z3 _ _ _ _ _).1 h)
theorem x3_fillSystem_ct (l : Launch) (ad : Nat → Nat) (cA : Nat → ClassId) (D : va_G) (o : Nat) (p2 : Nat) (p3 : Int) (p4 : Int) (s : Mem) (ho : LfA o) : MG l yX3_fillSystem wsX3_fillSystem x3_fillSystem_rm ocV [.ref (ad o), .ref (ad 1), .ref (ad p2), vI p3, vI p4] (GA ad cA D) s (x3_fillSystem o p2 p3 p4 s) :=
  m_met (own := RX3) (nL := 10) (by decide) rfl rfl (Nat.le_of_ble_eq_true rfl) rfl rfl rfl (fun κ hl C Q Pst hW hQ => x3_fillSystem_bd ho C (x3_fillSystem_mono hW hQ))

def x3_fillArcs_be (X9 : Int → Int → Int → Int → Mem → Prop) (X53 : Int → Int → Int → Int → Int → Int → Int → Mem → Prop) (X75 : Int → Int → Int → Int → Int → Int → Int → Mem → Prop) (X144 : Int → Int → Int → Mem → Prop) (Q : Int → Mem → Prop) (o : Nat) (p1 : Int) (p2 : Int) (s : Mem) : Prop :=
  (InI p2) ∧ (InI p2) ∧ X9 p1 p2 (p2 * p2) (0 : Int) s
def x3_fillArcs_b9 (o : Nat) (X9 : Int → Int → Int → Int → Mem → Prop) (X53 : Int → Int → Int → Int → Int → Int → Int → Mem → Prop) (X75 : Int → Int → Int → Int → Int → Int → Int → Mem → Prop) (X144 : Int → Int → Int → Mem → Prop) (Q : Int → Mem → Prop) (x1 : Int) (x2 : Int) (x3 : Int) (x5 : Int) (s : Mem) : Prop :=
  (InI x5 ∧ InI x1) ∧ (x1 ≤ x5 → ((0 : Int) ≤ (0 : Int) ∧ (0 : Int) < 7) ∧ ∀ s1 : Mem, s1 = m_upd s (o + 4) (0 : Int) (1 : Int) → X144 x1 x2 (1 : Int) s1) ∧ (x5 < x1 → ((0 : Int) ≤ ((6 : Int) * x5) ∧ ((6 : Int) * x5) < 36) ∧ ∀ s2 : Mem, s2 = m_upd s (o + 5) ((6 : Int) * x5) (1 : Int) → ((0 : Int) ≤ x5 ∧ x5 < 6) ∧ ((0 : Int) ≤ (((6 : Int) * x5) + (1 : Int)) ∧ (((6 : Int) * x5) + (1 : Int)) < 36) ∧ ∀ s3 : Mem, s3 = m_upd s2 (o + 5) (((6 : Int) * x5) + (1 : Int)) (s2 (o + 2) x5) → X53 x1 x2 x3 x5 ((6 : Int) * x5) x5 (2 : Int) s3)
def x3_fillArcs_b53 (o : Nat) (X9 : Int → Int → Int → Int → Mem → Prop) (X53 : Int → Int → Int → Int → Int → Int → Int → Mem → Prop) (X75 : Int → Int → Int → Int → Int → Int → Int → Mem → Prop) (X144 : Int → Int → Int → Mem → Prop) (Q : Int → Mem → Prop) (x1 : Int) (x2 : Int) (x3 : Int) (x5 : Int) (x6 : Int) (x7 : Int) (x8 : Int) (s : Mem) : Prop :=
  (InI x8 ∧ InI x1) ∧ (x1 ≤ x8 → X9 x1 x2 x3 (x5 + (1 : Int)) s) ∧ (x8 < x1 → (InI (x7 + (1 : Int)) ∧ InI x1) ∧ (x1 ≤ (x7 + (1 : Int)) → X75 x1 x2 x3 x5 x6 x8 (0 : Int) s) ∧ ((x7 + (1 : Int)) < x1 → X75 x1 x2 x3 x5 x6 x8 (x7 + (1 : Int)) s))
def x3_fillArcs_b75 (o : Nat) (X9 : Int → Int → Int → Int → Mem → Prop) (X53 : Int → Int → Int → Int → Int → Int → Int → Mem → Prop) (X75 : Int → Int → Int → Int → Int → Int → Int → Mem → Prop) (X144 : Int → Int → Int → Mem → Prop) (Q : Int → Mem → Prop) (x1 : Int) (x2 : Int) (x3 : Int) (x5 : Int) (x6 : Int) (x8 : Int) (t0 : Int) (s : Mem) : Prop :=
  ((0 : Int) ≤ t0 ∧ t0 < 6) ∧ ((0 : Int) ≤ ((x6 + x8) - (1 : Int)) ∧ ((x6 + x8) - (1 : Int)) < 36) ∧ ((0 : Int) ≤ ((x6 + x8) - (2 : Int)) ∧ ((x6 + x8) - (2 : Int)) < 36) ∧ ((0 : Int) ≤ (x6 + x8) ∧ (x6 + x8) < 36) ∧ ∀ s7 : Mem, s7 = m_upd s (o + 5) (x6 + x8) (((s (o + 2) t0) * (s (o + 5) ((x6 + x8) - (1 : Int)))) - (x3 * (s (o + 5) ((x6 + x8) - (2 : Int))))) → X53 x1 x2 x3 x5 x6 t0 (x8 + (1 : Int)) s7
def x3_fillArcs_b144 (o : Nat) (X9 : Int → Int → Int → Int → Mem → Prop) (X53 : Int → Int → Int → Int → Int → Int → Int → Mem → Prop) (X75 : Int → Int → Int → Int → Int → Int → Int → Mem → Prop) (X144 : Int → Int → Int → Mem → Prop) (Q : Int → Mem → Prop) (x1 : Int) (x2 : Int) (x5 : Int) (s : Mem) : Prop :=
  (InI x5 ∧ InI x1) ∧ (x1 < x5 → Q (0 : Int) s) ∧ (x5 ≤ x1 → ((0 : Int) ≤ (x5 - (1 : Int)) ∧ (x5 - (1 : Int)) < 7) ∧ (InI x2) ∧ ((0 : Int) ≤ x5 ∧ x5 < 7) ∧ ∀ s8 : Mem, s8 = m_upd s (o + 4) x5 ((s (o + 4) (x5 - (1 : Int))) * x2) → X144 x1 x2 (x5 + (1 : Int)) s8)
theorem x3_fillArcs_me {X9 Y9 : Int → Int → Int → Int → Mem → Prop} {X53 Y53 : Int → Int → Int → Int → Int → Int → Int → Mem → Prop} {X75 Y75 : Int → Int → Int → Int → Int → Int → Int → Mem → Prop} {X144 Y144 : Int → Int → Int → Mem → Prop} {Q R : Int → Mem → Prop} (hX9 : ∀ x1 x2 x3 x5 s, X9 x1 x2 x3 x5 s → Y9 x1 x2 x3 x5 s) (hX53 : ∀ x1 x2 x3 x5 x6 x7 x8 s, X53 x1 x2 x3 x5 x6 x7 x8 s → Y53 x1 x2 x3 x5 x6 x7 x8 s) (hX75 : ∀ x1 x2 x3 x5 x6 x8 t0 s, X75 x1 x2 x3 x5 x6 x8 t0 s → Y75 x1 x2 x3 x5 x6 x8 t0 s) (hX144 : ∀ x1 x2 x5 s, X144 x1 x2 x5 s → Y144 x1 x2 x5 s) (hQ : ∀ r s, Q r s → R r s) {o : Nat} {p1 : Int} {p2 : Int} {s : Mem} (h : x3_fillArcs_be X9 X53 X75 X144 Q o p1 p2 s) : x3_fillArcs_be Y9 Y53 Y75 Y144 R o p1 p2 s :=
  ⟨h.1, have h := h.2; ⟨h.1, have h := h.2; hX9 _ _ _ _ _ h⟩⟩
theorem x3_fillArcs_m9 {o : Nat} {X9 Y9 : Int → Int → Int → Int → Mem → Prop} {X53 Y53 : Int → Int → Int → Int → Int → Int → Int → Mem → Prop} {X75 Y75 : Int → Int → Int → Int → Int → Int → Int → Mem → Prop} {X144 Y144 : Int → Int → Int → Mem → Prop} {Q R : Int → Mem → Prop} (hX9 : ∀ x1 x2 x3 x5 s, X9 x1 x2 x3 x5 s → Y9 x1 x2 x3 x5 s) (hX53 : ∀ x1 x2 x3 x5 x6 x7 x8 s, X53 x1 x2 x3 x5 x6 x7 x8 s → Y53 x1 x2 x3 x5 x6 x7 x8 s) (hX75 : ∀ x1 x2 x3 x5 x6 x8 t0 s, X75 x1 x2 x3 x5 x6 x8 t0 s → Y75 x1 x2 x3 x5 x6 x8 t0 s) (hX144 : ∀ x1 x2 x5 s, X144 x1 x2 x5 s → Y144 x1 x2 x5 s) (hQ : ∀ r s, Q r s → R r s) {x1 : Int} {x2 : Int} {x3 : Int} {x5 : Int} {s : Mem} (h : x3_fillArcs_b9 o X9 X53 X75 X144 Q x1 x2 x3 x5 s) : x3_fillArcs_b9 o Y9 Y53 Y75 Y144 R x1 x2 x3 x5 s :=
  ⟨h.1, fun c => have h := h.2.1 c; ⟨h.1, have h := h.2; fun s1 e_s1 => have h := h s1 e_s1; hX144 _ _ _ _ h⟩, fun c => have h := h.2.2 c; ⟨h.1, have h := h.2; fun s2 e_s2 => have h := h s2 e_s2; ⟨h.1, have h := h.2; ⟨h.1, have h := h.2; fun s3 e_s3 => have h := h s3 e_s3; hX53 _ _ _ _ _ _ _ _ h⟩⟩⟩⟩
theorem x3_fillArcs_m53 {o : Nat} {X9 Y9 : Int → Int → Int → Int → Mem → Prop} {X53 Y53 : Int → Int → Int → Int → Int → Int → Int → Mem → Prop} {X75 Y75 : Int → Int → Int → Int → Int → Int → Int → Mem → Prop} {X144 Y144 : Int → Int → Int → Mem → Prop} {Q R : Int → Mem → Prop} (hX9 : ∀ x1 x2 x3 x5 s, X9 x1 x2 x3 x5 s → Y9 x1 x2 x3 x5 s) (hX53 : ∀ x1 x2 x3 x5 x6 x7 x8 s, X53 x1 x2 x3 x5 x6 x7 x8 s → Y53 x1 x2 x3 x5 x6 x7 x8 s) (hX75 : ∀ x1 x2 x3 x5 x6 x8 t0 s, X75 x1 x2 x3 x5 x6 x8 t0 s → Y75 x1 x2 x3 x5 x6 x8 t0 s) (hX144 : ∀ x1 x2 x5 s, X144 x1 x2 x5 s → Y144 x1 x2 x5 s) (hQ : ∀ r s, Q r s → R r s) {x1 : Int} {x2 : Int} {x3 : Int} {x5 : Int} {x6 : Int} {x7 : Int} {x8 : Int} {s : Mem} (h : x3_fillArcs_b53 o X9 X53 X75 X144 Q x1 x2 x3 x5 x6 x7 x8 s) : x3_fillArcs_b53 o Y9 Y53 Y75 Y144 R x1 x2 x3 x5 x6 x7 x8 s :=
  ⟨h.1, fun c => have h := h.2.1 c; hX9 _ _ _ _ _ h, fun c => have h := h.2.2 c; ⟨h.1, fun c => have h := h.2.1 c; hX75 _ _ _ _ _ _ _ _ h, fun c => have h := h.2.2 c; hX75 _ _ _ _ _ _ _ _ h⟩⟩
theorem x3_fillArcs_m75 {o : Nat} {X9 Y9 : Int → Int → Int → Int → Mem → Prop} {X53 Y53 : Int → Int → Int → Int → Int → Int → Int → Mem → Prop} {X75 Y75 : Int → Int → Int → Int → Int → Int → Int → Mem → Prop} {X144 Y144 : Int → Int → Int → Mem → Prop} {Q R : Int → Mem → Prop} (hX9 : ∀ x1 x2 x3 x5 s, X9 x1 x2 x3 x5 s → Y9 x1 x2 x3 x5 s) (hX53 : ∀ x1 x2 x3 x5 x6 x7 x8 s, X53 x1 x2 x3 x5 x6 x7 x8 s → Y53 x1 x2 x3 x5 x6 x7 x8 s) (hX75 : ∀ x1 x2 x3 x5 x6 x8 t0 s, X75 x1 x2 x3 x5 x6 x8 t0 s → Y75 x1 x2 x3 x5 x6 x8 t0 s) (hX144 : ∀ x1 x2 x5 s, X144 x1 x2 x5 s → Y144 x1 x2 x5 s) (hQ : ∀ r s, Q r s → R r s) {x1 : Int} {x2 : Int} {x3 : Int} {x5 : Int} {x6 : Int} {x8 : Int} {t0 : Int} {s : Mem} (h : x3_fillArcs_b75 o X9 X53 X75 X144 Q x1 x2 x3 x5 x6 x8 t0 s) : x3_fillArcs_b75 o Y9 Y53 Y75 Y144 R x1 x2 x3 x5 x6 x8 t0 s :=
  ⟨h.1, have h := h.2; ⟨h.1, have h := h.2; ⟨h.1, have h := h.2; ⟨h.1, have h := h.2; fun s7 e_s7 => have h := h s7 e_s7; hX53 _ _ _ _ _ _ _ _ h⟩⟩⟩⟩
theorem x3_fillArcs_m144 {o : Nat} {X9 Y9 : Int → Int → Int → Int → Mem → Prop} {X53 Y53 : Int → Int → Int → Int → Int → Int → Int → Mem → Prop} {X75 Y75 : Int → Int → Int → Int → Int → Int → Int → Mem → Prop} {X144 Y144 : Int → Int → Int → Mem → Prop} {Q R : Int → Mem → Prop} (hX9 : ∀ x1 x2 x3 x5 s, X9 x1 x2 x3 x5 s → Y9 x1 x2 x3 x5 s) (hX53 : ∀ x1 x2 x3 x5 x6 x7 x8 s, X53 x1 x2 x3 x5 x6 x7 x8 s → Y53 x1 x2 x3 x5 x6 x7 x8 s) (hX75 : ∀ x1 x2 x3 x5 x6 x8 t0 s, X75 x1 x2 x3 x5 x6 x8 t0 s → Y75 x1 x2 x3 x5 x6 x8 t0 s) (hX144 : ∀ x1 x2 x5 s, X144 x1 x2 x5 s → Y144 x1 x2 x5 s) (hQ : ∀ r s, Q r s → R r s) {x1 : Int} {x2 : Int} {x5 : Int} {s : Mem} (h : x3_fillArcs_b144 o X9 X53 X75 X144 Q x1 x2 x5 s) : x3_fillArcs_b144 o Y9 Y53 Y75 Y144 R x1 x2 x5 s :=
  ⟨h.1, fun c => have h := h.2.1 c; hQ _ _ h, fun c => have h := h.2.2 c; ⟨h.1, have h := h.2; ⟨h.1, have h := h.2; ⟨h.1, have h := h.2; fun s8 e_s8 => have h := h s8 e_s8; hX144 _ _ _ _ h⟩⟩⟩⟩
def x3_fillArcs (o : Nat) (p1 : Int) (p2 : Int) (s : Mem) (Q : Int → Mem → Prop) : Prop := ∀ (X9 : Int → Int → Int → Int → Mem → Prop) (X53 : Int → Int → Int → Int → Int → Int → Int → Mem → Prop) (X75 : Int → Int → Int → Int → Int → Int → Int → Mem → Prop) (X144 : Int → Int → Int → Mem → Prop), (∀ x1 x2 x3 x5 s, x3_fillArcs_b9 o X9 X53 X75 X144 Q x1 x2 x3 x5 s → X9 x1 x2 x3 x5 s) → (∀ x1 x2 x3 x5 x6 x7 x8 s, x3_fillArcs_b53 o X9 X53 X75 X144 Q x1 x2 x3 x5 x6 x7 x8 s → X53 x1 x2 x3 x5 x6 x7 x8 s) → (∀ x1 x2 x3 x5 x6 x8 t0 s, x3_fillArcs_b75 o X9 X53 X75 X144 Q x1 x2 x3 x5 x6 x8 t0 s → X75 x1 x2 x3 x5 x6 x8 t0 s) → (∀ x1 x2 x5 s, x3_fillArcs_b144 o X9 X53 X75 X144 Q x1 x2 x5 s → X144 x1 x2 x5 s) → x3_fillArcs_be X9 X53 X75 X144 Q o p1 p2 s
def x3_fillArcs_L9 (o : Nat) (Q : Int → Mem → Prop) (x1 : Int) (x2 : Int) (x3 : Int) (x5 : Int) (s : Mem) : Prop := ∀ (X9 : Int → Int → Int → Int → Mem → Prop) (X53 : Int → Int → Int → Int → Int → Int → Int → Mem → Prop) (X75 : Int → Int → Int → Int → Int → Int → Int → Mem → Prop) (X144 : Int → Int → Int → Mem → Prop), (∀ x1 x2 x3 x5 s, x3_fillArcs_b9 o X9 X53 X75 X144 Q x1 x2 x3 x5 s → X9 x1 x2 x3 x5 s) → (∀ x1 x2 x3 x5 x6 x7 x8 s, x3_fillArcs_b53 o X9 X53 X75 X144 Q x1 x2 x3 x5 x6 x7 x8 s → X53 x1 x2 x3 x5 x6 x7 x8 s) → (∀ x1 x2 x3 x5 x6 x8 t0 s, x3_fillArcs_b75 o X9 X53 X75 X144 Q x1 x2 x3 x5 x6 x8 t0 s → X75 x1 x2 x3 x5 x6 x8 t0 s) → (∀ x1 x2 x5 s, x3_fillArcs_b144 o X9 X53 X75 X144 Q x1 x2 x5 s → X144 x1 x2 x5 s) → X9 x1 x2 x3 x5 s
def x3_fillArcs_L53 (o : Nat) (Q : Int → Mem → Prop) (x1 : Int) (x2 : Int) (x3 : Int) (x5 : Int) (x6 : Int) (x7 : Int) (x8 : Int) (s : Mem) : Prop := ∀ (X9 : Int → Int → Int → Int → Mem → Prop) (X53 : Int → Int → Int → Int → Int → Int → Int → Mem → Prop) (X75 : Int → Int → Int → Int → Int → Int → Int → Mem → Prop) (X144 : Int → Int → Int → Mem → Prop), (∀ x1 x2 x3 x5 s, x3_fillArcs_b9 o X9 X53 X75 X144 Q x1 x2 x3 x5 s → X9 x1 x2 x3 x5 s) → (∀ x1 x2 x3 x5 x6 x7 x8 s, x3_fillArcs_b53 o X9 X53 X75 X144 Q x1 x2 x3 x5 x6 x7 x8 s → X53 x1 x2 x3 x5 x6 x7 x8 s) → (∀ x1 x2 x3 x5 x6 x8 t0 s, x3_fillArcs_b75 o X9 X53 X75 X144 Q x1 x2 x3 x5 x6 x8 t0 s → X75 x1 x2 x3 x5 x6 x8 t0 s) → (∀ x1 x2 x5 s, x3_fillArcs_b144 o X9 X53 X75 X144 Q x1 x2 x5 s → X144 x1 x2 x5 s) → X53 x1 x2 x3 x5 x6 x7 x8 s
def x3_fillArcs_L75 (o : Nat) (Q : Int → Mem → Prop) (x1 : Int) (x2 : Int) (x3 : Int) (x5 : Int) (x6 : Int) (x8 : Int) (t0 : Int) (s : Mem) : Prop := ∀ (X9 : Int → Int → Int → Int → Mem → Prop) (X53 : Int → Int → Int → Int → Int → Int → Int → Mem → Prop) (X75 : Int → Int → Int → Int → Int → Int → Int → Mem → Prop) (X144 : Int → Int → Int → Mem → Prop), (∀ x1 x2 x3 x5 s, x3_fillArcs_b9 o X9 X53 X75 X144 Q x1 x2 x3 x5 s → X9 x1 x2 x3 x5 s) → (∀ x1 x2 x3 x5 x6 x7 x8 s, x3_fillArcs_b53 o X9 X53 X75 X144 Q x1 x2 x3 x5 x6 x7 x8 s → X53 x1 x2 x3 x5 x6 x7 x8 s) → (∀ x1 x2 x3 x5 x6 x8 t0 s, x3_fillArcs_b75 o X9 X53 X75 X144 Q x1 x2 x3 x5 x6 x8 t0 s → X75 x1 x2 x3 x5 x6 x8 t0 s) → (∀ x1 x2 x5 s, x3_fillArcs_b144 o X9 X53 X75 X144 Q x1 x2 x5 s → X144 x1 x2 x5 s) → X75 x1 x2 x3 x5 x6 x8 t0 s
def x3_fillArcs_L144 (o : Nat) (Q : Int → Mem → Prop) (x1 : Int) (x2 : Int) (x5 : Int) (s : Mem) : Prop := ∀ (X9 : Int → Int → Int → Int → Mem → Prop) (X53 : Int → Int → Int → Int → Int → Int → Int → Mem → Prop) (X75 : Int → Int → Int → Int → Int → Int → Int → Mem → Prop) (X144 : Int → Int → Int → Mem → Prop), (∀ x1 x2 x3 x5 s, x3_fillArcs_b9 o X9 X53 X75 X144 Q x1 x2 x3 x5 s → X9 x1 x2 x3 x5 s) → (∀ x1 x2 x3 x5 x6 x7 x8 s, x3_fillArcs_b53 o X9 X53 X75 X144 Q x1 x2 x3 x5 x6 x7 x8 s → X53 x1 x2 x3 x5 x6 x7 x8 s) → (∀ x1 x2 x3 x5 x6 x8 t0 s, x3_fillArcs_b75 o X9 X53 X75 X144 Q x1 x2 x3 x5 x6 x8 t0 s → X75 x1 x2 x3 x5 x6 x8 t0 s) → (∀ x1 x2 x5 s, x3_fillArcs_b144 o X9 X53 X75 X144 Q x1 x2 x5 s → X144 x1 x2 x5 s) → X144 x1 x2 x5 s
theorem x3_fillArcs_i {Q : Int → Mem → Prop} {o : Nat} {p1 : Int} {p2 : Int} {s : Mem} (h : x3_fillArcs_be (x3_fillArcs_L9 o Q) (x3_fillArcs_L53 o Q) (x3_fillArcs_L75 o Q) (x3_fillArcs_L144 o Q) Q o p1 p2 s) : x3_fillArcs o p1 p2 s Q := fun X9 X53 X75 X144 k9 k53 k75 k144 => x3_fillArcs_me (fun _ _ _ _ _ h => h X9 X53 X75 X144 k9 k53 k75 k144) (fun _ _ _ _ _ _ _ _ h => h X9 X53 X75 X144 k9 k53 k75 k144) (fun _ _ _ _ _ _ _ _ h => h X9 X53 X75 X144 k9 k53 k75 k144) (fun _ _ _ _ h => h X9 X53 X75 X144 k9 k53 k75 k144) (fun _ _ h => h) h
theorem x3_fillArcs_s9 {o : Nat} {Q : Int → Mem → Prop} {x1 : Int} {x2 : Int} {x3 : Int} {x5 : Int} {s : Mem} (h : x3_fillArcs_b9 o (x3_fillArcs_L9 o Q) (x3_fillArcs_L53 o Q) (x3_fillArcs_L75 o Q) (x3_fillArcs_L144 o Q) Q x1 x2 x3 x5 s) : x3_fillArcs_L9 o Q x1 x2 x3 x5 s := fun X9 X53 X75 X144 k9 k53 k75 k144 => k9 _ _ _ _ _ (x3_fillArcs_m9 (fun _ _ _ _ _ h => h X9 X53 X75 X144 k9 k53 k75 k144) (fun _ _ _ _ _ _ _ _ h => h X9 X53 X75 X144 k9 k53 k75 k144) (fun _ _ _ _ _ _ _ _ h => h X9 X53 X75 X144 k9 k53 k75 k144) (fun _ _ _ _ h => h X9 X53 X75 X144 k9 k53 k75 k144) (fun _ _ h => h) h)
theorem x3_fillArcs_s53 {o : Nat} {Q : Int → Mem → Prop} {x1 : Int} {x2 : Int} {x3 : Int} {x5 : Int} {x6 : Int} {x7 : Int} {x8 : Int} {s : Mem} (h : x3_fillArcs_b53 o (x3_fillArcs_L9 o Q) (x3_fillArcs_L53 o Q) (x3_fillArcs_L75 o Q) (x3_fillArcs_L144 o Q) Q x1 x2 x3 x5 x6 x7 x8 s) : x3_fillArcs_L53 o Q x1 x2 x3 x5 x6 x7 x8 s := fun X9 X53 X75 X144 k9 k53 k75 k144 => k53 _ _ _ _ _ _ _ _ (x3_fillArcs_m53 (fun _ _ _ _ _ h => h X9 X53 X75 X144 k9 k53 k75 k144) (fun _ _ _ _ _ _ _ _ h => h X9 X53 X75 X144 k9 k53 k75 k144) (fun _ _ _ _ _ _ _ _ h => h X9 X53 X75 X144 k9 k53 k75 k144) (fun _ _ _ _ h => h X9 X53 X75 X144 k9 k53 k75 k144) (fun _ _ h => h) h)
theorem x3_fillArcs_s75 {o : Nat} {Q : Int → Mem → Prop} {x1 : Int} {x2 : Int} {x3 : Int} {x5 : Int} {x6 : Int} {x8 : Int} {t0 : Int} {s : Mem} (h : x3_fillArcs_b75 o (x3_fillArcs_L9 o Q) (x3_fillArcs_L53 o Q) (x3_fillArcs_L75 o Q) (x3_fillArcs_L144 o Q) Q x1 x2 x3 x5 x6 x8 t0 s) : x3_fillArcs_L75 o Q x1 x2 x3 x5 x6 x8 t0 s := fun X9 X53 X75 X144 k9 k53 k75 k144 => k75 _ _ _ _ _ _ _ _ (x3_fillArcs_m75 (fun _ _ _ _ _ h => h X9 X53 X75 X144 k9 k53 k75 k144) (fun _ _ _ _ _ _ _ _ h => h X9 X53 X75 X144 k9 k53 k75 k144) (fun _ _ _ _ _ _ _ _ h => h X9 X53 X75 X144 k9 k53 k75 k144) (fun _ _ _ _ h => h X9 X53 X75 X144 k9 k53 k75 k144) (fun _ _ h => h) h)
theorem x3_fillArcs_s144 {o : Nat} {Q : Int → Mem → Prop} {x1 : Int} {x2 : Int} {x5 : Int} {s : Mem} (h : x3_fillArcs_b144 o (x3_fillArcs_L9 o Q) (x3_fillArcs_L53 o Q) (x3_fillArcs_L75 o Q) (x3_fillArcs_L144 o Q) Q x1 x2 x5 s) : x3_fillArcs_L144 o Q x1 x2 x5 s := fun X9 X53 X75 X144 k9 k53 k75 k144 => k144 _ _ _ _ (x3_fillArcs_m144 (fun _ _ _ _ _ h => h X9 X53 X75 X144 k9 k53 k75 k144) (fun _ _ _ _ _ _ _ _ h => h X9 X53 X75 X144 k9 k53 k75 k144) (fun _ _ _ _ _ _ _ _ h => h X9 X53 X75 X144 k9 k53 k75 k144) (fun _ _ _ _ h => h X9 X53 X75 X144 k9 k53 k75 k144) (fun _ _ h => h) h)
theorem x3_fillArcs_mono {Q R : Int → Mem → Prop} {o : Nat} {p1 : Int} {p2 : Int} {s : Mem} (h : x3_fillArcs o p1 p2 s Q) (hQ : ∀ r s, Q r s → R r s) : x3_fillArcs o p1 p2 s R := fun X9 X53 X75 X144 k9 k53 k75 k144 => x3_fillArcs_me (fun _ _ _ _ _ h => h) (fun _ _ _ _ _ _ _ _ h => h) (fun _ _ _ _ _ _ _ _ h => h) (fun _ _ _ _ h => h) hQ (h X9 X53 X75 X144 (fun _ _ _ _ _ h => k9 _ _ _ _ _ (x3_fillArcs_m9 (fun _ _ _ _ _ h => h) (fun _ _ _ _ _ _ _ _ h => h) (fun _ _ _ _ _ _ _ _ h => h) (fun _ _ _ _ h => h) hQ h)) (fun _ _ _ _ _ _ _ _ h => k53 _ _ _ _ _ _ _ _ (x3_fillArcs_m53 (fun _ _ _ _ _ h => h) (fun _ _ _ _ _ _ _ _ h => h) (fun _ _ _ _ _ _ _ _ h => h) (fun _ _ _ _ h => h) hQ h)) (fun _ _ _ _ _ _ _ _ h => k75 _ _ _ _ _ _ _ _ (x3_fillArcs_m75 (fun _ _ _ _ _ h => h) (fun _ _ _ _ _ _ _ _ h => h) (fun _ _ _ _ _ _ _ _ h => h) (fun _ _ _ _ h => h) hQ h)) (fun _ _ _ _ h => k144 _ _ _ _ (x3_fillArcs_m144 (fun _ _ _ _ _ h => h) (fun _ _ _ _ _ _ _ _ h => h) (fun _ _ _ _ _ _ _ _ h => h) (fun _ _ _ _ h => h) hQ h)))
def x3_fillArcs_rm : Room := { frames := 0, cells := 0, slots := 0, locals := 0 }
theorem w_x3_fillArcs_25 : Cond.fieldLink RX3 25 "BoltRing$Lifts" "ribPowers" "[J" ∈ wsX3_fillArcs := by decide +kernel
theorem w_x3_fillArcs_28 : Cond.fieldLink RX3 28 "BoltRing$Lifts" "arcs" "[J" ∈ wsX3_fillArcs := by decide +kernel
theorem w_x3_fillArcs_19 : Cond.fieldLink RX3 19 "BoltRing$Lifts" "diagonal" "[J" ∈ wsX3_fillArcs := by decide +kernel
theorem in_x3_fillArcs_X3 : ∀ w ∈ wsX30, w ∈ wsX3_fillArcs := by decide +kernel
set_option maxHeartbeats 4000000 in
set_option maxRecDepth 100000 in
theorem x3_fillArcs_bd {κ : KT} {ad : Nat → Nat} {cA : Nat → ClassId} {D : va_G} {Q : State → Prop} {o : Nat} {p1 : Int} {p2 : Int} {s : Mem} (ho : LfA o) (C : CX κ (GA ad cA D) RX3 cX3_fillArcs 9 wsX3_fillArcs x3_fillArcs_rm none) (h : x3_fillArcs o p1 p2 s (RT κ (GA ad cA D) ocV Q)) : WM κ (GA ad cA D) 9 Q s 0 [(0, .ref (ad o)), (1, vI p1), (2, vI p2)] [] := by
  obtain ⟨Z9, z9⟩ : ∃ Z : Int → Int → Int → Int → Mem → Prop, ∀ x1 x2 x3 x5 s, Z x1 x2 x3 x5 s ↔ WM κ (GA ad cA D) 9 Q s 9 [(0, .ref (ad o)), (1, vI x1), (2, vI x2), (3, vL x3), (5, vI x5)] [] := ⟨fun x1 x2 x3 x5 s => WM κ (GA ad cA D) 9 Q s 9 [(0, .ref (ad o)), (1, vI x1), (2, vI x2), (3, vL x3), (5, vI x5)] [], fun _ _ _ _ _ => Iff.rfl⟩
  obtain ⟨Z53, z53⟩ : ∃ Z : Int → Int → Int → Int → Int → Int → Int → Mem → Prop, ∀ x1 x2 x3 x5 x6 x7 x8 s, Z x1 x2 x3 x5 x6 x7 x8 s ↔ WM κ (GA ad cA D) 9 Q s 53 [(0, .ref (ad o)), (1, vI x1), (2, vI x2), (3, vL x3), (5, vI x5), (6, vI x6), (7, vI x7), (8, vI x8)] [] := ⟨fun x1 x2 x3 x5 x6 x7 x8 s => WM κ (GA ad cA D) 9 Q s 53 [(0, .ref (ad o)), (1, vI x1), (2, vI x2), (3, vL x3), (5, vI x5), (6, vI x6), (7, vI x7), (8, vI x8)] [], fun _ _ _ _ _ _ _ _ => Iff.rfl⟩
  obtain ⟨Z75, z75⟩ : ∃ Z : Int → Int → Int → Int → Int → Int → Int → Mem → Prop, ∀ x1 x2 x3 x5 x6 x8 t0 s, Z x1 x2 x3 x5 x6 x8 t0 s ↔ WM κ (GA ad cA D) 9 Q s 75 [(0, .ref (ad o)), (1, vI x1), (2, vI x2), (3, vL x3), (5, vI x5), (6, vI x6), (8, vI x8)] [vI t0] := ⟨fun x1 x2 x3 x5 x6 x8 t0 s => WM κ (GA ad cA D) 9 Q s 75 [(0, .ref (ad o)), (1, vI x1), (2, vI x2), (3, vL x3), (5, vI x5), (6, vI x6), (8, vI x8)] [vI t0], fun _ _ _ _ _ _ _ _ => Iff.rfl⟩
  obtain ⟨Z144, z144⟩ : ∃ Z : Int → Int → Int → Mem → Prop, ∀ x1 x2 x5 s, Z x1 x2 x5 s ↔ WM κ (GA ad cA D) 9 Q s 144 [(0, .ref (ad o)), (1, vI x1), (2, vI x2), (5, vI x5)] [] := ⟨fun x1 x2 x5 s => WM κ (GA ad cA D) 9 Q s 144 [(0, .ref (ad o)), (1, vI x1), (2, vI x2), (5, vI x5)] [], fun _ _ _ _ => Iff.rfl⟩
  refine (fun h => ?_) (h Z9 Z53 Z75 Z144 ?_ ?_ ?_ ?_)
  · refine r_iload_n C 2 dX3_fillArcs_0 rfl ?_
    refine r_i2l C dX3_fillArcs_1 ⟨h.1, ?_⟩
    have h := h.2
    refine r_iload_n C 2 dX3_fillArcs_2 rfl ?_
    refine r_i2l C dX3_fillArcs_3 ⟨h.1, ?_⟩
    have h := h.2
    refine r_lmul C dX3_fillArcs_4 ?_
    refine r_lstore_n (ls' := [(3, vL (p2 * p2)), (0, .ref (ad o)), (1, vI p1), (2, vI p2)]) C dX3_fillArcs_5 rfl (by decide) rfl ?_
    refine r_iconst C dX3_fillArcs_6 ?_
    refine r_istore (ls' := [(5, vI (0 : Int)), (3, vL (p2 * p2)), (0, .ref (ad o)), (1, vI p1), (2, vI p2)]) C dX3_fillArcs_7 (by decide) rfl ?_
    exact r_perm [2, 3, 4, 1, 0] rfl ((z9 _ _ _ _ _).1 h)
  · intro x1 x2 x3 x5 s h
    refine (z9 _ _ _ _ _).2 ?_
    refine r_iload C 4 dX3_fillArcs_9 rfl ?_
    refine r_iload_n C 1 dX3_fillArcs_11 rfl ?_
    refine r_icmp_ge (tgt := 134) C dX3_fillArcs_12 (by decide) ⟨h.1, fun c4 => ?_, fun c4 => ?_⟩
    · have h := h.2.1 c4
      refine r_aload_n C 0 dX3_fillArcs_134 rfl ?_
      refine r_get (j := 4) (jz := 4) (v := .ref (ad (o + 4))) C dX3_fillArcs_135 (lf_0 ho) rfl rfl (by decide) in_x3_fillArcs_X3 w_x3_fillArcs_25 rfl rfl rfl ?_
      refine r_iconst C dX3_fillArcs_138 ?_
      refine r_lconst (z := 1) C dX3_fillArcs_139 rfl ?_
      refine r_last (nz := 7) C dX3_fillArcs_140 (lf_4 ho) rfl (by decide) ⟨h.1, fun s1 e_s1 => ?_⟩
      have h := h.2 s1 e_s1
      refine r_iconst C dX3_fillArcs_141 ?_
      refine r_istore (ls' := [(5, vI (1 : Int)), (0, .ref (ad o)), (1, vI x1), (2, vI x2), (3, vL x3)]) C dX3_fillArcs_142 (by decide) rfl ?_
      exact r_perm [1, 2, 3, 0] rfl ((z144 _ _ _ _).1 h)
    · have h := h.2.2 c4
      refine r_bipush C dX3_fillArcs_15 (by decide) ?_
      refine r_iload C 4 dX3_fillArcs_17 rfl ?_
      refine r_imul C dX3_fillArcs_19 ?_
      refine r_istore (ls' := [(6, vI ((6 : Int) * x5)), (0, .ref (ad o)), (1, vI x1), (2, vI x2), (3, vL x3), (5, vI x5)]) C dX3_fillArcs_20 (by decide) rfl ?_
      refine r_aload_n C 1 dX3_fillArcs_22 rfl ?_
      refine r_get (j := 5) (jz := 5) (v := .ref (ad (o + 5))) C dX3_fillArcs_23 (lf_0 ho) rfl rfl (by decide) in_x3_fillArcs_X3 w_x3_fillArcs_28 rfl rfl rfl ?_
      refine r_iload C 0 dX3_fillArcs_26 rfl ?_
      refine r_lconst (z := 1) C dX3_fillArcs_28 rfl ?_
      refine r_last (nz := 36) C dX3_fillArcs_29 (lf_5 ho) rfl (by decide) ⟨h.1, fun s2 e_s2 => ?_⟩
      have h := h.2 s2 e_s2
      refine r_aload_n C 1 dX3_fillArcs_30 rfl ?_
      refine r_get (j := 5) (jz := 5) (v := .ref (ad (o + 5))) C dX3_fillArcs_31 (lf_0 ho) rfl rfl (by decide) in_x3_fillArcs_X3 w_x3_fillArcs_28 rfl rfl rfl ?_
      refine r_iload C 0 dX3_fillArcs_34 rfl ?_
      refine r_iconst C dX3_fillArcs_36 ?_
      refine r_iadd C dX3_fillArcs_37 ?_
      refine r_aload_n C 1 dX3_fillArcs_38 rfl ?_
      refine r_get (j := 2) (jz := 2) (v := .ref (ad (o + 2))) C dX3_fillArcs_39 (lf_0 ho) rfl rfl (by decide) in_x3_fillArcs_X3 w_x3_fillArcs_19 rfl rfl rfl ?_
      refine r_iload C 5 dX3_fillArcs_42 rfl ?_
      refine r_lald (nz := 6) C dX3_fillArcs_44 (lf_2 ho) rfl (by decide) ⟨h.1, ?_⟩
      have h := h.2
      refine r_last (nz := 36) C dX3_fillArcs_45 (lf_5 ho) rfl (by decide) ⟨h.1, fun s3 e_s3 => ?_⟩
      have h := h.2 s3 e_s3
      refine r_iload C 5 dX3_fillArcs_46 rfl ?_
      refine r_istore (ls' := [(7, vI x5), (6, vI ((6 : Int) * x5)), (0, .ref (ad o)), (1, vI x1), (2, vI x2), (3, vL x3), (5, vI x5)]) C dX3_fillArcs_48 (by decide) rfl ?_
      refine r_iconst C dX3_fillArcs_50 ?_
      refine r_istore (ls' := [(8, vI (2 : Int)), (7, vI x5), (6, vI ((6 : Int) * x5)), (0, .ref (ad o)), (1, vI x1), (2, vI x2), (3, vL x3), (5, vI x5)]) C dX3_fillArcs_51 (by decide) rfl ?_
      exact r_perm [3, 4, 5, 6, 7, 2, 1, 0] rfl ((z53 _ _ _ _ _ _ _ _).1 h)
  · intro x1 x2 x3 x5 x6 x7 x8 s h
    refine (z53 _ _ _ _ _ _ _ _).2 ?_
    refine r_iload C 7 dX3_fillArcs_53 rfl ?_
    refine r_iload_n C 1 dX3_fillArcs_55 rfl ?_
    refine r_icmp_ge (tgt := 128) C dX3_fillArcs_56 (by decide) ⟨h.1, fun c6 => ?_, fun c6 => ?_⟩
    · have h := h.2.1 c6
      refine r_iinc (j := 4) (ls' := [(5, vI (x5 + (1 : Int))), (0, .ref (ad o)), (1, vI x1), (2, vI x2), (3, vL x3), (6, vI x6), (7, vI x7), (8, vI x8)]) C dX3_fillArcs_128 rfl (by decide) rfl ?_
      refine r_goto (tgt := 9) C dX3_fillArcs_131 (by decide) ?_
      exact r_perm [1, 2, 3, 4, 0] rfl ((z9 _ _ _ _ _).1 h)
    · have h := h.2.2 c6
      refine r_iload C 6 dX3_fillArcs_59 rfl ?_
      refine r_iconst C dX3_fillArcs_61 ?_
      refine r_iadd C dX3_fillArcs_62 ?_
      refine r_iload_n C 1 dX3_fillArcs_63 rfl ?_
      refine r_icmp_ge (tgt := 74) C dX3_fillArcs_64 (by decide) ⟨h.1, fun c5 => ?_, fun c5 => ?_⟩
      · have h := h.2.1 c5
        refine r_iconst C dX3_fillArcs_74 ?_
        exact r_perm [0, 1, 2, 3, 4, 5, 7] rfl ((z75 _ _ _ _ _ _ _ _).1 h)
      · have h := h.2.2 c5
        refine r_iload C 6 dX3_fillArcs_67 rfl ?_
        refine r_iconst C dX3_fillArcs_69 ?_
        refine r_iadd C dX3_fillArcs_70 ?_
        refine r_goto (tgt := 75) C dX3_fillArcs_71 (by decide) ?_
        exact r_perm [0, 1, 2, 3, 4, 5, 7] rfl ((z75 _ _ _ _ _ _ _ _).1 h)
  · intro x1 x2 x3 x5 x6 x8 t0 s h
    refine (z75 _ _ _ _ _ _ _ _).2 ?_
    refine r_istore (ls' := [(7, vI t0), (0, .ref (ad o)), (1, vI x1), (2, vI x2), (3, vL x3), (5, vI x5), (6, vI x6), (8, vI x8)]) C dX3_fillArcs_75 (by decide) rfl ?_
    refine r_aload_n C 1 dX3_fillArcs_77 rfl ?_
    refine r_get (j := 5) (jz := 5) (v := .ref (ad (o + 5))) C dX3_fillArcs_78 (lf_0 ho) rfl rfl (by decide) in_x3_fillArcs_X3 w_x3_fillArcs_28 rfl rfl rfl ?_
    refine r_iload C 6 dX3_fillArcs_81 rfl ?_
    refine r_iload C 7 dX3_fillArcs_83 rfl ?_
    refine r_iadd C dX3_fillArcs_85 ?_
    refine r_aload_n C 1 dX3_fillArcs_86 rfl ?_
    refine r_get (j := 2) (jz := 2) (v := .ref (ad (o + 2))) C dX3_fillArcs_87 (lf_0 ho) rfl rfl (by decide) in_x3_fillArcs_X3 w_x3_fillArcs_19 rfl rfl rfl ?_
    refine r_iload C 0 dX3_fillArcs_90 rfl ?_
    refine r_lald (nz := 6) C dX3_fillArcs_92 (lf_2 ho) rfl (by decide) ⟨h.1, ?_⟩
    have h := h.2
    refine r_aload_n C 1 dX3_fillArcs_93 rfl ?_
    refine r_get (j := 5) (jz := 5) (v := .ref (ad (o + 5))) C dX3_fillArcs_94 (lf_0 ho) rfl rfl (by decide) in_x3_fillArcs_X3 w_x3_fillArcs_28 rfl rfl rfl ?_
    refine r_iload C 6 dX3_fillArcs_97 rfl ?_
    refine r_iload C 7 dX3_fillArcs_99 rfl ?_
    refine r_iadd C dX3_fillArcs_101 ?_
    refine r_iconst C dX3_fillArcs_102 ?_
    refine r_isub C dX3_fillArcs_103 ?_
    refine r_lald (nz := 36) C dX3_fillArcs_104 (lf_5 ho) rfl (by decide) ⟨h.1, ?_⟩
    have h := h.2
    refine r_lmul C dX3_fillArcs_105 ?_
    refine r_lload_n C 4 dX3_fillArcs_106 rfl ?_
    refine r_aload_n C 1 dX3_fillArcs_107 rfl ?_
    refine r_get (j := 5) (jz := 5) (v := .ref (ad (o + 5))) C dX3_fillArcs_108 (lf_0 ho) rfl rfl (by decide) in_x3_fillArcs_X3 w_x3_fillArcs_28 rfl rfl rfl ?_
    refine r_iload C 6 dX3_fillArcs_111 rfl ?_
    refine r_iload C 7 dX3_fillArcs_113 rfl ?_
    refine r_iadd C dX3_fillArcs_115 ?_
    refine r_iconst C dX3_fillArcs_116 ?_
    refine r_isub C dX3_fillArcs_117 ?_
    refine r_lald (nz := 36) C dX3_fillArcs_118 (lf_5 ho) rfl (by decide) ⟨h.1, ?_⟩
    have h := h.2
    refine r_lmul C dX3_fillArcs_119 ?_
    refine r_lsub C dX3_fillArcs_120 ?_
    refine r_last (nz := 36) C dX3_fillArcs_121 (lf_5 ho) rfl (by decide) ⟨h.1, fun s7 e_s7 => ?_⟩
    have h := h.2 s7 e_s7
    refine r_iinc (j := 7) (ls' := [(8, vI (x8 + (1 : Int))), (7, vI t0), (0, .ref (ad o)), (1, vI x1), (2, vI x2), (3, vL x3), (5, vI x5), (6, vI x6)]) C dX3_fillArcs_122 rfl (by decide) rfl ?_
    refine r_goto (tgt := 53) C dX3_fillArcs_125 (by decide) ?_
    exact r_perm [2, 3, 4, 5, 6, 7, 1, 0] rfl ((z53 _ _ _ _ _ _ _ _).1 h)
  · intro x1 x2 x5 s h
    refine (z144 _ _ _ _).2 ?_
    refine r_iload C 3 dX3_fillArcs_144 rfl ?_
    refine r_iload_n C 1 dX3_fillArcs_146 rfl ?_
    refine r_icmp_gt (tgt := 175) C dX3_fillArcs_147 (by decide) ⟨h.1, fun c9 => ?_, fun c9 => ?_⟩
    · have h := h.2.1 c9
      exact r_return C dX3_fillArcs_175 h
    · have h := h.2.2 c9
      refine r_aload_n C 0 dX3_fillArcs_150 rfl ?_
      refine r_get (j := 4) (jz := 4) (v := .ref (ad (o + 4))) C dX3_fillArcs_151 (lf_0 ho) rfl rfl (by decide) in_x3_fillArcs_X3 w_x3_fillArcs_25 rfl rfl rfl ?_
      refine r_iload C 3 dX3_fillArcs_154 rfl ?_
      refine r_aload_n C 0 dX3_fillArcs_156 rfl ?_
      refine r_get (j := 4) (jz := 4) (v := .ref (ad (o + 4))) C dX3_fillArcs_157 (lf_0 ho) rfl rfl (by decide) in_x3_fillArcs_X3 w_x3_fillArcs_25 rfl rfl rfl ?_
      refine r_iload C 3 dX3_fillArcs_160 rfl ?_
      refine r_iconst C dX3_fillArcs_162 ?_
      refine r_isub C dX3_fillArcs_163 ?_
      refine r_lald (nz := 7) C dX3_fillArcs_164 (lf_4 ho) rfl (by decide) ⟨h.1, ?_⟩
      have h := h.2
      refine r_iload_n C 2 dX3_fillArcs_165 rfl ?_
      refine r_i2l C dX3_fillArcs_166 ⟨h.1, ?_⟩
      have h := h.2
      refine r_lmul C dX3_fillArcs_167 ?_
      refine r_last (nz := 7) C dX3_fillArcs_168 (lf_4 ho) rfl (by decide) ⟨h.1, fun s8 e_s8 => ?_⟩
      have h := h.2 s8 e_s8
      refine r_iinc (j := 3) (ls' := [(5, vI (x5 + (1 : Int))), (0, .ref (ad o)), (1, vI x1), (2, vI x2)]) C dX3_fillArcs_169 rfl (by decide) rfl ?_
      refine r_goto (tgt := 144) C dX3_fillArcs_172 (by decide) ?_
      exact r_perm [1, 2, 3, 0] rfl ((z144 _ _ _ _).1 h)
theorem x3_fillArcs_ct (l : Launch) (ad : Nat → Nat) (cA : Nat → ClassId) (D : va_G) (o : Nat) (p1 : Int) (p2 : Int) (s : Mem) (ho : LfA o) : MG l yX3_fillArcs wsX3_fillArcs x3_fillArcs_rm ocV [.ref (ad o), vI p1, vI p2] (GA ad cA D) s (x3_fillArcs o p1 p2 s) :=
  m_met (own := RX3) (nL := 9) (by decide) rfl rfl (Nat.le_of_ble_eq_true rfl) rfl rfl rfl (fun κ hl C Q Pst hW hQ => x3_fillArcs_bd ho C (x3_fillArcs_mono hW hQ))

def x3_solve_be (X67 : Int → Int → Mem → Prop) (X91 : Int → Int → Int → Int → Mem → Prop) (X122 : Int → Int → Int → Int → Int → Int → Mem → Prop) (X144 : Int → Int → Int → Int → Int → Int → Mem → Prop) (X164 : Int → Int → Int → Int → Int → Int → Int → Int → Mem → Prop) (Q : Int → Mem → Prop) (o : Nat) (p1 : Int) (p2 : Int) (s : Mem) : Prop :=
  ((0 : Int) ≤ (0 : Int) ∧ (0 : Int) < 6) ∧ ((0 : Int) ≤ (((6 : Int) + p1) - (1 : Int)) ∧ (((6 : Int) + p1) - (1 : Int)) < 36) ∧ ((0 : Int) ≤ p1 ∧ p1 < 7) ∧ (InI p2) ∧ (InI p2) ∧ ((0 : Int) ≤ (((6 : Int) + p1) - (2 : Int)) ∧ (((6 : Int) + p1) - (2 : Int)) < 36) ∧ ((0 : Int) ≤ (((12 : Int) + p1) - (2 : Int)) ∧ (((12 : Int) + p1) - (2 : Int)) < 36) ∧ ∀ s1 : Mem, s1 = m_upd s o (1 : Int) ((((s (o + 2) (0 : Int)) * (s (o + 5) (((6 : Int) + p1) - (1 : Int)))) - ((2 : Int) * (s (o + 4) p1))) - ((p2 * p2) * ((s (o + 5) (((6 : Int) + p1) - (2 : Int))) + (s (o + 5) (((12 : Int) + p1) - (2 : Int)))))) → X67 p1 (0 : Int) s1
def x3_solve_b67 (o : Nat) (X67 : Int → Int → Mem → Prop) (X91 : Int → Int → Int → Int → Mem → Prop) (X122 : Int → Int → Int → Int → Int → Int → Mem → Prop) (X144 : Int → Int → Int → Int → Int → Int → Mem → Prop) (X164 : Int → Int → Int → Int → Int → Int → Int → Int → Mem → Prop) (Q : Int → Mem → Prop) (x1 : Int) (x4 : Int) (s : Mem) : Prop :=
  (InI x4 ∧ InI x1) ∧ (x1 ≤ x4 → Q (0 : Int) s) ∧ (x4 < x1 → (InI (x4 + (1 : Int)) ∧ InI x1) ∧ (x1 ≤ (x4 + (1 : Int)) → X91 x1 x4 (0 : Int) (6 : Int) s) ∧ ((x4 + (1 : Int)) < x1 → X91 x1 x4 (x4 + (1 : Int)) (6 : Int) s))
def x3_solve_b91 (o : Nat) (X67 : Int → Int → Mem → Prop) (X91 : Int → Int → Int → Int → Mem → Prop) (X122 : Int → Int → Int → Int → Int → Int → Mem → Prop) (X144 : Int → Int → Int → Int → Int → Int → Mem → Prop) (X164 : Int → Int → Int → Int → Int → Int → Int → Int → Mem → Prop) (Q : Int → Mem → Prop) (x1 : Int) (x4 : Int) (t0 : Int) (t1 : Int) (s : Mem) : Prop :=
  ((0 : Int) ≤ x4 ∧ x4 < 6) ∧ ((0 : Int) ≤ (((t1 * t0) + x1) - (1 : Int)) ∧ (((t1 * t0) + x1) - (1 : Int)) < 36) ∧ ∀ v4 : Int, v4 = ((s (o + 3) x4) * (s (o + 5) (((t1 * t0) + x1) - (1 : Int)))) → X122 x1 x4 (t1 * t0) v4 x4 (1 : Int) s
def x3_solve_b122 (o : Nat) (X67 : Int → Int → Mem → Prop) (X91 : Int → Int → Int → Int → Mem → Prop) (X122 : Int → Int → Int → Int → Int → Int → Mem → Prop) (X144 : Int → Int → Int → Int → Int → Int → Mem → Prop) (X164 : Int → Int → Int → Int → Int → Int → Int → Int → Mem → Prop) (Q : Int → Mem → Prop) (x1 : Int) (x4 : Int) (x5 : Int) (x6 : Int) (x8 : Int) (x9 : Int) (s : Mem) : Prop :=
  (InI x9 ∧ InI x1) ∧ (x1 ≤ x9 → ((0 : Int) ≤ x4 ∧ x4 < 6) ∧ ∀ s5 : Mem, s5 = m_upd s (o + 1) x4 x6 → X67 x1 (x4 + (1 : Int)) s5) ∧ (x9 < x1 → (InI (x8 + (1 : Int)) ∧ InI x1) ∧ (x1 ≤ (x8 + (1 : Int)) → X144 x1 x4 x5 x6 x9 (0 : Int) s) ∧ ((x8 + (1 : Int)) < x1 → X144 x1 x4 x5 x6 x9 (x8 + (1 : Int)) s))
def x3_solve_b144 (o : Nat) (X67 : Int → Int → Mem → Prop) (X91 : Int → Int → Int → Int → Mem → Prop) (X122 : Int → Int → Int → Int → Int → Int → Mem → Prop) (X144 : Int → Int → Int → Int → Int → Int → Mem → Prop) (X164 : Int → Int → Int → Int → Int → Int → Int → Int → Mem → Prop) (Q : Int → Mem → Prop) (x1 : Int) (x4 : Int) (x5 : Int) (x6 : Int) (x9 : Int) (t0 : Int) (s : Mem) : Prop :=
  (InI (t0 + (1 : Int)) ∧ InI x1) ∧ (x1 ≤ (t0 + (1 : Int)) → X164 x1 x4 x5 x6 t0 x9 (0 : Int) (6 : Int) s) ∧ ((t0 + (1 : Int)) < x1 → X164 x1 x4 x5 x6 t0 x9 (t0 + (1 : Int)) (6 : Int) s)
def x3_solve_b164 (o : Nat) (X67 : Int → Int → Mem → Prop) (X91 : Int → Int → Int → Int → Mem → Prop) (X122 : Int → Int → Int → Int → Int → Int → Mem → Prop) (X144 : Int → Int → Int → Int → Int → Int → Mem → Prop) (X164 : Int → Int → Int → Int → Int → Int → Int → Int → Mem → Prop) (Q : Int → Mem → Prop) (x1 : Int) (x4 : Int) (x5 : Int) (x6 : Int) (x8 : Int) (x9 : Int) (t0 : Int) (t1 : Int) (s : Mem) : Prop :=
  ((0 : Int) ≤ x9 ∧ x9 < 7) ∧ ((0 : Int) ≤ ((((t1 * t0) + x1) - (1 : Int)) - x9) ∧ ((((t1 * t0) + x1) - (1 : Int)) - x9) < 36) ∧ ∀ v9 : Int, v9 = ((s (o + 4) x9) * (s (o + 5) ((((t1 * t0) + x1) - (1 : Int)) - x9))) → ((0 : Int) ≤ (x1 - x9) ∧ (x1 - x9) < 7) ∧ ((0 : Int) ≤ ((x5 + x9) - (1 : Int)) ∧ ((x5 + x9) - (1 : Int)) < 36) ∧ ∀ v10 : Int, v10 = ((s (o + 4) (x1 - x9)) * (s (o + 5) ((x5 + x9) - (1 : Int)))) → ((0 : Int) ≤ x8 ∧ x8 < 6) ∧ ∀ v11 : Int, v11 = (x6 + ((s (o + 3) x8) * (v9 + v10))) → X122 x1 x4 x5 v11 x8 (x9 + (1 : Int)) s
theorem x3_solve_me {X67 Y67 : Int → Int → Mem → Prop} {X91 Y91 : Int → Int → Int → Int → Mem → Prop} {X122 Y122 : Int → Int → Int → Int → Int → Int → Mem → Prop} {X144 Y144 : Int → Int → Int → Int → Int → Int → Mem → Prop} {X164 Y164 : Int → Int → Int → Int → Int → Int → Int → Int → Mem → Prop} {Q R : Int → Mem → Prop} (hX67 : ∀ x1 x4 s, X67 x1 x4 s → Y67 x1 x4 s) (hX91 : ∀ x1 x4 t0 t1 s, X91 x1 x4 t0 t1 s → Y91 x1 x4 t0 t1 s) (hX122 : ∀ x1 x4 x5 x6 x8 x9 s, X122 x1 x4 x5 x6 x8 x9 s → Y122 x1 x4 x5 x6 x8 x9 s) (hX144 : ∀ x1 x4 x5 x6 x9 t0 s, X144 x1 x4 x5 x6 x9 t0 s → Y144 x1 x4 x5 x6 x9 t0 s) (hX164 : ∀ x1 x4 x5 x6 x8 x9 t0 t1 s, X164 x1 x4 x5 x6 x8 x9 t0 t1 s → Y164 x1 x4 x5 x6 x8 x9 t0 t1 s) (hQ : ∀ r s, Q r s → R r s) {o : Nat} {p1 : Int} {p2 : Int} {s : Mem} (h : x3_solve_be X67 X91 X122 X144 X164 Q o p1 p2 s) : x3_solve_be Y67 Y91 Y122 Y144 Y164 R o p1 p2 s :=
  ⟨h.1, have h := h.2; ⟨h.1, have h := h.2; ⟨h.1, have h := h.2; ⟨h.1, have h := h.2; ⟨h.1, have h := h.2; ⟨h.1, have h := h.2; ⟨h.1, have h := h.2; fun s1 e_s1 => have h := h s1 e_s1; hX67 _ _ _ h⟩⟩⟩⟩⟩⟩⟩
theorem x3_solve_m67 {o : Nat} {X67 Y67 : Int → Int → Mem → Prop} {X91 Y91 : Int → Int → Int → Int → Mem → Prop} {X122 Y122 : Int → Int → Int → Int → Int → Int → Mem → Prop} {X144 Y144 : Int → Int → Int → Int → Int → Int → Mem → Prop} {X164 Y164 : Int → Int → Int → Int → Int → Int → Int → Int → Mem → Prop} {Q R : Int → Mem → Prop} (hX67 : ∀ x1 x4 s, X67 x1 x4 s → Y67 x1 x4 s) (hX91 : ∀ x1 x4 t0 t1 s, X91 x1 x4 t0 t1 s → Y91 x1 x4 t0 t1 s) (hX122 : ∀ x1 x4 x5 x6 x8 x9 s, X122 x1 x4 x5 x6 x8 x9 s → Y122 x1 x4 x5 x6 x8 x9 s) (hX144 : ∀ x1 x4 x5 x6 x9 t0 s, X144 x1 x4 x5 x6 x9 t0 s → Y144 x1 x4 x5 x6 x9 t0 s) (hX164 : ∀ x1 x4 x5 x6 x8 x9 t0 t1 s, X164 x1 x4 x5 x6 x8 x9 t0 t1 s → Y164 x1 x4 x5 x6 x8 x9 t0 t1 s) (hQ : ∀ r s, Q r s → R r s) {x1 : Int} {x4 : Int} {s : Mem} (h : x3_solve_b67 o X67 X91 X122 X144 X164 Q x1 x4 s) : x3_solve_b67 o Y67 Y91 Y122 Y144 Y164 R x1 x4 s :=
  ⟨h.1, fun c => have h := h.2.1 c; hQ _ _ h, fun c => have h := h.2.2 c; ⟨h.1, fun c => have h := h.2.1 c; hX91 _ _ _ _ _ h, fun c => have h := h.2.2 c; hX91 _ _ _ _ _ h⟩⟩
theorem x3_solve_m91 {o : Nat} {X67 Y67 : Int → Int → Mem → Prop} {X91 Y91 : Int → Int → Int → Int → Mem → Prop} {X122 Y122 : Int → Int → Int → Int → Int → Int → Mem → Prop} {X144 Y144 : Int → Int → Int → Int → Int → Int → Mem → Prop} {X164 Y164 : Int → Int → Int → Int → Int → Int → Int → Int → Mem → Prop} {Q R : Int → Mem → Prop} (hX67 : ∀ x1 x4 s, X67 x1 x4 s → Y67 x1 x4 s) (hX91 : ∀ x1 x4 t0 t1 s, X91 x1 x4 t0 t1 s → Y91 x1 x4 t0 t1 s) (hX122 : ∀ x1 x4 x5 x6 x8 x9 s, X122 x1 x4 x5 x6 x8 x9 s → Y122 x1 x4 x5 x6 x8 x9 s) (hX144 : ∀ x1 x4 x5 x6 x9 t0 s, X144 x1 x4 x5 x6 x9 t0 s → Y144 x1 x4 x5 x6 x9 t0 s) (hX164 : ∀ x1 x4 x5 x6 x8 x9 t0 t1 s, X164 x1 x4 x5 x6 x8 x9 t0 t1 s → Y164 x1 x4 x5 x6 x8 x9 t0 t1 s) (hQ : ∀ r s, Q r s → R r s) {x1 : Int} {x4 : Int} {t0 : Int} {t1 : Int} {s : Mem} (h : x3_solve_b91 o X67 X91 X122 X144 X164 Q x1 x4 t0 t1 s) : x3_solve_b91 o Y67 Y91 Y122 Y144 Y164 R x1 x4 t0 t1 s :=
  ⟨h.1, have h := h.2; ⟨h.1, have h := h.2; fun v4 e_v4 => have h := h v4 e_v4; hX122 _ _ _ _ _ _ _ h⟩⟩
theorem x3_solve_m122 {o : Nat} {X67 Y67 : Int → Int → Mem → Prop} {X91 Y91 : Int → Int → Int → Int → Mem → Prop} {X122 Y122 : Int → Int → Int → Int → Int → Int → Mem → Prop} {X144 Y144 : Int → Int → Int → Int → Int → Int → Mem → Prop} {X164 Y164 : Int → Int → Int → Int → Int → Int → Int → Int → Mem → Prop} {Q R : Int → Mem → Prop} (hX67 : ∀ x1 x4 s, X67 x1 x4 s → Y67 x1 x4 s) (hX91 : ∀ x1 x4 t0 t1 s, X91 x1 x4 t0 t1 s → Y91 x1 x4 t0 t1 s) (hX122 : ∀ x1 x4 x5 x6 x8 x9 s, X122 x1 x4 x5 x6 x8 x9 s → Y122 x1 x4 x5 x6 x8 x9 s) (hX144 : ∀ x1 x4 x5 x6 x9 t0 s, X144 x1 x4 x5 x6 x9 t0 s → Y144 x1 x4 x5 x6 x9 t0 s) (hX164 : ∀ x1 x4 x5 x6 x8 x9 t0 t1 s, X164 x1 x4 x5 x6 x8 x9 t0 t1 s → Y164 x1 x4 x5 x6 x8 x9 t0 t1 s) (hQ : ∀ r s, Q r s → R r s) {x1 : Int} {x4 : Int} {x5 : Int} {x6 : Int} {x8 : Int} {x9 : Int} {s : Mem} (h : x3_solve_b122 o X67 X91 X122 X144 X164 Q x1 x4 x5 x6 x8 x9 s) : x3_solve_b122 o Y67 Y91 Y122 Y144 Y164 R x1 x4 x5 x6 x8 x9 s :=
  ⟨h.1, fun c => have h := h.2.1 c; ⟨h.1, have h := h.2; fun s5 e_s5 => have h := h s5 e_s5; hX67 _ _ _ h⟩, fun c => have h := h.2.2 c; ⟨h.1, fun c => have h := h.2.1 c; hX144 _ _ _ _ _ _ _ h, fun c => have h := h.2.2 c; hX144 _ _ _ _ _ _ _ h⟩⟩
theorem x3_solve_m144 {o : Nat} {X67 Y67 : Int → Int → Mem → Prop} {X91 Y91 : Int → Int → Int → Int → Mem → Prop} {X122 Y122 : Int → Int → Int → Int → Int → Int → Mem → Prop} {X144 Y144 : Int → Int → Int → Int → Int → Int → Mem → Prop} {X164 Y164 : Int → Int → Int → Int → Int → Int → Int → Int → Mem → Prop} {Q R : Int → Mem → Prop} (hX67 : ∀ x1 x4 s, X67 x1 x4 s → Y67 x1 x4 s) (hX91 : ∀ x1 x4 t0 t1 s, X91 x1 x4 t0 t1 s → Y91 x1 x4 t0 t1 s) (hX122 : ∀ x1 x4 x5 x6 x8 x9 s, X122 x1 x4 x5 x6 x8 x9 s → Y122 x1 x4 x5 x6 x8 x9 s) (hX144 : ∀ x1 x4 x5 x6 x9 t0 s, X144 x1 x4 x5 x6 x9 t0 s → Y144 x1 x4 x5 x6 x9 t0 s) (hX164 : ∀ x1 x4 x5 x6 x8 x9 t0 t1 s, X164 x1 x4 x5 x6 x8 x9 t0 t1 s → Y164 x1 x4 x5 x6 x8 x9 t0 t1 s) (hQ : ∀ r s, Q r s → R r s) {x1 : Int} {x4 : Int} {x5 : Int} {x6 : Int} {x9 : Int} {t0 : Int} {s : Mem} (h : x3_solve_b144 o X67 X91 X122 X144 X164 Q x1 x4 x5 x6 x9 t0 s) : x3_solve_b144 o Y67 Y91 Y122 Y144 Y164 R x1 x4 x5 x6 x9 t0 s :=
  ⟨h.1, fun c => have h := h.2.1 c; hX164 _ _ _ _ _ _ _ _ _ h, fun c => have h := h.2.2 c; hX164 _ _ _ _ _ _ _ _ _ h⟩
theorem x3_solve_m164 {o : Nat} {X67 Y67 : Int → Int → Mem → Prop} {X91 Y91 : Int → Int → Int → Int → Mem → Prop} {X122 Y122 : Int → Int → Int → Int → Int → Int → Mem → Prop} {X144 Y144 : Int → Int → Int → Int → Int → Int → Mem → Prop} {X164 Y164 : Int → Int → Int → Int → Int → Int → Int → Int → Mem → Prop} {Q R : Int → Mem → Prop} (hX67 : ∀ x1 x4 s, X67 x1 x4 s → Y67 x1 x4 s) (hX91 : ∀ x1 x4 t0 t1 s, X91 x1 x4 t0 t1 s → Y91 x1 x4 t0 t1 s) (hX122 : ∀ x1 x4 x5 x6 x8 x9 s, X122 x1 x4 x5 x6 x8 x9 s → Y122 x1 x4 x5 x6 x8 x9 s) (hX144 : ∀ x1 x4 x5 x6 x9 t0 s, X144 x1 x4 x5 x6 x9 t0 s → Y144 x1 x4 x5 x6 x9 t0 s) (hX164 : ∀ x1 x4 x5 x6 x8 x9 t0 t1 s, X164 x1 x4 x5 x6 x8 x9 t0 t1 s → Y164 x1 x4 x5 x6 x8 x9 t0 t1 s) (hQ : ∀ r s, Q r s → R r s) {x1 : Int} {x4 : Int} {x5 : Int} {x6 : Int} {x8 : Int} {x9 : Int} {t0 : Int} {t1 : Int} {s : Mem} (h : x3_solve_b164 o X67 X91 X122 X144 X164 Q x1 x4 x5 x6 x8 x9 t0 t1 s) : x3_solve_b164 o Y67 Y91 Y122 Y144 Y164 R x1 x4 x5 x6 x8 x9 t0 t1 s :=
  ⟨h.1, have h := h.2; ⟨h.1, have h := h.2; fun v9 e_v9 => have h := h v9 e_v9; ⟨h.1, have h := h.2; ⟨h.1, have h := h.2; fun v10 e_v10 => have h := h v10 e_v10; ⟨h.1, have h := h.2; fun v11 e_v11 => have h := h v11 e_v11; hX122 _ _ _ _ _ _ _ h⟩⟩⟩⟩⟩
def x3_solve (o : Nat) (p1 : Int) (p2 : Int) (s : Mem) (Q : Int → Mem → Prop) : Prop := ∀ (X67 : Int → Int → Mem → Prop) (X91 : Int → Int → Int → Int → Mem → Prop) (X122 : Int → Int → Int → Int → Int → Int → Mem → Prop) (X144 : Int → Int → Int → Int → Int → Int → Mem → Prop) (X164 : Int → Int → Int → Int → Int → Int → Int → Int → Mem → Prop), (∀ x1 x4 s, x3_solve_b67 o X67 X91 X122 X144 X164 Q x1 x4 s → X67 x1 x4 s) → (∀ x1 x4 t0 t1 s, x3_solve_b91 o X67 X91 X122 X144 X164 Q x1 x4 t0 t1 s → X91 x1 x4 t0 t1 s) → (∀ x1 x4 x5 x6 x8 x9 s, x3_solve_b122 o X67 X91 X122 X144 X164 Q x1 x4 x5 x6 x8 x9 s → X122 x1 x4 x5 x6 x8 x9 s) → (∀ x1 x4 x5 x6 x9 t0 s, x3_solve_b144 o X67 X91 X122 X144 X164 Q x1 x4 x5 x6 x9 t0 s → X144 x1 x4 x5 x6 x9 t0 s) → (∀ x1 x4 x5 x6 x8 x9 t0 t1 s, x3_solve_b164 o X67 X91 X122 X144 X164 Q x1 x4 x5 x6 x8 x9 t0 t1 s → X164 x1 x4 x5 x6 x8 x9 t0 t1 s) → x3_solve_be X67 X91 X122 X144 X164 Q o p1 p2 s
def x3_solve_L67 (o : Nat) (Q : Int → Mem → Prop) (x1 : Int) (x4 : Int) (s : Mem) : Prop := ∀ (X67 : Int → Int → Mem → Prop) (X91 : Int → Int → Int → Int → Mem → Prop) (X122 : Int → Int → Int → Int → Int → Int → Mem → Prop) (X144 : Int → Int → Int → Int → Int → Int → Mem → Prop) (X164 : Int → Int → Int → Int → Int → Int → Int → Int → Mem → Prop), (∀ x1 x4 s, x3_solve_b67 o X67 X91 X122 X144 X164 Q x1 x4 s → X67 x1 x4 s) → (∀ x1 x4 t0 t1 s, x3_solve_b91 o X67 X91 X122 X144 X164 Q x1 x4 t0 t1 s → X91 x1 x4 t0 t1 s) → (∀ x1 x4 x5 x6 x8 x9 s, x3_solve_b122 o X67 X91 X122 X144 X164 Q x1 x4 x5 x6 x8 x9 s → X122 x1 x4 x5 x6 x8 x9 s) → (∀ x1 x4 x5 x6 x9 t0 s, x3_solve_b144 o X67 X91 X122 X144 X164 Q x1 x4 x5 x6 x9 t0 s → X144 x1 x4 x5 x6 x9 t0 s) → (∀ x1 x4 x5 x6 x8 x9 t0 t1 s, x3_solve_b164 o X67 X91 X122 X144 X164 Q x1 x4 x5 x6 x8 x9 t0 t1 s → X164 x1 x4 x5 x6 x8 x9 t0 t1 s) → X67 x1 x4 s
def x3_solve_L91 (o : Nat) (Q : Int → Mem → Prop) (x1 : Int) (x4 : Int) (t0 : Int) (t1 : Int) (s : Mem) : Prop := ∀ (X67 : Int → Int → Mem → Prop) (X91 : Int → Int → Int → Int → Mem → Prop) (X122 : Int → Int → Int → Int → Int → Int → Mem → Prop) (X144 : Int → Int → Int → Int → Int → Int → Mem → Prop) (X164 : Int → Int → Int → Int → Int → Int → Int → Int → Mem → Prop), (∀ x1 x4 s, x3_solve_b67 o X67 X91 X122 X144 X164 Q x1 x4 s → X67 x1 x4 s) → (∀ x1 x4 t0 t1 s, x3_solve_b91 o X67 X91 X122 X144 X164 Q x1 x4 t0 t1 s → X91 x1 x4 t0 t1 s) → (∀ x1 x4 x5 x6 x8 x9 s, x3_solve_b122 o X67 X91 X122 X144 X164 Q x1 x4 x5 x6 x8 x9 s → X122 x1 x4 x5 x6 x8 x9 s) → (∀ x1 x4 x5 x6 x9 t0 s, x3_solve_b144 o X67 X91 X122 X144 X164 Q x1 x4 x5 x6 x9 t0 s → X144 x1 x4 x5 x6 x9 t0 s) → (∀ x1 x4 x5 x6 x8 x9 t0 t1 s, x3_solve_b164 o X67 X91 X122 X144 X164 Q x1 x4 x5 x6 x8 x9 t0 t1 s → X164 x1 x4 x5 x6 x8 x9 t0 t1 s) → X91 x1 x4 t0 t1 s
def x3_solve_L122 (o : Nat) (Q : Int → Mem → Prop) (x1 : Int) (x4 : Int) (x5 : Int) (x6 : Int) (x8 : Int) (x9 : Int) (s : Mem) : Prop := ∀ (X67 : Int → Int → Mem → Prop) (X91 : Int → Int → Int → Int → Mem → Prop) (X122 : Int → Int → Int → Int → Int → Int → Mem → Prop) (X144 : Int → Int → Int → Int → Int → Int → Mem → Prop) (X164 : Int → Int → Int → Int → Int → Int → Int → Int → Mem → Prop), (∀ x1 x4 s, x3_solve_b67 o X67 X91 X122 X144 X164 Q x1 x4 s → X67 x1 x4 s) → (∀ x1 x4 t0 t1 s, x3_solve_b91 o X67 X91 X122 X144 X164 Q x1 x4 t0 t1 s → X91 x1 x4 t0 t1 s) → (∀ x1 x4 x5 x6 x8 x9 s, x3_solve_b122 o X67 X91 X122 X144 X164 Q x1 x4 x5 x6 x8 x9 s → X122 x1 x4 x5 x6 x8 x9 s) → (∀ x1 x4 x5 x6 x9 t0 s, x3_solve_b144 o X67 X91 X122 X144 X164 Q x1 x4 x5 x6 x9 t0 s → X144 x1 x4 x5 x6 x9 t0 s) → (∀ x1 x4 x5 x6 x8 x9 t0 t1 s, x3_solve_b164 o X67 X91 X122 X144 X164 Q x1 x4 x5 x6 x8 x9 t0 t1 s → X164 x1 x4 x5 x6 x8 x9 t0 t1 s) → X122 x1 x4 x5 x6 x8 x9 s
def x3_solve_L144 (o : Nat) (Q : Int → Mem → Prop) (x1 : Int) (x4 : Int) (x5 : Int) (x6 : Int) (x9 : Int) (t0 : Int) (s : Mem) : Prop := ∀ (X67 : Int → Int → Mem → Prop) (X91 : Int → Int → Int → Int → Mem → Prop) (X122 : Int → Int → Int → Int → Int → Int → Mem → Prop) (X144 : Int → Int → Int → Int → Int → Int → Mem → Prop) (X164 : Int → Int → Int → Int → Int → Int → Int → Int → Mem → Prop), (∀ x1 x4 s, x3_solve_b67 o X67 X91 X122 X144 X164 Q x1 x4 s → X67 x1 x4 s) → (∀ x1 x4 t0 t1 s, x3_solve_b91 o X67 X91 X122 X144 X164 Q x1 x4 t0 t1 s → X91 x1 x4 t0 t1 s) → (∀ x1 x4 x5 x6 x8 x9 s, x3_solve_b122 o X67 X91 X122 X144 X164 Q x1 x4 x5 x6 x8 x9 s → X122 x1 x4 x5 x6 x8 x9 s) → (∀ x1 x4 x5 x6 x9 t0 s, x3_solve_b144 o X67 X91 X122 X144 X164 Q x1 x4 x5 x6 x9 t0 s → X144 x1 x4 x5 x6 x9 t0 s) → (∀ x1 x4 x5 x6 x8 x9 t0 t1 s, x3_solve_b164 o X67 X91 X122 X144 X164 Q x1 x4 x5 x6 x8 x9 t0 t1 s → X164 x1 x4 x5 x6 x8 x9 t0 t1 s) → X144 x1 x4 x5 x6 x9 t0 s
def x3_solve_L164 (o : Nat) (Q : Int → Mem → Prop) (x1 : Int) (x4 : Int) (x5 : Int) (x6 : Int) (x8 : Int) (x9 : Int) (t0 : Int) (t1 : Int) (s : Mem) : Prop := ∀ (X67 : Int → Int → Mem → Prop) (X91 : Int → Int → Int → Int → Mem → Prop) (X122 : Int → Int → Int → Int → Int → Int → Mem → Prop) (X144 : Int → Int → Int → Int → Int → Int → Mem → Prop) (X164 : Int → Int → Int → Int → Int → Int → Int → Int → Mem → Prop), (∀ x1 x4 s, x3_solve_b67 o X67 X91 X122 X144 X164 Q x1 x4 s → X67 x1 x4 s) → (∀ x1 x4 t0 t1 s, x3_solve_b91 o X67 X91 X122 X144 X164 Q x1 x4 t0 t1 s → X91 x1 x4 t0 t1 s) → (∀ x1 x4 x5 x6 x8 x9 s, x3_solve_b122 o X67 X91 X122 X144 X164 Q x1 x4 x5 x6 x8 x9 s → X122 x1 x4 x5 x6 x8 x9 s) → (∀ x1 x4 x5 x6 x9 t0 s, x3_solve_b144 o X67 X91 X122 X144 X164 Q x1 x4 x5 x6 x9 t0 s → X144 x1 x4 x5 x6 x9 t0 s) → (∀ x1 x4 x5 x6 x8 x9 t0 t1 s, x3_solve_b164 o X67 X91 X122 X144 X164 Q x1 x4 x5 x6 x8 x9 t0 t1 s → X164 x1 x4 x5 x6 x8 x9 t0 t1 s) → X164 x1 x4 x5 x6 x8 x9 t0 t1 s
theorem x3_solve_i {Q : Int → Mem → Prop} {o : Nat} {p1 : Int} {p2 : Int} {s : Mem} (h : x3_solve_be (x3_solve_L67 o Q) (x3_solve_L91 o Q) (x3_solve_L122 o Q) (x3_solve_L144 o Q) (x3_solve_L164 o Q) Q o p1 p2 s) : x3_solve o p1 p2 s Q := fun X67 X91 X122 X144 X164 k67 k91 k122 k144 k164 => x3_solve_me (fun _ _ _ h => h X67 X91 X122 X144 X164 k67 k91 k122 k144 k164) (fun _ _ _ _ _ h => h X67 X91 X122 X144 X164 k67 k91 k122 k144 k164) (fun _ _ _ _ _ _ _ h => h X67 X91 X122 X144 X164 k67 k91 k122 k144 k164) (fun _ _ _ _ _ _ _ h => h X67 X91 X122 X144 X164 k67 k91 k122 k144 k164) (fun _ _ _ _ _ _ _ _ _ h => h X67 X91 X122 X144 X164 k67 k91 k122 k144 k164) (fun _ _ h => h) h
theorem x3_solve_s67 {o : Nat} {Q : Int → Mem → Prop} {x1 : Int} {x4 : Int} {s : Mem} (h : x3_solve_b67 o (x3_solve_L67 o Q) (x3_solve_L91 o Q) (x3_solve_L122 o Q) (x3_solve_L144 o Q) (x3_solve_L164 o Q) Q x1 x4 s) : x3_solve_L67 o Q x1 x4 s := fun X67 X91 X122 X144 X164 k67 k91 k122 k144 k164 => k67 _ _ _ (x3_solve_m67 (fun _ _ _ h => h X67 X91 X122 X144 X164 k67 k91 k122 k144 k164) (fun _ _ _ _ _ h => h X67 X91 X122 X144 X164 k67 k91 k122 k144 k164) (fun _ _ _ _ _ _ _ h => h X67 X91 X122 X144 X164 k67 k91 k122 k144 k164) (fun _ _ _ _ _ _ _ h => h X67 X91 X122 X144 X164 k67 k91 k122 k144 k164) (fun _ _ _ _ _ _ _ _ _ h => h X67 X91 X122 X144 X164 k67 k91 k122 k144 k164) (fun _ _ h => h) h)
theorem x3_solve_s91 {o : Nat} {Q : Int → Mem → Prop} {x1 : Int} {x4 : Int} {t0 : Int} {t1 : Int} {s : Mem} (h : x3_solve_b91 o (x3_solve_L67 o Q) (x3_solve_L91 o Q) (x3_solve_L122 o Q) (x3_solve_L144 o Q) (x3_solve_L164 o Q) Q x1 x4 t0 t1 s) : x3_solve_L91 o Q x1 x4 t0 t1 s := fun X67 X91 X122 X144 X164 k67 k91 k122 k144 k164 => k91 _ _ _ _ _ (x3_solve_m91 (fun _ _ _ h => h X67 X91 X122 X144 X164 k67 k91 k122 k144 k164) (fun _ _ _ _ _ h => h X67 X91 X122 X144 X164 k67 k91 k122 k144 k164) (fun _ _ _ _ _ _ _ h => h X67 X91 X122 X144 X164 k67 k91 k122 k144 k164) (fun _ _ _ _ _ _ _ h => h X67 X91 X122 X144 X164 k67 k91 k122 k144 k164) (fun _ _ _ _ _ _ _ _ _ h => h X67 X91 X122 X144 X164 k67 k91 k122 k144 k164) (fun _ _ h => h) h)
theorem x3_solve_s122 {o : Nat} {Q : Int → Mem → Prop} {x1 : Int} {x4 : Int} {x5 : Int} {x6 : Int} {x8 : Int} {x9 : Int} {s : Mem} (h : x3_solve_b122 o (x3_solve_L67 o Q) (x3_solve_L91 o Q) (x3_solve_L122 o Q) (x3_solve_L144 o Q) (x3_solve_L164 o Q) Q x1 x4 x5 x6 x8 x9 s) : x3_solve_L122 o Q x1 x4 x5 x6 x8 x9 s := fun X67 X91 X122 X144 X164 k67 k91 k122 k144 k164 => k122 _ _ _ _ _ _ _ (x3_solve_m122 (fun _ _ _ h => h X67 X91 X122 X144 X164 k67 k91 k122 k144 k164) (fun _ _ _ _ _ h => h X67 X91 X122 X144 X164 k67 k91 k122 k144 k164) (fun _ _ _ _ _ _ _ h => h X67 X91 X122 X144 X164 k67 k91 k122 k144 k164) (fun _ _ _ _ _ _ _ h => h X67 X91 X122 X144 X164 k67 k91 k122 k144 k164) (fun _ _ _ _ _ _ _ _ _ h => h X67 X91 X122 X144 X164 k67 k91 k122 k144 k164) (fun _ _ h => h) h)
theorem x3_solve_s144 {o : Nat} {Q : Int → Mem → Prop} {x1 : Int} {x4 : Int} {x5 : Int} {x6 : Int} {x9 : Int} {t0 : Int} {s : Mem} (h : x3_solve_b144 o (x3_solve_L67 o Q) (x3_solve_L91 o Q) (x3_solve_L122 o Q) (x3_solve_L144 o Q) (x3_solve_L164 o Q) Q x1 x4 x5 x6 x9 t0 s) : x3_solve_L144 o Q x1 x4 x5 x6 x9 t0 s := fun X67 X91 X122 X144 X164 k67 k91 k122 k144 k164 => k144 _ _ _ _ _ _ _ (x3_solve_m144 (fun _ _ _ h => h X67 X91 X122 X144 X164 k67 k91 k122 k144 k164) (fun _ _ _ _ _ h => h X67 X91 X122 X144 X164 k67 k91 k122 k144 k164) (fun _ _ _ _ _ _ _ h => h X67 X91 X122 X144 X164 k67 k91 k122 k144 k164) (fun _ _ _ _ _ _ _ h => h X67 X91 X122 X144 X164 k67 k91 k122 k144 k164) (fun _ _ _ _ _ _ _ _ _ h => h X67 X91 X122 X144 X164 k67 k91 k122 k144 k164) (fun _ _ h => h) h)
theorem x3_solve_s164 {o : Nat} {Q : Int → Mem → Prop} {x1 : Int} {x4 : Int} {x5 : Int} {x6 : Int} {x8 : Int} {x9 : Int} {t0 : Int} {t1 : Int} {s : Mem} (h : x3_solve_b164 o (x3_solve_L67 o Q) (x3_solve_L91 o Q) (x3_solve_L122 o Q) (x3_solve_L144 o Q) (x3_solve_L164 o Q) Q x1 x4 x5 x6 x8 x9 t0 t1 s) : x3_solve_L164 o Q x1 x4 x5 x6 x8 x9 t0 t1 s := fun X67 X91 X122 X144 X164 k67 k91 k122 k144 k164 => k164 _ _ _ _ _ _ _ _ _ (x3_solve_m164 (fun _ _ _ h => h X67 X91 X122 X144 X164 k67 k91 k122 k144 k164) (fun _ _ _ _ _ h => h X67 X91 X122 X144 X164 k67 k91 k122 k144 k164) (fun _ _ _ _ _ _ _ h => h X67 X91 X122 X144 X164 k67 k91 k122 k144 k164) (fun _ _ _ _ _ _ _ h => h X67 X91 X122 X144 X164 k67 k91 k122 k144 k164) (fun _ _ _ _ _ _ _ _ _ h => h X67 X91 X122 X144 X164 k67 k91 k122 k144 k164) (fun _ _ h => h) h)
theorem x3_solve_mono {Q R : Int → Mem → Prop} {o : Nat} {p1 : Int} {p2 : Int} {s : Mem} (h : x3_solve o p1 p2 s Q) (hQ : ∀ r s, Q r s → R r s) : x3_solve o p1 p2 s R := fun X67 X91 X122 X144 X164 k67 k91 k122 k144 k164 => x3_solve_me (fun _ _ _ h => h) (fun _ _ _ _ _ h => h) (fun _ _ _ _ _ _ _ h => h) (fun _ _ _ _ _ _ _ h => h) (fun _ _ _ _ _ _ _ _ _ h => h) hQ (h X67 X91 X122 X144 X164 (fun _ _ _ h => k67 _ _ _ (x3_solve_m67 (fun _ _ _ h => h) (fun _ _ _ _ _ h => h) (fun _ _ _ _ _ _ _ h => h) (fun _ _ _ _ _ _ _ h => h) (fun _ _ _ _ _ _ _ _ _ h => h) hQ h)) (fun _ _ _ _ _ h => k91 _ _ _ _ _ (x3_solve_m91 (fun _ _ _ h => h) (fun _ _ _ _ _ h => h) (fun _ _ _ _ _ _ _ h => h) (fun _ _ _ _ _ _ _ h => h) (fun _ _ _ _ _ _ _ _ _ h => h) hQ h)) (fun _ _ _ _ _ _ _ h => k122 _ _ _ _ _ _ _ (x3_solve_m122 (fun _ _ _ h => h) (fun _ _ _ _ _ h => h) (fun _ _ _ _ _ _ _ h => h) (fun _ _ _ _ _ _ _ h => h) (fun _ _ _ _ _ _ _ _ _ h => h) hQ h)) (fun _ _ _ _ _ _ _ h => k144 _ _ _ _ _ _ _ (x3_solve_m144 (fun _ _ _ h => h) (fun _ _ _ _ _ h => h) (fun _ _ _ _ _ _ _ h => h) (fun _ _ _ _ _ _ _ h => h) (fun _ _ _ _ _ _ _ _ _ h => h) hQ h)) (fun _ _ _ _ _ _ _ _ _ h => k164 _ _ _ _ _ _ _ _ _ (x3_solve_m164 (fun _ _ _ h => h) (fun _ _ _ _ _ h => h) (fun _ _ _ _ _ _ _ h => h) (fun _ _ _ _ _ _ _ h => h) (fun _ _ _ _ _ _ _ _ _ h => h) hQ h)))
def x3_solve_rm : Room := { frames := 0, cells := 0, slots := 0, locals := 0 }
theorem w_x3_solve_19 : Cond.fieldLink RX3 19 "BoltRing$Lifts" "diagonal" "[J" ∈ wsX3_solve := by decide +kernel
theorem w_x3_solve_28 : Cond.fieldLink RX3 28 "BoltRing$Lifts" "arcs" "[J" ∈ wsX3_solve := by decide +kernel
theorem w_x3_solve_68 : Cond.constantLong RX3 68 (2) ∈ wsX3_solve := by decide +kernel
theorem w_x3_solve_25 : Cond.fieldLink RX3 25 "BoltRing$Lifts" "ribPowers" "[J" ∈ wsX3_solve := by decide +kernel
theorem w_x3_solve_15 : Cond.fieldLink RX3 15 "BoltRing$Lifts" "lower" "J" ∈ wsX3_solve := by decide +kernel
theorem w_x3_solve_22 : Cond.fieldLink RX3 22 "BoltRing$Lifts" "side" "[J" ∈ wsX3_solve := by decide +kernel
theorem w_x3_solve_9 : Cond.fieldLink RX3 9 "BoltRing$Lifts" "upper" "[J" ∈ wsX3_solve := by decide +kernel
theorem in_x3_solve_X3 : ∀ w ∈ wsX30, w ∈ wsX3_solve := by decide +kernel
set_option maxHeartbeats 4000000 in
set_option maxRecDepth 100000 in
theorem x3_solve_bd {κ : KT} {ad : Nat → Nat} {cA : Nat → ClassId} {D : va_G} {Q : State → Prop} {o : Nat} {p1 : Int} {p2 : Int} {s : Mem} (ho : LfA o) (C : CX κ (GA ad cA D) RX3 cX3_solve 15 wsX3_solve x3_solve_rm none) (h : x3_solve o p1 p2 s (RT κ (GA ad cA D) ocV Q)) : WM κ (GA ad cA D) 15 Q s 0 [(0, .ref (ad o)), (1, vI p1), (2, vI p2)] [] := by
  obtain ⟨Z67, z67⟩ : ∃ Z : Int → Int → Mem → Prop, ∀ x1 x4 s, Z x1 x4 s ↔ WM κ (GA ad cA D) 15 Q s 67 [(0, .ref (ad o)), (1, vI x1), (4, vI x4)] [] := ⟨fun x1 x4 s => WM κ (GA ad cA D) 15 Q s 67 [(0, .ref (ad o)), (1, vI x1), (4, vI x4)] [], fun _ _ _ => Iff.rfl⟩
  obtain ⟨Z91, z91⟩ : ∃ Z : Int → Int → Int → Int → Mem → Prop, ∀ x1 x4 t0 t1 s, Z x1 x4 t0 t1 s ↔ WM κ (GA ad cA D) 15 Q s 91 [(0, .ref (ad o)), (1, vI x1), (4, vI x4)] [vI t0, vI t1] := ⟨fun x1 x4 t0 t1 s => WM κ (GA ad cA D) 15 Q s 91 [(0, .ref (ad o)), (1, vI x1), (4, vI x4)] [vI t0, vI t1], fun _ _ _ _ _ => Iff.rfl⟩
  obtain ⟨Z122, z122⟩ : ∃ Z : Int → Int → Int → Int → Int → Int → Mem → Prop, ∀ x1 x4 x5 x6 x8 x9 s, Z x1 x4 x5 x6 x8 x9 s ↔ WM κ (GA ad cA D) 15 Q s 122 [(0, .ref (ad o)), (1, vI x1), (4, vI x4), (5, vI x5), (6, vL x6), (8, vI x8), (9, vI x9)] [] := ⟨fun x1 x4 x5 x6 x8 x9 s => WM κ (GA ad cA D) 15 Q s 122 [(0, .ref (ad o)), (1, vI x1), (4, vI x4), (5, vI x5), (6, vL x6), (8, vI x8), (9, vI x9)] [], fun _ _ _ _ _ _ _ => Iff.rfl⟩
  obtain ⟨Z144, z144⟩ : ∃ Z : Int → Int → Int → Int → Int → Int → Mem → Prop, ∀ x1 x4 x5 x6 x9 t0 s, Z x1 x4 x5 x6 x9 t0 s ↔ WM κ (GA ad cA D) 15 Q s 144 [(0, .ref (ad o)), (1, vI x1), (4, vI x4), (5, vI x5), (6, vL x6), (9, vI x9)] [vI t0] := ⟨fun x1 x4 x5 x6 x9 t0 s => WM κ (GA ad cA D) 15 Q s 144 [(0, .ref (ad o)), (1, vI x1), (4, vI x4), (5, vI x5), (6, vL x6), (9, vI x9)] [vI t0], fun _ _ _ _ _ _ _ => Iff.rfl⟩
  obtain ⟨Z164, z164⟩ : ∃ Z : Int → Int → Int → Int → Int → Int → Int → Int → Mem → Prop, ∀ x1 x4 x5 x6 x8 x9 t0 t1 s, Z x1 x4 x5 x6 x8 x9 t0 t1 s ↔ WM κ (GA ad cA D) 15 Q s 164 [(0, .ref (ad o)), (1, vI x1), (4, vI x4), (5, vI x5), (6, vL x6), (8, vI x8), (9, vI x9)] [vI t0, vI t1] := ⟨fun x1 x4 x5 x6 x8 x9 t0 t1 s => WM κ (GA ad cA D) 15 Q s 164 [(0, .ref (ad o)), (1, vI x1), (4, vI x4), (5, vI x5), (6, vL x6), (8, vI x8), (9, vI x9)] [vI t0, vI t1], fun _ _ _ _ _ _ _ _ _ => Iff.rfl⟩
  refine (fun h => ?_) (h Z67 Z91 Z122 Z144 Z164 ?_ ?_ ?_ ?_ ?_)
  · refine r_bipush C dX3_solve_0 (by decide) ?_
    refine r_istore_n (ls' := [(3, vI (6 : Int)), (0, .ref (ad o)), (1, vI p1), (2, vI p2)]) C dX3_solve_2 rfl (by decide) rfl ?_
    refine r_aload_n C 1 dX3_solve_3 rfl ?_
    refine r_aload_n C 1 dX3_solve_4 rfl ?_
    refine r_get (j := 2) (jz := 2) (v := .ref (ad (o + 2))) C dX3_solve_5 (lf_0 ho) rfl rfl (by decide) in_x3_solve_X3 w_x3_solve_19 rfl rfl rfl ?_
    refine r_iconst C dX3_solve_8 ?_
    refine r_lald (nz := 6) C dX3_solve_9 (lf_2 ho) rfl (by decide) ⟨h.1, ?_⟩
    have h := h.2
    refine r_aload_n C 1 dX3_solve_10 rfl ?_
    refine r_get (j := 5) (jz := 5) (v := .ref (ad (o + 5))) C dX3_solve_11 (lf_0 ho) rfl rfl (by decide) in_x3_solve_X3 w_x3_solve_28 rfl rfl rfl ?_
    refine r_iload_n C 0 dX3_solve_14 rfl ?_
    refine r_iload_n C 2 dX3_solve_15 rfl ?_
    refine r_iadd C dX3_solve_16 ?_
    refine r_iconst C dX3_solve_17 ?_
    refine r_isub C dX3_solve_18 ?_
    refine r_lald (nz := 36) C dX3_solve_19 (lf_5 ho) rfl (by decide) ⟨h.1, ?_⟩
    have h := h.2
    refine r_lmul C dX3_solve_20 ?_
    refine r_ldc2 (z := 2) C dX3_solve_21 w_x3_solve_68 rfl ?_
    refine r_aload_n C 1 dX3_solve_24 rfl ?_
    refine r_get (j := 4) (jz := 4) (v := .ref (ad (o + 4))) C dX3_solve_25 (lf_0 ho) rfl rfl (by decide) in_x3_solve_X3 w_x3_solve_25 rfl rfl rfl ?_
    refine r_iload_n C 2 dX3_solve_28 rfl ?_
    refine r_lald (nz := 7) C dX3_solve_29 (lf_4 ho) rfl (by decide) ⟨h.1, ?_⟩
    have h := h.2
    refine r_lmul C dX3_solve_30 ?_
    refine r_lsub C dX3_solve_31 ?_
    refine r_iload_n C 3 dX3_solve_32 rfl ?_
    refine r_i2l C dX3_solve_33 ⟨h.1, ?_⟩
    have h := h.2
    refine r_iload_n C 3 dX3_solve_34 rfl ?_
    refine r_i2l C dX3_solve_35 ⟨h.1, ?_⟩
    have h := h.2
    refine r_lmul C dX3_solve_36 ?_
    refine r_aload_n C 1 dX3_solve_37 rfl ?_
    refine r_get (j := 5) (jz := 5) (v := .ref (ad (o + 5))) C dX3_solve_38 (lf_0 ho) rfl rfl (by decide) in_x3_solve_X3 w_x3_solve_28 rfl rfl rfl ?_
    refine r_iload_n C 0 dX3_solve_41 rfl ?_
    refine r_iload_n C 2 dX3_solve_42 rfl ?_
    refine r_iadd C dX3_solve_43 ?_
    refine r_iconst C dX3_solve_44 ?_
    refine r_isub C dX3_solve_45 ?_
    refine r_lald (nz := 36) C dX3_solve_46 (lf_5 ho) rfl (by decide) ⟨h.1, ?_⟩
    have h := h.2
    refine r_aload_n C 1 dX3_solve_47 rfl ?_
    refine r_get (j := 5) (jz := 5) (v := .ref (ad (o + 5))) C dX3_solve_48 (lf_0 ho) rfl rfl (by decide) in_x3_solve_X3 w_x3_solve_28 rfl rfl rfl ?_
    refine r_bipush C dX3_solve_51 (by decide) ?_
    refine r_iload_n C 2 dX3_solve_53 rfl ?_
    refine r_iadd C dX3_solve_54 ?_
    refine r_iconst C dX3_solve_55 ?_
    refine r_isub C dX3_solve_56 ?_
    refine r_lald (nz := 36) C dX3_solve_57 (lf_5 ho) rfl (by decide) ⟨h.1, ?_⟩
    have h := h.2
    refine r_ladd C dX3_solve_58 ?_
    refine r_lmul C dX3_solve_59 ?_
    refine r_lsub C dX3_solve_60 ?_
    refine r_putl (j := 1) (jz := 1) C dX3_solve_61 (lf_0 ho) rfl rfl (by decide) in_x3_solve_X3 tyX3 tyX3_ok nmX3 w_x3_solve_15 rfl rfl (by decide +kernel) rfl (fun s1 e_s1 => ?_)
    have h := h s1 e_s1
    refine r_iconst C dX3_solve_64 ?_
    refine r_istore (ls' := [(4, vI (0 : Int)), (3, vI (6 : Int)), (0, .ref (ad o)), (1, vI p1), (2, vI p2)]) C dX3_solve_65 (by decide) rfl ?_
    exact r_perm [2, 3, 0] rfl ((z67 _ _ _).1 h)
  · intro x1 x4 s h
    refine (z67 _ _ _).2 ?_
    refine r_iload C 2 dX3_solve_67 rfl ?_
    refine r_iload_n C 1 dX3_solve_69 rfl ?_
    refine r_icmp_ge (tgt := 254) C dX3_solve_70 (by decide) ⟨h.1, fun c3 => ?_, fun c3 => ?_⟩
    · have h := h.2.1 c3
      exact r_return C dX3_solve_254 h
    · have h := h.2.2 c3
      refine r_bipush C dX3_solve_73 (by decide) ?_
      refine r_iload C 2 dX3_solve_75 rfl ?_
      refine r_iconst C dX3_solve_77 ?_
      refine r_iadd C dX3_solve_78 ?_
      refine r_iload_n C 1 dX3_solve_79 rfl ?_
      refine r_icmp_ge (tgt := 90) C dX3_solve_80 (by decide) ⟨h.1, fun c2 => ?_, fun c2 => ?_⟩
      · have h := h.2.1 c2
        refine r_iconst C dX3_solve_90 ?_
        exact r_perm [0, 1, 2] rfl ((z91 _ _ _ _ _).1 h)
      · have h := h.2.2 c2
        refine r_iload C 2 dX3_solve_83 rfl ?_
        refine r_iconst C dX3_solve_85 ?_
        refine r_iadd C dX3_solve_86 ?_
        refine r_goto (tgt := 91) C dX3_solve_87 (by decide) ?_
        exact r_perm [0, 1, 2] rfl ((z91 _ _ _ _ _).1 h)
  · intro x1 x4 t0 t1 s h
    refine (z91 _ _ _ _ _).2 ?_
    refine r_imul C dX3_solve_91 ?_
    refine r_istore (ls' := [(5, vI (t1 * t0)), (0, .ref (ad o)), (1, vI x1), (4, vI x4)]) C dX3_solve_92 (by decide) rfl ?_
    refine r_aload_n C 1 dX3_solve_94 rfl ?_
    refine r_get (j := 3) (jz := 3) (v := .ref (ad (o + 3))) C dX3_solve_95 (lf_0 ho) rfl rfl (by decide) in_x3_solve_X3 w_x3_solve_22 rfl rfl rfl ?_
    refine r_iload C 3 dX3_solve_98 rfl ?_
    refine r_lald (nz := 6) C dX3_solve_100 (lf_3 ho) rfl (by decide) ⟨h.1, ?_⟩
    have h := h.2
    refine r_aload_n C 1 dX3_solve_101 rfl ?_
    refine r_get (j := 5) (jz := 5) (v := .ref (ad (o + 5))) C dX3_solve_102 (lf_0 ho) rfl rfl (by decide) in_x3_solve_X3 w_x3_solve_28 rfl rfl rfl ?_
    refine r_iload C 0 dX3_solve_105 rfl ?_
    refine r_iload_n C 2 dX3_solve_107 rfl ?_
    refine r_iadd C dX3_solve_108 ?_
    refine r_iconst C dX3_solve_109 ?_
    refine r_isub C dX3_solve_110 ?_
    refine r_lald (nz := 36) C dX3_solve_111 (lf_5 ho) rfl (by decide) ⟨h.1, ?_⟩
    have h := h.2
    refine r_lmul C dX3_solve_112 ?_
    refine r_topL (fun v4 e_v4 => ?_)
    have h := h v4 e_v4
    refine r_lstore (ls' := [(6, vL v4), (5, vI (t1 * t0)), (0, .ref (ad o)), (1, vI x1), (4, vI x4)]) C dX3_solve_113 (by decide) rfl ?_
    refine r_iload C 4 dX3_solve_115 rfl ?_
    refine r_istore (ls' := [(8, vI x4), (6, vL v4), (5, vI (t1 * t0)), (0, .ref (ad o)), (1, vI x1), (4, vI x4)]) C dX3_solve_117 (by decide) rfl ?_
    refine r_iconst C dX3_solve_119 ?_
    refine r_istore (ls' := [(9, vI (1 : Int)), (8, vI x4), (6, vL v4), (5, vI (t1 * t0)), (0, .ref (ad o)), (1, vI x1), (4, vI x4)]) C dX3_solve_120 (by decide) rfl ?_
    exact r_perm [4, 5, 6, 3, 2, 1, 0] rfl ((z122 _ _ _ _ _ _ _).1 h)
  · intro x1 x4 x5 x6 x8 x9 s h
    refine (z122 _ _ _ _ _ _ _).2 ?_
    refine r_iload C 6 dX3_solve_122 rfl ?_
    refine r_iload_n C 1 dX3_solve_124 rfl ?_
    refine r_icmp_ge (tgt := 239) C dX3_solve_125 (by decide) ⟨h.1, fun c7 => ?_, fun c7 => ?_⟩
    · have h := h.2.1 c7
      refine r_aload_n C 0 dX3_solve_239 rfl ?_
      refine r_get (j := 0) (jz := 0) (v := .ref (ad (o + 1))) C dX3_solve_240 (lf_0 ho) rfl rfl (by decide) in_x3_solve_X3 w_x3_solve_9 rfl rfl rfl ?_
      refine r_iload C 2 dX3_solve_243 rfl ?_
      refine r_lload C 4 dX3_solve_245 rfl ?_
      refine r_last (nz := 6) C dX3_solve_247 (lf_1 ho) rfl (by decide) ⟨h.1, fun s5 e_s5 => ?_⟩
      have h := h.2 s5 e_s5
      refine r_iinc (j := 2) (ls' := [(4, vI (x4 + (1 : Int))), (0, .ref (ad o)), (1, vI x1), (5, vI x5), (6, vL x6), (8, vI x8), (9, vI x9)]) C dX3_solve_248 rfl (by decide) rfl ?_
      refine r_goto (tgt := 67) C dX3_solve_251 (by decide) ?_
      exact r_perm [1, 2, 0] rfl ((z67 _ _ _).1 h)
    · have h := h.2.2 c7
      refine r_iload C 5 dX3_solve_128 rfl ?_
      refine r_iconst C dX3_solve_130 ?_
      refine r_iadd C dX3_solve_131 ?_
      refine r_iload_n C 1 dX3_solve_132 rfl ?_
      refine r_icmp_ge (tgt := 143) C dX3_solve_133 (by decide) ⟨h.1, fun c6 => ?_, fun c6 => ?_⟩
      · have h := h.2.1 c6
        refine r_iconst C dX3_solve_143 ?_
        exact r_perm [0, 1, 2, 3, 4, 6] rfl ((z144 _ _ _ _ _ _ _).1 h)
      · have h := h.2.2 c6
        refine r_iload C 5 dX3_solve_136 rfl ?_
        refine r_iconst C dX3_solve_138 ?_
        refine r_iadd C dX3_solve_139 ?_
        refine r_goto (tgt := 144) C dX3_solve_140 (by decide) ?_
        exact r_perm [0, 1, 2, 3, 4, 6] rfl ((z144 _ _ _ _ _ _ _).1 h)
  · intro x1 x4 x5 x6 x9 t0 s h
    refine (z144 _ _ _ _ _ _ _).2 ?_
    refine r_istore (ls' := [(8, vI t0), (0, .ref (ad o)), (1, vI x1), (4, vI x4), (5, vI x5), (6, vL x6), (9, vI x9)]) C dX3_solve_144 (by decide) rfl ?_
    refine r_bipush C dX3_solve_146 (by decide) ?_
    refine r_iload C 0 dX3_solve_148 rfl ?_
    refine r_iconst C dX3_solve_150 ?_
    refine r_iadd C dX3_solve_151 ?_
    refine r_iload_n C 2 dX3_solve_152 rfl ?_
    refine r_icmp_ge (tgt := 163) C dX3_solve_153 (by decide) ⟨h.1, fun c8 => ?_, fun c8 => ?_⟩
    · have h := h.2.1 c8
      refine r_iconst C dX3_solve_163 ?_
      exact r_perm [1, 2, 3, 4, 5, 0, 6] rfl ((z164 _ _ _ _ _ _ _ _ _).1 h)
    · have h := h.2.2 c8
      refine r_iload C 0 dX3_solve_156 rfl ?_
      refine r_iconst C dX3_solve_158 ?_
      refine r_iadd C dX3_solve_159 ?_
      refine r_goto (tgt := 164) C dX3_solve_160 (by decide) ?_
      exact r_perm [1, 2, 3, 4, 5, 0, 6] rfl ((z164 _ _ _ _ _ _ _ _ _).1 h)
  · intro x1 x4 x5 x6 x8 x9 t0 t1 s h
    refine (z164 _ _ _ _ _ _ _ _ _).2 ?_
    refine r_imul C dX3_solve_164 ?_
    refine r_istore (ls' := [(10, vI (t1 * t0)), (0, .ref (ad o)), (1, vI x1), (4, vI x4), (5, vI x5), (6, vL x6), (8, vI x8), (9, vI x9)]) C dX3_solve_165 (by decide) rfl ?_
    refine r_aload_n C 1 dX3_solve_167 rfl ?_
    refine r_get (j := 4) (jz := 4) (v := .ref (ad (o + 4))) C dX3_solve_168 (lf_0 ho) rfl rfl (by decide) in_x3_solve_X3 w_x3_solve_25 rfl rfl rfl ?_
    refine r_iload C 7 dX3_solve_171 rfl ?_
    refine r_lald (nz := 7) C dX3_solve_173 (lf_4 ho) rfl (by decide) ⟨h.1, ?_⟩
    have h := h.2
    refine r_aload_n C 1 dX3_solve_174 rfl ?_
    refine r_get (j := 5) (jz := 5) (v := .ref (ad (o + 5))) C dX3_solve_175 (lf_0 ho) rfl rfl (by decide) in_x3_solve_X3 w_x3_solve_28 rfl rfl rfl ?_
    refine r_iload C 0 dX3_solve_178 rfl ?_
    refine r_iload_n C 2 dX3_solve_180 rfl ?_
    refine r_iadd C dX3_solve_181 ?_
    refine r_iconst C dX3_solve_182 ?_
    refine r_isub C dX3_solve_183 ?_
    refine r_iload C 7 dX3_solve_184 rfl ?_
    refine r_isub C dX3_solve_186 ?_
    refine r_lald (nz := 36) C dX3_solve_187 (lf_5 ho) rfl (by decide) ⟨h.1, ?_⟩
    have h := h.2
    refine r_lmul C dX3_solve_188 ?_
    refine r_topL (fun v9 e_v9 => ?_)
    have h := h v9 e_v9
    refine r_lstore (ls' := [(11, vL v9), (10, vI (t1 * t0)), (0, .ref (ad o)), (1, vI x1), (4, vI x4), (5, vI x5), (6, vL x6), (8, vI x8), (9, vI x9)]) C dX3_solve_189 (by decide) rfl ?_
    refine r_aload_n C 2 dX3_solve_191 rfl ?_
    refine r_get (j := 4) (jz := 4) (v := .ref (ad (o + 4))) C dX3_solve_192 (lf_0 ho) rfl rfl (by decide) in_x3_solve_X3 w_x3_solve_25 rfl rfl rfl ?_
    refine r_iload_n C 3 dX3_solve_195 rfl ?_
    refine r_iload C 8 dX3_solve_196 rfl ?_
    refine r_isub C dX3_solve_198 ?_
    refine r_lald (nz := 7) C dX3_solve_199 (lf_4 ho) rfl (by decide) ⟨h.1, ?_⟩
    have h := h.2
    refine r_aload_n C 2 dX3_solve_200 rfl ?_
    refine r_get (j := 5) (jz := 5) (v := .ref (ad (o + 5))) C dX3_solve_201 (lf_0 ho) rfl rfl (by decide) in_x3_solve_X3 w_x3_solve_28 rfl rfl rfl ?_
    refine r_iload C 5 dX3_solve_204 rfl ?_
    refine r_iload C 8 dX3_solve_206 rfl ?_
    refine r_iadd C dX3_solve_208 ?_
    refine r_iconst C dX3_solve_209 ?_
    refine r_isub C dX3_solve_210 ?_
    refine r_lald (nz := 36) C dX3_solve_211 (lf_5 ho) rfl (by decide) ⟨h.1, ?_⟩
    have h := h.2
    refine r_lmul C dX3_solve_212 ?_
    refine r_topL (fun v10 e_v10 => ?_)
    have h := h v10 e_v10
    refine r_lstore (ls' := [(13, vL v10), (11, vL v9), (10, vI (t1 * t0)), (0, .ref (ad o)), (1, vI x1), (4, vI x4), (5, vI x5), (6, vL x6), (8, vI x8), (9, vI x9)]) C dX3_solve_213 (by decide) rfl ?_
    refine r_lload C 7 dX3_solve_215 rfl ?_
    refine r_aload_n C 3 dX3_solve_217 rfl ?_
    refine r_get (j := 3) (jz := 3) (v := .ref (ad (o + 3))) C dX3_solve_218 (lf_0 ho) rfl rfl (by decide) in_x3_solve_X3 w_x3_solve_22 rfl rfl rfl ?_
    refine r_iload C 8 dX3_solve_221 rfl ?_
    refine r_lald (nz := 6) C dX3_solve_223 (lf_3 ho) rfl (by decide) ⟨h.1, ?_⟩
    have h := h.2
    refine r_lload C 1 dX3_solve_224 rfl ?_
    refine r_lload C 0 dX3_solve_226 rfl ?_
    refine r_ladd C dX3_solve_228 ?_
    refine r_lmul C dX3_solve_229 ?_
    refine r_ladd C dX3_solve_230 ?_
    refine r_topL (fun v11 e_v11 => ?_)
    have h := h v11 e_v11
    refine r_lstore (ls' := [(6, vL v11), (13, vL v10), (11, vL v9), (10, vI (t1 * t0)), (0, .ref (ad o)), (1, vI x1), (4, vI x4), (5, vI x5), (8, vI x8), (9, vI x9)]) C dX3_solve_231 (by decide) rfl ?_
    refine r_iinc (j := 9) (ls' := [(9, vI (x9 + (1 : Int))), (6, vL v11), (13, vL v10), (11, vL v9), (10, vI (t1 * t0)), (0, .ref (ad o)), (1, vI x1), (4, vI x4), (5, vI x5), (8, vI x8)]) C dX3_solve_233 rfl (by decide) rfl ?_
    refine r_goto (tgt := 122) C dX3_solve_236 (by decide) ?_
    exact r_perm [5, 6, 7, 8, 1, 9, 0] rfl ((z122 _ _ _ _ _ _ _).1 h)
theorem x3_solve_ct (l : Launch) (ad : Nat → Nat) (cA : Nat → ClassId) (D : va_G) (o : Nat) (p1 : Int) (p2 : Int) (s : Mem) (ho : LfA o) : MG l yX3_solve wsX3_solve x3_solve_rm ocV [.ref (ad o), vI p1, vI p2] (GA ad cA D) s (x3_solve o p1 p2 s) :=
  m_met (own := RX3) (nL := 15) (by decide) rfl rfl (Nat.le_of_ble_eq_true rfl) rfl rfl rfl (fun κ hl C Q Pst hW hQ => x3_solve_bd ho C (x3_solve_mono hW hQ))

def x3_liftedSet_be (X4 : Int → Int → Mem → Prop) (Q : Int → Mem → Prop) (o : Nat) (s : Mem) : Prop :=
  X4 (0 : Int) (0 : Int) s
def x3_liftedSet_b4 (o : Nat) (X4 : Int → Int → Mem → Prop) (Q : Int → Mem → Prop) (x2 : Int) (x3 : Int) (s : Mem) : Prop :=
  (InI x3 ∧ InI (s 1 (0 : Int))) ∧ ((s 1 (0 : Int)) ≤ x3 → Q x2 s) ∧ (x3 < (s 1 (0 : Int)) → ((0 : Int) ≤ x3 ∧ x3 < 6) ∧ (InL (s (o + 1) x3) ∧ InL (0 : Int)) ∧ ((s (o + 1) x3) ≤ (0 : Int) → X4 x2 (x3 + (1 : Int)) s) ∧ ((0 : Int) < (s (o + 1) x3) → ∀ v1 : Int, v1 = (orI x2 (shlI (1 : Int) x3)) → X4 v1 (x3 + (1 : Int)) s))
theorem x3_liftedSet_me {X4 Y4 : Int → Int → Mem → Prop} {Q R : Int → Mem → Prop} (hX4 : ∀ x2 x3 s, X4 x2 x3 s → Y4 x2 x3 s) (hQ : ∀ r s, Q r s → R r s) {o : Nat} {s : Mem} (h : x3_liftedSet_be X4 Q o s) : x3_liftedSet_be Y4 R o s :=
  hX4 _ _ _ h
theorem x3_liftedSet_m4 {o : Nat} {X4 Y4 : Int → Int → Mem → Prop} {Q R : Int → Mem → Prop} (hX4 : ∀ x2 x3 s, X4 x2 x3 s → Y4 x2 x3 s) (hQ : ∀ r s, Q r s → R r s) {x2 : Int} {x3 : Int} {s : Mem} (h : x3_liftedSet_b4 o X4 Q x2 x3 s) : x3_liftedSet_b4 o Y4 R x2 x3 s :=
  ⟨h.1, fun c => have h := h.2.1 c; hQ _ _ h, fun c => have h := h.2.2 c; ⟨h.1, have h := h.2; ⟨h.1, fun c => have h := h.2.1 c; hX4 _ _ _ h, fun c => have h := h.2.2 c; fun v1 e_v1 => have h := h v1 e_v1; hX4 _ _ _ h⟩⟩⟩
def x3_liftedSet (o : Nat) (s : Mem) (Q : Int → Mem → Prop) : Prop := ∀ (X4 : Int → Int → Mem → Prop), (∀ x2 x3 s, x3_liftedSet_b4 o X4 Q x2 x3 s → X4 x2 x3 s) → x3_liftedSet_be X4 Q o s
def x3_liftedSet_L4 (o : Nat) (Q : Int → Mem → Prop) (x2 : Int) (x3 : Int) (s : Mem) : Prop := ∀ (X4 : Int → Int → Mem → Prop), (∀ x2 x3 s, x3_liftedSet_b4 o X4 Q x2 x3 s → X4 x2 x3 s) → X4 x2 x3 s
theorem x3_liftedSet_i {Q : Int → Mem → Prop} {o : Nat} {s : Mem} (h : x3_liftedSet_be (x3_liftedSet_L4 o Q) Q o s) : x3_liftedSet o s Q := fun X4 k4 => x3_liftedSet_me (fun _ _ _ h => h X4 k4) (fun _ _ h => h) h
theorem x3_liftedSet_s4 {o : Nat} {Q : Int → Mem → Prop} {x2 : Int} {x3 : Int} {s : Mem} (h : x3_liftedSet_b4 o (x3_liftedSet_L4 o Q) Q x2 x3 s) : x3_liftedSet_L4 o Q x2 x3 s := fun X4 k4 => k4 _ _ _ (x3_liftedSet_m4 (fun _ _ _ h => h X4 k4) (fun _ _ h => h) h)
theorem x3_liftedSet_mono {Q R : Int → Mem → Prop} {o : Nat} {s : Mem} (h : x3_liftedSet o s Q) (hQ : ∀ r s, Q r s → R r s) : x3_liftedSet o s R := fun X4 k4 => x3_liftedSet_me (fun _ _ _ h => h) hQ (h X4 (fun _ _ _ h => k4 _ _ _ (x3_liftedSet_m4 (fun _ _ _ h => h) hQ h)))
def x3_liftedSet_rm : Room := { frames := 0, cells := 0, slots := 0, locals := 0 }
theorem w_x3_liftedSet_48 : Cond.fieldLink RX3 48 "BoltRing$Joint" "bolts" "I" ∈ wsX3_liftedSet := by decide +kernel
theorem w_x3_liftedSet_9 : Cond.fieldLink RX3 9 "BoltRing$Lifts" "upper" "[J" ∈ wsX3_liftedSet := by decide +kernel
theorem in_x3_liftedSet_X2 : ∀ w ∈ wsX20, w ∈ wsX3_liftedSet := by decide +kernel
theorem in_x3_liftedSet_X3 : ∀ w ∈ wsX30, w ∈ wsX3_liftedSet := by decide +kernel
set_option maxHeartbeats 4000000 in
set_option maxRecDepth 100000 in
theorem x3_liftedSet_bd {κ : KT} {ad : Nat → Nat} {cA : Nat → ClassId} {D : va_G} {Q : State → Prop} {o : Nat} {s : Mem} (ho : LfA o) (C : CX κ (GA ad cA D) RX3 cX3_liftedSet 4 wsX3_liftedSet x3_liftedSet_rm (some .int)) (h : x3_liftedSet o s (RT κ (GA ad cA D) ocI Q)) : WM κ (GA ad cA D) 4 Q s 0 [(0, .ref (ad o)), (1, .ref (ad 1))] [] := by
  obtain ⟨Z4, z4⟩ : ∃ Z : Int → Int → Mem → Prop, ∀ x2 x3 s, Z x2 x3 s ↔ WM κ (GA ad cA D) 4 Q s 4 [(0, .ref (ad o)), (1, .ref (ad 1)), (2, vI x2), (3, vI x3)] [] := ⟨fun x2 x3 s => WM κ (GA ad cA D) 4 Q s 4 [(0, .ref (ad o)), (1, .ref (ad 1)), (2, vI x2), (3, vI x3)] [], fun _ _ _ => Iff.rfl⟩
  refine (fun h => ?_) (h Z4 ?_)
  · refine r_iconst C dX3_liftedSet_0 ?_
    refine r_istore_n (ls' := [(2, vI (0 : Int)), (0, .ref (ad o)), (1, .ref (ad 1))]) C dX3_liftedSet_1 rfl (by decide) rfl ?_
    refine r_iconst C dX3_liftedSet_2 ?_
    refine r_istore_n (ls' := [(3, vI (0 : Int)), (2, vI (0 : Int)), (0, .ref (ad o)), (1, .ref (ad 1))]) C dX3_liftedSet_3 rfl (by decide) rfl ?_
    exact r_perm [2, 3, 1, 0] rfl ((z4 _ _ _).1 h)
  · intro x2 x3 s h
    refine (z4 _ _ _).2 ?_
    refine r_iload_n C 3 dX3_liftedSet_4 rfl ?_
    refine r_aload_n C 1 dX3_liftedSet_5 rfl ?_
    refine r_get (j := 0) (jz := 0) (v := vI (s 1 (0 : Int))) C dX3_liftedSet_6 (shA_1) rfl rfl (by decide) in_x3_liftedSet_X2 w_x3_liftedSet_48 rfl rfl rfl ?_
    refine r_icmp_ge (tgt := 35) C dX3_liftedSet_9 (by decide) ⟨h.1, fun c3 => ?_, fun c3 => ?_⟩
    · have h := h.2.1 c3
      refine r_iload_n C 2 dX3_liftedSet_35 rfl ?_
      exact r_ireturn C dX3_liftedSet_36 h
    · have h := h.2.2 c3
      refine r_aload_n C 0 dX3_liftedSet_12 rfl ?_
      refine r_get (j := 0) (jz := 0) (v := .ref (ad (o + 1))) C dX3_liftedSet_13 (lf_0 ho) rfl rfl (by decide) in_x3_liftedSet_X3 w_x3_liftedSet_9 rfl rfl rfl ?_
      refine r_iload_n C 3 dX3_liftedSet_16 rfl ?_
      refine r_lald (nz := 6) C dX3_liftedSet_17 (lf_1 ho) rfl (by decide) ⟨h.1, ?_⟩
      have h := h.2
      refine r_lconst (z := 0) C dX3_liftedSet_18 rfl ?_
      refine r_lcmp_le (tgt := 29) C dX3_liftedSet_19 dX3_liftedSet_20 (by decide) ⟨h.1, fun c2 => ?_, fun c2 => ?_⟩
      · have h := h.2.1 c2
        refine r_iinc (j := 3) (ls' := [(3, vI (x3 + (1 : Int))), (0, .ref (ad o)), (1, .ref (ad 1)), (2, vI x2)]) C dX3_liftedSet_29 rfl (by decide) rfl ?_
        refine r_goto (tgt := 4) C dX3_liftedSet_32 (by decide) ?_
        exact r_perm [1, 2, 3, 0] rfl ((z4 _ _ _).1 h)
      · have h := h.2.2 c2
        refine r_iload_n C 2 dX3_liftedSet_23 rfl ?_
        refine r_iconst C dX3_liftedSet_24 ?_
        refine r_iload_n C 3 dX3_liftedSet_25 rfl ?_
        refine r_ishl C dX3_liftedSet_26 ?_
        refine r_ior C dX3_liftedSet_27 ?_
        refine r_topI (fun v1 e_v1 => ?_)
        have h := h v1 e_v1
        refine r_istore_n (ls' := [(2, vI v1), (0, .ref (ad o)), (1, .ref (ad 1)), (3, vI x3)]) C dX3_liftedSet_28 rfl (by decide) rfl ?_
        refine r_iinc (j := 3) (ls' := [(3, vI (x3 + (1 : Int))), (2, vI v1), (0, .ref (ad o)), (1, .ref (ad 1))]) C dX3_liftedSet_29 rfl (by decide) rfl ?_
        refine r_goto (tgt := 4) C dX3_liftedSet_32 (by decide) ?_
        exact r_perm [2, 3, 1, 0] rfl ((z4 _ _ _).1 h)
theorem x3_liftedSet_ct (l : Launch) (ad : Nat → Nat) (cA : Nat → ClassId) (D : va_G) (o : Nat) (s : Mem) (ho : LfA o) : MG l yX3_liftedSet wsX3_liftedSet x3_liftedSet_rm ocI [.ref (ad o), .ref (ad 1)] (GA ad cA D) s (x3_liftedSet o s) :=
  m_met (own := RX3) (nL := 4) (by decide) rfl rfl (Nat.le_of_ble_eq_true rfl) rfl rfl rfl (fun κ hl C Q Pst hW hQ => x3_liftedSet_bd ho C (x3_liftedSet_mono hW hQ))

def x3_aboveTurnsSet_be (X4 : Int → Int → Mem → Prop) (Q : Int → Mem → Prop) (o : Nat) (s : Mem) : Prop :=
  X4 (0 : Int) (0 : Int) s
def x3_aboveTurnsSet_b4 (o : Nat) (X4 : Int → Int → Mem → Prop) (Q : Int → Mem → Prop) (x2 : Int) (x3 : Int) (s : Mem) : Prop :=
  (InI x3 ∧ InI (s 1 (0 : Int))) ∧ ((s 1 (0 : Int)) ≤ x3 → Q x2 s) ∧ (x3 < (s 1 (0 : Int)) → ((0 : Int) ≤ x3 ∧ x3 < 6) ∧ ((0 : Int) ≤ x3 ∧ x3 < 6) ∧ (InI (s 4 x3)) ∧ (InL (s (o + 1) x3) ∧ InL ((s o (1 : Int)) * (s 4 x3))) ∧ ((s (o + 1) x3) ≤ ((s o (1 : Int)) * (s 4 x3)) → X4 x2 (x3 + (1 : Int)) s) ∧ (((s o (1 : Int)) * (s 4 x3)) < (s (o + 1) x3) → ∀ v1 : Int, v1 = (orI x2 (shlI (1 : Int) x3)) → X4 v1 (x3 + (1 : Int)) s))
theorem x3_aboveTurnsSet_me {X4 Y4 : Int → Int → Mem → Prop} {Q R : Int → Mem → Prop} (hX4 : ∀ x2 x3 s, X4 x2 x3 s → Y4 x2 x3 s) (hQ : ∀ r s, Q r s → R r s) {o : Nat} {s : Mem} (h : x3_aboveTurnsSet_be X4 Q o s) : x3_aboveTurnsSet_be Y4 R o s :=
  hX4 _ _ _ h
theorem x3_aboveTurnsSet_m4 {o : Nat} {X4 Y4 : Int → Int → Mem → Prop} {Q R : Int → Mem → Prop} (hX4 : ∀ x2 x3 s, X4 x2 x3 s → Y4 x2 x3 s) (hQ : ∀ r s, Q r s → R r s) {x2 : Int} {x3 : Int} {s : Mem} (h : x3_aboveTurnsSet_b4 o X4 Q x2 x3 s) : x3_aboveTurnsSet_b4 o Y4 R x2 x3 s :=
  ⟨h.1, fun c => have h := h.2.1 c; hQ _ _ h, fun c => have h := h.2.2 c; ⟨h.1, have h := h.2; ⟨h.1, have h := h.2; ⟨h.1, have h := h.2; ⟨h.1, fun c => have h := h.2.1 c; hX4 _ _ _ h, fun c => have h := h.2.2 c; fun v1 e_v1 => have h := h v1 e_v1; hX4 _ _ _ h⟩⟩⟩⟩⟩
def x3_aboveTurnsSet (o : Nat) (s : Mem) (Q : Int → Mem → Prop) : Prop := ∀ (X4 : Int → Int → Mem → Prop), (∀ x2 x3 s, x3_aboveTurnsSet_b4 o X4 Q x2 x3 s → X4 x2 x3 s) → x3_aboveTurnsSet_be X4 Q o s
def x3_aboveTurnsSet_L4 (o : Nat) (Q : Int → Mem → Prop) (x2 : Int) (x3 : Int) (s : Mem) : Prop := ∀ (X4 : Int → Int → Mem → Prop), (∀ x2 x3 s, x3_aboveTurnsSet_b4 o X4 Q x2 x3 s → X4 x2 x3 s) → X4 x2 x3 s
theorem x3_aboveTurnsSet_i {Q : Int → Mem → Prop} {o : Nat} {s : Mem} (h : x3_aboveTurnsSet_be (x3_aboveTurnsSet_L4 o Q) Q o s) : x3_aboveTurnsSet o s Q := fun X4 k4 => x3_aboveTurnsSet_me (fun _ _ _ h => h X4 k4) (fun _ _ h => h) h
theorem x3_aboveTurnsSet_s4 {o : Nat} {Q : Int → Mem → Prop} {x2 : Int} {x3 : Int} {s : Mem} (h : x3_aboveTurnsSet_b4 o (x3_aboveTurnsSet_L4 o Q) Q x2 x3 s) : x3_aboveTurnsSet_L4 o Q x2 x3 s := fun X4 k4 => k4 _ _ _ (x3_aboveTurnsSet_m4 (fun _ _ _ h => h X4 k4) (fun _ _ h => h) h)
theorem x3_aboveTurnsSet_mono {Q R : Int → Mem → Prop} {o : Nat} {s : Mem} (h : x3_aboveTurnsSet o s Q) (hQ : ∀ r s, Q r s → R r s) : x3_aboveTurnsSet o s R := fun X4 k4 => x3_aboveTurnsSet_me (fun _ _ _ h => h) hQ (h X4 (fun _ _ _ h => k4 _ _ _ (x3_aboveTurnsSet_m4 (fun _ _ _ h => h) hQ h)))
def x3_aboveTurnsSet_rm : Room := { frames := 0, cells := 0, slots := 0, locals := 0 }
theorem w_x3_aboveTurnsSet_48 : Cond.fieldLink RX3 48 "BoltRing$Joint" "bolts" "I" ∈ wsX3_aboveTurnsSet := by decide +kernel
theorem w_x3_aboveTurnsSet_9 : Cond.fieldLink RX3 9 "BoltRing$Lifts" "upper" "[J" ∈ wsX3_aboveTurnsSet := by decide +kernel
theorem w_x3_aboveTurnsSet_15 : Cond.fieldLink RX3 15 "BoltRing$Lifts" "lower" "J" ∈ wsX3_aboveTurnsSet := by decide +kernel
theorem w_x3_aboveTurnsSet_74 : Cond.fieldLink RX3 74 "BoltRing$Joint" "turns" "[I" ∈ wsX3_aboveTurnsSet := by decide +kernel
theorem in_x3_aboveTurnsSet_X2 : ∀ w ∈ wsX20, w ∈ wsX3_aboveTurnsSet := by decide +kernel
theorem in_x3_aboveTurnsSet_X3 : ∀ w ∈ wsX30, w ∈ wsX3_aboveTurnsSet := by decide +kernel
set_option maxHeartbeats 4000000 in
set_option maxRecDepth 100000 in
theorem x3_aboveTurnsSet_bd {κ : KT} {ad : Nat → Nat} {cA : Nat → ClassId} {D : va_G} {Q : State → Prop} {o : Nat} {s : Mem} (ho : LfA o) (C : CX κ (GA ad cA D) RX3 cX3_aboveTurnsSet 4 wsX3_aboveTurnsSet x3_aboveTurnsSet_rm (some .int)) (h : x3_aboveTurnsSet o s (RT κ (GA ad cA D) ocI Q)) : WM κ (GA ad cA D) 4 Q s 0 [(0, .ref (ad o)), (1, .ref (ad 1))] [] := by
  obtain ⟨Z4, z4⟩ : ∃ Z : Int → Int → Mem → Prop, ∀ x2 x3 s, Z x2 x3 s ↔ WM κ (GA ad cA D) 4 Q s 4 [(0, .ref (ad o)), (1, .ref (ad 1)), (2, vI x2), (3, vI x3)] [] := ⟨fun x2 x3 s => WM κ (GA ad cA D) 4 Q s 4 [(0, .ref (ad o)), (1, .ref (ad 1)), (2, vI x2), (3, vI x3)] [], fun _ _ _ => Iff.rfl⟩
  refine (fun h => ?_) (h Z4 ?_)
  · refine r_iconst C dX3_aboveTurnsSet_0 ?_
    refine r_istore_n (ls' := [(2, vI (0 : Int)), (0, .ref (ad o)), (1, .ref (ad 1))]) C dX3_aboveTurnsSet_1 rfl (by decide) rfl ?_
    refine r_iconst C dX3_aboveTurnsSet_2 ?_
    refine r_istore_n (ls' := [(3, vI (0 : Int)), (2, vI (0 : Int)), (0, .ref (ad o)), (1, .ref (ad 1))]) C dX3_aboveTurnsSet_3 rfl (by decide) rfl ?_
    exact r_perm [2, 3, 1, 0] rfl ((z4 _ _ _).1 h)
  · intro x2 x3 s h
    refine (z4 _ _ _).2 ?_
    refine r_iload_n C 3 dX3_aboveTurnsSet_4 rfl ?_
    refine r_aload_n C 1 dX3_aboveTurnsSet_5 rfl ?_
    refine r_get (j := 0) (jz := 0) (v := vI (s 1 (0 : Int))) C dX3_aboveTurnsSet_6 (shA_1) rfl rfl (by decide) in_x3_aboveTurnsSet_X2 w_x3_aboveTurnsSet_48 rfl rfl rfl ?_
    refine r_icmp_ge (tgt := 46) C dX3_aboveTurnsSet_9 (by decide) ⟨h.1, fun c3 => ?_, fun c3 => ?_⟩
    · have h := h.2.1 c3
      refine r_iload_n C 2 dX3_aboveTurnsSet_46 rfl ?_
      exact r_ireturn C dX3_aboveTurnsSet_47 h
    · have h := h.2.2 c3
      refine r_aload_n C 0 dX3_aboveTurnsSet_12 rfl ?_
      refine r_get (j := 0) (jz := 0) (v := .ref (ad (o + 1))) C dX3_aboveTurnsSet_13 (lf_0 ho) rfl rfl (by decide) in_x3_aboveTurnsSet_X3 w_x3_aboveTurnsSet_9 rfl rfl rfl ?_
      refine r_iload_n C 3 dX3_aboveTurnsSet_16 rfl ?_
      refine r_lald (nz := 6) C dX3_aboveTurnsSet_17 (lf_1 ho) rfl (by decide) ⟨h.1, ?_⟩
      have h := h.2
      refine r_aload_n C 0 dX3_aboveTurnsSet_18 rfl ?_
      refine r_get (j := 1) (jz := 1) (v := vL (s o (1 : Int))) C dX3_aboveTurnsSet_19 (lf_0 ho) rfl rfl (by decide) in_x3_aboveTurnsSet_X3 w_x3_aboveTurnsSet_15 rfl rfl rfl ?_
      refine r_aload_n C 1 dX3_aboveTurnsSet_22 rfl ?_
      refine r_get (j := 5) (jz := 5) (v := .ref (ad 4)) C dX3_aboveTurnsSet_23 (shA_1) rfl rfl (by decide) in_x3_aboveTurnsSet_X2 w_x3_aboveTurnsSet_74 rfl rfl rfl ?_
      refine r_iload_n C 3 dX3_aboveTurnsSet_26 rfl ?_
      refine r_iald (nz := 6) C dX3_aboveTurnsSet_27 (shA_4) rfl (by decide) ⟨h.1, ?_⟩
      have h := h.2
      refine r_i2l C dX3_aboveTurnsSet_28 ⟨h.1, ?_⟩
      have h := h.2
      refine r_lmul C dX3_aboveTurnsSet_29 ?_
      refine r_lcmp_le (tgt := 40) C dX3_aboveTurnsSet_30 dX3_aboveTurnsSet_31 (by decide) ⟨h.1, fun c2 => ?_, fun c2 => ?_⟩
      · have h := h.2.1 c2
        refine r_iinc (j := 3) (ls' := [(3, vI (x3 + (1 : Int))), (0, .ref (ad o)), (1, .ref (ad 1)), (2, vI x2)]) C dX3_aboveTurnsSet_40 rfl (by decide) rfl ?_
        refine r_goto (tgt := 4) C dX3_aboveTurnsSet_43 (by decide) ?_
        exact r_perm [1, 2, 3, 0] rfl ((z4 _ _ _).1 h)
      · have h := h.2.2 c2
        refine r_iload_n C 2 dX3_aboveTurnsSet_34 rfl ?_
        refine r_iconst C dX3_aboveTurnsSet_35 ?_
        refine r_iload_n C 3 dX3_aboveTurnsSet_36 rfl ?_
        refine r_ishl C dX3_aboveTurnsSet_37 ?_
        refine r_ior C dX3_aboveTurnsSet_38 ?_
        refine r_topI (fun v1 e_v1 => ?_)
        have h := h v1 e_v1
        refine r_istore_n (ls' := [(2, vI v1), (0, .ref (ad o)), (1, .ref (ad 1)), (3, vI x3)]) C dX3_aboveTurnsSet_39 rfl (by decide) rfl ?_
        refine r_iinc (j := 3) (ls' := [(3, vI (x3 + (1 : Int))), (2, vI v1), (0, .ref (ad o)), (1, .ref (ad 1))]) C dX3_aboveTurnsSet_40 rfl (by decide) rfl ?_
        refine r_goto (tgt := 4) C dX3_aboveTurnsSet_43 (by decide) ?_
        exact r_perm [2, 3, 1, 0] rfl ((z4 _ _ _).1 h)
theorem x3_aboveTurnsSet_ct (l : Launch) (ad : Nat → Nat) (cA : Nat → ClassId) (D : va_G) (o : Nat) (s : Mem) (ho : LfA o) : MG l yX3_aboveTurnsSet wsX3_aboveTurnsSet x3_aboveTurnsSet_rm ocI [.ref (ad o), .ref (ad 1)] (GA ad cA D) s (x3_aboveTurnsSet o s) :=
  m_met (own := RX3) (nL := 4) (by decide) rfl rfl (Nat.le_of_ble_eq_true rfl) rfl rfl rfl (fun κ hl C Q Pst hW hQ => x3_aboveTurnsSet_bd ho C (x3_aboveTurnsSet_mono hW hQ))

def x3_settleHolding_be (X37 : Nat → Int → Int → Int → Int → Int → Mem → Prop) (X72 : Nat → Int → Int → Int → Int → Int → Mem → Prop) (Q : Int → Mem → Prop) (o : Nat) (p2 : Nat) (p3 : Int) (p4 : Int) (s : Mem) : Prop :=
  x2_allSet s (fun r2 s1 => ∀ v3 : Int, v3 = (andI r2 (xorI (s1 1 (2 : Int)) (-1 : Int))) → (InI p3 ∧ InI (-1 : Int)) ∧ (p3 = (-1 : Int) → x2_allSet s1 (fun r5 s4 => X37 p2 p3 p4 v3 r5 (0 : Int) s4)) ∧ (¬ p3 = (-1 : Int) → ∀ v6 : Int, v6 = (andI v3 (xorI (shlI (1 : Int) p3) (-1 : Int))) → x2_allSet s1 (fun r8 s7 => X37 p2 p3 p4 v6 r8 (0 : Int) s7)))
def x3_settleHolding_b37 (o : Nat) (X37 : Nat → Int → Int → Int → Int → Int → Mem → Prop) (X72 : Nat → Int → Int → Int → Int → Int → Mem → Prop) (Q : Int → Mem → Prop) (x2 : Nat) (x3 : Int) (x4 : Int) (x5 : Int) (x6 : Int) (x7 : Int) (s : Mem) : Prop :=
  (InI x7 ∧ InI (200 : Int)) ∧ ((200 : Int) ≤ x7 → Q (0 : Int) s) ∧ (x7 < (200 : Int) → x3_fillSystem o x2 x5 x6 s (fun _ s10 => (InI x3 ∧ InI (-1 : Int)) ∧ (x3 = (-1 : Int) → X72 x2 x3 x4 x5 x6 x7 s10) ∧ (¬ x3 = (-1 : Int) → ((0 : Int) ≤ x3 ∧ x3 < 6) ∧ (InI x4) ∧ ((0 : Int) ≤ x3 ∧ x3 < 6) ∧ ∀ s11 : Mem, s11 = m_upd s10 (o + 3) x3 ((s10 (o + 3) x3) + x4) → X72 x2 x3 x4 x5 x6 x7 s11)))
def x3_settleHolding_b72 (o : Nat) (X37 : Nat → Int → Int → Int → Int → Int → Mem → Prop) (X72 : Nat → Int → Int → Int → Int → Int → Mem → Prop) (Q : Int → Mem → Prop) (x2 : Nat) (x3 : Int) (x4 : Int) (x5 : Int) (x6 : Int) (x7 : Int) (s : Mem) : Prop :=
  x3_fillArcs o (s 1 (0 : Int)) (s 1 (1 : Int)) s (fun _ s14 => x3_solve o (s14 1 (0 : Int)) (s14 1 (1 : Int)) s14 (fun _ s15 => x3_liftedSet o s15 (fun r17 s16 => x3_aboveTurnsSet o s16 (fun r19 s18 => (InI r17 ∧ InI x6) ∧ (r17 = x6 → InI (andI x5 r19) ∧ ((andI x5 r19) = (0 : Int) → Q (0 : Int) s18) ∧ (¬ (andI x5 r19) = (0 : Int) → ∀ v20 : Int, v20 = (andI x5 (xorI (andI x5 r19) (-1 : Int))) → X37 x2 x3 x4 v20 x6 (x7 + (1 : Int)) s18)) ∧ (¬ r17 = x6 → X37 x2 x3 x4 x5 r17 (x7 + (1 : Int)) s18)))))
theorem x3_settleHolding_me {X37 Y37 : Nat → Int → Int → Int → Int → Int → Mem → Prop} {X72 Y72 : Nat → Int → Int → Int → Int → Int → Mem → Prop} {Q R : Int → Mem → Prop} (hX37 : ∀ x2 x3 x4 x5 x6 x7 s, X37 x2 x3 x4 x5 x6 x7 s → Y37 x2 x3 x4 x5 x6 x7 s) (hX72 : ∀ x2 x3 x4 x5 x6 x7 s, X72 x2 x3 x4 x5 x6 x7 s → Y72 x2 x3 x4 x5 x6 x7 s) (hQ : ∀ r s, Q r s → R r s) {o : Nat} {p2 : Nat} {p3 : Int} {p4 : Int} {s : Mem} (h : x3_settleHolding_be X37 X72 Q o p2 p3 p4 s) : x3_settleHolding_be Y37 Y72 R o p2 p3 p4 s :=
  x2_allSet_mono h (fun r2 s1 h => fun v3 e_v3 => have h := h v3 e_v3; ⟨h.1, fun c => have h := h.2.1 c; x2_allSet_mono h (fun r5 s4 h => hX37 _ _ _ _ _ _ _ h), fun c => have h := h.2.2 c; fun v6 e_v6 => have h := h v6 e_v6; x2_allSet_mono h (fun r8 s7 h => hX37 _ _ _ _ _ _ _ h)⟩)
theorem x3_settleHolding_m37 {o : Nat} {X37 Y37 : Nat → Int → Int → Int → Int → Int → Mem → Prop} {X72 Y72 : Nat → Int → Int → Int → Int → Int → Mem → Prop} {Q R : Int → Mem → Prop} (hX37 : ∀ x2 x3 x4 x5 x6 x7 s, X37 x2 x3 x4 x5 x6 x7 s → Y37 x2 x3 x4 x5 x6 x7 s) (hX72 : ∀ x2 x3 x4 x5 x6 x7 s, X72 x2 x3 x4 x5 x6 x7 s → Y72 x2 x3 x4 x5 x6 x7 s) (hQ : ∀ r s, Q r s → R r s) {x2 : Nat} {x3 : Int} {x4 : Int} {x5 : Int} {x6 : Int} {x7 : Int} {s : Mem} (h : x3_settleHolding_b37 o X37 X72 Q x2 x3 x4 x5 x6 x7 s) : x3_settleHolding_b37 o Y37 Y72 R x2 x3 x4 x5 x6 x7 s :=
  ⟨h.1, fun c => have h := h.2.1 c; hQ _ _ h, fun c => have h := h.2.2 c; x3_fillSystem_mono h (fun _ s10 h => ⟨h.1, fun c => have h := h.2.1 c; hX72 _ _ _ _ _ _ _ h, fun c => have h := h.2.2 c; ⟨h.1, have h := h.2; ⟨h.1, have h := h.2; ⟨h.1, have h := h.2; fun s11 e_s11 => have h := h s11 e_s11; hX72 _ _ _ _ _ _ _ h⟩⟩⟩⟩)⟩
theorem x3_settleHolding_m72 {o : Nat} {X37 Y37 : Nat → Int → Int → Int → Int → Int → Mem → Prop} {X72 Y72 : Nat → Int → Int → Int → Int → Int → Mem → Prop} {Q R : Int → Mem → Prop} (hX37 : ∀ x2 x3 x4 x5 x6 x7 s, X37 x2 x3 x4 x5 x6 x7 s → Y37 x2 x3 x4 x5 x6 x7 s) (hX72 : ∀ x2 x3 x4 x5 x6 x7 s, X72 x2 x3 x4 x5 x6 x7 s → Y72 x2 x3 x4 x5 x6 x7 s) (hQ : ∀ r s, Q r s → R r s) {x2 : Nat} {x3 : Int} {x4 : Int} {x5 : Int} {x6 : Int} {x7 : Int} {s : Mem} (h : x3_settleHolding_b72 o X37 X72 Q x2 x3 x4 x5 x6 x7 s) : x3_settleHolding_b72 o Y37 Y72 R x2 x3 x4 x5 x6 x7 s :=
  x3_fillArcs_mono h (fun _ s14 h => x3_solve_mono h (fun _ s15 h => x3_liftedSet_mono h (fun r17 s16 h => x3_aboveTurnsSet_mono h (fun r19 s18 h => ⟨h.1, fun c => have h := h.2.1 c; ⟨h.1, fun c => have h := h.2.1 c; hQ _ _ h, fun c => have h := h.2.2 c; fun v20 e_v20 => have h := h v20 e_v20; hX37 _ _ _ _ _ _ _ h⟩, fun c => have h := h.2.2 c; hX37 _ _ _ _ _ _ _ h⟩))))
def x3_settleHolding (o : Nat) (p2 : Nat) (p3 : Int) (p4 : Int) (s : Mem) (Q : Int → Mem → Prop) : Prop := ∀ (X37 : Nat → Int → Int → Int → Int → Int → Mem → Prop) (X72 : Nat → Int → Int → Int → Int → Int → Mem → Prop), (∀ x2 x3 x4 x5 x6 x7 s, x3_settleHolding_b37 o X37 X72 Q x2 x3 x4 x5 x6 x7 s → X37 x2 x3 x4 x5 x6 x7 s) → (∀ x2 x3 x4 x5 x6 x7 s, x3_settleHolding_b72 o X37 X72 Q x2 x3 x4 x5 x6 x7 s → X72 x2 x3 x4 x5 x6 x7 s) → x3_settleHolding_be X37 X72 Q o p2 p3 p4 s
def x3_settleHolding_L37 (o : Nat) (Q : Int → Mem → Prop) (x2 : Nat) (x3 : Int) (x4 : Int) (x5 : Int) (x6 : Int) (x7 : Int) (s : Mem) : Prop := ∀ (X37 : Nat → Int → Int → Int → Int → Int → Mem → Prop) (X72 : Nat → Int → Int → Int → Int → Int → Mem → Prop), (∀ x2 x3 x4 x5 x6 x7 s, x3_settleHolding_b37 o X37 X72 Q x2 x3 x4 x5 x6 x7 s → X37 x2 x3 x4 x5 x6 x7 s) → (∀ x2 x3 x4 x5 x6 x7 s, x3_settleHolding_b72 o X37 X72 Q x2 x3 x4 x5 x6 x7 s → X72 x2 x3 x4 x5 x6 x7 s) → X37 x2 x3 x4 x5 x6 x7 s
def x3_settleHolding_L72 (o : Nat) (Q : Int → Mem → Prop) (x2 : Nat) (x3 : Int) (x4 : Int) (x5 : Int) (x6 : Int) (x7 : Int) (s : Mem) : Prop := ∀ (X37 : Nat → Int → Int → Int → Int → Int → Mem → Prop) (X72 : Nat → Int → Int → Int → Int → Int → Mem → Prop), (∀ x2 x3 x4 x5 x6 x7 s, x3_settleHolding_b37 o X37 X72 Q x2 x3 x4 x5 x6 x7 s → X37 x2 x3 x4 x5 x6 x7 s) → (∀ x2 x3 x4 x5 x6 x7 s, x3_settleHolding_b72 o X37 X72 Q x2 x3 x4 x5 x6 x7 s → X72 x2 x3 x4 x5 x6 x7 s) → X72 x2 x3 x4 x5 x6 x7 s
theorem x3_settleHolding_i {Q : Int → Mem → Prop} {o : Nat} {p2 : Nat} {p3 : Int} {p4 : Int} {s : Mem} (h : x3_settleHolding_be (x3_settleHolding_L37 o Q) (x3_settleHolding_L72 o Q) Q o p2 p3 p4 s) : x3_settleHolding o p2 p3 p4 s Q := fun X37 X72 k37 k72 => x3_settleHolding_me (fun _ _ _ _ _ _ _ h => h X37 X72 k37 k72) (fun _ _ _ _ _ _ _ h => h X37 X72 k37 k72) (fun _ _ h => h) h
theorem x3_settleHolding_s37 {o : Nat} {Q : Int → Mem → Prop} {x2 : Nat} {x3 : Int} {x4 : Int} {x5 : Int} {x6 : Int} {x7 : Int} {s : Mem} (h : x3_settleHolding_b37 o (x3_settleHolding_L37 o Q) (x3_settleHolding_L72 o Q) Q x2 x3 x4 x5 x6 x7 s) : x3_settleHolding_L37 o Q x2 x3 x4 x5 x6 x7 s := fun X37 X72 k37 k72 => k37 _ _ _ _ _ _ _ (x3_settleHolding_m37 (fun _ _ _ _ _ _ _ h => h X37 X72 k37 k72) (fun _ _ _ _ _ _ _ h => h X37 X72 k37 k72) (fun _ _ h => h) h)
theorem x3_settleHolding_s72 {o : Nat} {Q : Int → Mem → Prop} {x2 : Nat} {x3 : Int} {x4 : Int} {x5 : Int} {x6 : Int} {x7 : Int} {s : Mem} (h : x3_settleHolding_b72 o (x3_settleHolding_L37 o Q) (x3_settleHolding_L72 o Q) Q x2 x3 x4 x5 x6 x7 s) : x3_settleHolding_L72 o Q x2 x3 x4 x5 x6 x7 s := fun X37 X72 k37 k72 => k72 _ _ _ _ _ _ _ (x3_settleHolding_m72 (fun _ _ _ _ _ _ _ h => h X37 X72 k37 k72) (fun _ _ _ _ _ _ _ h => h X37 X72 k37 k72) (fun _ _ h => h) h)
theorem x3_settleHolding_mono {Q R : Int → Mem → Prop} {o : Nat} {p2 : Nat} {p3 : Int} {p4 : Int} {s : Mem} (h : x3_settleHolding o p2 p3 p4 s Q) (hQ : ∀ r s, Q r s → R r s) : x3_settleHolding o p2 p3 p4 s R := fun X37 X72 k37 k72 => x3_settleHolding_me (fun _ _ _ _ _ _ _ h => h) (fun _ _ _ _ _ _ _ h => h) hQ (h X37 X72 (fun _ _ _ _ _ _ _ h => k37 _ _ _ _ _ _ _ (x3_settleHolding_m37 (fun _ _ _ _ _ _ _ h => h) (fun _ _ _ _ _ _ _ h => h) hQ h)) (fun _ _ _ _ _ _ _ h => k72 _ _ _ _ _ _ _ (x3_settleHolding_m72 (fun _ _ _ _ _ _ _ h => h) (fun _ _ _ _ _ _ _ h => h) hQ h)))
def x3_settleHolding_rm : Room := { frames := 1, cells := 0, slots := 0, locals := 34 }
theorem w_x3_settleHolding_41 : Cond.fieldLink RX3 41 "BoltRing$Joint" "brokenSet" "I" ∈ wsX3_settleHolding := by decide +kernel
theorem w_x3_settleHolding_22 : Cond.fieldLink RX3 22 "BoltRing$Lifts" "side" "[J" ∈ wsX3_settleHolding := by decide +kernel
theorem w_x3_settleHolding_48 : Cond.fieldLink RX3 48 "BoltRing$Joint" "bolts" "I" ∈ wsX3_settleHolding := by decide +kernel
theorem w_x3_settleHolding_51 : Cond.fieldLink RX3 51 "BoltRing$Joint" "rib" "I" ∈ wsX3_settleHolding := by decide +kernel
theorem in_x3_settleHolding_X2 : ∀ w ∈ wsX20, w ∈ wsX3_settleHolding := by decide +kernel
theorem in_x3_settleHolding_X3 : ∀ w ∈ wsX30, w ∈ wsX3_settleHolding := by decide +kernel
set_option maxHeartbeats 4000000 in
set_option maxRecDepth 100000 in
theorem x3_settleHolding_bd {κ : KT} {ad : Nat → Nat} {cA : Nat → ClassId} {D : va_G} {Q : State → Prop} {o : Nat} {p2 : Nat} {p3 : Int} {p4 : Int} {s : Mem} (ho : LfA o) (C : CX κ (GA ad cA D) RX3 cX3_settleHolding 10 wsX3_settleHolding x3_settleHolding_rm none) (h : x3_settleHolding o p2 p3 p4 s (RT κ (GA ad cA D) ocV Q)) : WM κ (GA ad cA D) 10 Q s 0 [(0, .ref (ad o)), (1, .ref (ad 1)), (2, .ref (ad p2)), (3, vI p3), (4, vI p4)] [] := by
  obtain ⟨Z37, z37⟩ : ∃ Z : Nat → Int → Int → Int → Int → Int → Mem → Prop, ∀ x2 x3 x4 x5 x6 x7 s, Z x2 x3 x4 x5 x6 x7 s ↔ WM κ (GA ad cA D) 10 Q s 37 [(0, .ref (ad o)), (1, .ref (ad 1)), (2, .ref (ad x2)), (3, vI x3), (4, vI x4), (5, vI x5), (6, vI x6), (7, vI x7)] [] := ⟨fun x2 x3 x4 x5 x6 x7 s => WM κ (GA ad cA D) 10 Q s 37 [(0, .ref (ad o)), (1, .ref (ad 1)), (2, .ref (ad x2)), (3, vI x3), (4, vI x4), (5, vI x5), (6, vI x6), (7, vI x7)] [], fun _ _ _ _ _ _ _ => Iff.rfl⟩
  obtain ⟨Z72, z72⟩ : ∃ Z : Nat → Int → Int → Int → Int → Int → Mem → Prop, ∀ x2 x3 x4 x5 x6 x7 s, Z x2 x3 x4 x5 x6 x7 s ↔ WM κ (GA ad cA D) 10 Q s 72 [(0, .ref (ad o)), (1, .ref (ad 1)), (2, .ref (ad x2)), (3, vI x3), (4, vI x4), (5, vI x5), (6, vI x6), (7, vI x7)] [] := ⟨fun x2 x3 x4 x5 x6 x7 s => WM κ (GA ad cA D) 10 Q s 72 [(0, .ref (ad o)), (1, .ref (ad 1)), (2, .ref (ad x2)), (3, vI x3), (4, vI x4), (5, vI x5), (6, vI x6), (7, vI x7)] [], fun _ _ _ _ _ _ _ => Iff.rfl⟩
  refine (fun h => ?_) (h Z37 Z72 ?_ ?_)
  · refine r_aload_n C 1 dX3_settleHolding_0 rfl ?_
    refine r_callV (As := []) (o := 1) (n := 0) C dX3_settleHolding_1 (x2_allSet_ct κ.1.2.1 ad cA D s) gX3_settleHolding_X2_allSet rfl ⟨rfl, rfl⟩ (by decide +kernel) (by decide) (shA_1) rfl rfl rfl (Nat.le_of_ble_eq_true rfl) (fun _ => rfl) ?_
    refine x2_allSet_mono h (fun r2 s1 h => ?_)
    refine r_aload_n C 1 dX3_settleHolding_4 rfl ?_
    refine r_get (j := 2) (jz := 2) (v := vI (s1 1 (2 : Int))) C dX3_settleHolding_5 (shA_1) rfl rfl (by decide) in_x3_settleHolding_X2 w_x3_settleHolding_41 rfl rfl rfl ?_
    refine r_iconst C dX3_settleHolding_8 ?_
    refine r_ixor C dX3_settleHolding_9 ?_
    refine r_iand C dX3_settleHolding_10 ?_
    refine r_topI (fun v3 e_v3 => ?_)
    have h := h v3 e_v3
    refine r_istore (ls' := [(5, vI v3), (0, .ref (ad o)), (1, .ref (ad 1)), (2, .ref (ad p2)), (3, vI p3), (4, vI p4)]) C dX3_settleHolding_11 (by decide) rfl ?_
    refine r_iload_n C 4 dX3_settleHolding_13 rfl ?_
    refine r_iconst C dX3_settleHolding_14 ?_
    refine r_icmp_eq (tgt := 28) C dX3_settleHolding_15 (by decide) ⟨h.1, fun c9 => ?_, fun c9 => ?_⟩
    · have h := h.2.1 c9
      refine r_aload_n C 2 dX3_settleHolding_28 rfl ?_
      refine r_callV (As := []) (o := 1) (n := 0) C dX3_settleHolding_29 (x2_allSet_ct κ.1.2.1 ad cA D s1) gX3_settleHolding_X2_allSet rfl ⟨rfl, rfl⟩ (by decide +kernel) (by decide) (shA_1) rfl rfl rfl (Nat.le_of_ble_eq_true rfl) (fun _ => rfl) ?_
      refine x2_allSet_mono h (fun r5 s4 h => ?_)
      refine r_istore (ls' := [(6, vI r5), (5, vI v3), (0, .ref (ad o)), (1, .ref (ad 1)), (2, .ref (ad p2)), (3, vI p3), (4, vI p4)]) C dX3_settleHolding_32 (by decide) rfl ?_
      refine r_iconst C dX3_settleHolding_34 ?_
      refine r_istore (ls' := [(7, vI (0 : Int)), (6, vI r5), (5, vI v3), (0, .ref (ad o)), (1, .ref (ad 1)), (2, .ref (ad p2)), (3, vI p3), (4, vI p4)]) C dX3_settleHolding_35 (by decide) rfl ?_
      exact r_perm [3, 4, 5, 6, 7, 2, 1, 0] rfl ((z37 _ _ _ _ _ _ _).1 h)
    · have h := h.2.2 c9
      refine r_iload C 0 dX3_settleHolding_18 rfl ?_
      refine r_iconst C dX3_settleHolding_20 ?_
      refine r_iload_n C 4 dX3_settleHolding_21 rfl ?_
      refine r_ishl C dX3_settleHolding_22 ?_
      refine r_iconst C dX3_settleHolding_23 ?_
      refine r_ixor C dX3_settleHolding_24 ?_
      refine r_iand C dX3_settleHolding_25 ?_
      refine r_topI (fun v6 e_v6 => ?_)
      have h := h v6 e_v6
      refine r_istore (ls' := [(5, vI v6), (0, .ref (ad o)), (1, .ref (ad 1)), (2, .ref (ad p2)), (3, vI p3), (4, vI p4)]) C dX3_settleHolding_26 (by decide) rfl ?_
      refine r_aload_n C 2 dX3_settleHolding_28 rfl ?_
      refine r_callV (As := []) (o := 1) (n := 0) C dX3_settleHolding_29 (x2_allSet_ct κ.1.2.1 ad cA D s1) gX3_settleHolding_X2_allSet rfl ⟨rfl, rfl⟩ (by decide +kernel) (by decide) (shA_1) rfl rfl rfl (Nat.le_of_ble_eq_true rfl) (fun _ => rfl) ?_
      refine x2_allSet_mono h (fun r8 s7 h => ?_)
      refine r_istore (ls' := [(6, vI r8), (5, vI v6), (0, .ref (ad o)), (1, .ref (ad 1)), (2, .ref (ad p2)), (3, vI p3), (4, vI p4)]) C dX3_settleHolding_32 (by decide) rfl ?_
      refine r_iconst C dX3_settleHolding_34 ?_
      refine r_istore (ls' := [(7, vI (0 : Int)), (6, vI r8), (5, vI v6), (0, .ref (ad o)), (1, .ref (ad 1)), (2, .ref (ad p2)), (3, vI p3), (4, vI p4)]) C dX3_settleHolding_35 (by decide) rfl ?_
      exact r_perm [3, 4, 5, 6, 7, 2, 1, 0] rfl ((z37 _ _ _ _ _ _ _).1 h)
  · intro x2 x3 x4 x5 x6 x7 s h
    refine (z37 _ _ _ _ _ _ _).2 ?_
    refine r_iload C 7 dX3_settleHolding_37 rfl ?_
    refine r_sipush C dX3_settleHolding_39 (by decide) ?_
    refine r_icmp_ge (tgt := 151) C dX3_settleHolding_42 (by decide) ⟨h.1, fun c13 => ?_, fun c13 => ?_⟩
    · have h := h.2.1 c13
      exact r_return C dX3_settleHolding_151 h
    · have h := h.2.2 c13
      refine r_aload_n C 0 dX3_settleHolding_45 rfl ?_
      refine r_aload_n C 1 dX3_settleHolding_46 rfl ?_
      refine r_aload_n C 2 dX3_settleHolding_47 rfl ?_
      refine r_iload C 5 dX3_settleHolding_48 rfl ?_
      refine r_iload C 6 dX3_settleHolding_50 rfl ?_
      refine r_callV (As := [.ref (ad 1), .ref (ad x2), vI x5, vI x6]) (o := o) (n := 4) C dX3_settleHolding_52 (x3_fillSystem_ct κ.1.2.1 ad cA D o x2 x5 x6 s ho) gX3_settleHolding_X3_fillSystem rfl ⟨rfl, rfl⟩ (by decide +kernel) (by decide) (lf_0 ho) rfl rfl rfl (Nat.le_of_ble_eq_true rfl) (fun _ => rfl) ?_
      refine x3_fillSystem_mono h (fun _ s10 h => ?_)
      refine r_iload_n C 3 dX3_settleHolding_55 rfl ?_
      refine r_iconst C dX3_settleHolding_56 ?_
      refine r_icmp_eq (tgt := 72) C dX3_settleHolding_57 (by decide) ⟨h.1, fun c12 => ?_, fun c12 => ?_⟩
      · have h := h.2.1 c12
        exact r_perm [0, 1, 2, 3, 4, 5, 6, 7] rfl ((z72 _ _ _ _ _ _ _).1 h)
      · have h := h.2.2 c12
        refine r_aload_n C 0 dX3_settleHolding_60 rfl ?_
        refine r_get (j := 3) (jz := 3) (v := .ref (ad (o + 3))) C dX3_settleHolding_61 (lf_0 ho) rfl rfl (by decide) in_x3_settleHolding_X3 w_x3_settleHolding_22 rfl rfl rfl ?_
        refine r_iload_n C 3 dX3_settleHolding_64 rfl ?_
        refine r_dup2 C dX3_settleHolding_65 rfl rfl ?_
        refine r_lald (nz := 6) C dX3_settleHolding_66 (lf_3 ho) rfl (by decide) ⟨h.1, ?_⟩
        have h := h.2
        refine r_iload C 4 dX3_settleHolding_67 rfl ?_
        refine r_i2l C dX3_settleHolding_69 ⟨h.1, ?_⟩
        have h := h.2
        refine r_ladd C dX3_settleHolding_70 ?_
        refine r_last (nz := 6) C dX3_settleHolding_71 (lf_3 ho) rfl (by decide) ⟨h.1, fun s11 e_s11 => ?_⟩
        have h := h.2 s11 e_s11
        exact r_perm [0, 1, 2, 3, 4, 5, 6, 7] rfl ((z72 _ _ _ _ _ _ _).1 h)
  · intro x2 x3 x4 x5 x6 x7 s h
    refine (z72 _ _ _ _ _ _ _).2 ?_
    refine r_aload_n C 0 dX3_settleHolding_72 rfl ?_
    refine r_aload_n C 1 dX3_settleHolding_73 rfl ?_
    refine r_get (j := 0) (jz := 0) (v := vI (s 1 (0 : Int))) C dX3_settleHolding_74 (shA_1) rfl rfl (by decide) in_x3_settleHolding_X2 w_x3_settleHolding_48 rfl rfl rfl ?_
    refine r_aload_n C 1 dX3_settleHolding_77 rfl ?_
    refine r_get (j := 1) (jz := 1) (v := vI (s 1 (1 : Int))) C dX3_settleHolding_78 (shA_1) rfl rfl (by decide) in_x3_settleHolding_X2 w_x3_settleHolding_51 rfl rfl rfl ?_
    refine r_callV (As := [vI (s 1 (0 : Int)), vI (s 1 (1 : Int))]) (o := o) (n := 2) C dX3_settleHolding_81 (x3_fillArcs_ct κ.1.2.1 ad cA D o (s 1 (0 : Int)) (s 1 (1 : Int)) s ho) gX3_settleHolding_X3_fillArcs rfl ⟨rfl, rfl⟩ (by decide +kernel) (by decide) (lf_0 ho) rfl rfl rfl (Nat.le_of_ble_eq_true rfl) (fun _ => rfl) ?_
    refine x3_fillArcs_mono h (fun _ s14 h => ?_)
    refine r_aload_n C 0 dX3_settleHolding_84 rfl ?_
    refine r_aload_n C 1 dX3_settleHolding_85 rfl ?_
    refine r_get (j := 0) (jz := 0) (v := vI (s14 1 (0 : Int))) C dX3_settleHolding_86 (shA_1) rfl rfl (by decide) in_x3_settleHolding_X2 w_x3_settleHolding_48 rfl rfl rfl ?_
    refine r_aload_n C 1 dX3_settleHolding_89 rfl ?_
    refine r_get (j := 1) (jz := 1) (v := vI (s14 1 (1 : Int))) C dX3_settleHolding_90 (shA_1) rfl rfl (by decide) in_x3_settleHolding_X2 w_x3_settleHolding_51 rfl rfl rfl ?_
    refine r_callV (As := [vI (s14 1 (0 : Int)), vI (s14 1 (1 : Int))]) (o := o) (n := 2) C dX3_settleHolding_93 (x3_solve_ct κ.1.2.1 ad cA D o (s14 1 (0 : Int)) (s14 1 (1 : Int)) s14 ho) gX3_settleHolding_X3_solve rfl ⟨rfl, rfl⟩ (by decide +kernel) (by decide) (lf_0 ho) rfl rfl rfl (Nat.le_of_ble_eq_true rfl) (fun _ => rfl) ?_
    refine x3_solve_mono h (fun _ s15 h => ?_)
    refine r_aload_n C 0 dX3_settleHolding_96 rfl ?_
    refine r_aload_n C 1 dX3_settleHolding_97 rfl ?_
    refine r_callV (As := [.ref (ad 1)]) (o := o) (n := 1) C dX3_settleHolding_98 (x3_liftedSet_ct κ.1.2.1 ad cA D o s15 ho) gX3_settleHolding_X3_liftedSet rfl ⟨rfl, rfl⟩ (by decide +kernel) (by decide) (lf_0 ho) rfl rfl rfl (Nat.le_of_ble_eq_true rfl) (fun _ => rfl) ?_
    refine x3_liftedSet_mono h (fun r17 s16 h => ?_)
    refine r_istore (ls' := [(8, vI r17), (0, .ref (ad o)), (1, .ref (ad 1)), (2, .ref (ad x2)), (3, vI x3), (4, vI x4), (5, vI x5), (6, vI x6), (7, vI x7)]) C dX3_settleHolding_101 (by decide) rfl ?_
    refine r_iload C 6 dX3_settleHolding_103 rfl ?_
    refine r_aload_n C 1 dX3_settleHolding_105 rfl ?_
    refine r_aload_n C 2 dX3_settleHolding_106 rfl ?_
    refine r_callV (As := [.ref (ad 1)]) (o := o) (n := 1) C dX3_settleHolding_107 (x3_aboveTurnsSet_ct κ.1.2.1 ad cA D o s16 ho) gX3_settleHolding_X3_aboveTurnsSet rfl ⟨rfl, rfl⟩ (by decide +kernel) (by decide) (lf_0 ho) rfl rfl rfl (Nat.le_of_ble_eq_true rfl) (fun _ => rfl) ?_
    refine x3_aboveTurnsSet_mono h (fun r19 s18 h => ?_)
    refine r_iand C dX3_settleHolding_110 ?_
    refine r_istore (ls' := [(9, vI (andI x5 r19)), (8, vI r17), (0, .ref (ad o)), (1, .ref (ad 1)), (2, .ref (ad x2)), (3, vI x3), (4, vI x4), (5, vI x5), (6, vI x6), (7, vI x7)]) C dX3_settleHolding_111 (by decide) rfl ?_
    refine r_iload C 1 dX3_settleHolding_113 rfl ?_
    refine r_iload C 8 dX3_settleHolding_115 rfl ?_
    refine r_icmp_eq (tgt := 127) C dX3_settleHolding_117 (by decide) ⟨h.1, fun c22 => ?_, fun c22 => ?_⟩
    · have h := h.2.1 c22
      refine r_iload C 0 dX3_settleHolding_127 rfl ?_
      refine r_if_eq (tgt := 144) C dX3_settleHolding_129 (by decide) ⟨h.1, fun c21 => ?_, fun c21 => ?_⟩
      · have h := h.2.1 c21
        exact r_return C dX3_settleHolding_144 h
      · have h := h.2.2 c21
        refine r_iload C 7 dX3_settleHolding_132 rfl ?_
        refine r_iload C 0 dX3_settleHolding_134 rfl ?_
        refine r_iconst C dX3_settleHolding_136 ?_
        refine r_ixor C dX3_settleHolding_137 ?_
        refine r_iand C dX3_settleHolding_138 ?_
        refine r_topI (fun v20 e_v20 => ?_)
        have h := h v20 e_v20
        refine r_istore (ls' := [(5, vI v20), (9, vI (andI x5 r19)), (8, vI r17), (0, .ref (ad o)), (1, .ref (ad 1)), (2, .ref (ad x2)), (3, vI x3), (4, vI x4), (6, vI x6), (7, vI x7)]) C dX3_settleHolding_139 (by decide) rfl ?_
        refine r_goto (tgt := 145) C dX3_settleHolding_141 (by decide) ?_
        refine r_iinc (j := 9) (ls' := [(7, vI (x7 + (1 : Int))), (5, vI v20), (9, vI (andI x5 r19)), (8, vI r17), (0, .ref (ad o)), (1, .ref (ad 1)), (2, .ref (ad x2)), (3, vI x3), (4, vI x4), (6, vI x6)]) C dX3_settleHolding_145 rfl (by decide) rfl ?_
        refine r_goto (tgt := 37) C dX3_settleHolding_148 (by decide) ?_
        exact r_perm [4, 5, 6, 7, 8, 1, 9, 0] rfl ((z37 _ _ _ _ _ _ _).1 h)
    · have h := h.2.2 c22
      refine r_iload C 1 dX3_settleHolding_120 rfl ?_
      refine r_istore (ls' := [(6, vI r17), (9, vI (andI x5 r19)), (8, vI r17), (0, .ref (ad o)), (1, .ref (ad 1)), (2, .ref (ad x2)), (3, vI x3), (4, vI x4), (5, vI x5), (7, vI x7)]) C dX3_settleHolding_122 (by decide) rfl ?_
      refine r_goto (tgt := 145) C dX3_settleHolding_124 (by decide) ?_
      refine r_iinc (j := 9) (ls' := [(7, vI (x7 + (1 : Int))), (6, vI r17), (9, vI (andI x5 r19)), (8, vI r17), (0, .ref (ad o)), (1, .ref (ad 1)), (2, .ref (ad x2)), (3, vI x3), (4, vI x4), (5, vI x5)]) C dX3_settleHolding_145 rfl (by decide) rfl ?_
      refine r_goto (tgt := 37) C dX3_settleHolding_148 (by decide) ?_
      exact r_perm [4, 5, 6, 7, 8, 9, 1, 0] rfl ((z37 _ _ _ _ _ _ _).1 h)
theorem x3_settleHolding_ct (l : Launch) (ad : Nat → Nat) (cA : Nat → ClassId) (D : va_G) (o : Nat) (p2 : Nat) (p3 : Int) (p4 : Int) (s : Mem) (ho : LfA o) : MG l yX3_settleHolding wsX3_settleHolding x3_settleHolding_rm ocV [.ref (ad o), .ref (ad 1), .ref (ad p2), vI p3, vI p4] (GA ad cA D) s (x3_settleHolding o p2 p3 p4 s) :=
  m_met (own := RX3) (nL := 10) (by decide) rfl rfl (Nat.le_of_ble_eq_true rfl) rfl rfl rfl (fun κ hl C Q Pst hW hQ => x3_settleHolding_bd ho C (x3_settleHolding_mono hW hQ))

def x3_settle (o : Nat) (p2 : Nat) (s : Mem) (Q : Int → Mem → Prop) : Prop :=
  x3_settleHolding o p2 (-1 : Int) (0 : Int) s (fun _ s1 => Q (0 : Int) s1)
theorem x3_settle_mono {Q R : Int → Mem → Prop} {o : Nat} {p2 : Nat} {s : Mem} (h : x3_settle o p2 s Q) (hQ : ∀ r s, Q r s → R r s) : x3_settle o p2 s R :=
  x3_settleHolding_mono h (fun _ s1 h => hQ _ _ h)
def x3_settle_rm : Room := { frames := 2, cells := 0, slots := 0, locals := 63 }
set_option maxHeartbeats 4000000 in
set_option maxRecDepth 100000 in
theorem x3_settle_bd {κ : KT} {ad : Nat → Nat} {cA : Nat → ClassId} {D : va_G} {Q : State → Prop} {o : Nat} {p2 : Nat} {s : Mem} (ho : LfA o) (C : CX κ (GA ad cA D) RX3 cX3_settle 3 wsX3_settle x3_settle_rm none) (h : x3_settle o p2 s (RT κ (GA ad cA D) ocV Q)) : WM κ (GA ad cA D) 3 Q s 0 [(0, .ref (ad o)), (1, .ref (ad 1)), (2, .ref (ad p2))] [] := by
  refine r_aload_n C 0 dX3_settle_0 rfl ?_
  refine r_aload_n C 1 dX3_settle_1 rfl ?_
  refine r_aload_n C 2 dX3_settle_2 rfl ?_
  refine r_iconst C dX3_settle_3 ?_
  refine r_iconst C dX3_settle_4 ?_
  refine r_callV (As := [.ref (ad 1), .ref (ad p2), vI (-1 : Int), vI (0 : Int)]) (o := o) (n := 4) C dX3_settle_5 (x3_settleHolding_ct κ.1.2.1 ad cA D o p2 (-1 : Int) (0 : Int) s ho) gX3_settle_X3_settleHolding rfl ⟨rfl, rfl⟩ (by decide +kernel) (by decide) (lf_0 ho) rfl rfl rfl (Nat.le_of_ble_eq_true rfl) (fun _ => rfl) ?_
  refine x3_settleHolding_mono h (fun _ s1 h => ?_)
  exact r_return C dX3_settle_8 h
theorem x3_settle_ct (l : Launch) (ad : Nat → Nat) (cA : Nat → ClassId) (D : va_G) (o : Nat) (p2 : Nat) (s : Mem) (ho : LfA o) : MG l yX3_settle wsX3_settle x3_settle_rm ocV [.ref (ad o), .ref (ad 1), .ref (ad p2)] (GA ad cA D) s (x3_settle o p2 s) :=
  m_met (own := RX3) (nL := 3) (by decide) rfl rfl (Nat.le_of_ble_eq_true rfl) rfl rfl rfl (fun κ hl C Q Pst hW hQ => x3_settle_bd ho C (x3_settle_mono hW hQ))

def x3_pullUpper (o : Nat) (p2 : Int) (s : Mem) (Q : Int → Mem → Prop) : Prop :=
  x2_isBroken p2 s (fun r2 s1 => InI r2 ∧ (r2 = (0 : Int) → ((0 : Int) ≤ p2 ∧ p2 < 6) ∧ (InI (s1 2 p2)) ∧ ((0 : Int) ≤ p2 ∧ p2 < 6) ∧ (InI (s1 4 p2)) ∧ ((0 : Int) ≤ p2 ∧ p2 < 6) ∧ (InL (0 : Int) ∧ InL (((s1 o (1 : Int)) * (s1 4 p2)) - (s1 (o + 1) p2))) ∧ Q ((s1 2 p2) * (if (((s1 o (1 : Int)) * (s1 4 p2)) - (s1 (o + 1) p2)) < (0 : Int) then (0 : Int) else (((s1 o (1 : Int)) * (s1 4 p2)) - (s1 (o + 1) p2)))) s1) ∧ (¬ r2 = (0 : Int) → Q (0 : Int) s1))
theorem x3_pullUpper_mono {Q R : Int → Mem → Prop} {o : Nat} {p2 : Int} {s : Mem} (h : x3_pullUpper o p2 s Q) (hQ : ∀ r s, Q r s → R r s) : x3_pullUpper o p2 s R :=
  x2_isBroken_mono h (fun r2 s1 h => ⟨h.1, fun c => have h := h.2.1 c; ⟨h.1, have h := h.2; ⟨h.1, have h := h.2; ⟨h.1, have h := h.2; ⟨h.1, have h := h.2; ⟨h.1, have h := h.2; ⟨h.1, have h := h.2; hQ _ _ h⟩⟩⟩⟩⟩⟩, fun c => have h := h.2.2 c; hQ _ _ h⟩)
def x3_pullUpper_rm : Room := { frames := 1, cells := 0, slots := 0, locals := 60 }
theorem w_x3_pullUpper_70 : Cond.fieldLink RX3 70 "BoltRing$Joint" "stiffness" "[I" ∈ wsX3_pullUpper := by decide +kernel
theorem w_x3_pullUpper_15 : Cond.fieldLink RX3 15 "BoltRing$Lifts" "lower" "J" ∈ wsX3_pullUpper := by decide +kernel
theorem w_x3_pullUpper_74 : Cond.fieldLink RX3 74 "BoltRing$Joint" "turns" "[I" ∈ wsX3_pullUpper := by decide +kernel
theorem w_x3_pullUpper_9 : Cond.fieldLink RX3 9 "BoltRing$Lifts" "upper" "[J" ∈ wsX3_pullUpper := by decide +kernel
theorem w_x3_pullUpper_l84 : Cond.methodLink RX3 84 Lib.MathLoose.max_long.x ∈ wsX3_pullUpper := by decide +kernel
theorem w_x3_pullUpper_s84 : Cond.static Lib.MathLoose.max_long.x ∈ wsX3_pullUpper := by decide +kernel
theorem w_x3_pullUpper_im : Cond.initialized "java/lang/Math" ∈ wsX3_pullUpper := by decide +kernel
theorem w_x3_pullUpper_c84 : Cond.code Lib.MathLoose.max_long.x Lib.MathLoose.max_long.code 4 (some .long) ∈ wsX3_pullUpper := by decide +kernel
theorem in_x3_pullUpper_X2 : ∀ w ∈ wsX20, w ∈ wsX3_pullUpper := by decide +kernel
theorem in_x3_pullUpper_X3 : ∀ w ∈ wsX30, w ∈ wsX3_pullUpper := by decide +kernel
set_option maxHeartbeats 4000000 in
set_option maxRecDepth 100000 in
theorem x3_pullUpper_bd {κ : KT} {ad : Nat → Nat} {cA : Nat → ClassId} {D : va_G} {Q : State → Prop} {o : Nat} {p2 : Int} {s : Mem} (ho : LfA o) (C : CX κ (GA ad cA D) RX3 cX3_pullUpper 3 wsX3_pullUpper x3_pullUpper_rm (some .long)) (h : x3_pullUpper o p2 s (RT κ (GA ad cA D) ocL Q)) : WM κ (GA ad cA D) 3 Q s 0 [(0, .ref (ad o)), (1, .ref (ad 1)), (2, vI p2)] [] := by
  refine r_aload_n C 1 dX3_pullUpper_0 rfl ?_
  refine r_iload_n C 2 dX3_pullUpper_1 rfl ?_
  refine r_callV (As := [vI p2]) (o := 1) (n := 1) C dX3_pullUpper_2 (x2_isBroken_ct κ.1.2.1 ad cA D p2 s) gX3_pullUpper_X2_isBroken rfl ⟨rfl, rfl⟩ (by decide +kernel) (by decide) (shA_1) rfl rfl rfl (Nat.le_of_ble_eq_true rfl) (fun _ => rfl) ?_
  refine x2_isBroken_mono h (fun r2 s1 h => ?_)
  refine r_if_eq (tgt := 10) C dX3_pullUpper_5 (by decide) ⟨h.1, fun c3 => ?_, fun c3 => ?_⟩
  · have h := h.2.1 c3
    refine r_aload_n C 1 dX3_pullUpper_10 rfl ?_
    refine r_get (j := 3) (jz := 3) (v := .ref (ad 2)) C dX3_pullUpper_11 (shA_1) rfl rfl (by decide) in_x3_pullUpper_X2 w_x3_pullUpper_70 rfl rfl rfl ?_
    refine r_iload_n C 2 dX3_pullUpper_14 rfl ?_
    refine r_iald (nz := 6) C dX3_pullUpper_15 (shA_2) rfl (by decide) ⟨h.1, ?_⟩
    have h := h.2
    refine r_i2l C dX3_pullUpper_16 ⟨h.1, ?_⟩
    have h := h.2
    refine r_lconst (z := 0) C dX3_pullUpper_17 rfl ?_
    refine r_aload_n C 0 dX3_pullUpper_18 rfl ?_
    refine r_get (j := 1) (jz := 1) (v := vL (s1 o (1 : Int))) C dX3_pullUpper_19 (lf_0 ho) rfl rfl (by decide) in_x3_pullUpper_X3 w_x3_pullUpper_15 rfl rfl rfl ?_
    refine r_aload_n C 1 dX3_pullUpper_22 rfl ?_
    refine r_get (j := 5) (jz := 5) (v := .ref (ad 4)) C dX3_pullUpper_23 (shA_1) rfl rfl (by decide) in_x3_pullUpper_X2 w_x3_pullUpper_74 rfl rfl rfl ?_
    refine r_iload_n C 2 dX3_pullUpper_26 rfl ?_
    refine r_iald (nz := 6) C dX3_pullUpper_27 (shA_4) rfl (by decide) ⟨h.1, ?_⟩
    have h := h.2
    refine r_i2l C dX3_pullUpper_28 ⟨h.1, ?_⟩
    have h := h.2
    refine r_lmul C dX3_pullUpper_29 ?_
    refine r_aload_n C 0 dX3_pullUpper_30 rfl ?_
    refine r_get (j := 0) (jz := 0) (v := .ref (ad (o + 1))) C dX3_pullUpper_31 (lf_0 ho) rfl rfl (by decide) in_x3_pullUpper_X3 w_x3_pullUpper_9 rfl rfl rfl ?_
    refine r_iload_n C 2 dX3_pullUpper_34 rfl ?_
    refine r_lald (nz := 6) C dX3_pullUpper_35 (lf_1 ho) rfl (by decide) ⟨h.1, ?_⟩
    have h := h.2
    refine r_lsub C dX3_pullUpper_36 ?_
    refine r_maxL C dX3_pullUpper_37 w_x3_pullUpper_l84 w_x3_pullUpper_s84 w_x3_pullUpper_im w_x3_pullUpper_c84 (by decide) (Nat.le_of_ble_eq_true rfl) ⟨h.1, ?_⟩
    have h := h.2
    refine r_lmul C dX3_pullUpper_40 ?_
    exact r_lreturn C dX3_pullUpper_41 h
  · have h := h.2.2 c3
    refine r_lconst (z := 0) C dX3_pullUpper_8 rfl ?_
    exact r_lreturn C dX3_pullUpper_9 h
theorem x3_pullUpper_ct (l : Launch) (ad : Nat → Nat) (cA : Nat → ClassId) (D : va_G) (o : Nat) (p2 : Int) (s : Mem) (ho : LfA o) : MG l yX3_pullUpper wsX3_pullUpper x3_pullUpper_rm ocL [.ref (ad o), .ref (ad 1), vI p2] (GA ad cA D) s (x3_pullUpper o p2 s) :=
  m_met (own := RX3) (nL := 3) (by decide) rfl rfl (Nat.le_of_ble_eq_true rfl) rfl rfl rfl (fun κ hl C Q Pst hW hQ => x3_pullUpper_bd ho C (x3_pullUpper_mono hW hQ))

def x3_pressUpper (o : Nat) (p2 : Int) (s : Mem) (Q : Int → Mem → Prop) : Prop :=
  ((0 : Int) ≤ p2 ∧ p2 < 6) ∧ (InI (s 3 p2)) ∧ ((0 : Int) ≤ p2 ∧ p2 < 6) ∧ (InL (0 : Int) ∧ InL (s (o + 1) p2)) ∧ Q ((s 3 p2) * (if (s (o + 1) p2) < (0 : Int) then (0 : Int) else (s (o + 1) p2))) s
theorem x3_pressUpper_mono {Q R : Int → Mem → Prop} {o : Nat} {p2 : Int} {s : Mem} (h : x3_pressUpper o p2 s Q) (hQ : ∀ r s, Q r s → R r s) : x3_pressUpper o p2 s R :=
  ⟨h.1, have h := h.2; ⟨h.1, have h := h.2; ⟨h.1, have h := h.2; ⟨h.1, have h := h.2; hQ _ _ h⟩⟩⟩⟩
def x3_pressUpper_rm : Room := { frames := 1, cells := 0, slots := 0, locals := 60 }
theorem w_x3_pressUpper_77 : Cond.fieldLink RX3 77 "BoltRing$Joint" "pads" "[I" ∈ wsX3_pressUpper := by decide +kernel
theorem w_x3_pressUpper_9 : Cond.fieldLink RX3 9 "BoltRing$Lifts" "upper" "[J" ∈ wsX3_pressUpper := by decide +kernel
theorem w_x3_pressUpper_l84 : Cond.methodLink RX3 84 Lib.MathLoose.max_long.x ∈ wsX3_pressUpper := by decide +kernel
theorem w_x3_pressUpper_s84 : Cond.static Lib.MathLoose.max_long.x ∈ wsX3_pressUpper := by decide +kernel
theorem w_x3_pressUpper_im : Cond.initialized "java/lang/Math" ∈ wsX3_pressUpper := by decide +kernel
theorem w_x3_pressUpper_c84 : Cond.code Lib.MathLoose.max_long.x Lib.MathLoose.max_long.code 4 (some .long) ∈ wsX3_pressUpper := by decide +kernel
theorem in_x3_pressUpper_X2 : ∀ w ∈ wsX20, w ∈ wsX3_pressUpper := by decide +kernel
theorem in_x3_pressUpper_X3 : ∀ w ∈ wsX30, w ∈ wsX3_pressUpper := by decide +kernel
set_option maxHeartbeats 4000000 in
set_option maxRecDepth 100000 in
theorem x3_pressUpper_bd {κ : KT} {ad : Nat → Nat} {cA : Nat → ClassId} {D : va_G} {Q : State → Prop} {o : Nat} {p2 : Int} {s : Mem} (ho : LfA o) (C : CX κ (GA ad cA D) RX3 cX3_pressUpper 3 wsX3_pressUpper x3_pressUpper_rm (some .long)) (h : x3_pressUpper o p2 s (RT κ (GA ad cA D) ocL Q)) : WM κ (GA ad cA D) 3 Q s 0 [(0, .ref (ad o)), (1, .ref (ad 1)), (2, vI p2)] [] := by
  refine r_aload_n C 1 dX3_pressUpper_0 rfl ?_
  refine r_get (j := 4) (jz := 4) (v := .ref (ad 3)) C dX3_pressUpper_1 (shA_1) rfl rfl (by decide) in_x3_pressUpper_X2 w_x3_pressUpper_77 rfl rfl rfl ?_
  refine r_iload_n C 2 dX3_pressUpper_4 rfl ?_
  refine r_iald (nz := 6) C dX3_pressUpper_5 (shA_3) rfl (by decide) ⟨h.1, ?_⟩
  have h := h.2
  refine r_i2l C dX3_pressUpper_6 ⟨h.1, ?_⟩
  have h := h.2
  refine r_lconst (z := 0) C dX3_pressUpper_7 rfl ?_
  refine r_aload_n C 0 dX3_pressUpper_8 rfl ?_
  refine r_get (j := 0) (jz := 0) (v := .ref (ad (o + 1))) C dX3_pressUpper_9 (lf_0 ho) rfl rfl (by decide) in_x3_pressUpper_X3 w_x3_pressUpper_9 rfl rfl rfl ?_
  refine r_iload_n C 2 dX3_pressUpper_12 rfl ?_
  refine r_lald (nz := 6) C dX3_pressUpper_13 (lf_1 ho) rfl (by decide) ⟨h.1, ?_⟩
  have h := h.2
  refine r_maxL C dX3_pressUpper_14 w_x3_pressUpper_l84 w_x3_pressUpper_s84 w_x3_pressUpper_im w_x3_pressUpper_c84 (by decide) (Nat.le_of_ble_eq_true rfl) ⟨h.1, ?_⟩
  have h := h.2
  refine r_lmul C dX3_pressUpper_17 ?_
  exact r_lreturn C dX3_pressUpper_18 h
theorem x3_pressUpper_ct (l : Launch) (ad : Nat → Nat) (cA : Nat → ClassId) (D : va_G) (o : Nat) (p2 : Int) (s : Mem) (ho : LfA o) : MG l yX3_pressUpper wsX3_pressUpper x3_pressUpper_rm ocL [.ref (ad o), .ref (ad 1), vI p2] (GA ad cA D) s (x3_pressUpper o p2 s) :=
  m_met (own := RX3) (nL := 3) (by decide) rfl rfl (Nat.le_of_ble_eq_true rfl) rfl rfl rfl (fun κ hl C Q Pst hW hQ => x3_pressUpper_bd ho C (x3_pressUpper_mono hW hQ))

def x3_slackCount_be (X4 : Int → Int → Mem → Prop) (Q : Int → Mem → Prop) (o : Nat) (s : Mem) : Prop :=
  X4 (0 : Int) (0 : Int) s
def x3_slackCount_b4 (o : Nat) (X4 : Int → Int → Mem → Prop) (Q : Int → Mem → Prop) (x2 : Int) (x3 : Int) (s : Mem) : Prop :=
  (InI x3 ∧ InI (s 1 (0 : Int))) ∧ ((s 1 (0 : Int)) ≤ x3 → Q x2 s) ∧ (x3 < (s 1 (0 : Int)) → x3_pullUpper o x3 s (fun r2 s1 => (InL r2 ∧ InL (0 : Int)) ∧ (¬ r2 = (0 : Int) → x7_asNumber (0 : Int) s1 (fun r4 s3 => X4 (x2 + r4) (x3 + (1 : Int)) s3)) ∧ (r2 = (0 : Int) → x7_asNumber (1 : Int) s1 (fun r6 s5 => X4 (x2 + r6) (x3 + (1 : Int)) s5))))
theorem x3_slackCount_me {X4 Y4 : Int → Int → Mem → Prop} {Q R : Int → Mem → Prop} (hX4 : ∀ x2 x3 s, X4 x2 x3 s → Y4 x2 x3 s) (hQ : ∀ r s, Q r s → R r s) {o : Nat} {s : Mem} (h : x3_slackCount_be X4 Q o s) : x3_slackCount_be Y4 R o s :=
  hX4 _ _ _ h
theorem x3_slackCount_m4 {o : Nat} {X4 Y4 : Int → Int → Mem → Prop} {Q R : Int → Mem → Prop} (hX4 : ∀ x2 x3 s, X4 x2 x3 s → Y4 x2 x3 s) (hQ : ∀ r s, Q r s → R r s) {x2 : Int} {x3 : Int} {s : Mem} (h : x3_slackCount_b4 o X4 Q x2 x3 s) : x3_slackCount_b4 o Y4 R x2 x3 s :=
  ⟨h.1, fun c => have h := h.2.1 c; hQ _ _ h, fun c => have h := h.2.2 c; x3_pullUpper_mono h (fun r2 s1 h => ⟨h.1, fun c => have h := h.2.1 c; x7_asNumber_mono h (fun r4 s3 h => hX4 _ _ _ h), fun c => have h := h.2.2 c; x7_asNumber_mono h (fun r6 s5 h => hX4 _ _ _ h)⟩)⟩
def x3_slackCount (o : Nat) (s : Mem) (Q : Int → Mem → Prop) : Prop := ∀ (X4 : Int → Int → Mem → Prop), (∀ x2 x3 s, x3_slackCount_b4 o X4 Q x2 x3 s → X4 x2 x3 s) → x3_slackCount_be X4 Q o s
def x3_slackCount_L4 (o : Nat) (Q : Int → Mem → Prop) (x2 : Int) (x3 : Int) (s : Mem) : Prop := ∀ (X4 : Int → Int → Mem → Prop), (∀ x2 x3 s, x3_slackCount_b4 o X4 Q x2 x3 s → X4 x2 x3 s) → X4 x2 x3 s
theorem x3_slackCount_i {Q : Int → Mem → Prop} {o : Nat} {s : Mem} (h : x3_slackCount_be (x3_slackCount_L4 o Q) Q o s) : x3_slackCount o s Q := fun X4 k4 => x3_slackCount_me (fun _ _ _ h => h X4 k4) (fun _ _ h => h) h
theorem x3_slackCount_s4 {o : Nat} {Q : Int → Mem → Prop} {x2 : Int} {x3 : Int} {s : Mem} (h : x3_slackCount_b4 o (x3_slackCount_L4 o Q) Q x2 x3 s) : x3_slackCount_L4 o Q x2 x3 s := fun X4 k4 => k4 _ _ _ (x3_slackCount_m4 (fun _ _ _ h => h X4 k4) (fun _ _ h => h) h)
theorem x3_slackCount_mono {Q R : Int → Mem → Prop} {o : Nat} {s : Mem} (h : x3_slackCount o s Q) (hQ : ∀ r s, Q r s → R r s) : x3_slackCount o s R := fun X4 k4 => x3_slackCount_me (fun _ _ _ h => h) hQ (h X4 (fun _ _ _ h => k4 _ _ _ (x3_slackCount_m4 (fun _ _ _ h => h) hQ h)))
def x3_slackCount_rm : Room := { frames := 2, cells := 0, slots := 0, locals := 82 }
theorem w_x3_slackCount_48 : Cond.fieldLink RX3 48 "BoltRing$Joint" "bolts" "I" ∈ wsX3_slackCount := by decide +kernel
theorem w_x3_slackCount_s94 : Cond.static yX7_asNumber ∈ wsX3_slackCount := by decide +kernel
theorem w_x3_slackCount_iX7 : Cond.initialized RX7 ∈ wsX3_slackCount := by decide +kernel
theorem in_x3_slackCount_X2 : ∀ w ∈ wsX20, w ∈ wsX3_slackCount := by decide +kernel
set_option maxHeartbeats 4000000 in
set_option maxRecDepth 100000 in
theorem x3_slackCount_bd {κ : KT} {ad : Nat → Nat} {cA : Nat → ClassId} {D : va_G} {Q : State → Prop} {o : Nat} {s : Mem} (ho : LfA o) (C : CX κ (GA ad cA D) RX3 cX3_slackCount 4 wsX3_slackCount x3_slackCount_rm (some .int)) (h : x3_slackCount o s (RT κ (GA ad cA D) ocI Q)) : WM κ (GA ad cA D) 4 Q s 0 [(0, .ref (ad o)), (1, .ref (ad 1))] [] := by
  obtain ⟨Z4, z4⟩ : ∃ Z : Int → Int → Mem → Prop, ∀ x2 x3 s, Z x2 x3 s ↔ WM κ (GA ad cA D) 4 Q s 4 [(0, .ref (ad o)), (1, .ref (ad 1)), (2, vI x2), (3, vI x3)] [] := ⟨fun x2 x3 s => WM κ (GA ad cA D) 4 Q s 4 [(0, .ref (ad o)), (1, .ref (ad 1)), (2, vI x2), (3, vI x3)] [], fun _ _ _ => Iff.rfl⟩
  refine (fun h => ?_) (h Z4 ?_)
  · refine r_iconst C dX3_slackCount_0 ?_
    refine r_istore_n (ls' := [(2, vI (0 : Int)), (0, .ref (ad o)), (1, .ref (ad 1))]) C dX3_slackCount_1 rfl (by decide) rfl ?_
    refine r_iconst C dX3_slackCount_2 ?_
    refine r_istore_n (ls' := [(3, vI (0 : Int)), (2, vI (0 : Int)), (0, .ref (ad o)), (1, .ref (ad 1))]) C dX3_slackCount_3 rfl (by decide) rfl ?_
    exact r_perm [2, 3, 1, 0] rfl ((z4 _ _ _).1 h)
  · intro x2 x3 s h
    refine (z4 _ _ _).2 ?_
    refine r_iload_n C 3 dX3_slackCount_4 rfl ?_
    refine r_aload_n C 1 dX3_slackCount_5 rfl ?_
    refine r_get (j := 0) (jz := 0) (v := vI (s 1 (0 : Int))) C dX3_slackCount_6 (shA_1) rfl rfl (by decide) in_x3_slackCount_X2 w_x3_slackCount_48 rfl rfl rfl ?_
    refine r_icmp_ge (tgt := 40) C dX3_slackCount_9 (by decide) ⟨h.1, fun c8 => ?_, fun c8 => ?_⟩
    · have h := h.2.1 c8
      refine r_iload_n C 2 dX3_slackCount_40 rfl ?_
      exact r_ireturn C dX3_slackCount_41 h
    · have h := h.2.2 c8
      refine r_iload_n C 2 dX3_slackCount_12 rfl ?_
      refine r_aload_n C 0 dX3_slackCount_13 rfl ?_
      refine r_aload_n C 1 dX3_slackCount_14 rfl ?_
      refine r_iload_n C 3 dX3_slackCount_15 rfl ?_
      refine r_callV (As := [.ref (ad 1), vI x3]) (o := o) (n := 2) C dX3_slackCount_16 (x3_pullUpper_ct κ.1.2.1 ad cA D o x3 s ho) gX3_slackCount_X3_pullUpper rfl ⟨rfl, rfl⟩ (by decide +kernel) (by decide) (lf_0 ho) rfl rfl rfl (Nat.le_of_ble_eq_true rfl) (fun _ => rfl) ?_
      refine x3_pullUpper_mono h (fun r2 s1 h => ?_)
      refine r_lconst (z := 0) C dX3_slackCount_19 rfl ?_
      refine r_lcmp_ne (tgt := 28) C dX3_slackCount_20 dX3_slackCount_21 (by decide) ⟨h.1, fun c7 => ?_, fun c7 => ?_⟩
      · have h := h.2.1 c7
        refine r_iconst C dX3_slackCount_28 ?_
        refine r_callSN (As := [vI (0 : Int)]) (n := 1) C dX3_slackCount_29 (x7_asNumber_ct κ.1.2.1 ad cA D (0 : Int) s1) C.e.1.2 w_x3_slackCount_s94 w_x3_slackCount_iX7 gX3_slackCount_X7_asNumber_n94 rfl ⟨rfl, rfl⟩ (by decide +kernel) (by decide) rfl rfl (Nat.le_of_ble_eq_true rfl) (fun _ => rfl) ?_
        refine x7_asNumber_mono h (fun r4 s3 h => ?_)
        refine r_iadd C dX3_slackCount_32 ?_
        refine r_istore_n (ls' := [(2, vI (x2 + r4)), (0, .ref (ad o)), (1, .ref (ad 1)), (3, vI x3)]) C dX3_slackCount_33 rfl (by decide) rfl ?_
        refine r_iinc (j := 3) (ls' := [(3, vI (x3 + (1 : Int))), (2, vI (x2 + r4)), (0, .ref (ad o)), (1, .ref (ad 1))]) C dX3_slackCount_34 rfl (by decide) rfl ?_
        refine r_goto (tgt := 4) C dX3_slackCount_37 (by decide) ?_
        exact r_perm [2, 3, 1, 0] rfl ((z4 _ _ _).1 h)
      · have h := h.2.2 c7
        refine r_iconst C dX3_slackCount_24 ?_
        refine r_goto (tgt := 29) C dX3_slackCount_25 (by decide) ?_
        refine r_callSN (As := [vI (1 : Int)]) (n := 1) C dX3_slackCount_29 (x7_asNumber_ct κ.1.2.1 ad cA D (1 : Int) s1) C.e.1.2 w_x3_slackCount_s94 w_x3_slackCount_iX7 gX3_slackCount_X7_asNumber_n94 rfl ⟨rfl, rfl⟩ (by decide +kernel) (by decide) rfl rfl (Nat.le_of_ble_eq_true rfl) (fun _ => rfl) ?_
        refine x7_asNumber_mono h (fun r6 s5 h => ?_)
        refine r_iadd C dX3_slackCount_32 ?_
        refine r_istore_n (ls' := [(2, vI (x2 + r6)), (0, .ref (ad o)), (1, .ref (ad 1)), (3, vI x3)]) C dX3_slackCount_33 rfl (by decide) rfl ?_
        refine r_iinc (j := 3) (ls' := [(3, vI (x3 + (1 : Int))), (2, vI (x2 + r6)), (0, .ref (ad o)), (1, .ref (ad 1))]) C dX3_slackCount_34 rfl (by decide) rfl ?_
        refine r_goto (tgt := 4) C dX3_slackCount_37 (by decide) ?_
        exact r_perm [2, 3, 1, 0] rfl ((z4 _ _ _).1 h)
theorem x3_slackCount_ct (l : Launch) (ad : Nat → Nat) (cA : Nat → ClassId) (D : va_G) (o : Nat) (s : Mem) (ho : LfA o) : MG l yX3_slackCount wsX3_slackCount x3_slackCount_rm ocI [.ref (ad o), .ref (ad 1)] (GA ad cA D) s (x3_slackCount o s) :=
  m_met (own := RX3) (nL := 4) (by decide) rfl rfl (Nat.le_of_ble_eq_true rfl) rfl rfl rfl (fun κ hl C Q Pst hW hQ => x3_slackCount_bd ho C (x3_slackCount_mono hW hQ))

def x3_openCount_be (X4 : Int → Int → Mem → Prop) (Q : Int → Mem → Prop) (o : Nat) (s : Mem) : Prop :=
  X4 (0 : Int) (0 : Int) s
def x3_openCount_b4 (o : Nat) (X4 : Int → Int → Mem → Prop) (Q : Int → Mem → Prop) (x2 : Int) (x3 : Int) (s : Mem) : Prop :=
  (InI x3 ∧ InI (s 1 (0 : Int))) ∧ ((s 1 (0 : Int)) ≤ x3 → Q x2 s) ∧ (x3 < (s 1 (0 : Int)) → x3_pressUpper o x3 s (fun r2 s1 => (InL r2 ∧ InL (0 : Int)) ∧ (¬ r2 = (0 : Int) → x7_asNumber (0 : Int) s1 (fun r4 s3 => X4 (x2 + r4) (x3 + (1 : Int)) s3)) ∧ (r2 = (0 : Int) → x7_asNumber (1 : Int) s1 (fun r6 s5 => X4 (x2 + r6) (x3 + (1 : Int)) s5))))
theorem x3_openCount_me {X4 Y4 : Int → Int → Mem → Prop} {Q R : Int → Mem → Prop} (hX4 : ∀ x2 x3 s, X4 x2 x3 s → Y4 x2 x3 s) (hQ : ∀ r s, Q r s → R r s) {o : Nat} {s : Mem} (h : x3_openCount_be X4 Q o s) : x3_openCount_be Y4 R o s :=
  hX4 _ _ _ h
theorem x3_openCount_m4 {o : Nat} {X4 Y4 : Int → Int → Mem → Prop} {Q R : Int → Mem → Prop} (hX4 : ∀ x2 x3 s, X4 x2 x3 s → Y4 x2 x3 s) (hQ : ∀ r s, Q r s → R r s) {x2 : Int} {x3 : Int} {s : Mem} (h : x3_openCount_b4 o X4 Q x2 x3 s) : x3_openCount_b4 o Y4 R x2 x3 s :=
  ⟨h.1, fun c => have h := h.2.1 c; hQ _ _ h, fun c => have h := h.2.2 c; x3_pressUpper_mono h (fun r2 s1 h => ⟨h.1, fun c => have h := h.2.1 c; x7_asNumber_mono h (fun r4 s3 h => hX4 _ _ _ h), fun c => have h := h.2.2 c; x7_asNumber_mono h (fun r6 s5 h => hX4 _ _ _ h)⟩)⟩
def x3_openCount (o : Nat) (s : Mem) (Q : Int → Mem → Prop) : Prop := ∀ (X4 : Int → Int → Mem → Prop), (∀ x2 x3 s, x3_openCount_b4 o X4 Q x2 x3 s → X4 x2 x3 s) → x3_openCount_be X4 Q o s
def x3_openCount_L4 (o : Nat) (Q : Int → Mem → Prop) (x2 : Int) (x3 : Int) (s : Mem) : Prop := ∀ (X4 : Int → Int → Mem → Prop), (∀ x2 x3 s, x3_openCount_b4 o X4 Q x2 x3 s → X4 x2 x3 s) → X4 x2 x3 s
theorem x3_openCount_i {Q : Int → Mem → Prop} {o : Nat} {s : Mem} (h : x3_openCount_be (x3_openCount_L4 o Q) Q o s) : x3_openCount o s Q := fun X4 k4 => x3_openCount_me (fun _ _ _ h => h X4 k4) (fun _ _ h => h) h
theorem x3_openCount_s4 {o : Nat} {Q : Int → Mem → Prop} {x2 : Int} {x3 : Int} {s : Mem} (h : x3_openCount_b4 o (x3_openCount_L4 o Q) Q x2 x3 s) : x3_openCount_L4 o Q x2 x3 s := fun X4 k4 => k4 _ _ _ (x3_openCount_m4 (fun _ _ _ h => h X4 k4) (fun _ _ h => h) h)
theorem x3_openCount_mono {Q R : Int → Mem → Prop} {o : Nat} {s : Mem} (h : x3_openCount o s Q) (hQ : ∀ r s, Q r s → R r s) : x3_openCount o s R := fun X4 k4 => x3_openCount_me (fun _ _ _ h => h) hQ (h X4 (fun _ _ _ h => k4 _ _ _ (x3_openCount_m4 (fun _ _ _ h => h) hQ h)))
def x3_openCount_rm : Room := { frames := 2, cells := 0, slots := 0, locals := 82 }
theorem w_x3_openCount_48 : Cond.fieldLink RX3 48 "BoltRing$Joint" "bolts" "I" ∈ wsX3_openCount := by decide +kernel
theorem w_x3_openCount_s94 : Cond.static yX7_asNumber ∈ wsX3_openCount := by decide +kernel
theorem w_x3_openCount_iX7 : Cond.initialized RX7 ∈ wsX3_openCount := by decide +kernel
theorem in_x3_openCount_X2 : ∀ w ∈ wsX20, w ∈ wsX3_openCount := by decide +kernel
set_option maxHeartbeats 4000000 in
set_option maxRecDepth 100000 in
theorem x3_openCount_bd {κ : KT} {ad : Nat → Nat} {cA : Nat → ClassId} {D : va_G} {Q : State → Prop} {o : Nat} {s : Mem} (ho : LfA o) (C : CX κ (GA ad cA D) RX3 cX3_openCount 4 wsX3_openCount x3_openCount_rm (some .int)) (h : x3_openCount o s (RT κ (GA ad cA D) ocI Q)) : WM κ (GA ad cA D) 4 Q s 0 [(0, .ref (ad o)), (1, .ref (ad 1))] [] := by
  obtain ⟨Z4, z4⟩ : ∃ Z : Int → Int → Mem → Prop, ∀ x2 x3 s, Z x2 x3 s ↔ WM κ (GA ad cA D) 4 Q s 4 [(0, .ref (ad o)), (1, .ref (ad 1)), (2, vI x2), (3, vI x3)] [] := ⟨fun x2 x3 s => WM κ (GA ad cA D) 4 Q s 4 [(0, .ref (ad o)), (1, .ref (ad 1)), (2, vI x2), (3, vI x3)] [], fun _ _ _ => Iff.rfl⟩
  refine (fun h => ?_) (h Z4 ?_)
  · refine r_iconst C dX3_openCount_0 ?_
    refine r_istore_n (ls' := [(2, vI (0 : Int)), (0, .ref (ad o)), (1, .ref (ad 1))]) C dX3_openCount_1 rfl (by decide) rfl ?_
    refine r_iconst C dX3_openCount_2 ?_
    refine r_istore_n (ls' := [(3, vI (0 : Int)), (2, vI (0 : Int)), (0, .ref (ad o)), (1, .ref (ad 1))]) C dX3_openCount_3 rfl (by decide) rfl ?_
    exact r_perm [2, 3, 1, 0] rfl ((z4 _ _ _).1 h)
  · intro x2 x3 s h
    refine (z4 _ _ _).2 ?_
    refine r_iload_n C 3 dX3_openCount_4 rfl ?_
    refine r_aload_n C 1 dX3_openCount_5 rfl ?_
    refine r_get (j := 0) (jz := 0) (v := vI (s 1 (0 : Int))) C dX3_openCount_6 (shA_1) rfl rfl (by decide) in_x3_openCount_X2 w_x3_openCount_48 rfl rfl rfl ?_
    refine r_icmp_ge (tgt := 40) C dX3_openCount_9 (by decide) ⟨h.1, fun c8 => ?_, fun c8 => ?_⟩
    · have h := h.2.1 c8
      refine r_iload_n C 2 dX3_openCount_40 rfl ?_
      exact r_ireturn C dX3_openCount_41 h
    · have h := h.2.2 c8
      refine r_iload_n C 2 dX3_openCount_12 rfl ?_
      refine r_aload_n C 0 dX3_openCount_13 rfl ?_
      refine r_aload_n C 1 dX3_openCount_14 rfl ?_
      refine r_iload_n C 3 dX3_openCount_15 rfl ?_
      refine r_callV (As := [.ref (ad 1), vI x3]) (o := o) (n := 2) C dX3_openCount_16 (x3_pressUpper_ct κ.1.2.1 ad cA D o x3 s ho) gX3_openCount_X3_pressUpper rfl ⟨rfl, rfl⟩ (by decide +kernel) (by decide) (lf_0 ho) rfl rfl rfl (Nat.le_of_ble_eq_true rfl) (fun _ => rfl) ?_
      refine x3_pressUpper_mono h (fun r2 s1 h => ?_)
      refine r_lconst (z := 0) C dX3_openCount_19 rfl ?_
      refine r_lcmp_ne (tgt := 28) C dX3_openCount_20 dX3_openCount_21 (by decide) ⟨h.1, fun c7 => ?_, fun c7 => ?_⟩
      · have h := h.2.1 c7
        refine r_iconst C dX3_openCount_28 ?_
        refine r_callSN (As := [vI (0 : Int)]) (n := 1) C dX3_openCount_29 (x7_asNumber_ct κ.1.2.1 ad cA D (0 : Int) s1) C.e.1.2 w_x3_openCount_s94 w_x3_openCount_iX7 gX3_openCount_X7_asNumber_n94 rfl ⟨rfl, rfl⟩ (by decide +kernel) (by decide) rfl rfl (Nat.le_of_ble_eq_true rfl) (fun _ => rfl) ?_
        refine x7_asNumber_mono h (fun r4 s3 h => ?_)
        refine r_iadd C dX3_openCount_32 ?_
        refine r_istore_n (ls' := [(2, vI (x2 + r4)), (0, .ref (ad o)), (1, .ref (ad 1)), (3, vI x3)]) C dX3_openCount_33 rfl (by decide) rfl ?_
        refine r_iinc (j := 3) (ls' := [(3, vI (x3 + (1 : Int))), (2, vI (x2 + r4)), (0, .ref (ad o)), (1, .ref (ad 1))]) C dX3_openCount_34 rfl (by decide) rfl ?_
        refine r_goto (tgt := 4) C dX3_openCount_37 (by decide) ?_
        exact r_perm [2, 3, 1, 0] rfl ((z4 _ _ _).1 h)
      · have h := h.2.2 c7
        refine r_iconst C dX3_openCount_24 ?_
        refine r_goto (tgt := 29) C dX3_openCount_25 (by decide) ?_
        refine r_callSN (As := [vI (1 : Int)]) (n := 1) C dX3_openCount_29 (x7_asNumber_ct κ.1.2.1 ad cA D (1 : Int) s1) C.e.1.2 w_x3_openCount_s94 w_x3_openCount_iX7 gX3_openCount_X7_asNumber_n94 rfl ⟨rfl, rfl⟩ (by decide +kernel) (by decide) rfl rfl (Nat.le_of_ble_eq_true rfl) (fun _ => rfl) ?_
        refine x7_asNumber_mono h (fun r6 s5 h => ?_)
        refine r_iadd C dX3_openCount_32 ?_
        refine r_istore_n (ls' := [(2, vI (x2 + r6)), (0, .ref (ad o)), (1, .ref (ad 1)), (3, vI x3)]) C dX3_openCount_33 rfl (by decide) rfl ?_
        refine r_iinc (j := 3) (ls' := [(3, vI (x3 + (1 : Int))), (2, vI (x2 + r6)), (0, .ref (ad o)), (1, .ref (ad 1))]) C dX3_openCount_34 rfl (by decide) rfl ?_
        refine r_goto (tgt := 4) C dX3_openCount_37 (by decide) ?_
        exact r_perm [2, 3, 1, 0] rfl ((z4 _ _ _).1 h)
theorem x3_openCount_ct (l : Launch) (ad : Nat → Nat) (cA : Nat → ClassId) (D : va_G) (o : Nat) (s : Mem) (ho : LfA o) : MG l yX3_openCount wsX3_openCount x3_openCount_rm ocI [.ref (ad o), .ref (ad 1)] (GA ad cA D) s (x3_openCount o s) :=
  m_met (own := RX3) (nL := 4) (by decide) rfl rfl (Nat.le_of_ble_eq_true rfl) rfl rfl rfl (fun κ hl C Q Pst hW hQ => x3_openCount_bd ho C (x3_openCount_mono hW hQ))
end
section
def x1_keepTurns  (s : Mem) (Q : Int → Mem → Prop) : Prop :=
  ((0 ≤ (0 : Int) ∧ 0 ≤ (0 : Int) ∧ 0 ≤ (6 : Int)) ∧ (0 : Int) + (6 : Int) ≤ 6 ∧ (0 : Int) + (6 : Int) ≤ 6) ∧ ∀ s1 : Mem, s1 = m_cpy s 4 20 (0 : Int) (0 : Int) (6 : Int) → Q (0 : Int) s1
theorem x1_keepTurns_mono {Q R : Int → Mem → Prop}  {s : Mem} (h : x1_keepTurns  s Q) (hQ : ∀ r s, Q r s → R r s) : x1_keepTurns  s R :=
  ⟨h.1, have h := h.2; fun s1 e_s1 => have h := h s1 e_s1; hQ _ _ h⟩
def x1_keepTurns_rm : Room := { frames := 1, cells := 0, slots := 0, locals := 60 }
theorem w_x1_keepTurns_28 : Cond.fieldLink RX1 28 "BoltRing$Joint" "turns" "[I" ∈ wsX1_keepTurns := by decide +kernel
theorem w_x1_keepTurns_18 : Cond.fieldLink RX1 18 "BoltRing$Drawing" "kept" "[I" ∈ wsX1_keepTurns := by decide +kernel
theorem w_x1_keepTurns_l33 : Cond.methodLink RX1 33 arraycopyName ∈ wsX1_keepTurns := by decide +kernel
theorem w_x1_keepTurns_ac1 : Cond.native arraycopyName ∈ wsX1_keepTurns := by decide +kernel
theorem w_x1_keepTurns_ac2 : Cond.static arraycopyName ∈ wsX1_keepTurns := by decide +kernel
theorem w_x1_keepTurns_ac3 : Cond.initialized "java/lang/System" ∈ wsX1_keepTurns := by decide +kernel
theorem in_x1_keepTurns_X1 : ∀ w ∈ wsX10, w ∈ wsX1_keepTurns := by decide +kernel
theorem in_x1_keepTurns_X2 : ∀ w ∈ wsX20, w ∈ wsX1_keepTurns := by decide +kernel
set_option maxHeartbeats 4000000 in
set_option maxRecDepth 100000 in
theorem x1_keepTurns_bd {κ : KT} {ad : Nat → Nat} {cA : Nat → ClassId} {D : va_G} {Q : State → Prop}  {s : Mem} (C : CX κ (GA ad cA D) RX1 cX1_keepTurns 2 wsX1_keepTurns x1_keepTurns_rm none) (h : x1_keepTurns  s (RT κ (GA ad cA D) ocV Q)) : WM κ (GA ad cA D) 2 Q s 0 [(0, .ref (ad 13)), (1, .ref (ad 1))] [] := by
  refine r_aload_n C 1 dX1_keepTurns_0 rfl ?_
  refine r_get (j := 5) (jz := 5) (v := .ref (ad 4)) C dX1_keepTurns_1 (shA_1) rfl rfl (by decide) in_x1_keepTurns_X2 w_x1_keepTurns_28 rfl rfl rfl ?_
  refine r_iconst C dX1_keepTurns_4 ?_
  refine r_aload_n C 0 dX1_keepTurns_5 rfl ?_
  refine r_get (j := 4) (jz := 4) (v := .ref (ad 20)) C dX1_keepTurns_6 (shA_13) rfl rfl (by decide) in_x1_keepTurns_X1 w_x1_keepTurns_18 rfl rfl rfl ?_
  refine r_iconst C dX1_keepTurns_9 ?_
  refine r_bipush C dX1_keepTurns_10 (by decide) ?_
  refine r_copyi (n0z := 6) (n1z := 6) C dX1_keepTurns_12 w_x1_keepTurns_l33 w_x1_keepTurns_ac1 w_x1_keepTurns_ac2 w_x1_keepTurns_ac3 (shA_4) (shA_20) rfl rfl (by decide) (by decide) (by decide) (Nat.le_of_ble_eq_true rfl) ⟨h.1, fun s1 e_s1 => ?_⟩
  have h := h.2 s1 e_s1
  exact r_return C dX1_keepTurns_15 h
theorem x1_keepTurns_ct (l : Launch) (ad : Nat → Nat) (cA : Nat → ClassId) (D : va_G)  (s : Mem) : MG l yX1_keepTurns wsX1_keepTurns x1_keepTurns_rm ocV [.ref (ad 13), .ref (ad 1)] (GA ad cA D) s (x1_keepTurns  s) :=
  m_met (own := RX1) (nL := 2) (by decide) rfl rfl (Nat.le_of_ble_eq_true rfl) rfl rfl rfl (fun κ hl C Q Pst hW hQ => x1_keepTurns_bd C (x1_keepTurns_mono hW hQ))

def x1_allHold_be (X14 : Int → Int → Mem → Prop) (Q : Int → Mem → Prop) (p2 : Int) (s : Mem) : Prop :=
  x3_settle 14 5 s (fun _ s1 => X14 p2 (0 : Int) s1)
def x1_allHold_b14 (X14 : Int → Int → Mem → Prop) (Q : Int → Mem → Prop) (x2 : Int) (x3 : Int) (s : Mem) : Prop :=
  (InI x3 ∧ InI (s 1 (0 : Int))) ∧ ((s 1 (0 : Int)) ≤ x3 → ((0 : Int) ≤ (1 : Int) ∧ (1 : Int) ≤ 1) ∧ Q (1 : Int) s) ∧ (x3 < (s 1 (0 : Int)) → x2_isBroken x3 s (fun r3 s2 => InI r3 ∧ (¬ r3 = (0 : Int) → X14 x2 (x3 + (1 : Int)) s2) ∧ (r3 = (0 : Int) → x3_pullUpper 14 x3 s2 (fun r5 s4 => (InI x2) ∧ (InL r5 ∧ InL ((s4 14 (1 : Int)) * x2)) ∧ (((s4 14 (1 : Int)) * x2) ≤ r5 → X14 x2 (x3 + (1 : Int)) s4) ∧ (r5 < ((s4 14 (1 : Int)) * x2) → ((0 : Int) ≤ (0 : Int) ∧ (0 : Int) ≤ 1) ∧ Q (0 : Int) s4)))))
theorem x1_allHold_me {X14 Y14 : Int → Int → Mem → Prop} {Q R : Int → Mem → Prop} (hX14 : ∀ x2 x3 s, X14 x2 x3 s → Y14 x2 x3 s) (hQ : ∀ r s, Q r s → R r s) {p2 : Int} {s : Mem} (h : x1_allHold_be X14 Q p2 s) : x1_allHold_be Y14 R p2 s :=
  x3_settle_mono h (fun _ s1 h => hX14 _ _ _ h)
theorem x1_allHold_m14 {X14 Y14 : Int → Int → Mem → Prop} {Q R : Int → Mem → Prop} (hX14 : ∀ x2 x3 s, X14 x2 x3 s → Y14 x2 x3 s) (hQ : ∀ r s, Q r s → R r s) {x2 : Int} {x3 : Int} {s : Mem} (h : x1_allHold_b14 X14 Q x2 x3 s) : x1_allHold_b14 Y14 R x2 x3 s :=
  ⟨h.1, fun c => have h := h.2.1 c; ⟨h.1, hQ _ _ h.2⟩, fun c => have h := h.2.2 c; x2_isBroken_mono h (fun r3 s2 h => ⟨h.1, fun c => have h := h.2.1 c; hX14 _ _ _ h, fun c => have h := h.2.2 c; x3_pullUpper_mono h (fun r5 s4 h => ⟨h.1, have h := h.2; ⟨h.1, fun c => have h := h.2.1 c; hX14 _ _ _ h, fun c => have h := h.2.2 c; ⟨h.1, hQ _ _ h.2⟩⟩⟩)⟩)⟩
def x1_allHold (p2 : Int) (s : Mem) (Q : Int → Mem → Prop) : Prop := ∀ (X14 : Int → Int → Mem → Prop), (∀ x2 x3 s, x1_allHold_b14 X14 Q x2 x3 s → X14 x2 x3 s) → x1_allHold_be X14 Q p2 s
def x1_allHold_L14 (Q : Int → Mem → Prop) (x2 : Int) (x3 : Int) (s : Mem) : Prop := ∀ (X14 : Int → Int → Mem → Prop), (∀ x2 x3 s, x1_allHold_b14 X14 Q x2 x3 s → X14 x2 x3 s) → X14 x2 x3 s
theorem x1_allHold_i {Q : Int → Mem → Prop} {p2 : Int} {s : Mem} (h : x1_allHold_be (x1_allHold_L14 Q) Q p2 s) : x1_allHold p2 s Q := fun X14 k14 => x1_allHold_me (fun _ _ _ h => h X14 k14) (fun _ _ h => h) h
theorem x1_allHold_s14 {Q : Int → Mem → Prop} {x2 : Int} {x3 : Int} {s : Mem} (h : x1_allHold_b14 (x1_allHold_L14 Q) Q x2 x3 s) : x1_allHold_L14 Q x2 x3 s := fun X14 k14 => k14 _ _ _ (x1_allHold_m14 (fun _ _ _ h => h X14 k14) (fun _ _ h => h) h)
theorem x1_allHold_mono {Q R : Int → Mem → Prop} {p2 : Int} {s : Mem} (h : x1_allHold p2 s Q) (hQ : ∀ r s, Q r s → R r s) : x1_allHold p2 s R := fun X14 k14 => x1_allHold_me (fun _ _ _ h => h) hQ (h X14 (fun _ _ _ h => k14 _ _ _ (x1_allHold_m14 (fun _ _ _ h => h) hQ h)))
def x1_allHold_rm : Room := { frames := 3, cells := 0, slots := 0, locals := 85 }
theorem w_x1_allHold_12 : Cond.fieldLink RX1 12 "BoltRing$Drawing" "lifts" "LBoltRing$Lifts;" ∈ wsX1_allHold := by decide +kernel
theorem w_x1_allHold_43 : Cond.fieldLink RX1 43 "BoltRing$Joint" "loads" "[I" ∈ wsX1_allHold := by decide +kernel
theorem w_x1_allHold_76 : Cond.fieldLink RX1 76 "BoltRing$Joint" "bolts" "I" ∈ wsX1_allHold := by decide +kernel
theorem w_x1_allHold_61 : Cond.fieldLink RX1 61 "BoltRing$Lifts" "lower" "J" ∈ wsX1_allHold := by decide +kernel
theorem in_x1_allHold_X1 : ∀ w ∈ wsX10, w ∈ wsX1_allHold := by decide +kernel
theorem in_x1_allHold_X2 : ∀ w ∈ wsX20, w ∈ wsX1_allHold := by decide +kernel
theorem in_x1_allHold_X3 : ∀ w ∈ wsX30, w ∈ wsX1_allHold := by decide +kernel
set_option maxHeartbeats 4000000 in
set_option maxRecDepth 100000 in
theorem x1_allHold_bd {κ : KT} {ad : Nat → Nat} {cA : Nat → ClassId} {D : va_G} {Q : State → Prop} {p2 : Int} {s : Mem} (C : CX κ (GA ad cA D) RX1 cX1_allHold 4 wsX1_allHold x1_allHold_rm (some .boolean)) (h : x1_allHold p2 s (RT κ (GA ad cA D) ocI Q)) : WM κ (GA ad cA D) 4 Q s 0 [(0, .ref (ad 13)), (1, .ref (ad 1)), (2, vI p2)] [] := by
  obtain ⟨Z14, z14⟩ : ∃ Z : Int → Int → Mem → Prop, ∀ x2 x3 s, Z x2 x3 s ↔ WM κ (GA ad cA D) 4 Q s 14 [(0, .ref (ad 13)), (1, .ref (ad 1)), (2, vI x2), (3, vI x3)] [] := ⟨fun x2 x3 s => WM κ (GA ad cA D) 4 Q s 14 [(0, .ref (ad 13)), (1, .ref (ad 1)), (2, vI x2), (3, vI x3)] [], fun _ _ _ => Iff.rfl⟩
  refine (fun h => ?_) (h Z14 ?_)
  · refine r_aload_n C 0 dX1_allHold_0 rfl ?_
    refine r_get (j := 3) (jz := 3) (v := .ref (ad 14)) C dX1_allHold_1 (shA_13) rfl rfl (by decide) in_x1_allHold_X1 w_x1_allHold_12 rfl rfl rfl ?_
    refine r_aload_n C 1 dX1_allHold_4 rfl ?_
    refine r_aload_n C 1 dX1_allHold_5 rfl ?_
    refine r_get (j := 6) (jz := 6) (v := .ref (ad 5)) C dX1_allHold_6 (shA_1) rfl rfl (by decide) in_x1_allHold_X2 w_x1_allHold_43 rfl rfl rfl ?_
    refine r_callV (As := [.ref (ad 1), .ref (ad 5)]) (o := 14) (n := 2) C dX1_allHold_9 (x3_settle_ct κ.1.2.1 ad cA D 14 5 s (Or.inr rfl)) gX1_allHold_X3_settle rfl ⟨rfl, rfl⟩ (by decide +kernel) (by decide) (shA_14) rfl rfl rfl (Nat.le_of_ble_eq_true rfl) (fun _ => rfl) ?_
    refine x3_settle_mono h (fun _ s1 h => ?_)
    refine r_iconst C dX1_allHold_12 ?_
    refine r_istore_n (ls' := [(3, vI (0 : Int)), (0, .ref (ad 13)), (1, .ref (ad 1)), (2, vI p2)]) C dX1_allHold_13 rfl (by decide) rfl ?_
    exact r_perm [1, 2, 3, 0] rfl ((z14 _ _ _).1 h)
  · intro x2 x3 s h
    refine (z14 _ _ _).2 ?_
    refine r_iload_n C 3 dX1_allHold_14 rfl ?_
    refine r_aload_n C 1 dX1_allHold_15 rfl ?_
    refine r_get (j := 0) (jz := 0) (v := vI (s 1 (0 : Int))) C dX1_allHold_16 (shA_1) rfl rfl (by decide) in_x1_allHold_X2 w_x1_allHold_76 rfl rfl rfl ?_
    refine r_icmp_ge (tgt := 61) C dX1_allHold_19 (by decide) ⟨h.1, fun c8 => ?_, fun c8 => ?_⟩
    · have h := h.2.1 c8
      refine r_iconst C dX1_allHold_61 ?_
      exact r_zreturn C dX1_allHold_62 h
    · have h := h.2.2 c8
      refine r_aload_n C 1 dX1_allHold_22 rfl ?_
      refine r_iload_n C 3 dX1_allHold_23 rfl ?_
      refine r_callV (As := [vI x3]) (o := 1) (n := 1) C dX1_allHold_24 (x2_isBroken_ct κ.1.2.1 ad cA D x3 s) gX1_allHold_X2_isBroken rfl ⟨rfl, rfl⟩ (by decide +kernel) (by decide) (shA_1) rfl rfl rfl (Nat.le_of_ble_eq_true rfl) (fun _ => rfl) ?_
      refine x2_isBroken_mono h (fun r3 s2 h => ?_)
      refine r_if_ne (tgt := 55) C dX1_allHold_27 (by decide) ⟨h.1, fun c7 => ?_, fun c7 => ?_⟩
      · have h := h.2.1 c7
        refine r_iinc (j := 3) (ls' := [(3, vI (x3 + (1 : Int))), (0, .ref (ad 13)), (1, .ref (ad 1)), (2, vI x2)]) C dX1_allHold_55 rfl (by decide) rfl ?_
        refine r_goto (tgt := 14) C dX1_allHold_58 (by decide) ?_
        exact r_perm [1, 2, 3, 0] rfl ((z14 _ _ _).1 h)
      · have h := h.2.2 c7
        refine r_aload_n C 0 dX1_allHold_30 rfl ?_
        refine r_get (j := 3) (jz := 3) (v := .ref (ad 14)) C dX1_allHold_31 (shA_13) rfl rfl (by decide) in_x1_allHold_X1 w_x1_allHold_12 rfl rfl rfl ?_
        refine r_aload_n C 1 dX1_allHold_34 rfl ?_
        refine r_iload_n C 3 dX1_allHold_35 rfl ?_
        refine r_callV (As := [.ref (ad 1), vI x3]) (o := 14) (n := 2) C dX1_allHold_36 (x3_pullUpper_ct κ.1.2.1 ad cA D 14 x3 s2 (Or.inr rfl)) gX1_allHold_X3_pullUpper rfl ⟨rfl, rfl⟩ (by decide +kernel) (by decide) (shA_14) rfl rfl rfl (Nat.le_of_ble_eq_true rfl) (fun _ => rfl) ?_
        refine x3_pullUpper_mono h (fun r5 s4 h => ?_)
        refine r_aload_n C 0 dX1_allHold_39 rfl ?_
        refine r_get (j := 3) (jz := 3) (v := .ref (ad 14)) C dX1_allHold_40 (shA_13) rfl rfl (by decide) in_x1_allHold_X1 w_x1_allHold_12 rfl rfl rfl ?_
        refine r_get (j := 1) (jz := 1) (v := vL (s4 14 (1 : Int))) C dX1_allHold_43 (shA_14) rfl rfl (by decide) in_x1_allHold_X3 w_x1_allHold_61 rfl rfl rfl ?_
        refine r_iload_n C 2 dX1_allHold_46 rfl ?_
        refine r_i2l C dX1_allHold_47 ⟨h.1, ?_⟩
        have h := h.2
        refine r_lmul C dX1_allHold_48 ?_
        refine r_lcmp_ge (tgt := 55) C dX1_allHold_49 dX1_allHold_50 (by decide) ⟨h.1, fun c6 => ?_, fun c6 => ?_⟩
        · have h := h.2.1 c6
          refine r_iinc (j := 3) (ls' := [(3, vI (x3 + (1 : Int))), (0, .ref (ad 13)), (1, .ref (ad 1)), (2, vI x2)]) C dX1_allHold_55 rfl (by decide) rfl ?_
          refine r_goto (tgt := 14) C dX1_allHold_58 (by decide) ?_
          exact r_perm [1, 2, 3, 0] rfl ((z14 _ _ _).1 h)
        · have h := h.2.2 c6
          refine r_iconst C dX1_allHold_53 ?_
          exact r_zreturn C dX1_allHold_54 h
theorem x1_allHold_ct (l : Launch) (ad : Nat → Nat) (cA : Nat → ClassId) (D : va_G) (p2 : Int) (s : Mem) : MG l yX1_allHold wsX1_allHold x1_allHold_rm ocI [.ref (ad 13), .ref (ad 1), vI p2] (GA ad cA D) s (x1_allHold p2 s) :=
  m_met (own := RX1) (nL := 4) (by decide) rfl rfl (Nat.le_of_ble_eq_true rfl) rfl rfl rfl (fun κ hl C Q Pst hW hQ => x1_allHold_bd C (x1_allHold_mono hW hQ))

def x1_drawBolt_be (X22 : Int → Int → Mem → Prop) (Q : Int → Mem → Prop) (p2 : Int) (p3 : Int) (s : Mem) : Prop :=
  x2_wholeCount s (fun r2 s1 => (InI r2 ∧ InI (1 : Int)) ∧ (¬ r2 = (1 : Int) → X22 p2 p3 s1) ∧ (r2 = (1 : Int) → x2_sumOf 5 s1 (fun r4 s3 => (InI r4 ∧ InI p3) ∧ (r4 < p3 → X22 p2 p3 s3) ∧ (p3 ≤ r4 → Q (0 : Int) s3))))
def x1_drawBolt_b22 (X22 : Int → Int → Mem → Prop) (Q : Int → Mem → Prop) (x2 : Int) (x3 : Int) (s : Mem) : Prop :=
  x3_settleHolding 14 5 x2 x3 s (fun _ s7 => ((0 : Int) ≤ x2 ∧ x2 < 6) ∧ (InI (s7 2 x2)) ∧ ((0 : Int) ≤ x2 ∧ x2 < 6) ∧ (InI x3) ∧ ∀ v8 : Int, v8 = (((s7 2 x2) * (s7 15 x2)) + (x3 * (s7 14 (1 : Int)))) → x7_wholeFrom v8 ((s7 2 x2) * (s7 14 (1 : Int))) s7 (fun r10 s9 => ((0 : Int) ≤ x2 ∧ x2 < 6) ∧ (InI (s9 4 x2)) ∧ (InL (0 : Int) ∧ InL (r10 - (s9 4 x2))) ∧ ∀ v11 : Int, v11 = (if (r10 - (s9 4 x2)) < (0 : Int) then (0 : Int) else (r10 - (s9 4 x2))) → ((0 : Int) ≤ x2 ∧ x2 < 6) ∧ (InI (s9 4 x2)) ∧ (InL ((s9 4 x2) + v11) ∧ InL (200 : Int)) ∧ (((s9 4 x2) + v11) ≤ (200 : Int) → ((0 : Int) ≤ x2 ∧ x2 < 6) ∧ ((0 : Int) ≤ x2 ∧ x2 < 6) ∧ ∀ s12 : Mem, s12 = m_upd s9 4 x2 ((s9 4 x2) + v11) → Q v11 s12) ∧ ((200 : Int) < ((s9 4 x2) + v11) → Q (-1 : Int) s9)))
theorem x1_drawBolt_me {X22 Y22 : Int → Int → Mem → Prop} {Q R : Int → Mem → Prop} (hX22 : ∀ x2 x3 s, X22 x2 x3 s → Y22 x2 x3 s) (hQ : ∀ r s, Q r s → R r s) {p2 : Int} {p3 : Int} {s : Mem} (h : x1_drawBolt_be X22 Q p2 p3 s) : x1_drawBolt_be Y22 R p2 p3 s :=
  x2_wholeCount_mono h (fun r2 s1 h => ⟨h.1, fun c => have h := h.2.1 c; hX22 _ _ _ h, fun c => have h := h.2.2 c; x2_sumOf_mono h (fun r4 s3 h => ⟨h.1, fun c => have h := h.2.1 c; hX22 _ _ _ h, fun c => have h := h.2.2 c; hQ _ _ h⟩)⟩)
theorem x1_drawBolt_m22 {X22 Y22 : Int → Int → Mem → Prop} {Q R : Int → Mem → Prop} (hX22 : ∀ x2 x3 s, X22 x2 x3 s → Y22 x2 x3 s) (hQ : ∀ r s, Q r s → R r s) {x2 : Int} {x3 : Int} {s : Mem} (h : x1_drawBolt_b22 X22 Q x2 x3 s) : x1_drawBolt_b22 Y22 R x2 x3 s :=
  x3_settleHolding_mono h (fun _ s7 h => ⟨h.1, have h := h.2; ⟨h.1, have h := h.2; ⟨h.1, have h := h.2; ⟨h.1, have h := h.2; fun v8 e_v8 => have h := h v8 e_v8; x7_wholeFrom_mono h (fun r10 s9 h => ⟨h.1, have h := h.2; ⟨h.1, have h := h.2; ⟨h.1, have h := h.2; fun v11 e_v11 => have h := h v11 e_v11; ⟨h.1, have h := h.2; ⟨h.1, have h := h.2; ⟨h.1, fun c => have h := h.2.1 c; ⟨h.1, have h := h.2; ⟨h.1, have h := h.2; fun s12 e_s12 => have h := h s12 e_s12; hQ _ _ h⟩⟩, fun c => have h := h.2.2 c; hQ _ _ h⟩⟩⟩⟩⟩⟩)⟩⟩⟩⟩)
def x1_drawBolt (p2 : Int) (p3 : Int) (s : Mem) (Q : Int → Mem → Prop) : Prop := ∀ (X22 : Int → Int → Mem → Prop), (∀ x2 x3 s, x1_drawBolt_b22 X22 Q x2 x3 s → X22 x2 x3 s) → x1_drawBolt_be X22 Q p2 p3 s
def x1_drawBolt_L22 (Q : Int → Mem → Prop) (x2 : Int) (x3 : Int) (s : Mem) : Prop := ∀ (X22 : Int → Int → Mem → Prop), (∀ x2 x3 s, x1_drawBolt_b22 X22 Q x2 x3 s → X22 x2 x3 s) → X22 x2 x3 s
theorem x1_drawBolt_i {Q : Int → Mem → Prop} {p2 : Int} {p3 : Int} {s : Mem} (h : x1_drawBolt_be (x1_drawBolt_L22 Q) Q p2 p3 s) : x1_drawBolt p2 p3 s Q := fun X22 k22 => x1_drawBolt_me (fun _ _ _ h => h X22 k22) (fun _ _ h => h) h
theorem x1_drawBolt_s22 {Q : Int → Mem → Prop} {x2 : Int} {x3 : Int} {s : Mem} (h : x1_drawBolt_b22 (x1_drawBolt_L22 Q) Q x2 x3 s) : x1_drawBolt_L22 Q x2 x3 s := fun X22 k22 => k22 _ _ _ (x1_drawBolt_m22 (fun _ _ _ h => h X22 k22) (fun _ _ h => h) h)
theorem x1_drawBolt_mono {Q R : Int → Mem → Prop} {p2 : Int} {p3 : Int} {s : Mem} (h : x1_drawBolt p2 p3 s Q) (hQ : ∀ r s, Q r s → R r s) : x1_drawBolt p2 p3 s R := fun X22 k22 => x1_drawBolt_me (fun _ _ _ h => h) hQ (h X22 (fun _ _ _ h => k22 _ _ _ (x1_drawBolt_m22 (fun _ _ _ h => h) hQ h)))
def x1_drawBolt_rm : Room := { frames := 2, cells := 0, slots := 0, locals := 63 }
theorem w_x1_drawBolt_43 : Cond.fieldLink RX1 43 "BoltRing$Joint" "loads" "[I" ∈ wsX1_drawBolt := by decide +kernel
theorem w_x1_drawBolt_12 : Cond.fieldLink RX1 12 "BoltRing$Drawing" "lifts" "LBoltRing$Lifts;" ∈ wsX1_drawBolt := by decide +kernel
theorem w_x1_drawBolt_54 : Cond.fieldLink RX1 54 "BoltRing$Joint" "stiffness" "[I" ∈ wsX1_drawBolt := by decide +kernel
theorem w_x1_drawBolt_57 : Cond.fieldLink RX1 57 "BoltRing$Lifts" "upper" "[J" ∈ wsX1_drawBolt := by decide +kernel
theorem w_x1_drawBolt_61 : Cond.fieldLink RX1 61 "BoltRing$Lifts" "lower" "J" ∈ wsX1_drawBolt := by decide +kernel
theorem w_x1_drawBolt_28 : Cond.fieldLink RX1 28 "BoltRing$Joint" "turns" "[I" ∈ wsX1_drawBolt := by decide +kernel
theorem w_x1_drawBolt_l69 : Cond.methodLink RX1 69 Lib.MathLoose.max_long.x ∈ wsX1_drawBolt := by decide +kernel
theorem w_x1_drawBolt_s69 : Cond.static Lib.MathLoose.max_long.x ∈ wsX1_drawBolt := by decide +kernel
theorem w_x1_drawBolt_im : Cond.initialized "java/lang/Math" ∈ wsX1_drawBolt := by decide +kernel
theorem w_x1_drawBolt_c69 : Cond.code Lib.MathLoose.max_long.x Lib.MathLoose.max_long.code 4 (some .long) ∈ wsX1_drawBolt := by decide +kernel
theorem w_x1_drawBolt_74 : Cond.constantLong RX1 74 (200) ∈ wsX1_drawBolt := by decide +kernel
theorem w_x1_drawBolt_s65 : Cond.static yX7_wholeFrom ∈ wsX1_drawBolt := by decide +kernel
theorem w_x1_drawBolt_iX7 : Cond.initialized RX7 ∈ wsX1_drawBolt := by decide +kernel
theorem in_x1_drawBolt_X1 : ∀ w ∈ wsX10, w ∈ wsX1_drawBolt := by decide +kernel
theorem in_x1_drawBolt_X2 : ∀ w ∈ wsX20, w ∈ wsX1_drawBolt := by decide +kernel
theorem in_x1_drawBolt_X3 : ∀ w ∈ wsX30, w ∈ wsX1_drawBolt := by decide +kernel
set_option maxHeartbeats 4000000 in
set_option maxRecDepth 100000 in
theorem x1_drawBolt_bd {κ : KT} {ad : Nat → Nat} {cA : Nat → ClassId} {D : va_G} {Q : State → Prop} {p2 : Int} {p3 : Int} {s : Mem} (C : CX κ (GA ad cA D) RX1 cX1_drawBolt 10 wsX1_drawBolt x1_drawBolt_rm (some .int)) (h : x1_drawBolt p2 p3 s (RT κ (GA ad cA D) ocI Q)) : WM κ (GA ad cA D) 10 Q s 0 [(0, .ref (ad 13)), (1, .ref (ad 1)), (2, vI p2), (3, vI p3)] [] := by
  obtain ⟨Z22, z22⟩ : ∃ Z : Int → Int → Mem → Prop, ∀ x2 x3 s, Z x2 x3 s ↔ WM κ (GA ad cA D) 10 Q s 22 [(0, .ref (ad 13)), (1, .ref (ad 1)), (2, vI x2), (3, vI x3)] [] := ⟨fun x2 x3 s => WM κ (GA ad cA D) 10 Q s 22 [(0, .ref (ad 13)), (1, .ref (ad 1)), (2, vI x2), (3, vI x3)] [], fun _ _ _ => Iff.rfl⟩
  refine (fun h => ?_) (h Z22 ?_)
  · refine r_aload_n C 1 dX1_drawBolt_0 rfl ?_
    refine r_callV (As := []) (o := 1) (n := 0) C dX1_drawBolt_1 (x2_wholeCount_ct κ.1.2.1 ad cA D s) gX1_drawBolt_X2_wholeCount rfl ⟨rfl, rfl⟩ (by decide +kernel) (by decide) (shA_1) rfl rfl rfl (Nat.le_of_ble_eq_true rfl) (fun _ => rfl) ?_
    refine x2_wholeCount_mono h (fun r2 s1 h => ?_)
    refine r_iconst C dX1_drawBolt_4 ?_
    refine r_icmp_ne (tgt := 22) C dX1_drawBolt_5 (by decide) ⟨h.1, fun c6 => ?_, fun c6 => ?_⟩
    · have h := h.2.1 c6
      exact r_perm [0, 1, 2, 3] rfl ((z22 _ _ _).1 h)
    · have h := h.2.2 c6
      refine r_aload_n C 1 dX1_drawBolt_8 rfl ?_
      refine r_aload_n C 1 dX1_drawBolt_9 rfl ?_
      refine r_get (j := 6) (jz := 6) (v := .ref (ad 5)) C dX1_drawBolt_10 (shA_1) rfl rfl (by decide) in_x1_drawBolt_X2 w_x1_drawBolt_43 rfl rfl rfl ?_
      refine r_callV (As := [.ref (ad 5)]) (o := 1) (n := 1) C dX1_drawBolt_13 (x2_sumOf_ct κ.1.2.1 ad cA D 5 s1) gX1_drawBolt_X2_sumOf rfl ⟨rfl, rfl⟩ (by decide +kernel) (by decide) (shA_1) rfl rfl rfl (Nat.le_of_ble_eq_true rfl) (fun _ => rfl) ?_
      refine x2_sumOf_mono h (fun r4 s3 h => ?_)
      refine r_iload_n C 3 dX1_drawBolt_16 rfl ?_
      refine r_icmp_lt (tgt := 22) C dX1_drawBolt_17 (by decide) ⟨h.1, fun c5 => ?_, fun c5 => ?_⟩
      · have h := h.2.1 c5
        exact r_perm [0, 1, 2, 3] rfl ((z22 _ _ _).1 h)
      · have h := h.2.2 c5
        refine r_iconst C dX1_drawBolt_20 ?_
        exact r_ireturn C dX1_drawBolt_21 h
  · intro x2 x3 s h
    refine (z22 _ _ _).2 ?_
    refine r_aload_n C 0 dX1_drawBolt_22 rfl ?_
    refine r_get (j := 3) (jz := 3) (v := .ref (ad 14)) C dX1_drawBolt_23 (shA_13) rfl rfl (by decide) in_x1_drawBolt_X1 w_x1_drawBolt_12 rfl rfl rfl ?_
    refine r_aload_n C 1 dX1_drawBolt_26 rfl ?_
    refine r_aload_n C 1 dX1_drawBolt_27 rfl ?_
    refine r_get (j := 6) (jz := 6) (v := .ref (ad 5)) C dX1_drawBolt_28 (shA_1) rfl rfl (by decide) in_x1_drawBolt_X2 w_x1_drawBolt_43 rfl rfl rfl ?_
    refine r_iload_n C 2 dX1_drawBolt_31 rfl ?_
    refine r_iload_n C 3 dX1_drawBolt_32 rfl ?_
    refine r_callV (As := [.ref (ad 1), .ref (ad 5), vI x2, vI x3]) (o := 14) (n := 4) C dX1_drawBolt_33 (x3_settleHolding_ct κ.1.2.1 ad cA D 14 5 x2 x3 s (Or.inr rfl)) gX1_drawBolt_X3_settleHolding rfl ⟨rfl, rfl⟩ (by decide +kernel) (by decide) (shA_14) rfl rfl rfl (Nat.le_of_ble_eq_true rfl) (fun _ => rfl) ?_
    refine x3_settleHolding_mono h (fun _ s7 h => ?_)
    refine r_aload_n C 1 dX1_drawBolt_36 rfl ?_
    refine r_get (j := 3) (jz := 3) (v := .ref (ad 2)) C dX1_drawBolt_37 (shA_1) rfl rfl (by decide) in_x1_drawBolt_X2 w_x1_drawBolt_54 rfl rfl rfl ?_
    refine r_iload_n C 2 dX1_drawBolt_40 rfl ?_
    refine r_iald (nz := 6) C dX1_drawBolt_41 (shA_2) rfl (by decide) ⟨h.1, ?_⟩
    have h := h.2
    refine r_i2l C dX1_drawBolt_42 ⟨h.1, ?_⟩
    have h := h.2
    refine r_lstore (ls' := [(4, vL (s7 2 x2)), (0, .ref (ad 13)), (1, .ref (ad 1)), (2, vI x2), (3, vI x3)]) C dX1_drawBolt_43 (by decide) rfl ?_
    refine r_lload C 0 dX1_drawBolt_45 rfl ?_
    refine r_aload_n C 1 dX1_drawBolt_47 rfl ?_
    refine r_get (j := 3) (jz := 3) (v := .ref (ad 14)) C dX1_drawBolt_48 (shA_13) rfl rfl (by decide) in_x1_drawBolt_X1 w_x1_drawBolt_12 rfl rfl rfl ?_
    refine r_get (j := 0) (jz := 0) (v := .ref (ad 15)) C dX1_drawBolt_51 (shA_14) rfl rfl (by decide) in_x1_drawBolt_X3 w_x1_drawBolt_57 rfl rfl rfl ?_
    refine r_iload_n C 3 dX1_drawBolt_54 rfl ?_
    refine r_lald (nz := 6) C dX1_drawBolt_55 (shA_15) rfl (by decide) ⟨h.1, ?_⟩
    have h := h.2
    refine r_lmul C dX1_drawBolt_56 ?_
    refine r_iload_n C 4 dX1_drawBolt_57 rfl ?_
    refine r_i2l C dX1_drawBolt_58 ⟨h.1, ?_⟩
    have h := h.2
    refine r_aload_n C 1 dX1_drawBolt_59 rfl ?_
    refine r_get (j := 3) (jz := 3) (v := .ref (ad 14)) C dX1_drawBolt_60 (shA_13) rfl rfl (by decide) in_x1_drawBolt_X1 w_x1_drawBolt_12 rfl rfl rfl ?_
    refine r_get (j := 1) (jz := 1) (v := vL (s7 14 (1 : Int))) C dX1_drawBolt_63 (shA_14) rfl rfl (by decide) in_x1_drawBolt_X3 w_x1_drawBolt_61 rfl rfl rfl ?_
    refine r_lmul C dX1_drawBolt_66 ?_
    refine r_ladd C dX1_drawBolt_67 ?_
    refine r_topL (fun v8 e_v8 => ?_)
    have h := h v8 e_v8
    refine r_lstore (ls' := [(6, vL v8), (4, vL (s7 2 x2)), (0, .ref (ad 13)), (1, .ref (ad 1)), (2, vI x2), (3, vI x3)]) C dX1_drawBolt_68 (by decide) rfl ?_
    refine r_lconst (z := 0) C dX1_drawBolt_70 rfl ?_
    refine r_lload C 0 dX1_drawBolt_71 rfl ?_
    refine r_lload C 1 dX1_drawBolt_73 rfl ?_
    refine r_aload_n C 2 dX1_drawBolt_75 rfl ?_
    refine r_get (j := 3) (jz := 3) (v := .ref (ad 14)) C dX1_drawBolt_76 (shA_13) rfl rfl (by decide) in_x1_drawBolt_X1 w_x1_drawBolt_12 rfl rfl rfl ?_
    refine r_get (j := 1) (jz := 1) (v := vL (s7 14 (1 : Int))) C dX1_drawBolt_79 (shA_14) rfl rfl (by decide) in_x1_drawBolt_X3 w_x1_drawBolt_61 rfl rfl rfl ?_
    refine r_lmul C dX1_drawBolt_82 ?_
    refine r_callSN (As := [vL v8, vL ((s7 2 x2) * (s7 14 (1 : Int)))]) (n := 2) C dX1_drawBolt_83 (x7_wholeFrom_ct κ.1.2.1 ad cA D v8 ((s7 2 x2) * (s7 14 (1 : Int))) s7) C.e.1.1 w_x1_drawBolt_s65 w_x1_drawBolt_iX7 gX1_drawBolt_X7_wholeFrom_n65 rfl ⟨rfl, rfl⟩ (by decide +kernel) (by decide) rfl rfl (Nat.le_of_ble_eq_true rfl) (fun _ => rfl) ?_
    refine x7_wholeFrom_mono h (fun r10 s9 h => ?_)
    refine r_aload_n C 3 dX1_drawBolt_86 rfl ?_
    refine r_get (j := 5) (jz := 5) (v := .ref (ad 4)) C dX1_drawBolt_87 (shA_1) rfl rfl (by decide) in_x1_drawBolt_X2 w_x1_drawBolt_28 rfl rfl rfl ?_
    refine r_iload_n C 4 dX1_drawBolt_90 rfl ?_
    refine r_iald (nz := 6) C dX1_drawBolt_91 (shA_4) rfl (by decide) ⟨h.1, ?_⟩
    have h := h.2
    refine r_i2l C dX1_drawBolt_92 ⟨h.1, ?_⟩
    have h := h.2
    refine r_lsub C dX1_drawBolt_93 ?_
    refine r_maxL C dX1_drawBolt_94 w_x1_drawBolt_l69 w_x1_drawBolt_s69 w_x1_drawBolt_im w_x1_drawBolt_c69 (by decide) (Nat.le_of_ble_eq_true rfl) ⟨h.1, ?_⟩
    have h := h.2
    refine r_topL (fun v11 e_v11 => ?_)
    have h := h v11 e_v11
    refine r_lstore (ls' := [(8, vL v11), (6, vL v8), (4, vL (s7 2 x2)), (0, .ref (ad 13)), (1, .ref (ad 1)), (2, vI x2), (3, vI x3)]) C dX1_drawBolt_97 (by decide) rfl ?_
    refine r_aload_n C 4 dX1_drawBolt_99 rfl ?_
    refine r_get (j := 5) (jz := 5) (v := .ref (ad 4)) C dX1_drawBolt_100 (shA_1) rfl rfl (by decide) in_x1_drawBolt_X2 w_x1_drawBolt_28 rfl rfl rfl ?_
    refine r_iload_n C 5 dX1_drawBolt_103 rfl ?_
    refine r_iald (nz := 6) C dX1_drawBolt_104 (shA_4) rfl (by decide) ⟨h.1, ?_⟩
    have h := h.2
    refine r_i2l C dX1_drawBolt_105 ⟨h.1, ?_⟩
    have h := h.2
    refine r_lload C 0 dX1_drawBolt_106 rfl ?_
    refine r_ladd C dX1_drawBolt_108 ?_
    refine r_ldc2 (z := 200) C dX1_drawBolt_109 w_x1_drawBolt_74 rfl ?_
    refine r_lcmp_le (tgt := 118) C dX1_drawBolt_112 dX1_drawBolt_113 (by decide) ⟨h.1, fun c13 => ?_, fun c13 => ?_⟩
    · have h := h.2.1 c13
      refine r_aload_n C 4 dX1_drawBolt_118 rfl ?_
      refine r_get (j := 5) (jz := 5) (v := .ref (ad 4)) C dX1_drawBolt_119 (shA_1) rfl rfl (by decide) in_x1_drawBolt_X2 w_x1_drawBolt_28 rfl rfl rfl ?_
      refine r_iload_n C 5 dX1_drawBolt_122 rfl ?_
      refine r_dup2 C dX1_drawBolt_123 rfl rfl ?_
      refine r_iald (nz := 6) C dX1_drawBolt_124 (shA_4) rfl (by decide) ⟨h.1, ?_⟩
      have h := h.2
      refine r_lload C 0 dX1_drawBolt_125 rfl ?_
      refine r_l2i C dX1_drawBolt_127 ?_
      refine r_iadd C dX1_drawBolt_128 ?_
      refine r_iast (nz := 6) C dX1_drawBolt_129 (shA_4) rfl (by decide) ⟨h.1, fun s12 e_s12 => ?_⟩
      have h := h.2 s12 e_s12
      refine r_lload C 0 dX1_drawBolt_130 rfl ?_
      refine r_l2i C dX1_drawBolt_132 ?_
      exact r_ireturn C dX1_drawBolt_133 h
    · have h := h.2.2 c13
      refine r_iconst C dX1_drawBolt_116 ?_
      exact r_ireturn C dX1_drawBolt_117 h
theorem x1_drawBolt_ct (l : Launch) (ad : Nat → Nat) (cA : Nat → ClassId) (D : va_G) (p2 : Int) (p3 : Int) (s : Mem) : MG l yX1_drawBolt wsX1_drawBolt x1_drawBolt_rm ocI [.ref (ad 13), .ref (ad 1), vI p2, vI p3] (GA ad cA D) s (x1_drawBolt p2 p3 s) :=
  m_met (own := RX1) (nL := 10) (by decide) rfl rfl (Nat.le_of_ble_eq_true rfl) rfl rfl rfl (fun κ hl C Q Pst hW hQ => x1_drawBolt_bd C (x1_drawBolt_mono hW hQ))

def x1_goRound_be (X6 : Nat → Int → Int → Int → Mem → Prop) (Q : Int → Mem → Prop) (p2 : Nat) (p3 : Int) (s : Mem) : Prop :=
  X6 p2 p3 (0 : Int) (0 : Int) s
def x1_goRound_b6 (X6 : Nat → Int → Int → Int → Mem → Prop) (Q : Int → Mem → Prop) (x2 : Nat) (x3 : Int) (x4 : Int) (x5 : Int) (s : Mem) : Prop :=
  (InI x5 ∧ InI (s 1 (0 : Int))) ∧ ((s 1 (0 : Int)) ≤ x5 → Q x4 s) ∧ (x5 < (s 1 (0 : Int)) → (shA[x2]? = some (.inr (0, 6))) ∧ ((0 : Int) ≤ x5 ∧ x5 < 6) ∧ x2_isBroken (s x2 x5) s (fun r2 s1 => InI r2 ∧ (r2 = (0 : Int) → x1_drawBolt (s x2 x5) x3 s1 (fun r4 s3 => (InI r4 ∧ InI (-1 : Int)) ∧ (¬ r4 = (-1 : Int) → X6 x2 x3 (x4 + r4) (x5 + (1 : Int)) s3) ∧ (r4 = (-1 : Int) → Q (-1 : Int) s3))) ∧ (¬ r2 = (0 : Int) → X6 x2 x3 x4 (x5 + (1 : Int)) s1)))
theorem x1_goRound_me {X6 Y6 : Nat → Int → Int → Int → Mem → Prop} {Q R : Int → Mem → Prop} (hX6 : ∀ x2 x3 x4 x5 s, X6 x2 x3 x4 x5 s → Y6 x2 x3 x4 x5 s) (hQ : ∀ r s, Q r s → R r s) {p2 : Nat} {p3 : Int} {s : Mem} (h : x1_goRound_be X6 Q p2 p3 s) : x1_goRound_be Y6 R p2 p3 s :=
  hX6 _ _ _ _ _ h
theorem x1_goRound_m6 {X6 Y6 : Nat → Int → Int → Int → Mem → Prop} {Q R : Int → Mem → Prop} (hX6 : ∀ x2 x3 x4 x5 s, X6 x2 x3 x4 x5 s → Y6 x2 x3 x4 x5 s) (hQ : ∀ r s, Q r s → R r s) {x2 : Nat} {x3 : Int} {x4 : Int} {x5 : Int} {s : Mem} (h : x1_goRound_b6 X6 Q x2 x3 x4 x5 s) : x1_goRound_b6 Y6 R x2 x3 x4 x5 s :=
  ⟨h.1, fun c => have h := h.2.1 c; hQ _ _ h, fun c => have h := h.2.2 c; ⟨h.1, have h := h.2; ⟨h.1, have h := h.2; x2_isBroken_mono h (fun r2 s1 h => ⟨h.1, fun c => have h := h.2.1 c; x1_drawBolt_mono h (fun r4 s3 h => ⟨h.1, fun c => have h := h.2.1 c; hX6 _ _ _ _ _ h, fun c => have h := h.2.2 c; hQ _ _ h⟩), fun c => have h := h.2.2 c; hX6 _ _ _ _ _ h⟩)⟩⟩⟩
def x1_goRound (p2 : Nat) (p3 : Int) (s : Mem) (Q : Int → Mem → Prop) : Prop := ∀ (X6 : Nat → Int → Int → Int → Mem → Prop), (∀ x2 x3 x4 x5 s, x1_goRound_b6 X6 Q x2 x3 x4 x5 s → X6 x2 x3 x4 x5 s) → x1_goRound_be X6 Q p2 p3 s
def x1_goRound_L6 (Q : Int → Mem → Prop) (x2 : Nat) (x3 : Int) (x4 : Int) (x5 : Int) (s : Mem) : Prop := ∀ (X6 : Nat → Int → Int → Int → Mem → Prop), (∀ x2 x3 x4 x5 s, x1_goRound_b6 X6 Q x2 x3 x4 x5 s → X6 x2 x3 x4 x5 s) → X6 x2 x3 x4 x5 s
theorem x1_goRound_i {Q : Int → Mem → Prop} {p2 : Nat} {p3 : Int} {s : Mem} (h : x1_goRound_be (x1_goRound_L6 Q) Q p2 p3 s) : x1_goRound p2 p3 s Q := fun X6 k6 => x1_goRound_me (fun _ _ _ _ _ h => h X6 k6) (fun _ _ h => h) h
theorem x1_goRound_s6 {Q : Int → Mem → Prop} {x2 : Nat} {x3 : Int} {x4 : Int} {x5 : Int} {s : Mem} (h : x1_goRound_b6 (x1_goRound_L6 Q) Q x2 x3 x4 x5 s) : x1_goRound_L6 Q x2 x3 x4 x5 s := fun X6 k6 => k6 _ _ _ _ _ (x1_goRound_m6 (fun _ _ _ _ _ h => h X6 k6) (fun _ _ h => h) h)
theorem x1_goRound_mono {Q R : Int → Mem → Prop} {p2 : Nat} {p3 : Int} {s : Mem} (h : x1_goRound p2 p3 s Q) (hQ : ∀ r s, Q r s → R r s) : x1_goRound p2 p3 s R := fun X6 k6 => x1_goRound_me (fun _ _ _ _ _ h => h) hQ (h X6 (fun _ _ _ _ _ h => k6 _ _ _ _ _ (x1_goRound_m6 (fun _ _ _ _ _ h => h) hQ h)))
def x1_goRound_rm : Room := { frames := 3, cells := 0, slots := 0, locals := 92 }
theorem w_x1_goRound_76 : Cond.fieldLink RX1 76 "BoltRing$Joint" "bolts" "I" ∈ wsX1_goRound := by decide +kernel
theorem in_x1_goRound_X2 : ∀ w ∈ wsX20, w ∈ wsX1_goRound := by decide +kernel
set_option maxHeartbeats 4000000 in
set_option maxRecDepth 100000 in
theorem x1_goRound_bd {κ : KT} {ad : Nat → Nat} {cA : Nat → ClassId} {D : va_G} {Q : State → Prop} {p2 : Nat} {p3 : Int} {s : Mem} (C : CX κ (GA ad cA D) RX1 cX1_goRound 8 wsX1_goRound x1_goRound_rm (some .int)) (h : x1_goRound p2 p3 s (RT κ (GA ad cA D) ocI Q)) : WM κ (GA ad cA D) 8 Q s 0 [(0, .ref (ad 13)), (1, .ref (ad 1)), (2, .ref (ad p2)), (3, vI p3)] [] := by
  obtain ⟨Z6, z6⟩ : ∃ Z : Nat → Int → Int → Int → Mem → Prop, ∀ x2 x3 x4 x5 s, Z x2 x3 x4 x5 s ↔ WM κ (GA ad cA D) 8 Q s 6 [(0, .ref (ad 13)), (1, .ref (ad 1)), (2, .ref (ad x2)), (3, vI x3), (4, vI x4), (5, vI x5)] [] := ⟨fun x2 x3 x4 x5 s => WM κ (GA ad cA D) 8 Q s 6 [(0, .ref (ad 13)), (1, .ref (ad 1)), (2, .ref (ad x2)), (3, vI x3), (4, vI x4), (5, vI x5)] [], fun _ _ _ _ _ => Iff.rfl⟩
  refine (fun h => ?_) (h Z6 ?_)
  · refine r_iconst C dX1_goRound_0 ?_
    refine r_istore (ls' := [(4, vI (0 : Int)), (0, .ref (ad 13)), (1, .ref (ad 1)), (2, .ref (ad p2)), (3, vI p3)]) C dX1_goRound_1 (by decide) rfl ?_
    refine r_iconst C dX1_goRound_3 ?_
    refine r_istore (ls' := [(5, vI (0 : Int)), (4, vI (0 : Int)), (0, .ref (ad 13)), (1, .ref (ad 1)), (2, .ref (ad p2)), (3, vI p3)]) C dX1_goRound_4 (by decide) rfl ?_
    exact r_perm [2, 3, 4, 5, 1, 0] rfl ((z6 _ _ _ _ _).1 h)
  · intro x2 x3 x4 x5 s h
    refine (z6 _ _ _ _ _).2 ?_
    refine r_iload C 5 dX1_goRound_6 rfl ?_
    refine r_aload_n C 1 dX1_goRound_8 rfl ?_
    refine r_get (j := 0) (jz := 0) (v := vI (s 1 (0 : Int))) C dX1_goRound_9 (shA_1) rfl rfl (by decide) in_x1_goRound_X2 w_x1_goRound_76 rfl rfl rfl ?_
    refine r_icmp_ge (tgt := 64) C dX1_goRound_12 (by decide) ⟨h.1, fun c7 => ?_, fun c7 => ?_⟩
    · have h := h.2.1 c7
      refine r_iload C 4 dX1_goRound_64 rfl ?_
      exact r_ireturn C dX1_goRound_66 h
    · have h := h.2.2 c7
      refine r_aload_n C 2 dX1_goRound_15 rfl ?_
      refine r_iload C 5 dX1_goRound_16 rfl ?_
      have hg := h.1
      have h := h.2
      refine r_iald (nz := 6) C dX1_goRound_18 (hg) rfl (by decide) ⟨h.1, ?_⟩
      have h := h.2
      refine r_istore (ls' := [(6, vI (s x2 x5)), (0, .ref (ad 13)), (1, .ref (ad 1)), (2, .ref (ad x2)), (3, vI x3), (4, vI x4), (5, vI x5)]) C dX1_goRound_19 (by decide) rfl ?_
      refine r_aload_n C 2 dX1_goRound_21 rfl ?_
      refine r_iload C 0 dX1_goRound_22 rfl ?_
      refine r_callV (As := [vI (s x2 x5)]) (o := 1) (n := 1) C dX1_goRound_24 (x2_isBroken_ct κ.1.2.1 ad cA D (s x2 x5) s) gX1_goRound_X2_isBroken rfl ⟨rfl, rfl⟩ (by decide +kernel) (by decide) (shA_1) rfl rfl rfl (Nat.le_of_ble_eq_true rfl) (fun _ => rfl) ?_
      refine x2_isBroken_mono h (fun r2 s1 h => ?_)
      refine r_if_eq (tgt := 33) C dX1_goRound_27 (by decide) ⟨h.1, fun c6 => ?_, fun c6 => ?_⟩
      · have h := h.2.1 c6
        refine r_aload_n C 1 dX1_goRound_33 rfl ?_
        refine r_aload_n C 2 dX1_goRound_34 rfl ?_
        refine r_iload C 0 dX1_goRound_35 rfl ?_
        refine r_iload_n C 4 dX1_goRound_37 rfl ?_
        refine r_callV (As := [.ref (ad 1), vI (s x2 x5), vI x3]) (o := 13) (n := 3) C dX1_goRound_38 (x1_drawBolt_ct κ.1.2.1 ad cA D (s x2 x5) x3 s1) gX1_goRound_X1_drawBolt rfl ⟨rfl, rfl⟩ (by decide +kernel) (by decide) (shA_13) rfl rfl rfl (Nat.le_of_ble_eq_true rfl) (fun _ => rfl) ?_
        refine x1_drawBolt_mono h (fun r4 s3 h => ?_)
        refine r_istore (ls' := [(7, vI r4), (6, vI (s x2 x5)), (0, .ref (ad 13)), (1, .ref (ad 1)), (2, .ref (ad x2)), (3, vI x3), (4, vI x4), (5, vI x5)]) C dX1_goRound_41 (by decide) rfl ?_
        refine r_iload C 0 dX1_goRound_43 rfl ?_
        refine r_iconst C dX1_goRound_45 ?_
        refine r_icmp_ne (tgt := 51) C dX1_goRound_46 (by decide) ⟨h.1, fun c5 => ?_, fun c5 => ?_⟩
        · have h := h.2.1 c5
          refine r_iload C 6 dX1_goRound_51 rfl ?_
          refine r_iload C 0 dX1_goRound_53 rfl ?_
          refine r_iadd C dX1_goRound_55 ?_
          refine r_istore (ls' := [(4, vI (x4 + r4)), (7, vI r4), (6, vI (s x2 x5)), (0, .ref (ad 13)), (1, .ref (ad 1)), (2, .ref (ad x2)), (3, vI x3), (5, vI x5)]) C dX1_goRound_56 (by decide) rfl ?_
          refine r_iinc (j := 7) (ls' := [(5, vI (x5 + (1 : Int))), (4, vI (x4 + r4)), (7, vI r4), (6, vI (s x2 x5)), (0, .ref (ad 13)), (1, .ref (ad 1)), (2, .ref (ad x2)), (3, vI x3)]) C dX1_goRound_58 rfl (by decide) rfl ?_
          refine r_goto (tgt := 6) C dX1_goRound_61 (by decide) ?_
          exact r_perm [4, 5, 6, 7, 1, 0] rfl ((z6 _ _ _ _ _).1 h)
        · have h := h.2.2 c5
          refine r_iconst C dX1_goRound_49 ?_
          exact r_ireturn C dX1_goRound_50 h
      · have h := h.2.2 c6
        refine r_goto (tgt := 58) C dX1_goRound_30 (by decide) ?_
        refine r_iinc (j := 6) (ls' := [(5, vI (x5 + (1 : Int))), (6, vI (s x2 x5)), (0, .ref (ad 13)), (1, .ref (ad 1)), (2, .ref (ad x2)), (3, vI x3), (4, vI x4)]) C dX1_goRound_58 rfl (by decide) rfl ?_
        refine r_goto (tgt := 6) C dX1_goRound_61 (by decide) ?_
        exact r_perm [2, 3, 4, 5, 6, 0] rfl ((z6 _ _ _ _ _).1 h)
theorem x1_goRound_ct (l : Launch) (ad : Nat → Nat) (cA : Nat → ClassId) (D : va_G) (p2 : Nat) (p3 : Int) (s : Mem) : MG l yX1_goRound wsX1_goRound x1_goRound_rm ocI [.ref (ad 13), .ref (ad 1), .ref (ad p2), vI p3] (GA ad cA D) s (x1_goRound p2 p3 s) :=
  m_met (own := RX1) (nL := 8) (by decide) rfl rfl (Nat.le_of_ble_eq_true rfl) rfl rfl rfl (fun κ hl C Q Pst hW hQ => x1_goRound_bd C (x1_goRound_mono hW hQ))

def x1_goRounds_be (X3 : Nat → Int → Int → Int → Mem → Prop) (Q : Int → Mem → Prop) (p2 : Nat) (p3 : Int) (p4 : Int) (s : Mem) : Prop :=
  X3 p2 p3 p4 (0 : Int) s
def x1_goRounds_b3 (X3 : Nat → Int → Int → Int → Mem → Prop) (Q : Int → Mem → Prop) (x2 : Nat) (x3 : Int) (x4 : Int) (x5 : Int) (s : Mem) : Prop :=
  (InI x5 ∧ InI x4) ∧ (x4 ≤ x5 → x1_allHold x3 s (fun r2 s1 => InI r2 ∧ (r2 = (0 : Int) → Q (-1 : Int) s1) ∧ (¬ r2 = (0 : Int) → Q x4 s1))) ∧ (x5 < x4 → x1_allHold x3 s (fun r5 s4 => InI r5 ∧ (r5 = (0 : Int) → x1_goRound x2 x3 s4 (fun r7 s6 => (InI r7 ∧ InI (-1 : Int)) ∧ (¬ r7 = (-1 : Int) → X3 x2 x3 x4 (x5 + (1 : Int)) s6) ∧ (r7 = (-1 : Int) → Q (-1 : Int) s6))) ∧ (¬ r5 = (0 : Int) → Q x5 s4)))
theorem x1_goRounds_me {X3 Y3 : Nat → Int → Int → Int → Mem → Prop} {Q R : Int → Mem → Prop} (hX3 : ∀ x2 x3 x4 x5 s, X3 x2 x3 x4 x5 s → Y3 x2 x3 x4 x5 s) (hQ : ∀ r s, Q r s → R r s) {p2 : Nat} {p3 : Int} {p4 : Int} {s : Mem} (h : x1_goRounds_be X3 Q p2 p3 p4 s) : x1_goRounds_be Y3 R p2 p3 p4 s :=
  hX3 _ _ _ _ _ h
theorem x1_goRounds_m3 {X3 Y3 : Nat → Int → Int → Int → Mem → Prop} {Q R : Int → Mem → Prop} (hX3 : ∀ x2 x3 x4 x5 s, X3 x2 x3 x4 x5 s → Y3 x2 x3 x4 x5 s) (hQ : ∀ r s, Q r s → R r s) {x2 : Nat} {x3 : Int} {x4 : Int} {x5 : Int} {s : Mem} (h : x1_goRounds_b3 X3 Q x2 x3 x4 x5 s) : x1_goRounds_b3 Y3 R x2 x3 x4 x5 s :=
  ⟨h.1, fun c => have h := h.2.1 c; x1_allHold_mono h (fun r2 s1 h => ⟨h.1, fun c => have h := h.2.1 c; hQ _ _ h, fun c => have h := h.2.2 c; hQ _ _ h⟩), fun c => have h := h.2.2 c; x1_allHold_mono h (fun r5 s4 h => ⟨h.1, fun c => have h := h.2.1 c; x1_goRound_mono h (fun r7 s6 h => ⟨h.1, fun c => have h := h.2.1 c; hX3 _ _ _ _ _ h, fun c => have h := h.2.2 c; hQ _ _ h⟩), fun c => have h := h.2.2 c; hQ _ _ h⟩)⟩
def x1_goRounds (p2 : Nat) (p3 : Int) (p4 : Int) (s : Mem) (Q : Int → Mem → Prop) : Prop := ∀ (X3 : Nat → Int → Int → Int → Mem → Prop), (∀ x2 x3 x4 x5 s, x1_goRounds_b3 X3 Q x2 x3 x4 x5 s → X3 x2 x3 x4 x5 s) → x1_goRounds_be X3 Q p2 p3 p4 s
def x1_goRounds_L3 (Q : Int → Mem → Prop) (x2 : Nat) (x3 : Int) (x4 : Int) (x5 : Int) (s : Mem) : Prop := ∀ (X3 : Nat → Int → Int → Int → Mem → Prop), (∀ x2 x3 x4 x5 s, x1_goRounds_b3 X3 Q x2 x3 x4 x5 s → X3 x2 x3 x4 x5 s) → X3 x2 x3 x4 x5 s
theorem x1_goRounds_i {Q : Int → Mem → Prop} {p2 : Nat} {p3 : Int} {p4 : Int} {s : Mem} (h : x1_goRounds_be (x1_goRounds_L3 Q) Q p2 p3 p4 s) : x1_goRounds p2 p3 p4 s Q := fun X3 k3 => x1_goRounds_me (fun _ _ _ _ _ h => h X3 k3) (fun _ _ h => h) h
theorem x1_goRounds_s3 {Q : Int → Mem → Prop} {x2 : Nat} {x3 : Int} {x4 : Int} {x5 : Int} {s : Mem} (h : x1_goRounds_b3 (x1_goRounds_L3 Q) Q x2 x3 x4 x5 s) : x1_goRounds_L3 Q x2 x3 x4 x5 s := fun X3 k3 => k3 _ _ _ _ _ (x1_goRounds_m3 (fun _ _ _ _ _ h => h X3 k3) (fun _ _ h => h) h)
theorem x1_goRounds_mono {Q R : Int → Mem → Prop} {p2 : Nat} {p3 : Int} {p4 : Int} {s : Mem} (h : x1_goRounds p2 p3 p4 s Q) (hQ : ∀ r s, Q r s → R r s) : x1_goRounds p2 p3 p4 s R := fun X3 k3 => x1_goRounds_me (fun _ _ _ _ _ h => h) hQ (h X3 (fun _ _ _ _ _ h => k3 _ _ _ _ _ (x1_goRounds_m3 (fun _ _ _ _ _ h => h) hQ h)))
def x1_goRounds_rm : Room := { frames := 4, cells := 0, slots := 0, locals := 119 }
set_option maxHeartbeats 4000000 in
set_option maxRecDepth 100000 in
theorem x1_goRounds_bd {κ : KT} {ad : Nat → Nat} {cA : Nat → ClassId} {D : va_G} {Q : State → Prop} {p2 : Nat} {p3 : Int} {p4 : Int} {s : Mem} (C : CX κ (GA ad cA D) RX1 cX1_goRounds 6 wsX1_goRounds x1_goRounds_rm (some .int)) (h : x1_goRounds p2 p3 p4 s (RT κ (GA ad cA D) ocI Q)) : WM κ (GA ad cA D) 6 Q s 0 [(0, .ref (ad 13)), (1, .ref (ad 1)), (2, .ref (ad p2)), (3, vI p3), (4, vI p4)] [] := by
  obtain ⟨Z3, z3⟩ : ∃ Z : Nat → Int → Int → Int → Mem → Prop, ∀ x2 x3 x4 x5 s, Z x2 x3 x4 x5 s ↔ WM κ (GA ad cA D) 6 Q s 3 [(0, .ref (ad 13)), (1, .ref (ad 1)), (2, .ref (ad x2)), (3, vI x3), (4, vI x4), (5, vI x5)] [] := ⟨fun x2 x3 x4 x5 s => WM κ (GA ad cA D) 6 Q s 3 [(0, .ref (ad 13)), (1, .ref (ad 1)), (2, .ref (ad x2)), (3, vI x3), (4, vI x4), (5, vI x5)] [], fun _ _ _ _ _ => Iff.rfl⟩
  refine (fun h => ?_) (h Z3 ?_)
  · refine r_iconst C dX1_goRounds_0 ?_
    refine r_istore (ls' := [(5, vI (0 : Int)), (0, .ref (ad 13)), (1, .ref (ad 1)), (2, .ref (ad p2)), (3, vI p3), (4, vI p4)]) C dX1_goRounds_1 (by decide) rfl ?_
    exact r_perm [1, 2, 3, 4, 5, 0] rfl ((z3 _ _ _ _ _).1 h)
  · intro x2 x3 x4 x5 s h
    refine (z3 _ _ _ _ _).2 ?_
    refine r_iload C 5 dX1_goRounds_3 rfl ?_
    refine r_iload C 4 dX1_goRounds_5 rfl ?_
    refine r_icmp_ge (tgt := 41) C dX1_goRounds_7 (by decide) ⟨h.1, fun c10 => ?_, fun c10 => ?_⟩
    · have h := h.2.1 c10
      refine r_aload_n C 0 dX1_goRounds_41 rfl ?_
      refine r_aload_n C 1 dX1_goRounds_42 rfl ?_
      refine r_iload_n C 3 dX1_goRounds_43 rfl ?_
      refine r_callV (As := [.ref (ad 1), vI x3]) (o := 13) (n := 2) C dX1_goRounds_44 (x1_allHold_ct κ.1.2.1 ad cA D x3 s) gX1_goRounds_X1_allHold rfl ⟨rfl, rfl⟩ (by decide +kernel) (by decide) (shA_13) rfl rfl rfl (Nat.le_of_ble_eq_true rfl) (fun _ => rfl) ?_
      refine x1_allHold_mono h (fun r2 s1 h => ?_)
      refine r_if_eq (tgt := 55) C dX1_goRounds_47 (by decide) ⟨h.1, fun c3 => ?_, fun c3 => ?_⟩
      · have h := h.2.1 c3
        refine r_iconst C dX1_goRounds_55 ?_
        exact r_ireturn C dX1_goRounds_56 h
      · have h := h.2.2 c3
        refine r_iload C 4 dX1_goRounds_50 rfl ?_
        refine r_goto (tgt := 56) C dX1_goRounds_52 (by decide) ?_
        exact r_ireturn C dX1_goRounds_56 h
    · have h := h.2.2 c10
      refine r_aload_n C 0 dX1_goRounds_10 rfl ?_
      refine r_aload_n C 1 dX1_goRounds_11 rfl ?_
      refine r_iload_n C 3 dX1_goRounds_12 rfl ?_
      refine r_callV (As := [.ref (ad 1), vI x3]) (o := 13) (n := 2) C dX1_goRounds_13 (x1_allHold_ct κ.1.2.1 ad cA D x3 s) gX1_goRounds_X1_allHold rfl ⟨rfl, rfl⟩ (by decide +kernel) (by decide) (shA_13) rfl rfl rfl (Nat.le_of_ble_eq_true rfl) (fun _ => rfl) ?_
      refine x1_allHold_mono h (fun r5 s4 h => ?_)
      refine r_if_eq (tgt := 22) C dX1_goRounds_16 (by decide) ⟨h.1, fun c9 => ?_, fun c9 => ?_⟩
      · have h := h.2.1 c9
        refine r_aload_n C 0 dX1_goRounds_22 rfl ?_
        refine r_aload_n C 1 dX1_goRounds_23 rfl ?_
        refine r_aload_n C 2 dX1_goRounds_24 rfl ?_
        refine r_iload_n C 3 dX1_goRounds_25 rfl ?_
        refine r_callV (As := [.ref (ad 1), .ref (ad x2), vI x3]) (o := 13) (n := 3) C dX1_goRounds_26 (x1_goRound_ct κ.1.2.1 ad cA D x2 x3 s4) gX1_goRounds_X1_goRound rfl ⟨rfl, rfl⟩ (by decide +kernel) (by decide) (shA_13) rfl rfl rfl (Nat.le_of_ble_eq_true rfl) (fun _ => rfl) ?_
        refine x1_goRound_mono h (fun r7 s6 h => ?_)
        refine r_iconst C dX1_goRounds_29 ?_
        refine r_icmp_ne (tgt := 35) C dX1_goRounds_30 (by decide) ⟨h.1, fun c8 => ?_, fun c8 => ?_⟩
        · have h := h.2.1 c8
          refine r_iinc (j := 5) (ls' := [(5, vI (x5 + (1 : Int))), (0, .ref (ad 13)), (1, .ref (ad 1)), (2, .ref (ad x2)), (3, vI x3), (4, vI x4)]) C dX1_goRounds_35 rfl (by decide) rfl ?_
          refine r_goto (tgt := 3) C dX1_goRounds_38 (by decide) ?_
          exact r_perm [1, 2, 3, 4, 5, 0] rfl ((z3 _ _ _ _ _).1 h)
        · have h := h.2.2 c8
          refine r_iconst C dX1_goRounds_33 ?_
          exact r_ireturn C dX1_goRounds_34 h
      · have h := h.2.2 c9
        refine r_iload C 5 dX1_goRounds_19 rfl ?_
        exact r_ireturn C dX1_goRounds_21 h
theorem x1_goRounds_ct (l : Launch) (ad : Nat → Nat) (cA : Nat → ClassId) (D : va_G) (p2 : Nat) (p3 : Int) (p4 : Int) (s : Mem) : MG l yX1_goRounds wsX1_goRounds x1_goRounds_rm ocI [.ref (ad 13), .ref (ad 1), .ref (ad p2), vI p3, vI p4] (GA ad cA D) s (x1_goRounds p2 p3 p4 s) :=
  m_met (own := RX1) (nL := 6) (by decide) rfl rfl (Nat.le_of_ble_eq_true rfl) rfl rfl rfl (fun κ hl C Q Pst hW hQ => x1_goRounds_bd C (x1_goRounds_mono hW hQ))

def x1_putTurnsBack  (s : Mem) (Q : Int → Mem → Prop) : Prop :=
  ((0 ≤ (0 : Int) ∧ 0 ≤ (0 : Int) ∧ 0 ≤ (6 : Int)) ∧ (0 : Int) + (6 : Int) ≤ 6 ∧ (0 : Int) + (6 : Int) ≤ 6) ∧ ∀ s1 : Mem, s1 = m_cpy s 20 4 (0 : Int) (0 : Int) (6 : Int) → Q (0 : Int) s1
theorem x1_putTurnsBack_mono {Q R : Int → Mem → Prop}  {s : Mem} (h : x1_putTurnsBack  s Q) (hQ : ∀ r s, Q r s → R r s) : x1_putTurnsBack  s R :=
  ⟨h.1, have h := h.2; fun s1 e_s1 => have h := h s1 e_s1; hQ _ _ h⟩
def x1_putTurnsBack_rm : Room := { frames := 1, cells := 0, slots := 0, locals := 60 }
theorem w_x1_putTurnsBack_18 : Cond.fieldLink RX1 18 "BoltRing$Drawing" "kept" "[I" ∈ wsX1_putTurnsBack := by decide +kernel
theorem w_x1_putTurnsBack_28 : Cond.fieldLink RX1 28 "BoltRing$Joint" "turns" "[I" ∈ wsX1_putTurnsBack := by decide +kernel
theorem w_x1_putTurnsBack_l33 : Cond.methodLink RX1 33 arraycopyName ∈ wsX1_putTurnsBack := by decide +kernel
theorem w_x1_putTurnsBack_ac1 : Cond.native arraycopyName ∈ wsX1_putTurnsBack := by decide +kernel
theorem w_x1_putTurnsBack_ac2 : Cond.static arraycopyName ∈ wsX1_putTurnsBack := by decide +kernel
theorem w_x1_putTurnsBack_ac3 : Cond.initialized "java/lang/System" ∈ wsX1_putTurnsBack := by decide +kernel
theorem in_x1_putTurnsBack_X1 : ∀ w ∈ wsX10, w ∈ wsX1_putTurnsBack := by decide +kernel
theorem in_x1_putTurnsBack_X2 : ∀ w ∈ wsX20, w ∈ wsX1_putTurnsBack := by decide +kernel
set_option maxHeartbeats 4000000 in
set_option maxRecDepth 100000 in
theorem x1_putTurnsBack_bd {κ : KT} {ad : Nat → Nat} {cA : Nat → ClassId} {D : va_G} {Q : State → Prop}  {s : Mem} (C : CX κ (GA ad cA D) RX1 cX1_putTurnsBack 2 wsX1_putTurnsBack x1_putTurnsBack_rm none) (h : x1_putTurnsBack  s (RT κ (GA ad cA D) ocV Q)) : WM κ (GA ad cA D) 2 Q s 0 [(0, .ref (ad 13)), (1, .ref (ad 1))] [] := by
  refine r_aload_n C 0 dX1_putTurnsBack_0 rfl ?_
  refine r_get (j := 4) (jz := 4) (v := .ref (ad 20)) C dX1_putTurnsBack_1 (shA_13) rfl rfl (by decide) in_x1_putTurnsBack_X1 w_x1_putTurnsBack_18 rfl rfl rfl ?_
  refine r_iconst C dX1_putTurnsBack_4 ?_
  refine r_aload_n C 1 dX1_putTurnsBack_5 rfl ?_
  refine r_get (j := 5) (jz := 5) (v := .ref (ad 4)) C dX1_putTurnsBack_6 (shA_1) rfl rfl (by decide) in_x1_putTurnsBack_X2 w_x1_putTurnsBack_28 rfl rfl rfl ?_
  refine r_iconst C dX1_putTurnsBack_9 ?_
  refine r_bipush C dX1_putTurnsBack_10 (by decide) ?_
  refine r_copyi (n0z := 6) (n1z := 6) C dX1_putTurnsBack_12 w_x1_putTurnsBack_l33 w_x1_putTurnsBack_ac1 w_x1_putTurnsBack_ac2 w_x1_putTurnsBack_ac3 (shA_20) (shA_4) rfl rfl (by decide) (by decide) (by decide) (Nat.le_of_ble_eq_true rfl) ⟨h.1, fun s1 e_s1 => ?_⟩
  have h := h.2 s1 e_s1
  exact r_return C dX1_putTurnsBack_15 h
theorem x1_putTurnsBack_ct (l : Launch) (ad : Nat → Nat) (cA : Nat → ClassId) (D : va_G)  (s : Mem) : MG l yX1_putTurnsBack wsX1_putTurnsBack x1_putTurnsBack_rm ocV [.ref (ad 13), .ref (ad 1)] (GA ad cA D) s (x1_putTurnsBack  s) :=
  m_met (own := RX1) (nL := 2) (by decide) rfl rfl (Nat.le_of_ble_eq_true rfl) rfl rfl rfl (fun κ hl C Q Pst hW hQ => x1_putTurnsBack_bd C (x1_putTurnsBack_mono hW hQ))

def x1_figuresOf_be (X4 : Nat → Int → Int → Int → Mem → Prop) (Q : Int → Mem → Prop) (p0 : Nat) (p1 : Int) (s : Mem) : Prop :=
  X4 p0 p1 (0 : Int) (0 : Int) s
def x1_figuresOf_b4 (X4 : Nat → Int → Int → Int → Mem → Prop) (Q : Int → Mem → Prop) (x0 : Nat) (x1 : Int) (x2 : Int) (x3 : Int) (s : Mem) : Prop :=
  (InI x3 ∧ InI x1) ∧ (x1 ≤ x3 → Q x2 s) ∧ (x3 < x1 → (shA[x0]? = some (.inr (0, 6))) ∧ ((0 : Int) ≤ x3 ∧ x3 < 6) ∧ ∀ v1 : Int, v1 = (((10 : Int) * x2) + (s x0 x3)) → X4 x0 x1 v1 (x3 + (1 : Int)) s)
theorem x1_figuresOf_me {X4 Y4 : Nat → Int → Int → Int → Mem → Prop} {Q R : Int → Mem → Prop} (hX4 : ∀ x0 x1 x2 x3 s, X4 x0 x1 x2 x3 s → Y4 x0 x1 x2 x3 s) (hQ : ∀ r s, Q r s → R r s) {p0 : Nat} {p1 : Int} {s : Mem} (h : x1_figuresOf_be X4 Q p0 p1 s) : x1_figuresOf_be Y4 R p0 p1 s :=
  hX4 _ _ _ _ _ h
theorem x1_figuresOf_m4 {X4 Y4 : Nat → Int → Int → Int → Mem → Prop} {Q R : Int → Mem → Prop} (hX4 : ∀ x0 x1 x2 x3 s, X4 x0 x1 x2 x3 s → Y4 x0 x1 x2 x3 s) (hQ : ∀ r s, Q r s → R r s) {x0 : Nat} {x1 : Int} {x2 : Int} {x3 : Int} {s : Mem} (h : x1_figuresOf_b4 X4 Q x0 x1 x2 x3 s) : x1_figuresOf_b4 Y4 R x0 x1 x2 x3 s :=
  ⟨h.1, fun c => have h := h.2.1 c; hQ _ _ h, fun c => have h := h.2.2 c; ⟨h.1, have h := h.2; ⟨h.1, have h := h.2; fun v1 e_v1 => have h := h v1 e_v1; hX4 _ _ _ _ _ h⟩⟩⟩
def x1_figuresOf (p0 : Nat) (p1 : Int) (s : Mem) (Q : Int → Mem → Prop) : Prop := ∀ (X4 : Nat → Int → Int → Int → Mem → Prop), (∀ x0 x1 x2 x3 s, x1_figuresOf_b4 X4 Q x0 x1 x2 x3 s → X4 x0 x1 x2 x3 s) → x1_figuresOf_be X4 Q p0 p1 s
def x1_figuresOf_L4 (Q : Int → Mem → Prop) (x0 : Nat) (x1 : Int) (x2 : Int) (x3 : Int) (s : Mem) : Prop := ∀ (X4 : Nat → Int → Int → Int → Mem → Prop), (∀ x0 x1 x2 x3 s, x1_figuresOf_b4 X4 Q x0 x1 x2 x3 s → X4 x0 x1 x2 x3 s) → X4 x0 x1 x2 x3 s
theorem x1_figuresOf_i {Q : Int → Mem → Prop} {p0 : Nat} {p1 : Int} {s : Mem} (h : x1_figuresOf_be (x1_figuresOf_L4 Q) Q p0 p1 s) : x1_figuresOf p0 p1 s Q := fun X4 k4 => x1_figuresOf_me (fun _ _ _ _ _ h => h X4 k4) (fun _ _ h => h) h
theorem x1_figuresOf_s4 {Q : Int → Mem → Prop} {x0 : Nat} {x1 : Int} {x2 : Int} {x3 : Int} {s : Mem} (h : x1_figuresOf_b4 (x1_figuresOf_L4 Q) Q x0 x1 x2 x3 s) : x1_figuresOf_L4 Q x0 x1 x2 x3 s := fun X4 k4 => k4 _ _ _ _ _ (x1_figuresOf_m4 (fun _ _ _ _ _ h => h X4 k4) (fun _ _ h => h) h)
theorem x1_figuresOf_mono {Q R : Int → Mem → Prop} {p0 : Nat} {p1 : Int} {s : Mem} (h : x1_figuresOf p0 p1 s Q) (hQ : ∀ r s, Q r s → R r s) : x1_figuresOf p0 p1 s R := fun X4 k4 => x1_figuresOf_me (fun _ _ _ _ _ h => h) hQ (h X4 (fun _ _ _ _ _ h => k4 _ _ _ _ _ (x1_figuresOf_m4 (fun _ _ _ _ _ h => h) hQ h)))
def x1_figuresOf_rm : Room := { frames := 0, cells := 0, slots := 0, locals := 0 }
set_option maxHeartbeats 4000000 in
set_option maxRecDepth 100000 in
theorem x1_figuresOf_bd {κ : KT} {ad : Nat → Nat} {cA : Nat → ClassId} {D : va_G} {Q : State → Prop} {p0 : Nat} {p1 : Int} {s : Mem} (C : CX κ (GA ad cA D) RX1 cX1_figuresOf 4 wsX1_figuresOf x1_figuresOf_rm (some .int)) (h : x1_figuresOf p0 p1 s (RT κ (GA ad cA D) ocI Q)) : WM κ (GA ad cA D) 4 Q s 0 [(0, .ref (ad p0)), (1, vI p1)] [] := by
  obtain ⟨Z4, z4⟩ : ∃ Z : Nat → Int → Int → Int → Mem → Prop, ∀ x0 x1 x2 x3 s, Z x0 x1 x2 x3 s ↔ WM κ (GA ad cA D) 4 Q s 4 [(0, .ref (ad x0)), (1, vI x1), (2, vI x2), (3, vI x3)] [] := ⟨fun x0 x1 x2 x3 s => WM κ (GA ad cA D) 4 Q s 4 [(0, .ref (ad x0)), (1, vI x1), (2, vI x2), (3, vI x3)] [], fun _ _ _ _ _ => Iff.rfl⟩
  refine (fun h => ?_) (h Z4 ?_)
  · refine r_iconst C dX1_figuresOf_0 ?_
    refine r_istore_n (ls' := [(2, vI (0 : Int)), (0, .ref (ad p0)), (1, vI p1)]) C dX1_figuresOf_1 rfl (by decide) rfl ?_
    refine r_iconst C dX1_figuresOf_2 ?_
    refine r_istore_n (ls' := [(3, vI (0 : Int)), (2, vI (0 : Int)), (0, .ref (ad p0)), (1, vI p1)]) C dX1_figuresOf_3 rfl (by decide) rfl ?_
    exact r_perm [2, 3, 1, 0] rfl ((z4 _ _ _ _ _).1 h)
  · intro x0 x1 x2 x3 s h
    refine (z4 _ _ _ _ _).2 ?_
    refine r_iload_n C 3 dX1_figuresOf_4 rfl ?_
    refine r_iload_n C 1 dX1_figuresOf_5 rfl ?_
    refine r_icmp_ge (tgt := 24) C dX1_figuresOf_6 (by decide) ⟨h.1, fun c2 => ?_, fun c2 => ?_⟩
    · have h := h.2.1 c2
      refine r_iload_n C 2 dX1_figuresOf_24 rfl ?_
      exact r_ireturn C dX1_figuresOf_25 h
    · have h := h.2.2 c2
      refine r_bipush C dX1_figuresOf_9 (by decide) ?_
      refine r_iload_n C 2 dX1_figuresOf_11 rfl ?_
      refine r_imul C dX1_figuresOf_12 ?_
      refine r_aload_n C 0 dX1_figuresOf_13 rfl ?_
      refine r_iload_n C 3 dX1_figuresOf_14 rfl ?_
      have hg := h.1
      have h := h.2
      refine r_iald (nz := 6) C dX1_figuresOf_15 (hg) rfl (by decide) ⟨h.1, ?_⟩
      have h := h.2
      refine r_iadd C dX1_figuresOf_16 ?_
      refine r_topI (fun v1 e_v1 => ?_)
      have h := h v1 e_v1
      refine r_istore_n (ls' := [(2, vI v1), (0, .ref (ad x0)), (1, vI x1), (3, vI x3)]) C dX1_figuresOf_17 rfl (by decide) rfl ?_
      refine r_iinc (j := 3) (ls' := [(3, vI (x3 + (1 : Int))), (2, vI v1), (0, .ref (ad x0)), (1, vI x1)]) C dX1_figuresOf_18 rfl (by decide) rfl ?_
      refine r_goto (tgt := 4) C dX1_figuresOf_21 (by decide) ?_
      exact r_perm [2, 3, 1, 0] rfl ((z4 _ _ _ _ _).1 h)
theorem x1_figuresOf_ct (l : Launch) (ad : Nat → Nat) (cA : Nat → ClassId) (D : va_G) (p0 : Nat) (p1 : Int) (s : Mem) : MG l yX1_figuresOf wsX1_figuresOf x1_figuresOf_rm ocI [.ref (ad p0), vI p1] (GA ad cA D) s (x1_figuresOf p0 p1 s) :=
  m_met (own := RX1) (nL := 4) (by decide) rfl rfl (Nat.le_of_ble_eq_true rfl) rfl rfl rfl (fun κ hl C Q Pst hW hQ => x1_figuresOf_bd C (x1_figuresOf_mono hW hQ))

def x1_swap (p0 : Nat) (p1 : Int) (p2 : Int) (s : Mem) (Q : Int → Mem → Prop) : Prop :=
  (shA[p0]? = some (.inr (0, 6))) ∧ ((0 : Int) ≤ p1 ∧ p1 < 6) ∧ (shA[p0]? = some (.inr (0, 6))) ∧ ((0 : Int) ≤ p2 ∧ p2 < 6) ∧ (shA[p0]? = some (.inr (0, 6))) ∧ ((0 : Int) ≤ p1 ∧ p1 < 6) ∧ ∀ s1 : Mem, s1 = m_upd s p0 p1 (s p0 p2) → (shA[p0]? = some (.inr (0, 6))) ∧ ((0 : Int) ≤ p2 ∧ p2 < 6) ∧ ∀ s2 : Mem, s2 = m_upd s1 p0 p2 (s p0 p1) → Q (0 : Int) s2
theorem x1_swap_mono {Q R : Int → Mem → Prop} {p0 : Nat} {p1 : Int} {p2 : Int} {s : Mem} (h : x1_swap p0 p1 p2 s Q) (hQ : ∀ r s, Q r s → R r s) : x1_swap p0 p1 p2 s R :=
  ⟨h.1, have h := h.2; ⟨h.1, have h := h.2; ⟨h.1, have h := h.2; ⟨h.1, have h := h.2; ⟨h.1, have h := h.2; ⟨h.1, have h := h.2; fun s1 e_s1 => have h := h s1 e_s1; ⟨h.1, have h := h.2; ⟨h.1, have h := h.2; fun s2 e_s2 => have h := h s2 e_s2; hQ _ _ h⟩⟩⟩⟩⟩⟩⟩⟩
def x1_swap_rm : Room := { frames := 0, cells := 0, slots := 0, locals := 0 }
set_option maxHeartbeats 4000000 in
set_option maxRecDepth 100000 in
theorem x1_swap_bd {κ : KT} {ad : Nat → Nat} {cA : Nat → ClassId} {D : va_G} {Q : State → Prop} {p0 : Nat} {p1 : Int} {p2 : Int} {s : Mem} (C : CX κ (GA ad cA D) RX1 cX1_swap 4 wsX1_swap x1_swap_rm none) (h : x1_swap p0 p1 p2 s (RT κ (GA ad cA D) ocV Q)) : WM κ (GA ad cA D) 4 Q s 0 [(0, .ref (ad p0)), (1, vI p1), (2, vI p2)] [] := by
  refine r_aload_n C 0 dX1_swap_0 rfl ?_
  refine r_iload_n C 1 dX1_swap_1 rfl ?_
  have hg := h.1
  have h := h.2
  refine r_iald (nz := 6) C dX1_swap_2 (hg) rfl (by decide) ⟨h.1, ?_⟩
  have h := h.2
  refine r_istore_n (ls' := [(3, vI (s p0 p1)), (0, .ref (ad p0)), (1, vI p1), (2, vI p2)]) C dX1_swap_3 rfl (by decide) rfl ?_
  refine r_aload_n C 1 dX1_swap_4 rfl ?_
  refine r_iload_n C 2 dX1_swap_5 rfl ?_
  refine r_aload_n C 1 dX1_swap_6 rfl ?_
  refine r_iload_n C 3 dX1_swap_7 rfl ?_
  have hg := h.1
  have h := h.2
  refine r_iald (nz := 6) C dX1_swap_8 (hg) rfl (by decide) ⟨h.1, ?_⟩
  have h := h.2
  have hg := h.1
  have h := h.2
  refine r_iast (nz := 6) C dX1_swap_9 (hg) rfl (by decide) ⟨h.1, fun s1 e_s1 => ?_⟩
  have h := h.2 s1 e_s1
  refine r_aload_n C 1 dX1_swap_10 rfl ?_
  refine r_iload_n C 3 dX1_swap_11 rfl ?_
  refine r_iload_n C 0 dX1_swap_12 rfl ?_
  have hg := h.1
  have h := h.2
  refine r_iast (nz := 6) C dX1_swap_13 (hg) rfl (by decide) ⟨h.1, fun s2 e_s2 => ?_⟩
  have h := h.2 s2 e_s2
  exact r_return C dX1_swap_14 h
theorem x1_swap_ct (l : Launch) (ad : Nat → Nat) (cA : Nat → ClassId) (D : va_G) (p0 : Nat) (p1 : Int) (p2 : Int) (s : Mem) : MG l yX1_swap wsX1_swap x1_swap_rm ocV [.ref (ad p0), vI p1, vI p2] (GA ad cA D) s (x1_swap p0 p1 p2 s) :=
  m_met (own := RX1) (nL := 4) (by decide) rfl rfl (Nat.le_of_ble_eq_true rfl) rfl rfl rfl (fun κ hl C Q Pst hW hQ => x1_swap_bd C (x1_swap_mono hW hQ))

def x1_toNextOrder_be (X4 : Nat → Int → Int → Mem → Prop) (X35 : Nat → Int → Int → Int → Mem → Prop) (X55 : Nat → Int → Int → Int → Mem → Prop) (X71 : Nat → Int → Int → Mem → Prop) (Q : Int → Mem → Prop) (p0 : Nat) (p1 : Int) (s : Mem) : Prop :=
  X4 p0 p1 (p1 - (2 : Int)) s
def x1_toNextOrder_b4 (X4 : Nat → Int → Int → Mem → Prop) (X35 : Nat → Int → Int → Int → Mem → Prop) (X55 : Nat → Int → Int → Int → Mem → Prop) (X71 : Nat → Int → Int → Mem → Prop) (Q : Int → Mem → Prop) (x0 : Nat) (x1 : Int) (x2 : Int) (s : Mem) : Prop :=
  InI x2 ∧ (x2 < (0 : Int) → InI x2 ∧ ((0 : Int) ≤ x2 → X35 x0 x1 x2 (x1 - (1 : Int)) s) ∧ (x2 < (0 : Int) → ((0 : Int) ≤ (0 : Int) ∧ (0 : Int) ≤ 1) ∧ Q (0 : Int) s)) ∧ ((0 : Int) ≤ x2 → (shA[x0]? = some (.inr (0, 6))) ∧ ((0 : Int) ≤ x2 ∧ x2 < 6) ∧ (shA[x0]? = some (.inr (0, 6))) ∧ ((0 : Int) ≤ (x2 + (1 : Int)) ∧ (x2 + (1 : Int)) < 6) ∧ (InI (s x0 x2) ∧ InI (s x0 (x2 + (1 : Int)))) ∧ ((s x0 x2) ≤ (s x0 (x2 + (1 : Int))) → InI x2 ∧ ((0 : Int) ≤ x2 → X35 x0 x1 x2 (x1 - (1 : Int)) s) ∧ (x2 < (0 : Int) → ((0 : Int) ≤ (0 : Int) ∧ (0 : Int) ≤ 1) ∧ Q (0 : Int) s)) ∧ ((s x0 (x2 + (1 : Int))) < (s x0 x2) → X4 x0 x1 (x2 + (-1 : Int)) s))
def x1_toNextOrder_b35 (X4 : Nat → Int → Int → Mem → Prop) (X35 : Nat → Int → Int → Int → Mem → Prop) (X55 : Nat → Int → Int → Int → Mem → Prop) (X71 : Nat → Int → Int → Mem → Prop) (Q : Int → Mem → Prop) (x0 : Nat) (x1 : Int) (x2 : Int) (x3 : Int) (s : Mem) : Prop :=
  (InI x3 ∧ InI x2) ∧ (x3 ≤ x2 → X55 x0 x1 x2 x3 s) ∧ (x2 < x3 → (shA[x0]? = some (.inr (0, 6))) ∧ ((0 : Int) ≤ x3 ∧ x3 < 6) ∧ (shA[x0]? = some (.inr (0, 6))) ∧ ((0 : Int) ≤ x2 ∧ x2 < 6) ∧ (InI (s x0 x3) ∧ InI (s x0 x2)) ∧ ((s x0 x2) ≤ (s x0 x3) → X55 x0 x1 x2 x3 s) ∧ ((s x0 x3) < (s x0 x2) → X35 x0 x1 x2 (x3 + (-1 : Int)) s))
def x1_toNextOrder_b55 (X4 : Nat → Int → Int → Mem → Prop) (X35 : Nat → Int → Int → Int → Mem → Prop) (X55 : Nat → Int → Int → Int → Mem → Prop) (X71 : Nat → Int → Int → Mem → Prop) (Q : Int → Mem → Prop) (x0 : Nat) (x1 : Int) (x2 : Int) (x3 : Int) (s : Mem) : Prop :=
  x1_swap x0 x2 x3 s (fun _ s7 => X71 x0 (x2 + (1 : Int)) (x1 - (1 : Int)) s7)
def x1_toNextOrder_b71 (X4 : Nat → Int → Int → Mem → Prop) (X35 : Nat → Int → Int → Int → Mem → Prop) (X55 : Nat → Int → Int → Int → Mem → Prop) (X71 : Nat → Int → Int → Mem → Prop) (Q : Int → Mem → Prop) (x0 : Nat) (x4 : Int) (x5 : Int) (s : Mem) : Prop :=
  (InI x4 ∧ InI x5) ∧ (x5 ≤ x4 → ((0 : Int) ≤ (1 : Int) ∧ (1 : Int) ≤ 1) ∧ Q (1 : Int) s) ∧ (x4 < x5 → x1_swap x0 x4 x5 s (fun _ s8 => X71 x0 (x4 + (1 : Int)) (x5 + (-1 : Int)) s8))
theorem x1_toNextOrder_me {X4 Y4 : Nat → Int → Int → Mem → Prop} {X35 Y35 : Nat → Int → Int → Int → Mem → Prop} {X55 Y55 : Nat → Int → Int → Int → Mem → Prop} {X71 Y71 : Nat → Int → Int → Mem → Prop} {Q R : Int → Mem → Prop} (hX4 : ∀ x0 x1 x2 s, X4 x0 x1 x2 s → Y4 x0 x1 x2 s) (hX35 : ∀ x0 x1 x2 x3 s, X35 x0 x1 x2 x3 s → Y35 x0 x1 x2 x3 s) (hX55 : ∀ x0 x1 x2 x3 s, X55 x0 x1 x2 x3 s → Y55 x0 x1 x2 x3 s) (hX71 : ∀ x0 x4 x5 s, X71 x0 x4 x5 s → Y71 x0 x4 x5 s) (hQ : ∀ r s, Q r s → R r s) {p0 : Nat} {p1 : Int} {s : Mem} (h : x1_toNextOrder_be X4 X35 X55 X71 Q p0 p1 s) : x1_toNextOrder_be Y4 Y35 Y55 Y71 R p0 p1 s :=
  hX4 _ _ _ _ h
theorem x1_toNextOrder_m4 {X4 Y4 : Nat → Int → Int → Mem → Prop} {X35 Y35 : Nat → Int → Int → Int → Mem → Prop} {X55 Y55 : Nat → Int → Int → Int → Mem → Prop} {X71 Y71 : Nat → Int → Int → Mem → Prop} {Q R : Int → Mem → Prop} (hX4 : ∀ x0 x1 x2 s, X4 x0 x1 x2 s → Y4 x0 x1 x2 s) (hX35 : ∀ x0 x1 x2 x3 s, X35 x0 x1 x2 x3 s → Y35 x0 x1 x2 x3 s) (hX55 : ∀ x0 x1 x2 x3 s, X55 x0 x1 x2 x3 s → Y55 x0 x1 x2 x3 s) (hX71 : ∀ x0 x4 x5 s, X71 x0 x4 x5 s → Y71 x0 x4 x5 s) (hQ : ∀ r s, Q r s → R r s) {x0 : Nat} {x1 : Int} {x2 : Int} {s : Mem} (h : x1_toNextOrder_b4 X4 X35 X55 X71 Q x0 x1 x2 s) : x1_toNextOrder_b4 Y4 Y35 Y55 Y71 R x0 x1 x2 s :=
  ⟨h.1, fun c => have h := h.2.1 c; ⟨h.1, fun c => have h := h.2.1 c; hX35 _ _ _ _ _ h, fun c => have h := h.2.2 c; ⟨h.1, hQ _ _ h.2⟩⟩, fun c => have h := h.2.2 c; ⟨h.1, have h := h.2; ⟨h.1, have h := h.2; ⟨h.1, have h := h.2; ⟨h.1, have h := h.2; ⟨h.1, fun c => have h := h.2.1 c; ⟨h.1, fun c => have h := h.2.1 c; hX35 _ _ _ _ _ h, fun c => have h := h.2.2 c; ⟨h.1, hQ _ _ h.2⟩⟩, fun c => have h := h.2.2 c; hX4 _ _ _ _ h⟩⟩⟩⟩⟩⟩
theorem x1_toNextOrder_m35 {X4 Y4 : Nat → Int → Int → Mem → Prop} {X35 Y35 : Nat → Int → Int → Int → Mem → Prop} {X55 Y55 : Nat → Int → Int → Int → Mem → Prop} {X71 Y71 : Nat → Int → Int → Mem → Prop} {Q R : Int → Mem → Prop} (hX4 : ∀ x0 x1 x2 s, X4 x0 x1 x2 s → Y4 x0 x1 x2 s) (hX35 : ∀ x0 x1 x2 x3 s, X35 x0 x1 x2 x3 s → Y35 x0 x1 x2 x3 s) (hX55 : ∀ x0 x1 x2 x3 s, X55 x0 x1 x2 x3 s → Y55 x0 x1 x2 x3 s) (hX71 : ∀ x0 x4 x5 s, X71 x0 x4 x5 s → Y71 x0 x4 x5 s) (hQ : ∀ r s, Q r s → R r s) {x0 : Nat} {x1 : Int} {x2 : Int} {x3 : Int} {s : Mem} (h : x1_toNextOrder_b35 X4 X35 X55 X71 Q x0 x1 x2 x3 s) : x1_toNextOrder_b35 Y4 Y35 Y55 Y71 R x0 x1 x2 x3 s :=
  ⟨h.1, fun c => have h := h.2.1 c; hX55 _ _ _ _ _ h, fun c => have h := h.2.2 c; ⟨h.1, have h := h.2; ⟨h.1, have h := h.2; ⟨h.1, have h := h.2; ⟨h.1, have h := h.2; ⟨h.1, fun c => have h := h.2.1 c; hX55 _ _ _ _ _ h, fun c => have h := h.2.2 c; hX35 _ _ _ _ _ h⟩⟩⟩⟩⟩⟩
theorem x1_toNextOrder_m55 {X4 Y4 : Nat → Int → Int → Mem → Prop} {X35 Y35 : Nat → Int → Int → Int → Mem → Prop} {X55 Y55 : Nat → Int → Int → Int → Mem → Prop} {X71 Y71 : Nat → Int → Int → Mem → Prop} {Q R : Int → Mem → Prop} (hX4 : ∀ x0 x1 x2 s, X4 x0 x1 x2 s → Y4 x0 x1 x2 s) (hX35 : ∀ x0 x1 x2 x3 s, X35 x0 x1 x2 x3 s → Y35 x0 x1 x2 x3 s) (hX55 : ∀ x0 x1 x2 x3 s, X55 x0 x1 x2 x3 s → Y55 x0 x1 x2 x3 s) (hX71 : ∀ x0 x4 x5 s, X71 x0 x4 x5 s → Y71 x0 x4 x5 s) (hQ : ∀ r s, Q r s → R r s) {x0 : Nat} {x1 : Int} {x2 : Int} {x3 : Int} {s : Mem} (h : x1_toNextOrder_b55 X4 X35 X55 X71 Q x0 x1 x2 x3 s) : x1_toNextOrder_b55 Y4 Y35 Y55 Y71 R x0 x1 x2 x3 s :=
  x1_swap_mono h (fun _ s7 h => hX71 _ _ _ _ h)
theorem x1_toNextOrder_m71 {X4 Y4 : Nat → Int → Int → Mem → Prop} {X35 Y35 : Nat → Int → Int → Int → Mem → Prop} {X55 Y55 : Nat → Int → Int → Int → Mem → Prop} {X71 Y71 : Nat → Int → Int → Mem → Prop} {Q R : Int → Mem → Prop} (hX4 : ∀ x0 x1 x2 s, X4 x0 x1 x2 s → Y4 x0 x1 x2 s) (hX35 : ∀ x0 x1 x2 x3 s, X35 x0 x1 x2 x3 s → Y35 x0 x1 x2 x3 s) (hX55 : ∀ x0 x1 x2 x3 s, X55 x0 x1 x2 x3 s → Y55 x0 x1 x2 x3 s) (hX71 : ∀ x0 x4 x5 s, X71 x0 x4 x5 s → Y71 x0 x4 x5 s) (hQ : ∀ r s, Q r s → R r s) {x0 : Nat} {x4 : Int} {x5 : Int} {s : Mem} (h : x1_toNextOrder_b71 X4 X35 X55 X71 Q x0 x4 x5 s) : x1_toNextOrder_b71 Y4 Y35 Y55 Y71 R x0 x4 x5 s :=
  ⟨h.1, fun c => have h := h.2.1 c; ⟨h.1, hQ _ _ h.2⟩, fun c => have h := h.2.2 c; x1_swap_mono h (fun _ s8 h => hX71 _ _ _ _ h)⟩
def x1_toNextOrder (p0 : Nat) (p1 : Int) (s : Mem) (Q : Int → Mem → Prop) : Prop := ∀ (X4 : Nat → Int → Int → Mem → Prop) (X35 : Nat → Int → Int → Int → Mem → Prop) (X55 : Nat → Int → Int → Int → Mem → Prop) (X71 : Nat → Int → Int → Mem → Prop), (∀ x0 x1 x2 s, x1_toNextOrder_b4 X4 X35 X55 X71 Q x0 x1 x2 s → X4 x0 x1 x2 s) → (∀ x0 x1 x2 x3 s, x1_toNextOrder_b35 X4 X35 X55 X71 Q x0 x1 x2 x3 s → X35 x0 x1 x2 x3 s) → (∀ x0 x1 x2 x3 s, x1_toNextOrder_b55 X4 X35 X55 X71 Q x0 x1 x2 x3 s → X55 x0 x1 x2 x3 s) → (∀ x0 x4 x5 s, x1_toNextOrder_b71 X4 X35 X55 X71 Q x0 x4 x5 s → X71 x0 x4 x5 s) → x1_toNextOrder_be X4 X35 X55 X71 Q p0 p1 s
def x1_toNextOrder_L4 (Q : Int → Mem → Prop) (x0 : Nat) (x1 : Int) (x2 : Int) (s : Mem) : Prop := ∀ (X4 : Nat → Int → Int → Mem → Prop) (X35 : Nat → Int → Int → Int → Mem → Prop) (X55 : Nat → Int → Int → Int → Mem → Prop) (X71 : Nat → Int → Int → Mem → Prop), (∀ x0 x1 x2 s, x1_toNextOrder_b4 X4 X35 X55 X71 Q x0 x1 x2 s → X4 x0 x1 x2 s) → (∀ x0 x1 x2 x3 s, x1_toNextOrder_b35 X4 X35 X55 X71 Q x0 x1 x2 x3 s → X35 x0 x1 x2 x3 s) → (∀ x0 x1 x2 x3 s, x1_toNextOrder_b55 X4 X35 X55 X71 Q x0 x1 x2 x3 s → X55 x0 x1 x2 x3 s) → (∀ x0 x4 x5 s, x1_toNextOrder_b71 X4 X35 X55 X71 Q x0 x4 x5 s → X71 x0 x4 x5 s) → X4 x0 x1 x2 s
def x1_toNextOrder_L35 (Q : Int → Mem → Prop) (x0 : Nat) (x1 : Int) (x2 : Int) (x3 : Int) (s : Mem) : Prop := ∀ (X4 : Nat → Int → Int → Mem → Prop) (X35 : Nat → Int → Int → Int → Mem → Prop) (X55 : Nat → Int → Int → Int → Mem → Prop) (X71 : Nat → Int → Int → Mem → Prop), (∀ x0 x1 x2 s, x1_toNextOrder_b4 X4 X35 X55 X71 Q x0 x1 x2 s → X4 x0 x1 x2 s) → (∀ x0 x1 x2 x3 s, x1_toNextOrder_b35 X4 X35 X55 X71 Q x0 x1 x2 x3 s → X35 x0 x1 x2 x3 s) → (∀ x0 x1 x2 x3 s, x1_toNextOrder_b55 X4 X35 X55 X71 Q x0 x1 x2 x3 s → X55 x0 x1 x2 x3 s) → (∀ x0 x4 x5 s, x1_toNextOrder_b71 X4 X35 X55 X71 Q x0 x4 x5 s → X71 x0 x4 x5 s) → X35 x0 x1 x2 x3 s
def x1_toNextOrder_L55 (Q : Int → Mem → Prop) (x0 : Nat) (x1 : Int) (x2 : Int) (x3 : Int) (s : Mem) : Prop := ∀ (X4 : Nat → Int → Int → Mem → Prop) (X35 : Nat → Int → Int → Int → Mem → Prop) (X55 : Nat → Int → Int → Int → Mem → Prop) (X71 : Nat → Int → Int → Mem → Prop), (∀ x0 x1 x2 s, x1_toNextOrder_b4 X4 X35 X55 X71 Q x0 x1 x2 s → X4 x0 x1 x2 s) → (∀ x0 x1 x2 x3 s, x1_toNextOrder_b35 X4 X35 X55 X71 Q x0 x1 x2 x3 s → X35 x0 x1 x2 x3 s) → (∀ x0 x1 x2 x3 s, x1_toNextOrder_b55 X4 X35 X55 X71 Q x0 x1 x2 x3 s → X55 x0 x1 x2 x3 s) → (∀ x0 x4 x5 s, x1_toNextOrder_b71 X4 X35 X55 X71 Q x0 x4 x5 s → X71 x0 x4 x5 s) → X55 x0 x1 x2 x3 s
def x1_toNextOrder_L71 (Q : Int → Mem → Prop) (x0 : Nat) (x4 : Int) (x5 : Int) (s : Mem) : Prop := ∀ (X4 : Nat → Int → Int → Mem → Prop) (X35 : Nat → Int → Int → Int → Mem → Prop) (X55 : Nat → Int → Int → Int → Mem → Prop) (X71 : Nat → Int → Int → Mem → Prop), (∀ x0 x1 x2 s, x1_toNextOrder_b4 X4 X35 X55 X71 Q x0 x1 x2 s → X4 x0 x1 x2 s) → (∀ x0 x1 x2 x3 s, x1_toNextOrder_b35 X4 X35 X55 X71 Q x0 x1 x2 x3 s → X35 x0 x1 x2 x3 s) → (∀ x0 x1 x2 x3 s, x1_toNextOrder_b55 X4 X35 X55 X71 Q x0 x1 x2 x3 s → X55 x0 x1 x2 x3 s) → (∀ x0 x4 x5 s, x1_toNextOrder_b71 X4 X35 X55 X71 Q x0 x4 x5 s → X71 x0 x4 x5 s) → X71 x0 x4 x5 s
theorem x1_toNextOrder_i {Q : Int → Mem → Prop} {p0 : Nat} {p1 : Int} {s : Mem} (h : x1_toNextOrder_be (x1_toNextOrder_L4 Q) (x1_toNextOrder_L35 Q) (x1_toNextOrder_L55 Q) (x1_toNextOrder_L71 Q) Q p0 p1 s) : x1_toNextOrder p0 p1 s Q := fun X4 X35 X55 X71 k4 k35 k55 k71 => x1_toNextOrder_me (fun _ _ _ _ h => h X4 X35 X55 X71 k4 k35 k55 k71) (fun _ _ _ _ _ h => h X4 X35 X55 X71 k4 k35 k55 k71) (fun _ _ _ _ _ h => h X4 X35 X55 X71 k4 k35 k55 k71) (fun _ _ _ _ h => h X4 X35 X55 X71 k4 k35 k55 k71) (fun _ _ h => h) h
theorem x1_toNextOrder_s4 {Q : Int → Mem → Prop} {x0 : Nat} {x1 : Int} {x2 : Int} {s : Mem} (h : x1_toNextOrder_b4 (x1_toNextOrder_L4 Q) (x1_toNextOrder_L35 Q) (x1_toNextOrder_L55 Q) (x1_toNextOrder_L71 Q) Q x0 x1 x2 s) : x1_toNextOrder_L4 Q x0 x1 x2 s := fun X4 X35 X55 X71 k4 k35 k55 k71 => k4 _ _ _ _ (x1_toNextOrder_m4 (fun _ _ _ _ h => h X4 X35 X55 X71 k4 k35 k55 k71) (fun _ _ _ _ _ h => h X4 X35 X55 X71 k4 k35 k55 k71) (fun _ _ _ _ _ h => h X4 X35 X55 X71 k4 k35 k55 k71) (fun _ _ _ _ h => h X4 X35 X55 X71 k4 k35 k55 k71) (fun _ _ h => h) h)
theorem x1_toNextOrder_s35 {Q : Int → Mem → Prop} {x0 : Nat} {x1 : Int} {x2 : Int} {x3 : Int} {s : Mem} (h : x1_toNextOrder_b35 (x1_toNextOrder_L4 Q) (x1_toNextOrder_L35 Q) (x1_toNextOrder_L55 Q) (x1_toNextOrder_L71 Q) Q x0 x1 x2 x3 s) : x1_toNextOrder_L35 Q x0 x1 x2 x3 s := fun X4 X35 X55 X71 k4 k35 k55 k71 => k35 _ _ _ _ _ (x1_toNextOrder_m35 (fun _ _ _ _ h => h X4 X35 X55 X71 k4 k35 k55 k71) (fun _ _ _ _ _ h => h X4 X35 X55 X71 k4 k35 k55 k71) (fun _ _ _ _ _ h => h X4 X35 X55 X71 k4 k35 k55 k71) (fun _ _ _ _ h => h X4 X35 X55 X71 k4 k35 k55 k71) (fun _ _ h => h) h)
theorem x1_toNextOrder_s55 {Q : Int → Mem → Prop} {x0 : Nat} {x1 : Int} {x2 : Int} {x3 : Int} {s : Mem} (h : x1_toNextOrder_b55 (x1_toNextOrder_L4 Q) (x1_toNextOrder_L35 Q) (x1_toNextOrder_L55 Q) (x1_toNextOrder_L71 Q) Q x0 x1 x2 x3 s) : x1_toNextOrder_L55 Q x0 x1 x2 x3 s := fun X4 X35 X55 X71 k4 k35 k55 k71 => k55 _ _ _ _ _ (x1_toNextOrder_m55 (fun _ _ _ _ h => h X4 X35 X55 X71 k4 k35 k55 k71) (fun _ _ _ _ _ h => h X4 X35 X55 X71 k4 k35 k55 k71) (fun _ _ _ _ _ h => h X4 X35 X55 X71 k4 k35 k55 k71) (fun _ _ _ _ h => h X4 X35 X55 X71 k4 k35 k55 k71) (fun _ _ h => h) h)
theorem x1_toNextOrder_s71 {Q : Int → Mem → Prop} {x0 : Nat} {x4 : Int} {x5 : Int} {s : Mem} (h : x1_toNextOrder_b71 (x1_toNextOrder_L4 Q) (x1_toNextOrder_L35 Q) (x1_toNextOrder_L55 Q) (x1_toNextOrder_L71 Q) Q x0 x4 x5 s) : x1_toNextOrder_L71 Q x0 x4 x5 s := fun X4 X35 X55 X71 k4 k35 k55 k71 => k71 _ _ _ _ (x1_toNextOrder_m71 (fun _ _ _ _ h => h X4 X35 X55 X71 k4 k35 k55 k71) (fun _ _ _ _ _ h => h X4 X35 X55 X71 k4 k35 k55 k71) (fun _ _ _ _ _ h => h X4 X35 X55 X71 k4 k35 k55 k71) (fun _ _ _ _ h => h X4 X35 X55 X71 k4 k35 k55 k71) (fun _ _ h => h) h)
theorem x1_toNextOrder_mono {Q R : Int → Mem → Prop} {p0 : Nat} {p1 : Int} {s : Mem} (h : x1_toNextOrder p0 p1 s Q) (hQ : ∀ r s, Q r s → R r s) : x1_toNextOrder p0 p1 s R := fun X4 X35 X55 X71 k4 k35 k55 k71 => x1_toNextOrder_me (fun _ _ _ _ h => h) (fun _ _ _ _ _ h => h) (fun _ _ _ _ _ h => h) (fun _ _ _ _ h => h) hQ (h X4 X35 X55 X71 (fun _ _ _ _ h => k4 _ _ _ _ (x1_toNextOrder_m4 (fun _ _ _ _ h => h) (fun _ _ _ _ _ h => h) (fun _ _ _ _ _ h => h) (fun _ _ _ _ h => h) hQ h)) (fun _ _ _ _ _ h => k35 _ _ _ _ _ (x1_toNextOrder_m35 (fun _ _ _ _ h => h) (fun _ _ _ _ _ h => h) (fun _ _ _ _ _ h => h) (fun _ _ _ _ h => h) hQ h)) (fun _ _ _ _ _ h => k55 _ _ _ _ _ (x1_toNextOrder_m55 (fun _ _ _ _ h => h) (fun _ _ _ _ _ h => h) (fun _ _ _ _ _ h => h) (fun _ _ _ _ h => h) hQ h)) (fun _ _ _ _ h => k71 _ _ _ _ (x1_toNextOrder_m71 (fun _ _ _ _ h => h) (fun _ _ _ _ _ h => h) (fun _ _ _ _ _ h => h) (fun _ _ _ _ h => h) hQ h)))
def x1_toNextOrder_rm : Room := { frames := 1, cells := 0, slots := 0, locals := 23 }
set_option maxHeartbeats 4000000 in
set_option maxRecDepth 100000 in
theorem x1_toNextOrder_bd {κ : KT} {ad : Nat → Nat} {cA : Nat → ClassId} {D : va_G} {Q : State → Prop} {p0 : Nat} {p1 : Int} {s : Mem} (C : CX κ (GA ad cA D) RX1 cX1_toNextOrder 6 wsX1_toNextOrder x1_toNextOrder_rm (some .boolean)) (h : x1_toNextOrder p0 p1 s (RT κ (GA ad cA D) ocI Q)) : WM κ (GA ad cA D) 6 Q s 0 [(0, .ref (ad p0)), (1, vI p1)] [] := by
  obtain ⟨Z4, z4⟩ : ∃ Z : Nat → Int → Int → Mem → Prop, ∀ x0 x1 x2 s, Z x0 x1 x2 s ↔ WM κ (GA ad cA D) 6 Q s 4 [(0, .ref (ad x0)), (1, vI x1), (2, vI x2)] [] := ⟨fun x0 x1 x2 s => WM κ (GA ad cA D) 6 Q s 4 [(0, .ref (ad x0)), (1, vI x1), (2, vI x2)] [], fun _ _ _ _ => Iff.rfl⟩
  obtain ⟨Z35, z35⟩ : ∃ Z : Nat → Int → Int → Int → Mem → Prop, ∀ x0 x1 x2 x3 s, Z x0 x1 x2 x3 s ↔ WM κ (GA ad cA D) 6 Q s 35 [(0, .ref (ad x0)), (1, vI x1), (2, vI x2), (3, vI x3)] [] := ⟨fun x0 x1 x2 x3 s => WM κ (GA ad cA D) 6 Q s 35 [(0, .ref (ad x0)), (1, vI x1), (2, vI x2), (3, vI x3)] [], fun _ _ _ _ _ => Iff.rfl⟩
  obtain ⟨Z55, z55⟩ : ∃ Z : Nat → Int → Int → Int → Mem → Prop, ∀ x0 x1 x2 x3 s, Z x0 x1 x2 x3 s ↔ WM κ (GA ad cA D) 6 Q s 55 [(0, .ref (ad x0)), (1, vI x1), (2, vI x2), (3, vI x3)] [] := ⟨fun x0 x1 x2 x3 s => WM κ (GA ad cA D) 6 Q s 55 [(0, .ref (ad x0)), (1, vI x1), (2, vI x2), (3, vI x3)] [], fun _ _ _ _ _ => Iff.rfl⟩
  obtain ⟨Z71, z71⟩ : ∃ Z : Nat → Int → Int → Mem → Prop, ∀ x0 x4 x5 s, Z x0 x4 x5 s ↔ WM κ (GA ad cA D) 6 Q s 71 [(0, .ref (ad x0)), (4, vI x4), (5, vI x5)] [] := ⟨fun x0 x4 x5 s => WM κ (GA ad cA D) 6 Q s 71 [(0, .ref (ad x0)), (4, vI x4), (5, vI x5)] [], fun _ _ _ _ => Iff.rfl⟩
  refine (fun h => ?_) (h Z4 Z35 Z55 Z71 ?_ ?_ ?_ ?_)
  · refine r_iload_n C 1 dX1_toNextOrder_0 rfl ?_
    refine r_iconst C dX1_toNextOrder_1 ?_
    refine r_isub C dX1_toNextOrder_2 ?_
    refine r_istore_n (ls' := [(2, vI (p1 - (2 : Int))), (0, .ref (ad p0)), (1, vI p1)]) C dX1_toNextOrder_3 rfl (by decide) rfl ?_
    exact r_perm [1, 2, 0] rfl ((z4 _ _ _ _).1 h)
  · intro x0 x1 x2 s h
    refine (z4 _ _ _ _).2 ?_
    refine r_iload_n C 2 dX1_toNextOrder_4 rfl ?_
    refine r_if_lt (tgt := 25) C dX1_toNextOrder_5 (by decide) ⟨h.1, fun c4 => ?_, fun c4 => ?_⟩
    · have h := h.2.1 c4
      refine r_iload_n C 2 dX1_toNextOrder_25 rfl ?_
      refine r_if_ge (tgt := 31) C dX1_toNextOrder_26 (by decide) ⟨h.1, fun c1 => ?_, fun c1 => ?_⟩
      · have h := h.2.1 c1
        refine r_iload_n C 1 dX1_toNextOrder_31 rfl ?_
        refine r_iconst C dX1_toNextOrder_32 ?_
        refine r_isub C dX1_toNextOrder_33 ?_
        refine r_istore_n (ls' := [(3, vI (x1 - (1 : Int))), (0, .ref (ad x0)), (1, vI x1), (2, vI x2)]) C dX1_toNextOrder_34 rfl (by decide) rfl ?_
        exact r_perm [1, 2, 3, 0] rfl ((z35 _ _ _ _ _).1 h)
      · have h := h.2.2 c1
        refine r_iconst C dX1_toNextOrder_29 ?_
        exact r_zreturn C dX1_toNextOrder_30 h
    · have h := h.2.2 c4
      refine r_aload_n C 0 dX1_toNextOrder_8 rfl ?_
      refine r_iload_n C 2 dX1_toNextOrder_9 rfl ?_
      have hg := h.1
      have h := h.2
      refine r_iald (nz := 6) C dX1_toNextOrder_10 (hg) rfl (by decide) ⟨h.1, ?_⟩
      have h := h.2
      refine r_aload_n C 0 dX1_toNextOrder_11 rfl ?_
      refine r_iload_n C 2 dX1_toNextOrder_12 rfl ?_
      refine r_iconst C dX1_toNextOrder_13 ?_
      refine r_iadd C dX1_toNextOrder_14 ?_
      have hg := h.1
      have h := h.2
      refine r_iald (nz := 6) C dX1_toNextOrder_15 (hg) rfl (by decide) ⟨h.1, ?_⟩
      have h := h.2
      refine r_icmp_le (tgt := 25) C dX1_toNextOrder_16 (by decide) ⟨h.1, fun c3 => ?_, fun c3 => ?_⟩
      · have h := h.2.1 c3
        refine r_iload_n C 2 dX1_toNextOrder_25 rfl ?_
        refine r_if_ge (tgt := 31) C dX1_toNextOrder_26 (by decide) ⟨h.1, fun c2 => ?_, fun c2 => ?_⟩
        · have h := h.2.1 c2
          refine r_iload_n C 1 dX1_toNextOrder_31 rfl ?_
          refine r_iconst C dX1_toNextOrder_32 ?_
          refine r_isub C dX1_toNextOrder_33 ?_
          refine r_istore_n (ls' := [(3, vI (x1 - (1 : Int))), (0, .ref (ad x0)), (1, vI x1), (2, vI x2)]) C dX1_toNextOrder_34 rfl (by decide) rfl ?_
          exact r_perm [1, 2, 3, 0] rfl ((z35 _ _ _ _ _).1 h)
        · have h := h.2.2 c2
          refine r_iconst C dX1_toNextOrder_29 ?_
          exact r_zreturn C dX1_toNextOrder_30 h
      · have h := h.2.2 c3
        refine r_iinc (j := 2) (ls' := [(2, vI (x2 + (-1 : Int))), (0, .ref (ad x0)), (1, vI x1)]) C dX1_toNextOrder_19 rfl (by decide) rfl ?_
        refine r_goto (tgt := 4) C dX1_toNextOrder_22 (by decide) ?_
        exact r_perm [1, 2, 0] rfl ((z4 _ _ _ _).1 h)
  · intro x0 x1 x2 x3 s h
    refine (z35 _ _ _ _ _).2 ?_
    refine r_iload_n C 3 dX1_toNextOrder_35 rfl ?_
    refine r_iload_n C 2 dX1_toNextOrder_36 rfl ?_
    refine r_icmp_le (tgt := 55) C dX1_toNextOrder_37 (by decide) ⟨h.1, fun c6 => ?_, fun c6 => ?_⟩
    · have h := h.2.1 c6
      exact r_perm [0, 1, 2, 3] rfl ((z55 _ _ _ _ _).1 h)
    · have h := h.2.2 c6
      refine r_aload_n C 0 dX1_toNextOrder_40 rfl ?_
      refine r_iload_n C 3 dX1_toNextOrder_41 rfl ?_
      have hg := h.1
      have h := h.2
      refine r_iald (nz := 6) C dX1_toNextOrder_42 (hg) rfl (by decide) ⟨h.1, ?_⟩
      have h := h.2
      refine r_aload_n C 0 dX1_toNextOrder_43 rfl ?_
      refine r_iload_n C 2 dX1_toNextOrder_44 rfl ?_
      have hg := h.1
      have h := h.2
      refine r_iald (nz := 6) C dX1_toNextOrder_45 (hg) rfl (by decide) ⟨h.1, ?_⟩
      have h := h.2
      refine r_icmp_ge (tgt := 55) C dX1_toNextOrder_46 (by decide) ⟨h.1, fun c5 => ?_, fun c5 => ?_⟩
      · have h := h.2.1 c5
        exact r_perm [0, 1, 2, 3] rfl ((z55 _ _ _ _ _).1 h)
      · have h := h.2.2 c5
        refine r_iinc (j := 3) (ls' := [(3, vI (x3 + (-1 : Int))), (0, .ref (ad x0)), (1, vI x1), (2, vI x2)]) C dX1_toNextOrder_49 rfl (by decide) rfl ?_
        refine r_goto (tgt := 35) C dX1_toNextOrder_52 (by decide) ?_
        exact r_perm [1, 2, 3, 0] rfl ((z35 _ _ _ _ _).1 h)
  · intro x0 x1 x2 x3 s h
    refine (z55 _ _ _ _ _).2 ?_
    refine r_aload_n C 0 dX1_toNextOrder_55 rfl ?_
    refine r_iload_n C 2 dX1_toNextOrder_56 rfl ?_
    refine r_iload_n C 3 dX1_toNextOrder_57 rfl ?_
    refine r_callS (As := [.ref (ad x0), vI x2, vI x3]) (n := 3) C dX1_toNextOrder_58 (x1_swap_ct κ.1.2.1 ad cA D x0 x2 x3 s) gX1_toNextOrder_X1_swap rfl ⟨rfl, rfl⟩ (by decide +kernel) (by decide) rfl rfl (Nat.le_of_ble_eq_true rfl) (fun _ => rfl) ?_
    refine x1_swap_mono h (fun _ s7 h => ?_)
    refine r_iload_n C 2 dX1_toNextOrder_61 rfl ?_
    refine r_iconst C dX1_toNextOrder_62 ?_
    refine r_iadd C dX1_toNextOrder_63 ?_
    refine r_istore (ls' := [(4, vI (x2 + (1 : Int))), (0, .ref (ad x0)), (1, vI x1), (2, vI x2), (3, vI x3)]) C dX1_toNextOrder_64 (by decide) rfl ?_
    refine r_iload_n C 2 dX1_toNextOrder_66 rfl ?_
    refine r_iconst C dX1_toNextOrder_67 ?_
    refine r_isub C dX1_toNextOrder_68 ?_
    refine r_istore (ls' := [(5, vI (x1 - (1 : Int))), (4, vI (x2 + (1 : Int))), (0, .ref (ad x0)), (1, vI x1), (2, vI x2), (3, vI x3)]) C dX1_toNextOrder_69 (by decide) rfl ?_
    exact r_perm [2, 1, 0] rfl ((z71 _ _ _ _).1 h)
  · intro x0 x4 x5 s h
    refine (z71 _ _ _ _).2 ?_
    refine r_iload C 1 dX1_toNextOrder_71 rfl ?_
    refine r_iload C 2 dX1_toNextOrder_73 rfl ?_
    refine r_icmp_ge (tgt := 95) C dX1_toNextOrder_75 (by decide) ⟨h.1, fun c9 => ?_, fun c9 => ?_⟩
    · have h := h.2.1 c9
      refine r_iconst C dX1_toNextOrder_95 ?_
      exact r_zreturn C dX1_toNextOrder_96 h
    · have h := h.2.2 c9
      refine r_aload_n C 0 dX1_toNextOrder_78 rfl ?_
      refine r_iload C 1 dX1_toNextOrder_79 rfl ?_
      refine r_iload C 2 dX1_toNextOrder_81 rfl ?_
      refine r_callS (As := [.ref (ad x0), vI x4, vI x5]) (n := 3) C dX1_toNextOrder_83 (x1_swap_ct κ.1.2.1 ad cA D x0 x4 x5 s) gX1_toNextOrder_X1_swap rfl ⟨rfl, rfl⟩ (by decide +kernel) (by decide) rfl rfl (Nat.le_of_ble_eq_true rfl) (fun _ => rfl) ?_
      refine x1_swap_mono h (fun _ s8 h => ?_)
      refine r_iinc (j := 1) (ls' := [(4, vI (x4 + (1 : Int))), (0, .ref (ad x0)), (5, vI x5)]) C dX1_toNextOrder_86 rfl (by decide) rfl ?_
      refine r_iinc (j := 2) (ls' := [(5, vI (x5 + (-1 : Int))), (4, vI (x4 + (1 : Int))), (0, .ref (ad x0))]) C dX1_toNextOrder_89 rfl (by decide) rfl ?_
      refine r_goto (tgt := 71) C dX1_toNextOrder_92 (by decide) ?_
      exact r_perm [2, 1, 0] rfl ((z71 _ _ _ _).1 h)
theorem x1_toNextOrder_ct (l : Launch) (ad : Nat → Nat) (cA : Nat → ClassId) (D : va_G) (p0 : Nat) (p1 : Int) (s : Mem) : MG l yX1_toNextOrder wsX1_toNextOrder x1_toNextOrder_rm ocI [.ref (ad p0), vI p1] (GA ad cA D) s (x1_toNextOrder p0 p1 s) :=
  m_met (own := RX1) (nL := 6) (by decide) rfl rfl (Nat.le_of_ble_eq_true rfl) rfl rfl rfl (fun κ hl C Q Pst hW hQ => x1_toNextOrder_bd C (x1_toNextOrder_mono hW hQ))

def x1_findBestRow_be (X40 : Int → Int → Int → Int → Mem → Prop) (X77 : Int → Int → Int → Int → Int → Mem → Prop) (X140 : Int → Int → Int → Int → Int → Mem → Prop) (X167 : Int → Int → Int → Mem → Prop) (Q : Int → Mem → Prop) (p2 : Int) (s : Mem) : Prop :=
  x1_keepTurns s (fun _ s1 => x2_sumOf 4 s1 (fun r3 s2 => ((0 ≤ (0 : Int) ∧ 0 ≤ (0 : Int) ∧ 0 ≤ (6 : Int)) ∧ (0 : Int) + (6 : Int) ≤ 6 ∧ (0 : Int) + (6 : Int) ≤ 6) ∧ ∀ s4 : Mem, s4 = m_cpy s2 22 21 (0 : Int) (0 : Int) (6 : Int) → ∀ s5 : Mem, s5 = m_upd s4 13 (0 : Int) (-1 : Int) → X40 p2 r3 (1 : Int) (0 : Int) s5))
def x1_findBestRow_b40 (X40 : Int → Int → Int → Int → Mem → Prop) (X77 : Int → Int → Int → Int → Int → Mem → Prop) (X140 : Int → Int → Int → Int → Int → Mem → Prop) (X167 : Int → Int → Int → Mem → Prop) (Q : Int → Mem → Prop) (x2 : Int) (x3 : Int) (x4 : Int) (x5 : Int) (s : Mem) : Prop :=
  (InI x5 ∧ InI (720 : Int)) ∧ ((720 : Int) ≤ x5 → Q (0 : Int) s) ∧ (x5 < (720 : Int) → InI x4 ∧ (x4 = (0 : Int) → Q (0 : Int) s) ∧ (¬ x4 = (0 : Int) → (InI (s 13 (0 : Int)) ∧ InI (-1 : Int)) ∧ (¬ (s 13 (0 : Int)) = (-1 : Int) → X77 x2 x3 x5 (s 13 (0 : Int)) x2 s) ∧ ((s 13 (0 : Int)) = (-1 : Int) → X77 x2 x3 x5 (20 : Int) x2 s)))
def x1_findBestRow_b77 (X40 : Int → Int → Int → Int → Mem → Prop) (X77 : Int → Int → Int → Int → Int → Mem → Prop) (X140 : Int → Int → Int → Int → Int → Mem → Prop) (X167 : Int → Int → Int → Mem → Prop) (Q : Int → Mem → Prop) (x2 : Int) (x3 : Int) (x5 : Int) (t0 : Int) (t1 : Int) (s : Mem) : Prop :=
  x1_goRounds 21 t1 t0 s (fun r10 s9 => x2_sumOf 4 s9 (fun r12 s11 => x1_putTurnsBack s11 (fun _ s13 => (InI r10 ∧ InI (-1 : Int)) ∧ (r10 = (-1 : Int) → X167 x2 x3 x5 s13) ∧ (¬ r10 = (-1 : Int) → (InI (s13 13 (0 : Int)) ∧ InI (-1 : Int)) ∧ ((s13 13 (0 : Int)) = (-1 : Int) → X140 x2 x3 x5 r10 (r12 - x3) s13) ∧ (¬ (s13 13 (0 : Int)) = (-1 : Int) → (InI r10 ∧ InI (s13 13 (0 : Int))) ∧ (r10 < (s13 13 (0 : Int)) → X140 x2 x3 x5 r10 (r12 - x3) s13) ∧ ((s13 13 (0 : Int)) ≤ r10 → (InI r10 ∧ InI (s13 13 (0 : Int))) ∧ (¬ r10 = (s13 13 (0 : Int)) → X167 x2 x3 x5 s13) ∧ (r10 = (s13 13 (0 : Int)) → (InI (r12 - x3) ∧ InI (s13 13 (1 : Int))) ∧ ((s13 13 (1 : Int)) ≤ (r12 - x3) → X167 x2 x3 x5 s13) ∧ ((r12 - x3) < (s13 13 (1 : Int)) → X140 x2 x3 x5 r10 (r12 - x3) s13))))))))
def x1_findBestRow_b140 (X40 : Int → Int → Int → Int → Mem → Prop) (X77 : Int → Int → Int → Int → Int → Mem → Prop) (X140 : Int → Int → Int → Int → Int → Mem → Prop) (X167 : Int → Int → Int → Mem → Prop) (Q : Int → Mem → Prop) (x2 : Int) (x3 : Int) (x5 : Int) (x6 : Int) (x7 : Int) (s : Mem) : Prop :=
  ∀ s19 : Mem, s19 = m_upd s 13 (0 : Int) x6 → ∀ s20 : Mem, s20 = m_upd s19 13 (1 : Int) x7 → x1_figuresOf 21 (s20 1 (0 : Int)) s20 (fun r22 s21 => ∀ s23 : Mem, s23 = m_upd s21 13 (2 : Int) r22 → X167 x2 x3 x5 s23)
def x1_findBestRow_b167 (X40 : Int → Int → Int → Int → Mem → Prop) (X77 : Int → Int → Int → Int → Int → Mem → Prop) (X140 : Int → Int → Int → Int → Int → Mem → Prop) (X167 : Int → Int → Int → Mem → Prop) (Q : Int → Mem → Prop) (x2 : Int) (x3 : Int) (x5 : Int) (s : Mem) : Prop :=
  x1_toNextOrder 21 (s 1 (0 : Int)) s (fun r25 s24 => X40 x2 x3 r25 (x5 + (1 : Int)) s24)
theorem x1_findBestRow_me {X40 Y40 : Int → Int → Int → Int → Mem → Prop} {X77 Y77 : Int → Int → Int → Int → Int → Mem → Prop} {X140 Y140 : Int → Int → Int → Int → Int → Mem → Prop} {X167 Y167 : Int → Int → Int → Mem → Prop} {Q R : Int → Mem → Prop} (hX40 : ∀ x2 x3 x4 x5 s, X40 x2 x3 x4 x5 s → Y40 x2 x3 x4 x5 s) (hX77 : ∀ x2 x3 x5 t0 t1 s, X77 x2 x3 x5 t0 t1 s → Y77 x2 x3 x5 t0 t1 s) (hX140 : ∀ x2 x3 x5 x6 x7 s, X140 x2 x3 x5 x6 x7 s → Y140 x2 x3 x5 x6 x7 s) (hX167 : ∀ x2 x3 x5 s, X167 x2 x3 x5 s → Y167 x2 x3 x5 s) (hQ : ∀ r s, Q r s → R r s) {p2 : Int} {s : Mem} (h : x1_findBestRow_be X40 X77 X140 X167 Q p2 s) : x1_findBestRow_be Y40 Y77 Y140 Y167 R p2 s :=
  x1_keepTurns_mono h (fun _ s1 h => x2_sumOf_mono h (fun r3 s2 h => ⟨h.1, have h := h.2; fun s4 e_s4 => have h := h s4 e_s4; fun s5 e_s5 => have h := h s5 e_s5; hX40 _ _ _ _ _ h⟩))
theorem x1_findBestRow_m40 {X40 Y40 : Int → Int → Int → Int → Mem → Prop} {X77 Y77 : Int → Int → Int → Int → Int → Mem → Prop} {X140 Y140 : Int → Int → Int → Int → Int → Mem → Prop} {X167 Y167 : Int → Int → Int → Mem → Prop} {Q R : Int → Mem → Prop} (hX40 : ∀ x2 x3 x4 x5 s, X40 x2 x3 x4 x5 s → Y40 x2 x3 x4 x5 s) (hX77 : ∀ x2 x3 x5 t0 t1 s, X77 x2 x3 x5 t0 t1 s → Y77 x2 x3 x5 t0 t1 s) (hX140 : ∀ x2 x3 x5 x6 x7 s, X140 x2 x3 x5 x6 x7 s → Y140 x2 x3 x5 x6 x7 s) (hX167 : ∀ x2 x3 x5 s, X167 x2 x3 x5 s → Y167 x2 x3 x5 s) (hQ : ∀ r s, Q r s → R r s) {x2 : Int} {x3 : Int} {x4 : Int} {x5 : Int} {s : Mem} (h : x1_findBestRow_b40 X40 X77 X140 X167 Q x2 x3 x4 x5 s) : x1_findBestRow_b40 Y40 Y77 Y140 Y167 R x2 x3 x4 x5 s :=
  ⟨h.1, fun c => have h := h.2.1 c; hQ _ _ h, fun c => have h := h.2.2 c; ⟨h.1, fun c => have h := h.2.1 c; hQ _ _ h, fun c => have h := h.2.2 c; ⟨h.1, fun c => have h := h.2.1 c; hX77 _ _ _ _ _ _ h, fun c => have h := h.2.2 c; hX77 _ _ _ _ _ _ h⟩⟩⟩
theorem x1_findBestRow_m77 {X40 Y40 : Int → Int → Int → Int → Mem → Prop} {X77 Y77 : Int → Int → Int → Int → Int → Mem → Prop} {X140 Y140 : Int → Int → Int → Int → Int → Mem → Prop} {X167 Y167 : Int → Int → Int → Mem → Prop} {Q R : Int → Mem → Prop} (hX40 : ∀ x2 x3 x4 x5 s, X40 x2 x3 x4 x5 s → Y40 x2 x3 x4 x5 s) (hX77 : ∀ x2 x3 x5 t0 t1 s, X77 x2 x3 x5 t0 t1 s → Y77 x2 x3 x5 t0 t1 s) (hX140 : ∀ x2 x3 x5 x6 x7 s, X140 x2 x3 x5 x6 x7 s → Y140 x2 x3 x5 x6 x7 s) (hX167 : ∀ x2 x3 x5 s, X167 x2 x3 x5 s → Y167 x2 x3 x5 s) (hQ : ∀ r s, Q r s → R r s) {x2 : Int} {x3 : Int} {x5 : Int} {t0 : Int} {t1 : Int} {s : Mem} (h : x1_findBestRow_b77 X40 X77 X140 X167 Q x2 x3 x5 t0 t1 s) : x1_findBestRow_b77 Y40 Y77 Y140 Y167 R x2 x3 x5 t0 t1 s :=
  x1_goRounds_mono h (fun r10 s9 h => x2_sumOf_mono h (fun r12 s11 h => x1_putTurnsBack_mono h (fun _ s13 h => ⟨h.1, fun c => have h := h.2.1 c; hX167 _ _ _ _ h, fun c => have h := h.2.2 c; ⟨h.1, fun c => have h := h.2.1 c; hX140 _ _ _ _ _ _ h, fun c => have h := h.2.2 c; ⟨h.1, fun c => have h := h.2.1 c; hX140 _ _ _ _ _ _ h, fun c => have h := h.2.2 c; ⟨h.1, fun c => have h := h.2.1 c; hX167 _ _ _ _ h, fun c => have h := h.2.2 c; ⟨h.1, fun c => have h := h.2.1 c; hX167 _ _ _ _ h, fun c => have h := h.2.2 c; hX140 _ _ _ _ _ _ h⟩⟩⟩⟩⟩)))
theorem x1_findBestRow_m140 {X40 Y40 : Int → Int → Int → Int → Mem → Prop} {X77 Y77 : Int → Int → Int → Int → Int → Mem → Prop} {X140 Y140 : Int → Int → Int → Int → Int → Mem → Prop} {X167 Y167 : Int → Int → Int → Mem → Prop} {Q R : Int → Mem → Prop} (hX40 : ∀ x2 x3 x4 x5 s, X40 x2 x3 x4 x5 s → Y40 x2 x3 x4 x5 s) (hX77 : ∀ x2 x3 x5 t0 t1 s, X77 x2 x3 x5 t0 t1 s → Y77 x2 x3 x5 t0 t1 s) (hX140 : ∀ x2 x3 x5 x6 x7 s, X140 x2 x3 x5 x6 x7 s → Y140 x2 x3 x5 x6 x7 s) (hX167 : ∀ x2 x3 x5 s, X167 x2 x3 x5 s → Y167 x2 x3 x5 s) (hQ : ∀ r s, Q r s → R r s) {x2 : Int} {x3 : Int} {x5 : Int} {x6 : Int} {x7 : Int} {s : Mem} (h : x1_findBestRow_b140 X40 X77 X140 X167 Q x2 x3 x5 x6 x7 s) : x1_findBestRow_b140 Y40 Y77 Y140 Y167 R x2 x3 x5 x6 x7 s :=
  fun s19 e_s19 => have h := h s19 e_s19; fun s20 e_s20 => have h := h s20 e_s20; x1_figuresOf_mono h (fun r22 s21 h => fun s23 e_s23 => have h := h s23 e_s23; hX167 _ _ _ _ h)
theorem x1_findBestRow_m167 {X40 Y40 : Int → Int → Int → Int → Mem → Prop} {X77 Y77 : Int → Int → Int → Int → Int → Mem → Prop} {X140 Y140 : Int → Int → Int → Int → Int → Mem → Prop} {X167 Y167 : Int → Int → Int → Mem → Prop} {Q R : Int → Mem → Prop} (hX40 : ∀ x2 x3 x4 x5 s, X40 x2 x3 x4 x5 s → Y40 x2 x3 x4 x5 s) (hX77 : ∀ x2 x3 x5 t0 t1 s, X77 x2 x3 x5 t0 t1 s → Y77 x2 x3 x5 t0 t1 s) (hX140 : ∀ x2 x3 x5 x6 x7 s, X140 x2 x3 x5 x6 x7 s → Y140 x2 x3 x5 x6 x7 s) (hX167 : ∀ x2 x3 x5 s, X167 x2 x3 x5 s → Y167 x2 x3 x5 s) (hQ : ∀ r s, Q r s → R r s) {x2 : Int} {x3 : Int} {x5 : Int} {s : Mem} (h : x1_findBestRow_b167 X40 X77 X140 X167 Q x2 x3 x5 s) : x1_findBestRow_b167 Y40 Y77 Y140 Y167 R x2 x3 x5 s :=
  x1_toNextOrder_mono h (fun r25 s24 h => hX40 _ _ _ _ _ h)
def x1_findBestRow (p2 : Int) (s : Mem) (Q : Int → Mem → Prop) : Prop := ∀ (X40 : Int → Int → Int → Int → Mem → Prop) (X77 : Int → Int → Int → Int → Int → Mem → Prop) (X140 : Int → Int → Int → Int → Int → Mem → Prop) (X167 : Int → Int → Int → Mem → Prop), (∀ x2 x3 x4 x5 s, x1_findBestRow_b40 X40 X77 X140 X167 Q x2 x3 x4 x5 s → X40 x2 x3 x4 x5 s) → (∀ x2 x3 x5 t0 t1 s, x1_findBestRow_b77 X40 X77 X140 X167 Q x2 x3 x5 t0 t1 s → X77 x2 x3 x5 t0 t1 s) → (∀ x2 x3 x5 x6 x7 s, x1_findBestRow_b140 X40 X77 X140 X167 Q x2 x3 x5 x6 x7 s → X140 x2 x3 x5 x6 x7 s) → (∀ x2 x3 x5 s, x1_findBestRow_b167 X40 X77 X140 X167 Q x2 x3 x5 s → X167 x2 x3 x5 s) → x1_findBestRow_be X40 X77 X140 X167 Q p2 s
def x1_findBestRow_L40 (Q : Int → Mem → Prop) (x2 : Int) (x3 : Int) (x4 : Int) (x5 : Int) (s : Mem) : Prop := ∀ (X40 : Int → Int → Int → Int → Mem → Prop) (X77 : Int → Int → Int → Int → Int → Mem → Prop) (X140 : Int → Int → Int → Int → Int → Mem → Prop) (X167 : Int → Int → Int → Mem → Prop), (∀ x2 x3 x4 x5 s, x1_findBestRow_b40 X40 X77 X140 X167 Q x2 x3 x4 x5 s → X40 x2 x3 x4 x5 s) → (∀ x2 x3 x5 t0 t1 s, x1_findBestRow_b77 X40 X77 X140 X167 Q x2 x3 x5 t0 t1 s → X77 x2 x3 x5 t0 t1 s) → (∀ x2 x3 x5 x6 x7 s, x1_findBestRow_b140 X40 X77 X140 X167 Q x2 x3 x5 x6 x7 s → X140 x2 x3 x5 x6 x7 s) → (∀ x2 x3 x5 s, x1_findBestRow_b167 X40 X77 X140 X167 Q x2 x3 x5 s → X167 x2 x3 x5 s) → X40 x2 x3 x4 x5 s
def x1_findBestRow_L77 (Q : Int → Mem → Prop) (x2 : Int) (x3 : Int) (x5 : Int) (t0 : Int) (t1 : Int) (s : Mem) : Prop := ∀ (X40 : Int → Int → Int → Int → Mem → Prop) (X77 : Int → Int → Int → Int → Int → Mem → Prop) (X140 : Int → Int → Int → Int → Int → Mem → Prop) (X167 : Int → Int → Int → Mem → Prop), (∀ x2 x3 x4 x5 s, x1_findBestRow_b40 X40 X77 X140 X167 Q x2 x3 x4 x5 s → X40 x2 x3 x4 x5 s) → (∀ x2 x3 x5 t0 t1 s, x1_findBestRow_b77 X40 X77 X140 X167 Q x2 x3 x5 t0 t1 s → X77 x2 x3 x5 t0 t1 s) → (∀ x2 x3 x5 x6 x7 s, x1_findBestRow_b140 X40 X77 X140 X167 Q x2 x3 x5 x6 x7 s → X140 x2 x3 x5 x6 x7 s) → (∀ x2 x3 x5 s, x1_findBestRow_b167 X40 X77 X140 X167 Q x2 x3 x5 s → X167 x2 x3 x5 s) → X77 x2 x3 x5 t0 t1 s
def x1_findBestRow_L140 (Q : Int → Mem → Prop) (x2 : Int) (x3 : Int) (x5 : Int) (x6 : Int) (x7 : Int) (s : Mem) : Prop := ∀ (X40 : Int → Int → Int → Int → Mem → Prop) (X77 : Int → Int → Int → Int → Int → Mem → Prop) (X140 : Int → Int → Int → Int → Int → Mem → Prop) (X167 : Int → Int → Int → Mem → Prop), (∀ x2 x3 x4 x5 s, x1_findBestRow_b40 X40 X77 X140 X167 Q x2 x3 x4 x5 s → X40 x2 x3 x4 x5 s) → (∀ x2 x3 x5 t0 t1 s, x1_findBestRow_b77 X40 X77 X140 X167 Q x2 x3 x5 t0 t1 s → X77 x2 x3 x5 t0 t1 s) → (∀ x2 x3 x5 x6 x7 s, x1_findBestRow_b140 X40 X77 X140 X167 Q x2 x3 x5 x6 x7 s → X140 x2 x3 x5 x6 x7 s) → (∀ x2 x3 x5 s, x1_findBestRow_b167 X40 X77 X140 X167 Q x2 x3 x5 s → X167 x2 x3 x5 s) → X140 x2 x3 x5 x6 x7 s
def x1_findBestRow_L167 (Q : Int → Mem → Prop) (x2 : Int) (x3 : Int) (x5 : Int) (s : Mem) : Prop := ∀ (X40 : Int → Int → Int → Int → Mem → Prop) (X77 : Int → Int → Int → Int → Int → Mem → Prop) (X140 : Int → Int → Int → Int → Int → Mem → Prop) (X167 : Int → Int → Int → Mem → Prop), (∀ x2 x3 x4 x5 s, x1_findBestRow_b40 X40 X77 X140 X167 Q x2 x3 x4 x5 s → X40 x2 x3 x4 x5 s) → (∀ x2 x3 x5 t0 t1 s, x1_findBestRow_b77 X40 X77 X140 X167 Q x2 x3 x5 t0 t1 s → X77 x2 x3 x5 t0 t1 s) → (∀ x2 x3 x5 x6 x7 s, x1_findBestRow_b140 X40 X77 X140 X167 Q x2 x3 x5 x6 x7 s → X140 x2 x3 x5 x6 x7 s) → (∀ x2 x3 x5 s, x1_findBestRow_b167 X40 X77 X140 X167 Q x2 x3 x5 s → X167 x2 x3 x5 s) → X167 x2 x3 x5 s
theorem x1_findBestRow_i {Q : Int → Mem → Prop} {p2 : Int} {s : Mem} (h : x1_findBestRow_be (x1_findBestRow_L40 Q) (x1_findBestRow_L77 Q) (x1_findBestRow_L140 Q) (x1_findBestRow_L167 Q) Q p2 s) : x1_findBestRow p2 s Q := fun X40 X77 X140 X167 k40 k77 k140 k167 => x1_findBestRow_me (fun _ _ _ _ _ h => h X40 X77 X140 X167 k40 k77 k140 k167) (fun _ _ _ _ _ _ h => h X40 X77 X140 X167 k40 k77 k140 k167) (fun _ _ _ _ _ _ h => h X40 X77 X140 X167 k40 k77 k140 k167) (fun _ _ _ _ h => h X40 X77 X140 X167 k40 k77 k140 k167) (fun _ _ h => h) h
theorem x1_findBestRow_s40 {Q : Int → Mem → Prop} {x2 : Int} {x3 : Int} {x4 : Int} {x5 : Int} {s : Mem} (h : x1_findBestRow_b40 (x1_findBestRow_L40 Q) (x1_findBestRow_L77 Q) (x1_findBestRow_L140 Q) (x1_findBestRow_L167 Q) Q x2 x3 x4 x5 s) : x1_findBestRow_L40 Q x2 x3 x4 x5 s := fun X40 X77 X140 X167 k40 k77 k140 k167 => k40 _ _ _ _ _ (x1_findBestRow_m40 (fun _ _ _ _ _ h => h X40 X77 X140 X167 k40 k77 k140 k167) (fun _ _ _ _ _ _ h => h X40 X77 X140 X167 k40 k77 k140 k167) (fun _ _ _ _ _ _ h => h X40 X77 X140 X167 k40 k77 k140 k167) (fun _ _ _ _ h => h X40 X77 X140 X167 k40 k77 k140 k167) (fun _ _ h => h) h)
theorem x1_findBestRow_s77 {Q : Int → Mem → Prop} {x2 : Int} {x3 : Int} {x5 : Int} {t0 : Int} {t1 : Int} {s : Mem} (h : x1_findBestRow_b77 (x1_findBestRow_L40 Q) (x1_findBestRow_L77 Q) (x1_findBestRow_L140 Q) (x1_findBestRow_L167 Q) Q x2 x3 x5 t0 t1 s) : x1_findBestRow_L77 Q x2 x3 x5 t0 t1 s := fun X40 X77 X140 X167 k40 k77 k140 k167 => k77 _ _ _ _ _ _ (x1_findBestRow_m77 (fun _ _ _ _ _ h => h X40 X77 X140 X167 k40 k77 k140 k167) (fun _ _ _ _ _ _ h => h X40 X77 X140 X167 k40 k77 k140 k167) (fun _ _ _ _ _ _ h => h X40 X77 X140 X167 k40 k77 k140 k167) (fun _ _ _ _ h => h X40 X77 X140 X167 k40 k77 k140 k167) (fun _ _ h => h) h)
theorem x1_findBestRow_s140 {Q : Int → Mem → Prop} {x2 : Int} {x3 : Int} {x5 : Int} {x6 : Int} {x7 : Int} {s : Mem} (h : x1_findBestRow_b140 (x1_findBestRow_L40 Q) (x1_findBestRow_L77 Q) (x1_findBestRow_L140 Q) (x1_findBestRow_L167 Q) Q x2 x3 x5 x6 x7 s) : x1_findBestRow_L140 Q x2 x3 x5 x6 x7 s := fun X40 X77 X140 X167 k40 k77 k140 k167 => k140 _ _ _ _ _ _ (x1_findBestRow_m140 (fun _ _ _ _ _ h => h X40 X77 X140 X167 k40 k77 k140 k167) (fun _ _ _ _ _ _ h => h X40 X77 X140 X167 k40 k77 k140 k167) (fun _ _ _ _ _ _ h => h X40 X77 X140 X167 k40 k77 k140 k167) (fun _ _ _ _ h => h X40 X77 X140 X167 k40 k77 k140 k167) (fun _ _ h => h) h)
theorem x1_findBestRow_s167 {Q : Int → Mem → Prop} {x2 : Int} {x3 : Int} {x5 : Int} {s : Mem} (h : x1_findBestRow_b167 (x1_findBestRow_L40 Q) (x1_findBestRow_L77 Q) (x1_findBestRow_L140 Q) (x1_findBestRow_L167 Q) Q x2 x3 x5 s) : x1_findBestRow_L167 Q x2 x3 x5 s := fun X40 X77 X140 X167 k40 k77 k140 k167 => k167 _ _ _ _ (x1_findBestRow_m167 (fun _ _ _ _ _ h => h X40 X77 X140 X167 k40 k77 k140 k167) (fun _ _ _ _ _ _ h => h X40 X77 X140 X167 k40 k77 k140 k167) (fun _ _ _ _ _ _ h => h X40 X77 X140 X167 k40 k77 k140 k167) (fun _ _ _ _ h => h X40 X77 X140 X167 k40 k77 k140 k167) (fun _ _ h => h) h)
theorem x1_findBestRow_mono {Q R : Int → Mem → Prop} {p2 : Int} {s : Mem} (h : x1_findBestRow p2 s Q) (hQ : ∀ r s, Q r s → R r s) : x1_findBestRow p2 s R := fun X40 X77 X140 X167 k40 k77 k140 k167 => x1_findBestRow_me (fun _ _ _ _ _ h => h) (fun _ _ _ _ _ _ h => h) (fun _ _ _ _ _ _ h => h) (fun _ _ _ _ h => h) hQ (h X40 X77 X140 X167 (fun _ _ _ _ _ h => k40 _ _ _ _ _ (x1_findBestRow_m40 (fun _ _ _ _ _ h => h) (fun _ _ _ _ _ _ h => h) (fun _ _ _ _ _ _ h => h) (fun _ _ _ _ h => h) hQ h)) (fun _ _ _ _ _ _ h => k77 _ _ _ _ _ _ (x1_findBestRow_m77 (fun _ _ _ _ _ h => h) (fun _ _ _ _ _ _ h => h) (fun _ _ _ _ _ _ h => h) (fun _ _ _ _ h => h) hQ h)) (fun _ _ _ _ _ _ h => k140 _ _ _ _ _ _ (x1_findBestRow_m140 (fun _ _ _ _ _ h => h) (fun _ _ _ _ _ _ h => h) (fun _ _ _ _ _ _ h => h) (fun _ _ _ _ h => h) hQ h)) (fun _ _ _ _ h => k167 _ _ _ _ (x1_findBestRow_m167 (fun _ _ _ _ _ h => h) (fun _ _ _ _ _ _ h => h) (fun _ _ _ _ _ _ h => h) (fun _ _ _ _ h => h) hQ h)))
def x1_findBestRow_rm : Room := { frames := 5, cells := 0, slots := 0, locals := 144 }
theorem w_x1_findBestRow_28 : Cond.fieldLink RX1 28 "BoltRing$Joint" "turns" "[I" ∈ wsX1_findBestRow := by decide +kernel
theorem w_x1_findBestRow_25 : Cond.fieldLink RX1 25 "BoltRing$Drawing" "byNumbers" "[I" ∈ wsX1_findBestRow := by decide +kernel
theorem w_x1_findBestRow_22 : Cond.fieldLink RX1 22 "BoltRing$Drawing" "trial" "[I" ∈ wsX1_findBestRow := by decide +kernel
theorem w_x1_findBestRow_l33 : Cond.methodLink RX1 33 arraycopyName ∈ wsX1_findBestRow := by decide +kernel
theorem w_x1_findBestRow_ac1 : Cond.native arraycopyName ∈ wsX1_findBestRow := by decide +kernel
theorem w_x1_findBestRow_ac2 : Cond.static arraycopyName ∈ wsX1_findBestRow := by decide +kernel
theorem w_x1_findBestRow_ac3 : Cond.initialized "java/lang/System" ∈ wsX1_findBestRow := by decide +kernel
theorem w_x1_findBestRow_108 : Cond.fieldLink RX1 108 "BoltRing$Drawing" "bestPasses" "I" ∈ wsX1_findBestRow := by decide +kernel
theorem w_x1_findBestRow_118 : Cond.fieldLink RX1 118 "BoltRing$Drawing" "bestDrawn" "I" ∈ wsX1_findBestRow := by decide +kernel
theorem w_x1_findBestRow_76 : Cond.fieldLink RX1 76 "BoltRing$Joint" "bolts" "I" ∈ wsX1_findBestRow := by decide +kernel
theorem w_x1_findBestRow_125 : Cond.fieldLink RX1 125 "BoltRing$Drawing" "bestFigures" "I" ∈ wsX1_findBestRow := by decide +kernel
theorem in_x1_findBestRow_X1 : ∀ w ∈ wsX10, w ∈ wsX1_findBestRow := by decide +kernel
theorem in_x1_findBestRow_X2 : ∀ w ∈ wsX20, w ∈ wsX1_findBestRow := by decide +kernel
set_option maxHeartbeats 4000000 in
set_option maxRecDepth 100000 in
theorem x1_findBestRow_bd {κ : KT} {ad : Nat → Nat} {cA : Nat → ClassId} {D : va_G} {Q : State → Prop} {p2 : Int} {s : Mem} (C : CX κ (GA ad cA D) RX1 cX1_findBestRow 8 wsX1_findBestRow x1_findBestRow_rm none) (h : x1_findBestRow p2 s (RT κ (GA ad cA D) ocV Q)) : WM κ (GA ad cA D) 8 Q s 0 [(0, .ref (ad 13)), (1, .ref (ad 1)), (2, vI p2)] [] := by
  obtain ⟨Z40, z40⟩ : ∃ Z : Int → Int → Int → Int → Mem → Prop, ∀ x2 x3 x4 x5 s, Z x2 x3 x4 x5 s ↔ WM κ (GA ad cA D) 8 Q s 40 [(0, .ref (ad 13)), (1, .ref (ad 1)), (2, vI x2), (3, vI x3), (4, vI x4), (5, vI x5)] [] := ⟨fun x2 x3 x4 x5 s => WM κ (GA ad cA D) 8 Q s 40 [(0, .ref (ad 13)), (1, .ref (ad 1)), (2, vI x2), (3, vI x3), (4, vI x4), (5, vI x5)] [], fun _ _ _ _ _ => Iff.rfl⟩
  obtain ⟨Z77, z77⟩ : ∃ Z : Int → Int → Int → Int → Int → Mem → Prop, ∀ x2 x3 x5 t0 t1 s, Z x2 x3 x5 t0 t1 s ↔ WM κ (GA ad cA D) 8 Q s 77 [(0, .ref (ad 13)), (1, .ref (ad 1)), (2, vI x2), (3, vI x3), (5, vI x5)] [vI t0, vI t1, .ref (ad 21), .ref (ad 1), .ref (ad 13)] := ⟨fun x2 x3 x5 t0 t1 s => WM κ (GA ad cA D) 8 Q s 77 [(0, .ref (ad 13)), (1, .ref (ad 1)), (2, vI x2), (3, vI x3), (5, vI x5)] [vI t0, vI t1, .ref (ad 21), .ref (ad 1), .ref (ad 13)], fun _ _ _ _ _ _ => Iff.rfl⟩
  obtain ⟨Z140, z140⟩ : ∃ Z : Int → Int → Int → Int → Int → Mem → Prop, ∀ x2 x3 x5 x6 x7 s, Z x2 x3 x5 x6 x7 s ↔ WM κ (GA ad cA D) 8 Q s 140 [(0, .ref (ad 13)), (1, .ref (ad 1)), (2, vI x2), (3, vI x3), (5, vI x5), (6, vI x6), (7, vI x7)] [] := ⟨fun x2 x3 x5 x6 x7 s => WM κ (GA ad cA D) 8 Q s 140 [(0, .ref (ad 13)), (1, .ref (ad 1)), (2, vI x2), (3, vI x3), (5, vI x5), (6, vI x6), (7, vI x7)] [], fun _ _ _ _ _ _ => Iff.rfl⟩
  obtain ⟨Z167, z167⟩ : ∃ Z : Int → Int → Int → Mem → Prop, ∀ x2 x3 x5 s, Z x2 x3 x5 s ↔ WM κ (GA ad cA D) 8 Q s 167 [(0, .ref (ad 13)), (1, .ref (ad 1)), (2, vI x2), (3, vI x3), (5, vI x5)] [] := ⟨fun x2 x3 x5 s => WM κ (GA ad cA D) 8 Q s 167 [(0, .ref (ad 13)), (1, .ref (ad 1)), (2, vI x2), (3, vI x3), (5, vI x5)] [], fun _ _ _ _ => Iff.rfl⟩
  refine (fun h => ?_) (h Z40 Z77 Z140 Z167 ?_ ?_ ?_ ?_)
  · refine r_aload_n C 0 dX1_findBestRow_0 rfl ?_
    refine r_aload_n C 1 dX1_findBestRow_1 rfl ?_
    refine r_callV (As := [.ref (ad 1)]) (o := 13) (n := 1) C dX1_findBestRow_2 (x1_keepTurns_ct κ.1.2.1 ad cA D s) gX1_findBestRow_X1_keepTurns rfl ⟨rfl, rfl⟩ (by decide +kernel) (by decide) (shA_13) rfl rfl rfl (Nat.le_of_ble_eq_true rfl) (fun _ => rfl) ?_
    refine x1_keepTurns_mono h (fun _ s1 h => ?_)
    refine r_aload_n C 1 dX1_findBestRow_5 rfl ?_
    refine r_aload_n C 1 dX1_findBestRow_6 rfl ?_
    refine r_get (j := 5) (jz := 5) (v := .ref (ad 4)) C dX1_findBestRow_7 (shA_1) rfl rfl (by decide) in_x1_findBestRow_X2 w_x1_findBestRow_28 rfl rfl rfl ?_
    refine r_callV (As := [.ref (ad 4)]) (o := 1) (n := 1) C dX1_findBestRow_10 (x2_sumOf_ct κ.1.2.1 ad cA D 4 s1) gX1_findBestRow_X2_sumOf rfl ⟨rfl, rfl⟩ (by decide +kernel) (by decide) (shA_1) rfl rfl rfl (Nat.le_of_ble_eq_true rfl) (fun _ => rfl) ?_
    refine x2_sumOf_mono h (fun r3 s2 h => ?_)
    refine r_istore_n (ls' := [(3, vI r3), (0, .ref (ad 13)), (1, .ref (ad 1)), (2, vI p2)]) C dX1_findBestRow_13 rfl (by decide) rfl ?_
    refine r_aload_n C 1 dX1_findBestRow_14 rfl ?_
    refine r_get (j := 6) (jz := 6) (v := .ref (ad 22)) C dX1_findBestRow_15 (shA_13) rfl rfl (by decide) in_x1_findBestRow_X1 w_x1_findBestRow_25 rfl rfl rfl ?_
    refine r_iconst C dX1_findBestRow_18 ?_
    refine r_aload_n C 1 dX1_findBestRow_19 rfl ?_
    refine r_get (j := 5) (jz := 5) (v := .ref (ad 21)) C dX1_findBestRow_20 (shA_13) rfl rfl (by decide) in_x1_findBestRow_X1 w_x1_findBestRow_22 rfl rfl rfl ?_
    refine r_iconst C dX1_findBestRow_23 ?_
    refine r_bipush C dX1_findBestRow_24 (by decide) ?_
    refine r_copyi (n0z := 6) (n1z := 6) C dX1_findBestRow_26 w_x1_findBestRow_l33 w_x1_findBestRow_ac1 w_x1_findBestRow_ac2 w_x1_findBestRow_ac3 (shA_22) (shA_21) rfl rfl (by decide) (by decide) (by decide) (Nat.le_of_ble_eq_true rfl) ⟨h.1, fun s4 e_s4 => ?_⟩
    have h := h.2 s4 e_s4
    refine r_aload_n C 1 dX1_findBestRow_29 rfl ?_
    refine r_iconst C dX1_findBestRow_30 ?_
    refine r_puti (j := 0) (jz := 0) C dX1_findBestRow_31 (shA_13) rfl rfl (by decide) in_x1_findBestRow_X1 tyX1 tyX1_ok nmX1 w_x1_findBestRow_108 rfl rfl (by decide +kernel) rfl (fun s5 e_s5 => ?_)
    have h := h s5 e_s5
    refine r_iconst C dX1_findBestRow_34 ?_
    refine r_istore (ls' := [(4, vI (1 : Int)), (3, vI r3), (0, .ref (ad 13)), (1, .ref (ad 1)), (2, vI p2)]) C dX1_findBestRow_35 (by decide) rfl ?_
    refine r_iconst C dX1_findBestRow_37 ?_
    refine r_istore (ls' := [(5, vI (0 : Int)), (4, vI (1 : Int)), (3, vI r3), (0, .ref (ad 13)), (1, .ref (ad 1)), (2, vI p2)]) C dX1_findBestRow_38 (by decide) rfl ?_
    exact r_perm [3, 4, 5, 2, 1, 0] rfl ((z40 _ _ _ _ _).1 h)
  · intro x2 x3 x4 x5 s h
    refine (z40 _ _ _ _ _).2 ?_
    refine r_iload C 5 dX1_findBestRow_40 rfl ?_
    refine r_sipush C dX1_findBestRow_42 (by decide) ?_
    refine r_icmp_ge (tgt := 186) C dX1_findBestRow_45 (by decide) ⟨h.1, fun c8 => ?_, fun c8 => ?_⟩
    · have h := h.2.1 c8
      exact r_return C dX1_findBestRow_186 h
    · have h := h.2.2 c8
      refine r_iload C 4 dX1_findBestRow_48 rfl ?_
      refine r_if_eq (tgt := 186) C dX1_findBestRow_50 (by decide) ⟨h.1, fun c7 => ?_, fun c7 => ?_⟩
      · have h := h.2.1 c7
        exact r_return C dX1_findBestRow_186 h
      · have h := h.2.2 c7
        refine r_aload_n C 0 dX1_findBestRow_53 rfl ?_
        refine r_aload_n C 1 dX1_findBestRow_54 rfl ?_
        refine r_aload_n C 0 dX1_findBestRow_55 rfl ?_
        refine r_get (j := 5) (jz := 5) (v := .ref (ad 21)) C dX1_findBestRow_56 (shA_13) rfl rfl (by decide) in_x1_findBestRow_X1 w_x1_findBestRow_22 rfl rfl rfl ?_
        refine r_iload_n C 2 dX1_findBestRow_59 rfl ?_
        refine r_aload_n C 0 dX1_findBestRow_60 rfl ?_
        refine r_get (j := 0) (jz := 0) (v := vI (s 13 (0 : Int))) C dX1_findBestRow_61 (shA_13) rfl rfl (by decide) in_x1_findBestRow_X1 w_x1_findBestRow_108 rfl rfl rfl ?_
        refine r_iconst C dX1_findBestRow_64 ?_
        refine r_icmp_ne (tgt := 73) C dX1_findBestRow_65 (by decide) ⟨h.1, fun c6 => ?_, fun c6 => ?_⟩
        · have h := h.2.1 c6
          refine r_aload_n C 0 dX1_findBestRow_73 rfl ?_
          refine r_get (j := 0) (jz := 0) (v := vI (s 13 (0 : Int))) C dX1_findBestRow_74 (shA_13) rfl rfl (by decide) in_x1_findBestRow_X1 w_x1_findBestRow_108 rfl rfl rfl ?_
          exact r_perm [0, 1, 2, 3, 5] rfl ((z77 _ _ _ _ _ _).1 h)
        · have h := h.2.2 c6
          refine r_bipush C dX1_findBestRow_68 (by decide) ?_
          refine r_goto (tgt := 77) C dX1_findBestRow_70 (by decide) ?_
          exact r_perm [0, 1, 2, 3, 5] rfl ((z77 _ _ _ _ _ _).1 h)
  · intro x2 x3 x5 t0 t1 s h
    refine (z77 _ _ _ _ _ _).2 ?_
    refine r_callV (As := [.ref (ad 1), .ref (ad 21), vI t1, vI t0]) (o := 13) (n := 4) C dX1_findBestRow_77 (x1_goRounds_ct κ.1.2.1 ad cA D 21 t1 t0 s) gX1_findBestRow_X1_goRounds rfl ⟨rfl, rfl⟩ (by decide +kernel) (by decide) (shA_13) rfl rfl rfl (Nat.le_of_ble_eq_true rfl) (fun _ => rfl) ?_
    refine x1_goRounds_mono h (fun r10 s9 h => ?_)
    refine r_istore (ls' := [(6, vI r10), (0, .ref (ad 13)), (1, .ref (ad 1)), (2, vI x2), (3, vI x3), (5, vI x5)]) C dX1_findBestRow_80 (by decide) rfl ?_
    refine r_aload_n C 2 dX1_findBestRow_82 rfl ?_
    refine r_aload_n C 2 dX1_findBestRow_83 rfl ?_
    refine r_get (j := 5) (jz := 5) (v := .ref (ad 4)) C dX1_findBestRow_84 (shA_1) rfl rfl (by decide) in_x1_findBestRow_X2 w_x1_findBestRow_28 rfl rfl rfl ?_
    refine r_callV (As := [.ref (ad 4)]) (o := 1) (n := 1) C dX1_findBestRow_87 (x2_sumOf_ct κ.1.2.1 ad cA D 4 s9) gX1_findBestRow_X2_sumOf rfl ⟨rfl, rfl⟩ (by decide +kernel) (by decide) (shA_1) rfl rfl rfl (Nat.le_of_ble_eq_true rfl) (fun _ => rfl) ?_
    refine x2_sumOf_mono h (fun r12 s11 h => ?_)
    refine r_iload_n C 4 dX1_findBestRow_90 rfl ?_
    refine r_isub C dX1_findBestRow_91 ?_
    refine r_istore (ls' := [(7, vI (r12 - x3)), (6, vI r10), (0, .ref (ad 13)), (1, .ref (ad 1)), (2, vI x2), (3, vI x3), (5, vI x5)]) C dX1_findBestRow_92 (by decide) rfl ?_
    refine r_aload_n C 2 dX1_findBestRow_94 rfl ?_
    refine r_aload_n C 3 dX1_findBestRow_95 rfl ?_
    refine r_callV (As := [.ref (ad 1)]) (o := 13) (n := 1) C dX1_findBestRow_96 (x1_putTurnsBack_ct κ.1.2.1 ad cA D s11) gX1_findBestRow_X1_putTurnsBack rfl ⟨rfl, rfl⟩ (by decide +kernel) (by decide) (shA_13) rfl rfl rfl (Nat.le_of_ble_eq_true rfl) (fun _ => rfl) ?_
    refine x1_putTurnsBack_mono h (fun _ s13 h => ?_)
    refine r_iload C 1 dX1_findBestRow_99 rfl ?_
    refine r_iconst C dX1_findBestRow_101 ?_
    refine r_icmp_eq (tgt := 167) C dX1_findBestRow_102 (by decide) ⟨h.1, fun c18 => ?_, fun c18 => ?_⟩
    · have h := h.2.1 c18
      exact r_perm [2, 3, 4, 5, 6] rfl ((z167 _ _ _ _).1 h)
    · have h := h.2.2 c18
      refine r_aload_n C 2 dX1_findBestRow_105 rfl ?_
      refine r_get (j := 0) (jz := 0) (v := vI (s13 13 (0 : Int))) C dX1_findBestRow_106 (shA_13) rfl rfl (by decide) in_x1_findBestRow_X1 w_x1_findBestRow_108 rfl rfl rfl ?_
      refine r_iconst C dX1_findBestRow_109 ?_
      refine r_icmp_eq (tgt := 140) C dX1_findBestRow_110 (by decide) ⟨h.1, fun c17 => ?_, fun c17 => ?_⟩
      · have h := h.2.1 c17
        exact r_perm [2, 3, 4, 5, 6, 1, 0] rfl ((z140 _ _ _ _ _ _).1 h)
      · have h := h.2.2 c17
        refine r_iload C 1 dX1_findBestRow_113 rfl ?_
        refine r_aload_n C 2 dX1_findBestRow_115 rfl ?_
        refine r_get (j := 0) (jz := 0) (v := vI (s13 13 (0 : Int))) C dX1_findBestRow_116 (shA_13) rfl rfl (by decide) in_x1_findBestRow_X1 w_x1_findBestRow_108 rfl rfl rfl ?_
        refine r_icmp_lt (tgt := 140) C dX1_findBestRow_119 (by decide) ⟨h.1, fun c16 => ?_, fun c16 => ?_⟩
        · have h := h.2.1 c16
          exact r_perm [2, 3, 4, 5, 6, 1, 0] rfl ((z140 _ _ _ _ _ _).1 h)
        · have h := h.2.2 c16
          refine r_iload C 1 dX1_findBestRow_122 rfl ?_
          refine r_aload_n C 2 dX1_findBestRow_124 rfl ?_
          refine r_get (j := 0) (jz := 0) (v := vI (s13 13 (0 : Int))) C dX1_findBestRow_125 (shA_13) rfl rfl (by decide) in_x1_findBestRow_X1 w_x1_findBestRow_108 rfl rfl rfl ?_
          refine r_icmp_ne (tgt := 167) C dX1_findBestRow_128 (by decide) ⟨h.1, fun c15 => ?_, fun c15 => ?_⟩
          · have h := h.2.1 c15
            exact r_perm [2, 3, 4, 5, 6] rfl ((z167 _ _ _ _).1 h)
          · have h := h.2.2 c15
            refine r_iload C 0 dX1_findBestRow_131 rfl ?_
            refine r_aload_n C 2 dX1_findBestRow_133 rfl ?_
            refine r_get (j := 1) (jz := 1) (v := vI (s13 13 (1 : Int))) C dX1_findBestRow_134 (shA_13) rfl rfl (by decide) in_x1_findBestRow_X1 w_x1_findBestRow_118 rfl rfl rfl ?_
            refine r_icmp_ge (tgt := 167) C dX1_findBestRow_137 (by decide) ⟨h.1, fun c14 => ?_, fun c14 => ?_⟩
            · have h := h.2.1 c14
              exact r_perm [2, 3, 4, 5, 6] rfl ((z167 _ _ _ _).1 h)
            · have h := h.2.2 c14
              exact r_perm [2, 3, 4, 5, 6, 1, 0] rfl ((z140 _ _ _ _ _ _).1 h)
  · intro x2 x3 x5 x6 x7 s h
    refine (z140 _ _ _ _ _ _).2 ?_
    refine r_aload_n C 0 dX1_findBestRow_140 rfl ?_
    refine r_iload C 5 dX1_findBestRow_141 rfl ?_
    refine r_puti (j := 0) (jz := 0) C dX1_findBestRow_143 (shA_13) rfl rfl (by decide) in_x1_findBestRow_X1 tyX1 tyX1_ok nmX1 w_x1_findBestRow_108 rfl rfl (by decide +kernel) rfl (fun s19 e_s19 => ?_)
    have h := h s19 e_s19
    refine r_aload_n C 0 dX1_findBestRow_146 rfl ?_
    refine r_iload C 6 dX1_findBestRow_147 rfl ?_
    refine r_puti (j := 1) (jz := 1) C dX1_findBestRow_149 (shA_13) rfl rfl (by decide) in_x1_findBestRow_X1 tyX1 tyX1_ok nmX1 w_x1_findBestRow_118 rfl rfl (by decide +kernel) rfl (fun s20 e_s20 => ?_)
    have h := h s20 e_s20
    refine r_aload_n C 0 dX1_findBestRow_152 rfl ?_
    refine r_aload_n C 0 dX1_findBestRow_153 rfl ?_
    refine r_get (j := 5) (jz := 5) (v := .ref (ad 21)) C dX1_findBestRow_154 (shA_13) rfl rfl (by decide) in_x1_findBestRow_X1 w_x1_findBestRow_22 rfl rfl rfl ?_
    refine r_aload_n C 1 dX1_findBestRow_157 rfl ?_
    refine r_get (j := 0) (jz := 0) (v := vI (s20 1 (0 : Int))) C dX1_findBestRow_158 (shA_1) rfl rfl (by decide) in_x1_findBestRow_X2 w_x1_findBestRow_76 rfl rfl rfl ?_
    refine r_callS (As := [.ref (ad 21), vI (s20 1 (0 : Int))]) (n := 2) C dX1_findBestRow_161 (x1_figuresOf_ct κ.1.2.1 ad cA D 21 (s20 1 (0 : Int)) s20) gX1_findBestRow_X1_figuresOf rfl ⟨rfl, rfl⟩ (by decide +kernel) (by decide) rfl rfl (Nat.le_of_ble_eq_true rfl) (fun _ => rfl) ?_
    refine x1_figuresOf_mono h (fun r22 s21 h => ?_)
    refine r_puti (j := 2) (jz := 2) C dX1_findBestRow_164 (shA_13) rfl rfl (by decide) in_x1_findBestRow_X1 tyX1 tyX1_ok nmX1 w_x1_findBestRow_125 rfl rfl (by decide +kernel) rfl (fun s23 e_s23 => ?_)
    have h := h s23 e_s23
    exact r_perm [0, 1, 2, 3, 4] rfl ((z167 _ _ _ _).1 h)
  · intro x2 x3 x5 s h
    refine (z167 _ _ _ _).2 ?_
    refine r_aload_n C 0 dX1_findBestRow_167 rfl ?_
    refine r_get (j := 5) (jz := 5) (v := .ref (ad 21)) C dX1_findBestRow_168 (shA_13) rfl rfl (by decide) in_x1_findBestRow_X1 w_x1_findBestRow_22 rfl rfl rfl ?_
    refine r_aload_n C 1 dX1_findBestRow_171 rfl ?_
    refine r_get (j := 0) (jz := 0) (v := vI (s 1 (0 : Int))) C dX1_findBestRow_172 (shA_1) rfl rfl (by decide) in_x1_findBestRow_X2 w_x1_findBestRow_76 rfl rfl rfl ?_
    refine r_callS (As := [.ref (ad 21), vI (s 1 (0 : Int))]) (n := 2) C dX1_findBestRow_175 (x1_toNextOrder_ct κ.1.2.1 ad cA D 21 (s 1 (0 : Int)) s) gX1_findBestRow_X1_toNextOrder rfl ⟨rfl, rfl⟩ (by decide +kernel) (by decide) rfl rfl (Nat.le_of_ble_eq_true rfl) (fun _ => rfl) ?_
    refine x1_toNextOrder_mono h (fun r25 s24 h => ?_)
    refine r_istore (ls' := [(4, vI r25), (0, .ref (ad 13)), (1, .ref (ad 1)), (2, vI x2), (3, vI x3), (5, vI x5)]) C dX1_findBestRow_178 (by decide) rfl ?_
    refine r_iinc (j := 5) (ls' := [(5, vI (x5 + (1 : Int))), (4, vI r25), (0, .ref (ad 13)), (1, .ref (ad 1)), (2, vI x2), (3, vI x3)]) C dX1_findBestRow_180 rfl (by decide) rfl ?_
    refine r_goto (tgt := 40) C dX1_findBestRow_183 (by decide) ?_
    exact r_perm [2, 3, 4, 5, 1, 0] rfl ((z40 _ _ _ _ _).1 h)
theorem x1_findBestRow_ct (l : Launch) (ad : Nat → Nat) (cA : Nat → ClassId) (D : va_G) (p2 : Int) (s : Mem) : MG l yX1_findBestRow wsX1_findBestRow x1_findBestRow_rm ocV [.ref (ad 13), .ref (ad 1), vI p2] (GA ad cA D) s (x1_findBestRow p2 s) :=
  m_met (own := RX1) (nL := 8) (by decide) rfl rfl (Nat.le_of_ble_eq_true rfl) rfl rfl rfl (fun κ hl C Q Pst hW hQ => x1_findBestRow_bd C (x1_findBestRow_mono hW hQ))

def x1_drawEvenFromNothing_be (X2 : Int → Int → Mem → Prop) (X33 : Int → Int → Mem → Prop) (Q : Int → Mem → Prop) (p2 : Int) (s : Mem) : Prop :=
  X2 p2 (0 : Int) s
def x1_drawEvenFromNothing_b2 (X2 : Int → Int → Mem → Prop) (X33 : Int → Int → Mem → Prop) (Q : Int → Mem → Prop) (x2 : Int) (x3 : Int) (s : Mem) : Prop :=
  (InI x3 ∧ InI (s 1 (0 : Int))) ∧ ((s 1 (0 : Int)) ≤ x3 → X33 x2 (0 : Int) s) ∧ (x3 < (s 1 (0 : Int)) → x2_isBroken x3 s (fun r2 s1 => InI r2 ∧ (¬ r2 = (0 : Int) → X2 x2 (x3 + (1 : Int)) s1) ∧ (r2 = (0 : Int) → ((0 : Int) ≤ x3 ∧ x3 < 6) ∧ ∀ s3 : Mem, s3 = m_upd s1 4 x3 (0 : Int) → X2 x2 (x3 + (1 : Int)) s3)))
def x1_drawEvenFromNothing_b33 (X2 : Int → Int → Mem → Prop) (X33 : Int → Int → Mem → Prop) (Q : Int → Mem → Prop) (x2 : Int) (x3 : Int) (s : Mem) : Prop :=
  (InI x3 ∧ InI (1202 : Int)) ∧ ((1202 : Int) ≤ x3 → ((0 : Int) ≤ (0 : Int) ∧ (0 : Int) ≤ 1) ∧ Q (0 : Int) s) ∧ (x3 < (1202 : Int) → x1_goRound 22 x2 s (fun r7 s6 => (InI r7 ∧ InI (-1 : Int)) ∧ (r7 = (-1 : Int) → InI r7 ∧ (¬ r7 = (0 : Int) → ((0 : Int) ≤ (0 : Int) ∧ (0 : Int) ≤ 1) ∧ Q (0 : Int) s6) ∧ (r7 = (0 : Int) → ((0 : Int) ≤ (1 : Int) ∧ (1 : Int) ≤ 1) ∧ Q (1 : Int) s6)) ∧ (¬ r7 = (-1 : Int) → InI r7 ∧ (¬ r7 = (0 : Int) → X33 x2 (x3 + (1 : Int)) s6) ∧ (r7 = (0 : Int) → InI r7 ∧ (¬ r7 = (0 : Int) → ((0 : Int) ≤ (0 : Int) ∧ (0 : Int) ≤ 1) ∧ Q (0 : Int) s6) ∧ (r7 = (0 : Int) → ((0 : Int) ≤ (1 : Int) ∧ (1 : Int) ≤ 1) ∧ Q (1 : Int) s6)))))
theorem x1_drawEvenFromNothing_me {X2 Y2 : Int → Int → Mem → Prop} {X33 Y33 : Int → Int → Mem → Prop} {Q R : Int → Mem → Prop} (hX2 : ∀ x2 x3 s, X2 x2 x3 s → Y2 x2 x3 s) (hX33 : ∀ x2 x3 s, X33 x2 x3 s → Y33 x2 x3 s) (hQ : ∀ r s, Q r s → R r s) {p2 : Int} {s : Mem} (h : x1_drawEvenFromNothing_be X2 X33 Q p2 s) : x1_drawEvenFromNothing_be Y2 Y33 R p2 s :=
  hX2 _ _ _ h
theorem x1_drawEvenFromNothing_m2 {X2 Y2 : Int → Int → Mem → Prop} {X33 Y33 : Int → Int → Mem → Prop} {Q R : Int → Mem → Prop} (hX2 : ∀ x2 x3 s, X2 x2 x3 s → Y2 x2 x3 s) (hX33 : ∀ x2 x3 s, X33 x2 x3 s → Y33 x2 x3 s) (hQ : ∀ r s, Q r s → R r s) {x2 : Int} {x3 : Int} {s : Mem} (h : x1_drawEvenFromNothing_b2 X2 X33 Q x2 x3 s) : x1_drawEvenFromNothing_b2 Y2 Y33 R x2 x3 s :=
  ⟨h.1, fun c => have h := h.2.1 c; hX33 _ _ _ h, fun c => have h := h.2.2 c; x2_isBroken_mono h (fun r2 s1 h => ⟨h.1, fun c => have h := h.2.1 c; hX2 _ _ _ h, fun c => have h := h.2.2 c; ⟨h.1, have h := h.2; fun s3 e_s3 => have h := h s3 e_s3; hX2 _ _ _ h⟩⟩)⟩
theorem x1_drawEvenFromNothing_m33 {X2 Y2 : Int → Int → Mem → Prop} {X33 Y33 : Int → Int → Mem → Prop} {Q R : Int → Mem → Prop} (hX2 : ∀ x2 x3 s, X2 x2 x3 s → Y2 x2 x3 s) (hX33 : ∀ x2 x3 s, X33 x2 x3 s → Y33 x2 x3 s) (hQ : ∀ r s, Q r s → R r s) {x2 : Int} {x3 : Int} {s : Mem} (h : x1_drawEvenFromNothing_b33 X2 X33 Q x2 x3 s) : x1_drawEvenFromNothing_b33 Y2 Y33 R x2 x3 s :=
  ⟨h.1, fun c => have h := h.2.1 c; ⟨h.1, hQ _ _ h.2⟩, fun c => have h := h.2.2 c; x1_goRound_mono h (fun r7 s6 h => ⟨h.1, fun c => have h := h.2.1 c; ⟨h.1, fun c => have h := h.2.1 c; ⟨h.1, hQ _ _ h.2⟩, fun c => have h := h.2.2 c; ⟨h.1, hQ _ _ h.2⟩⟩, fun c => have h := h.2.2 c; ⟨h.1, fun c => have h := h.2.1 c; hX33 _ _ _ h, fun c => have h := h.2.2 c; ⟨h.1, fun c => have h := h.2.1 c; ⟨h.1, hQ _ _ h.2⟩, fun c => have h := h.2.2 c; ⟨h.1, hQ _ _ h.2⟩⟩⟩⟩)⟩
def x1_drawEvenFromNothing (p2 : Int) (s : Mem) (Q : Int → Mem → Prop) : Prop := ∀ (X2 : Int → Int → Mem → Prop) (X33 : Int → Int → Mem → Prop), (∀ x2 x3 s, x1_drawEvenFromNothing_b2 X2 X33 Q x2 x3 s → X2 x2 x3 s) → (∀ x2 x3 s, x1_drawEvenFromNothing_b33 X2 X33 Q x2 x3 s → X33 x2 x3 s) → x1_drawEvenFromNothing_be X2 X33 Q p2 s
def x1_drawEvenFromNothing_L2 (Q : Int → Mem → Prop) (x2 : Int) (x3 : Int) (s : Mem) : Prop := ∀ (X2 : Int → Int → Mem → Prop) (X33 : Int → Int → Mem → Prop), (∀ x2 x3 s, x1_drawEvenFromNothing_b2 X2 X33 Q x2 x3 s → X2 x2 x3 s) → (∀ x2 x3 s, x1_drawEvenFromNothing_b33 X2 X33 Q x2 x3 s → X33 x2 x3 s) → X2 x2 x3 s
def x1_drawEvenFromNothing_L33 (Q : Int → Mem → Prop) (x2 : Int) (x3 : Int) (s : Mem) : Prop := ∀ (X2 : Int → Int → Mem → Prop) (X33 : Int → Int → Mem → Prop), (∀ x2 x3 s, x1_drawEvenFromNothing_b2 X2 X33 Q x2 x3 s → X2 x2 x3 s) → (∀ x2 x3 s, x1_drawEvenFromNothing_b33 X2 X33 Q x2 x3 s → X33 x2 x3 s) → X33 x2 x3 s
theorem x1_drawEvenFromNothing_i {Q : Int → Mem → Prop} {p2 : Int} {s : Mem} (h : x1_drawEvenFromNothing_be (x1_drawEvenFromNothing_L2 Q) (x1_drawEvenFromNothing_L33 Q) Q p2 s) : x1_drawEvenFromNothing p2 s Q := fun X2 X33 k2 k33 => x1_drawEvenFromNothing_me (fun _ _ _ h => h X2 X33 k2 k33) (fun _ _ _ h => h X2 X33 k2 k33) (fun _ _ h => h) h
theorem x1_drawEvenFromNothing_s2 {Q : Int → Mem → Prop} {x2 : Int} {x3 : Int} {s : Mem} (h : x1_drawEvenFromNothing_b2 (x1_drawEvenFromNothing_L2 Q) (x1_drawEvenFromNothing_L33 Q) Q x2 x3 s) : x1_drawEvenFromNothing_L2 Q x2 x3 s := fun X2 X33 k2 k33 => k2 _ _ _ (x1_drawEvenFromNothing_m2 (fun _ _ _ h => h X2 X33 k2 k33) (fun _ _ _ h => h X2 X33 k2 k33) (fun _ _ h => h) h)
theorem x1_drawEvenFromNothing_s33 {Q : Int → Mem → Prop} {x2 : Int} {x3 : Int} {s : Mem} (h : x1_drawEvenFromNothing_b33 (x1_drawEvenFromNothing_L2 Q) (x1_drawEvenFromNothing_L33 Q) Q x2 x3 s) : x1_drawEvenFromNothing_L33 Q x2 x3 s := fun X2 X33 k2 k33 => k33 _ _ _ (x1_drawEvenFromNothing_m33 (fun _ _ _ h => h X2 X33 k2 k33) (fun _ _ _ h => h X2 X33 k2 k33) (fun _ _ h => h) h)
theorem x1_drawEvenFromNothing_mono {Q R : Int → Mem → Prop} {p2 : Int} {s : Mem} (h : x1_drawEvenFromNothing p2 s Q) (hQ : ∀ r s, Q r s → R r s) : x1_drawEvenFromNothing p2 s R := fun X2 X33 k2 k33 => x1_drawEvenFromNothing_me (fun _ _ _ h => h) (fun _ _ _ h => h) hQ (h X2 X33 (fun _ _ _ h => k2 _ _ _ (x1_drawEvenFromNothing_m2 (fun _ _ _ h => h) (fun _ _ _ h => h) hQ h)) (fun _ _ _ h => k33 _ _ _ (x1_drawEvenFromNothing_m33 (fun _ _ _ h => h) (fun _ _ _ h => h) hQ h)))
def x1_drawEvenFromNothing_rm : Room := { frames := 4, cells := 0, slots := 0, locals := 119 }
theorem w_x1_drawEvenFromNothing_76 : Cond.fieldLink RX1 76 "BoltRing$Joint" "bolts" "I" ∈ wsX1_drawEvenFromNothing := by decide +kernel
theorem w_x1_drawEvenFromNothing_28 : Cond.fieldLink RX1 28 "BoltRing$Joint" "turns" "[I" ∈ wsX1_drawEvenFromNothing := by decide +kernel
theorem w_x1_drawEvenFromNothing_25 : Cond.fieldLink RX1 25 "BoltRing$Drawing" "byNumbers" "[I" ∈ wsX1_drawEvenFromNothing := by decide +kernel
theorem in_x1_drawEvenFromNothing_X1 : ∀ w ∈ wsX10, w ∈ wsX1_drawEvenFromNothing := by decide +kernel
theorem in_x1_drawEvenFromNothing_X2 : ∀ w ∈ wsX20, w ∈ wsX1_drawEvenFromNothing := by decide +kernel
set_option maxHeartbeats 4000000 in
set_option maxRecDepth 100000 in
theorem x1_drawEvenFromNothing_bd {κ : KT} {ad : Nat → Nat} {cA : Nat → ClassId} {D : va_G} {Q : State → Prop} {p2 : Int} {s : Mem} (C : CX κ (GA ad cA D) RX1 cX1_drawEvenFromNothing 5 wsX1_drawEvenFromNothing x1_drawEvenFromNothing_rm (some .boolean)) (h : x1_drawEvenFromNothing p2 s (RT κ (GA ad cA D) ocI Q)) : WM κ (GA ad cA D) 5 Q s 0 [(0, .ref (ad 13)), (1, .ref (ad 1)), (2, vI p2)] [] := by
  obtain ⟨Z2, z2⟩ : ∃ Z : Int → Int → Mem → Prop, ∀ x2 x3 s, Z x2 x3 s ↔ WM κ (GA ad cA D) 5 Q s 2 [(0, .ref (ad 13)), (1, .ref (ad 1)), (2, vI x2), (3, vI x3)] [] := ⟨fun x2 x3 s => WM κ (GA ad cA D) 5 Q s 2 [(0, .ref (ad 13)), (1, .ref (ad 1)), (2, vI x2), (3, vI x3)] [], fun _ _ _ => Iff.rfl⟩
  obtain ⟨Z33, z33⟩ : ∃ Z : Int → Int → Mem → Prop, ∀ x2 x3 s, Z x2 x3 s ↔ WM κ (GA ad cA D) 5 Q s 33 [(0, .ref (ad 13)), (1, .ref (ad 1)), (2, vI x2), (3, vI x3)] [] := ⟨fun x2 x3 s => WM κ (GA ad cA D) 5 Q s 33 [(0, .ref (ad 13)), (1, .ref (ad 1)), (2, vI x2), (3, vI x3)] [], fun _ _ _ => Iff.rfl⟩
  refine (fun h => ?_) (h Z2 Z33 ?_ ?_)
  · refine r_iconst C dX1_drawEvenFromNothing_0 ?_
    refine r_istore_n (ls' := [(3, vI (0 : Int)), (0, .ref (ad 13)), (1, .ref (ad 1)), (2, vI p2)]) C dX1_drawEvenFromNothing_1 rfl (by decide) rfl ?_
    exact r_perm [1, 2, 3, 0] rfl ((z2 _ _ _).1 h)
  · intro x2 x3 s h
    refine (z2 _ _ _).2 ?_
    refine r_iload_n C 3 dX1_drawEvenFromNothing_2 rfl ?_
    refine r_aload_n C 1 dX1_drawEvenFromNothing_3 rfl ?_
    refine r_get (j := 0) (jz := 0) (v := vI (s 1 (0 : Int))) C dX1_drawEvenFromNothing_4 (shA_1) rfl rfl (by decide) in_x1_drawEvenFromNothing_X2 w_x1_drawEvenFromNothing_76 rfl rfl rfl ?_
    refine r_icmp_ge (tgt := 31) C dX1_drawEvenFromNothing_7 (by decide) ⟨h.1, fun c5 => ?_, fun c5 => ?_⟩
    · have h := h.2.1 c5
      refine r_iconst C dX1_drawEvenFromNothing_31 ?_
      refine r_istore_n (ls' := [(3, vI (0 : Int)), (0, .ref (ad 13)), (1, .ref (ad 1)), (2, vI x2)]) C dX1_drawEvenFromNothing_32 rfl (by decide) rfl ?_
      exact r_perm [1, 2, 3, 0] rfl ((z33 _ _ _).1 h)
    · have h := h.2.2 c5
      refine r_aload_n C 1 dX1_drawEvenFromNothing_10 rfl ?_
      refine r_iload_n C 3 dX1_drawEvenFromNothing_11 rfl ?_
      refine r_callV (As := [vI x3]) (o := 1) (n := 1) C dX1_drawEvenFromNothing_12 (x2_isBroken_ct κ.1.2.1 ad cA D x3 s) gX1_drawEvenFromNothing_X2_isBroken rfl ⟨rfl, rfl⟩ (by decide +kernel) (by decide) (shA_1) rfl rfl rfl (Nat.le_of_ble_eq_true rfl) (fun _ => rfl) ?_
      refine x2_isBroken_mono h (fun r2 s1 h => ?_)
      refine r_if_ne (tgt := 25) C dX1_drawEvenFromNothing_15 (by decide) ⟨h.1, fun c4 => ?_, fun c4 => ?_⟩
      · have h := h.2.1 c4
        refine r_iinc (j := 3) (ls' := [(3, vI (x3 + (1 : Int))), (0, .ref (ad 13)), (1, .ref (ad 1)), (2, vI x2)]) C dX1_drawEvenFromNothing_25 rfl (by decide) rfl ?_
        refine r_goto (tgt := 2) C dX1_drawEvenFromNothing_28 (by decide) ?_
        exact r_perm [1, 2, 3, 0] rfl ((z2 _ _ _).1 h)
      · have h := h.2.2 c4
        refine r_aload_n C 1 dX1_drawEvenFromNothing_18 rfl ?_
        refine r_get (j := 5) (jz := 5) (v := .ref (ad 4)) C dX1_drawEvenFromNothing_19 (shA_1) rfl rfl (by decide) in_x1_drawEvenFromNothing_X2 w_x1_drawEvenFromNothing_28 rfl rfl rfl ?_
        refine r_iload_n C 3 dX1_drawEvenFromNothing_22 rfl ?_
        refine r_iconst C dX1_drawEvenFromNothing_23 ?_
        refine r_iast (nz := 6) C dX1_drawEvenFromNothing_24 (shA_4) rfl (by decide) ⟨h.1, fun s3 e_s3 => ?_⟩
        have h := h.2 s3 e_s3
        refine r_iinc (j := 3) (ls' := [(3, vI (x3 + (1 : Int))), (0, .ref (ad 13)), (1, .ref (ad 1)), (2, vI x2)]) C dX1_drawEvenFromNothing_25 rfl (by decide) rfl ?_
        refine r_goto (tgt := 2) C dX1_drawEvenFromNothing_28 (by decide) ?_
        exact r_perm [1, 2, 3, 0] rfl ((z2 _ _ _).1 h)
  · intro x2 x3 s h
    refine (z33 _ _ _).2 ?_
    refine r_iload_n C 3 dX1_drawEvenFromNothing_33 rfl ?_
    refine r_sipush C dX1_drawEvenFromNothing_34 (by decide) ?_
    refine r_icmp_ge (tgt := 80) C dX1_drawEvenFromNothing_37 (by decide) ⟨h.1, fun c12 => ?_, fun c12 => ?_⟩
    · have h := h.2.1 c12
      refine r_iconst C dX1_drawEvenFromNothing_80 ?_
      exact r_zreturn C dX1_drawEvenFromNothing_81 h
    · have h := h.2.2 c12
      refine r_aload_n C 0 dX1_drawEvenFromNothing_40 rfl ?_
      refine r_aload_n C 1 dX1_drawEvenFromNothing_41 rfl ?_
      refine r_aload_n C 0 dX1_drawEvenFromNothing_42 rfl ?_
      refine r_get (j := 6) (jz := 6) (v := .ref (ad 22)) C dX1_drawEvenFromNothing_43 (shA_13) rfl rfl (by decide) in_x1_drawEvenFromNothing_X1 w_x1_drawEvenFromNothing_25 rfl rfl rfl ?_
      refine r_iload_n C 2 dX1_drawEvenFromNothing_46 rfl ?_
      refine r_callV (As := [.ref (ad 1), .ref (ad 22), vI x2]) (o := 13) (n := 3) C dX1_drawEvenFromNothing_47 (x1_goRound_ct κ.1.2.1 ad cA D 22 x2 s) gX1_drawEvenFromNothing_X1_goRound rfl ⟨rfl, rfl⟩ (by decide +kernel) (by decide) (shA_13) rfl rfl rfl (Nat.le_of_ble_eq_true rfl) (fun _ => rfl) ?_
      refine x1_goRound_mono h (fun r7 s6 h => ?_)
      refine r_istore (ls' := [(4, vI r7), (0, .ref (ad 13)), (1, .ref (ad 1)), (2, vI x2), (3, vI x3)]) C dX1_drawEvenFromNothing_50 (by decide) rfl ?_
      refine r_iload C 0 dX1_drawEvenFromNothing_52 rfl ?_
      refine r_iconst C dX1_drawEvenFromNothing_54 ?_
      refine r_icmp_eq (tgt := 63) C dX1_drawEvenFromNothing_55 (by decide) ⟨h.1, fun c11 => ?_, fun c11 => ?_⟩
      · have h := h.2.1 c11
        refine r_iload C 0 dX1_drawEvenFromNothing_63 rfl ?_
        refine r_if_ne (tgt := 72) C dX1_drawEvenFromNothing_65 (by decide) ⟨h.1, fun c8 => ?_, fun c8 => ?_⟩
        · have h := h.2.1 c8
          refine r_iconst C dX1_drawEvenFromNothing_72 ?_
          exact r_zreturn C dX1_drawEvenFromNothing_73 h
        · have h := h.2.2 c8
          refine r_iconst C dX1_drawEvenFromNothing_68 ?_
          refine r_goto (tgt := 73) C dX1_drawEvenFromNothing_69 (by decide) ?_
          exact r_zreturn C dX1_drawEvenFromNothing_73 h
      · have h := h.2.2 c11
        refine r_iload C 0 dX1_drawEvenFromNothing_58 rfl ?_
        refine r_if_ne (tgt := 74) C dX1_drawEvenFromNothing_60 (by decide) ⟨h.1, fun c10 => ?_, fun c10 => ?_⟩
        · have h := h.2.1 c10
          refine r_iinc (j := 4) (ls' := [(3, vI (x3 + (1 : Int))), (4, vI r7), (0, .ref (ad 13)), (1, .ref (ad 1)), (2, vI x2)]) C dX1_drawEvenFromNothing_74 rfl (by decide) rfl ?_
          refine r_goto (tgt := 33) C dX1_drawEvenFromNothing_77 (by decide) ?_
          exact r_perm [2, 3, 4, 0] rfl ((z33 _ _ _).1 h)
        · have h := h.2.2 c10
          refine r_iload C 0 dX1_drawEvenFromNothing_63 rfl ?_
          refine r_if_ne (tgt := 72) C dX1_drawEvenFromNothing_65 (by decide) ⟨h.1, fun c9 => ?_, fun c9 => ?_⟩
          · have h := h.2.1 c9
            refine r_iconst C dX1_drawEvenFromNothing_72 ?_
            exact r_zreturn C dX1_drawEvenFromNothing_73 h
          · have h := h.2.2 c9
            refine r_iconst C dX1_drawEvenFromNothing_68 ?_
            refine r_goto (tgt := 73) C dX1_drawEvenFromNothing_69 (by decide) ?_
            exact r_zreturn C dX1_drawEvenFromNothing_73 h
theorem x1_drawEvenFromNothing_ct (l : Launch) (ad : Nat → Nat) (cA : Nat → ClassId) (D : va_G) (p2 : Int) (s : Mem) : MG l yX1_drawEvenFromNothing wsX1_drawEvenFromNothing x1_drawEvenFromNothing_rm ocI [.ref (ad 13), .ref (ad 1), vI p2] (GA ad cA D) s (x1_drawEvenFromNothing p2 s) :=
  m_met (own := RX1) (nL := 5) (by decide) rfl rfl (Nat.le_of_ble_eq_true rfl) rfl rfl rfl (fun κ hl C Q Pst hW hQ => x1_drawEvenFromNothing_bd C (x1_drawEvenFromNothing_mono hW hQ))
end
section
def x4_weigh (p1 : Int) (p2 : Int) (p3 : Int) (s : Mem) (Q : Int → Mem → Prop) : Prop :=
  ((0 : Int) ≤ (0 : Int) ∧ (0 : Int) < 3) ∧ ∀ s1 : Mem, s1 = m_upd s 32 (0 : Int) p1 → ((0 : Int) ≤ (1 : Int) ∧ (1 : Int) < 3) ∧ ∀ s2 : Mem, s2 = m_upd s1 32 (1 : Int) p2 → ((0 : Int) ≤ (2 : Int) ∧ (2 : Int) < 3) ∧ ∀ s3 : Mem, s3 = m_upd s2 32 (2 : Int) p3 → Q (0 : Int) s3
theorem x4_weigh_mono {Q R : Int → Mem → Prop} {p1 : Int} {p2 : Int} {p3 : Int} {s : Mem} (h : x4_weigh p1 p2 p3 s Q) (hQ : ∀ r s, Q r s → R r s) : x4_weigh p1 p2 p3 s R :=
  ⟨h.1, have h := h.2; fun s1 e_s1 => have h := h s1 e_s1; ⟨h.1, have h := h.2; fun s2 e_s2 => have h := h s2 e_s2; ⟨h.1, have h := h.2; fun s3 e_s3 => have h := h s3 e_s3; hQ _ _ h⟩⟩⟩
def x4_weigh_rm : Room := { frames := 0, cells := 0, slots := 0, locals := 0 }
theorem w_x4_weigh_9 : Cond.fieldLink RX4 9 "BoltRing$Misses" "weights" "[I" ∈ wsX4_weigh := by decide +kernel
theorem in_x4_weigh_X4 : ∀ w ∈ wsX40, w ∈ wsX4_weigh := by decide +kernel
set_option maxHeartbeats 4000000 in
set_option maxRecDepth 100000 in
theorem x4_weigh_bd {κ : KT} {ad : Nat → Nat} {cA : Nat → ClassId} {D : va_G} {Q : State → Prop} {p1 : Int} {p2 : Int} {p3 : Int} {s : Mem} (C : CX κ (GA ad cA D) RX4 cX4_weigh 4 wsX4_weigh x4_weigh_rm none) (h : x4_weigh p1 p2 p3 s (RT κ (GA ad cA D) ocV Q)) : WM κ (GA ad cA D) 4 Q s 0 [(0, .ref (ad 31)), (1, vI p1), (2, vI p2), (3, vI p3)] [] := by
  refine r_aload_n C 0 dX4_weigh_0 rfl ?_
  refine r_get (j := 0) (jz := 0) (v := .ref (ad 32)) C dX4_weigh_1 (shA_31) rfl rfl (by decide) in_x4_weigh_X4 w_x4_weigh_9 rfl rfl rfl ?_
  refine r_iconst C dX4_weigh_4 ?_
  refine r_iload_n C 1 dX4_weigh_5 rfl ?_
  refine r_iast (nz := 3) C dX4_weigh_6 (shA_32) rfl (by decide) ⟨h.1, fun s1 e_s1 => ?_⟩
  have h := h.2 s1 e_s1
  refine r_aload_n C 0 dX4_weigh_7 rfl ?_
  refine r_get (j := 0) (jz := 0) (v := .ref (ad 32)) C dX4_weigh_8 (shA_31) rfl rfl (by decide) in_x4_weigh_X4 w_x4_weigh_9 rfl rfl rfl ?_
  refine r_iconst C dX4_weigh_11 ?_
  refine r_iload_n C 2 dX4_weigh_12 rfl ?_
  refine r_iast (nz := 3) C dX4_weigh_13 (shA_32) rfl (by decide) ⟨h.1, fun s2 e_s2 => ?_⟩
  have h := h.2 s2 e_s2
  refine r_aload_n C 0 dX4_weigh_14 rfl ?_
  refine r_get (j := 0) (jz := 0) (v := .ref (ad 32)) C dX4_weigh_15 (shA_31) rfl rfl (by decide) in_x4_weigh_X4 w_x4_weigh_9 rfl rfl rfl ?_
  refine r_iconst C dX4_weigh_18 ?_
  refine r_iload_n C 3 dX4_weigh_19 rfl ?_
  refine r_iast (nz := 3) C dX4_weigh_20 (shA_32) rfl (by decide) ⟨h.1, fun s3 e_s3 => ?_⟩
  have h := h.2 s3 e_s3
  exact r_return C dX4_weigh_21 h
theorem x4_weigh_ct (l : Launch) (ad : Nat → Nat) (cA : Nat → ClassId) (D : va_G) (p1 : Int) (p2 : Int) (p3 : Int) (s : Mem) : MG l yX4_weigh wsX4_weigh x4_weigh_rm ocV [.ref (ad 31), vI p1, vI p2, vI p3] (GA ad cA D) s (x4_weigh p1 p2 p3 s) :=
  m_met (own := RX4) (nL := 4) (by decide) rfl rfl (Nat.le_of_ble_eq_true rfl) rfl rfl rfl (fun κ hl C Q Pst hW hQ => x4_weigh_bd C (x4_weigh_mono hW hQ))

def x4_begin  (s : Mem) (Q : Int → Mem → Prop) : Prop :=
  x4_weigh (1 : Int) (2 : Int) (1 : Int) s (fun _ s1 => Q (0 : Int) s1)
theorem x4_begin_mono {Q R : Int → Mem → Prop}  {s : Mem} (h : x4_begin  s Q) (hQ : ∀ r s, Q r s → R r s) : x4_begin  s R :=
  x4_weigh_mono h (fun _ s1 h => hQ _ _ h)
def x4_begin_rm : Room := { frames := 1, cells := 0, slots := 0, locals := 23 }
set_option maxHeartbeats 4000000 in
set_option maxRecDepth 100000 in
theorem x4_begin_bd {κ : KT} {ad : Nat → Nat} {cA : Nat → ClassId} {D : va_G} {Q : State → Prop}  {s : Mem} (C : CX κ (GA ad cA D) RX4 cX4_begin 1 wsX4_begin x4_begin_rm none) (h : x4_begin  s (RT κ (GA ad cA D) ocV Q)) : WM κ (GA ad cA D) 1 Q s 0 [(0, .ref (ad 31))] [] := by
  refine r_aload_n C 0 dX4_begin_0 rfl ?_
  refine r_iconst C dX4_begin_1 ?_
  refine r_iconst C dX4_begin_2 ?_
  refine r_iconst C dX4_begin_3 ?_
  refine r_callV (As := [vI (1 : Int), vI (2 : Int), vI (1 : Int)]) (o := 31) (n := 3) C dX4_begin_4 (x4_weigh_ct κ.1.2.1 ad cA D (1 : Int) (2 : Int) (1 : Int) s) gX4_begin_X4_weigh rfl ⟨rfl, rfl⟩ (by decide +kernel) (by decide) (shA_31) rfl rfl rfl (Nat.le_of_ble_eq_true rfl) (fun _ => rfl) ?_
  refine x4_weigh_mono h (fun _ s1 h => ?_)
  exact r_return C dX4_begin_7 h
theorem x4_begin_ct (l : Launch) (ad : Nat → Nat) (cA : Nat → ClassId) (D : va_G)  (s : Mem) : MG l yX4_begin wsX4_begin x4_begin_rm ocV [.ref (ad 31)] (GA ad cA D) s (x4_begin  s) :=
  m_met (own := RX4) (nL := 1) (by decide) rfl rfl (Nat.le_of_ble_eq_true rfl) rfl rfl rfl (fun κ hl C Q Pst hW hQ => x4_begin_bd C (x4_begin_mono hW hQ))
end
section
def x7_joint (p1 : Int) (p2 : Int) (s : Mem) (Q : Int → Mem → Prop) : Prop :=
  x7_within p1 (3 : Int) (6 : Int) s (fun r2 s1 => InI r2 ∧ (r2 = (0 : Int) → Q (-100002 : Int) s1) ∧ (¬ r2 = (0 : Int) → x7_within p2 (1 : Int) (9 : Int) s1 (fun r4 s3 => InI r4 ∧ (¬ r4 = (0 : Int) → x2_begin p1 p2 s3 (fun _ s5 => ∀ s6 : Mem, s6 = m_upd s5 23 (0 : Int) (0 : Int) → x4_begin s6 (fun _ s7 => ∀ s8 : Mem, s8 = m_upd s7 34 (0 : Int) (0 : Int) → Q p1 s8))) ∧ (r4 = (0 : Int) → Q (-100002 : Int) s3))))
theorem x7_joint_mono {Q R : Int → Mem → Prop} {p1 : Int} {p2 : Int} {s : Mem} (h : x7_joint p1 p2 s Q) (hQ : ∀ r s, Q r s → R r s) : x7_joint p1 p2 s R :=
  x7_within_mono h (fun r2 s1 h => ⟨h.1, fun c => have h := h.2.1 c; hQ _ _ h, fun c => have h := h.2.2 c; x7_within_mono h (fun r4 s3 h => ⟨h.1, fun c => have h := h.2.1 c; x2_begin_mono h (fun _ s5 h => fun s6 e_s6 => have h := h s6 e_s6; x4_begin_mono h (fun _ s7 h => fun s8 e_s8 => have h := h s8 e_s8; hQ _ _ h)), fun c => have h := h.2.2 c; hQ _ _ h⟩)⟩)
def x7_joint_rm : Room := { frames := 2, cells := 0, slots := 0, locals := 43 }
theorem w_x7_joint_66 : Cond.constant RX7 66 (-100002) ∈ wsX7_joint := by decide +kernel
theorem w_x7_joint_10 : Cond.fieldLink RX7 10 "BoltRing" "ring" "LBoltRing$Joint;" ∈ wsX7_joint := by decide +kernel
theorem w_x7_joint_33 : Cond.fieldLink RX7 33 "BoltRing" "cases" "LBoltRing$Cases;" ∈ wsX7_joint := by decide +kernel
theorem w_x7_joint_67 : Cond.fieldLink RX7 67 "BoltRing$Cases" "count" "I" ∈ wsX7_joint := by decide +kernel
theorem w_x7_joint_40 : Cond.fieldLink RX7 40 "BoltRing" "misses" "LBoltRing$Misses;" ∈ wsX7_joint := by decide +kernel
theorem w_x7_joint_47 : Cond.fieldLink RX7 47 "BoltRing" "readings" "LBoltRing$Readings;" ∈ wsX7_joint := by decide +kernel
theorem w_x7_joint_73 : Cond.fieldLink RX7 73 "BoltRing$Readings" "told" "I" ∈ wsX7_joint := by decide +kernel
theorem in_x7_joint_X0 : ∀ w ∈ wsX00, w ∈ wsX7_joint := by decide +kernel
theorem in_x7_joint_X6 : ∀ w ∈ wsX60, w ∈ wsX7_joint := by decide +kernel
theorem in_x7_joint_X7 : ∀ w ∈ wsX70, w ∈ wsX7_joint := by decide +kernel
set_option maxHeartbeats 4000000 in
set_option maxRecDepth 100000 in
theorem x7_joint_bd {κ : KT} {ad : Nat → Nat} {cA : Nat → ClassId} {D : va_G} {Q : State → Prop} {p1 : Int} {p2 : Int} {s : Mem} (C : CX κ (GA ad cA D) RX7 cX7_joint 3 wsX7_joint x7_joint_rm (some .int)) (h : x7_joint p1 p2 s (RT κ (GA ad cA D) ocI Q)) : WM κ (GA ad cA D) 3 Q s 0 [(0, .ref (ad 0)), (1, vI p1), (2, vI p2)] [] := by
  refine r_iload_n C 1 dX7_joint_0 rfl ?_
  refine r_iconst C dX7_joint_1 ?_
  refine r_bipush C dX7_joint_2 (by decide) ?_
  refine r_callS (As := [vI p1, vI (3 : Int), vI (6 : Int)]) (n := 3) C dX7_joint_4 (x7_within_ct κ.1.2.1 ad cA D p1 (3 : Int) (6 : Int) s) gX7_joint_X7_within rfl ⟨rfl, rfl⟩ (by decide +kernel) (by decide) rfl rfl (Nat.le_of_ble_eq_true rfl) (fun _ => rfl) ?_
  refine x7_within_mono h (fun r2 s1 h => ?_)
  refine r_if_eq (tgt := 20) C dX7_joint_7 (by decide) ⟨h.1, fun c10 => ?_, fun c10 => ?_⟩
  · have h := h.2.1 c10
    refine r_ldc (z := -100002) C dX7_joint_20 w_x7_joint_66 rfl ?_
    exact r_ireturn C dX7_joint_22 h
  · have h := h.2.2 c10
    refine r_iload_n C 2 dX7_joint_10 rfl ?_
    refine r_iconst C dX7_joint_11 ?_
    refine r_bipush C dX7_joint_12 (by decide) ?_
    refine r_callS (As := [vI p2, vI (1 : Int), vI (9 : Int)]) (n := 3) C dX7_joint_14 (x7_within_ct κ.1.2.1 ad cA D p2 (1 : Int) (9 : Int) s1) gX7_joint_X7_within rfl ⟨rfl, rfl⟩ (by decide +kernel) (by decide) rfl rfl (Nat.le_of_ble_eq_true rfl) (fun _ => rfl) ?_
    refine x7_within_mono h (fun r4 s3 h => ?_)
    refine r_if_ne (tgt := 23) C dX7_joint_17 (by decide) ⟨h.1, fun c9 => ?_, fun c9 => ?_⟩
    · have h := h.2.1 c9
      refine r_aload_n C 0 dX7_joint_23 rfl ?_
      refine r_get (j := 0) (jz := 0) (v := .ref (ad 1)) C dX7_joint_24 (shA_0) rfl rfl (by decide) in_x7_joint_X7 w_x7_joint_10 rfl rfl rfl ?_
      refine r_iload_n C 1 dX7_joint_27 rfl ?_
      refine r_iload_n C 2 dX7_joint_28 rfl ?_
      refine r_callV (As := [vI p1, vI p2]) (o := 1) (n := 2) C dX7_joint_29 (x2_begin_ct κ.1.2.1 ad cA D p1 p2 s3) gX7_joint_X2_begin rfl ⟨rfl, rfl⟩ (by decide +kernel) (by decide) (shA_1) rfl rfl rfl (Nat.le_of_ble_eq_true rfl) (fun _ => rfl) ?_
      refine x2_begin_mono h (fun _ s5 h => ?_)
      refine r_aload_n C 0 dX7_joint_32 rfl ?_
      refine r_get (j := 3) (jz := 3) (v := .ref (ad 23)) C dX7_joint_33 (shA_0) rfl rfl (by decide) in_x7_joint_X7 w_x7_joint_33 rfl rfl rfl ?_
      refine r_iconst C dX7_joint_36 ?_
      refine r_puti (j := 0) (jz := 0) C dX7_joint_37 (shA_23) rfl rfl (by decide) in_x7_joint_X0 tyX0 tyX0_ok nmX0 w_x7_joint_67 rfl rfl (by decide +kernel) rfl (fun s6 e_s6 => ?_)
      have h := h s6 e_s6
      refine r_aload_n C 0 dX7_joint_40 rfl ?_
      refine r_get (j := 4) (jz := 4) (v := .ref (ad 31)) C dX7_joint_41 (shA_0) rfl rfl (by decide) in_x7_joint_X7 w_x7_joint_40 rfl rfl rfl ?_
      refine r_callV (As := []) (o := 31) (n := 0) C dX7_joint_44 (x4_begin_ct κ.1.2.1 ad cA D s6) gX7_joint_X4_begin rfl ⟨rfl, rfl⟩ (by decide +kernel) (by decide) (shA_31) rfl rfl rfl (Nat.le_of_ble_eq_true rfl) (fun _ => rfl) ?_
      refine x4_begin_mono h (fun _ s7 h => ?_)
      refine r_aload_n C 0 dX7_joint_47 rfl ?_
      refine r_get (j := 5) (jz := 5) (v := .ref (ad 34)) C dX7_joint_48 (shA_0) rfl rfl (by decide) in_x7_joint_X7 w_x7_joint_47 rfl rfl rfl ?_
      refine r_iconst C dX7_joint_51 ?_
      refine r_puti (j := 0) (jz := 0) C dX7_joint_52 (shA_34) rfl rfl (by decide) in_x7_joint_X6 tyX6 tyX6_ok nmX6 w_x7_joint_73 rfl rfl (by decide +kernel) rfl (fun s8 e_s8 => ?_)
      have h := h s8 e_s8
      refine r_iload_n C 1 dX7_joint_55 rfl ?_
      exact r_ireturn C dX7_joint_56 h
    · have h := h.2.2 c9
      refine r_ldc (z := -100002) C dX7_joint_20 w_x7_joint_66 rfl ?_
      exact r_ireturn C dX7_joint_22 h
theorem x7_joint_ct (l : Launch) (ad : Nat → Nat) (cA : Nat → ClassId) (D : va_G) (p1 : Int) (p2 : Int) (s : Mem) : MG l yX7_joint wsX7_joint x7_joint_rm ocI [.ref (ad 0), vI p1, vI p2] (GA ad cA D) s (x7_joint p1 p2 s) :=
  m_met (own := RX7) (nL := 3) (by decide) rfl rfl (Nat.le_of_ble_eq_true rfl) rfl rfl rfl (fun κ hl C Q Pst hW hQ => x7_joint_bd C (x7_joint_mono hW hQ))

def x7_set (p1 : Int) (p2 : Int) (p3 : Int) (s : Mem) (Q : Int → Mem → Prop) : Prop :=
  x2_has p1 s (fun r2 s1 => InI r2 ∧ (¬ r2 = (0 : Int) → x7_within p2 (0 : Int) (3 : Int) s1 (fun r4 s3 => InI r4 ∧ (r4 = (0 : Int) → Q (-100002 : Int) s3) ∧ (¬ r4 = (0 : Int) → x7_leastOf p2 s3 (fun r6 s5 => x7_mostOf p2 s5 (fun r8 s7 => x7_within p3 r6 r8 s7 (fun r10 s9 => InI r10 ∧ (¬ r10 = (0 : Int) → x2_valuesOf p2 s9 (fun r12 s11 => (shA[(Int.toNat r12)]? = some (.inr (0, 6))) ∧ ((0 : Int) ≤ p1 ∧ p1 < 6) ∧ (shA[(Int.toNat r12)]? = some (.inr (0, 6))) ∧ ((0 : Int) ≤ p1 ∧ p1 < 6) ∧ ∀ s13 : Mem, s13 = m_upd s11 (Int.toNat r12) p1 p3 → Q (s11 (Int.toNat r12) p1) s13)) ∧ (r10 = (0 : Int) → Q (-100002 : Int) s9))))))) ∧ (r2 = (0 : Int) → Q (-100001 : Int) s1))
theorem x7_set_mono {Q R : Int → Mem → Prop} {p1 : Int} {p2 : Int} {p3 : Int} {s : Mem} (h : x7_set p1 p2 p3 s Q) (hQ : ∀ r s, Q r s → R r s) : x7_set p1 p2 p3 s R :=
  x2_has_mono h (fun r2 s1 h => ⟨h.1, fun c => have h := h.2.1 c; x7_within_mono h (fun r4 s3 h => ⟨h.1, fun c => have h := h.2.1 c; hQ _ _ h, fun c => have h := h.2.2 c; x7_leastOf_mono h (fun r6 s5 h => x7_mostOf_mono h (fun r8 s7 h => x7_within_mono h (fun r10 s9 h => ⟨h.1, fun c => have h := h.2.1 c; x2_valuesOf_mono h (fun r12 s11 h => ⟨h.1, have h := h.2; ⟨h.1, have h := h.2; ⟨h.1, have h := h.2; ⟨h.1, have h := h.2; fun s13 e_s13 => have h := h s13 e_s13; hQ _ _ h⟩⟩⟩⟩), fun c => have h := h.2.2 c; hQ _ _ h⟩)))⟩), fun c => have h := h.2.2 c; hQ _ _ h⟩)
def x7_set_rm : Room := { frames := 1, cells := 0, slots := 0, locals := 22 }
theorem w_x7_set_10 : Cond.fieldLink RX7 10 "BoltRing" "ring" "LBoltRing$Joint;" ∈ wsX7_set := by decide +kernel
theorem w_x7_set_66 : Cond.constant RX7 66 (-100002) ∈ wsX7_set := by decide +kernel
theorem w_x7_set_80 : Cond.constant RX7 80 (-100001) ∈ wsX7_set := by decide +kernel
theorem in_x7_set_X7 : ∀ w ∈ wsX70, w ∈ wsX7_set := by decide +kernel
set_option maxHeartbeats 4000000 in
set_option maxRecDepth 100000 in
theorem x7_set_bd {κ : KT} {ad : Nat → Nat} {cA : Nat → ClassId} {D : va_G} {Q : State → Prop} {p1 : Int} {p2 : Int} {p3 : Int} {s : Mem} (C : CX κ (GA ad cA D) RX7 cX7_set 6 wsX7_set x7_set_rm (some .int)) (h : x7_set p1 p2 p3 s (RT κ (GA ad cA D) ocI Q)) : WM κ (GA ad cA D) 6 Q s 0 [(0, .ref (ad 0)), (1, vI p1), (2, vI p2), (3, vI p3)] [] := by
  refine r_aload_n C 0 dX7_set_0 rfl ?_
  refine r_get (j := 0) (jz := 0) (v := .ref (ad 1)) C dX7_set_1 (shA_0) rfl rfl (by decide) in_x7_set_X7 w_x7_set_10 rfl rfl rfl ?_
  refine r_iload_n C 1 dX7_set_4 rfl ?_
  refine r_callV (As := [vI p1]) (o := 1) (n := 1) C dX7_set_5 (x2_has_ct κ.1.2.1 ad cA D p1 s) gX7_set_X2_has rfl ⟨rfl, rfl⟩ (by decide +kernel) (by decide) (shA_1) rfl rfl rfl (Nat.le_of_ble_eq_true rfl) (fun _ => rfl) ?_
  refine x2_has_mono h (fun r2 s1 h => ?_)
  refine r_if_ne (tgt := 14) C dX7_set_8 (by decide) ⟨h.1, fun c16 => ?_, fun c16 => ?_⟩
  · have h := h.2.1 c16
    refine r_iload_n C 2 dX7_set_14 rfl ?_
    refine r_iconst C dX7_set_15 ?_
    refine r_iconst C dX7_set_16 ?_
    refine r_callS (As := [vI p2, vI (0 : Int), vI (3 : Int)]) (n := 3) C dX7_set_17 (x7_within_ct κ.1.2.1 ad cA D p2 (0 : Int) (3 : Int) s1) gX7_set_X7_within rfl ⟨rfl, rfl⟩ (by decide +kernel) (by decide) rfl rfl (Nat.le_of_ble_eq_true rfl) (fun _ => rfl) ?_
    refine x7_within_mono h (fun r4 s3 h => ?_)
    refine r_if_eq (tgt := 38) C dX7_set_20 (by decide) ⟨h.1, fun c15 => ?_, fun c15 => ?_⟩
    · have h := h.2.1 c15
      refine r_ldc (z := -100002) C dX7_set_38 w_x7_set_66 rfl ?_
      exact r_ireturn C dX7_set_40 h
    · have h := h.2.2 c15
      refine r_iload_n C 3 dX7_set_23 rfl ?_
      refine r_iload_n C 2 dX7_set_24 rfl ?_
      refine r_callS (As := [vI p2]) (n := 1) C dX7_set_25 (x7_leastOf_ct κ.1.2.1 ad cA D p2 s3) gX7_set_X7_leastOf rfl ⟨rfl, rfl⟩ (by decide +kernel) (by decide) rfl rfl (Nat.le_of_ble_eq_true rfl) (fun _ => rfl) ?_
      refine x7_leastOf_mono h (fun r6 s5 h => ?_)
      refine r_iload_n C 2 dX7_set_28 rfl ?_
      refine r_callS (As := [vI p2]) (n := 1) C dX7_set_29 (x7_mostOf_ct κ.1.2.1 ad cA D p2 s5) gX7_set_X7_mostOf rfl ⟨rfl, rfl⟩ (by decide +kernel) (by decide) rfl rfl (Nat.le_of_ble_eq_true rfl) (fun _ => rfl) ?_
      refine x7_mostOf_mono h (fun r8 s7 h => ?_)
      refine r_callS (As := [vI p3, vI r6, vI r8]) (n := 3) C dX7_set_32 (x7_within_ct κ.1.2.1 ad cA D p3 r6 r8 s7) gX7_set_X7_within rfl ⟨rfl, rfl⟩ (by decide +kernel) (by decide) rfl rfl (Nat.le_of_ble_eq_true rfl) (fun _ => rfl) ?_
      refine x7_within_mono h (fun r10 s9 h => ?_)
      refine r_if_ne (tgt := 41) C dX7_set_35 (by decide) ⟨h.1, fun c14 => ?_, fun c14 => ?_⟩
      · have h := h.2.1 c14
        refine r_aload_n C 0 dX7_set_41 rfl ?_
        refine r_get (j := 0) (jz := 0) (v := .ref (ad 1)) C dX7_set_42 (shA_0) rfl rfl (by decide) in_x7_set_X7 w_x7_set_10 rfl rfl rfl ?_
        refine r_iload_n C 2 dX7_set_45 rfl ?_
        refine r_callV (As := [vI p2]) (o := 1) (n := 1) C dX7_set_46 (x2_valuesOf_ct κ.1.2.1 ad cA D p2 s9) gX7_set_X2_valuesOf rfl ⟨rfl, rfl⟩ (by decide +kernel) (by decide) (shA_1) rfl rfl rfl (Nat.le_of_ble_eq_true rfl) (fun _ => rfl) ?_
        refine x2_valuesOf_mono h (fun r12 s11 h => ?_)
        refine r_astore (ls' := [(4, .ref (ad (Int.toNat r12))), (0, .ref (ad 0)), (1, vI p1), (2, vI p2), (3, vI p3)]) C dX7_set_49 (by decide) rfl ?_
        refine r_aload C 0 dX7_set_51 rfl ?_
        refine r_iload_n C 2 dX7_set_53 rfl ?_
        have hg := h.1
        have h := h.2
        refine r_iald (nz := 6) C dX7_set_54 (hg) rfl (by decide) ⟨h.1, ?_⟩
        have h := h.2
        refine r_istore (ls' := [(5, vI (s11 (Int.toNat r12) p1)), (4, .ref (ad (Int.toNat r12))), (0, .ref (ad 0)), (1, vI p1), (2, vI p2), (3, vI p3)]) C dX7_set_55 (by decide) rfl ?_
        refine r_aload C 1 dX7_set_57 rfl ?_
        refine r_iload_n C 3 dX7_set_59 rfl ?_
        refine r_iload_n C 5 dX7_set_60 rfl ?_
        have hg := h.1
        have h := h.2
        refine r_iast (nz := 6) C dX7_set_61 (hg) rfl (by decide) ⟨h.1, fun s13 e_s13 => ?_⟩
        have h := h.2 s13 e_s13
        refine r_iload C 0 dX7_set_62 rfl ?_
        exact r_ireturn C dX7_set_64 h
      · have h := h.2.2 c14
        refine r_ldc (z := -100002) C dX7_set_38 w_x7_set_66 rfl ?_
        exact r_ireturn C dX7_set_40 h
  · have h := h.2.2 c16
    refine r_ldc (z := -100001) C dX7_set_11 w_x7_set_80 rfl ?_
    exact r_ireturn C dX7_set_13 h
theorem x7_set_ct (l : Launch) (ad : Nat → Nat) (cA : Nat → ClassId) (D : va_G) (p1 : Int) (p2 : Int) (p3 : Int) (s : Mem) : MG l yX7_set wsX7_set x7_set_rm ocI [.ref (ad 0), vI p1, vI p2, vI p3] (GA ad cA D) s (x7_set p1 p2 p3 s) :=
  m_met (own := RX7) (nL := 6) (by decide) rfl rfl (Nat.le_of_ble_eq_true rfl) rfl rfl rfl (fun κ hl C Q Pst hW hQ => x7_set_bd C (x7_set_mono hW hQ))

def x7_broken_be (X45 : Int → Int → Int → Mem → Prop) (Q : Int → Mem → Prop) (p1 : Int) (p2 : Int) (s : Mem) : Prop :=
  x2_has p1 s (fun r2 s1 => InI r2 ∧ (¬ r2 = (0 : Int) → x2_isBroken p1 s1 (fun r4 s3 => InI p2 ∧ (p2 = (0 : Int) → X45 p1 p2 r4 s3) ∧ (¬ p2 = (0 : Int) → InI r4 ∧ (¬ r4 = (0 : Int) → X45 p1 p2 r4 s3) ∧ (r4 = (0 : Int) → x2_wholeCount s3 (fun r6 s5 => (InI r6 ∧ InI (1 : Int)) ∧ (¬ r6 = (1 : Int) → X45 p1 p2 r4 s5) ∧ (r6 = (1 : Int) → Q (-100003 : Int) s5)))))) ∧ (r2 = (0 : Int) → Q (-100001 : Int) s1))
def x7_broken_b45 (X45 : Int → Int → Int → Mem → Prop) (Q : Int → Mem → Prop) (x1 : Int) (x2 : Int) (x3 : Int) (s : Mem) : Prop :=
  x2_markBroken x1 x2 s (fun _ s11 => x7_asNumber x3 s11 (fun r13 s12 => Q r13 s12))
theorem x7_broken_me {X45 Y45 : Int → Int → Int → Mem → Prop} {Q R : Int → Mem → Prop} (hX45 : ∀ x1 x2 x3 s, X45 x1 x2 x3 s → Y45 x1 x2 x3 s) (hQ : ∀ r s, Q r s → R r s) {p1 : Int} {p2 : Int} {s : Mem} (h : x7_broken_be X45 Q p1 p2 s) : x7_broken_be Y45 R p1 p2 s :=
  x2_has_mono h (fun r2 s1 h => ⟨h.1, fun c => have h := h.2.1 c; x2_isBroken_mono h (fun r4 s3 h => ⟨h.1, fun c => have h := h.2.1 c; hX45 _ _ _ _ h, fun c => have h := h.2.2 c; ⟨h.1, fun c => have h := h.2.1 c; hX45 _ _ _ _ h, fun c => have h := h.2.2 c; x2_wholeCount_mono h (fun r6 s5 h => ⟨h.1, fun c => have h := h.2.1 c; hX45 _ _ _ _ h, fun c => have h := h.2.2 c; hQ _ _ h⟩)⟩⟩), fun c => have h := h.2.2 c; hQ _ _ h⟩)
theorem x7_broken_m45 {X45 Y45 : Int → Int → Int → Mem → Prop} {Q R : Int → Mem → Prop} (hX45 : ∀ x1 x2 x3 s, X45 x1 x2 x3 s → Y45 x1 x2 x3 s) (hQ : ∀ r s, Q r s → R r s) {x1 : Int} {x2 : Int} {x3 : Int} {s : Mem} (h : x7_broken_b45 X45 Q x1 x2 x3 s) : x7_broken_b45 Y45 R x1 x2 x3 s :=
  x2_markBroken_mono h (fun _ s11 h => x7_asNumber_mono h (fun r13 s12 h => hQ _ _ h))
def x7_broken (p1 : Int) (p2 : Int) (s : Mem) (Q : Int → Mem → Prop) : Prop := ∀ (X45 : Int → Int → Int → Mem → Prop), (∀ x1 x2 x3 s, x7_broken_b45 X45 Q x1 x2 x3 s → X45 x1 x2 x3 s) → x7_broken_be X45 Q p1 p2 s
def x7_broken_L45 (Q : Int → Mem → Prop) (x1 : Int) (x2 : Int) (x3 : Int) (s : Mem) : Prop := ∀ (X45 : Int → Int → Int → Mem → Prop), (∀ x1 x2 x3 s, x7_broken_b45 X45 Q x1 x2 x3 s → X45 x1 x2 x3 s) → X45 x1 x2 x3 s
theorem x7_broken_i {Q : Int → Mem → Prop} {p1 : Int} {p2 : Int} {s : Mem} (h : x7_broken_be (x7_broken_L45 Q) Q p1 p2 s) : x7_broken p1 p2 s Q := fun X45 k45 => x7_broken_me (fun _ _ _ _ h => h X45 k45) (fun _ _ h => h) h
theorem x7_broken_s45 {Q : Int → Mem → Prop} {x1 : Int} {x2 : Int} {x3 : Int} {s : Mem} (h : x7_broken_b45 (x7_broken_L45 Q) Q x1 x2 x3 s) : x7_broken_L45 Q x1 x2 x3 s := fun X45 k45 => k45 _ _ _ _ (x7_broken_m45 (fun _ _ _ _ h => h X45 k45) (fun _ _ h => h) h)
theorem x7_broken_mono {Q R : Int → Mem → Prop} {p1 : Int} {p2 : Int} {s : Mem} (h : x7_broken p1 p2 s Q) (hQ : ∀ r s, Q r s → R r s) : x7_broken p1 p2 s R := fun X45 k45 => x7_broken_me (fun _ _ _ _ h => h) hQ (h X45 (fun _ _ _ _ h => k45 _ _ _ _ (x7_broken_m45 (fun _ _ _ _ h => h) hQ h)))
def x7_broken_rm : Room := { frames := 2, cells := 0, slots := 0, locals := 40 }
theorem w_x7_broken_10 : Cond.fieldLink RX7 10 "BoltRing" "ring" "LBoltRing$Joint;" ∈ wsX7_broken := by decide +kernel
theorem w_x7_broken_99 : Cond.constant RX7 99 (-100003) ∈ wsX7_broken := by decide +kernel
theorem w_x7_broken_80 : Cond.constant RX7 80 (-100001) ∈ wsX7_broken := by decide +kernel
theorem in_x7_broken_X7 : ∀ w ∈ wsX70, w ∈ wsX7_broken := by decide +kernel
set_option maxHeartbeats 4000000 in
set_option maxRecDepth 100000 in
theorem x7_broken_bd {κ : KT} {ad : Nat → Nat} {cA : Nat → ClassId} {D : va_G} {Q : State → Prop} {p1 : Int} {p2 : Int} {s : Mem} (C : CX κ (GA ad cA D) RX7 cX7_broken 4 wsX7_broken x7_broken_rm (some .int)) (h : x7_broken p1 p2 s (RT κ (GA ad cA D) ocI Q)) : WM κ (GA ad cA D) 4 Q s 0 [(0, .ref (ad 0)), (1, vI p1), (2, vI p2)] [] := by
  obtain ⟨Z45, z45⟩ : ∃ Z : Int → Int → Int → Mem → Prop, ∀ x1 x2 x3 s, Z x1 x2 x3 s ↔ WM κ (GA ad cA D) 4 Q s 45 [(0, .ref (ad 0)), (1, vI x1), (2, vI x2), (3, vI x3)] [] := ⟨fun x1 x2 x3 s => WM κ (GA ad cA D) 4 Q s 45 [(0, .ref (ad 0)), (1, vI x1), (2, vI x2), (3, vI x3)] [], fun _ _ _ _ => Iff.rfl⟩
  refine (fun h => ?_) (h Z45 ?_)
  · refine r_aload_n C 0 dX7_broken_0 rfl ?_
    refine r_get (j := 0) (jz := 0) (v := .ref (ad 1)) C dX7_broken_1 (shA_0) rfl rfl (by decide) in_x7_broken_X7 w_x7_broken_10 rfl rfl rfl ?_
    refine r_iload_n C 1 dX7_broken_4 rfl ?_
    refine r_callV (As := [vI p1]) (o := 1) (n := 1) C dX7_broken_5 (x2_has_ct κ.1.2.1 ad cA D p1 s) gX7_broken_X2_has rfl ⟨rfl, rfl⟩ (by decide +kernel) (by decide) (shA_1) rfl rfl rfl (Nat.le_of_ble_eq_true rfl) (fun _ => rfl) ?_
    refine x2_has_mono h (fun r2 s1 h => ?_)
    refine r_if_ne (tgt := 14) C dX7_broken_8 (by decide) ⟨h.1, fun c10 => ?_, fun c10 => ?_⟩
    · have h := h.2.1 c10
      refine r_aload_n C 0 dX7_broken_14 rfl ?_
      refine r_get (j := 0) (jz := 0) (v := .ref (ad 1)) C dX7_broken_15 (shA_0) rfl rfl (by decide) in_x7_broken_X7 w_x7_broken_10 rfl rfl rfl ?_
      refine r_iload_n C 1 dX7_broken_18 rfl ?_
      refine r_callV (As := [vI p1]) (o := 1) (n := 1) C dX7_broken_19 (x2_isBroken_ct κ.1.2.1 ad cA D p1 s1) gX7_broken_X2_isBroken rfl ⟨rfl, rfl⟩ (by decide +kernel) (by decide) (shA_1) rfl rfl rfl (Nat.le_of_ble_eq_true rfl) (fun _ => rfl) ?_
      refine x2_isBroken_mono h (fun r4 s3 h => ?_)
      refine r_istore_n (ls' := [(3, vI r4), (0, .ref (ad 0)), (1, vI p1), (2, vI p2)]) C dX7_broken_22 rfl (by decide) rfl ?_
      refine r_iload_n C 3 dX7_broken_23 rfl ?_
      refine r_if_eq (tgt := 45) C dX7_broken_24 (by decide) ⟨h.1, fun c9 => ?_, fun c9 => ?_⟩
      · have h := h.2.1 c9
        exact r_perm [1, 2, 3, 0] rfl ((z45 _ _ _ _).1 h)
      · have h := h.2.2 c9
        refine r_iload_n C 0 dX7_broken_27 rfl ?_
        refine r_if_ne (tgt := 45) C dX7_broken_28 (by decide) ⟨h.1, fun c8 => ?_, fun c8 => ?_⟩
        · have h := h.2.1 c8
          exact r_perm [1, 2, 3, 0] rfl ((z45 _ _ _ _).1 h)
        · have h := h.2.2 c8
          refine r_aload_n C 1 dX7_broken_31 rfl ?_
          refine r_get (j := 0) (jz := 0) (v := .ref (ad 1)) C dX7_broken_32 (shA_0) rfl rfl (by decide) in_x7_broken_X7 w_x7_broken_10 rfl rfl rfl ?_
          refine r_callV (As := []) (o := 1) (n := 0) C dX7_broken_35 (x2_wholeCount_ct κ.1.2.1 ad cA D s3) gX7_broken_X2_wholeCount rfl ⟨rfl, rfl⟩ (by decide +kernel) (by decide) (shA_1) rfl rfl rfl (Nat.le_of_ble_eq_true rfl) (fun _ => rfl) ?_
          refine x2_wholeCount_mono h (fun r6 s5 h => ?_)
          refine r_iconst C dX7_broken_38 ?_
          refine r_icmp_ne (tgt := 45) C dX7_broken_39 (by decide) ⟨h.1, fun c7 => ?_, fun c7 => ?_⟩
          · have h := h.2.1 c7
            exact r_perm [1, 2, 3, 0] rfl ((z45 _ _ _ _).1 h)
          · have h := h.2.2 c7
            refine r_ldc (z := -100003) C dX7_broken_42 w_x7_broken_99 rfl ?_
            exact r_ireturn C dX7_broken_44 h
    · have h := h.2.2 c10
      refine r_ldc (z := -100001) C dX7_broken_11 w_x7_broken_80 rfl ?_
      exact r_ireturn C dX7_broken_13 h
  · intro x1 x2 x3 s h
    refine (z45 _ _ _ _).2 ?_
    refine r_aload_n C 0 dX7_broken_45 rfl ?_
    refine r_get (j := 0) (jz := 0) (v := .ref (ad 1)) C dX7_broken_46 (shA_0) rfl rfl (by decide) in_x7_broken_X7 w_x7_broken_10 rfl rfl rfl ?_
    refine r_iload_n C 1 dX7_broken_49 rfl ?_
    refine r_iload_n C 2 dX7_broken_50 rfl ?_
    refine r_callV (As := [vI x1, vI x2]) (o := 1) (n := 2) C dX7_broken_51 (x2_markBroken_ct κ.1.2.1 ad cA D x1 x2 s) gX7_broken_X2_markBroken rfl ⟨rfl, rfl⟩ (by decide +kernel) (by decide) (shA_1) rfl rfl rfl (Nat.le_of_ble_eq_true rfl) (fun _ => rfl) ?_
    refine x2_markBroken_mono h (fun _ s11 h => ?_)
    refine r_iload_n C 3 dX7_broken_54 rfl ?_
    refine r_callS (As := [vI x3]) (n := 1) C dX7_broken_55 (x7_asNumber_ct κ.1.2.1 ad cA D x3 s11) gX7_broken_X7_asNumber rfl ⟨rfl, rfl⟩ (by decide +kernel) (by decide) rfl rfl (Nat.le_of_ble_eq_true rfl) (fun _ => rfl) ?_
    refine x7_asNumber_mono h (fun r13 s12 h => ?_)
    exact r_ireturn C dX7_broken_58 h
theorem x7_broken_ct (l : Launch) (ad : Nat → Nat) (cA : Nat → ClassId) (D : va_G) (p1 : Int) (p2 : Int) (s : Mem) : MG l yX7_broken wsX7_broken x7_broken_rm ocI [.ref (ad 0), vI p1, vI p2] (GA ad cA D) s (x7_broken p1 p2 s) :=
  m_met (own := RX7) (nL := 4) (by decide) rfl rfl (Nat.le_of_ble_eq_true rfl) rfl rfl rfl (fun κ hl C Q Pst hW hQ => x7_broken_bd C (x7_broken_mono hW hQ))

def x7_told (p1 : Int) (p2 : Int) (s : Mem) (Q : Int → Mem → Prop) : Prop :=
  x2_has p1 s (fun r2 s1 => InI r2 ∧ (¬ r2 = (0 : Int) → InI p2 ∧ ((p2 = 0 ∨ p2 = 1 ∨ p2 = 2 ∨ p2 = 3) → x2_valuesOf p2 s1 (fun r5 s4 => (shA[(Int.toNat r5)]? = some (.inr (0, 6))) ∧ ((0 : Int) ≤ p1 ∧ p1 < 6) ∧ Q (s4 (Int.toNat r5) p1) s4)) ∧ ((p2 = 4) → x2_isBroken p1 s1 (fun r7 s6 => x7_asNumber r7 s6 (fun r9 s8 => Q r9 s8))) ∧ ((p2 = 5) → x3_settle 7 5 s1 (fun _ s10 => x3_pullUpper 7 p1 s10 (fun r12 s11 => (InL r12 ∧ InL (0 : Int)) ∧ (¬ r12 = (0 : Int) → x7_asNumber (0 : Int) s11 (fun r14 s13 => Q r14 s13)) ∧ (r12 = (0 : Int) → x7_asNumber (1 : Int) s11 (fun r16 s15 => Q r16 s15))))) ∧ ((p2 = 6) → x3_settle 7 5 s1 (fun _ s18 => x3_pressUpper 7 p1 s18 (fun r20 s19 => (InL r20 ∧ InL (0 : Int)) ∧ (¬ r20 = (0 : Int) → x7_asNumber (0 : Int) s19 (fun r22 s21 => Q r22 s21)) ∧ (r20 = (0 : Int) → x7_asNumber (1 : Int) s19 (fun r24 s23 => Q r24 s23))))) ∧ ((p2 = 7) → x2_placeInRow p1 s1 (fun r27 s26 => Q r27 s26)) ∧ ((p2 < 0 ∨ 7 < p2) → Q (-100002 : Int) s1)) ∧ (r2 = (0 : Int) → Q (-100001 : Int) s1))
theorem x7_told_mono {Q R : Int → Mem → Prop} {p1 : Int} {p2 : Int} {s : Mem} (h : x7_told p1 p2 s Q) (hQ : ∀ r s, Q r s → R r s) : x7_told p1 p2 s R :=
  x2_has_mono h (fun r2 s1 h => ⟨h.1, fun c => have h := h.2.1 c; ⟨h.1, fun c => have h := h.2.1 c; x2_valuesOf_mono h (fun r5 s4 h => ⟨h.1, have h := h.2; ⟨h.1, have h := h.2; hQ _ _ h⟩⟩), fun c => have h := h.2.2.1 c; x2_isBroken_mono h (fun r7 s6 h => x7_asNumber_mono h (fun r9 s8 h => hQ _ _ h)), fun c => have h := h.2.2.2.1 c; x3_settle_mono h (fun _ s10 h => x3_pullUpper_mono h (fun r12 s11 h => ⟨h.1, fun c => have h := h.2.1 c; x7_asNumber_mono h (fun r14 s13 h => hQ _ _ h), fun c => have h := h.2.2 c; x7_asNumber_mono h (fun r16 s15 h => hQ _ _ h)⟩)), fun c => have h := h.2.2.2.2.1 c; x3_settle_mono h (fun _ s18 h => x3_pressUpper_mono h (fun r20 s19 h => ⟨h.1, fun c => have h := h.2.1 c; x7_asNumber_mono h (fun r22 s21 h => hQ _ _ h), fun c => have h := h.2.2 c; x7_asNumber_mono h (fun r24 s23 h => hQ _ _ h)⟩)), fun c => have h := h.2.2.2.2.2.1 c; x2_placeInRow_mono h (fun r27 s26 h => hQ _ _ h), fun c => have h := h.2.2.2.2.2.2 c; hQ _ _ h⟩, fun c => have h := h.2.2 c; hQ _ _ h⟩)
def x7_told_rm : Room := { frames := 3, cells := 0, slots := 0, locals := 85 }
theorem w_x7_told_10 : Cond.fieldLink RX7 10 "BoltRing" "ring" "LBoltRing$Joint;" ∈ wsX7_told := by decide +kernel
theorem w_x7_told_19 : Cond.fieldLink RX7 19 "BoltRing" "lifts" "LBoltRing$Lifts;" ∈ wsX7_told := by decide +kernel
theorem w_x7_told_108 : Cond.fieldLink RX7 108 "BoltRing$Joint" "loads" "[I" ∈ wsX7_told := by decide +kernel
theorem w_x7_told_66 : Cond.constant RX7 66 (-100002) ∈ wsX7_told := by decide +kernel
theorem w_x7_told_80 : Cond.constant RX7 80 (-100001) ∈ wsX7_told := by decide +kernel
theorem in_x7_told_X2 : ∀ w ∈ wsX20, w ∈ wsX7_told := by decide +kernel
theorem in_x7_told_X7 : ∀ w ∈ wsX70, w ∈ wsX7_told := by decide +kernel
set_option maxHeartbeats 4000000 in
set_option maxRecDepth 100000 in
theorem x7_told_bd {κ : KT} {ad : Nat → Nat} {cA : Nat → ClassId} {D : va_G} {Q : State → Prop} {p1 : Int} {p2 : Int} {s : Mem} (C : CX κ (GA ad cA D) RX7 cX7_told 3 wsX7_told x7_told_rm (some .int)) (h : x7_told p1 p2 s (RT κ (GA ad cA D) ocI Q)) : WM κ (GA ad cA D) 3 Q s 0 [(0, .ref (ad 0)), (1, vI p1), (2, vI p2)] [] := by
  refine r_aload_n C 0 dX7_told_0 rfl ?_
  refine r_get (j := 0) (jz := 0) (v := .ref (ad 1)) C dX7_told_1 (shA_0) rfl rfl (by decide) in_x7_told_X7 w_x7_told_10 rfl rfl rfl ?_
  refine r_iload_n C 1 dX7_told_4 rfl ?_
  refine r_callV (As := [vI p1]) (o := 1) (n := 1) C dX7_told_5 (x2_has_ct κ.1.2.1 ad cA D p1 s) gX7_told_X2_has rfl ⟨rfl, rfl⟩ (by decide +kernel) (by decide) (shA_1) rfl rfl rfl (Nat.le_of_ble_eq_true rfl) (fun _ => rfl) ?_
  refine x2_has_mono h (fun r2 s1 h => ?_)
  refine r_if_ne (tgt := 14) C dX7_told_8 (by decide) ⟨h.1, fun c28 => ?_, fun c28 => ?_⟩
  · have h := h.2.1 c28
    refine r_iload_n C 2 dX7_told_14 rfl ?_
    have hI := h.1
    by_cases c3 : p2 = 0 ∨ p2 = 1 ∨ p2 = 2 ∨ p2 = 3
    · have h := h.2.1 c3
      refine r_tsAny (tgt := 60) C dX7_told_15 (j := Int.toNat (p2 - (0))) ?_ (by omega) (by omega) hI ?_
      · rcases c3 with c3 | c3 | c3 | c3 <;> (rw [c3]; exact ⟨_, rfl, by decide⟩)
      · refine r_aload_n C 0 dX7_told_60 rfl ?_
        refine r_get (j := 0) (jz := 0) (v := .ref (ad 1)) C dX7_told_61 (shA_0) rfl rfl (by decide) in_x7_told_X7 w_x7_told_10 rfl rfl rfl ?_
        refine r_iload_n C 2 dX7_told_64 rfl ?_
        refine r_callV (As := [vI p2]) (o := 1) (n := 1) C dX7_told_65 (x2_valuesOf_ct κ.1.2.1 ad cA D p2 s1) gX7_told_X2_valuesOf rfl ⟨rfl, rfl⟩ (by decide +kernel) (by decide) (shA_1) rfl rfl rfl (Nat.le_of_ble_eq_true rfl) (fun _ => rfl) ?_
        refine x2_valuesOf_mono h (fun r5 s4 h => ?_)
        refine r_iload_n C 1 dX7_told_68 rfl ?_
        have hg := h.1
        have h := h.2
        refine r_iald (nz := 6) C dX7_told_69 (hg) rfl (by decide) ⟨h.1, ?_⟩
        have h := h.2
        exact r_ireturn C dX7_told_70 h
    by_cases c3 : p2 = 4
    · have h := h.2.2.1 c3
      refine r_tsIn (tgt := 71) C 4 dX7_told_15 rfl (by decide) c3 hI (by decide) ?_
      refine r_aload_n C 0 dX7_told_71 rfl ?_
      refine r_get (j := 0) (jz := 0) (v := .ref (ad 1)) C dX7_told_72 (shA_0) rfl rfl (by decide) in_x7_told_X7 w_x7_told_10 rfl rfl rfl ?_
      refine r_iload_n C 1 dX7_told_75 rfl ?_
      refine r_callV (As := [vI p1]) (o := 1) (n := 1) C dX7_told_76 (x2_isBroken_ct κ.1.2.1 ad cA D p1 s1) gX7_told_X2_isBroken rfl ⟨rfl, rfl⟩ (by decide +kernel) (by decide) (shA_1) rfl rfl rfl (Nat.le_of_ble_eq_true rfl) (fun _ => rfl) ?_
      refine x2_isBroken_mono h (fun r7 s6 h => ?_)
      refine r_callS (As := [vI r7]) (n := 1) C dX7_told_79 (x7_asNumber_ct κ.1.2.1 ad cA D r7 s6) gX7_told_X7_asNumber rfl ⟨rfl, rfl⟩ (by decide +kernel) (by decide) rfl rfl (Nat.le_of_ble_eq_true rfl) (fun _ => rfl) ?_
      refine x7_asNumber_mono h (fun r9 s8 h => ?_)
      exact r_ireturn C dX7_told_82 h
    by_cases c3 : p2 = 5
    · have h := h.2.2.2.1 c3
      refine r_tsIn (tgt := 83) C 5 dX7_told_15 rfl (by decide) c3 hI (by decide) ?_
      refine r_aload_n C 0 dX7_told_83 rfl ?_
      refine r_get (j := 1) (jz := 1) (v := .ref (ad 7)) C dX7_told_84 (shA_0) rfl rfl (by decide) in_x7_told_X7 w_x7_told_19 rfl rfl rfl ?_
      refine r_aload_n C 0 dX7_told_87 rfl ?_
      refine r_get (j := 0) (jz := 0) (v := .ref (ad 1)) C dX7_told_88 (shA_0) rfl rfl (by decide) in_x7_told_X7 w_x7_told_10 rfl rfl rfl ?_
      refine r_aload_n C 0 dX7_told_91 rfl ?_
      refine r_get (j := 0) (jz := 0) (v := .ref (ad 1)) C dX7_told_92 (shA_0) rfl rfl (by decide) in_x7_told_X7 w_x7_told_10 rfl rfl rfl ?_
      refine r_get (j := 6) (jz := 6) (v := .ref (ad 5)) C dX7_told_95 (shA_1) rfl rfl (by decide) in_x7_told_X2 w_x7_told_108 rfl rfl rfl ?_
      refine r_callV (As := [.ref (ad 1), .ref (ad 5)]) (o := 7) (n := 2) C dX7_told_98 (x3_settle_ct κ.1.2.1 ad cA D 7 5 s1 (Or.inl rfl)) gX7_told_X3_settle rfl ⟨rfl, rfl⟩ (by decide +kernel) (by decide) (shA_7) rfl rfl rfl (Nat.le_of_ble_eq_true rfl) (fun _ => rfl) ?_
      refine x3_settle_mono h (fun _ s10 h => ?_)
      refine r_aload_n C 0 dX7_told_101 rfl ?_
      refine r_get (j := 1) (jz := 1) (v := .ref (ad 7)) C dX7_told_102 (shA_0) rfl rfl (by decide) in_x7_told_X7 w_x7_told_19 rfl rfl rfl ?_
      refine r_aload_n C 0 dX7_told_105 rfl ?_
      refine r_get (j := 0) (jz := 0) (v := .ref (ad 1)) C dX7_told_106 (shA_0) rfl rfl (by decide) in_x7_told_X7 w_x7_told_10 rfl rfl rfl ?_
      refine r_iload_n C 1 dX7_told_109 rfl ?_
      refine r_callV (As := [.ref (ad 1), vI p1]) (o := 7) (n := 2) C dX7_told_110 (x3_pullUpper_ct κ.1.2.1 ad cA D 7 p1 s10 (Or.inl rfl)) gX7_told_X3_pullUpper rfl ⟨rfl, rfl⟩ (by decide +kernel) (by decide) (shA_7) rfl rfl rfl (Nat.le_of_ble_eq_true rfl) (fun _ => rfl) ?_
      refine x3_pullUpper_mono h (fun r12 s11 h => ?_)
      refine r_lconst (z := 0) C dX7_told_113 rfl ?_
      refine r_lcmp_ne (tgt := 122) C dX7_told_114 dX7_told_115 (by decide) ⟨h.1, fun c17 => ?_, fun c17 => ?_⟩
      · have h := h.2.1 c17
        refine r_iconst C dX7_told_122 ?_
        refine r_callS (As := [vI (0 : Int)]) (n := 1) C dX7_told_123 (x7_asNumber_ct κ.1.2.1 ad cA D (0 : Int) s11) gX7_told_X7_asNumber rfl ⟨rfl, rfl⟩ (by decide +kernel) (by decide) rfl rfl (Nat.le_of_ble_eq_true rfl) (fun _ => rfl) ?_
        refine x7_asNumber_mono h (fun r14 s13 h => ?_)
        exact r_ireturn C dX7_told_126 h
      · have h := h.2.2 c17
        refine r_iconst C dX7_told_118 ?_
        refine r_goto (tgt := 123) C dX7_told_119 (by decide) ?_
        refine r_callS (As := [vI (1 : Int)]) (n := 1) C dX7_told_123 (x7_asNumber_ct κ.1.2.1 ad cA D (1 : Int) s11) gX7_told_X7_asNumber rfl ⟨rfl, rfl⟩ (by decide +kernel) (by decide) rfl rfl (Nat.le_of_ble_eq_true rfl) (fun _ => rfl) ?_
        refine x7_asNumber_mono h (fun r16 s15 h => ?_)
        exact r_ireturn C dX7_told_126 h
    by_cases c3 : p2 = 6
    · have h := h.2.2.2.2.1 c3
      refine r_tsIn (tgt := 127) C 6 dX7_told_15 rfl (by decide) c3 hI (by decide) ?_
      refine r_aload_n C 0 dX7_told_127 rfl ?_
      refine r_get (j := 1) (jz := 1) (v := .ref (ad 7)) C dX7_told_128 (shA_0) rfl rfl (by decide) in_x7_told_X7 w_x7_told_19 rfl rfl rfl ?_
      refine r_aload_n C 0 dX7_told_131 rfl ?_
      refine r_get (j := 0) (jz := 0) (v := .ref (ad 1)) C dX7_told_132 (shA_0) rfl rfl (by decide) in_x7_told_X7 w_x7_told_10 rfl rfl rfl ?_
      refine r_aload_n C 0 dX7_told_135 rfl ?_
      refine r_get (j := 0) (jz := 0) (v := .ref (ad 1)) C dX7_told_136 (shA_0) rfl rfl (by decide) in_x7_told_X7 w_x7_told_10 rfl rfl rfl ?_
      refine r_get (j := 6) (jz := 6) (v := .ref (ad 5)) C dX7_told_139 (shA_1) rfl rfl (by decide) in_x7_told_X2 w_x7_told_108 rfl rfl rfl ?_
      refine r_callV (As := [.ref (ad 1), .ref (ad 5)]) (o := 7) (n := 2) C dX7_told_142 (x3_settle_ct κ.1.2.1 ad cA D 7 5 s1 (Or.inl rfl)) gX7_told_X3_settle rfl ⟨rfl, rfl⟩ (by decide +kernel) (by decide) (shA_7) rfl rfl rfl (Nat.le_of_ble_eq_true rfl) (fun _ => rfl) ?_
      refine x3_settle_mono h (fun _ s18 h => ?_)
      refine r_aload_n C 0 dX7_told_145 rfl ?_
      refine r_get (j := 1) (jz := 1) (v := .ref (ad 7)) C dX7_told_146 (shA_0) rfl rfl (by decide) in_x7_told_X7 w_x7_told_19 rfl rfl rfl ?_
      refine r_aload_n C 0 dX7_told_149 rfl ?_
      refine r_get (j := 0) (jz := 0) (v := .ref (ad 1)) C dX7_told_150 (shA_0) rfl rfl (by decide) in_x7_told_X7 w_x7_told_10 rfl rfl rfl ?_
      refine r_iload_n C 1 dX7_told_153 rfl ?_
      refine r_callV (As := [.ref (ad 1), vI p1]) (o := 7) (n := 2) C dX7_told_154 (x3_pressUpper_ct κ.1.2.1 ad cA D 7 p1 s18 (Or.inl rfl)) gX7_told_X3_pressUpper rfl ⟨rfl, rfl⟩ (by decide +kernel) (by decide) (shA_7) rfl rfl rfl (Nat.le_of_ble_eq_true rfl) (fun _ => rfl) ?_
      refine x3_pressUpper_mono h (fun r20 s19 h => ?_)
      refine r_lconst (z := 0) C dX7_told_157 rfl ?_
      refine r_lcmp_ne (tgt := 166) C dX7_told_158 dX7_told_159 (by decide) ⟨h.1, fun c25 => ?_, fun c25 => ?_⟩
      · have h := h.2.1 c25
        refine r_iconst C dX7_told_166 ?_
        refine r_callS (As := [vI (0 : Int)]) (n := 1) C dX7_told_167 (x7_asNumber_ct κ.1.2.1 ad cA D (0 : Int) s19) gX7_told_X7_asNumber rfl ⟨rfl, rfl⟩ (by decide +kernel) (by decide) rfl rfl (Nat.le_of_ble_eq_true rfl) (fun _ => rfl) ?_
        refine x7_asNumber_mono h (fun r22 s21 h => ?_)
        exact r_ireturn C dX7_told_170 h
      · have h := h.2.2 c25
        refine r_iconst C dX7_told_162 ?_
        refine r_goto (tgt := 167) C dX7_told_163 (by decide) ?_
        refine r_callS (As := [vI (1 : Int)]) (n := 1) C dX7_told_167 (x7_asNumber_ct κ.1.2.1 ad cA D (1 : Int) s19) gX7_told_X7_asNumber rfl ⟨rfl, rfl⟩ (by decide +kernel) (by decide) rfl rfl (Nat.le_of_ble_eq_true rfl) (fun _ => rfl) ?_
        refine x7_asNumber_mono h (fun r24 s23 h => ?_)
        exact r_ireturn C dX7_told_170 h
    by_cases c3 : p2 = 7
    · have h := h.2.2.2.2.2.1 c3
      refine r_tsIn (tgt := 171) C 7 dX7_told_15 rfl (by decide) c3 hI (by decide) ?_
      refine r_aload_n C 0 dX7_told_171 rfl ?_
      refine r_get (j := 0) (jz := 0) (v := .ref (ad 1)) C dX7_told_172 (shA_0) rfl rfl (by decide) in_x7_told_X7 w_x7_told_10 rfl rfl rfl ?_
      refine r_iload_n C 1 dX7_told_175 rfl ?_
      refine r_callV (As := [vI p1]) (o := 1) (n := 1) C dX7_told_176 (x2_placeInRow_ct κ.1.2.1 ad cA D p1 s1) gX7_told_X2_placeInRow rfl ⟨rfl, rfl⟩ (by decide +kernel) (by decide) (shA_1) rfl rfl rfl (Nat.le_of_ble_eq_true rfl) (fun _ => rfl) ?_
      refine x2_placeInRow_mono h (fun r27 s26 h => ?_)
      exact r_ireturn C dX7_told_179 h
    have c3d : p2 < 0 ∨ 7 < p2 := by omega
    have h := h.2.2.2.2.2.2 c3d
    refine r_tsOut (tgt := 180) C dX7_told_15 c3d hI (by decide) ?_
    refine r_ldc (z := -100002) C dX7_told_180 w_x7_told_66 rfl ?_
    exact r_ireturn C dX7_told_182 h
  · have h := h.2.2 c28
    refine r_ldc (z := -100001) C dX7_told_11 w_x7_told_80 rfl ?_
    exact r_ireturn C dX7_told_13 h
theorem x7_told_ct (l : Launch) (ad : Nat → Nat) (cA : Nat → ClassId) (D : va_G) (p1 : Int) (p2 : Int) (s : Mem) : MG l yX7_told wsX7_told x7_told_rm ocI [.ref (ad 0), vI p1, vI p2] (GA ad cA D) s (x7_told p1 p2 s) :=
  m_met (own := RX7) (nL := 3) (by decide) rfl rfl (Nat.le_of_ble_eq_true rfl) rfl rfl rfl (fun κ hl C Q Pst hW hQ => x7_told_bd C (x7_told_mono hW hQ))

def x7_count (p1 : Int) (s : Mem) (Q : Int → Mem → Prop) : Prop :=
  InI p1 ∧ ((p1 = 0) → Q (s 1 (0 : Int)) s) ∧ ((p1 = 1) → j6_bitCount_0f7a4 (s 1 (2 : Int)) s (fun r3 s2 => Q r3 s2)) ∧ ((p1 = 2) → x3_settle 7 5 s (fun _ s4 => x3_slackCount 7 s4 (fun r6 s5 => Q r6 s5))) ∧ ((p1 = 3) → x3_settle 7 5 s (fun _ s7 => x3_openCount 7 s7 (fun r9 s8 => Q r9 s8))) ∧ ((p1 = 4) → x2_sumOf 4 s (fun r11 s10 => Q r11 s10)) ∧ ((p1 = 5) → Q (s 23 (0 : Int)) s) ∧ ((p1 = 6) → j6_bitCount_0f7a4 (s 34 (0 : Int)) s (fun r13 s12 => Q r13 s12)) ∧ ((p1 = 7) → Q (s 37 (0 : Int)) s) ∧ ((p1 = 8) → Q (s 0 (7 : Int)) s) ∧ ((p1 < 0 ∨ 8 < p1) → Q (-100002 : Int) s)
theorem x7_count_mono {Q R : Int → Mem → Prop} {p1 : Int} {s : Mem} (h : x7_count p1 s Q) (hQ : ∀ r s, Q r s → R r s) : x7_count p1 s R :=
  ⟨h.1, fun c => have h := h.2.1 c; hQ _ _ h, fun c => have h := h.2.2.1 c; j6_bitCount_0f7a4_mono h (fun r3 s2 h => hQ _ _ h), fun c => have h := h.2.2.2.1 c; x3_settle_mono h (fun _ s4 h => x3_slackCount_mono h (fun r6 s5 h => hQ _ _ h)), fun c => have h := h.2.2.2.2.1 c; x3_settle_mono h (fun _ s7 h => x3_openCount_mono h (fun r9 s8 h => hQ _ _ h)), fun c => have h := h.2.2.2.2.2.1 c; x2_sumOf_mono h (fun r11 s10 h => hQ _ _ h), fun c => have h := h.2.2.2.2.2.2.1 c; hQ _ _ h, fun c => have h := h.2.2.2.2.2.2.2.1 c; j6_bitCount_0f7a4_mono h (fun r13 s12 h => hQ _ _ h), fun c => have h := h.2.2.2.2.2.2.2.2.1 c; hQ _ _ h, fun c => have h := h.2.2.2.2.2.2.2.2.2.1 c; hQ _ _ h, fun c => have h := h.2.2.2.2.2.2.2.2.2.2 c; hQ _ _ h⟩
def x7_count_rm : Room := { frames := 3, cells := 0, slots := 0, locals := 105 }
theorem w_x7_count_10 : Cond.fieldLink RX7 10 "BoltRing" "ring" "LBoltRing$Joint;" ∈ wsX7_count := by decide +kernel
theorem w_x7_count_142 : Cond.fieldLink RX7 142 "BoltRing$Joint" "bolts" "I" ∈ wsX7_count := by decide +kernel
theorem w_x7_count_145 : Cond.fieldLink RX7 145 "BoltRing$Joint" "brokenSet" "I" ∈ wsX7_count := by decide +kernel
theorem w_x7_count_19 : Cond.fieldLink RX7 19 "BoltRing" "lifts" "LBoltRing$Lifts;" ∈ wsX7_count := by decide +kernel
theorem w_x7_count_108 : Cond.fieldLink RX7 108 "BoltRing$Joint" "loads" "[I" ∈ wsX7_count := by decide +kernel
theorem w_x7_count_160 : Cond.fieldLink RX7 160 "BoltRing$Joint" "turns" "[I" ∈ wsX7_count := by decide +kernel
theorem w_x7_count_33 : Cond.fieldLink RX7 33 "BoltRing" "cases" "LBoltRing$Cases;" ∈ wsX7_count := by decide +kernel
theorem w_x7_count_67 : Cond.fieldLink RX7 67 "BoltRing$Cases" "count" "I" ∈ wsX7_count := by decide +kernel
theorem w_x7_count_47 : Cond.fieldLink RX7 47 "BoltRing" "readings" "LBoltRing$Readings;" ∈ wsX7_count := by decide +kernel
theorem w_x7_count_73 : Cond.fieldLink RX7 73 "BoltRing$Readings" "told" "I" ∈ wsX7_count := by decide +kernel
theorem w_x7_count_54 : Cond.fieldLink RX7 54 "BoltRing" "orders" "LBoltRing$Orders;" ∈ wsX7_count := by decide +kernel
theorem w_x7_count_167 : Cond.fieldLink RX7 167 "BoltRing$Orders" "length" "I" ∈ wsX7_count := by decide +kernel
theorem w_x7_count_170 : Cond.fieldLink RX7 170 "BoltRing" "clausesDone" "I" ∈ wsX7_count := by decide +kernel
theorem w_x7_count_66 : Cond.constant RX7 66 (-100002) ∈ wsX7_count := by decide +kernel
theorem in_x7_count_X0 : ∀ w ∈ wsX00, w ∈ wsX7_count := by decide +kernel
theorem in_x7_count_X2 : ∀ w ∈ wsX20, w ∈ wsX7_count := by decide +kernel
theorem in_x7_count_X5 : ∀ w ∈ wsX50, w ∈ wsX7_count := by decide +kernel
theorem in_x7_count_X6 : ∀ w ∈ wsX60, w ∈ wsX7_count := by decide +kernel
theorem in_x7_count_X7 : ∀ w ∈ wsX70, w ∈ wsX7_count := by decide +kernel
set_option maxHeartbeats 4000000 in
set_option maxRecDepth 100000 in
theorem x7_count_bd {κ : KT} {ad : Nat → Nat} {cA : Nat → ClassId} {D : va_G} {Q : State → Prop} {p1 : Int} {s : Mem} (C : CX κ (GA ad cA D) RX7 cX7_count 2 wsX7_count x7_count_rm (some .int)) (h : x7_count p1 s (RT κ (GA ad cA D) ocI Q)) : WM κ (GA ad cA D) 2 Q s 0 [(0, .ref (ad 0)), (1, vI p1)] [] := by
  refine r_iload_n C 1 dX7_count_0 rfl ?_
  have hI := h.1
  by_cases c1 : p1 = 0
  · have h := h.2.1 c1
    refine r_tsIn (tgt := 52) C 0 dX7_count_1 rfl (by decide) c1 hI (by decide) ?_
    refine r_aload_n C 0 dX7_count_52 rfl ?_
    refine r_get (j := 0) (jz := 0) (v := .ref (ad 1)) C dX7_count_53 (shA_0) rfl rfl (by decide) in_x7_count_X7 w_x7_count_10 rfl rfl rfl ?_
    refine r_get (j := 0) (jz := 0) (v := vI (s 1 (0 : Int))) C dX7_count_56 (shA_1) rfl rfl (by decide) in_x7_count_X2 w_x7_count_142 rfl rfl rfl ?_
    exact r_ireturn C dX7_count_59 h
  by_cases c1 : p1 = 1
  · have h := h.2.2.1 c1
    refine r_tsIn (tgt := 60) C 1 dX7_count_1 rfl (by decide) c1 hI (by decide) ?_
    refine r_aload_n C 0 dX7_count_60 rfl ?_
    refine r_get (j := 0) (jz := 0) (v := .ref (ad 1)) C dX7_count_61 (shA_0) rfl rfl (by decide) in_x7_count_X7 w_x7_count_10 rfl rfl rfl ?_
    refine r_get (j := 2) (jz := 2) (v := vI (s 1 (2 : Int))) C dX7_count_64 (shA_1) rfl rfl (by decide) in_x7_count_X2 w_x7_count_145 rfl rfl rfl ?_
    refine r_callS (As := [vI (s 1 (2 : Int))]) (n := 1) C dX7_count_67 (j6_bitCount_0f7a4_ct κ.1.2.1 ad cA D (s 1 (2 : Int)) s) gX7_count_J6_bitCount_0f7a4 rfl ⟨rfl, rfl⟩ (by decide +kernel) (by decide) rfl rfl (Nat.le_of_ble_eq_true rfl) (fun _ => rfl) ?_
    refine j6_bitCount_0f7a4_mono h (fun r3 s2 h => ?_)
    exact r_ireturn C dX7_count_70 h
  by_cases c1 : p1 = 2
  · have h := h.2.2.2.1 c1
    refine r_tsIn (tgt := 71) C 2 dX7_count_1 rfl (by decide) c1 hI (by decide) ?_
    refine r_aload_n C 0 dX7_count_71 rfl ?_
    refine r_get (j := 1) (jz := 1) (v := .ref (ad 7)) C dX7_count_72 (shA_0) rfl rfl (by decide) in_x7_count_X7 w_x7_count_19 rfl rfl rfl ?_
    refine r_aload_n C 0 dX7_count_75 rfl ?_
    refine r_get (j := 0) (jz := 0) (v := .ref (ad 1)) C dX7_count_76 (shA_0) rfl rfl (by decide) in_x7_count_X7 w_x7_count_10 rfl rfl rfl ?_
    refine r_aload_n C 0 dX7_count_79 rfl ?_
    refine r_get (j := 0) (jz := 0) (v := .ref (ad 1)) C dX7_count_80 (shA_0) rfl rfl (by decide) in_x7_count_X7 w_x7_count_10 rfl rfl rfl ?_
    refine r_get (j := 6) (jz := 6) (v := .ref (ad 5)) C dX7_count_83 (shA_1) rfl rfl (by decide) in_x7_count_X2 w_x7_count_108 rfl rfl rfl ?_
    refine r_callV (As := [.ref (ad 1), .ref (ad 5)]) (o := 7) (n := 2) C dX7_count_86 (x3_settle_ct κ.1.2.1 ad cA D 7 5 s (Or.inl rfl)) gX7_count_X3_settle rfl ⟨rfl, rfl⟩ (by decide +kernel) (by decide) (shA_7) rfl rfl rfl (Nat.le_of_ble_eq_true rfl) (fun _ => rfl) ?_
    refine x3_settle_mono h (fun _ s4 h => ?_)
    refine r_aload_n C 0 dX7_count_89 rfl ?_
    refine r_get (j := 1) (jz := 1) (v := .ref (ad 7)) C dX7_count_90 (shA_0) rfl rfl (by decide) in_x7_count_X7 w_x7_count_19 rfl rfl rfl ?_
    refine r_aload_n C 0 dX7_count_93 rfl ?_
    refine r_get (j := 0) (jz := 0) (v := .ref (ad 1)) C dX7_count_94 (shA_0) rfl rfl (by decide) in_x7_count_X7 w_x7_count_10 rfl rfl rfl ?_
    refine r_callV (As := [.ref (ad 1)]) (o := 7) (n := 1) C dX7_count_97 (x3_slackCount_ct κ.1.2.1 ad cA D 7 s4 (Or.inl rfl)) gX7_count_X3_slackCount rfl ⟨rfl, rfl⟩ (by decide +kernel) (by decide) (shA_7) rfl rfl rfl (Nat.le_of_ble_eq_true rfl) (fun _ => rfl) ?_
    refine x3_slackCount_mono h (fun r6 s5 h => ?_)
    exact r_ireturn C dX7_count_100 h
  by_cases c1 : p1 = 3
  · have h := h.2.2.2.2.1 c1
    refine r_tsIn (tgt := 101) C 3 dX7_count_1 rfl (by decide) c1 hI (by decide) ?_
    refine r_aload_n C 0 dX7_count_101 rfl ?_
    refine r_get (j := 1) (jz := 1) (v := .ref (ad 7)) C dX7_count_102 (shA_0) rfl rfl (by decide) in_x7_count_X7 w_x7_count_19 rfl rfl rfl ?_
    refine r_aload_n C 0 dX7_count_105 rfl ?_
    refine r_get (j := 0) (jz := 0) (v := .ref (ad 1)) C dX7_count_106 (shA_0) rfl rfl (by decide) in_x7_count_X7 w_x7_count_10 rfl rfl rfl ?_
    refine r_aload_n C 0 dX7_count_109 rfl ?_
    refine r_get (j := 0) (jz := 0) (v := .ref (ad 1)) C dX7_count_110 (shA_0) rfl rfl (by decide) in_x7_count_X7 w_x7_count_10 rfl rfl rfl ?_
    refine r_get (j := 6) (jz := 6) (v := .ref (ad 5)) C dX7_count_113 (shA_1) rfl rfl (by decide) in_x7_count_X2 w_x7_count_108 rfl rfl rfl ?_
    refine r_callV (As := [.ref (ad 1), .ref (ad 5)]) (o := 7) (n := 2) C dX7_count_116 (x3_settle_ct κ.1.2.1 ad cA D 7 5 s (Or.inl rfl)) gX7_count_X3_settle rfl ⟨rfl, rfl⟩ (by decide +kernel) (by decide) (shA_7) rfl rfl rfl (Nat.le_of_ble_eq_true rfl) (fun _ => rfl) ?_
    refine x3_settle_mono h (fun _ s7 h => ?_)
    refine r_aload_n C 0 dX7_count_119 rfl ?_
    refine r_get (j := 1) (jz := 1) (v := .ref (ad 7)) C dX7_count_120 (shA_0) rfl rfl (by decide) in_x7_count_X7 w_x7_count_19 rfl rfl rfl ?_
    refine r_aload_n C 0 dX7_count_123 rfl ?_
    refine r_get (j := 0) (jz := 0) (v := .ref (ad 1)) C dX7_count_124 (shA_0) rfl rfl (by decide) in_x7_count_X7 w_x7_count_10 rfl rfl rfl ?_
    refine r_callV (As := [.ref (ad 1)]) (o := 7) (n := 1) C dX7_count_127 (x3_openCount_ct κ.1.2.1 ad cA D 7 s7 (Or.inl rfl)) gX7_count_X3_openCount rfl ⟨rfl, rfl⟩ (by decide +kernel) (by decide) (shA_7) rfl rfl rfl (Nat.le_of_ble_eq_true rfl) (fun _ => rfl) ?_
    refine x3_openCount_mono h (fun r9 s8 h => ?_)
    exact r_ireturn C dX7_count_130 h
  by_cases c1 : p1 = 4
  · have h := h.2.2.2.2.2.1 c1
    refine r_tsIn (tgt := 131) C 4 dX7_count_1 rfl (by decide) c1 hI (by decide) ?_
    refine r_aload_n C 0 dX7_count_131 rfl ?_
    refine r_get (j := 0) (jz := 0) (v := .ref (ad 1)) C dX7_count_132 (shA_0) rfl rfl (by decide) in_x7_count_X7 w_x7_count_10 rfl rfl rfl ?_
    refine r_aload_n C 0 dX7_count_135 rfl ?_
    refine r_get (j := 0) (jz := 0) (v := .ref (ad 1)) C dX7_count_136 (shA_0) rfl rfl (by decide) in_x7_count_X7 w_x7_count_10 rfl rfl rfl ?_
    refine r_get (j := 5) (jz := 5) (v := .ref (ad 4)) C dX7_count_139 (shA_1) rfl rfl (by decide) in_x7_count_X2 w_x7_count_160 rfl rfl rfl ?_
    refine r_callV (As := [.ref (ad 4)]) (o := 1) (n := 1) C dX7_count_142 (x2_sumOf_ct κ.1.2.1 ad cA D 4 s) gX7_count_X2_sumOf rfl ⟨rfl, rfl⟩ (by decide +kernel) (by decide) (shA_1) rfl rfl rfl (Nat.le_of_ble_eq_true rfl) (fun _ => rfl) ?_
    refine x2_sumOf_mono h (fun r11 s10 h => ?_)
    exact r_ireturn C dX7_count_145 h
  by_cases c1 : p1 = 5
  · have h := h.2.2.2.2.2.2.1 c1
    refine r_tsIn (tgt := 146) C 5 dX7_count_1 rfl (by decide) c1 hI (by decide) ?_
    refine r_aload_n C 0 dX7_count_146 rfl ?_
    refine r_get (j := 3) (jz := 3) (v := .ref (ad 23)) C dX7_count_147 (shA_0) rfl rfl (by decide) in_x7_count_X7 w_x7_count_33 rfl rfl rfl ?_
    refine r_get (j := 0) (jz := 0) (v := vI (s 23 (0 : Int))) C dX7_count_150 (shA_23) rfl rfl (by decide) in_x7_count_X0 w_x7_count_67 rfl rfl rfl ?_
    exact r_ireturn C dX7_count_153 h
  by_cases c1 : p1 = 6
  · have h := h.2.2.2.2.2.2.2.1 c1
    refine r_tsIn (tgt := 154) C 6 dX7_count_1 rfl (by decide) c1 hI (by decide) ?_
    refine r_aload_n C 0 dX7_count_154 rfl ?_
    refine r_get (j := 5) (jz := 5) (v := .ref (ad 34)) C dX7_count_155 (shA_0) rfl rfl (by decide) in_x7_count_X7 w_x7_count_47 rfl rfl rfl ?_
    refine r_get (j := 0) (jz := 0) (v := vI (s 34 (0 : Int))) C dX7_count_158 (shA_34) rfl rfl (by decide) in_x7_count_X6 w_x7_count_73 rfl rfl rfl ?_
    refine r_callS (As := [vI (s 34 (0 : Int))]) (n := 1) C dX7_count_161 (j6_bitCount_0f7a4_ct κ.1.2.1 ad cA D (s 34 (0 : Int)) s) gX7_count_J6_bitCount_0f7a4 rfl ⟨rfl, rfl⟩ (by decide +kernel) (by decide) rfl rfl (Nat.le_of_ble_eq_true rfl) (fun _ => rfl) ?_
    refine j6_bitCount_0f7a4_mono h (fun r13 s12 h => ?_)
    exact r_ireturn C dX7_count_164 h
  by_cases c1 : p1 = 7
  · have h := h.2.2.2.2.2.2.2.2.1 c1
    refine r_tsIn (tgt := 165) C 7 dX7_count_1 rfl (by decide) c1 hI (by decide) ?_
    refine r_aload_n C 0 dX7_count_165 rfl ?_
    refine r_get (j := 6) (jz := 6) (v := .ref (ad 37)) C dX7_count_166 (shA_0) rfl rfl (by decide) in_x7_count_X7 w_x7_count_54 rfl rfl rfl ?_
    refine r_get (j := 0) (jz := 0) (v := vI (s 37 (0 : Int))) C dX7_count_169 (shA_37) rfl rfl (by decide) in_x7_count_X5 w_x7_count_167 rfl rfl rfl ?_
    exact r_ireturn C dX7_count_172 h
  by_cases c1 : p1 = 8
  · have h := h.2.2.2.2.2.2.2.2.2.1 c1
    refine r_tsIn (tgt := 173) C 8 dX7_count_1 rfl (by decide) c1 hI (by decide) ?_
    refine r_aload_n C 0 dX7_count_173 rfl ?_
    refine r_get (j := 7) (jz := 7) (v := vI (s 0 (7 : Int))) C dX7_count_174 (shA_0) rfl rfl (by decide) in_x7_count_X7 w_x7_count_170 rfl rfl rfl ?_
    exact r_ireturn C dX7_count_177 h
  have c1d : p1 < 0 ∨ 8 < p1 := by omega
  have h := h.2.2.2.2.2.2.2.2.2.2 c1d
  refine r_tsOut (tgt := 178) C dX7_count_1 c1d hI (by decide) ?_
  refine r_ldc (z := -100002) C dX7_count_178 w_x7_count_66 rfl ?_
  exact r_ireturn C dX7_count_180 h
theorem x7_count_ct (l : Launch) (ad : Nat → Nat) (cA : Nat → ClassId) (D : va_G) (p1 : Int) (s : Mem) : MG l yX7_count wsX7_count x7_count_rm ocI [.ref (ad 0), vI p1] (GA ad cA D) s (x7_count p1 s) :=
  m_met (own := RX7) (nL := 2) (by decide) rfl rfl (Nat.le_of_ble_eq_true rfl) rfl rfl rfl (fun κ hl C Q Pst hW hQ => x7_count_bd C (x7_count_mono hW hQ))

def x7_row (p1 : Int) (s : Mem) (Q : Int → Mem → Prop) : Prop :=
  x2_takeRow p1 s (fun r2 s1 => InI r2 ∧ (r2 = (0 : Int) → Q (-100002 : Int) s1) ∧ (¬ r2 = (0 : Int) → Q (1 : Int) s1))
theorem x7_row_mono {Q R : Int → Mem → Prop} {p1 : Int} {s : Mem} (h : x7_row p1 s Q) (hQ : ∀ r s, Q r s → R r s) : x7_row p1 s R :=
  x2_takeRow_mono h (fun r2 s1 h => ⟨h.1, fun c => have h := h.2.1 c; hQ _ _ h, fun c => have h := h.2.2 c; hQ _ _ h⟩)
def x7_row_rm : Room := { frames := 3, cells := 0, slots := 0, locals := 68 }
theorem w_x7_row_10 : Cond.fieldLink RX7 10 "BoltRing" "ring" "LBoltRing$Joint;" ∈ wsX7_row := by decide +kernel
theorem w_x7_row_66 : Cond.constant RX7 66 (-100002) ∈ wsX7_row := by decide +kernel
theorem in_x7_row_X7 : ∀ w ∈ wsX70, w ∈ wsX7_row := by decide +kernel
set_option maxHeartbeats 4000000 in
set_option maxRecDepth 100000 in
theorem x7_row_bd {κ : KT} {ad : Nat → Nat} {cA : Nat → ClassId} {D : va_G} {Q : State → Prop} {p1 : Int} {s : Mem} (C : CX κ (GA ad cA D) RX7 cX7_row 2 wsX7_row x7_row_rm (some .int)) (h : x7_row p1 s (RT κ (GA ad cA D) ocI Q)) : WM κ (GA ad cA D) 2 Q s 0 [(0, .ref (ad 0)), (1, vI p1)] [] := by
  refine r_aload_n C 0 dX7_row_0 rfl ?_
  refine r_get (j := 0) (jz := 0) (v := .ref (ad 1)) C dX7_row_1 (shA_0) rfl rfl (by decide) in_x7_row_X7 w_x7_row_10 rfl rfl rfl ?_
  refine r_iload_n C 1 dX7_row_4 rfl ?_
  refine r_callV (As := [vI p1]) (o := 1) (n := 1) C dX7_row_5 (x2_takeRow_ct κ.1.2.1 ad cA D p1 s) gX7_row_X2_takeRow rfl ⟨rfl, rfl⟩ (by decide +kernel) (by decide) (shA_1) rfl rfl rfl (Nat.le_of_ble_eq_true rfl) (fun _ => rfl) ?_
  refine x2_takeRow_mono h (fun r2 s1 h => ?_)
  refine r_if_eq (tgt := 15) C dX7_row_8 (by decide) ⟨h.1, fun c3 => ?_, fun c3 => ?_⟩
  · have h := h.2.1 c3
    refine r_ldc (z := -100002) C dX7_row_15 w_x7_row_66 rfl ?_
    exact r_ireturn C dX7_row_17 h
  · have h := h.2.2 c3
    refine r_iconst C dX7_row_11 ?_
    refine r_goto (tgt := 17) C dX7_row_12 (by decide) ?_
    exact r_ireturn C dX7_row_17 h
theorem x7_row_ct (l : Launch) (ad : Nat → Nat) (cA : Nat → ClassId) (D : va_G) (p1 : Int) (s : Mem) : MG l yX7_row wsX7_row x7_row_rm ocI [.ref (ad 0), vI p1] (GA ad cA D) s (x7_row p1 s) :=
  m_met (own := RX7) (nL := 2) (by decide) rfl rfl (Nat.le_of_ble_eq_true rfl) rfl rfl rfl (fun κ hl C Q Pst hW hQ => x7_row_bd C (x7_row_mono hW hQ))

def x7_passes (p1 : Int) (s : Mem) (Q : Int → Mem → Prop) : Prop :=
  x7_within p1 (1 : Int) (900 : Int) s (fun r2 s1 => InI r2 ∧ (¬ r2 = (0 : Int) → x1_keepTurns s1 (fun _ s3 => x1_goRounds 6 p1 (20 : Int) s3 (fun r5 s4 => (InI r5 ∧ InI (-1 : Int)) ∧ (¬ r5 = (-1 : Int) → Q r5 s4) ∧ (r5 = (-1 : Int) → x1_putTurnsBack s4 (fun _ s6 => Q (-100003 : Int) s6))))) ∧ (r2 = (0 : Int) → Q (-100002 : Int) s1))
theorem x7_passes_mono {Q R : Int → Mem → Prop} {p1 : Int} {s : Mem} (h : x7_passes p1 s Q) (hQ : ∀ r s, Q r s → R r s) : x7_passes p1 s R :=
  x7_within_mono h (fun r2 s1 h => ⟨h.1, fun c => have h := h.2.1 c; x1_keepTurns_mono h (fun _ s3 h => x1_goRounds_mono h (fun r5 s4 h => ⟨h.1, fun c => have h := h.2.1 c; hQ _ _ h, fun c => have h := h.2.2 c; x1_putTurnsBack_mono h (fun _ s6 h => hQ _ _ h)⟩)), fun c => have h := h.2.2 c; hQ _ _ h⟩)
def x7_passes_rm : Room := { frames := 5, cells := 0, slots := 0, locals := 144 }
theorem w_x7_passes_26 : Cond.fieldLink RX7 26 "BoltRing" "drawing" "LBoltRing$Drawing;" ∈ wsX7_passes := by decide +kernel
theorem w_x7_passes_10 : Cond.fieldLink RX7 10 "BoltRing" "ring" "LBoltRing$Joint;" ∈ wsX7_passes := by decide +kernel
theorem w_x7_passes_180 : Cond.fieldLink RX7 180 "BoltRing$Joint" "order" "[I" ∈ wsX7_passes := by decide +kernel
theorem w_x7_passes_99 : Cond.constant RX7 99 (-100003) ∈ wsX7_passes := by decide +kernel
theorem w_x7_passes_66 : Cond.constant RX7 66 (-100002) ∈ wsX7_passes := by decide +kernel
theorem in_x7_passes_X2 : ∀ w ∈ wsX20, w ∈ wsX7_passes := by decide +kernel
theorem in_x7_passes_X7 : ∀ w ∈ wsX70, w ∈ wsX7_passes := by decide +kernel
set_option maxHeartbeats 4000000 in
set_option maxRecDepth 100000 in
theorem x7_passes_bd {κ : KT} {ad : Nat → Nat} {cA : Nat → ClassId} {D : va_G} {Q : State → Prop} {p1 : Int} {s : Mem} (C : CX κ (GA ad cA D) RX7 cX7_passes 3 wsX7_passes x7_passes_rm (some .int)) (h : x7_passes p1 s (RT κ (GA ad cA D) ocI Q)) : WM κ (GA ad cA D) 3 Q s 0 [(0, .ref (ad 0)), (1, vI p1)] [] := by
  refine r_iload_n C 1 dX7_passes_0 rfl ?_
  refine r_iconst C dX7_passes_1 ?_
  refine r_sipush C dX7_passes_2 (by decide) ?_
  refine r_callS (As := [vI p1, vI (1 : Int), vI (900 : Int)]) (n := 3) C dX7_passes_5 (x7_within_ct κ.1.2.1 ad cA D p1 (1 : Int) (900 : Int) s) gX7_passes_X7_within rfl ⟨rfl, rfl⟩ (by decide +kernel) (by decide) rfl rfl (Nat.le_of_ble_eq_true rfl) (fun _ => rfl) ?_
  refine x7_within_mono h (fun r2 s1 h => ?_)
  refine r_if_ne (tgt := 14) C dX7_passes_8 (by decide) ⟨h.1, fun c8 => ?_, fun c8 => ?_⟩
  · have h := h.2.1 c8
    refine r_aload_n C 0 dX7_passes_14 rfl ?_
    refine r_get (j := 2) (jz := 2) (v := .ref (ad 13)) C dX7_passes_15 (shA_0) rfl rfl (by decide) in_x7_passes_X7 w_x7_passes_26 rfl rfl rfl ?_
    refine r_aload_n C 0 dX7_passes_18 rfl ?_
    refine r_get (j := 0) (jz := 0) (v := .ref (ad 1)) C dX7_passes_19 (shA_0) rfl rfl (by decide) in_x7_passes_X7 w_x7_passes_10 rfl rfl rfl ?_
    refine r_callV (As := [.ref (ad 1)]) (o := 13) (n := 1) C dX7_passes_22 (x1_keepTurns_ct κ.1.2.1 ad cA D s1) gX7_passes_X1_keepTurns rfl ⟨rfl, rfl⟩ (by decide +kernel) (by decide) (shA_13) rfl rfl rfl (Nat.le_of_ble_eq_true rfl) (fun _ => rfl) ?_
    refine x1_keepTurns_mono h (fun _ s3 h => ?_)
    refine r_aload_n C 0 dX7_passes_25 rfl ?_
    refine r_get (j := 2) (jz := 2) (v := .ref (ad 13)) C dX7_passes_26 (shA_0) rfl rfl (by decide) in_x7_passes_X7 w_x7_passes_26 rfl rfl rfl ?_
    refine r_aload_n C 0 dX7_passes_29 rfl ?_
    refine r_get (j := 0) (jz := 0) (v := .ref (ad 1)) C dX7_passes_30 (shA_0) rfl rfl (by decide) in_x7_passes_X7 w_x7_passes_10 rfl rfl rfl ?_
    refine r_aload_n C 0 dX7_passes_33 rfl ?_
    refine r_get (j := 0) (jz := 0) (v := .ref (ad 1)) C dX7_passes_34 (shA_0) rfl rfl (by decide) in_x7_passes_X7 w_x7_passes_10 rfl rfl rfl ?_
    refine r_get (j := 7) (jz := 7) (v := .ref (ad 6)) C dX7_passes_37 (shA_1) rfl rfl (by decide) in_x7_passes_X2 w_x7_passes_180 rfl rfl rfl ?_
    refine r_iload_n C 1 dX7_passes_40 rfl ?_
    refine r_bipush C dX7_passes_41 (by decide) ?_
    refine r_callV (As := [.ref (ad 1), .ref (ad 6), vI p1, vI (20 : Int)]) (o := 13) (n := 4) C dX7_passes_43 (x1_goRounds_ct κ.1.2.1 ad cA D 6 p1 (20 : Int) s3) gX7_passes_X1_goRounds rfl ⟨rfl, rfl⟩ (by decide +kernel) (by decide) (shA_13) rfl rfl rfl (Nat.le_of_ble_eq_true rfl) (fun _ => rfl) ?_
    refine x1_goRounds_mono h (fun r5 s4 h => ?_)
    refine r_istore_n (ls' := [(2, vI r5), (0, .ref (ad 0)), (1, vI p1)]) C dX7_passes_46 rfl (by decide) rfl ?_
    refine r_iload_n C 0 dX7_passes_47 rfl ?_
    refine r_iconst C dX7_passes_48 ?_
    refine r_icmp_ne (tgt := 66) C dX7_passes_49 (by decide) ⟨h.1, fun c7 => ?_, fun c7 => ?_⟩
    · have h := h.2.1 c7
      refine r_iload_n C 0 dX7_passes_66 rfl ?_
      exact r_ireturn C dX7_passes_67 h
    · have h := h.2.2 c7
      refine r_aload_n C 1 dX7_passes_52 rfl ?_
      refine r_get (j := 2) (jz := 2) (v := .ref (ad 13)) C dX7_passes_53 (shA_0) rfl rfl (by decide) in_x7_passes_X7 w_x7_passes_26 rfl rfl rfl ?_
      refine r_aload_n C 1 dX7_passes_56 rfl ?_
      refine r_get (j := 0) (jz := 0) (v := .ref (ad 1)) C dX7_passes_57 (shA_0) rfl rfl (by decide) in_x7_passes_X7 w_x7_passes_10 rfl rfl rfl ?_
      refine r_callV (As := [.ref (ad 1)]) (o := 13) (n := 1) C dX7_passes_60 (x1_putTurnsBack_ct κ.1.2.1 ad cA D s4) gX7_passes_X1_putTurnsBack rfl ⟨rfl, rfl⟩ (by decide +kernel) (by decide) (shA_13) rfl rfl rfl (Nat.le_of_ble_eq_true rfl) (fun _ => rfl) ?_
      refine x1_putTurnsBack_mono h (fun _ s6 h => ?_)
      refine r_ldc (z := -100003) C dX7_passes_63 w_x7_passes_99 rfl ?_
      exact r_ireturn C dX7_passes_65 h
  · have h := h.2.2 c8
    refine r_ldc (z := -100002) C dX7_passes_11 w_x7_passes_66 rfl ?_
    exact r_ireturn C dX7_passes_13 h
theorem x7_passes_ct (l : Launch) (ad : Nat → Nat) (cA : Nat → ClassId) (D : va_G) (p1 : Int) (s : Mem) : MG l yX7_passes wsX7_passes x7_passes_rm ocI [.ref (ad 0), vI p1] (GA ad cA D) s (x7_passes p1 s) :=
  m_met (own := RX7) (nL := 3) (by decide) rfl rfl (Nat.le_of_ble_eq_true rfl) rfl rfl rfl (fun κ hl C Q Pst hW hQ => x7_passes_bd C (x7_passes_mono hW hQ))

def x7_best (p1 : Int) (p2 : Int) (s : Mem) (Q : Int → Mem → Prop) : Prop :=
  x7_within p1 (1 : Int) (900 : Int) s (fun r2 s1 => InI r2 ∧ (r2 = (0 : Int) → Q (-100002 : Int) s1) ∧ (¬ r2 = (0 : Int) → x7_within p2 (0 : Int) (2 : Int) s1 (fun r4 s3 => InI r4 ∧ (¬ r4 = (0 : Int) → (InI (s3 1 (0 : Int)) ∧ InI (6 : Int)) ∧ (¬ (s3 1 (0 : Int)) = (6 : Int) → x1_findBestRow p1 s3 (fun _ s5 => (InI (s5 13 (0 : Int)) ∧ InI (-1 : Int)) ∧ (¬ (s5 13 (0 : Int)) = (-1 : Int) → InI p2 ∧ (¬ p2 = (0 : Int) → (InI p2 ∧ InI (1 : Int)) ∧ (¬ p2 = (1 : Int) → Q (s5 13 (1 : Int)) s5) ∧ (p2 = (1 : Int) → Q (s5 13 (0 : Int)) s5)) ∧ (p2 = (0 : Int) → Q (s5 13 (2 : Int)) s5)) ∧ ((s5 13 (0 : Int)) = (-1 : Int) → Q (-100003 : Int) s5))) ∧ ((s3 1 (0 : Int)) = (6 : Int) → Q (-100005 : Int) s3)) ∧ (r4 = (0 : Int) → Q (-100002 : Int) s3))))
theorem x7_best_mono {Q R : Int → Mem → Prop} {p1 : Int} {p2 : Int} {s : Mem} (h : x7_best p1 p2 s Q) (hQ : ∀ r s, Q r s → R r s) : x7_best p1 p2 s R :=
  x7_within_mono h (fun r2 s1 h => ⟨h.1, fun c => have h := h.2.1 c; hQ _ _ h, fun c => have h := h.2.2 c; x7_within_mono h (fun r4 s3 h => ⟨h.1, fun c => have h := h.2.1 c; ⟨h.1, fun c => have h := h.2.1 c; x1_findBestRow_mono h (fun _ s5 h => ⟨h.1, fun c => have h := h.2.1 c; ⟨h.1, fun c => have h := h.2.1 c; ⟨h.1, fun c => have h := h.2.1 c; hQ _ _ h, fun c => have h := h.2.2 c; hQ _ _ h⟩, fun c => have h := h.2.2 c; hQ _ _ h⟩, fun c => have h := h.2.2 c; hQ _ _ h⟩), fun c => have h := h.2.2 c; hQ _ _ h⟩, fun c => have h := h.2.2 c; hQ _ _ h⟩)⟩)
def x7_best_rm : Room := { frames := 6, cells := 0, slots := 0, locals := 171 }
theorem w_x7_best_66 : Cond.constant RX7 66 (-100002) ∈ wsX7_best := by decide +kernel
theorem w_x7_best_10 : Cond.fieldLink RX7 10 "BoltRing" "ring" "LBoltRing$Joint;" ∈ wsX7_best := by decide +kernel
theorem w_x7_best_142 : Cond.fieldLink RX7 142 "BoltRing$Joint" "bolts" "I" ∈ wsX7_best := by decide +kernel
theorem w_x7_best_26 : Cond.fieldLink RX7 26 "BoltRing" "drawing" "LBoltRing$Drawing;" ∈ wsX7_best := by decide +kernel
theorem w_x7_best_203 : Cond.fieldLink RX7 203 "BoltRing$Drawing" "bestPasses" "I" ∈ wsX7_best := by decide +kernel
theorem w_x7_best_209 : Cond.fieldLink RX7 209 "BoltRing$Drawing" "bestDrawn" "I" ∈ wsX7_best := by decide +kernel
theorem w_x7_best_206 : Cond.fieldLink RX7 206 "BoltRing$Drawing" "bestFigures" "I" ∈ wsX7_best := by decide +kernel
theorem w_x7_best_99 : Cond.constant RX7 99 (-100003) ∈ wsX7_best := by decide +kernel
theorem w_x7_best_198 : Cond.constant RX7 198 (-100005) ∈ wsX7_best := by decide +kernel
theorem in_x7_best_X1 : ∀ w ∈ wsX10, w ∈ wsX7_best := by decide +kernel
theorem in_x7_best_X2 : ∀ w ∈ wsX20, w ∈ wsX7_best := by decide +kernel
theorem in_x7_best_X7 : ∀ w ∈ wsX70, w ∈ wsX7_best := by decide +kernel
set_option maxHeartbeats 4000000 in
set_option maxRecDepth 100000 in
theorem x7_best_bd {κ : KT} {ad : Nat → Nat} {cA : Nat → ClassId} {D : va_G} {Q : State → Prop} {p1 : Int} {p2 : Int} {s : Mem} (C : CX κ (GA ad cA D) RX7 cX7_best 3 wsX7_best x7_best_rm (some .int)) (h : x7_best p1 p2 s (RT κ (GA ad cA D) ocI Q)) : WM κ (GA ad cA D) 3 Q s 0 [(0, .ref (ad 0)), (1, vI p1), (2, vI p2)] [] := by
  refine r_iload_n C 1 dX7_best_0 rfl ?_
  refine r_iconst C dX7_best_1 ?_
  refine r_sipush C dX7_best_2 (by decide) ?_
  refine r_callS (As := [vI p1, vI (1 : Int), vI (900 : Int)]) (n := 3) C dX7_best_5 (x7_within_ct κ.1.2.1 ad cA D p1 (1 : Int) (900 : Int) s) gX7_best_X7_within rfl ⟨rfl, rfl⟩ (by decide +kernel) (by decide) rfl rfl (Nat.le_of_ble_eq_true rfl) (fun _ => rfl) ?_
  refine x7_within_mono h (fun r2 s1 h => ?_)
  refine r_if_eq (tgt := 20) C dX7_best_8 (by decide) ⟨h.1, fun c11 => ?_, fun c11 => ?_⟩
  · have h := h.2.1 c11
    refine r_ldc (z := -100002) C dX7_best_20 w_x7_best_66 rfl ?_
    exact r_ireturn C dX7_best_22 h
  · have h := h.2.2 c11
    refine r_iload_n C 2 dX7_best_11 rfl ?_
    refine r_iconst C dX7_best_12 ?_
    refine r_iconst C dX7_best_13 ?_
    refine r_callS (As := [vI p2, vI (0 : Int), vI (2 : Int)]) (n := 3) C dX7_best_14 (x7_within_ct κ.1.2.1 ad cA D p2 (0 : Int) (2 : Int) s1) gX7_best_X7_within rfl ⟨rfl, rfl⟩ (by decide +kernel) (by decide) rfl rfl (Nat.le_of_ble_eq_true rfl) (fun _ => rfl) ?_
    refine x7_within_mono h (fun r4 s3 h => ?_)
    refine r_if_ne (tgt := 23) C dX7_best_17 (by decide) ⟨h.1, fun c10 => ?_, fun c10 => ?_⟩
    · have h := h.2.1 c10
      refine r_aload_n C 0 dX7_best_23 rfl ?_
      refine r_get (j := 0) (jz := 0) (v := .ref (ad 1)) C dX7_best_24 (shA_0) rfl rfl (by decide) in_x7_best_X7 w_x7_best_10 rfl rfl rfl ?_
      refine r_get (j := 0) (jz := 0) (v := vI (s3 1 (0 : Int))) C dX7_best_27 (shA_1) rfl rfl (by decide) in_x7_best_X2 w_x7_best_142 rfl rfl rfl ?_
      refine r_bipush C dX7_best_30 (by decide) ?_
      refine r_icmp_ne (tgt := 38) C dX7_best_32 (by decide) ⟨h.1, fun c9 => ?_, fun c9 => ?_⟩
      · have h := h.2.1 c9
        refine r_aload_n C 0 dX7_best_38 rfl ?_
        refine r_get (j := 2) (jz := 2) (v := .ref (ad 13)) C dX7_best_39 (shA_0) rfl rfl (by decide) in_x7_best_X7 w_x7_best_26 rfl rfl rfl ?_
        refine r_aload_n C 0 dX7_best_42 rfl ?_
        refine r_get (j := 0) (jz := 0) (v := .ref (ad 1)) C dX7_best_43 (shA_0) rfl rfl (by decide) in_x7_best_X7 w_x7_best_10 rfl rfl rfl ?_
        refine r_iload_n C 1 dX7_best_46 rfl ?_
        refine r_callV (As := [.ref (ad 1), vI p1]) (o := 13) (n := 2) C dX7_best_47 (x1_findBestRow_ct κ.1.2.1 ad cA D p1 s3) gX7_best_X1_findBestRow rfl ⟨rfl, rfl⟩ (by decide +kernel) (by decide) (shA_13) rfl rfl rfl (Nat.le_of_ble_eq_true rfl) (fun _ => rfl) ?_
        refine x1_findBestRow_mono h (fun _ s5 h => ?_)
        refine r_aload_n C 0 dX7_best_50 rfl ?_
        refine r_get (j := 2) (jz := 2) (v := .ref (ad 13)) C dX7_best_51 (shA_0) rfl rfl (by decide) in_x7_best_X7 w_x7_best_26 rfl rfl rfl ?_
        refine r_get (j := 0) (jz := 0) (v := vI (s5 13 (0 : Int))) C dX7_best_54 (shA_13) rfl rfl (by decide) in_x7_best_X1 w_x7_best_203 rfl rfl rfl ?_
        refine r_iconst C dX7_best_57 ?_
        refine r_icmp_ne (tgt := 64) C dX7_best_58 (by decide) ⟨h.1, fun c8 => ?_, fun c8 => ?_⟩
        · have h := h.2.1 c8
          refine r_iload_n C 2 dX7_best_64 rfl ?_
          refine r_if_ne (tgt := 76) C dX7_best_65 (by decide) ⟨h.1, fun c7 => ?_, fun c7 => ?_⟩
          · have h := h.2.1 c7
            refine r_iload_n C 2 dX7_best_76 rfl ?_
            refine r_iconst C dX7_best_77 ?_
            refine r_icmp_ne (tgt := 91) C dX7_best_78 (by decide) ⟨h.1, fun c6 => ?_, fun c6 => ?_⟩
            · have h := h.2.1 c6
              refine r_aload_n C 0 dX7_best_91 rfl ?_
              refine r_get (j := 2) (jz := 2) (v := .ref (ad 13)) C dX7_best_92 (shA_0) rfl rfl (by decide) in_x7_best_X7 w_x7_best_26 rfl rfl rfl ?_
              refine r_get (j := 1) (jz := 1) (v := vI (s5 13 (1 : Int))) C dX7_best_95 (shA_13) rfl rfl (by decide) in_x7_best_X1 w_x7_best_209 rfl rfl rfl ?_
              exact r_ireturn C dX7_best_98 h
            · have h := h.2.2 c6
              refine r_aload_n C 0 dX7_best_81 rfl ?_
              refine r_get (j := 2) (jz := 2) (v := .ref (ad 13)) C dX7_best_82 (shA_0) rfl rfl (by decide) in_x7_best_X7 w_x7_best_26 rfl rfl rfl ?_
              refine r_get (j := 0) (jz := 0) (v := vI (s5 13 (0 : Int))) C dX7_best_85 (shA_13) rfl rfl (by decide) in_x7_best_X1 w_x7_best_203 rfl rfl rfl ?_
              refine r_goto (tgt := 98) C dX7_best_88 (by decide) ?_
              exact r_ireturn C dX7_best_98 h
          · have h := h.2.2 c7
            refine r_aload_n C 0 dX7_best_68 rfl ?_
            refine r_get (j := 2) (jz := 2) (v := .ref (ad 13)) C dX7_best_69 (shA_0) rfl rfl (by decide) in_x7_best_X7 w_x7_best_26 rfl rfl rfl ?_
            refine r_get (j := 2) (jz := 2) (v := vI (s5 13 (2 : Int))) C dX7_best_72 (shA_13) rfl rfl (by decide) in_x7_best_X1 w_x7_best_206 rfl rfl rfl ?_
            exact r_ireturn C dX7_best_75 h
        · have h := h.2.2 c8
          refine r_ldc (z := -100003) C dX7_best_61 w_x7_best_99 rfl ?_
          exact r_ireturn C dX7_best_63 h
      · have h := h.2.2 c9
        refine r_ldc (z := -100005) C dX7_best_35 w_x7_best_198 rfl ?_
        exact r_ireturn C dX7_best_37 h
    · have h := h.2.2 c10
      refine r_ldc (z := -100002) C dX7_best_20 w_x7_best_66 rfl ?_
      exact r_ireturn C dX7_best_22 h
theorem x7_best_ct (l : Launch) (ad : Nat → Nat) (cA : Nat → ClassId) (D : va_G) (p1 : Int) (p2 : Int) (s : Mem) : MG l yX7_best wsX7_best x7_best_rm ocI [.ref (ad 0), vI p1, vI p2] (GA ad cA D) s (x7_best p1 p2 s) :=
  m_met (own := RX7) (nL := 3) (by decide) rfl rfl (Nat.le_of_ble_eq_true rfl) rfl rfl rfl (fun κ hl C Q Pst hW hQ => x7_best_bd C (x7_best_mono hW hQ))

def x7_even_be (X19 : Int → Int → Mem → Prop) (X88 : Int → Int → Mem → Prop) (Q : Int → Mem → Prop) (p1 : Int) (p2 : Int) (s : Mem) : Prop :=
  (InI p2 ∧ InI (-1 : Int)) ∧ (p2 = (-1 : Int) → X19 p1 p2 s) ∧ (¬ p2 = (-1 : Int) → x2_has p2 s (fun r2 s1 => InI r2 ∧ (¬ r2 = (0 : Int) → X19 p1 p2 s1) ∧ (r2 = (0 : Int) → Q (-100001 : Int) s1)))
def x7_even_b19 (X19 : Int → Int → Mem → Prop) (X88 : Int → Int → Mem → Prop) (Q : Int → Mem → Prop) (x1 : Int) (x2 : Int) (s : Mem) : Prop :=
  x7_within x1 (1 : Int) (900 : Int) s (fun r6 s5 => InI r6 ∧ (¬ r6 = (0 : Int) → x1_keepTurns s5 (fun _ s7 => x1_drawEvenFromNothing x1 s7 (fun r9 s8 => (InI x2 ∧ InI (-1 : Int)) ∧ (¬ x2 = (-1 : Int) → ((0 : Int) ≤ x2 ∧ x2 < 6) ∧ X88 r9 (s8 4 x2) s8) ∧ (x2 = (-1 : Int) → x2_sumOf 4 s8 (fun r11 s10 => X88 r9 r11 s10))))) ∧ (r6 = (0 : Int) → Q (-100002 : Int) s5))
def x7_even_b88 (X19 : Int → Int → Mem → Prop) (X88 : Int → Int → Mem → Prop) (Q : Int → Mem → Prop) (x3 : Int) (t0 : Int) (s : Mem) : Prop :=
  x1_putTurnsBack s (fun _ s14 => InI x3 ∧ (x3 = (0 : Int) → Q (-100003 : Int) s14) ∧ (¬ x3 = (0 : Int) → Q t0 s14))
theorem x7_even_me {X19 Y19 : Int → Int → Mem → Prop} {X88 Y88 : Int → Int → Mem → Prop} {Q R : Int → Mem → Prop} (hX19 : ∀ x1 x2 s, X19 x1 x2 s → Y19 x1 x2 s) (hX88 : ∀ x3 t0 s, X88 x3 t0 s → Y88 x3 t0 s) (hQ : ∀ r s, Q r s → R r s) {p1 : Int} {p2 : Int} {s : Mem} (h : x7_even_be X19 X88 Q p1 p2 s) : x7_even_be Y19 Y88 R p1 p2 s :=
  ⟨h.1, fun c => have h := h.2.1 c; hX19 _ _ _ h, fun c => have h := h.2.2 c; x2_has_mono h (fun r2 s1 h => ⟨h.1, fun c => have h := h.2.1 c; hX19 _ _ _ h, fun c => have h := h.2.2 c; hQ _ _ h⟩)⟩
theorem x7_even_m19 {X19 Y19 : Int → Int → Mem → Prop} {X88 Y88 : Int → Int → Mem → Prop} {Q R : Int → Mem → Prop} (hX19 : ∀ x1 x2 s, X19 x1 x2 s → Y19 x1 x2 s) (hX88 : ∀ x3 t0 s, X88 x3 t0 s → Y88 x3 t0 s) (hQ : ∀ r s, Q r s → R r s) {x1 : Int} {x2 : Int} {s : Mem} (h : x7_even_b19 X19 X88 Q x1 x2 s) : x7_even_b19 Y19 Y88 R x1 x2 s :=
  x7_within_mono h (fun r6 s5 h => ⟨h.1, fun c => have h := h.2.1 c; x1_keepTurns_mono h (fun _ s7 h => x1_drawEvenFromNothing_mono h (fun r9 s8 h => ⟨h.1, fun c => have h := h.2.1 c; ⟨h.1, have h := h.2; hX88 _ _ _ h⟩, fun c => have h := h.2.2 c; x2_sumOf_mono h (fun r11 s10 h => hX88 _ _ _ h)⟩)), fun c => have h := h.2.2 c; hQ _ _ h⟩)
theorem x7_even_m88 {X19 Y19 : Int → Int → Mem → Prop} {X88 Y88 : Int → Int → Mem → Prop} {Q R : Int → Mem → Prop} (hX19 : ∀ x1 x2 s, X19 x1 x2 s → Y19 x1 x2 s) (hX88 : ∀ x3 t0 s, X88 x3 t0 s → Y88 x3 t0 s) (hQ : ∀ r s, Q r s → R r s) {x3 : Int} {t0 : Int} {s : Mem} (h : x7_even_b88 X19 X88 Q x3 t0 s) : x7_even_b88 Y19 Y88 R x3 t0 s :=
  x1_putTurnsBack_mono h (fun _ s14 h => ⟨h.1, fun c => have h := h.2.1 c; hQ _ _ h, fun c => have h := h.2.2 c; hQ _ _ h⟩)
def x7_even (p1 : Int) (p2 : Int) (s : Mem) (Q : Int → Mem → Prop) : Prop := ∀ (X19 : Int → Int → Mem → Prop) (X88 : Int → Int → Mem → Prop), (∀ x1 x2 s, x7_even_b19 X19 X88 Q x1 x2 s → X19 x1 x2 s) → (∀ x3 t0 s, x7_even_b88 X19 X88 Q x3 t0 s → X88 x3 t0 s) → x7_even_be X19 X88 Q p1 p2 s
def x7_even_L19 (Q : Int → Mem → Prop) (x1 : Int) (x2 : Int) (s : Mem) : Prop := ∀ (X19 : Int → Int → Mem → Prop) (X88 : Int → Int → Mem → Prop), (∀ x1 x2 s, x7_even_b19 X19 X88 Q x1 x2 s → X19 x1 x2 s) → (∀ x3 t0 s, x7_even_b88 X19 X88 Q x3 t0 s → X88 x3 t0 s) → X19 x1 x2 s
def x7_even_L88 (Q : Int → Mem → Prop) (x3 : Int) (t0 : Int) (s : Mem) : Prop := ∀ (X19 : Int → Int → Mem → Prop) (X88 : Int → Int → Mem → Prop), (∀ x1 x2 s, x7_even_b19 X19 X88 Q x1 x2 s → X19 x1 x2 s) → (∀ x3 t0 s, x7_even_b88 X19 X88 Q x3 t0 s → X88 x3 t0 s) → X88 x3 t0 s
theorem x7_even_i {Q : Int → Mem → Prop} {p1 : Int} {p2 : Int} {s : Mem} (h : x7_even_be (x7_even_L19 Q) (x7_even_L88 Q) Q p1 p2 s) : x7_even p1 p2 s Q := fun X19 X88 k19 k88 => x7_even_me (fun _ _ _ h => h X19 X88 k19 k88) (fun _ _ _ h => h X19 X88 k19 k88) (fun _ _ h => h) h
theorem x7_even_s19 {Q : Int → Mem → Prop} {x1 : Int} {x2 : Int} {s : Mem} (h : x7_even_b19 (x7_even_L19 Q) (x7_even_L88 Q) Q x1 x2 s) : x7_even_L19 Q x1 x2 s := fun X19 X88 k19 k88 => k19 _ _ _ (x7_even_m19 (fun _ _ _ h => h X19 X88 k19 k88) (fun _ _ _ h => h X19 X88 k19 k88) (fun _ _ h => h) h)
theorem x7_even_s88 {Q : Int → Mem → Prop} {x3 : Int} {t0 : Int} {s : Mem} (h : x7_even_b88 (x7_even_L19 Q) (x7_even_L88 Q) Q x3 t0 s) : x7_even_L88 Q x3 t0 s := fun X19 X88 k19 k88 => k88 _ _ _ (x7_even_m88 (fun _ _ _ h => h X19 X88 k19 k88) (fun _ _ _ h => h X19 X88 k19 k88) (fun _ _ h => h) h)
theorem x7_even_mono {Q R : Int → Mem → Prop} {p1 : Int} {p2 : Int} {s : Mem} (h : x7_even p1 p2 s Q) (hQ : ∀ r s, Q r s → R r s) : x7_even p1 p2 s R := fun X19 X88 k19 k88 => x7_even_me (fun _ _ _ h => h) (fun _ _ _ h => h) hQ (h X19 X88 (fun _ _ _ h => k19 _ _ _ (x7_even_m19 (fun _ _ _ h => h) (fun _ _ _ h => h) hQ h)) (fun _ _ _ h => k88 _ _ _ (x7_even_m88 (fun _ _ _ h => h) (fun _ _ _ h => h) hQ h)))
def x7_even_rm : Room := { frames := 5, cells := 0, slots := 0, locals := 143 }
theorem w_x7_even_10 : Cond.fieldLink RX7 10 "BoltRing" "ring" "LBoltRing$Joint;" ∈ wsX7_even := by decide +kernel
theorem w_x7_even_80 : Cond.constant RX7 80 (-100001) ∈ wsX7_even := by decide +kernel
theorem w_x7_even_26 : Cond.fieldLink RX7 26 "BoltRing" "drawing" "LBoltRing$Drawing;" ∈ wsX7_even := by decide +kernel
theorem w_x7_even_160 : Cond.fieldLink RX7 160 "BoltRing$Joint" "turns" "[I" ∈ wsX7_even := by decide +kernel
theorem w_x7_even_66 : Cond.constant RX7 66 (-100002) ∈ wsX7_even := by decide +kernel
theorem w_x7_even_99 : Cond.constant RX7 99 (-100003) ∈ wsX7_even := by decide +kernel
theorem in_x7_even_X2 : ∀ w ∈ wsX20, w ∈ wsX7_even := by decide +kernel
theorem in_x7_even_X7 : ∀ w ∈ wsX70, w ∈ wsX7_even := by decide +kernel
set_option maxHeartbeats 4000000 in
set_option maxRecDepth 100000 in
theorem x7_even_bd {κ : KT} {ad : Nat → Nat} {cA : Nat → ClassId} {D : va_G} {Q : State → Prop} {p1 : Int} {p2 : Int} {s : Mem} (C : CX κ (GA ad cA D) RX7 cX7_even 5 wsX7_even x7_even_rm (some .int)) (h : x7_even p1 p2 s (RT κ (GA ad cA D) ocI Q)) : WM κ (GA ad cA D) 5 Q s 0 [(0, .ref (ad 0)), (1, vI p1), (2, vI p2)] [] := by
  obtain ⟨Z19, z19⟩ : ∃ Z : Int → Int → Mem → Prop, ∀ x1 x2 s, Z x1 x2 s ↔ WM κ (GA ad cA D) 5 Q s 19 [(0, .ref (ad 0)), (1, vI x1), (2, vI x2)] [] := ⟨fun x1 x2 s => WM κ (GA ad cA D) 5 Q s 19 [(0, .ref (ad 0)), (1, vI x1), (2, vI x2)] [], fun _ _ _ => Iff.rfl⟩
  obtain ⟨Z88, z88⟩ : ∃ Z : Int → Int → Mem → Prop, ∀ x3 t0 s, Z x3 t0 s ↔ WM κ (GA ad cA D) 5 Q s 88 [(0, .ref (ad 0)), (3, vI x3)] [vI t0] := ⟨fun x3 t0 s => WM κ (GA ad cA D) 5 Q s 88 [(0, .ref (ad 0)), (3, vI x3)] [vI t0], fun _ _ _ => Iff.rfl⟩
  refine (fun h => ?_) (h Z19 Z88 ?_ ?_)
  · refine r_iload_n C 2 dX7_even_0 rfl ?_
    refine r_iconst C dX7_even_1 ?_
    refine r_icmp_eq (tgt := 19) C dX7_even_2 (by decide) ⟨h.1, fun c4 => ?_, fun c4 => ?_⟩
    · have h := h.2.1 c4
      exact r_perm [0, 1, 2] rfl ((z19 _ _ _).1 h)
    · have h := h.2.2 c4
      refine r_aload_n C 0 dX7_even_5 rfl ?_
      refine r_get (j := 0) (jz := 0) (v := .ref (ad 1)) C dX7_even_6 (shA_0) rfl rfl (by decide) in_x7_even_X7 w_x7_even_10 rfl rfl rfl ?_
      refine r_iload_n C 2 dX7_even_9 rfl ?_
      refine r_callV (As := [vI p2]) (o := 1) (n := 1) C dX7_even_10 (x2_has_ct κ.1.2.1 ad cA D p2 s) gX7_even_X2_has rfl ⟨rfl, rfl⟩ (by decide +kernel) (by decide) (shA_1) rfl rfl rfl (Nat.le_of_ble_eq_true rfl) (fun _ => rfl) ?_
      refine x2_has_mono h (fun r2 s1 h => ?_)
      refine r_if_ne (tgt := 19) C dX7_even_13 (by decide) ⟨h.1, fun c3 => ?_, fun c3 => ?_⟩
      · have h := h.2.1 c3
        exact r_perm [0, 1, 2] rfl ((z19 _ _ _).1 h)
      · have h := h.2.2 c3
        refine r_ldc (z := -100001) C dX7_even_16 w_x7_even_80 rfl ?_
        exact r_ireturn C dX7_even_18 h
  · intro x1 x2 s h
    refine (z19 _ _ _).2 ?_
    refine r_iload_n C 1 dX7_even_19 rfl ?_
    refine r_iconst C dX7_even_20 ?_
    refine r_sipush C dX7_even_21 (by decide) ?_
    refine r_callS (As := [vI x1, vI (1 : Int), vI (900 : Int)]) (n := 3) C dX7_even_24 (x7_within_ct κ.1.2.1 ad cA D x1 (1 : Int) (900 : Int) s) gX7_even_X7_within rfl ⟨rfl, rfl⟩ (by decide +kernel) (by decide) rfl rfl (Nat.le_of_ble_eq_true rfl) (fun _ => rfl) ?_
    refine x7_within_mono h (fun r6 s5 h => ?_)
    refine r_if_ne (tgt := 33) C dX7_even_27 (by decide) ⟨h.1, fun c13 => ?_, fun c13 => ?_⟩
    · have h := h.2.1 c13
      refine r_aload_n C 0 dX7_even_33 rfl ?_
      refine r_get (j := 2) (jz := 2) (v := .ref (ad 13)) C dX7_even_34 (shA_0) rfl rfl (by decide) in_x7_even_X7 w_x7_even_26 rfl rfl rfl ?_
      refine r_aload_n C 0 dX7_even_37 rfl ?_
      refine r_get (j := 0) (jz := 0) (v := .ref (ad 1)) C dX7_even_38 (shA_0) rfl rfl (by decide) in_x7_even_X7 w_x7_even_10 rfl rfl rfl ?_
      refine r_callV (As := [.ref (ad 1)]) (o := 13) (n := 1) C dX7_even_41 (x1_keepTurns_ct κ.1.2.1 ad cA D s5) gX7_even_X1_keepTurns rfl ⟨rfl, rfl⟩ (by decide +kernel) (by decide) (shA_13) rfl rfl rfl (Nat.le_of_ble_eq_true rfl) (fun _ => rfl) ?_
      refine x1_keepTurns_mono h (fun _ s7 h => ?_)
      refine r_aload_n C 0 dX7_even_44 rfl ?_
      refine r_get (j := 2) (jz := 2) (v := .ref (ad 13)) C dX7_even_45 (shA_0) rfl rfl (by decide) in_x7_even_X7 w_x7_even_26 rfl rfl rfl ?_
      refine r_aload_n C 0 dX7_even_48 rfl ?_
      refine r_get (j := 0) (jz := 0) (v := .ref (ad 1)) C dX7_even_49 (shA_0) rfl rfl (by decide) in_x7_even_X7 w_x7_even_10 rfl rfl rfl ?_
      refine r_iload_n C 1 dX7_even_52 rfl ?_
      refine r_callV (As := [.ref (ad 1), vI x1]) (o := 13) (n := 2) C dX7_even_53 (x1_drawEvenFromNothing_ct κ.1.2.1 ad cA D x1 s7) gX7_even_X1_drawEvenFromNothing rfl ⟨rfl, rfl⟩ (by decide +kernel) (by decide) (shA_13) rfl rfl rfl (Nat.le_of_ble_eq_true rfl) (fun _ => rfl) ?_
      refine x1_drawEvenFromNothing_mono h (fun r9 s8 h => ?_)
      refine r_istore_n (ls' := [(3, vI r9), (0, .ref (ad 0)), (1, vI x1), (2, vI x2)]) C dX7_even_56 rfl (by decide) rfl ?_
      refine r_iload_n C 3 dX7_even_57 rfl ?_
      refine r_iconst C dX7_even_58 ?_
      refine r_icmp_ne (tgt := 79) C dX7_even_59 (by decide) ⟨h.1, fun c12 => ?_, fun c12 => ?_⟩
      · have h := h.2.1 c12
        refine r_aload_n C 1 dX7_even_79 rfl ?_
        refine r_get (j := 0) (jz := 0) (v := .ref (ad 1)) C dX7_even_80 (shA_0) rfl rfl (by decide) in_x7_even_X7 w_x7_even_10 rfl rfl rfl ?_
        refine r_get (j := 5) (jz := 5) (v := .ref (ad 4)) C dX7_even_83 (shA_1) rfl rfl (by decide) in_x7_even_X2 w_x7_even_160 rfl rfl rfl ?_
        refine r_iload_n C 3 dX7_even_86 rfl ?_
        refine r_iald (nz := 6) C dX7_even_87 (shA_4) rfl (by decide) ⟨h.1, ?_⟩
        have h := h.2
        exact r_perm [1, 0] rfl ((z88 _ _ _).1 h)
      · have h := h.2.2 c12
        refine r_aload_n C 1 dX7_even_62 rfl ?_
        refine r_get (j := 0) (jz := 0) (v := .ref (ad 1)) C dX7_even_63 (shA_0) rfl rfl (by decide) in_x7_even_X7 w_x7_even_10 rfl rfl rfl ?_
        refine r_aload_n C 1 dX7_even_66 rfl ?_
        refine r_get (j := 0) (jz := 0) (v := .ref (ad 1)) C dX7_even_67 (shA_0) rfl rfl (by decide) in_x7_even_X7 w_x7_even_10 rfl rfl rfl ?_
        refine r_get (j := 5) (jz := 5) (v := .ref (ad 4)) C dX7_even_70 (shA_1) rfl rfl (by decide) in_x7_even_X2 w_x7_even_160 rfl rfl rfl ?_
        refine r_callV (As := [.ref (ad 4)]) (o := 1) (n := 1) C dX7_even_73 (x2_sumOf_ct κ.1.2.1 ad cA D 4 s8) gX7_even_X2_sumOf rfl ⟨rfl, rfl⟩ (by decide +kernel) (by decide) (shA_1) rfl rfl rfl (Nat.le_of_ble_eq_true rfl) (fun _ => rfl) ?_
        refine x2_sumOf_mono h (fun r11 s10 h => ?_)
        refine r_goto (tgt := 88) C dX7_even_76 (by decide) ?_
        exact r_perm [1, 0] rfl ((z88 _ _ _).1 h)
    · have h := h.2.2 c13
      refine r_ldc (z := -100002) C dX7_even_30 w_x7_even_66 rfl ?_
      exact r_ireturn C dX7_even_32 h
  · intro x3 t0 s h
    refine (z88 _ _ _).2 ?_
    refine r_istore (ls' := [(4, vI t0), (0, .ref (ad 0)), (3, vI x3)]) C dX7_even_88 (by decide) rfl ?_
    refine r_aload_n C 1 dX7_even_90 rfl ?_
    refine r_get (j := 2) (jz := 2) (v := .ref (ad 13)) C dX7_even_91 (shA_0) rfl rfl (by decide) in_x7_even_X7 w_x7_even_26 rfl rfl rfl ?_
    refine r_aload_n C 1 dX7_even_94 rfl ?_
    refine r_get (j := 0) (jz := 0) (v := .ref (ad 1)) C dX7_even_95 (shA_0) rfl rfl (by decide) in_x7_even_X7 w_x7_even_10 rfl rfl rfl ?_
    refine r_callV (As := [.ref (ad 1)]) (o := 13) (n := 1) C dX7_even_98 (x1_putTurnsBack_ct κ.1.2.1 ad cA D s) gX7_even_X1_putTurnsBack rfl ⟨rfl, rfl⟩ (by decide +kernel) (by decide) (shA_13) rfl rfl rfl (Nat.le_of_ble_eq_true rfl) (fun _ => rfl) ?_
    refine x1_putTurnsBack_mono h (fun _ s14 h => ?_)
    refine r_iload_n C 2 dX7_even_101 rfl ?_
    refine r_if_eq (tgt := 110) C dX7_even_102 (by decide) ⟨h.1, fun c15 => ?_, fun c15 => ?_⟩
    · have h := h.2.1 c15
      refine r_ldc (z := -100003) C dX7_even_110 w_x7_even_99 rfl ?_
      exact r_ireturn C dX7_even_112 h
    · have h := h.2.2 c15
      refine r_iload C 0 dX7_even_105 rfl ?_
      refine r_goto (tgt := 112) C dX7_even_107 (by decide) ?_
      exact r_ireturn C dX7_even_112 h
theorem x7_even_ct (l : Launch) (ad : Nat → Nat) (cA : Nat → ClassId) (D : va_G) (p1 : Int) (p2 : Int) (s : Mem) : MG l yX7_even wsX7_even x7_even_rm ocI [.ref (ad 0), vI p1, vI p2] (GA ad cA D) s (x7_even p1 p2 s) :=
  m_met (own := RX7) (nL := 5) (by decide) rfl rfl (Nat.le_of_ble_eq_true rfl) rfl rfl rfl (fun κ hl C Q Pst hW hQ => x7_even_bd C (x7_even_mono hW hQ))
end
section
def xL_cell (e : Nat → Nat) (p1 : Int) (s : Mem) (Q : Int → Mem → Prop) : Prop :=
  (InI p1 ∧ InI (m_L e)) ∧ ((m_L e) ≤ p1 → Q ((747796405 : Int) * (p1 + (1 : Int))) s) ∧ (p1 < (m_L e) → ((0 : Int) ≤ p1 ∧ p1 < m_L e) ∧ Q (m_x e p1) s)
theorem xL_cell_mono {Q R : Int → Mem → Prop} {e : Nat → Nat} {p1 : Int} {s : Mem} (h : xL_cell e p1 s Q) (hQ : ∀ r s, Q r s → R r s) : xL_cell e p1 s R :=
  ⟨h.1, fun c => have h := h.2.1 c; hQ _ _ h, fun c => have h := h.2.2 c; ⟨h.1, have h := h.2; hQ _ _ h⟩⟩
def xL_cell_rm : Room := { frames := 0, cells := 0, slots := 0, locals := 0 }
theorem w_xL_cell_7 : Cond.constant RL 7 (747796405) ∈ wsL_cell := by decide +kernel
set_option maxHeartbeats 4000000 in
set_option maxRecDepth 100000 in
theorem xL_cell_bd {κ : KT} {ad : Nat → Nat} {cA : Nat → ClassId} {D : va_G} {Q : State → Prop} {p1 : Int} {s : Mem} (C : CX κ (GA ad cA D) RL cL_cell 2 wsL_cell xL_cell_rm (some .int)) (h : xL_cell ad p1 s (RT κ (GA ad cA D) ocI Q)) : WM κ (GA ad cA D) 2 Q s 0 [(0, .ref (ad 1000)), (1, vI p1)] [] := by
  refine r_iload_n C 1 dL_cell_0 rfl ?_
  refine r_aload_n C 0 dL_cell_1 rfl ?_
  refine r_slen C dL_cell_2 ?_
  refine r_icmp_ge (tgt := 12) C dL_cell_3 (by decide) ⟨h.1, fun c1 => ?_, fun c1 => ?_⟩
  · have h := h.2.1 c1
    refine r_ldc (z := 747796405) C dL_cell_12 w_xL_cell_7 rfl ?_
    refine r_iload_n C 1 dL_cell_14 rfl ?_
    refine r_iconst C dL_cell_15 ?_
    refine r_iadd C dL_cell_16 ?_
    refine r_imul C dL_cell_17 ?_
    exact r_ireturn C dL_cell_18 h
  · have h := h.2.2 c1
    refine r_aload_n C 0 dL_cell_6 rfl ?_
    refine r_iload_n C 1 dL_cell_7 rfl ?_
    refine r_sald C dL_cell_8 ⟨h.1, ?_⟩
    have h := h.2
    refine r_goto (tgt := 18) C dL_cell_9 (by decide) ?_
    exact r_ireturn C dL_cell_18 h
theorem xL_cell_ct (l : Launch) (ad : Nat → Nat) (cA : Nat → ClassId) (D : va_G) (p1 : Int) (s : Mem) : MG l yL_cell wsL_cell xL_cell_rm ocI [.ref (ad 1000), vI p1] (GA ad cA D) s (xL_cell ad p1 s) :=
  m_met (own := RL) (nL := 2) (by decide) rfl rfl (Nat.le_of_ble_eq_true rfl) rfl rfl rfl (fun κ hl C Q Pst hW hQ => xL_cell_bd C (xL_cell_mono hW hQ))

def xL_low (p0 : Int) (p1 : Int) (s : Mem) (Q : Int → Mem → Prop) : Prop :=
  (InI (andI p0 (2147483647 : Int)) ∧ InI p1 ∧ ¬ p1 = 0) ∧ Q (Int.tmod (andI p0 (2147483647 : Int)) p1) s
theorem xL_low_mono {Q R : Int → Mem → Prop} {p0 : Int} {p1 : Int} {s : Mem} (h : xL_low p0 p1 s Q) (hQ : ∀ r s, Q r s → R r s) : xL_low p0 p1 s R :=
  ⟨h.1, have h := h.2; hQ _ _ h⟩
def xL_low_rm : Room := { frames := 0, cells := 0, slots := 0, locals := 0 }
theorem w_xL_low_8 : Cond.constant RL 8 (2147483647) ∈ wsL_low := by decide +kernel
set_option maxHeartbeats 4000000 in
set_option maxRecDepth 100000 in
theorem xL_low_bd {κ : KT} {ad : Nat → Nat} {cA : Nat → ClassId} {D : va_G} {Q : State → Prop} {p0 : Int} {p1 : Int} {s : Mem} (C : CX κ (GA ad cA D) RL cL_low 2 wsL_low xL_low_rm (some .int)) (h : xL_low p0 p1 s (RT κ (GA ad cA D) ocI Q)) : WM κ (GA ad cA D) 2 Q s 0 [(0, vI p0), (1, vI p1)] [] := by
  refine r_iload_n C 0 dL_low_0 rfl ?_
  refine r_ldc (z := 2147483647) C dL_low_1 w_xL_low_8 rfl ?_
  refine r_iand C dL_low_3 ?_
  refine r_iload_n C 1 dL_low_4 rfl ?_
  refine r_irem C dL_low_5 ⟨h.1, ?_⟩
  have h := h.2
  exact r_ireturn C dL_low_6 h
theorem xL_low_ct (l : Launch) (ad : Nat → Nat) (cA : Nat → ClassId) (D : va_G) (p0 : Int) (p1 : Int) (s : Mem) : MG l yL_low wsL_low xL_low_rm ocI [vI p0, vI p1] (GA ad cA D) s (xL_low p0 p1 s) :=
  m_met (own := RL) (nL := 2) (by decide) rfl rfl (Nat.le_of_ble_eq_true rfl) rfl rfl rfl (fun κ hl C Q Pst hW hQ => xL_low_bd C (xL_low_mono hW hQ))

def xL_make_be (X25 : Int → Int → Mem → Prop) (X111 : Int → Int → Int → Int → Int → Int → Mem → Prop) (X152 : Int → Int → Int → Int → Int → Int → Mem → Prop) (Q : Int → Mem → Prop) (e : Nat → Nat) (p2 : Int) (s : Mem) : Prop :=
  xL_cell e (1 : Int) s (fun r2 s1 => xL_low r2 (9 : Int) s1 (fun r4 s3 => x7_joint p2 ((1 : Int) + r4) s3 (fun r6 s5 => (InI r6 ∧ InI p2) ∧ (r6 = p2 → X25 p2 (0 : Int) s5) ∧ (¬ r6 = p2 → ((0 : Int) ≤ (0 : Int) ∧ (0 : Int) ≤ 1) ∧ Q (0 : Int) s5))))
def xL_make_b25 (e : Nat → Nat) (X25 : Int → Int → Mem → Prop) (X111 : Int → Int → Int → Int → Int → Int → Mem → Prop) (X152 : Int → Int → Int → Int → Int → Int → Mem → Prop) (Q : Int → Mem → Prop) (x2 : Int) (x3 : Int) (s : Mem) : Prop :=
  (InI x3 ∧ InI x2) ∧ (x2 ≤ x3 → ((0 : Int) ≤ (1 : Int) ∧ (1 : Int) ≤ 1) ∧ Q (1 : Int) s) ∧ (x3 < x2 → xL_cell e ((2 : Int) + x3) s (fun r9 s8 => xL_low r9 (9 : Int) s8 (fun r11 s10 => x7_set x3 (0 : Int) ((1 : Int) + r11) s10 (fun r13 s12 => (InI r13 ∧ InI (5 : Int)) ∧ (¬ r13 = (5 : Int) → ((0 : Int) ≤ (0 : Int) ∧ (0 : Int) ≤ 1) ∧ Q (0 : Int) s12) ∧ (r13 = (5 : Int) → xL_cell e ((10 : Int) + x3) s12 (fun r15 s14 => xL_low r15 (9 : Int) s14 (fun r17 s16 => x7_set x3 (1 : Int) ((1 : Int) + r17) s16 (fun r19 s18 => (InI r19 ∧ InI (3 : Int)) ∧ (¬ r19 = (3 : Int) → ((0 : Int) ≤ (0 : Int) ∧ (0 : Int) ≤ 1) ∧ Q (0 : Int) s18) ∧ (r19 = (3 : Int) → xL_cell e ((20 : Int) + x3) s18 (fun r21 s20 => xL_cell e (26 : Int) s20 (fun r23 s22 => xL_low r23 (2 : Int) s22 (fun r25 s24 => InI r25 ∧ (¬ r25 = (0 : Int) → X111 x2 x3 (20 : Int) r21 (2 : Int) x3 s24) ∧ (r25 = (0 : Int) → X111 x2 x3 (201 : Int) r21 (2 : Int) x3 s24)))))))))))))
def xL_make_b111 (e : Nat → Nat) (X25 : Int → Int → Mem → Prop) (X111 : Int → Int → Int → Int → Int → Int → Mem → Prop) (X152 : Int → Int → Int → Int → Int → Int → Mem → Prop) (Q : Int → Mem → Prop) (x2 : Int) (x3 : Int) (t0 : Int) (t1 : Int) (t2 : Int) (t3 : Int) (s : Mem) : Prop :=
  xL_low t1 t0 s (fun r31 s30 => x7_set t3 t2 r31 s30 (fun r33 s32 => InI r33 ∧ (¬ r33 = (0 : Int) → ((0 : Int) ≤ (0 : Int) ∧ (0 : Int) ≤ 1) ∧ Q (0 : Int) s32) ∧ (r33 = (0 : Int) → xL_cell e ((30 : Int) + x3) s32 (fun r35 s34 => xL_cell e (27 : Int) s34 (fun r37 s36 => xL_low r37 (2 : Int) s36 (fun r39 s38 => InI r39 ∧ (¬ r39 = (0 : Int) → X152 x2 x3 (10 : Int) r35 (3 : Int) x3 s38) ∧ (r39 = (0 : Int) → X152 x2 x3 (201 : Int) r35 (3 : Int) x3 s38)))))))
def xL_make_b152 (e : Nat → Nat) (X25 : Int → Int → Mem → Prop) (X111 : Int → Int → Int → Int → Int → Int → Mem → Prop) (X152 : Int → Int → Int → Int → Int → Int → Mem → Prop) (Q : Int → Mem → Prop) (x2 : Int) (x3 : Int) (t0 : Int) (t1 : Int) (t2 : Int) (t3 : Int) (s : Mem) : Prop :=
  xL_low t1 t0 s (fun r43 s42 => x7_set t3 t2 r43 s42 (fun r45 s44 => InI r45 ∧ (r45 = (0 : Int) → InI x3 ∧ (x3 ≤ (0 : Int) → X25 x2 (x3 + (1 : Int)) s44) ∧ ((0 : Int) < x3 → xL_cell e ((40 : Int) + x3) s44 (fun r47 s46 => xL_low r47 (5 : Int) s46 (fun r49 s48 => InI r49 ∧ (¬ r49 = (0 : Int) → X25 x2 (x3 + (1 : Int)) s48) ∧ (r49 = (0 : Int) → x7_broken x3 (1 : Int) s48 (fun r51 s50 => InI r51 ∧ (r51 = (0 : Int) → X25 x2 (x3 + (1 : Int)) s50) ∧ (¬ r51 = (0 : Int) → ((0 : Int) ≤ (0 : Int) ∧ (0 : Int) ≤ 1) ∧ Q (0 : Int) s50))))))) ∧ (¬ r45 = (0 : Int) → ((0 : Int) ≤ (0 : Int) ∧ (0 : Int) ≤ 1) ∧ Q (0 : Int) s44)))
theorem xL_make_me {X25 Y25 : Int → Int → Mem → Prop} {X111 Y111 : Int → Int → Int → Int → Int → Int → Mem → Prop} {X152 Y152 : Int → Int → Int → Int → Int → Int → Mem → Prop} {Q R : Int → Mem → Prop} (hX25 : ∀ x2 x3 s, X25 x2 x3 s → Y25 x2 x3 s) (hX111 : ∀ x2 x3 t0 t1 t2 t3 s, X111 x2 x3 t0 t1 t2 t3 s → Y111 x2 x3 t0 t1 t2 t3 s) (hX152 : ∀ x2 x3 t0 t1 t2 t3 s, X152 x2 x3 t0 t1 t2 t3 s → Y152 x2 x3 t0 t1 t2 t3 s) (hQ : ∀ r s, Q r s → R r s) {e : Nat → Nat} {p2 : Int} {s : Mem} (h : xL_make_be X25 X111 X152 Q e p2 s) : xL_make_be Y25 Y111 Y152 R e p2 s :=
  xL_cell_mono h (fun r2 s1 h => xL_low_mono h (fun r4 s3 h => x7_joint_mono h (fun r6 s5 h => ⟨h.1, fun c => have h := h.2.1 c; hX25 _ _ _ h, fun c => have h := h.2.2 c; ⟨h.1, hQ _ _ h.2⟩⟩)))
theorem xL_make_m25 {e : Nat → Nat} {X25 Y25 : Int → Int → Mem → Prop} {X111 Y111 : Int → Int → Int → Int → Int → Int → Mem → Prop} {X152 Y152 : Int → Int → Int → Int → Int → Int → Mem → Prop} {Q R : Int → Mem → Prop} (hX25 : ∀ x2 x3 s, X25 x2 x3 s → Y25 x2 x3 s) (hX111 : ∀ x2 x3 t0 t1 t2 t3 s, X111 x2 x3 t0 t1 t2 t3 s → Y111 x2 x3 t0 t1 t2 t3 s) (hX152 : ∀ x2 x3 t0 t1 t2 t3 s, X152 x2 x3 t0 t1 t2 t3 s → Y152 x2 x3 t0 t1 t2 t3 s) (hQ : ∀ r s, Q r s → R r s) {x2 : Int} {x3 : Int} {s : Mem} (h : xL_make_b25 e X25 X111 X152 Q x2 x3 s) : xL_make_b25 e Y25 Y111 Y152 R x2 x3 s :=
  ⟨h.1, fun c => have h := h.2.1 c; ⟨h.1, hQ _ _ h.2⟩, fun c => have h := h.2.2 c; xL_cell_mono h (fun r9 s8 h => xL_low_mono h (fun r11 s10 h => x7_set_mono h (fun r13 s12 h => ⟨h.1, fun c => have h := h.2.1 c; ⟨h.1, hQ _ _ h.2⟩, fun c => have h := h.2.2 c; xL_cell_mono h (fun r15 s14 h => xL_low_mono h (fun r17 s16 h => x7_set_mono h (fun r19 s18 h => ⟨h.1, fun c => have h := h.2.1 c; ⟨h.1, hQ _ _ h.2⟩, fun c => have h := h.2.2 c; xL_cell_mono h (fun r21 s20 h => xL_cell_mono h (fun r23 s22 h => xL_low_mono h (fun r25 s24 h => ⟨h.1, fun c => have h := h.2.1 c; hX111 _ _ _ _ _ _ _ h, fun c => have h := h.2.2 c; hX111 _ _ _ _ _ _ _ h⟩)))⟩)))⟩)))⟩
theorem xL_make_m111 {e : Nat → Nat} {X25 Y25 : Int → Int → Mem → Prop} {X111 Y111 : Int → Int → Int → Int → Int → Int → Mem → Prop} {X152 Y152 : Int → Int → Int → Int → Int → Int → Mem → Prop} {Q R : Int → Mem → Prop} (hX25 : ∀ x2 x3 s, X25 x2 x3 s → Y25 x2 x3 s) (hX111 : ∀ x2 x3 t0 t1 t2 t3 s, X111 x2 x3 t0 t1 t2 t3 s → Y111 x2 x3 t0 t1 t2 t3 s) (hX152 : ∀ x2 x3 t0 t1 t2 t3 s, X152 x2 x3 t0 t1 t2 t3 s → Y152 x2 x3 t0 t1 t2 t3 s) (hQ : ∀ r s, Q r s → R r s) {x2 : Int} {x3 : Int} {t0 : Int} {t1 : Int} {t2 : Int} {t3 : Int} {s : Mem} (h : xL_make_b111 e X25 X111 X152 Q x2 x3 t0 t1 t2 t3 s) : xL_make_b111 e Y25 Y111 Y152 R x2 x3 t0 t1 t2 t3 s :=
  xL_low_mono h (fun r31 s30 h => x7_set_mono h (fun r33 s32 h => ⟨h.1, fun c => have h := h.2.1 c; ⟨h.1, hQ _ _ h.2⟩, fun c => have h := h.2.2 c; xL_cell_mono h (fun r35 s34 h => xL_cell_mono h (fun r37 s36 h => xL_low_mono h (fun r39 s38 h => ⟨h.1, fun c => have h := h.2.1 c; hX152 _ _ _ _ _ _ _ h, fun c => have h := h.2.2 c; hX152 _ _ _ _ _ _ _ h⟩)))⟩))
theorem xL_make_m152 {e : Nat → Nat} {X25 Y25 : Int → Int → Mem → Prop} {X111 Y111 : Int → Int → Int → Int → Int → Int → Mem → Prop} {X152 Y152 : Int → Int → Int → Int → Int → Int → Mem → Prop} {Q R : Int → Mem → Prop} (hX25 : ∀ x2 x3 s, X25 x2 x3 s → Y25 x2 x3 s) (hX111 : ∀ x2 x3 t0 t1 t2 t3 s, X111 x2 x3 t0 t1 t2 t3 s → Y111 x2 x3 t0 t1 t2 t3 s) (hX152 : ∀ x2 x3 t0 t1 t2 t3 s, X152 x2 x3 t0 t1 t2 t3 s → Y152 x2 x3 t0 t1 t2 t3 s) (hQ : ∀ r s, Q r s → R r s) {x2 : Int} {x3 : Int} {t0 : Int} {t1 : Int} {t2 : Int} {t3 : Int} {s : Mem} (h : xL_make_b152 e X25 X111 X152 Q x2 x3 t0 t1 t2 t3 s) : xL_make_b152 e Y25 Y111 Y152 R x2 x3 t0 t1 t2 t3 s :=
  xL_low_mono h (fun r43 s42 h => x7_set_mono h (fun r45 s44 h => ⟨h.1, fun c => have h := h.2.1 c; ⟨h.1, fun c => have h := h.2.1 c; hX25 _ _ _ h, fun c => have h := h.2.2 c; xL_cell_mono h (fun r47 s46 h => xL_low_mono h (fun r49 s48 h => ⟨h.1, fun c => have h := h.2.1 c; hX25 _ _ _ h, fun c => have h := h.2.2 c; x7_broken_mono h (fun r51 s50 h => ⟨h.1, fun c => have h := h.2.1 c; hX25 _ _ _ h, fun c => have h := h.2.2 c; ⟨h.1, hQ _ _ h.2⟩⟩)⟩))⟩, fun c => have h := h.2.2 c; ⟨h.1, hQ _ _ h.2⟩⟩))
def xL_make (e : Nat → Nat) (p2 : Int) (s : Mem) (Q : Int → Mem → Prop) : Prop := ∀ (X25 : Int → Int → Mem → Prop) (X111 : Int → Int → Int → Int → Int → Int → Mem → Prop) (X152 : Int → Int → Int → Int → Int → Int → Mem → Prop), (∀ x2 x3 s, xL_make_b25 e X25 X111 X152 Q x2 x3 s → X25 x2 x3 s) → (∀ x2 x3 t0 t1 t2 t3 s, xL_make_b111 e X25 X111 X152 Q x2 x3 t0 t1 t2 t3 s → X111 x2 x3 t0 t1 t2 t3 s) → (∀ x2 x3 t0 t1 t2 t3 s, xL_make_b152 e X25 X111 X152 Q x2 x3 t0 t1 t2 t3 s → X152 x2 x3 t0 t1 t2 t3 s) → xL_make_be X25 X111 X152 Q e p2 s
def xL_make_L25 (e : Nat → Nat) (Q : Int → Mem → Prop) (x2 : Int) (x3 : Int) (s : Mem) : Prop := ∀ (X25 : Int → Int → Mem → Prop) (X111 : Int → Int → Int → Int → Int → Int → Mem → Prop) (X152 : Int → Int → Int → Int → Int → Int → Mem → Prop), (∀ x2 x3 s, xL_make_b25 e X25 X111 X152 Q x2 x3 s → X25 x2 x3 s) → (∀ x2 x3 t0 t1 t2 t3 s, xL_make_b111 e X25 X111 X152 Q x2 x3 t0 t1 t2 t3 s → X111 x2 x3 t0 t1 t2 t3 s) → (∀ x2 x3 t0 t1 t2 t3 s, xL_make_b152 e X25 X111 X152 Q x2 x3 t0 t1 t2 t3 s → X152 x2 x3 t0 t1 t2 t3 s) → X25 x2 x3 s
def xL_make_L111 (e : Nat → Nat) (Q : Int → Mem → Prop) (x2 : Int) (x3 : Int) (t0 : Int) (t1 : Int) (t2 : Int) (t3 : Int) (s : Mem) : Prop := ∀ (X25 : Int → Int → Mem → Prop) (X111 : Int → Int → Int → Int → Int → Int → Mem → Prop) (X152 : Int → Int → Int → Int → Int → Int → Mem → Prop), (∀ x2 x3 s, xL_make_b25 e X25 X111 X152 Q x2 x3 s → X25 x2 x3 s) → (∀ x2 x3 t0 t1 t2 t3 s, xL_make_b111 e X25 X111 X152 Q x2 x3 t0 t1 t2 t3 s → X111 x2 x3 t0 t1 t2 t3 s) → (∀ x2 x3 t0 t1 t2 t3 s, xL_make_b152 e X25 X111 X152 Q x2 x3 t0 t1 t2 t3 s → X152 x2 x3 t0 t1 t2 t3 s) → X111 x2 x3 t0 t1 t2 t3 s
def xL_make_L152 (e : Nat → Nat) (Q : Int → Mem → Prop) (x2 : Int) (x3 : Int) (t0 : Int) (t1 : Int) (t2 : Int) (t3 : Int) (s : Mem) : Prop := ∀ (X25 : Int → Int → Mem → Prop) (X111 : Int → Int → Int → Int → Int → Int → Mem → Prop) (X152 : Int → Int → Int → Int → Int → Int → Mem → Prop), (∀ x2 x3 s, xL_make_b25 e X25 X111 X152 Q x2 x3 s → X25 x2 x3 s) → (∀ x2 x3 t0 t1 t2 t3 s, xL_make_b111 e X25 X111 X152 Q x2 x3 t0 t1 t2 t3 s → X111 x2 x3 t0 t1 t2 t3 s) → (∀ x2 x3 t0 t1 t2 t3 s, xL_make_b152 e X25 X111 X152 Q x2 x3 t0 t1 t2 t3 s → X152 x2 x3 t0 t1 t2 t3 s) → X152 x2 x3 t0 t1 t2 t3 s
theorem xL_make_i {Q : Int → Mem → Prop} {e : Nat → Nat} {p2 : Int} {s : Mem} (h : xL_make_be (xL_make_L25 e Q) (xL_make_L111 e Q) (xL_make_L152 e Q) Q e p2 s) : xL_make e p2 s Q := fun X25 X111 X152 k25 k111 k152 => xL_make_me (fun _ _ _ h => h X25 X111 X152 k25 k111 k152) (fun _ _ _ _ _ _ _ h => h X25 X111 X152 k25 k111 k152) (fun _ _ _ _ _ _ _ h => h X25 X111 X152 k25 k111 k152) (fun _ _ h => h) h
theorem xL_make_s25 {e : Nat → Nat} {Q : Int → Mem → Prop} {x2 : Int} {x3 : Int} {s : Mem} (h : xL_make_b25 e (xL_make_L25 e Q) (xL_make_L111 e Q) (xL_make_L152 e Q) Q x2 x3 s) : xL_make_L25 e Q x2 x3 s := fun X25 X111 X152 k25 k111 k152 => k25 _ _ _ (xL_make_m25 (fun _ _ _ h => h X25 X111 X152 k25 k111 k152) (fun _ _ _ _ _ _ _ h => h X25 X111 X152 k25 k111 k152) (fun _ _ _ _ _ _ _ h => h X25 X111 X152 k25 k111 k152) (fun _ _ h => h) h)
theorem xL_make_s111 {e : Nat → Nat} {Q : Int → Mem → Prop} {x2 : Int} {x3 : Int} {t0 : Int} {t1 : Int} {t2 : Int} {t3 : Int} {s : Mem} (h : xL_make_b111 e (xL_make_L25 e Q) (xL_make_L111 e Q) (xL_make_L152 e Q) Q x2 x3 t0 t1 t2 t3 s) : xL_make_L111 e Q x2 x3 t0 t1 t2 t3 s := fun X25 X111 X152 k25 k111 k152 => k111 _ _ _ _ _ _ _ (xL_make_m111 (fun _ _ _ h => h X25 X111 X152 k25 k111 k152) (fun _ _ _ _ _ _ _ h => h X25 X111 X152 k25 k111 k152) (fun _ _ _ _ _ _ _ h => h X25 X111 X152 k25 k111 k152) (fun _ _ h => h) h)
theorem xL_make_s152 {e : Nat → Nat} {Q : Int → Mem → Prop} {x2 : Int} {x3 : Int} {t0 : Int} {t1 : Int} {t2 : Int} {t3 : Int} {s : Mem} (h : xL_make_b152 e (xL_make_L25 e Q) (xL_make_L111 e Q) (xL_make_L152 e Q) Q x2 x3 t0 t1 t2 t3 s) : xL_make_L152 e Q x2 x3 t0 t1 t2 t3 s := fun X25 X111 X152 k25 k111 k152 => k152 _ _ _ _ _ _ _ (xL_make_m152 (fun _ _ _ h => h X25 X111 X152 k25 k111 k152) (fun _ _ _ _ _ _ _ h => h X25 X111 X152 k25 k111 k152) (fun _ _ _ _ _ _ _ h => h X25 X111 X152 k25 k111 k152) (fun _ _ h => h) h)
theorem xL_make_mono {Q R : Int → Mem → Prop} {e : Nat → Nat} {p2 : Int} {s : Mem} (h : xL_make e p2 s Q) (hQ : ∀ r s, Q r s → R r s) : xL_make e p2 s R := fun X25 X111 X152 k25 k111 k152 => xL_make_me (fun _ _ _ h => h) (fun _ _ _ _ _ _ _ h => h) (fun _ _ _ _ _ _ _ h => h) hQ (h X25 X111 X152 (fun _ _ _ h => k25 _ _ _ (xL_make_m25 (fun _ _ _ h => h) (fun _ _ _ _ _ _ _ h => h) (fun _ _ _ _ _ _ _ h => h) hQ h)) (fun _ _ _ _ _ _ _ h => k111 _ _ _ _ _ _ _ (xL_make_m111 (fun _ _ _ h => h) (fun _ _ _ _ _ _ _ h => h) (fun _ _ _ _ _ _ _ h => h) hQ h)) (fun _ _ _ _ _ _ _ h => k152 _ _ _ _ _ _ _ (xL_make_m152 (fun _ _ _ h => h) (fun _ _ _ _ _ _ _ h => h) (fun _ _ _ _ _ _ _ h => h) hQ h)))
def xL_make_rm : Room := { frames := 3, cells := 0, slots := 0, locals := 65 }
set_option maxHeartbeats 4000000 in
set_option maxRecDepth 100000 in
theorem xL_make_bd {κ : KT} {ad : Nat → Nat} {cA : Nat → ClassId} {D : va_G} {Q : State → Prop} {p2 : Int} {s : Mem} (C : CX κ (GA ad cA D) RL cL_make 4 wsL_make xL_make_rm (some .boolean)) (h : xL_make ad p2 s (RT κ (GA ad cA D) ocI Q)) : WM κ (GA ad cA D) 4 Q s 0 [(0, .ref (ad 0)), (1, .ref (ad 1000)), (2, vI p2)] [] := by
  obtain ⟨Z25, z25⟩ : ∃ Z : Int → Int → Mem → Prop, ∀ x2 x3 s, Z x2 x3 s ↔ WM κ (GA ad cA D) 4 Q s 25 [(0, .ref (ad 0)), (1, .ref (ad 1000)), (2, vI x2), (3, vI x3)] [] := ⟨fun x2 x3 s => WM κ (GA ad cA D) 4 Q s 25 [(0, .ref (ad 0)), (1, .ref (ad 1000)), (2, vI x2), (3, vI x3)] [], fun _ _ _ => Iff.rfl⟩
  obtain ⟨Z111, z111⟩ : ∃ Z : Int → Int → Int → Int → Int → Int → Mem → Prop, ∀ x2 x3 t0 t1 t2 t3 s, Z x2 x3 t0 t1 t2 t3 s ↔ WM κ (GA ad cA D) 4 Q s 111 [(0, .ref (ad 0)), (1, .ref (ad 1000)), (2, vI x2), (3, vI x3)] [vI t0, vI t1, vI t2, vI t3, .ref (ad 0)] := ⟨fun x2 x3 t0 t1 t2 t3 s => WM κ (GA ad cA D) 4 Q s 111 [(0, .ref (ad 0)), (1, .ref (ad 1000)), (2, vI x2), (3, vI x3)] [vI t0, vI t1, vI t2, vI t3, .ref (ad 0)], fun _ _ _ _ _ _ _ => Iff.rfl⟩
  obtain ⟨Z152, z152⟩ : ∃ Z : Int → Int → Int → Int → Int → Int → Mem → Prop, ∀ x2 x3 t0 t1 t2 t3 s, Z x2 x3 t0 t1 t2 t3 s ↔ WM κ (GA ad cA D) 4 Q s 152 [(0, .ref (ad 0)), (1, .ref (ad 1000)), (2, vI x2), (3, vI x3)] [vI t0, vI t1, vI t2, vI t3, .ref (ad 0)] := ⟨fun x2 x3 t0 t1 t2 t3 s => WM κ (GA ad cA D) 4 Q s 152 [(0, .ref (ad 0)), (1, .ref (ad 1000)), (2, vI x2), (3, vI x3)] [vI t0, vI t1, vI t2, vI t3, .ref (ad 0)], fun _ _ _ _ _ _ _ => Iff.rfl⟩
  refine (fun h => ?_) (h Z25 Z111 Z152 ?_ ?_ ?_)
  · refine r_aload_n C 0 dL_make_0 rfl ?_
    refine r_iload_n C 2 dL_make_1 rfl ?_
    refine r_iconst C dL_make_2 ?_
    refine r_aload_n C 1 dL_make_3 rfl ?_
    refine r_iconst C dL_make_4 ?_
    refine r_callS (As := [.ref (ad 1000), vI (1 : Int)]) (n := 2) C dL_make_5 (xL_cell_ct κ.1.2.1 ad cA D (1 : Int) s) gL_make_L_cell rfl ⟨rfl, rfl⟩ (by decide +kernel) (by decide) rfl rfl (Nat.le_of_ble_eq_true rfl) (fun _ => rfl) ?_
    refine xL_cell_mono h (fun r2 s1 h => ?_)
    refine r_bipush C dL_make_8 (by decide) ?_
    refine r_callS (As := [vI r2, vI (9 : Int)]) (n := 2) C dL_make_10 (xL_low_ct κ.1.2.1 ad cA D r2 (9 : Int) s1) gL_make_L_low rfl ⟨rfl, rfl⟩ (by decide +kernel) (by decide) rfl rfl (Nat.le_of_ble_eq_true rfl) (fun _ => rfl) ?_
    refine xL_low_mono h (fun r4 s3 h => ?_)
    refine r_iadd C dL_make_13 ?_
    refine r_callV (As := [vI p2, vI ((1 : Int) + r4)]) (o := 0) (n := 2) C dL_make_14 (x7_joint_ct κ.1.2.1 ad cA D p2 ((1 : Int) + r4) s3) gL_make_X7_joint rfl ⟨rfl, rfl⟩ (by decide +kernel) (by decide) (shA_0) rfl rfl rfl (Nat.le_of_ble_eq_true rfl) (fun _ => rfl) ?_
    refine x7_joint_mono h (fun r6 s5 h => ?_)
    refine r_iload_n C 2 dL_make_17 rfl ?_
    refine r_icmp_eq (tgt := 23) C dL_make_18 (by decide) ⟨h.1, fun c7 => ?_, fun c7 => ?_⟩
    · have h := h.2.1 c7
      refine r_iconst C dL_make_23 ?_
      refine r_istore_n (ls' := [(3, vI (0 : Int)), (0, .ref (ad 0)), (1, .ref (ad 1000)), (2, vI p2)]) C dL_make_24 rfl (by decide) rfl ?_
      exact r_perm [1, 2, 3, 0] rfl ((z25 _ _ _).1 h)
    · have h := h.2.2 c7
      refine r_iconst C dL_make_21 ?_
      exact r_zreturn C dL_make_22 h
  · intro x2 x3 s h
    refine (z25 _ _ _).2 ?_
    refine r_iload_n C 3 dL_make_25 rfl ?_
    refine r_iload_n C 2 dL_make_26 rfl ?_
    refine r_icmp_ge (tgt := 199) C dL_make_27 (by decide) ⟨h.1, fun c29 => ?_, fun c29 => ?_⟩
    · have h := h.2.1 c29
      refine r_iconst C dL_make_199 ?_
      exact r_zreturn C dL_make_200 h
    · have h := h.2.2 c29
      refine r_aload_n C 0 dL_make_30 rfl ?_
      refine r_iload_n C 3 dL_make_31 rfl ?_
      refine r_iconst C dL_make_32 ?_
      refine r_iconst C dL_make_33 ?_
      refine r_aload_n C 1 dL_make_34 rfl ?_
      refine r_iconst C dL_make_35 ?_
      refine r_iload_n C 3 dL_make_36 rfl ?_
      refine r_iadd C dL_make_37 ?_
      refine r_callS (As := [.ref (ad 1000), vI ((2 : Int) + x3)]) (n := 2) C dL_make_38 (xL_cell_ct κ.1.2.1 ad cA D ((2 : Int) + x3) s) gL_make_L_cell rfl ⟨rfl, rfl⟩ (by decide +kernel) (by decide) rfl rfl (Nat.le_of_ble_eq_true rfl) (fun _ => rfl) ?_
      refine xL_cell_mono h (fun r9 s8 h => ?_)
      refine r_bipush C dL_make_41 (by decide) ?_
      refine r_callS (As := [vI r9, vI (9 : Int)]) (n := 2) C dL_make_43 (xL_low_ct κ.1.2.1 ad cA D r9 (9 : Int) s8) gL_make_L_low rfl ⟨rfl, rfl⟩ (by decide +kernel) (by decide) rfl rfl (Nat.le_of_ble_eq_true rfl) (fun _ => rfl) ?_
      refine xL_low_mono h (fun r11 s10 h => ?_)
      refine r_iadd C dL_make_46 ?_
      refine r_callV (As := [vI x3, vI (0 : Int), vI ((1 : Int) + r11)]) (o := 0) (n := 3) C dL_make_47 (x7_set_ct κ.1.2.1 ad cA D x3 (0 : Int) ((1 : Int) + r11) s10) gL_make_X7_set rfl ⟨rfl, rfl⟩ (by decide +kernel) (by decide) (shA_0) rfl rfl rfl (Nat.le_of_ble_eq_true rfl) (fun _ => rfl) ?_
      refine x7_set_mono h (fun r13 s12 h => ?_)
      refine r_iconst C dL_make_50 ?_
      refine r_icmp_ne (tgt := 161) C dL_make_51 (by decide) ⟨h.1, fun c28 => ?_, fun c28 => ?_⟩
      · have h := h.2.1 c28
        refine r_iconst C dL_make_161 ?_
        exact r_zreturn C dL_make_162 h
      · have h := h.2.2 c28
        refine r_aload_n C 0 dL_make_54 rfl ?_
        refine r_iload_n C 3 dL_make_55 rfl ?_
        refine r_iconst C dL_make_56 ?_
        refine r_iconst C dL_make_57 ?_
        refine r_aload_n C 1 dL_make_58 rfl ?_
        refine r_bipush C dL_make_59 (by decide) ?_
        refine r_iload_n C 3 dL_make_61 rfl ?_
        refine r_iadd C dL_make_62 ?_
        refine r_callS (As := [.ref (ad 1000), vI ((10 : Int) + x3)]) (n := 2) C dL_make_63 (xL_cell_ct κ.1.2.1 ad cA D ((10 : Int) + x3) s12) gL_make_L_cell rfl ⟨rfl, rfl⟩ (by decide +kernel) (by decide) rfl rfl (Nat.le_of_ble_eq_true rfl) (fun _ => rfl) ?_
        refine xL_cell_mono h (fun r15 s14 h => ?_)
        refine r_bipush C dL_make_66 (by decide) ?_
        refine r_callS (As := [vI r15, vI (9 : Int)]) (n := 2) C dL_make_68 (xL_low_ct κ.1.2.1 ad cA D r15 (9 : Int) s14) gL_make_L_low rfl ⟨rfl, rfl⟩ (by decide +kernel) (by decide) rfl rfl (Nat.le_of_ble_eq_true rfl) (fun _ => rfl) ?_
        refine xL_low_mono h (fun r17 s16 h => ?_)
        refine r_iadd C dL_make_71 ?_
        refine r_callV (As := [vI x3, vI (1 : Int), vI ((1 : Int) + r17)]) (o := 0) (n := 3) C dL_make_72 (x7_set_ct κ.1.2.1 ad cA D x3 (1 : Int) ((1 : Int) + r17) s16) gL_make_X7_set rfl ⟨rfl, rfl⟩ (by decide +kernel) (by decide) (shA_0) rfl rfl rfl (Nat.le_of_ble_eq_true rfl) (fun _ => rfl) ?_
        refine x7_set_mono h (fun r19 s18 h => ?_)
        refine r_iconst C dL_make_75 ?_
        refine r_icmp_ne (tgt := 161) C dL_make_76 (by decide) ⟨h.1, fun c27 => ?_, fun c27 => ?_⟩
        · have h := h.2.1 c27
          refine r_iconst C dL_make_161 ?_
          exact r_zreturn C dL_make_162 h
        · have h := h.2.2 c27
          refine r_aload_n C 0 dL_make_79 rfl ?_
          refine r_iload_n C 3 dL_make_80 rfl ?_
          refine r_iconst C dL_make_81 ?_
          refine r_aload_n C 1 dL_make_82 rfl ?_
          refine r_bipush C dL_make_83 (by decide) ?_
          refine r_iload_n C 3 dL_make_85 rfl ?_
          refine r_iadd C dL_make_86 ?_
          refine r_callS (As := [.ref (ad 1000), vI ((20 : Int) + x3)]) (n := 2) C dL_make_87 (xL_cell_ct κ.1.2.1 ad cA D ((20 : Int) + x3) s18) gL_make_L_cell rfl ⟨rfl, rfl⟩ (by decide +kernel) (by decide) rfl rfl (Nat.le_of_ble_eq_true rfl) (fun _ => rfl) ?_
          refine xL_cell_mono h (fun r21 s20 h => ?_)
          refine r_aload_n C 1 dL_make_90 rfl ?_
          refine r_bipush C dL_make_91 (by decide) ?_
          refine r_callS (As := [.ref (ad 1000), vI (26 : Int)]) (n := 2) C dL_make_93 (xL_cell_ct κ.1.2.1 ad cA D (26 : Int) s20) gL_make_L_cell rfl ⟨rfl, rfl⟩ (by decide +kernel) (by decide) rfl rfl (Nat.le_of_ble_eq_true rfl) (fun _ => rfl) ?_
          refine xL_cell_mono h (fun r23 s22 h => ?_)
          refine r_iconst C dL_make_96 ?_
          refine r_callS (As := [vI r23, vI (2 : Int)]) (n := 2) C dL_make_97 (xL_low_ct κ.1.2.1 ad cA D r23 (2 : Int) s22) gL_make_L_low rfl ⟨rfl, rfl⟩ (by decide +kernel) (by decide) rfl rfl (Nat.le_of_ble_eq_true rfl) (fun _ => rfl) ?_
          refine xL_low_mono h (fun r25 s24 h => ?_)
          refine r_if_ne (tgt := 109) C dL_make_100 (by decide) ⟨h.1, fun c26 => ?_, fun c26 => ?_⟩
          · have h := h.2.1 c26
            refine r_bipush C dL_make_109 (by decide) ?_
            exact r_perm [0, 1, 2, 3] rfl ((z111 _ _ _ _ _ _ _).1 h)
          · have h := h.2.2 c26
            refine r_sipush C dL_make_103 (by decide) ?_
            refine r_goto (tgt := 111) C dL_make_106 (by decide) ?_
            exact r_perm [0, 1, 2, 3] rfl ((z111 _ _ _ _ _ _ _).1 h)
  · intro x2 x3 t0 t1 t2 t3 s h
    refine (z111 _ _ _ _ _ _ _).2 ?_
    refine r_callS (As := [vI t1, vI t0]) (n := 2) C dL_make_111 (xL_low_ct κ.1.2.1 ad cA D t1 t0 s) gL_make_L_low rfl ⟨rfl, rfl⟩ (by decide +kernel) (by decide) rfl rfl (Nat.le_of_ble_eq_true rfl) (fun _ => rfl) ?_
    refine xL_low_mono h (fun r31 s30 h => ?_)
    refine r_callV (As := [vI t3, vI t2, vI r31]) (o := 0) (n := 3) C dL_make_114 (x7_set_ct κ.1.2.1 ad cA D t3 t2 r31 s30) gL_make_X7_set rfl ⟨rfl, rfl⟩ (by decide +kernel) (by decide) (shA_0) rfl rfl rfl (Nat.le_of_ble_eq_true rfl) (fun _ => rfl) ?_
    refine x7_set_mono h (fun r33 s32 h => ?_)
    refine r_if_ne (tgt := 161) C dL_make_117 (by decide) ⟨h.1, fun c41 => ?_, fun c41 => ?_⟩
    · have h := h.2.1 c41
      refine r_iconst C dL_make_161 ?_
      exact r_zreturn C dL_make_162 h
    · have h := h.2.2 c41
      refine r_aload_n C 0 dL_make_120 rfl ?_
      refine r_iload_n C 3 dL_make_121 rfl ?_
      refine r_iconst C dL_make_122 ?_
      refine r_aload_n C 1 dL_make_123 rfl ?_
      refine r_bipush C dL_make_124 (by decide) ?_
      refine r_iload_n C 3 dL_make_126 rfl ?_
      refine r_iadd C dL_make_127 ?_
      refine r_callS (As := [.ref (ad 1000), vI ((30 : Int) + x3)]) (n := 2) C dL_make_128 (xL_cell_ct κ.1.2.1 ad cA D ((30 : Int) + x3) s32) gL_make_L_cell rfl ⟨rfl, rfl⟩ (by decide +kernel) (by decide) rfl rfl (Nat.le_of_ble_eq_true rfl) (fun _ => rfl) ?_
      refine xL_cell_mono h (fun r35 s34 h => ?_)
      refine r_aload_n C 1 dL_make_131 rfl ?_
      refine r_bipush C dL_make_132 (by decide) ?_
      refine r_callS (As := [.ref (ad 1000), vI (27 : Int)]) (n := 2) C dL_make_134 (xL_cell_ct κ.1.2.1 ad cA D (27 : Int) s34) gL_make_L_cell rfl ⟨rfl, rfl⟩ (by decide +kernel) (by decide) rfl rfl (Nat.le_of_ble_eq_true rfl) (fun _ => rfl) ?_
      refine xL_cell_mono h (fun r37 s36 h => ?_)
      refine r_iconst C dL_make_137 ?_
      refine r_callS (As := [vI r37, vI (2 : Int)]) (n := 2) C dL_make_138 (xL_low_ct κ.1.2.1 ad cA D r37 (2 : Int) s36) gL_make_L_low rfl ⟨rfl, rfl⟩ (by decide +kernel) (by decide) rfl rfl (Nat.le_of_ble_eq_true rfl) (fun _ => rfl) ?_
      refine xL_low_mono h (fun r39 s38 h => ?_)
      refine r_if_ne (tgt := 150) C dL_make_141 (by decide) ⟨h.1, fun c40 => ?_, fun c40 => ?_⟩
      · have h := h.2.1 c40
        refine r_bipush C dL_make_150 (by decide) ?_
        exact r_perm [0, 1, 2, 3] rfl ((z152 _ _ _ _ _ _ _).1 h)
      · have h := h.2.2 c40
        refine r_sipush C dL_make_144 (by decide) ?_
        refine r_goto (tgt := 152) C dL_make_147 (by decide) ?_
        exact r_perm [0, 1, 2, 3] rfl ((z152 _ _ _ _ _ _ _).1 h)
  · intro x2 x3 t0 t1 t2 t3 s h
    refine (z152 _ _ _ _ _ _ _).2 ?_
    refine r_callS (As := [vI t1, vI t0]) (n := 2) C dL_make_152 (xL_low_ct κ.1.2.1 ad cA D t1 t0 s) gL_make_L_low rfl ⟨rfl, rfl⟩ (by decide +kernel) (by decide) rfl rfl (Nat.le_of_ble_eq_true rfl) (fun _ => rfl) ?_
    refine xL_low_mono h (fun r43 s42 h => ?_)
    refine r_callV (As := [vI t3, vI t2, vI r43]) (o := 0) (n := 3) C dL_make_155 (x7_set_ct κ.1.2.1 ad cA D t3 t2 r43 s42) gL_make_X7_set rfl ⟨rfl, rfl⟩ (by decide +kernel) (by decide) (shA_0) rfl rfl rfl (Nat.le_of_ble_eq_true rfl) (fun _ => rfl) ?_
    refine x7_set_mono h (fun r45 s44 h => ?_)
    refine r_if_eq (tgt := 163) C dL_make_158 (by decide) ⟨h.1, fun c55 => ?_, fun c55 => ?_⟩
    · have h := h.2.1 c55
      refine r_iload_n C 3 dL_make_163 rfl ?_
      refine r_if_le (tgt := 193) C dL_make_164 (by decide) ⟨h.1, fun c54 => ?_, fun c54 => ?_⟩
      · have h := h.2.1 c54
        refine r_iinc (j := 3) (ls' := [(3, vI (x3 + (1 : Int))), (0, .ref (ad 0)), (1, .ref (ad 1000)), (2, vI x2)]) C dL_make_193 rfl (by decide) rfl ?_
        refine r_goto (tgt := 25) C dL_make_196 (by decide) ?_
        exact r_perm [1, 2, 3, 0] rfl ((z25 _ _ _).1 h)
      · have h := h.2.2 c54
        refine r_aload_n C 1 dL_make_167 rfl ?_
        refine r_bipush C dL_make_168 (by decide) ?_
        refine r_iload_n C 3 dL_make_170 rfl ?_
        refine r_iadd C dL_make_171 ?_
        refine r_callS (As := [.ref (ad 1000), vI ((40 : Int) + x3)]) (n := 2) C dL_make_172 (xL_cell_ct κ.1.2.1 ad cA D ((40 : Int) + x3) s44) gL_make_L_cell rfl ⟨rfl, rfl⟩ (by decide +kernel) (by decide) rfl rfl (Nat.le_of_ble_eq_true rfl) (fun _ => rfl) ?_
        refine xL_cell_mono h (fun r47 s46 h => ?_)
        refine r_iconst C dL_make_175 ?_
        refine r_callS (As := [vI r47, vI (5 : Int)]) (n := 2) C dL_make_176 (xL_low_ct κ.1.2.1 ad cA D r47 (5 : Int) s46) gL_make_L_low rfl ⟨rfl, rfl⟩ (by decide +kernel) (by decide) rfl rfl (Nat.le_of_ble_eq_true rfl) (fun _ => rfl) ?_
        refine xL_low_mono h (fun r49 s48 h => ?_)
        refine r_if_ne (tgt := 193) C dL_make_179 (by decide) ⟨h.1, fun c53 => ?_, fun c53 => ?_⟩
        · have h := h.2.1 c53
          refine r_iinc (j := 3) (ls' := [(3, vI (x3 + (1 : Int))), (0, .ref (ad 0)), (1, .ref (ad 1000)), (2, vI x2)]) C dL_make_193 rfl (by decide) rfl ?_
          refine r_goto (tgt := 25) C dL_make_196 (by decide) ?_
          exact r_perm [1, 2, 3, 0] rfl ((z25 _ _ _).1 h)
        · have h := h.2.2 c53
          refine r_aload_n C 0 dL_make_182 rfl ?_
          refine r_iload_n C 3 dL_make_183 rfl ?_
          refine r_iconst C dL_make_184 ?_
          refine r_callV (As := [vI x3, vI (1 : Int)]) (o := 0) (n := 2) C dL_make_185 (x7_broken_ct κ.1.2.1 ad cA D x3 (1 : Int) s48) gL_make_X7_broken rfl ⟨rfl, rfl⟩ (by decide +kernel) (by decide) (shA_0) rfl rfl rfl (Nat.le_of_ble_eq_true rfl) (fun _ => rfl) ?_
          refine x7_broken_mono h (fun r51 s50 h => ?_)
          refine r_if_eq (tgt := 193) C dL_make_188 (by decide) ⟨h.1, fun c52 => ?_, fun c52 => ?_⟩
          · have h := h.2.1 c52
            refine r_iinc (j := 3) (ls' := [(3, vI (x3 + (1 : Int))), (0, .ref (ad 0)), (1, .ref (ad 1000)), (2, vI x2)]) C dL_make_193 rfl (by decide) rfl ?_
            refine r_goto (tgt := 25) C dL_make_196 (by decide) ?_
            exact r_perm [1, 2, 3, 0] rfl ((z25 _ _ _).1 h)
          · have h := h.2.2 c52
            refine r_iconst C dL_make_191 ?_
            exact r_zreturn C dL_make_192 h
    · have h := h.2.2 c55
      refine r_iconst C dL_make_161 ?_
      exact r_zreturn C dL_make_162 h
theorem xL_make_ct (l : Launch) (ad : Nat → Nat) (cA : Nat → ClassId) (D : va_G) (p2 : Int) (s : Mem) : MG l yL_make wsL_make xL_make_rm ocI [.ref (ad 0), .ref (ad 1000), vI p2] (GA ad cA D) s (xL_make ad p2 s) :=
  m_met (own := RL) (nL := 4) (by decide) rfl rfl (Nat.le_of_ble_eq_true rfl) rfl rfl rfl (fun κ hl C Q Pst hW hQ => xL_make_bd C (xL_make_mono hW hQ))
end
