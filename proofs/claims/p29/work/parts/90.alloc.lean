/-! ===== objects made: worlds that grow ===== -/
theorem o_idx {u U : State} {c : Nat} (hvm : u.vm.Alike U.vm) (p : Class → Bool) (hp : ∀ a b : Class, a.kind = b.kind → p a = p b) (h : u.vm.classes.findIdx? p = some c) : U.vm.classes.findIdx? p = some c := by
  obtain ⟨hlt, hpc, hno⟩ := Array.findIdx?_eq_some_iff_getElem.mp h
  have get : ∀ (i : Nat) (hi : i < u.vm.classes.size), ∃ hU : i < U.vm.classes.size, p U.vm.classes[i] = p u.vm.classes[i] := fun i hi => by
    obtain ⟨k', h1, h2⟩ := hvm.2.2 i _ (Array.getElem?_eq_getElem hi)
    obtain ⟨hU, e⟩ := Array.getElem?_eq_some_iff.mp h1
    exact ⟨hU, hp _ _ (by rw [e, h2])⟩
  obtain ⟨hU, eU⟩ := get c hlt
  refine Array.findIdx?_eq_some_iff_getElem.mpr ⟨hU, by rw [eU]; exact hpc, fun j hj => ?_⟩
  obtain ⟨hUj, ej⟩ := get j (Nat.lt_trans hj hlt)
  rw [ej]
  exact hno j hj
theorem o_aoa {t : FieldType} {u U : State} (hvm : u.vm.Alike U.vm) (h : va_AOA t u) : va_AOA t U := by
  unfold va_AOA Cond.before at h ⊢
  simp only [Cond.holds, Cond.value, beq_iff_eq] at h ⊢
  cases hc : u.vm.findClass (FieldType.array t).toString with
  | none => simp [hc] at h
  | some comp =>
    simp only [hc, Option.bind_some, Option.bind_eq_some_iff, Option.map_eq_some_iff] at h
    obtain ⟨c, hi, k, hk, hb⟩ := h
    obtain ⟨k', hk', he⟩ := hvm.2.2 _ _ hk
    have hi2 := o_idx hvm _ (fun a b hab => by simp only [hab]) hi
    have hf : U.vm.findClass (FieldType.array t).toString = some comp := by rw [hvm.findClass]; exact hc
    simp only [hf, Option.bind_some, Option.bind_eq_some_iff, Option.map_eq_some_iff]
    refine ⟨c, hi2, k', hk', ?_⟩
    rw [he]
    simp only [hvm.findClass] at hb ⊢
    exact hb
def WN (κ : KT) (D : va_G) (nL : Nat) (Q : State → Prop) (n z : Nat) (ws : va_W) (pc : Nat) (ls : List (Nat × Value)) (st : List Value) : Prop :=
  ∀ (H : Heap) (locs : List Loc) (arr : Array Slot), va_P D vwCl ws H → va_D κ.2.2 ws → va_S κ.2.2 κ.1.2.2.2.2.heap H locs → lv_has arr nL ls → W κ.1.1 κ.1.2.1 κ.1.2.2.1 κ.1.2.2.2.1 κ.1.2.2.2.2 κ.2.1.1 κ.2.1.2.1 κ.2.1.2.2.1 κ.2.1.2.2.2.1 κ.2.1.2.2.2.2 H locs n z Q (F0 κ.2.1.1 pc arr st)
def CN (κ : KT) (cA : Nat → ClassId) (D : va_G) (own : String) (cc : ByteArray) (nL : Nat) (Ts : List Cond) (rm : Room) : Prop :=
  (κ.1.1.tables.exec = Jvm.exec ∧ κ.2.1.2.2.2.2.code = cc ∧ κ.2.1.2.2.2.2.maxLocals = nL ∧ κ.1.2.2.2.2.vm.findClass own = some κ.2.1.1.cls ∧ (∀ w ∈ Ts, w.before κ.2.1.2.1 κ.1.2.2.2.2 = true)) ∧ va_K D vwCl (m_tys cA) κ.1.2.2.2.2 ∧ (∀ q, κ.1.2.2.2.2.heap.size ≤ q → κ.2.2 q) ∧ κ.1.2.2.2.1 = rm ∧ κ.2.1.2.2.2.1.sig.returnType = none ∧ κ.2.1.2.2.2.1.locks = false ∧ κ.2.1.2.2.2.1.name = "<init>"
section ALLOC
variable {κ : KT} {cA : Nat → ClassId} {D : va_G} {own : String} {cc : ByteArray} {nL : Nat} {Ts : List Cond} {rm : Room} {Q : State → Prop} {n z : Nat} {ws : va_W} {pc : Nat} {ls : List (Nat × Value)} {st : List Value}
theorem n_aload0 (C : CN κ cA D own cc nL Ts rm) {h : Nat} (d : decode cc pc = .ok (.aload_n 0, 1)) (hk : ls[0]? = some (0, .ref h)) (k : WN κ D nL Q n z ws (pc + 1) ls (.ref h :: st)) : WN κ D nL Q n z ws pc ls st := fun H locs arr hP hD hS hl => lv_aload_n C.1.1 C.1.2.1 d rfl (lv_at hl 0 hk) (k H locs arr hP hD hS hl)
theorem n_iconst (C : CN κ cA D own cc nL Ts rm) {x : Int} (d : decode cc pc = .ok (.iconst x, 1)) (k : WN κ D nL Q n z ws (pc + 1) ls (vI x :: st)) : WN κ D nL Q n z ws pc ls st := fun H locs arr hP hD hS hl => lv_iconst C.1.1 C.1.2.1 d rfl (k H locs arr hP hD hS hl)
theorem n_bipush (C : CN κ cA D own cc nL Ts rm) {x : Int} (d : decode cc pc = .ok (.bipush x, 2)) (hn : (Int8.ofInt x).toInt32 = Int32.ofInt x) (k : WN κ D nL Q n z ws (pc + 2) ls (vI x :: st)) : WN κ D nL Q n z ws pc ls st := fun H locs arr hP hD hS hl => lv_bipush C.1.1 C.1.2.1 d hn (k H locs arr hP hD hS hl)
theorem n_sipush (C : CN κ cA D own cc nL Ts rm) {x : Int} (d : decode cc pc = .ok (.sipush x, 3)) (hn : (Int16.ofInt x).toInt32 = Int32.ofInt x) (k : WN κ D nL Q n z ws (pc + 3) ls (vI x :: st)) : WN κ D nL Q n z ws pc ls st := fun H locs arr hP hD hS hl => lv_sipush C.1.1 C.1.2.1 d hn (k H locs arr hP hD hS hl)
theorem n_lconst1 (C : CN κ cA D own cc nL Ts rm) (d : decode cc pc = .ok (.lconst 1, 1)) (k : WN κ D nL Q n z ws (pc + 1) ls (vL 1 :: st)) : WN κ D nL Q n z ws pc ls st := fun H locs arr hP hD hS hl => lv_lconst C.1.1 C.1.2.1 d rfl (k H locs arr hP hD hS hl)
theorem n_dup (C : CN κ cA D own cc nL Ts rm) {v : Value} (d : decode cc pc = .ok (.dup, 1)) (hv : v.category = 1) (k : WN κ D nL Q n z ws (pc + 1) ls (v :: v :: st)) : WN κ D nL Q n z ws pc ls (v :: st) := fun H locs arr hP hD hS hl => lv_dup C.1.1 C.1.2.1 d hv (k H locs arr hP hD hS hl)
theorem n_objInit (C : CN κ cA D own cc nL Ts rm) {idx h : Nat} (d : decode cc pc = .ok (.invokespecial idx, 3)) (h1 : Cond.methodLink own idx objectInit ∈ Ts) (h2 : Cond.instanceMethod objectInit ∈ Ts) (h3 : Cond.code objectInit ⟨#[0xb1]⟩ 1 none ∈ Ts) (hf : 1 ≤ rm.frames) (hlo : 12 + (st.map fun v => v.category).sum ≤ rm.locals) (k : WN κ D nL Q n z ws (pc + 3) ls st) : WN κ D nL Q n z ws pc ls (.ref h :: st) := by
  intro H locs arr hP hD hS hl
  refine W.objInit C.1.1 C.1.2.1 C.1.2.2.2.1 (C.1.2.2.2.2 _ h1) (C.1.2.2.2.2 _ h2) (C.1.2.2.2.2 _ h3) rfl (by rw [C.1.2.2.1]; exact hl.1) rfl d (by rw [C.2.2.2.1]; exact hf) ?_ ?_
  · rw [C.2.2.2.1]
    show 2 * 0 + (st.map fun v => v.category).sum + 12 ≤ rm.locals
    omega
  · exact W.eq (g2 := F0 κ.2.1.1 (pc + 3) arr st) rfl (k H locs arr hP hD hS hl)
theorem n_newI (C : CN κ cA D own cc nL Ts rm) {x : Int} {N : Nat} (d : decode cc pc = .ok (.newarray .int, 2)) (ha : Cond.arrayClass .int ∈ Ts) (hx : x = N ∧ N ≤ 1000) (h1 : n + 1 ≤ rm.cells) (h2 : z + N ≤ rm.slots) (k : ∀ q : Nat, WN κ D nL Q (n + 1) (z + N) (ws ++ [(q, .inl (cA 0, N, .inl fun _ => Int32.ofInt 0))]) (pc + 2) ls (.ref q :: st)) : WN κ D nL Q n z ws pc ls (vI x :: st) := by
  intro H locs arr hP hD hS hl
  have b0 : InI x := by constructor <;> omega
  refine va_newa (atype := .int) (ty := .int) (a0 := (N, .inl fun _ => Int32.ofInt 0)) C.1.1 C.1.2.1 (C.1.2.2.2.2 _ ha) rfl C.2.1 hP hD hS C.2.2.1 (fun _ => rfl) ?_ ?_ ?_ (by rw [C.2.2.2.1]; exact h1) (by rw [C.2.2.2.1]; exact h2) d (fun q c H1 hK hP hD hS => ?_)
  · rw [← n_0, n_lt b0 (by constructor <;> omega)]
    omega
  · rw [n_clamp b0]
    omega
  · show N * 4 ≤ 536870912
    omega
  · have e1 : κ.1.2.2.2.2.vm.findClass ("[" ++ (FieldType.int).toString) = some c := (hK.2 4 (c, .int) rfl).2
    have e2 : κ.1.2.2.2.2.vm.findClass ("[" ++ (FieldType.int).toString) = some (cA 0) := (C.2.1.2 0 _ rfl).2
    have e : c = cA 0 := Option.some.inj (e1.symm.trans e2)
    rw [e] at hP hD
    exact k q H1 locs arr hP hD hS hl
theorem n_newL (C : CN κ cA D own cc nL Ts rm) {x : Int} {N : Nat} (d : decode cc pc = .ok (.newarray .long, 2)) (ha : Cond.arrayClass .long ∈ Ts) (hx : x = N ∧ N ≤ 1000) (h1 : n + 1 ≤ rm.cells) (h2 : z + N ≤ rm.slots) (k : ∀ q : Nat, WN κ D nL Q (n + 1) (z + N) (ws ++ [(q, .inl (cA 1, N, .inr (.inl fun _ => Int64.ofInt 0)))]) (pc + 2) ls (.ref q :: st)) : WN κ D nL Q n z ws pc ls (vI x :: st) := by
  intro H locs arr hP hD hS hl
  have b0 : InI x := by constructor <;> omega
  refine va_newa (atype := .long) (ty := .long) (a0 := (N, .inr (.inl fun _ => Int64.ofInt 0))) C.1.1 C.1.2.1 (C.1.2.2.2.2 _ ha) rfl C.2.1 hP hD hS C.2.2.1 (fun _ => rfl) ?_ ?_ ?_ (by rw [C.2.2.2.1]; exact h1) (by rw [C.2.2.2.1]; exact h2) d (fun q c H1 hK hP hD hS => ?_)
  · rw [← n_0, n_lt b0 (by constructor <;> omega)]
    omega
  · rw [n_clamp b0]
    omega
  · show N * 8 ≤ 536870912
    omega
  · have e1 : κ.1.2.2.2.2.vm.findClass ("[" ++ (FieldType.long).toString) = some c := (hK.2 4 (c, .long) rfl).2
    have e2 : κ.1.2.2.2.2.vm.findClass ("[" ++ (FieldType.long).toString) = some (cA 1) := (C.2.1.2 1 _ rfl).2
    have e : c = cA 1 := Option.some.inj (e1.symm.trans e2)
    rw [e] at hP hD
    exact k q H1 locs arr hP hD hS hl
theorem n_putF (C : CN κ cA D own cc nL Ts rm) {a q0 ci k N index : Nat} {fs : List Value} {Cn : String} {T : u_T} {v : Value} {ty : FieldType} (d : decode cc pc = .ok (.putfield index, 3)) (he : ws[q0]? = some (a, .inr (ci, fs))) (hc : vwCl[ci]? = some (Cn, T, N)) (hk : k < N) (hin : ∀ w ∈ u_ws Cn T N, w ∈ Ts) (ty0 : Nat → FieldType) (hty : ∀ k, k < N → parseFieldDescriptor (T k).2.2.1 = some (ty0 k)) (hnm : ∀ a, a < N → ∀ b, b < N → a ≠ b → (T a).2.1 ≠ (T b).2.1) (hlink : Cond.fieldLink own index (T k).1 (T k).2.1 (T k).2.2.1 ∈ Ts) (hfin : (T k).2.2.2 = true) (hdecl : (T k).1 = own) (hd : parseFieldDescriptor (T k).2.2.1 = some ty) (hnr : narrow ty v = v) (hfit : fits ty v = true) (hl0 : k < fs.length) (kk : WN κ D nL Q n z (ws.set q0 (a, .inr (ci, fs.set k v))) (pc + 3) ls st) : WN κ D nL Q n z ws pc ls (v :: .ref a :: st) := by
  intro H locs arr hP hD hS hl
  exact va_putF C.1.1 C.1.2.1 C.1.2.2.2.2 hin ty0 hty hnm C.1.2.2.2.1 C.2.1 hP hD hS q0 he hc k hk (C.1.2.2.2.2 _ hlink) (fun _ h9 => h9) hfin C.2.2.2.2.2.2 hdecl hd hnr hfit hl0 d (fun H1 locs1 hP1 hD1 hS1 => kk H1 locs1 arr hP1 hD1 hS1 hl)
theorem n_put (C : CN κ cA D own cc nL Ts rm) {a q0 ci k N index : Nat} {fs : List Value} {Cn : String} {T : u_T} {v : Value} {ty : FieldType} (d : decode cc pc = .ok (.putfield index, 3)) (he : ws[q0]? = some (a, .inr (ci, fs))) (hc : vwCl[ci]? = some (Cn, T, N)) (hk : k < N) (hin : ∀ w ∈ u_ws Cn T N, w ∈ Ts) (ty0 : Nat → FieldType) (hty : ∀ k, k < N → parseFieldDescriptor (T k).2.2.1 = some (ty0 k)) (hnm : ∀ a, a < N → ∀ b, b < N → a ≠ b → (T a).2.1 ≠ (T b).2.1) (hlink : Cond.fieldLink own index (T k).1 (T k).2.1 (T k).2.2.1 ∈ Ts) (hfin : (T k).2.2.2 = false) (hd : parseFieldDescriptor (T k).2.2.1 = some ty) (hnr : narrow ty v = v) (hfit : fits ty v = true) (hl0 : k < fs.length) (kk : WN κ D nL Q n z (ws.set q0 (a, .inr (ci, fs.set k v))) (pc + 3) ls st) : WN κ D nL Q n z ws pc ls (v :: .ref a :: st) := by
  intro H locs arr hP hD hS hl
  exact va_put C.1.1 C.1.2.1 C.1.2.2.2.2 hin ty0 hty hnm C.1.2.2.2.1 C.2.1 hP hD hS q0 he hc k hk (C.1.2.2.2.2 _ hlink) (fun _ h9 => h9) hfin hd hnr hfit hl0 d (fun H1 locs1 hP1 hD1 hS1 => kk H1 locs1 arr hP1 hD1 hS1 hl)
theorem n_iast (C : CN κ cA D own cc nL Ts rm) {a q0 N : Nat} {f g : Nat → Int32} {i x : Int} (d : decode cc pc = .ok (.iastore, 1)) (he : ws[q0]? = some (a, .inl (cA 0, N, .inl f))) (hi : 0 ≤ i ∧ i < N ∧ N ≤ 1000) (hg : (fun j => if j = i.toNat then Int32.ofInt x else f j) = g) (kk : WN κ D nL Q n z (ws.set q0 (a, .inl (cA 0, N, .inl g))) (pc + 1) ls st) : WN κ D nL Q n z ws pc ls (vI x :: vI i :: .ref a :: st) := by
  intro H locs arr hP hD hS hl
  obtain ⟨h1, h2, h3, h4⟩ := n_in (i := i) (n := N) rfl (by omega) ⟨hi.1, hi.2.1⟩
  have e : upd f (Int32.ofInt i).toNatClampNeg (Int32.ofInt x) = g := by
    rw [h2, ← hg]
    rfl
  exact va_iast C.1.1 C.1.2.1 C.2.1 hP hD hS q0 0 he rfl h1 d (fun H1 locs1 hP1 hD1 hS1 => kk H1 locs1 arr (by rw [e] at hP1; exact hP1) (by rw [e] at hD1; exact hD1) hS1 hl)
theorem n_new (C : CN κ cA D own cc nL Ts rm) {ci N index : Nat} {fs : List Value} {Cn : String} {T : u_T} (d : decode cc pc = .ok (.new index, 3)) (hc : vwCl[ci]? = some (Cn, T, N)) (hin : ∀ w ∈ u_ws Cn T N, w ∈ Ts) (ty0 : Nat → FieldType) (hty : ∀ k, k < N → parseFieldDescriptor (T k).2.2.1 = some (ty0 k)) (hcl : Cond.classLink own index Cn ∈ Ts) (hinst : Cond.instantiable Cn N ∈ Ts) (hini : Cond.initialized Cn ∈ Ts) (hfs : ∀ j, j < N → defaultValue (ty0 j) = vp_V fs j) (h1 : n + 1 ≤ rm.cells) (h2 : z + N ≤ rm.slots) (kk : ∀ q : Nat, WN κ D nL Q (n + 1) (z + N) (ws ++ [(q, .inr (ci, fs))]) (pc + 3) ls (.ref q :: st)) : WN κ D nL Q n z ws pc ls st := by
  intro H locs arr hP hD hS hl
  exact va_new C.1.1 C.1.2.1 C.1.2.2.2.2 hin ty0 hty C.1.2.2.2.1 (C.1.2.2.2.2 _ hcl) (C.1.2.2.2.2 _ hinst) (C.1.2.2.2.2 _ hini) C.2.1 hP hD hS C.2.2.1 hc hfs (by rw [C.2.2.2.1]; exact h1) (by rw [C.2.2.2.1]; exact h2) d (fun q H1 hP hD hS => kk q H1 locs arr hP hD hS hl)
/-! contracts of makers -/
def n_Pre (h ci : Nat) (fs : List Value) (cA : Nat → ClassId) (D : va_G) (E : State → Prop) (sz : Nat) : Array Value → State → Prop := va_Pc [.ref h] (fun U => U.heap.size = sz ∧ va_P D vwCl [(h, .inr (ci, fs))] U.heap ∧ va_K D vwCl (m_tys cA) U ∧ va_D (fun _ => True) [(h, .inr (ci, fs))] ∧ E U)
def n_Post (D : va_G) (Wf : (Nat → Nat) → va_W) (A : Nat → Prop) : Array Value → State → Outcome → State → Prop := va_Qv (fun _ : Nat → Nat => True) (fun r t => va_P D vwCl (Wf r) t.heap ∧ va_D A (Wf r)) A
def MI (l : Launch) (y : MethodName) (ws : List Cond) (rm : Room) (h ci : Nat) (fs : List Value) (cA : Nat → ClassId) (D : va_G) (E : State → Prop) (Wf : (Nat → Nat) → va_W) (mc ms : Nat) : Prop :=
  ∀ sz : Nat, Met l y ws rm (n_Pre h ci fs cA D E sz) (n_Post D Wf (va_A [(h, .inr (ci, fs))] sz)) mc ms (va_A [(h, .inr (ci, fs))] sz)
def RN (κ : KT) (D : va_G) (Wf : (Nat → Nat) → va_W) (mc ms : Nat) : State → Prop := MQ κ.2.1.2.2.1 (n_Post D Wf κ.2.2) κ.2.1.2.1 κ.1.2.2.2.2 mc ms κ.2.2
theorem n_ret (C : CN κ cA D own cc nL Ts rm) {Wf : (Nat → Nat) → va_W} (r : Nat → Nat) (d : decode cc pc = .ok (.return_, 1)) (hw : Wf r = ws) : WN κ D nL (RN κ D Wf n z) n z ws pc ls [] := by
  intro H locs arr hP hD hS hl
  subst hw
  exact W.vret C.1.1 C.1.2.1 C.2.2.2.2.1 (fun t ht hW => ⟨⟨r, rfl, trivial, by rw [ht]; exact hP, hD⟩, hS.F ht⟩) hS.2.2 d C.2.2.2.2.2.1
theorem n_met {l : Launch} {y : MethodName} {ws ws' : List Cond} {rm : Room} {h ci : Nat} {fs : List Value} {cA : Nat → ClassId} {D : va_G} {E : State → Prop} {Wf : (Nat → Nat) → va_W} {mc ms : Nat} {cc : ByteArray} {own : String}
    (hy : plainName y.cls = true) (hw : ws = Cond.code y cc 1 none :: ws') (hown : y.cls = own) (hnm : y.name = "<init>")
    (body : ∀ κ : KT, κ.1.2.1 = l → CN κ cA D own cc 1 ws rm → E κ.1.2.2.2.2 → WN κ D 1 (RN κ D Wf mc ms) 0 0 [(h, .inr (ci, fs))] 0 [(0, .ref h)] []) : MI l y ws rm h ci fs cA D E Wf mc ms := by
  intro sz
  refine Met.ofW (cc := cc) (maxL := 1) (ret := none) hy hw ?_
  intro p e s m args below meth c s₁ B hml hv
  obtain ⟨rfl, hsz, hP, hK, hD0, hE⟩ := hv
  subst hsz
  have hts := atoms_spec (ws := ws) B.pre
  have hD := hD0.self (sz := s.heap.size)
  have hC : CN ((p, l, e, (headSpec ws rm).room, s), (m, [Value.ref h].toArray, below, meth, c), va_A [(h, .inr (ci, fs))] s.heap.size) cA D own cc 1 ws rm := by
    refine ⟨⟨B.exec, B.bytes, hml, ?_, hts⟩, hK, fun q hq => Or.inr hq, rfl, B.returns, B.notSynchronized, ?_⟩
    · rw [← hown]
      exact findClass_of_methodNamed B.named
    · rw [← hnm]
      exact (name_of_methodNamed B.named B.method).1
  have hb := body _ rfl hC hE
  have hl := lv_entry [Value.ref h] (n := 1) (Nat.le_of_ble_eq_true rfl)
  rw [lg_entry_eq]
  exact hb s.heap [] _ hP hD va_S.rf hl
/-- behind a maker's call: what stood, and what was made -/
theorem n_join {A : Nat → Prop} {D : va_G} {X w : va_W} {h : Nat} {e : va_E} {H H1 : Heap} (hP : va_P D vwCl (X ++ [(h, e)]) H) (hD : va_D A (X ++ [(h, e)])) (hF : ∀ q, va_A [(h, e)] H.size q → A q) (hk : ∀ q : Nat, q < H.size → ¬ va_A [(h, e)] H.size q → H1[q]? = H[q]?) (hP1 : va_P D vwCl w H1) (hD1 : va_D (va_A [(h, e)] H.size) w) : va_P D vwCl (X ++ w) H1 ∧ va_D A (X ++ w) := by
  have hX : ∀ (k : Nat) (q : Nat × va_E), X[k]? = some q → (X ++ [(h, e)])[k]? = some q := fun k q hq => by
    rw [List.getElem?_append_left (List.getElem?_eq_some_iff.mp hq).1]
    exact hq
  have hl : (X ++ [(h, e)])[X.length]? = some (h, e) := by simp
  have apart : ∀ (k : Nat) (q : Nat × va_E), X[k]? = some q → q.1 < H.size ∧ ¬ va_A [(h, e)] H.size q.1 := fun k q hq => by
    have b := (hP k q (hX k q hq)).lt
    refine ⟨b, fun z => ?_⟩
    rcases z with ⟨j, e', z⟩ | z
    · have j0 : j < 1 := (List.getElem?_eq_some_iff.mp z).1
      rw [show j = 0 by omega] at z
      have z2 : h = q.1 := (Prod.mk.inj (Option.some.inj z)).1
      have := hD.1 k X.length q (h, e) (hX k q hq) hl z2.symm
      have := (List.getElem?_eq_some_iff.mp hq).1
      omega
    · omega
  refine ⟨va_P.app (fun k q hq => ?_) hP1, va_D.app ⟨fun i j p q hp hq => hD.1 i j p q (hX i p hp) (hX j q hq), fun k q hq => hD.2 k q (hX k q hq)⟩ (hD1.weaken (fun _ q _ => hF q.1)) (fun i j p q hp hq hpq => ?_)⟩
  · have o := apart k q hq
    exact va_at.kept (hP k q (hX k q hq)) (hk q.1 o.1 o.2)
  · have o := apart i p hp
    have := hD1.2 j q hq
    rw [← hpq] at this
    exact o.2 this
theorem n_init (C : CN κ cA D own cc nL Ts rm) {y : MethodName} {wsY ws' : List Cond} {rm' : Room} {h ci mc ms idx : Nat} {fs : List Value} {E : State → Prop} {Wf : (Nat → Nat) → va_W} {bytes : ByteArray} {X : va_W} (d : decode cc pc = .ok (.invokespecial idx, 3)) (hM : MI κ.1.2.1 y wsY rm' h ci fs cA D E Wf mc ms) (hl0 : va_Nw (.methodLinkNest own idx y RX7) κ.1.2.2.2.2) (hini : Cond.initialized y.cls ∈ Ts) (hinst : Cond.instanceMethod y ∈ Ts) (hG : GoodIn Ts wsY) (hw : wsY = Cond.code y bytes 1 none :: ws') (hrc : rm'.cells = mc ∧ rm'.slots = ms) (hd : y.cls ≠ "java/lang/invoke/MethodHandle" ∧ y.cls ≠ "java/lang/invoke/VarHandle" ∧ (parseMethodDescriptor y.desc).map (fun d => d.parameters.length) = some 0) (hy : y.name = "<init>") (hR : rm'.frames + 1 ≤ rm.frames ∧ 8 + (1 + 11) + rm'.locals ≤ rm.locals) (hE : ∀ s U : State, s.WarmedH U.vm → E s → E U) (e : E κ.1.2.2.2.2) (hcat : (st.map fun v => v.category).sum ≤ 8) (h1 : n + mc ≤ rm.cells) (h2 : z + ms ≤ rm.slots) (kk : ∀ r : Nat → Nat, WN κ D nL Q (n + mc) (z + ms) (X ++ Wf r) (pc + 3) ls st) : WN κ D nL Q n z (X ++ [(h, .inr (ci, fs))]) pc ls (.ref h :: st) := by
  intro H locs arr hP hD hS hl
  have hl2 : (X ++ [(h, (.inr (ci, fs) : va_E))])[X.length]? = some (h, .inr (ci, fs)) := by simp
  have hPc : va_P D vwCl [(h, .inr (ci, fs))] H := fun k q hk => by
    have j0 : k < 1 := (List.getElem?_eq_some_iff.mp hk).1
    rw [show k = 0 by omega] at hk
    cases hk
    exact hP X.length _ hl2
  have hDc : va_D (fun _ : Nat => True) [(h, (.inr (ci, fs) : va_E))] := ⟨fun i j p q hp hq _ => by
    have := (List.getElem?_eq_some_iff.mp hp).1
    have := (List.getElem?_eq_some_iff.mp hq).1
    simp at *
    omega, fun _ _ _ => trivial⟩
  have hFc : ∀ q, va_A [(h, (.inr (ci, fs) : va_E))] H.size q → κ.2.2 q := fun q hq => by
    rcases hq with ⟨j, e', hq⟩ | hq
    · have j0 : j < 1 := (List.getElem?_eq_some_iff.mp hq).1
      rw [show j = 0 by omega] at hq
      have z2 : h = q := (Prod.mk.inj (Option.some.inj hq)).1
      rw [← z2]
      exact hD.2 X.length _ hl2
    · exact C.2.2.1 q (Nat.le_trans hS.1 hq)
  refine va_callv (va_runIN (As := []) (rest := st) ⟨C.1.1, C.1.2.1, C.1.2.2.1, C.1.2.2.2.1, C.1.2.2.2.2⟩ (hM H.size) ⟨va_cnB 0 C.1.2.2.2.2 hG hw hrc.1 hrc.2 hl0 (C.1.2.2.2.2 _ hini) hd (by rw [C.2.2.2.1]; exact hR), hy, C.1.2.2.2.2 _ hinst⟩ ⟨fun a U g mk q => ?_, fun U hU hW => ⟨rfl, by rw [hU], by rw [hU]; exact hPc, va_K.moved hW.alike C.2.1, hDc, hE _ _ hW e⟩⟩ rfl rfl hl.1 rfl (lv_room hcat) d ⟨by rw [C.2.2.2.1]; exact h1, by rw [C.2.2.2.1]; exact h2⟩) hS (fun q _ h => hFc q h) hFc (fun r t H1 locs1 ht hvm _ hB hz1 hk1 hS1 => ?_)
  · obtain ⟨q0, q1, qP, qK, qD, qE⟩ := q
    exact ⟨q0, q1, qP, va_K.moved (u := U) (U := U.calling g mk a) (Vm.Alike.refl U.vm) qK, qD, hE U (U.calling g mk a) (State.WarmedH.refl U) qE⟩
  · obtain ⟨hP1, hD1⟩ := hB
    rw [ht] at hP1
    obtain ⟨hP2, hD2⟩ := n_join hP hD hFc hk1 hP1 hD1
    exact kk r H1 locs1 arr hP2 hD2 hS1 hl
end ALLOC
