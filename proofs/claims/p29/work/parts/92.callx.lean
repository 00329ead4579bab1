/-! ===== calls beside another world; the two objects made (the walks by wip/whole/gen92.py) ===== -/
theorem o_D {A : Nat → Prop} {w w' : va_W} (h : va_D A w) (he : w'.map Prod.fst = w.map Prod.fst) : va_D A w' := by
  have key : ∀ (k : Nat) (q : Nat × va_E), w'[k]? = some q → ∃ q', w[k]? = some q' ∧ q'.1 = q.1 := fun k q hq => by
    have h1 : (w'.map Prod.fst)[k]? = some q.1 := by rw [List.getElem?_map, hq]; rfl
    rw [he, List.getElem?_map] at h1
    cases hw : w[k]? with
    | none => rw [hw] at h1; cases h1
    | some q' =>
      rw [hw] at h1
      exact ⟨q', rfl, Option.some.inj h1⟩
  refine ⟨fun i j p q hp hq hpq => ?_, fun k q hq => ?_⟩
  · obtain ⟨p', h1, h2⟩ := key i p hp
    obtain ⟨q', h3, h4⟩ := key j q hq
    exact h.1 i j p' q' h1 h3 (by rw [h2, h4]; exact hpq)
  · obtain ⟨q', h1, h2⟩ := key k q hq
    rw [← h2]
    exact h.2 k q' h1
theorem o_fst (ad : Nat → Nat) (cA : Nat → ClassId) (σ τ : Mem) : ∀ (sh : Shp) (i : Nat), (m_cel ad cA σ i sh).map Prod.fst = (m_cel ad cA τ i sh).map Prod.fst
  | [], _ => rfl
  | a :: r, i => by
    rw [m_cel, m_cel, List.map_cons, List.map_cons, o_fst ad cA σ τ r (i + 1)]
/-- the same cells, entry by entry, as far as a heap can tell -/
def o_same (D : va_G) (H : Heap) : va_W → va_W → Prop
  | [], [] => True
  | p :: r, q :: t => p.1 = q.1 ∧ (va_at D vwCl p H → va_at D vwCl q H) ∧ o_same D H r t
  | _, _ => False
theorem o_same_P {D : va_G} {H : Heap} : ∀ {w w' : va_W}, o_same D H w w' → va_P D vwCl w H → va_P D vwCl w' H
  | [], [], _, h => h
  | p :: r, q :: t, hs, h => fun k x hx => by
    cases k with
    | zero =>
      have e : q = x := Option.some.inj hx
      rw [← e]
      exact hs.2.1 (h 0 p rfl)
    | succ k => exact o_same_P (w := r) (w' := t) hs.2.2 (fun k x hx => h (k + 1) x hx) k x hx
  | [], _ :: _, hs, _ => False.elim hs
  | _ :: _, [], hs, _ => False.elim hs
theorem o_same_F {D : va_G} {H : Heap} : ∀ {w w' : va_W}, o_same D H w w' → w'.map Prod.fst = w.map Prod.fst
  | [], [], _ => rfl
  | p :: r, q :: t, hs => by
    rw [List.map_cons, List.map_cons, hs.1, o_same_F (w := r) (w' := t) hs.2.2]
  | [], _ :: _, hs => False.elim hs
  | _ :: _, [], hs => False.elim hs
theorem o_fI {D : va_G} {H : Heap} {a n : Nat} {c : ClassId} {f g : Nat → Int32} (h : ∀ j, f j = g j) : va_at D vwCl (a, .inl (c, n, .inl f)) H → va_at D vwCl (a, .inl (c, n, .inl g)) H := by
  rw [show f = g from funext h]
  exact id
theorem o_fQ {D : va_G} {H : Heap} {a n : Nat} {c : ClassId} {f g : Nat → Option Nat} (h : ∀ j, j < n → f j = g j) : va_at D vwCl (a, .inl (c, n, .inr (.inr (.inr (.inr f))))) H → va_at D vwCl (a, .inl (c, n, .inr (.inr (.inr (.inr g))))) H := fun z => by
  have e : vp_cell c (n, .inr (.inr (.inr (.inr f)))) = vp_cell c (n, .inr (.inr (.inr (.inr g)))) := by
    rw [vp_cell_q, vp_cell_q]
    refine congrArg (fun x => ({ cls := c, slots := x, vm := .none } : Cell)) ?_
    refine congrArg (fun f => Array.ofFn (n := n) f) (funext fun j => ?_)
    show va_rf (f j.val) = va_rf (g j.val)
    rw [h j.val j.isLt]
  show H[a]? = some (vp_cell c (n, .inr (.inr (.inr (.inr g)))))
  rw [← e]
  exact z
section CALLX
variable {κ : KT} {cA : Nat → ClassId} {D : va_G} {own : String} {cc : ByteArray} {nL : Nat} {Ts : List Cond} {rm : Room} {Q : State → Prop} {n z : Nat} {ws : va_W} {pc : Nat} {ls : List (Nat × Value)} {st : List Value}
theorem n_same {ws' : va_W} (h : ∀ H : Heap, o_same D H ws ws') (k : WN κ D nL Q n z ws' pc ls st) : WN κ D nL Q n z ws pc ls st := fun H locs arr hP hD hS hl => k H locs arr (o_same_P (h H) hP) (o_D hD (o_same_F (h H))) hS hl
theorem n_swap {X Y : va_W} (k : WN κ D nL Q n z (Y ++ X) pc ls st) : WN κ D nL Q n z (X ++ Y) pc ls st := fun H locs arr hP hD hS hl => by
  have hl' : ∀ (k : Nat) (q : Nat × va_E), (Y ++ X)[k]? = some q → ∃ k', (X ++ Y)[k']? = some q ∧ k' = if k < Y.length then X.length + k else k - Y.length := fun k q hq => by
    by_cases w : k < Y.length
    · rw [List.getElem?_append_left w] at hq
      refine ⟨X.length + k, ?_, by rw [if_pos w]⟩
      rw [List.getElem?_append_right (by omega), show X.length + k - X.length = k by omega]
      exact hq
    · rw [List.getElem?_append_right (by omega)] at hq
      have := (List.getElem?_eq_some_iff.mp hq).1
      refine ⟨k - Y.length, ?_, by rw [if_neg w]⟩
      rw [List.getElem?_append_left this]
      exact hq
  refine k H locs arr (fun k q hq => ?_) ⟨fun i j p q hp hq hpq => ?_, fun k q hq => ?_⟩ hS hl
  · obtain ⟨k', h1, _⟩ := hl' k q hq
    exact hP k' q h1
  · obtain ⟨i', h1, h2⟩ := hl' i p hp
    obtain ⟨j', h3, h4⟩ := hl' j q hq
    have e := hD.1 i' j' p q h1 h3 hpq
    have bi := (List.getElem?_eq_some_iff.mp h1).1
    have bj := (List.getElem?_eq_some_iff.mp h3).1
    have ci := (List.getElem?_eq_some_iff.mp hp).1
    have cj := (List.getElem?_eq_some_iff.mp hq).1
    rw [List.length_append] at bi bj ci cj
    rw [h2, h4] at e
    split at e <;> split at e <;> omega
  · obtain ⟨k', h1, _⟩ := hl' k q hq
    exact hD.2 k' q h1
theorem n_get (C : CN κ cA D own cc nL Ts rm) {a q0 ci k N index : Nat} {fs : List Value} {Cn : String} {T : u_T} {v : Value} (d : decode cc pc = .ok (.getfield index, 3)) (he : ws[q0]? = some (a, .inr (ci, fs))) (hc : vwCl[ci]? = some (Cn, T, N)) (hk : k < N) (hin : ∀ w ∈ u_ws Cn T N, w ∈ Ts) (hlink : Cond.fieldLink own index (T k).1 (T k).2.1 (T k).2.2.1 ∈ Ts) (hv : fs[k]? = some v) (kk : WN κ D nL Q n z ws (pc + 3) ls (v :: st)) : WN κ D nL Q n z ws pc ls (.ref a :: st) := fun H locs arr hP hD hS hl => va_get C.1.1 C.1.2.1 C.1.2.2.2.2 hin C.1.2.2.2.1 C.2.1 hP q0 he hc k hk (C.1.2.2.2.2 _ hlink) (fun _ h9 => h9) hv d (kk H locs arr hP hD hS hl)
/-- a call of a method of one world, beside another -/
theorem o_call {G : GT} {σ : Mem} {X : va_W} (c5 : κ.1.1.tables.exec = Jvm.exec ∧ κ.2.1.2.2.2.2.code = cc ∧ κ.2.1.2.2.2.2.maxLocals = nL ∧ κ.1.2.2.2.2.vm.findClass own = some κ.2.1.1.cls ∧ (∀ w ∈ Ts, w.before κ.2.1.2.1 κ.1.2.2.2.2 = true)) (K : va_K G.2.2.2 vwCl (m_tys G.2.2.1) κ.1.2.2.2.2) (hA : ∀ q, κ.1.2.2.2.2.heap.size ≤ q → κ.2.2 q) (hRm : κ.1.2.2.2.1 = rm) (hE : m_ext G.2.1 κ.2.2 κ.1.2.2.2.2 κ.1.2.2.2.2.heap)
    {y : MethodName} {wsY ws' : List Cond} {rm' : Room} {oc : Int → Option Value} {WPp : (Int → Mem → Prop) → Prop} {bytes : ByteArray} {maxL nn idx o ci : Nat} {ret' : Option FieldType} {Cn : String} {fks : List Nat} {T : u_T} {N : Nat} {As rest stk : List Value} {rs : Int → List Value}
    (d : decode cc pc = .ok (.invokevirtual idx, 3)) (hM : MG κ.1.2.1 y wsY rm' oc (.ref (G.2.1 o) :: As) G σ WPp) (hG : GoodIn Ts (wsV own idx Cn y wsY)) (hw : wsY = Cond.code y bytes maxL ret' :: ws') (hrc : rm'.cells = 0 ∧ rm'.slots = 0)
    (hd : y.cls = Cn ∧ y.cls ≠ "java/lang/invoke/MethodHandle" ∧ y.cls ≠ "java/lang/invoke/VarHandle" ∧ (parseMethodDescriptor y.desc).map (fun d => d.parameters.length) = some nn) (hR : rm'.frames + 1 ≤ rm.frames ∧ 8 + (maxL + 11) + rm'.locals ≤ rm.locals)
    (hs : G.1[o]? = some (.inl (ci, fks))) (hc : vwCl[ci]? = some (Cn, T, N)) (hn : As.length = nn) (hst : stk = As.reverse ++ .ref (G.2.1 o) :: rest) (hcat : (rest.map fun v => v.category).sum ≤ 8) (hrs : ∀ r, (oc r).toList = rs r) (hfit : n ≤ rm.cells ∧ z ≤ rm.slots)
    (h : WPp (fun r σ' => WN κ G.2.2.2 nL Q n z (X ++ m_cells G σ') (pc + 3) ls (rs r ++ rest))) : WN κ G.2.2.2 nL Q n z (X ++ m_cells G σ) pc ls stk := by
  intro H locs arr hP hD hS hl
  subst hst
  have rt : ∀ (σ : Mem) (k : Nat) (q : Nat × va_E), (m_cells G σ)[k]? = some q → (X ++ m_cells G σ)[X.length + k]? = some q := fun σ k q hq => by
    rw [List.getElem?_append_right (by omega), show X.length + k - X.length = k by omega]
    exact hq
  have lf : ∀ (k : Nat) (q : Nat × va_E), X[k]? = some q → (X ++ m_cells G σ)[k]? = some q := fun k q hq => by
    rw [List.getElem?_append_left (List.getElem?_eq_some_iff.mp hq).1]
    exact hq
  have hPc : va_P G.2.2.2 vwCl (m_cells G σ) H := fun k q hq => hP _ q (rt σ k q hq)
  have hDc : va_D κ.2.2 (m_cells G σ) := ⟨fun i j p q hp hq hpq => by
    have := hD.1 _ _ p q (rt σ i p hp) (rt σ j q hq) hpq
    omega, fun k q hq => hD.2 _ q (rt σ k q hq)⟩
  have hF : ∀ q, va_A (m_cells G σ) H.size q → κ.2.2 q := by
    intro q h
    rcases h with ⟨k, e, h⟩ | h
    · exact hDc.2 k (q, e) h
    · exact hA q (Nat.le_trans hS.1 h)
  have apart : ∀ (k : Nat) (q : Nat × va_E), X[k]? = some q → q.1 < H.size ∧ ¬ va_A (m_cells G σ) H.size q.1 := fun k q hq => by
    have b := (hP k q (lf k q hq)).lt
    refine ⟨b, fun y => ?_⟩
    rcases y with ⟨j, e', y⟩ | y
    · have := hD.1 k _ q (q.1, e') (lf k q hq) (rt σ j _ y) rfl
      have := (List.getElem?_eq_some_iff.mp hq).1
      omega
    · omega
  have hpre1 : FrameBlind (m_Pre (.ref (G.2.1 o) :: As) G σ H.size) := fun a U g mk q => by
    obtain ⟨q0, q1, qP, qK, qD, qE⟩ := q
    exact ⟨q0, q1, qP, va_K.moved (u := U) (U := U.calling g mk a) (Vm.Alike.refl U.vm) qK, qD, m_ext.same (u := U) (U := U.calling g mk a) rfl qE⟩
  have hpre2 : ∀ U : State, U.heap = H → κ.1.2.2.2.2.WarmedH U.vm → m_Pre (.ref (G.2.1 o) :: As) G σ H.size (Value.ref (G.2.1 o) :: As).toArray U := fun U hU hW => by
    refine ⟨rfl, by rw [hU], by rw [hU]; exact hPc, va_K.moved hW.alike K, hDc.weaken (fun _ _ _ _ => trivial), ?_⟩
    rw [hU]
    exact m_ext.warm hW (m_ext.narrow (m_ext.kept hE (fun a h1 h2 => hS.2.1 a h1 h2)) hF)
  have hr : va_Run κ.1.1 κ.1.2.1 κ.1.2.2.1 κ.1.2.2.2.1 κ.1.2.2.2.2 κ.2.1.1 κ.2.1.2.1 κ.2.1.2.2.1 κ.2.1.2.2.2.1 κ.2.1.2.2.2.2 H locs n z 0 0 (F0 κ.2.1.1 pc arr (As.reverse ++ .ref (G.2.1 o) :: rest)) rest (m_Q oc (fun r σ' => WN κ G.2.2.2 nL Q n z (X ++ m_cells G σ') (pc + 3) ls (rs r ++ rest)) G (va_A (m_cells G σ) H.size) (Value.ref (G.2.1 o) :: As).toArray) (va_A (m_cells G σ) H.size) := va_runV (As := As) (rest := rest) (b := G.2.1 o) ⟨c5.1, c5.2.1, c5.2.2.1, c5.2.2.2.1, c5.2.2.2.2⟩ (hM _ H.size h) (cwV nn c5.2.2.2.2 hG hw hrc.1 hrc.2 hd (by rw [hRm]; exact hR)) ⟨hpre1, va_recv K hPc hc (m_at_o σ hs), hpre2⟩ rfl hn hl.1 rfl (lv_room hcat) d (by rw [hRm]; exact hfit)
  intro T hT Xs
  obtain ⟨v, st₀, t, T', L, h0, X', hL, e1, e2, ⟨⟨r, σ', hv, hp, hb⟩, hz, hk⟩, stp⟩ := hr T hT Xs
  cases hv
  rw [h0] at hz hk
  have hS' : va_S κ.2.2 κ.1.2.2.2.2.heap T'.heap (locs ++ L) := by
    refine ⟨Nat.le_trans hS.1 (by rw [e1]; exact hz), fun q h1 h2 => ?_, fun q hq => ?_⟩
    · rw [e1, hk q (Nat.lt_of_lt_of_le h1 hS.1) (fun z => h2 (hF q z))]
      exact hS.2.1 q h1 h2
    · rcases List.mem_append.mp hq with h | h
      · exact hS.2.2 q h
      · exact hF _ (hL q h)
  have hP' : va_P G.2.2.2 vwCl (X ++ m_cells G σ') T'.heap := by
    refine va_P.app (fun k q hq => ?_) (by rw [e1]; exact hb)
    have a := apart k q hq
    exact va_at.kept (hP k q (lf k q hq)) (by rw [e1]; exact hk q.1 a.1 a.2)
  have hD' : va_D κ.2.2 (X ++ m_cells G σ') := o_D hD (by rw [List.map_append, List.map_append, o_fst])
  obtain ⟨t2, a1, b1⟩ := hp T'.heap (locs ++ L) arr hP' hD' hS' hl T' rfl X'
  refine ⟨t2, stp t2 ?_, b1⟩
  rw [hrs]
  exact a1
end CALLX
def o_ad (adS : Nat → Nat) (h : Nat) (r : Nat → Nat) (i : Nat) : Nat := match i with
  | 0 => h
  | k + 1 => bif Nat.blt k 999 then r k else adS (k + 1)
def o_s7 (c : Nat) : Int → Int := match c with
  | 7 => fun i => if i = 1 then 1 else 0
  | 14 => fun i => if i = 1 then 1 else 0
  | 22 => fun i => if i = 5 then 5 else if i = 4 then 4 else if i = 3 then 3 else if i = 2 then 2 else if i = 1 then 1 else 0
  | 23 => fun i => if i = 3 then 1 else 0
  | 32 => fun i => if i = 2 then 1 else if i = 1 then 2 else if i = 0 then 1 else 0
  | 37 => fun i => if i = 2 then -1 else 0
  | _ => fun _ => 0
theorem o_ad_S (adS : Nat → Nat) (h : Nat) (r : Nat → Nat) : (∀ k, o_ad adS h r (1000 + k) = adS (1000 + k)) ∧ ∀ k, o_ad adS h r (2000 + k) = adS (2000 + k) := by
  have key : ∀ i : Nat, 1000 ≤ i → o_ad adS h r i = adS i := fun i hi => by
    obtain ⟨k, rfl⟩ : ∃ k, i = k + 1 := ⟨i - 1, by omega⟩
    show (bif Nat.blt k 999 then r k else adS (k + 1)) = adS (k + 1)
    have e : Nat.blt k 999 = false := by
      cases hb : Nat.blt k 999 with
      | false => rfl
      | true =>
        have : k < 999 := Nat.le_of_ble_eq_true hb
        omega
    rw [e]
    rfl
  exact ⟨fun k => key _ (by omega), fun k => key _ (by omega)⟩
theorem o_ext_ad {adS ad : Nat → Nat} (h1 : ∀ k, ad (1000 + k) = adS (1000 + k)) (_h2 : ∀ k, ad (2000 + k) = adS (2000 + k)) {A : Nat → Prop} {U : State} {H : Heap} (h : m_ext adS A U H) : m_ext ad A U H := by
  obtain ⟨hn, hx, h3, h4, h5⟩ := h
  have e0 : ad 1000 = adS 1000 := h1 0
  have e1 : ad 1001 = adS 1001 := h1 1
  have ex : m_xs ad = m_xs adS := funext fun j => by
    unfold m_xs
    rw [show 2000 + j = 1000 + (1000 + j) by omega, h1]
  refine ⟨hn, ?_, ?_, ?_, ?_⟩
  · rw [e0, e1, ex]
    exact hx
  · rw [e0]
    exact h3
  · rw [e0]
    exact h4
  · rw [e1]
    exact h5
