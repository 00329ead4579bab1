/-! ===== the law: how the two begin, and its rows ===== -/
theorem Rel_0 {σ τ : Mem} (h : o_I7 σ) (g : o_I8 τ) : Rel σ τ := by
  obtain ⟨⟨a0, a1, a2⟩, a3, a4⟩ := h
  obtain ⟨⟨b0, b1, b8⟩, b2, b3, ⟨w0, w1, w2⟩, b4⟩ := g
  have cb : ∀ k, c_br σ k = 0 := fun k => by
    unfold c_br
    rw [a2, s_zero]
    rfl
  have a6 : ∀ k, q_in (σ 1 0) k → q_in 6 k := fun k hk => ⟨hk.1, by have := hk.2; omega⟩
  have b6 : ∀ k, q_in (σ 1 0) k → q_in 4 k := fun k hk => ⟨hk.1, by have := hk.2; omega⟩
  refine ⟨⟨by rw [a0, b0], by rw [a1, b1], fun k hk => ?_, ⟨⟨by omega, by omega, fun k hk => ?_, 0, ⟨by omega, by omega⟩, cb 0⟩, by omega, fun k _ => by rw [a2]; exact s_zero k⟩, fun k hk => ?_, fun k hk => ?_, fun j k hj hk e => ?_⟩, ⟨?_, ?_, fun i k i0 i1 => ?_⟩, ?_, ⟨?_, fun k _ => ?_, fun k hk => ?_⟩, ⟨?_, ?_, fun j j0 j1 => ?_, ?_, ?_⟩, fun j j0 j1 => ?_⟩
  · have x := a3 k (a6 k hk)
    have y := b3 k (b6 k hk)
    exact ⟨by omega, by omega, by omega, by omega, by rw [cb k]; omega⟩
  · have x := a3 k (a6 k hk)
    have := cb k
    exact ⟨by omega, by omega, by omega, by omega, by omega⟩
  · have x := a3 k (a6 k hk)
    omega
  · have x := a3 k (a6 k hk)
    have y := b3 k (b6 k hk)
    exact ⟨by omega, by rw [x.2.2.2.2]; exact hk⟩
  · have x := (a3 j (a6 j hj)).2.2.2.2
    have y := (a3 k (a6 k hk)).2.2.2.2
    omega
  · rw [a4 23 (by omega), b8]
    rfl
  · rw [a4 23 (by omega)]
    show 0 ≤ (0 : Int) ∧ (0 : Int) ≤ 6
    omega
  · rw [a4 23 (by omega)] at i1
    have i1 : i < (0 : Int) := i1
    omega
  · unfold RelW
    rw [a4 32 (by omega), w0, w1, w2]
    exact ⟨⟨rfl, rfl, rfl⟩, by decide, by decide, by decide, by decide⟩
  · rw [a4 34 (by omega)]
    exact ⟨by decide, by decide⟩
  · rw [a4 34 (by omega)]
    exact s_zero k
  · have y := b3 k (b6 k hk)
    rw [a4 34 (by omega)]
    have z : q_bit (o_s7 34 0) k = false := s_zero k
    rw [z, if_neg (by decide)]
    exact ⟨y.2.2.2.2.2.2, fun c => absurd c (by decide)⟩
  · rw [a4 37 (by omega), b2 30 (by omega) (by omega) (by omega)]
    rfl
  · rw [a4 37 (by omega)]
    exact ⟨by decide, by decide⟩
  · rw [a4 37 (by omega)] at j1
    have j1 : j < (0 : Int) := j1
    omega
  · rw [a4 0 (by omega), b2 36 (by omega) (by omega) (by omega)]
    rfl
  · rw [a4 37 (by omega), b2 33 (by omega) (by omega) (by omega)]
    rfl
  · rw [a4 22 (by omega)]
    rcases (show j = 0 ∨ j = 1 ∨ j = 2 ∨ j = 3 ∨ j = 4 ∨ j = 5 by omega) with q | q | q | q | q | q <;> subst q <;> rfl
theorem s_and31 (x : Int) : 0 ≤ andI x 31 ∧ andI x 31 ≤ 31 := by
  unfold andI
  have h : (Int32.ofInt x &&& Int32.ofInt 31).toBitVec.toNat ≤ 31 := by
    have : (Int32.ofInt x &&& Int32.ofInt 31).toBitVec = (Int32.ofInt x).toBitVec &&& (Int32.ofInt 31).toBitVec := rfl
    rw [this, BitVec.toNat_and]
    exact Nat.and_le_right
  have e : (Int32.ofInt x &&& Int32.ofInt 31).toInt = ((Int32.ofInt x &&& Int32.ofInt 31).toBitVec.toNat : Int) := by
    show (Int32.ofInt x &&& Int32.ofInt 31).toBitVec.toInt = _
    exact BitVec.toInt_eq_toNat_of_lt (by omega)
  rw [e]
  omega
/-- the law's own ground: the script at b, not among what was made -/
def CW (κ : KT) (cA : Nat → ClassId) (D : va_G) (b L : Nat) (xs : Nat → Int32) : Prop :=
  (κ.1.1.tables.exec = Jvm.exec ∧ κ.2.1.2.2.2.2.code = code ∧ κ.2.1.2.2.2.2.maxLocals = 4 ∧ κ.1.2.2.2.2.vm.findClass RL = some κ.2.1.1.cls ∧ (∀ w ∈ wsL_law, w.before κ.2.1.2.1 κ.1.2.2.2.2 = true)) ∧ va_K D vwCl (m_tys cA) κ.1.2.2.2.2 ∧ (∀ q, κ.1.2.2.2.2.heap.size ≤ q → κ.2.2 q) ∧ κ.1.2.2.2.1 = room_1 ∧ va_X b L xs κ.1.2.2.2.2 κ.1.2.2.2.2.heap ∧ b < κ.1.2.2.2.2.heap.size ∧ ¬ κ.2.2 b ∧ L ≤ 2048
def w_x (xs : Nat → Int32) (k : Int) : Int := (xs k.toNat).toInt
theorem w_xI (xs : Nat → Int32) (k : Int) : InI (w_x xs k) := s_I32 _
section LAWR
variable {κ : KT} {cA : Nat → ClassId} {D : va_G} {b L : Nat} {xs : Nat → Int32} {Q : State → Prop} {n z : Nat} {ws : va_W} {pc : Nat} {ls : List (Nat × Value)} {st : List Value}
theorem w_aload (C : CW κ cA D b L xs) {kk : Fin 4} {x : Nat} (j : Nat) (d : decode code pc = .ok (.aload_n kk, 1)) (hk : ls[j]? = some ((kk : Nat), .ref x)) (k : WN κ D 4 Q n z ws (pc + 1) ls (.ref x :: st)) : WN κ D 4 Q n z ws pc ls st := fun H locs arr hP hD hS hl => lv_aload_n C.1.1 C.1.2.1 d rfl (lv_at hl j hk) (k H locs arr hP hD hS hl)
theorem w_iload (C : CW κ cA D b L xs) {kk : Fin 4} {x : Int} (j : Nat) (d : decode code pc = .ok (.iload_n kk, 1)) (hk : ls[j]? = some ((kk : Nat), vI x)) (k : WN κ D 4 Q n z ws (pc + 1) ls (vI x :: st)) : WN κ D 4 Q n z ws pc ls st := fun H locs arr hP hD hS hl => lv_iload_n C.1.1 C.1.2.1 d rfl (lv_at hl j hk) (k H locs arr hP hD hS hl)
theorem w_iconst (C : CW κ cA D b L xs) {x : Int} (d : decode code pc = .ok (.iconst x, 1)) (k : WN κ D 4 Q n z ws (pc + 1) ls (vI x :: st)) : WN κ D 4 Q n z ws pc ls st := fun H locs arr hP hD hS hl => lv_iconst C.1.1 C.1.2.1 d rfl (k H locs arr hP hD hS hl)
theorem w_bipush (C : CW κ cA D b L xs) {x : Int} (d : decode code pc = .ok (.bipush x, 2)) (hn : (Int8.ofInt x).toInt32 = Int32.ofInt x) (k : WN κ D 4 Q n z ws (pc + 2) ls (vI x :: st)) : WN κ D 4 Q n z ws pc ls st := fun H locs arr hP hD hS hl => lv_bipush C.1.1 C.1.2.1 d hn (k H locs arr hP hD hS hl)
theorem w_iadd (C : CW κ cA D b L xs) {x y : Int} (d : decode code pc = .ok (.iadd, 1)) (k : WN κ D 4 Q n z ws (pc + 1) ls (vI (x + y) :: st)) : WN κ D 4 Q n z ws pc ls (vI y :: vI x :: st) := by
  intro H locs arr hP hD hS hl
  have h := k H locs arr hP hD hS hl
  rw [vI, Int32.ofInt_add] at h
  exact lv_iadd C.1.1 C.1.2.1 d h
theorem w_isub (C : CW κ cA D b L xs) {x y : Int} (d : decode code pc = .ok (.isub, 1)) (k : WN κ D 4 Q n z ws (pc + 1) ls (vI (x - y) :: st)) : WN κ D 4 Q n z ws pc ls (vI y :: vI x :: st) := by
  intro H locs arr hP hD hS hl
  have h := k H locs arr hP hD hS hl
  rw [vI, Int32.ofInt_sub] at h
  exact lv_isub C.1.1 C.1.2.1 d h
theorem w_iand (C : CW κ cA D b L xs) {x y : Int} (d : decode code pc = .ok (.iand, 1)) (k : WN κ D 4 Q n z ws (pc + 1) ls (vI (andI x y) :: st)) : WN κ D 4 Q n z ws pc ls (vI y :: vI x :: st) := by
  intro H locs arr hP hD hS hl
  have h := k H locs arr hP hD hS hl
  rw [andI, vI_of] at h
  exact lv_iand C.1.1 C.1.2.1 d h
theorem w_i2l (C : CW κ cA D b L xs) {x : Int} (d : decode code pc = .ok (.i2l, 1)) (hx : InI x) (k : WN κ D 4 Q n z ws (pc + 1) ls (vL x :: st)) : WN κ D 4 Q n z ws pc ls (vI x :: st) := fun H locs arr hP hD hS hl => lv_i2l C.1.1 C.1.2.1 d (n_i2l hx) (k H locs arr hP hD hS hl)
theorem w_lshl (C : CW κ cA D b L xs) {x y : Int} (d : decode code pc = .ok (.lshl, 1)) (k : WN κ D 4 Q n z ws (pc + 1) ls (vL (shlL x y) :: st)) : WN κ D 4 Q n z ws pc ls (vI y :: vL x :: st) := fun H locs arr hP hD hS hl => lv_lshl C.1.1 C.1.2.1 d rfl (by rw [← vL_of]; exact k H locs arr hP hD hS hl)
theorem w_land (C : CW κ cA D b L xs) {x y : Int} (d : decode code pc = .ok (.land, 1)) (k : WN κ D 4 Q n z ws (pc + 1) ls (vL (andL x y) :: st)) : WN κ D 4 Q n z ws pc ls (vL y :: vL x :: st) := by
  intro H locs arr hP hD hS hl
  have h := k H locs arr hP hD hS hl
  rw [andL, vL_of] at h
  exact lv_land C.1.1 C.1.2.1 d h
theorem w_lor (C : CW κ cA D b L xs) {x y : Int} (d : decode code pc = .ok (.lor, 1)) (k : WN κ D 4 Q n z ws (pc + 1) ls (vL (orL x y) :: st)) : WN κ D 4 Q n z ws pc ls (vL y :: vL x :: st) := by
  intro H locs arr hP hD hS hl
  have h := k H locs arr hP hD hS hl
  rw [orL, vL_of] at h
  exact lv_lor C.1.1 C.1.2.1 d h
theorem w_ldc2 (C : CW κ cA D b L xs) {index : Nat} {v : Int64} {x : Int} (d : decode code pc = .ok (.ldc2_w index, 3)) (hc : Cond.constantLong RL index v ∈ wsL_law) (hz : v = Int64.ofInt x) (k : WN κ D 4 Q n z ws (pc + 3) ls (vL x :: st)) : WN κ D 4 Q n z ws pc ls st := fun H locs arr hP hD hS hl => lv_ldc2 C.1.1 C.1.2.1 C.1.2.2.2.1 (C.1.2.2.2.2 _ hc) d (by rw [hz]; exact k H locs arr hP hD hS hl)
theorem w_goto (C : CW κ cA D b L xs) {off : Int} {tgt : Nat} (d : decode code pc = .ok (.goto off, 3)) (ht : (pc : Int) + off = (tgt : Int)) (k : WN κ D 4 Q n z ws tgt ls st) : WN κ D 4 Q n z ws pc ls st := fun H locs arr hP hD hS hl => lv_goto C.1.1 C.1.2.1 d ht (k H locs arr hP hD hS hl)
theorem w_ifeq (C : CW κ cA D b L xs) {x : Int} (hx : InI x) {off : Int} {tgt : Nat} (d : decode code pc = .ok (.ifCond .eq off, 3)) (ht : (pc : Int) + off = (tgt : Int)) (k1 : x = 0 → WN κ D 4 Q n z ws tgt ls st) (k2 : ¬ x = 0 → WN κ D 4 Q n z ws (pc + 3) ls st) : WN κ D 4 Q n z ws pc ls (vI x :: st) := by
  intro H locs arr hP hD hS hl
  have hy : InI 0 := ⟨by omega, by omega⟩
  refine lv_if_eq C.1.1 C.1.2.1 d ht (fun q => k1 ?_ H locs arr hP hD hS hl) (fun q => k2 ?_ H locs arr hP hD hS hl)
  all_goals
    rw [← n_0] at q
    rw [n_eq hx hy] at q
    exact q
theorem w_ieq (C : CW κ cA D b L xs) {x y : Int} {off : Int} {tgt : Nat} (d : decode code pc = .ok (.if_icmp .eq off, 3)) (ht : (pc : Int) + off = (tgt : Int)) (e : x = y) (k : WN κ D 4 Q n z ws tgt ls st) : WN κ D 4 Q n z ws pc ls (vI y :: vI x :: st) := by
  intro H locs arr hP hD hS hl
  exact lv_icmp_eq C.1.1 C.1.2.1 d ht (fun _ => k H locs arr hP hD hS hl) (fun q => absurd (by rw [e]) q)
theorem w_leq (C : CW κ cA D b L xs) {x y : Int} {off : Int} {tgt : Nat} (d1 : decode code pc = .ok (.lcmp, 1)) (d : decode code (pc + 1) = .ok (.ifCond .eq off, 3)) (ht : ((pc + 1 : Nat) : Int) + off = (tgt : Int)) (e : x = y) (k : WN κ D 4 Q n z ws tgt ls st) : WN κ D 4 Q n z ws pc ls (vL y :: vL x :: st) := by
  intro H locs arr hP hD hS hl
  subst e
  refine W.lcmp C.1.1 C.1.2.1 d1 (lv_if_eq C.1.1 C.1.2.1 d ht (fun _ => k H locs arr hP hD hS hl) (fun q => absurd ?_ q))
  unfold lg_cmp
  simp
theorem w_len (C : CW κ cA D b L xs) (d : decode code pc = .ok (.arraylength, 1)) (k : WN κ D 4 Q n z ws (pc + 1) ls (vI L :: st)) : WN κ D 4 Q n z ws pc ls (.ref b :: st) := by
  intro H locs arr hP hD hS hl
  have h := k H locs arr hP hD hS hl
  rw [vI, Int32.ofInt_eq_ofNat] at h
  exact va_slen C.1.1 C.1.2.1 C.2.2.2.2.1 C.2.2.2.2.2.1 C.2.2.2.2.2.2.1 hS d h
theorem w_iald (C : CW κ cA D b L xs) {j : Int} (hj : 0 ≤ j ∧ j < L) (d : decode code pc = .ok (.iaload, 1)) (k : WN κ D 4 Q n z ws (pc + 1) ls (vI (w_x xs j) :: st)) : WN κ D 4 Q n z ws pc ls (vI j :: .ref b :: st) := by
  intro H locs arr hP hD hS hl
  have hL := C.2.2.2.2.2.2.2
  obtain ⟨h1, h2, h3, h4⟩ := n_in (i := j) (n := L) rfl (by omega) hj
  have h := k H locs arr hP hD hS hl
  refine va_sld C.1.1 C.1.2.1 C.2.2.2.2.1 C.2.2.2.2.2.1 C.2.2.2.2.2.2.1 hS h1 d ?_
  rw [h2]
  have e : vI (w_x xs j) = .int (xs j.toNat) := vI_of _
  rw [e] at h
  exact h
/-- the kth int of the call's four -/
theorem w_arg (C : CW κ cA D b L xs) {i k : Int} {p1 p2 p3 p4 : Nat} (e1 : p1 = pc + 1) (e2 : p2 = pc + 2) (e3 : p3 = pc + 3) (e4 : p4 = pc + 4) (d0 : decode code pc = .ok (.aload_n 0, 1)) (d1 : decode code p1 = .ok (.iload_n 3, 1)) (d2 : decode code p2 = .ok (.iconst k, 1)) (d3 : decode code p3 = .ok (.iadd, 1)) (d4 : decode code p4 = .ok (.iaload, 1)) (h0 : ls[3]? = some (0, .ref b)) (h3 : ls[0]? = some (3, vI i)) (hj : 0 ≤ i + k ∧ i + k < L) (kk : WN κ D 4 Q n z ws (pc + 5) ls (vI (w_x xs (i + k)) :: st)) : WN κ D 4 Q n z ws pc ls st := by
  subst e1
  subst e2
  subst e3
  subst e4
  exact w_aload C 3 d0 h0 (w_iload C 0 d1 h3 (w_iconst C d2 (w_iadd C d3 (w_iald C hj d4 kk))))
theorem w_tsIn (C : CW κ cA D b L xs) {dflt lo hi off x : Int} {offs : Array Int} {len tgt : Nat} (j : Nat) (d : decode code pc = .ok (.tableswitch dflt lo hi offs, len)) (ho : offs[j]? = some off) (hx : x = lo + j) (hle : x ≤ hi) (hI : InI x) (ht : (pc : Int) + off = (tgt : Int)) (k : WN κ D 4 Q n z ws tgt ls st) : WN κ D 4 Q n z ws pc ls (vI x :: st) := by
  intro H locs arr hP hD hS hl
  have e : (Int32.ofInt x).toInt = x := n_toI hI
  refine lv_tableIn C.1.1 C.1.2.1 d (by rw [e]; omega) (by rw [e]; omega) (off := off) ?_ ht (k H locs arr hP hD hS hl)
  rw [e, show (x - lo).toNat = j by omega]
  exact ho
theorem w_tsOut (C : CW κ cA D b L xs) {dflt lo hi x : Int} {offs : Array Int} {len tgt : Nat} (d : decode code pc = .ok (.tableswitch dflt lo hi offs, len)) (hx : x < lo ∨ hi < x) (hI : InI x) (ht : (pc : Int) + dflt = (tgt : Int)) (k : WN κ D 4 Q n z ws tgt ls st) : WN κ D 4 Q n z ws pc ls (vI x :: st) := by
  intro H locs arr hP hD hS hl
  have e : (Int32.ofInt x).toInt = x := n_toI hI
  exact lv_tableOut C.1.1 C.1.2.1 d (by rw [e]; exact hx) ht (k H locs arr hP hD hS hl)
theorem w_igt (C : CW κ cA D b L xs) {x y : Int} (hx : InI x) (hy : InI y) {off : Int} {tgt : Nat} (d : decode code pc = .ok (.if_icmp .gt off, 3)) (ht : (pc : Int) + off = (tgt : Int)) (k1 : y < x → WN κ D 4 Q n z ws tgt ls st) (k2 : x ≤ y → WN κ D 4 Q n z ws (pc + 3) ls st) : WN κ D 4 Q n z ws pc ls (vI y :: vI x :: st) := by
  intro H locs arr hP hD hS hl
  refine lv_icmp_gt C.1.1 C.1.2.1 d ht (fun q => k1 ?_ H locs arr hP hD hS hl) (fun q => k2 ?_ H locs arr hP hD hS hl)
  · rw [n_lt hy hx] at q
    exact q
  · rw [n_lt hy hx] at q
    omega
end LAWR
