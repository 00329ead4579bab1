def q_at (L : List Nat) (k : Nat) : Nat := L.getD k 0
def q_sw (L : List Nat) (a b : Nat) : List Nat := (L.set a (q_at L b)).set b (q_at L a)
def q_nxi (L : List Nat) : Nat → Nat
  | 0 => 0
  | i + 1 => if q_at L i ≤ q_at L (i + 1) then i + 1 else q_nxi L i
def q_nxj (L : List Nat) (i : Nat) : Nat → Nat
  | 0 => 0
  | j + 1 => if j + 1 ≤ i then j + 1 else if q_at L i ≤ q_at L (j + 1) then j + 1 else q_nxj L i j
def q_nxr : Nat → Nat → Nat → List Nat → List Nat
  | 0, _, _, L => L
  | m + 1, a, b, L => if a < b then q_nxr m (a + 1) (b - 1) (q_sw L a b) else L
def q_nxo (L : List Nat) : Option (List Nat) := match q_nxi L (L.length - 1) with
  | 0 => none
  | i + 1 => some (q_nxr L.length (i + 1) (L.length - 1) (q_sw L i (q_nxj L i (L.length - 1))))
def q_its : Nat → List Nat → List (List Nat)
  | 0, _ => []
  | m + 1, L => L :: match q_nxo L with
    | none => []
    | some M => q_its m M
def q_rows (n : Nat) : List (List Nat) := q_its 121 (List.range n)
def q_nmb (f : Int → Int) : Nat → Int
  | 0 => 0
  | k + 1 => 10 * q_nmb f k + f k
def q_fn (L : List Nat) (k : Int) : Int := (q_at L k.toNat : Int)
def q_nmL (L : List Nat) : Int := q_nmb (q_fn L) L.length
def q_lits3 : List Int := [12, 21, 102, 120, 201, 210]
theorem q_lits3_eq : (q_rows 3).map q_nmL = q_lits3 := by decide +kernel
theorem q_lits3_up : q_lits3.Pairwise (fun a b => a < b) := by decide +kernel
def q_al3 : Bool := (List.range 3).all (fun d0 => (List.range 3).all (fun d1 => (d1 == d0 || (List.range 3).all (fun d2 => (d2 == d0 || (d2 == d1 || List.elem (((1 * d0 + 10 * d1 + 100 * d2 : Nat)) : Int) q_lits3))))))
theorem q_al3_eq : q_al3 = true := by decide +kernel
theorem q_lits3_all {d0 d1 d2 : Nat} (h0 : d0 < 3) (h1 : d1 < 3) (n10 : d1 ≠ d0) (h2 : d2 < 3) (n20 : d2 ≠ d0) (n21 : d2 ≠ d1) : List.elem (((1 * d0 + 10 * d1 + 100 * d2 : Nat)) : Int) q_lits3 = true := by
  have a := q_al3_eq
  unfold q_al3 at a
  replace a := List.all_eq_true.mp a d0 (List.mem_range.mpr h0)
  replace a := List.all_eq_true.mp a d1 (List.mem_range.mpr h1)
  replace a := ((Bool.or_eq_true _ _).mp a).resolve_left (fun z => n10 (of_decide_eq_true z))
  replace a := List.all_eq_true.mp a d2 (List.mem_range.mpr h2)
  replace a := ((Bool.or_eq_true _ _).mp a).resolve_left (fun z => n20 (of_decide_eq_true z))
  replace a := ((Bool.or_eq_true _ _).mp a).resolve_left (fun z => n21 (of_decide_eq_true z))
  exact a
theorem q_rows3_ok : ∀ L ∈ q_rows 3, L.length = 3 ∧ (∀ k, k < 3 → q_at L k < 3 ∧ q_dg (q_nmL L) (3 - 1 - k) = (q_at L k : Int)) ∧ 0 ≤ q_nmL L ∧ q_quo (q_nmL L) 3 = 0 ∧ q_msk (q_nmL L) 3 = shlI 1 3 - 1 := by decide +kernel
theorem q_rows3_len : (q_rows 3).length ≤ 120 := by decide +kernel
theorem q_rows3_all {x : Int} (h : q_isRow 3 x) : ∃ L ∈ q_rows 3, q_nmL L = x := by
  have hx := h.1
  have hi := q_isRow_dg (n := 3) (by omega) h
  have hj := q_isRow_inj (n := 3) (by omega) h
  have hq := h.2.1
  have a0 := q_dg_bd x 0
  have b0 := hi.1 0 (by omega)
  have a1 := q_dg_bd x 1
  have b1 := hi.1 1 (by omega)
  have a2 := q_dg_bd x 2
  have b2 := hi.1 2 (by omega)
  have c10 : q_dg x 1 ≠ q_dg x 0 := fun z => absurd (hj.2 1 2 ⟨by omega, by omega⟩ ⟨by omega, by omega⟩ z) (by omega)
  have c20 : q_dg x 2 ≠ q_dg x 0 := fun z => absurd (hj.2 0 2 ⟨by omega, by omega⟩ ⟨by omega, by omega⟩ z) (by omega)
  have c21 : q_dg x 2 ≠ q_dg x 1 := fun z => absurd (hj.2 0 1 ⟨by omega, by omega⟩ ⟨by omega, by omega⟩ z) (by omega)
  have m := List.mem_of_elem_eq_true (q_lits3_all (d0 := (q_dg x 0).toNat) (d1 := (q_dg x 1).toNat) (d2 := (q_dg x 2).toNat) (by omega) (by omega) (by omega) (by omega) (by omega) (by omega))
  have e : x = 1 * q_dg x 0 + 10 * q_dg x 1 + 100 * q_dg x 2 := by
    have hq2 : q_quo x 3 = 0 := hq
    unfold q_dg
    simp only [q_quo] at hq2 ⊢
    omega
  rw [show ((1 * (q_dg x 0).toNat + 10 * (q_dg x 1).toNat + 100 * (q_dg x 2).toNat : Nat) : Int) = x by omega, ← q_lits3_eq] at m
  obtain ⟨L, hL, eL⟩ := List.mem_map.mp m
  exact ⟨L, hL, eL⟩
def q_lits4 : List Int := [123, 132, 213, 231, 312, 321, 1023, 1032, 1203, 1230, 1302, 1320, 2013, 2031, 2103, 2130, 2301, 2310, 3012, 3021, 3102, 3120, 3201, 3210]
theorem q_lits4_eq : (q_rows 4).map q_nmL = q_lits4 := by decide +kernel
theorem q_lits4_up : q_lits4.Pairwise (fun a b => a < b) := by decide +kernel
def q_al4 : Bool := (List.range 4).all (fun d0 => (List.range 4).all (fun d1 => (d1 == d0 || (List.range 4).all (fun d2 => (d2 == d0 || (d2 == d1 || (List.range 4).all (fun d3 => (d3 == d0 || (d3 == d1 || (d3 == d2 || List.elem (((1 * d0 + 10 * d1 + 100 * d2 + 1000 * d3 : Nat)) : Int) q_lits4))))))))))
theorem q_al4_eq : q_al4 = true := by decide +kernel
theorem q_lits4_all {d0 d1 d2 d3 : Nat} (h0 : d0 < 4) (h1 : d1 < 4) (n10 : d1 ≠ d0) (h2 : d2 < 4) (n20 : d2 ≠ d0) (n21 : d2 ≠ d1) (h3 : d3 < 4) (n30 : d3 ≠ d0) (n31 : d3 ≠ d1) (n32 : d3 ≠ d2) : List.elem (((1 * d0 + 10 * d1 + 100 * d2 + 1000 * d3 : Nat)) : Int) q_lits4 = true := by
  have a := q_al4_eq
  unfold q_al4 at a
  replace a := List.all_eq_true.mp a d0 (List.mem_range.mpr h0)
  replace a := List.all_eq_true.mp a d1 (List.mem_range.mpr h1)
  replace a := ((Bool.or_eq_true _ _).mp a).resolve_left (fun z => n10 (of_decide_eq_true z))
  replace a := List.all_eq_true.mp a d2 (List.mem_range.mpr h2)
  replace a := ((Bool.or_eq_true _ _).mp a).resolve_left (fun z => n20 (of_decide_eq_true z))
  replace a := ((Bool.or_eq_true _ _).mp a).resolve_left (fun z => n21 (of_decide_eq_true z))
  replace a := List.all_eq_true.mp a d3 (List.mem_range.mpr h3)
  replace a := ((Bool.or_eq_true _ _).mp a).resolve_left (fun z => n30 (of_decide_eq_true z))
  replace a := ((Bool.or_eq_true _ _).mp a).resolve_left (fun z => n31 (of_decide_eq_true z))
  replace a := ((Bool.or_eq_true _ _).mp a).resolve_left (fun z => n32 (of_decide_eq_true z))
  exact a
theorem q_rows4_ok : ∀ L ∈ q_rows 4, L.length = 4 ∧ (∀ k, k < 4 → q_at L k < 4 ∧ q_dg (q_nmL L) (4 - 1 - k) = (q_at L k : Int)) ∧ 0 ≤ q_nmL L ∧ q_quo (q_nmL L) 4 = 0 ∧ q_msk (q_nmL L) 4 = shlI 1 4 - 1 := by decide +kernel
theorem q_rows4_len : (q_rows 4).length ≤ 120 := by decide +kernel
theorem q_rows4_all {x : Int} (h : q_isRow 4 x) : ∃ L ∈ q_rows 4, q_nmL L = x := by
  have hx := h.1
  have hi := q_isRow_dg (n := 4) (by omega) h
  have hj := q_isRow_inj (n := 4) (by omega) h
  have hq := h.2.1
  have a0 := q_dg_bd x 0
  have b0 := hi.1 0 (by omega)
  have a1 := q_dg_bd x 1
  have b1 := hi.1 1 (by omega)
  have a2 := q_dg_bd x 2
  have b2 := hi.1 2 (by omega)
  have a3 := q_dg_bd x 3
  have b3 := hi.1 3 (by omega)
  have c10 : q_dg x 1 ≠ q_dg x 0 := fun z => absurd (hj.2 2 3 ⟨by omega, by omega⟩ ⟨by omega, by omega⟩ z) (by omega)
  have c20 : q_dg x 2 ≠ q_dg x 0 := fun z => absurd (hj.2 1 3 ⟨by omega, by omega⟩ ⟨by omega, by omega⟩ z) (by omega)
  have c21 : q_dg x 2 ≠ q_dg x 1 := fun z => absurd (hj.2 1 2 ⟨by omega, by omega⟩ ⟨by omega, by omega⟩ z) (by omega)
  have c30 : q_dg x 3 ≠ q_dg x 0 := fun z => absurd (hj.2 0 3 ⟨by omega, by omega⟩ ⟨by omega, by omega⟩ z) (by omega)
  have c31 : q_dg x 3 ≠ q_dg x 1 := fun z => absurd (hj.2 0 2 ⟨by omega, by omega⟩ ⟨by omega, by omega⟩ z) (by omega)
  have c32 : q_dg x 3 ≠ q_dg x 2 := fun z => absurd (hj.2 0 1 ⟨by omega, by omega⟩ ⟨by omega, by omega⟩ z) (by omega)
  have m := List.mem_of_elem_eq_true (q_lits4_all (d0 := (q_dg x 0).toNat) (d1 := (q_dg x 1).toNat) (d2 := (q_dg x 2).toNat) (d3 := (q_dg x 3).toNat) (by omega) (by omega) (by omega) (by omega) (by omega) (by omega) (by omega) (by omega) (by omega) (by omega))
  have e : x = 1 * q_dg x 0 + 10 * q_dg x 1 + 100 * q_dg x 2 + 1000 * q_dg x 3 := by
    have hq2 : q_quo x 4 = 0 := hq
    unfold q_dg
    simp only [q_quo] at hq2 ⊢
    omega
  rw [show ((1 * (q_dg x 0).toNat + 10 * (q_dg x 1).toNat + 100 * (q_dg x 2).toNat + 1000 * (q_dg x 3).toNat : Nat) : Int) = x by omega, ← q_lits4_eq] at m
  obtain ⟨L, hL, eL⟩ := List.mem_map.mp m
  exact ⟨L, hL, eL⟩
def q_lits5 : List Int := [1234, 1243, 1324, 1342, 1423, 1432, 2134, 2143, 2314, 2341, 2413, 2431, 3124, 3142, 3214, 3241, 3412, 3421, 4123, 4132, 4213, 4231, 4312, 4321, 10234, 10243, 10324, 10342, 10423, 10432, 12034, 12043, 12304, 12340, 12403, 12430, 13024, 13042, 13204, 13240, 13402, 13420, 14023, 14032, 14203, 14230, 14302, 14320, 20134, 20143, 20314, 20341, 20413, 20431, 21034, 21043, 21304, 21340, 21403, 21430, 23014, 23041, 23104, 23140, 23401, 23410, 24013, 24031, 24103, 24130, 24301, 24310, 30124, 30142, 30214, 30241, 30412, 30421, 31024, 31042, 31204, 31240, 31402, 31420, 32014, 32041, 32104, 32140, 32401, 32410, 34012, 34021, 34102, 34120, 34201, 34210, 40123, 40132, 40213, 40231, 40312, 40321, 41023, 41032, 41203, 41230, 41302, 41320, 42013, 42031, 42103, 42130, 42301, 42310, 43012, 43021, 43102, 43120, 43201, 43210]
theorem q_lits5_eq : (q_rows 5).map q_nmL = q_lits5 := by decide +kernel
theorem q_lits5_up : q_lits5.Pairwise (fun a b => a < b) := by decide +kernel
def q_al5 : Bool := (List.range 5).all (fun d0 => (List.range 5).all (fun d1 => (d1 == d0 || (List.range 5).all (fun d2 => (d2 == d0 || (d2 == d1 || (List.range 5).all (fun d3 => (d3 == d0 || (d3 == d1 || (d3 == d2 || (List.range 5).all (fun d4 => (d4 == d0 || (d4 == d1 || (d4 == d2 || (d4 == d3 || List.elem (((1 * d0 + 10 * d1 + 100 * d2 + 1000 * d3 + 10000 * d4 : Nat)) : Int) q_lits5)))))))))))))))
theorem q_al5_eq : q_al5 = true := by decide +kernel
theorem q_lits5_all {d0 d1 d2 d3 d4 : Nat} (h0 : d0 < 5) (h1 : d1 < 5) (n10 : d1 ≠ d0) (h2 : d2 < 5) (n20 : d2 ≠ d0) (n21 : d2 ≠ d1) (h3 : d3 < 5) (n30 : d3 ≠ d0) (n31 : d3 ≠ d1) (n32 : d3 ≠ d2) (h4 : d4 < 5) (n40 : d4 ≠ d0) (n41 : d4 ≠ d1) (n42 : d4 ≠ d2) (n43 : d4 ≠ d3) : List.elem (((1 * d0 + 10 * d1 + 100 * d2 + 1000 * d3 + 10000 * d4 : Nat)) : Int) q_lits5 = true := by
  have a := q_al5_eq
  unfold q_al5 at a
  replace a := List.all_eq_true.mp a d0 (List.mem_range.mpr h0)
  replace a := List.all_eq_true.mp a d1 (List.mem_range.mpr h1)
  replace a := ((Bool.or_eq_true _ _).mp a).resolve_left (fun z => n10 (of_decide_eq_true z))
  replace a := List.all_eq_true.mp a d2 (List.mem_range.mpr h2)
  replace a := ((Bool.or_eq_true _ _).mp a).resolve_left (fun z => n20 (of_decide_eq_true z))
  replace a := ((Bool.or_eq_true _ _).mp a).resolve_left (fun z => n21 (of_decide_eq_true z))
  replace a := List.all_eq_true.mp a d3 (List.mem_range.mpr h3)
  replace a := ((Bool.or_eq_true _ _).mp a).resolve_left (fun z => n30 (of_decide_eq_true z))
  replace a := ((Bool.or_eq_true _ _).mp a).resolve_left (fun z => n31 (of_decide_eq_true z))
  replace a := ((Bool.or_eq_true _ _).mp a).resolve_left (fun z => n32 (of_decide_eq_true z))
  replace a := List.all_eq_true.mp a d4 (List.mem_range.mpr h4)
  replace a := ((Bool.or_eq_true _ _).mp a).resolve_left (fun z => n40 (of_decide_eq_true z))
  replace a := ((Bool.or_eq_true _ _).mp a).resolve_left (fun z => n41 (of_decide_eq_true z))
  replace a := ((Bool.or_eq_true _ _).mp a).resolve_left (fun z => n42 (of_decide_eq_true z))
  replace a := ((Bool.or_eq_true _ _).mp a).resolve_left (fun z => n43 (of_decide_eq_true z))
  exact a
theorem q_rows5_ok : ∀ L ∈ q_rows 5, L.length = 5 ∧ (∀ k, k < 5 → q_at L k < 5 ∧ q_dg (q_nmL L) (5 - 1 - k) = (q_at L k : Int)) ∧ 0 ≤ q_nmL L ∧ q_quo (q_nmL L) 5 = 0 ∧ q_msk (q_nmL L) 5 = shlI 1 5 - 1 := by decide +kernel
theorem q_rows5_len : (q_rows 5).length ≤ 120 := by decide +kernel
theorem q_rows5_all {x : Int} (h : q_isRow 5 x) : ∃ L ∈ q_rows 5, q_nmL L = x := by
  have hx := h.1
  have hi := q_isRow_dg (n := 5) (by omega) h
  have hj := q_isRow_inj (n := 5) (by omega) h
  have hq := h.2.1
  have a0 := q_dg_bd x 0
  have b0 := hi.1 0 (by omega)
  have a1 := q_dg_bd x 1
  have b1 := hi.1 1 (by omega)
  have a2 := q_dg_bd x 2
  have b2 := hi.1 2 (by omega)
  have a3 := q_dg_bd x 3
  have b3 := hi.1 3 (by omega)
  have a4 := q_dg_bd x 4
  have b4 := hi.1 4 (by omega)
  have c10 : q_dg x 1 ≠ q_dg x 0 := fun z => absurd (hj.2 3 4 ⟨by omega, by omega⟩ ⟨by omega, by omega⟩ z) (by omega)
  have c20 : q_dg x 2 ≠ q_dg x 0 := fun z => absurd (hj.2 2 4 ⟨by omega, by omega⟩ ⟨by omega, by omega⟩ z) (by omega)
  have c21 : q_dg x 2 ≠ q_dg x 1 := fun z => absurd (hj.2 2 3 ⟨by omega, by omega⟩ ⟨by omega, by omega⟩ z) (by omega)
  have c30 : q_dg x 3 ≠ q_dg x 0 := fun z => absurd (hj.2 1 4 ⟨by omega, by omega⟩ ⟨by omega, by omega⟩ z) (by omega)
  have c31 : q_dg x 3 ≠ q_dg x 1 := fun z => absurd (hj.2 1 3 ⟨by omega, by omega⟩ ⟨by omega, by omega⟩ z) (by omega)
  have c32 : q_dg x 3 ≠ q_dg x 2 := fun z => absurd (hj.2 1 2 ⟨by omega, by omega⟩ ⟨by omega, by omega⟩ z) (by omega)
  have c40 : q_dg x 4 ≠ q_dg x 0 := fun z => absurd (hj.2 0 4 ⟨by omega, by omega⟩ ⟨by omega, by omega⟩ z) (by omega)
  have c41 : q_dg x 4 ≠ q_dg x 1 := fun z => absurd (hj.2 0 3 ⟨by omega, by omega⟩ ⟨by omega, by omega⟩ z) (by omega)
  have c42 : q_dg x 4 ≠ q_dg x 2 := fun z => absurd (hj.2 0 2 ⟨by omega, by omega⟩ ⟨by omega, by omega⟩ z) (by omega)
  have c43 : q_dg x 4 ≠ q_dg x 3 := fun z => absurd (hj.2 0 1 ⟨by omega, by omega⟩ ⟨by omega, by omega⟩ z) (by omega)
  have m := List.mem_of_elem_eq_true (q_lits5_all (d0 := (q_dg x 0).toNat) (d1 := (q_dg x 1).toNat) (d2 := (q_dg x 2).toNat) (d3 := (q_dg x 3).toNat) (d4 := (q_dg x 4).toNat) (by omega) (by omega) (by omega) (by omega) (by omega) (by omega) (by omega) (by omega) (by omega) (by omega) (by omega) (by omega) (by omega) (by omega) (by omega))
  have e : x = 1 * q_dg x 0 + 10 * q_dg x 1 + 100 * q_dg x 2 + 1000 * q_dg x 3 + 10000 * q_dg x 4 := by
    have hq2 : q_quo x 5 = 0 := hq
    unfold q_dg
    simp only [q_quo] at hq2 ⊢
    omega
  rw [show ((1 * (q_dg x 0).toNat + 10 * (q_dg x 1).toNat + 100 * (q_dg x 2).toNat + 1000 * (q_dg x 3).toNat + 10000 * (q_dg x 4).toNat : Nat) : Int) = x by omega, ← q_lits5_eq] at m
  obtain ⟨L, hL, eL⟩ := List.mem_map.mp m
  exact ⟨L, hL, eL⟩
theorem q_rows_ok {n : Int} (hn : n = 3 ∨ n = 4 ∨ n = 5) : (∀ L ∈ q_rows n.toNat, L.length = n.toNat ∧ (∀ k, k < n.toNat → q_at L k < n.toNat ∧ q_dg (q_nmL L) (n.toNat - 1 - k) = (q_at L k : Int)) ∧ q_isRow n (q_nmL L)) ∧ (q_rows n.toNat).length ≤ 120 ∧ ((q_rows n.toNat).map q_nmL).Pairwise (fun a b => a < b) ∧ ∀ x, q_isRow n x → ∃ L ∈ q_rows n.toNat, q_nmL L = x := by
  rcases hn with q | q | q <;> subst q
  · exact ⟨fun L hL => ⟨(q_rows3_ok L hL).1, (q_rows3_ok L hL).2.1, (q_rows3_ok L hL).2.2⟩, q_rows3_len, by show ((q_rows 3).map q_nmL).Pairwise _; rw [q_lits3_eq]; exact q_lits3_up, fun x hx => q_rows3_all hx⟩
  · exact ⟨fun L hL => ⟨(q_rows4_ok L hL).1, (q_rows4_ok L hL).2.1, (q_rows4_ok L hL).2.2⟩, q_rows4_len, by show ((q_rows 4).map q_nmL).Pairwise _; rw [q_lits4_eq]; exact q_lits4_up, fun x hx => q_rows4_all hx⟩
  · exact ⟨fun L hL => ⟨(q_rows5_ok L hL).1, (q_rows5_ok L hL).2.1, (q_rows5_ok L hL).2.2⟩, q_rows5_len, by show ((q_rows 5).map q_nmL).Pairwise _; rw [q_lits5_eq]; exact q_lits5_up, fun x hx => q_rows5_all hx⟩
