/-! ===== memory as numbers; worlds by shape ===== -/
abbrev Mem : Type := Nat → Int → Int
def vI (x : Int) : Value := .int (Int32.ofInt x)
def vL (x : Int) : Value := .long (Int64.ofInt x)
abbrev InI (x : Int) : Prop := -2147483648 ≤ x ∧ x ≤ 2147483647
abbrev InL (x : Int) : Prop := -9223372036854775808 ≤ x ∧ x ≤ 9223372036854775807
def m_upd (σ : Mem) (a : Nat) (i v : Int) : Mem := fun b => if b = a then (fun j => if j = i then v else σ a j) else σ b
theorem m_upd_at (σ : Mem) (a : Nat) (i v : Int) (b : Nat) (j : Int) : m_upd σ a i v b j = if b = a ∧ j = i then v else σ b j := by
  unfold m_upd
  by_cases h : b = a
  · subst h
    by_cases h2 : j = i <;> simp [h2]
  · simp [h]
theorem m_upd_ne (σ : Mem) (a : Nat) (i v : Int) (b : Nat) (h : b ≠ a) : m_upd σ a i v b = σ b := by
  unfold m_upd
  simp [h]
abbrev Shp : Type := List ((Nat × List Nat) ⊕ (Nat × Nat))
def m_fk (ad : Nat → Nat) (fk : Nat) (x : Int) : Value := match fk with
  | 0 => vI x
  | 1 => vL x
  | k + 2 => .ref (ad k)
def m_fvs (ad : Nat → Nat) (f : Int → Int) : Nat → List Nat → List Value
  | _, [] => []
  | j, fk :: r => m_fk ad fk (f (j : Int)) :: m_fvs ad f (j + 1) r
def m_E (ad : Nat → Nat) (cA : Nat → ClassId) (f : Int → Int) (x : (Nat × List Nat) ⊕ (Nat × Nat)) : va_E := match x with
  | .inl (ci, fks) => .inr (ci, m_fvs ad f 0 fks)
  | .inr (0, n) => .inl (cA 0, n, .inl fun j => Int32.ofInt (f (j : Int)))
  | .inr (1, n) => .inl (cA 1, n, .inr (.inl fun j => Int64.ofInt (f (j : Int))))
  | .inr (2, n) => .inl (cA 2, n, .inl fun j => Int32.ofInt (f (j : Int)))
  | .inr (k + 3, n) => .inl (cA 3, n, .inr (.inr (.inr (.inr fun j => some (ad (k + j))))))
def m_cel (ad : Nat → Nat) (cA : Nat → ClassId) (σ : Mem) : Nat → Shp → va_W
  | _, [] => []
  | i, s :: r => (ad i, m_E ad cA (σ i) s) :: m_cel ad cA σ (i + 1) r
theorem m_fvs_get (ad : Nat → Nat) (f : Int → Int) : ∀ (fks : List Nat) (j k fk : Nat), fks[k]? = some fk → (m_fvs ad f j fks)[k]? = some (m_fk ad fk (f ((j + k : Nat) : Int)))
  | [], j, k, fk, h => by simp at h
  | a :: r, j, 0, fk, h => by
    simp at h
    subst h
    simp [m_fvs]
  | a :: r, j, k + 1, fk, h => by
    rw [List.getElem?_cons_succ] at h
    rw [m_fvs, List.getElem?_cons_succ, m_fvs_get ad f r (j + 1) k fk h]
    rw [show j + 1 + k = j + (k + 1) by omega]
theorem m_fvs_ge (ad : Nat → Nat) : ∀ (fks : List Nat) (j : Nat) (f g : Int → Int), (∀ i : Nat, j ≤ i → f (i : Int) = g (i : Int)) → m_fvs ad f j fks = m_fvs ad g j fks
  | [], j, f, g, h => rfl
  | a :: r, j, f, g, h => by
    rw [m_fvs, m_fvs, h j (Nat.le_refl _), m_fvs_ge ad r (j + 1) f g (fun i hi => h i (by omega))]
theorem m_fvs_set (ad : Nat → Nat) (v : Int) : ∀ (fks : List Nat) (j k fk : Nat) (f : Int → Int), fks[k]? = some fk → (m_fvs ad f j fks).set k (m_fk ad fk v) = m_fvs ad (fun i => if i = ((j + k : Nat) : Int) then v else f i) j fks
  | [], j, k, fk, f, h => by simp at h
  | a :: r, j, 0, fk, f, h => by
    simp at h
    subst h
    rw [m_fvs, m_fvs, List.set_cons_zero]
    rw [m_fvs_ge ad r (j + 1) f (fun i => if i = ((j + 0 : Nat) : Int) then v else f i) (fun i hi => by
      have : ¬ ((i : Int) = ((j + 0 : Nat) : Int)) := by omega
      simp only [if_neg this])]
    simp
  | a :: r, j, k + 1, fk, f, h => by
    rw [List.getElem?_cons_succ] at h
    rw [m_fvs, m_fvs, List.set_cons_succ, m_fvs_set ad v r (j + 1) k fk f h]
    have : ¬ ((j : Int) = ((j + (k + 1) : Nat) : Int)) := by omega
    simp only [if_neg this]
    rw [show j + 1 + k = j + (k + 1) by omega]
theorem m_fvs_len (ad : Nat → Nat) (f : Int → Int) : ∀ (fks : List Nat) (j : Nat), (m_fvs ad f j fks).length = fks.length
  | [], j => rfl
  | a :: r, j => by rw [m_fvs, List.length_cons, List.length_cons, m_fvs_len ad f r (j + 1)]
theorem m_cel_get (ad : Nat → Nat) (cA : Nat → ClassId) (σ : Mem) : ∀ (sh : Shp) (i k : Nat) (s : (Nat × List Nat) ⊕ (Nat × Nat)), sh[k]? = some s → (m_cel ad cA σ i sh)[k]? = some (ad (i + k), m_E ad cA (σ (i + k)) s)
  | [], i, k, s, h => by simp at h
  | a :: r, i, 0, s, h => by
    simp at h
    subst h
    simp [m_cel]
  | a :: r, i, k + 1, s, h => by
    rw [List.getElem?_cons_succ] at h
    rw [m_cel, List.getElem?_cons_succ, m_cel_get ad cA σ r (i + 1) k s h]
    rw [show i + 1 + k = i + (k + 1) by omega]
theorem m_cel_ge (ad : Nat → Nat) (cA : Nat → ClassId) : ∀ (sh : Shp) (i : Nat) (σ τ : Mem), (∀ b : Nat, i ≤ b → σ b = τ b) → m_cel ad cA σ i sh = m_cel ad cA τ i sh
  | [], i, σ, τ, h => rfl
  | a :: r, i, σ, τ, h => by
    rw [m_cel, m_cel, h i (Nat.le_refl _), m_cel_ge ad cA r (i + 1) σ τ (fun b hb => h b (by omega))]
theorem m_cel_set (ad : Nat → Nat) (cA : Nat → ClassId) (f : Int → Int) : ∀ (sh : Shp) (i k : Nat) (s : (Nat × List Nat) ⊕ (Nat × Nat)) (σ : Mem), sh[k]? = some s → (m_cel ad cA σ i sh).set k (ad (i + k), m_E ad cA f s) = m_cel ad cA (fun b => if b = i + k then f else σ b) i sh
  | [], i, k, s, σ, h => by simp at h
  | a :: r, i, 0, s, σ, h => by
    simp at h
    subst h
    rw [m_cel, m_cel, List.set_cons_zero]
    rw [m_cel_ge ad cA r (i + 1) σ (fun b => if b = i + 0 then f else σ b) (fun b hb => by
      have : ¬ (b = i + 0) := by omega
      simp only [if_neg this])]
    simp
  | a :: r, i, k + 1, s, σ, h => by
    rw [List.getElem?_cons_succ] at h
    rw [m_cel, m_cel, List.set_cons_succ]
    have h2 := m_cel_set ad cA f r (i + 1) k s σ h
    rw [show i + 1 + k = i + (k + 1) by omega] at h2
    rw [h2]
    have : ¬ (i = i + (k + 1)) := by omega
    simp only [if_neg this]
theorem m_cel_D (ad : Nat → Nat) (cA : Nat → ClassId) (A : Nat → Prop) : ∀ (sh : Shp) (i k : Nat) (σ : Mem) (q : Nat × va_E), (m_cel ad cA σ i sh)[k]? = some q → k < sh.length ∧ q.1 = ad (i + k)
  | [], i, k, σ, q, h => by simp [m_cel] at h
  | a :: r, i, 0, σ, q, h => by
    simp [m_cel] at h
    subst h
    simp
  | a :: r, i, k + 1, σ, q, h => by
    rw [m_cel, List.getElem?_cons_succ] at h
    obtain ⟨h1, h2⟩ := m_cel_D ad cA A r (i + 1) k σ q h
    refine ⟨by simp; omega, ?_⟩
    rw [h2, show i + 1 + k = i + (k + 1) by omega]
theorem m_cel_len (ad : Nat → Nat) (cA : Nat → ClassId) (σ : Mem) : ∀ (sh : Shp) (i : Nat), (m_cel ad cA σ i sh).length = sh.length
  | [], i => rfl
  | a :: r, i => by rw [m_cel, List.length_cons, List.length_cons, m_cel_len ad cA σ r (i + 1)]
/-- the addresses alone decide whether cells are apart -/
theorem m_cel_D2 {ad : Nat → Nat} {cA : Nat → ClassId} {A : Nat → Prop} {sh : Shp} {σ τ : Mem} (h : va_D A (m_cel ad cA σ 0 sh)) : va_D A (m_cel ad cA τ 0 sh) := by
  have key : ∀ (k : Nat) (q : Nat × va_E), (m_cel ad cA τ 0 sh)[k]? = some q → ∃ q' : Nat × va_E, (m_cel ad cA σ 0 sh)[k]? = some q' ∧ q'.1 = q.1 := by
    intro k q hq
    obtain ⟨h1, h2⟩ := m_cel_D ad cA A sh 0 k τ q hq
    obtain ⟨q', hq'⟩ : ∃ q', (m_cel ad cA σ 0 sh)[k]? = some q' := ⟨_, List.getElem?_eq_getElem (by rw [m_cel_len]; exact h1)⟩
    exact ⟨q', hq', by rw [h2, (m_cel_D ad cA A sh 0 k σ q' hq').2]⟩
  refine ⟨fun i j p q hi hj hpq => ?_, fun k q hk => ?_⟩
  · obtain ⟨p', h1, h2⟩ := key i p hi
    obtain ⟨q', h3, h4⟩ := key j q hj
    exact h.1 i j p' q' h1 h3 (by rw [h2, h4]; exact hpq)
  · obtain ⟨q', h1, h2⟩ := key k q hk
    rw [← h2]
    exact h.2 k q' h1
theorem m_cel_A {ad : Nat → Nat} {cA : Nat → ClassId} {sh : Shp} {σ τ : Mem} {sz : Nat} {q : Nat} (h : va_A (m_cel ad cA σ 0 sh) sz q) : va_A (m_cel ad cA τ 0 sh) sz q := by
  rcases h with ⟨k, e, h⟩ | h
  · obtain ⟨h1, h2⟩ := m_cel_D ad cA (fun _ => True) sh 0 k σ _ h
    obtain ⟨q', hq'⟩ : ∃ q', (m_cel ad cA τ 0 sh)[k]? = some q' := ⟨_, List.getElem?_eq_getElem (by rw [m_cel_len]; exact h1)⟩
    have h3 := (m_cel_D ad cA (fun _ => True) sh 0 k τ q' hq').2
    obtain ⟨a, b⟩ := q'
    refine Or.inl ⟨k, b, ?_⟩
    simp at h2 h3
    rw [hq', h2, h3]
  · exact Or.inr h
theorem m_cel_Aeq (ad : Nat → Nat) (cA : Nat → ClassId) (sh : Shp) (σ τ : Mem) (sz : Nat) : va_A (m_cel ad cA σ 0 sh) sz = va_A (m_cel ad cA τ 0 sh) sz := funext fun _ => propext ⟨m_cel_A, m_cel_A⟩
/-! ===== numbers ===== -/
theorem n_toI {x : Int} (h : InI x) : (Int32.ofInt x).toInt = x := Int32.toInt_ofInt_of_le (by have := h.1; omega) (by have := h.2; omega)
theorem n_toL {x : Int} (h : InL x) : (Int64.ofInt x).toInt = x := Int64.toInt_ofInt_of_le (by have := h.1; omega) (by have := h.2; omega)
theorem n_lt {x y : Int} (hx : InI x) (hy : InI y) : Int32.ofInt x < Int32.ofInt y ↔ x < y := by rw [Int32.lt_iff_toInt_lt, n_toI hx, n_toI hy]
theorem n_le {x y : Int} (hx : InI x) (hy : InI y) : Int32.ofInt x ≤ Int32.ofInt y ↔ x ≤ y := by rw [Int32.le_iff_toInt_le, n_toI hx, n_toI hy]
theorem n_eq {x y : Int} (hx : InI x) (hy : InI y) : Int32.ofInt x = Int32.ofInt y ↔ x = y := by rw [← Int32.toInt_inj, n_toI hx, n_toI hy]
theorem n_ltL {x y : Int} (hx : InL x) (hy : InL y) : Int64.ofInt x < Int64.ofInt y ↔ x < y := by rw [Int64.lt_iff_toInt_lt, n_toL hx, n_toL hy]
theorem n_leL {x y : Int} (hx : InL x) (hy : InL y) : Int64.ofInt x ≤ Int64.ofInt y ↔ x ≤ y := by rw [Int64.le_iff_toInt_le, n_toL hx, n_toL hy]
theorem n_eqL {x y : Int} (hx : InL x) (hy : InL y) : Int64.ofInt x = Int64.ofInt y ↔ x = y := by rw [← Int64.toInt_inj, n_toL hx, n_toL hy]
theorem n_0 : Int32.ofInt 0 = 0 := rfl
theorem n_clamp {x : Int} (h : InI x) : (Int32.ofInt x).toNatClampNeg = x.toNat := Int32.toNatClampNeg_ofInt_of_le (by have := h.1; omega) (by have := h.2; omega)
theorem n_in {i nz : Int} {n : Nat} (hn : (n : Int) = nz) (hb : n < 2147483648) (h : 0 ≤ i ∧ i < nz) : vp_in (Int32.ofInt i) n ∧ (Int32.ofInt i).toNatClampNeg = i.toNat ∧ i.toNat < n ∧ ((i.toNat : Nat) : Int) = i := by
  have hi : InI i := ⟨by omega, by omega⟩
  have h0 : InI 0 := ⟨by omega, by omega⟩
  refine ⟨?_, n_clamp hi, by omega, by omega⟩
  rintro (q | q)
  · rw [← n_0, n_lt hi h0] at q
    omega
  · rw [n_clamp hi] at q
    omega
theorem n_divI {x y : Int} (hx : InI x) (hy : InI y) : Int32.ofInt x / Int32.ofInt y = Int32.ofInt (x.tdiv y) := by
  rw [Int32.ofInt_tdiv (by have := hx.1; rw [Int32.toInt_minValue]; omega) (by have := hx.2; rw [Int32.toInt_maxValue]; omega) (by have := hy.1; rw [Int32.toInt_minValue]; omega) (by have := hy.2; rw [Int32.toInt_maxValue]; omega)]
theorem n_divL {x y : Int} (hx : InL x) (hy : InL y) : Int64.ofInt x / Int64.ofInt y = Int64.ofInt (x.tdiv y) := by
  rw [Int64.ofInt_tdiv (by have := hx.1; rw [Int64.toInt_minValue]; omega) (by have := hx.2; rw [Int64.toInt_maxValue]; omega) (by have := hy.1; rw [Int64.toInt_minValue]; omega) (by have := hy.2; rw [Int64.toInt_maxValue]; omega)]
theorem n_remI {x y : Int} (hx : InI x) (hy : InI y) : Int32.ofInt x - Int32.ofInt x / Int32.ofInt y * Int32.ofInt y = Int32.ofInt (x.tmod y) := by
  rw [n_divI hx hy, Int.tmod_def, Int32.ofInt_sub, Int32.ofInt_mul, Int32.mul_comm]
theorem n_remL {x y : Int} (hx : InL x) (hy : InL y) : Int64.ofInt x - Int64.ofInt x / Int64.ofInt y * Int64.ofInt y = Int64.ofInt (x.tmod y) := by
  rw [n_divL hx hy, Int.tmod_def, Int64.ofInt_sub, Int64.ofInt_mul, Int64.mul_comm]
theorem n_i2l {x : Int} (h : InI x) : (Int32.ofInt x).toInt64 = Int64.ofInt x := Int32.toInt64_ofInt (by have := h.1; rw [Int32.toInt_minValue]; omega) (by have := h.2; rw [Int32.toInt_maxValue]; omega)
/-! bits, on the numbers of the machine -/
def andI (x y : Int) : Int := (Int32.ofInt x &&& Int32.ofInt y).toInt
def orI (x y : Int) : Int := (Int32.ofInt x ||| Int32.ofInt y).toInt
def xorI (x y : Int) : Int := (Int32.ofInt x ^^^ Int32.ofInt y).toInt
def shlI (x y : Int) : Int := (Int32.ofInt x <<< (Int32.ofInt y &&& 31)).toInt
def shrI (x y : Int) : Int := (Int32.ofInt x >>> (Int32.ofInt y &&& 31)).toInt
def andL (x y : Int) : Int := (Int64.ofInt x &&& Int64.ofInt y).toInt
def orL (x y : Int) : Int := (Int64.ofInt x ||| Int64.ofInt y).toInt
def ushrI (x y : Int) : Int := (((Int32.ofInt x).toUInt32 >>> ((Int32.ofInt y).toUInt32 &&& Int32.toUInt32 31)).toInt32).toInt
def i2cI (x : Int) : Int := ((Int32.ofInt x).toUInt32.toUInt16.toUInt32.toInt32).toInt
def shrL (x y : Int) : Int := (Int64.ofInt x >>> ((Int32.ofInt y).toInt64 &&& 63)).toInt
def shlL (x y : Int) : Int := (Int64.ofInt x <<< ((Int32.ofInt y).toInt64 &&& 63)).toInt
theorem vI_of (x : Int32) : vI x.toInt = .int x := by rw [vI, Int32.ofInt_toInt]
theorem vL_of (x : Int64) : vL x.toInt = .long x := by rw [vL, Int64.ofInt_toInt]
/-! ===== the judgement over memories ===== -/
abbrev KT : Type := (Program × Launch × Env × Room × State) × (MethodId × Array Value × List Frame × Method × Code) × (Nat → Prop)
abbrev GT : Type := Shp × (Nat → Nat) × (Nat → ClassId) × va_G
def m_tys (cA : Nat → ClassId) : List (ClassId × FieldType) := [(cA 0, .int), (cA 1, .long), (cA 0, .int), (cA 3, .array .int)]
abbrev m_cells (G : GT) (σ : Mem) : va_W := m_cel G.2.1 G.2.2.1 σ 0 G.1
/-! what every contract takes as given beside its cells: links between nest mates, and the law's script -/
def m_x (ad : Nat → Nat) (i : Int) : Int := ((ad (2000 + i.toNat) : Nat) : Int) - 2147483648
def m_L (ad : Nat → Nat) : Int := ((ad 1001 : Nat) : Int)
def m_xs (ad : Nat → Nat) (j : Nat) : Int32 := Int32.ofInt (((ad (2000 + j) : Nat) : Int) - 2147483648)
def m_nest (U : State) : Prop := va_Nw (.methodLinkNest RX1 65 yX7_wholeFrom RX7) U ∧ va_Nw (.methodLinkNest RX3 94 yX7_asNumber RX7) U
def m_scr (ad : Nat → Nat) (A : Nat → Prop) (U : State) (H : Heap) : Prop := va_X (ad 1000) (ad 1001) (m_xs ad) U H ∧ ad 1000 < H.size ∧ ¬ A (ad 1000) ∧ ad 1001 ≤ 260
def m_ext (ad : Nat → Nat) (A : Nat → Prop) (U : State) (H : Heap) : Prop := m_nest U ∧ m_scr ad A U H
theorem m_ext.warm {ad : Nat → Nat} {A : Nat → Prop} {s U : State} {H : Heap} (hW : s.WarmedH U.vm) (h : m_ext ad A s H) : m_ext ad A U H := by
  obtain ⟨⟨n1, n2⟩, x, r⟩ := h
  exact ⟨⟨va_Nw.warmM hW n1, va_Nw.warmM hW n2⟩, x.moved hW.alike, r⟩
theorem m_ext.same {ad : Nat → Nat} {A : Nat → Prop} {u U : State} {H : Heap} (hv : U.vm = u.vm) (h : m_ext ad A u H) : m_ext ad A U H := m_ext.warm (by rw [hv]; exact State.WarmedH.refl u) h
theorem m_ext.kept {ad : Nat → Nat} {A : Nat → Prop} {U : State} {H H1 : Heap} (h : m_ext ad A U H) (hq : ∀ a : Nat, a < H.size → ¬ A a → H1[a]? = H[a]?) : m_ext ad A U H1 := by
  obtain ⟨hn, x, h1, h2, h3⟩ := h
  have e := hq _ h1 h2
  refine ⟨hn, x.kept e, ?_, h2, h3⟩
  obtain ⟨scr, hs, -⟩ := x
  rw [← e] at hs
  exact (Array.getElem?_eq_some_iff.mp hs).1
theorem m_ext.narrow {ad : Nat → Nat} {A B : Nat → Prop} {U : State} {H : Heap} (h : m_ext ad A U H) (hAB : ∀ q, B q → A q) : m_ext ad B U H := by
  obtain ⟨hn, x, h1, h2, h3⟩ := h
  exact ⟨hn, x, h1, fun q => h2 (hAB _ q), h3⟩
def WK (κ : KT) (H : Heap) (locs : List Loc) (Q : State → Prop) (g : JFrame) : Prop :=
  W κ.1.1 κ.1.2.1 κ.1.2.2.1 κ.1.2.2.2.1 κ.1.2.2.2.2 κ.2.1.1 κ.2.1.2.1 κ.2.1.2.2.1 κ.2.1.2.2.2.1 κ.2.1.2.2.2.2 H locs 0 0 Q g
def WM (κ : KT) (G : GT) (nL : Nat) (Q : State → Prop) (σ : Mem) (pc : Nat) (ls : List (Nat × Value)) (st : List Value) : Prop :=
  ∀ (H : Heap) (locs : List Loc) (arr : Array Slot), va_P G.2.2.2 vwCl (m_cells G σ) H → va_S κ.2.2 κ.1.2.2.2.2.heap H locs → lv_has arr nL ls → WK κ H locs Q (F0 κ.2.1.1 pc arr st)
def CX (κ : KT) (G : GT) (own : String) (cc : ByteArray) (nL : Nat) (Ts : List Cond) (rm : Room) (ret : Option FieldType) : Prop :=
  κ.1.1.tables.exec = Jvm.exec ∧ κ.2.1.2.2.2.2.code = cc ∧ κ.2.1.2.2.2.2.maxLocals = nL ∧ κ.1.2.2.2.2.vm.findClass own = some κ.2.1.1.cls ∧ (∀ w ∈ Ts, w.before κ.2.1.2.1 κ.1.2.2.2.2 = true) ∧
  va_K G.2.2.2 vwCl (m_tys G.2.2.1) κ.1.2.2.2.2 ∧ (∀ σ : Mem, va_D κ.2.2 (m_cells G σ)) ∧ (∀ q, κ.1.2.2.2.2.heap.size ≤ q → κ.2.2 q) ∧ κ.1.2.2.2.1 = rm ∧ κ.2.1.2.2.2.1.sig.returnType = ret ∧ κ.2.1.2.2.2.1.locks = false ∧ m_ext G.2.1 κ.2.2 κ.1.2.2.2.2 κ.1.2.2.2.2.heap
theorem CX.x {κ : KT} {G : GT} {own : String} {cc : ByteArray} {nL : Nat} {Ts : List Cond} {rm : Room} {ret : Option FieldType} (C : CX κ G own cc nL Ts rm ret) : κ.1.1.tables.exec = Jvm.exec := C.1
theorem CX.b {κ : KT} {G : GT} {own : String} {cc : ByteArray} {nL : Nat} {Ts : List Cond} {rm : Room} {ret : Option FieldType} (C : CX κ G own cc nL Ts rm ret) : κ.2.1.2.2.2.2.code = cc := C.2.1
theorem CX.ml {κ : KT} {G : GT} {own : String} {cc : ByteArray} {nL : Nat} {Ts : List Cond} {rm : Room} {ret : Option FieldType} (C : CX κ G own cc nL Ts rm ret) : κ.2.1.2.2.2.2.maxLocals = nL := C.2.2.1
theorem CX.own {κ : KT} {G : GT} {own : String} {cc : ByteArray} {nL : Nat} {Ts : List Cond} {rm : Room} {ret : Option FieldType} (C : CX κ G own cc nL Ts rm ret) : κ.1.2.2.2.2.vm.findClass own = some κ.2.1.1.cls := C.2.2.2.1
theorem CX.ts {κ : KT} {G : GT} {own : String} {cc : ByteArray} {nL : Nat} {Ts : List Cond} {rm : Room} {ret : Option FieldType} (C : CX κ G own cc nL Ts rm ret) : ∀ w ∈ Ts, w.before κ.2.1.2.1 κ.1.2.2.2.2 = true := C.2.2.2.2.1
theorem CX.K {κ : KT} {G : GT} {own : String} {cc : ByteArray} {nL : Nat} {Ts : List Cond} {rm : Room} {ret : Option FieldType} (C : CX κ G own cc nL Ts rm ret) : va_K G.2.2.2 vwCl (m_tys G.2.2.1) κ.1.2.2.2.2 := C.2.2.2.2.2.1
theorem CX.D {κ : KT} {G : GT} {own : String} {cc : ByteArray} {nL : Nat} {Ts : List Cond} {rm : Room} {ret : Option FieldType} (C : CX κ G own cc nL Ts rm ret) : ∀ σ : Mem, va_D κ.2.2 (m_cells G σ) := C.2.2.2.2.2.2.1
theorem CX.A {κ : KT} {G : GT} {own : String} {cc : ByteArray} {nL : Nat} {Ts : List Cond} {rm : Room} {ret : Option FieldType} (C : CX κ G own cc nL Ts rm ret) : ∀ q, κ.1.2.2.2.2.heap.size ≤ q → κ.2.2 q := C.2.2.2.2.2.2.2.1
theorem CX.R {κ : KT} {G : GT} {own : String} {cc : ByteArray} {nL : Nat} {Ts : List Cond} {rm : Room} {ret : Option FieldType} (C : CX κ G own cc nL Ts rm ret) : κ.1.2.2.2.1 = rm := C.2.2.2.2.2.2.2.2.1
theorem CX.rt {κ : KT} {G : GT} {own : String} {cc : ByteArray} {nL : Nat} {Ts : List Cond} {rm : Room} {ret : Option FieldType} (C : CX κ G own cc nL Ts rm ret) : κ.2.1.2.2.2.1.sig.returnType = ret := C.2.2.2.2.2.2.2.2.2.1
theorem CX.lk {κ : KT} {G : GT} {own : String} {cc : ByteArray} {nL : Nat} {Ts : List Cond} {rm : Room} {ret : Option FieldType} (C : CX κ G own cc nL Ts rm ret) : κ.2.1.2.2.2.1.locks = false := C.2.2.2.2.2.2.2.2.2.2.1
theorem CX.e {κ : KT} {G : GT} {own : String} {cc : ByteArray} {nL : Nat} {Ts : List Cond} {rm : Room} {ret : Option FieldType} (C : CX κ G own cc nL Ts rm ret) : m_ext G.2.1 κ.2.2 κ.1.2.2.2.2 κ.1.2.2.2.2.heap := C.2.2.2.2.2.2.2.2.2.2.2
section ROWS
variable {κ : KT} {G : GT} {own : String} {cc : ByteArray} {nL : Nat} {Ts : List Cond} {rm : Room} {ret : Option FieldType} {Q : State → Prop} {σ : Mem} {pc : Nat} {ls : List (Nat × Value)} {st : List Value}
theorem r_iconst (C : CX κ G own cc nL Ts rm ret) {n : Int} (d : decode cc pc = .ok (.iconst n, 1)) (k : WM κ G nL Q σ (pc + 1) ls (vI n :: st)) : WM κ G nL Q σ pc ls st := fun H locs arr hP hS hl => lv_iconst C.x C.b d rfl (k H locs arr hP hS hl)
theorem r_bipush (C : CX κ G own cc nL Ts rm ret) {n : Int} (d : decode cc pc = .ok (.bipush n, 2)) (hn : (Int8.ofInt n).toInt32 = Int32.ofInt n) (k : WM κ G nL Q σ (pc + 2) ls (vI n :: st)) : WM κ G nL Q σ pc ls st := fun H locs arr hP hS hl => lv_bipush C.x C.b d hn (k H locs arr hP hS hl)
theorem r_sipush (C : CX κ G own cc nL Ts rm ret) {n : Int} (d : decode cc pc = .ok (.sipush n, 3)) (hn : (Int16.ofInt n).toInt32 = Int32.ofInt n) (k : WM κ G nL Q σ (pc + 3) ls (vI n :: st)) : WM κ G nL Q σ pc ls st := fun H locs arr hP hS hl => lv_sipush C.x C.b d hn (k H locs arr hP hS hl)
theorem r_lconst (C : CX κ G own cc nL Ts rm ret) {n : Fin 2} {z : Int} (d : decode cc pc = .ok (.lconst n, 1)) (hz : Int64.ofNat (n : Nat) = Int64.ofInt z) (k : WM κ G nL Q σ (pc + 1) ls (vL z :: st)) : WM κ G nL Q σ pc ls st := fun H locs arr hP hS hl => lv_lconst C.x C.b d hz (k H locs arr hP hS hl)
theorem r_ldc (C : CX κ G own cc nL Ts rm ret) {index : Nat} {v : Int32} {z : Int} (d : decode cc pc = .ok (.ldc index, 2)) (hc : Cond.constant own index v ∈ Ts) (hz : v = Int32.ofInt z) (k : WM κ G nL Q σ (pc + 2) ls (vI z :: st)) : WM κ G nL Q σ pc ls st := fun H locs arr hP hS hl => lv_ldc C.x C.b C.own (C.ts _ hc) d (by rw [hz]; exact k H locs arr hP hS hl)
theorem r_ldc2 (C : CX κ G own cc nL Ts rm ret) {index : Nat} {v : Int64} {z : Int} (d : decode cc pc = .ok (.ldc2_w index, 3)) (hc : Cond.constantLong own index v ∈ Ts) (hz : v = Int64.ofInt z) (k : WM κ G nL Q σ (pc + 3) ls (vL z :: st)) : WM κ G nL Q σ pc ls st := fun H locs arr hP hS hl => lv_ldc2 C.x C.b C.own (C.ts _ hc) d (by rw [hz]; exact k H locs arr hP hS hl)
theorem r_iload_n (C : CX κ G own cc nL Ts rm ret) {kk : Fin 4} {x : Int} (j : Nat) (d : decode cc pc = .ok (.iload_n kk, 1)) (hk : ls[j]? = some ((kk : Nat), vI x)) (k : WM κ G nL Q σ (pc + 1) ls (vI x :: st)) : WM κ G nL Q σ pc ls st := fun H locs arr hP hS hl => lv_iload_n C.x C.b d rfl (lv_at hl j hk) (k H locs arr hP hS hl)
theorem r_iload (C : CX κ G own cc nL Ts rm ret) {i : Nat} {x : Int} (j : Nat) (d : decode cc pc = .ok (.iload i, 2)) (hk : ls[j]? = some (i, vI x)) (k : WM κ G nL Q σ (pc + 2) ls (vI x :: st)) : WM κ G nL Q σ pc ls st := fun H locs arr hP hS hl => lv_iload C.x C.b d (lv_at hl j hk) (k H locs arr hP hS hl)
theorem r_lload_n (C : CX κ G own cc nL Ts rm ret) {kk : Fin 4} {x : Int} (j : Nat) (d : decode cc pc = .ok (.lload_n kk, 1)) (hk : ls[j]? = some ((kk : Nat), vL x)) (k : WM κ G nL Q σ (pc + 1) ls (vL x :: st)) : WM κ G nL Q σ pc ls st := fun H locs arr hP hS hl => lv_lload_n C.x C.b d rfl (lv_at hl j hk) (k H locs arr hP hS hl)
theorem r_lload (C : CX κ G own cc nL Ts rm ret) {i : Nat} {x : Int} (j : Nat) (d : decode cc pc = .ok (.lload i, 2)) (hk : ls[j]? = some (i, vL x)) (k : WM κ G nL Q σ (pc + 2) ls (vL x :: st)) : WM κ G nL Q σ pc ls st := fun H locs arr hP hS hl => lv_lload C.x C.b d (lv_at hl j hk) (k H locs arr hP hS hl)
theorem r_aload_n (C : CX κ G own cc nL Ts rm ret) {kk : Fin 4} {x : Nat} (j : Nat) (d : decode cc pc = .ok (.aload_n kk, 1)) (hk : ls[j]? = some ((kk : Nat), .ref x)) (k : WM κ G nL Q σ (pc + 1) ls (.ref x :: st)) : WM κ G nL Q σ pc ls st := fun H locs arr hP hS hl => lv_aload_n C.x C.b d rfl (lv_at hl j hk) (k H locs arr hP hS hl)
theorem r_aload (C : CX κ G own cc nL Ts rm ret) {i : Nat} {x : Nat} (j : Nat) (d : decode cc pc = .ok (.aload i, 2)) (hk : ls[j]? = some (i, .ref x)) (k : WM κ G nL Q σ (pc + 2) ls (.ref x :: st)) : WM κ G nL Q σ pc ls st := fun H locs arr hP hS hl => lv_aload C.x C.b d (lv_at hl j hk) (k H locs arr hP hS hl)
theorem r_istore_n (C : CX κ G own cc nL Ts rm ret) {kk : Fin 4} {i : Nat} {ls' : List (Nat × Value)} {x : Int} (d : decode cc pc = .ok (.istore_n kk, 1)) (hi : (kk : Nat) = i) (hn : i < nL) (hl' : (i, vI x) :: ls.filter (fun q => !(q.1 == i) && !(q.1 + 1 == i && q.2.category == 2)) = ls') (k : WM κ G nL Q σ (pc + 1) ls' st) : WM κ G nL Q σ pc ls (vI x :: st) := fun H locs arr hP hS hl => lv_istore_n C.x C.b d hi hl hn hl' (fun arr' h' => k H locs arr' hP hS h')
theorem r_istore (C : CX κ G own cc nL Ts rm ret) {i : Nat} {ls' : List (Nat × Value)} {x : Int} (d : decode cc pc = .ok (.istore i, 2)) (hn : i < nL) (hl' : (i, vI x) :: ls.filter (fun q => !(q.1 == i) && !(q.1 + 1 == i && q.2.category == 2)) = ls') (k : WM κ G nL Q σ (pc + 2) ls' st) : WM κ G nL Q σ pc ls (vI x :: st) := fun H locs arr hP hS hl => lv_istore C.x C.b d hl hn hl' (fun arr' h' => k H locs arr' hP hS h')
theorem r_lstore_n (C : CX κ G own cc nL Ts rm ret) {kk : Fin 4} {i : Nat} {ls' : List (Nat × Value)} {x : Int} (d : decode cc pc = .ok (.lstore_n kk, 1)) (hi : (kk : Nat) = i) (hn : i + 1 < nL) (hl' : (i, vL x) :: ls.filter (fun q => !(q.1 == i) && (!(q.1 == i + 1) && !(q.1 + 1 == i && q.2.category == 2))) = ls') (k : WM κ G nL Q σ (pc + 1) ls' st) : WM κ G nL Q σ pc ls (vL x :: st) := fun H locs arr hP hS hl => lv_lstore_n C.x C.b d hi hl hn hl' (fun arr' h' => k H locs arr' hP hS h')
theorem r_lstore (C : CX κ G own cc nL Ts rm ret) {i : Nat} {ls' : List (Nat × Value)} {x : Int} (d : decode cc pc = .ok (.lstore i, 2)) (hn : i + 1 < nL) (hl' : (i, vL x) :: ls.filter (fun q => !(q.1 == i) && (!(q.1 == i + 1) && !(q.1 + 1 == i && q.2.category == 2))) = ls') (k : WM κ G nL Q σ (pc + 2) ls' st) : WM κ G nL Q σ pc ls (vL x :: st) := fun H locs arr hP hS hl => lv_lstore C.x C.b d hl hn hl' (fun arr' h' => k H locs arr' hP hS h')
theorem r_astore_n (C : CX κ G own cc nL Ts rm ret) {kk : Fin 4} {i : Nat} {ls' : List (Nat × Value)} {x : Nat} (d : decode cc pc = .ok (.astore_n kk, 1)) (hi : (kk : Nat) = i) (hn : i < nL) (hl' : (i, .ref x) :: ls.filter (fun q => !(q.1 == i) && !(q.1 + 1 == i && q.2.category == 2)) = ls') (k : WM κ G nL Q σ (pc + 1) ls' st) : WM κ G nL Q σ pc ls (.ref x :: st) := fun H locs arr hP hS hl => lv_astore_n C.x C.b d hi hl hn hl' (fun arr' h' => k H locs arr' hP hS h')
theorem r_astore (C : CX κ G own cc nL Ts rm ret) {i : Nat} {ls' : List (Nat × Value)} {x : Nat} (d : decode cc pc = .ok (.astore i, 2)) (hn : i < nL) (hl' : (i, .ref x) :: ls.filter (fun q => !(q.1 == i) && !(q.1 + 1 == i && q.2.category == 2)) = ls') (k : WM κ G nL Q σ (pc + 2) ls' st) : WM κ G nL Q σ pc ls (.ref x :: st) := fun H locs arr hP hS hl => lv_astore C.x C.b d hl hn hl' (fun arr' h' => k H locs arr' hP hS h')
theorem r_iinc (C : CX κ G own cc nL Ts rm ret) {i j : Nat} {n x : Int} {ls' : List (Nat × Value)} (d : decode cc pc = .ok (.iinc i n, 3)) (hk : ls[j]? = some (i, vI x)) (hn : i < nL) (hl' : (i, vI (x + n)) :: ls.filter (fun q => !(q.1 == i) && !(q.1 + 1 == i && q.2.category == 2)) = ls') (k : WM κ G nL Q σ (pc + 3) ls' st) : WM κ G nL Q σ pc ls st := fun H locs arr hP hS hl => lv_iinc C.x C.b d hl hk (Int32.ofInt_add x n).symm hn hl' (fun arr' h' => k H locs arr' hP hS h')
theorem r_iadd (C : CX κ G own cc nL Ts rm ret) {x y : Int} (d : decode cc pc = .ok (.iadd, 1)) (k : WM κ G nL Q σ (pc + 1) ls (vI (x + y) :: st)) : WM κ G nL Q σ pc ls (vI y :: vI x :: st) := by
  intro H locs arr hP hS hl
  have h := k H locs arr hP hS hl
  rw [vI, Int32.ofInt_add] at h
  exact lv_iadd C.x C.b d h
theorem r_isub (C : CX κ G own cc nL Ts rm ret) {x y : Int} (d : decode cc pc = .ok (.isub, 1)) (k : WM κ G nL Q σ (pc + 1) ls (vI (x - y) :: st)) : WM κ G nL Q σ pc ls (vI y :: vI x :: st) := by
  intro H locs arr hP hS hl
  have h := k H locs arr hP hS hl
  rw [vI, Int32.ofInt_sub] at h
  exact lv_isub C.x C.b d h
theorem r_imul (C : CX κ G own cc nL Ts rm ret) {x y : Int} (d : decode cc pc = .ok (.imul, 1)) (k : WM κ G nL Q σ (pc + 1) ls (vI (x * y) :: st)) : WM κ G nL Q σ pc ls (vI y :: vI x :: st) := by
  intro H locs arr hP hS hl
  have h := k H locs arr hP hS hl
  rw [vI, Int32.ofInt_mul] at h
  exact lv_imul C.x C.b d h
theorem r_ladd (C : CX κ G own cc nL Ts rm ret) {x y : Int} (d : decode cc pc = .ok (.ladd, 1)) (k : WM κ G nL Q σ (pc + 1) ls (vL (x + y) :: st)) : WM κ G nL Q σ pc ls (vL y :: vL x :: st) := by
  intro H locs arr hP hS hl
  have h := k H locs arr hP hS hl
  rw [vL, Int64.ofInt_add] at h
  exact lv_ladd C.x C.b d h
theorem r_lsub (C : CX κ G own cc nL Ts rm ret) {x y : Int} (d : decode cc pc = .ok (.lsub, 1)) (k : WM κ G nL Q σ (pc + 1) ls (vL (x - y) :: st)) : WM κ G nL Q σ pc ls (vL y :: vL x :: st) := by
  intro H locs arr hP hS hl
  have h := k H locs arr hP hS hl
  rw [vL, Int64.ofInt_sub] at h
  exact lv_lsub C.x C.b d h
theorem r_lmul (C : CX κ G own cc nL Ts rm ret) {x y : Int} (d : decode cc pc = .ok (.lmul, 1)) (k : WM κ G nL Q σ (pc + 1) ls (vL (x * y) :: st)) : WM κ G nL Q σ pc ls (vL y :: vL x :: st) := by
  intro H locs arr hP hS hl
  have h := k H locs arr hP hS hl
  rw [vL, Int64.ofInt_mul] at h
  exact lv_lmul C.x C.b d h
theorem r_iand (C : CX κ G own cc nL Ts rm ret) {x y : Int} (d : decode cc pc = .ok (.iand, 1)) (k : WM κ G nL Q σ (pc + 1) ls (vI (andI x y) :: st)) : WM κ G nL Q σ pc ls (vI y :: vI x :: st) := by
  intro H locs arr hP hS hl
  have h := k H locs arr hP hS hl
  rw [andI, vI_of] at h
  exact lv_iand C.x C.b d h
theorem r_ior (C : CX κ G own cc nL Ts rm ret) {x y : Int} (d : decode cc pc = .ok (.ior, 1)) (k : WM κ G nL Q σ (pc + 1) ls (vI (orI x y) :: st)) : WM κ G nL Q σ pc ls (vI y :: vI x :: st) := by
  intro H locs arr hP hS hl
  have h := k H locs arr hP hS hl
  rw [orI, vI_of] at h
  exact lv_ior C.x C.b d h
theorem r_land (C : CX κ G own cc nL Ts rm ret) {x y : Int} (d : decode cc pc = .ok (.land, 1)) (k : WM κ G nL Q σ (pc + 1) ls (vL (andL x y) :: st)) : WM κ G nL Q σ pc ls (vL y :: vL x :: st) := by
  intro H locs arr hP hS hl
  have h := k H locs arr hP hS hl
  rw [andL, vL_of] at h
  exact lv_land C.x C.b d h
theorem r_lor (C : CX κ G own cc nL Ts rm ret) {x y : Int} (d : decode cc pc = .ok (.lor, 1)) (k : WM κ G nL Q σ (pc + 1) ls (vL (orL x y) :: st)) : WM κ G nL Q σ pc ls (vL y :: vL x :: st) := by
  intro H locs arr hP hS hl
  have h := k H locs arr hP hS hl
  rw [orL, vL_of] at h
  exact lv_lor C.x C.b d h
theorem r_ixor (C : CX κ G own cc nL Ts rm ret) {x y : Int} (d : decode cc pc = .ok (.ixor, 1)) (k : WM κ G nL Q σ (pc + 1) ls (vI (xorI x y) :: st)) : WM κ G nL Q σ pc ls (vI y :: vI x :: st) := by
  intro H locs arr hP hS hl
  have h := k H locs arr hP hS hl
  rw [xorI, vI_of] at h
  exact lv_ixor C.x C.b d h
theorem r_ishl (C : CX κ G own cc nL Ts rm ret) {x y : Int} (d : decode cc pc = .ok (.ishl, 1)) (k : WM κ G nL Q σ (pc + 1) ls (vI (shlI x y) :: st)) : WM κ G nL Q σ pc ls (vI y :: vI x :: st) := by
  intro H locs arr hP hS hl
  have h := k H locs arr hP hS hl
  rw [shlI, vI_of] at h
  exact lv_ishl C.x C.b d h
theorem r_ishr (C : CX κ G own cc nL Ts rm ret) {x y : Int} (d : decode cc pc = .ok (.ishr, 1)) (k : WM κ G nL Q σ (pc + 1) ls (vI (shrI x y) :: st)) : WM κ G nL Q σ pc ls (vI y :: vI x :: st) := by
  intro H locs arr hP hS hl
  have h := k H locs arr hP hS hl
  rw [shrI, vI_of] at h
  exact lv_ishr C.x C.b d h
theorem r_iushr (C : CX κ G own cc nL Ts rm ret) {x y : Int} (d : decode cc pc = .ok (.iushr, 1)) (k : WM κ G nL Q σ (pc + 1) ls (vI (ushrI x y) :: st)) : WM κ G nL Q σ pc ls (vI y :: vI x :: st) := fun H locs arr hP hS hl => lv_iushr C.x C.b d rfl (by rw [← vI_of]; exact k H locs arr hP hS hl)
theorem r_lshr (C : CX κ G own cc nL Ts rm ret) {x y : Int} (d : decode cc pc = .ok (.lshr, 1)) (k : WM κ G nL Q σ (pc + 1) ls (vL (shrL x y) :: st)) : WM κ G nL Q σ pc ls (vI y :: vL x :: st) := fun H locs arr hP hS hl => lv_lshr C.x C.b d rfl (by rw [← vL_of]; exact k H locs arr hP hS hl)
theorem r_lshl (C : CX κ G own cc nL Ts rm ret) {x y : Int} (d : decode cc pc = .ok (.lshl, 1)) (k : WM κ G nL Q σ (pc + 1) ls (vL (shlL x y) :: st)) : WM κ G nL Q σ pc ls (vI y :: vL x :: st) := fun H locs arr hP hS hl => lv_lshl C.x C.b d rfl (by rw [← vL_of]; exact k H locs arr hP hS hl)
theorem r_ldcw (C : CX κ G own cc nL Ts rm ret) {index : Nat} {v : Int32} {z : Int} (d : decode cc pc = .ok (.ldc_w index, 3)) (hc : Cond.constant own index v ∈ Ts) (hz : v = Int32.ofInt z) (k : WM κ G nL Q σ (pc + 3) ls (vI z :: st)) : WM κ G nL Q σ pc ls st := fun H locs arr hP hS hl => lv_ldcw C.x C.b C.own (C.ts _ hc) d (by rw [hz]; exact k H locs arr hP hS hl)
theorem r_topI {x : Int} (k : ∀ y : Int, y = x → WM κ G nL Q σ pc ls (vI y :: st)) : WM κ G nL Q σ pc ls (vI x :: st) := k x rfl
theorem r_topL {x : Int} (k : ∀ y : Int, y = x → WM κ G nL Q σ pc ls (vL y :: st)) : WM κ G nL Q σ pc ls (vL x :: st) := k x rfl
theorem r_tsIn (C : CX κ G own cc nL Ts rm ret) {dflt lo hi off x : Int} {offs : Array Int} {len tgt : Nat} (i : Nat) (d : decode cc pc = .ok (.tableswitch dflt lo hi offs, len)) (ho : offs[i]? = some off) (hhi : i < (hi - lo + 1).toNat) (hx : x = lo + i) (hI : InI x) (ht : (pc : Int) + off = (tgt : Int)) (k : WM κ G nL Q σ tgt ls st) : WM κ G nL Q σ pc ls (vI x :: st) := by
  intro H locs arr hP hS hl
  have e : (Int32.ofInt x).toInt = x := n_toI hI
  refine lv_tableIn C.x C.b d (by rw [e]; omega) (by rw [e]; omega) (off := off) ?_ ht (k H locs arr hP hS hl)
  rw [e, show (x - lo).toNat = i by omega]
  exact ho
theorem r_tsAny (C : CX κ G own cc nL Ts rm ret) {dflt lo hi x : Int} {offs : Array Int} {len tgt j : Nat} (d : decode cc pc = .ok (.tableswitch dflt lo hi offs, len)) (ho : ∃ off : Int, offs[j]? = some off ∧ (pc : Int) + off = (tgt : Int)) (hx : x = lo + j) (hle : x ≤ hi) (hI : InI x) (k : WM κ G nL Q σ tgt ls st) : WM κ G nL Q σ pc ls (vI x :: st) := by
  intro H locs arr hP hS hl
  obtain ⟨off, ho, ht⟩ := ho
  have e : (Int32.ofInt x).toInt = x := n_toI hI
  refine lv_tableIn C.x C.b d (by rw [e]; omega) (by rw [e]; omega) (off := off) ?_ ht (k H locs arr hP hS hl)
  rw [e, show (x - lo).toNat = j by omega]
  exact ho
theorem r_pop (C : CX κ G own cc nL Ts rm ret) {v : Value} (d : decode cc pc = .ok (.pop, 1)) (hv : v.category = 1) (k : WM κ G nL Q σ (pc + 1) ls st) : WM κ G nL Q σ pc ls (v :: st) := fun H locs arr hP hS hl => lv_pop C.x C.b d hv (k H locs arr hP hS hl)
theorem r_i2c (C : CX κ G own cc nL Ts rm ret) {x : Int} (d : decode cc pc = .ok (.i2c, 1)) (k : WM κ G nL Q σ (pc + 1) ls (vI (i2cI x) :: st)) : WM κ G nL Q σ pc ls (vI x :: st) := fun H locs arr hP hS hl => lv_i2c C.x C.b d rfl (by rw [← vI_of]; exact k H locs arr hP hS hl)
theorem r_tsOut (C : CX κ G own cc nL Ts rm ret) {dflt lo hi x : Int} {offs : Array Int} {len tgt : Nat} (d : decode cc pc = .ok (.tableswitch dflt lo hi offs, len)) (hx : x < lo ∨ hi < x) (hI : InI x) (ht : (pc : Int) + dflt = (tgt : Int)) (k : WM κ G nL Q σ tgt ls st) : WM κ G nL Q σ pc ls (vI x :: st) := by
  intro H locs arr hP hS hl
  have e : (Int32.ofInt x).toInt = x := n_toI hI
  exact lv_tableOut C.x C.b d (by rw [e]; exact hx) ht (k H locs arr hP hS hl)
theorem r_idiv (C : CX κ G own cc nL Ts rm ret) {x y : Int} (d : decode cc pc = .ok (.idiv, 1)) (k : (InI x ∧ InI y ∧ ¬ y = 0) ∧ WM κ G nL Q σ (pc + 1) ls (vI (x.tdiv y) :: st)) : WM κ G nL Q σ pc ls (vI y :: vI x :: st) := by
  intro H locs arr hP hS hl
  have h := k.2 H locs arr hP hS hl
  rw [vI, ← n_divI k.1.1 k.1.2.1] at h
  refine lv_idiv C.x C.b d (fun h0 => k.1.2.2 ?_) h
  have h1 : Int32.ofInt y = Int32.ofInt 0 := h0
  rwa [n_eq k.1.2.1 ⟨by omega, by omega⟩] at h1
theorem r_irem (C : CX κ G own cc nL Ts rm ret) {x y : Int} (d : decode cc pc = .ok (.irem, 1)) (k : (InI x ∧ InI y ∧ ¬ y = 0) ∧ WM κ G nL Q σ (pc + 1) ls (vI (x.tmod y) :: st)) : WM κ G nL Q σ pc ls (vI y :: vI x :: st) := by
  intro H locs arr hP hS hl
  have h := k.2 H locs arr hP hS hl
  rw [vI, ← n_remI k.1.1 k.1.2.1] at h
  refine lv_irem C.x C.b d (fun h0 => k.1.2.2 ?_) h
  have h1 : Int32.ofInt y = Int32.ofInt 0 := h0
  rwa [n_eq k.1.2.1 ⟨by omega, by omega⟩] at h1
theorem r_ldiv (C : CX κ G own cc nL Ts rm ret) {x y : Int} (d : decode cc pc = .ok (.ldiv, 1)) (k : (InL x ∧ InL y ∧ ¬ y = 0) ∧ WM κ G nL Q σ (pc + 1) ls (vL (x.tdiv y) :: st)) : WM κ G nL Q σ pc ls (vL y :: vL x :: st) := by
  intro H locs arr hP hS hl
  have h := k.2 H locs arr hP hS hl
  rw [vL, ← n_divL k.1.1 k.1.2.1] at h
  refine lv_ldiv C.x C.b d (fun h0 => k.1.2.2 ?_) h
  have h1 : Int64.ofInt y = Int64.ofInt 0 := h0
  rwa [n_eqL k.1.2.1 ⟨by omega, by omega⟩] at h1
theorem r_lrem (C : CX κ G own cc nL Ts rm ret) {x y : Int} (d : decode cc pc = .ok (.lrem, 1)) (k : (InL x ∧ InL y ∧ ¬ y = 0) ∧ WM κ G nL Q σ (pc + 1) ls (vL (x.tmod y) :: st)) : WM κ G nL Q σ pc ls (vL y :: vL x :: st) := by
  intro H locs arr hP hS hl
  have h := k.2 H locs arr hP hS hl
  rw [vL, ← n_remL k.1.1 k.1.2.1] at h
  refine lv_lrem C.x C.b d (fun h0 => k.1.2.2 ?_) h
  have h1 : Int64.ofInt y = Int64.ofInt 0 := h0
  rwa [n_eqL k.1.2.1 ⟨by omega, by omega⟩] at h1
theorem r_ineg (C : CX κ G own cc nL Ts rm ret) {x : Int} (d : decode cc pc = .ok (.ineg, 1)) (k : WM κ G nL Q σ (pc + 1) ls (vI (-x) :: st)) : WM κ G nL Q σ pc ls (vI x :: st) := by
  intro H locs arr hP hS hl
  have h := k H locs arr hP hS hl
  rw [vI, Int32.ofInt_neg] at h
  exact lv_ineg C.x C.b d h
theorem r_i2l (C : CX κ G own cc nL Ts rm ret) {x : Int} (d : decode cc pc = .ok (.i2l, 1)) (k : InI x ∧ WM κ G nL Q σ (pc + 1) ls (vL x :: st)) : WM κ G nL Q σ pc ls (vI x :: st) := fun H locs arr hP hS hl => lv_i2l C.x C.b d (n_i2l k.1) (k.2 H locs arr hP hS hl)
theorem r_l2i (C : CX κ G own cc nL Ts rm ret) {x : Int} (d : decode cc pc = .ok (.l2i, 1)) (k : WM κ G nL Q σ (pc + 1) ls (vI x :: st)) : WM κ G nL Q σ pc ls (vL x :: st) := fun H locs arr hP hS hl => lv_l2i C.x C.b d Int64.toInt32_ofInt (k H locs arr hP hS hl)
theorem r_dup (C : CX κ G own cc nL Ts rm ret) {v : Value} (d : decode cc pc = .ok (.dup, 1)) (hv : v.category = 1) (k : WM κ G nL Q σ (pc + 1) ls (v :: v :: st)) : WM κ G nL Q σ pc ls (v :: st) := fun H locs arr hP hS hl => lv_dup C.x C.b d hv (k H locs arr hP hS hl)
theorem r_dup2 (C : CX κ G own cc nL Ts rm ret) {v w : Value} (d : decode cc pc = .ok (.dup2, 1)) (hv : v.category = 1) (hw : w.category = 1) (k : WM κ G nL Q σ (pc + 1) ls (v :: w :: v :: w :: st)) : WM κ G nL Q σ pc ls (v :: w :: st) := fun H locs arr hP hS hl => lv_dup2_11 C.x C.b d hv hw (k H locs arr hP hS hl)
theorem r_goto (C : CX κ G own cc nL Ts rm ret) {off : Int} {tgt : Nat} (d : decode cc pc = .ok (.goto off, 3)) (ht : (pc : Int) + off = (tgt : Int)) (k : WM κ G nL Q σ tgt ls st) : WM κ G nL Q σ pc ls st := fun H locs arr hP hS hl => lv_goto C.x C.b d ht (k H locs arr hP hS hl)
theorem r_perm (is : List Nat) {ls' : List (Nat × Value)} (h : lv_pick ls is = ls') (k : WM κ G nL Q σ pc ls' st) : WM κ G nL Q σ pc ls st := fun H locs arr hP hS hl => k H locs arr hP hS (lv_sub hl is h)
theorem r_icmp_eq (C : CX κ G own cc nL Ts rm ret) {x y : Int} {off : Int} {tgt : Nat} (d : decode cc pc = .ok (.if_icmp .eq off, 3)) (ht : (pc : Int) + off = (tgt : Int)) (k : (InI x ∧ InI y) ∧ (x = y → WM κ G nL Q σ tgt ls st) ∧ (¬ x = y → WM κ G nL Q σ (pc + 3) ls st)) : WM κ G nL Q σ pc ls (vI y :: vI x :: st) := by
  intro H locs arr hP hS hl
  obtain ⟨⟨hx, hy⟩, k1, k2⟩ := k
  refine lv_icmp_eq C.x C.b d ht (fun q => k1 ?_ H locs arr hP hS hl) (fun q => k2 ?_ H locs arr hP hS hl)
  all_goals
    simp only [Int32.not_lt, Int32.not_le, n_lt hx hy, n_lt hy hx, n_le hx hy, n_le hy hx, n_eq hx hy] at q
    omega
theorem r_if_eq (C : CX κ G own cc nL Ts rm ret) {x : Int} {off : Int} {tgt : Nat} (d : decode cc pc = .ok (.ifCond .eq off, 3)) (ht : (pc : Int) + off = (tgt : Int)) (k : InI x ∧ (x = 0 → WM κ G nL Q σ tgt ls st) ∧ (¬ x = 0 → WM κ G nL Q σ (pc + 3) ls st)) : WM κ G nL Q σ pc ls (vI x :: st) := by
  intro H locs arr hP hS hl
  obtain ⟨hx, k1, k2⟩ := k
  have hy : InI 0 := ⟨by omega, by omega⟩
  refine lv_if_eq C.x C.b d ht (fun q => k1 ?_ H locs arr hP hS hl) (fun q => k2 ?_ H locs arr hP hS hl)
  all_goals
    rw [← n_0] at q
    simp only [Int32.not_lt, Int32.not_le, n_lt hx hy, n_lt hy hx, n_le hx hy, n_le hy hx, n_eq hx hy] at q
    omega
theorem r_icmp_ne (C : CX κ G own cc nL Ts rm ret) {x y : Int} {off : Int} {tgt : Nat} (d : decode cc pc = .ok (.if_icmp .ne off, 3)) (ht : (pc : Int) + off = (tgt : Int)) (k : (InI x ∧ InI y) ∧ (¬ x = y → WM κ G nL Q σ tgt ls st) ∧ (x = y → WM κ G nL Q σ (pc + 3) ls st)) : WM κ G nL Q σ pc ls (vI y :: vI x :: st) := by
  intro H locs arr hP hS hl
  obtain ⟨⟨hx, hy⟩, k1, k2⟩ := k
  refine lv_icmp_ne C.x C.b d ht (fun q => k1 ?_ H locs arr hP hS hl) (fun q => k2 ?_ H locs arr hP hS hl)
  all_goals
    simp only [Int32.not_lt, Int32.not_le, n_lt hx hy, n_lt hy hx, n_le hx hy, n_le hy hx, n_eq hx hy] at q
    omega
theorem r_if_ne (C : CX κ G own cc nL Ts rm ret) {x : Int} {off : Int} {tgt : Nat} (d : decode cc pc = .ok (.ifCond .ne off, 3)) (ht : (pc : Int) + off = (tgt : Int)) (k : InI x ∧ (¬ x = 0 → WM κ G nL Q σ tgt ls st) ∧ (x = 0 → WM κ G nL Q σ (pc + 3) ls st)) : WM κ G nL Q σ pc ls (vI x :: st) := by
  intro H locs arr hP hS hl
  obtain ⟨hx, k1, k2⟩ := k
  have hy : InI 0 := ⟨by omega, by omega⟩
  refine lv_if_ne C.x C.b d ht (fun q => k1 ?_ H locs arr hP hS hl) (fun q => k2 ?_ H locs arr hP hS hl)
  all_goals
    rw [← n_0] at q
    simp only [Int32.not_lt, Int32.not_le, n_lt hx hy, n_lt hy hx, n_le hx hy, n_le hy hx, n_eq hx hy] at q
    omega
theorem r_icmp_lt (C : CX κ G own cc nL Ts rm ret) {x y : Int} {off : Int} {tgt : Nat} (d : decode cc pc = .ok (.if_icmp .lt off, 3)) (ht : (pc : Int) + off = (tgt : Int)) (k : (InI x ∧ InI y) ∧ (x < y → WM κ G nL Q σ tgt ls st) ∧ (y ≤ x → WM κ G nL Q σ (pc + 3) ls st)) : WM κ G nL Q σ pc ls (vI y :: vI x :: st) := by
  intro H locs arr hP hS hl
  obtain ⟨⟨hx, hy⟩, k1, k2⟩ := k
  refine lv_icmp_lt C.x C.b d ht (fun q => k1 ?_ H locs arr hP hS hl) (fun q => k2 ?_ H locs arr hP hS hl)
  all_goals
    simp only [Int32.not_lt, Int32.not_le, n_lt hx hy, n_lt hy hx, n_le hx hy, n_le hy hx, n_eq hx hy] at q
    omega
theorem r_if_lt (C : CX κ G own cc nL Ts rm ret) {x : Int} {off : Int} {tgt : Nat} (d : decode cc pc = .ok (.ifCond .lt off, 3)) (ht : (pc : Int) + off = (tgt : Int)) (k : InI x ∧ (x < 0 → WM κ G nL Q σ tgt ls st) ∧ (0 ≤ x → WM κ G nL Q σ (pc + 3) ls st)) : WM κ G nL Q σ pc ls (vI x :: st) := by
  intro H locs arr hP hS hl
  obtain ⟨hx, k1, k2⟩ := k
  have hy : InI 0 := ⟨by omega, by omega⟩
  refine lv_if_lt C.x C.b d ht (fun q => k1 ?_ H locs arr hP hS hl) (fun q => k2 ?_ H locs arr hP hS hl)
  all_goals
    rw [← n_0] at q
    simp only [Int32.not_lt, Int32.not_le, n_lt hx hy, n_lt hy hx, n_le hx hy, n_le hy hx, n_eq hx hy] at q
    omega
theorem r_icmp_ge (C : CX κ G own cc nL Ts rm ret) {x y : Int} {off : Int} {tgt : Nat} (d : decode cc pc = .ok (.if_icmp .ge off, 3)) (ht : (pc : Int) + off = (tgt : Int)) (k : (InI x ∧ InI y) ∧ (y ≤ x → WM κ G nL Q σ tgt ls st) ∧ (x < y → WM κ G nL Q σ (pc + 3) ls st)) : WM κ G nL Q σ pc ls (vI y :: vI x :: st) := by
  intro H locs arr hP hS hl
  obtain ⟨⟨hx, hy⟩, k1, k2⟩ := k
  refine lv_icmp_ge C.x C.b d ht (fun q => k1 ?_ H locs arr hP hS hl) (fun q => k2 ?_ H locs arr hP hS hl)
  all_goals
    simp only [Int32.not_lt, Int32.not_le, n_lt hx hy, n_lt hy hx, n_le hx hy, n_le hy hx, n_eq hx hy] at q
    omega
theorem r_if_ge (C : CX κ G own cc nL Ts rm ret) {x : Int} {off : Int} {tgt : Nat} (d : decode cc pc = .ok (.ifCond .ge off, 3)) (ht : (pc : Int) + off = (tgt : Int)) (k : InI x ∧ (0 ≤ x → WM κ G nL Q σ tgt ls st) ∧ (x < 0 → WM κ G nL Q σ (pc + 3) ls st)) : WM κ G nL Q σ pc ls (vI x :: st) := by
  intro H locs arr hP hS hl
  obtain ⟨hx, k1, k2⟩ := k
  have hy : InI 0 := ⟨by omega, by omega⟩
  refine lv_if_ge C.x C.b d ht (fun q => k1 ?_ H locs arr hP hS hl) (fun q => k2 ?_ H locs arr hP hS hl)
  all_goals
    rw [← n_0] at q
    simp only [Int32.not_lt, Int32.not_le, n_lt hx hy, n_lt hy hx, n_le hx hy, n_le hy hx, n_eq hx hy] at q
    omega
theorem r_icmp_gt (C : CX κ G own cc nL Ts rm ret) {x y : Int} {off : Int} {tgt : Nat} (d : decode cc pc = .ok (.if_icmp .gt off, 3)) (ht : (pc : Int) + off = (tgt : Int)) (k : (InI x ∧ InI y) ∧ (y < x → WM κ G nL Q σ tgt ls st) ∧ (x ≤ y → WM κ G nL Q σ (pc + 3) ls st)) : WM κ G nL Q σ pc ls (vI y :: vI x :: st) := by
  intro H locs arr hP hS hl
  obtain ⟨⟨hx, hy⟩, k1, k2⟩ := k
  refine lv_icmp_gt C.x C.b d ht (fun q => k1 ?_ H locs arr hP hS hl) (fun q => k2 ?_ H locs arr hP hS hl)
  all_goals
    simp only [Int32.not_lt, Int32.not_le, n_lt hx hy, n_lt hy hx, n_le hx hy, n_le hy hx, n_eq hx hy] at q
    omega
theorem r_if_gt (C : CX κ G own cc nL Ts rm ret) {x : Int} {off : Int} {tgt : Nat} (d : decode cc pc = .ok (.ifCond .gt off, 3)) (ht : (pc : Int) + off = (tgt : Int)) (k : InI x ∧ (0 < x → WM κ G nL Q σ tgt ls st) ∧ (x ≤ 0 → WM κ G nL Q σ (pc + 3) ls st)) : WM κ G nL Q σ pc ls (vI x :: st) := by
  intro H locs arr hP hS hl
  obtain ⟨hx, k1, k2⟩ := k
  have hy : InI 0 := ⟨by omega, by omega⟩
  refine lv_if_gt C.x C.b d ht (fun q => k1 ?_ H locs arr hP hS hl) (fun q => k2 ?_ H locs arr hP hS hl)
  all_goals
    rw [← n_0] at q
    simp only [Int32.not_lt, Int32.not_le, n_lt hx hy, n_lt hy hx, n_le hx hy, n_le hy hx, n_eq hx hy] at q
    omega
theorem r_icmp_le (C : CX κ G own cc nL Ts rm ret) {x y : Int} {off : Int} {tgt : Nat} (d : decode cc pc = .ok (.if_icmp .le off, 3)) (ht : (pc : Int) + off = (tgt : Int)) (k : (InI x ∧ InI y) ∧ (x ≤ y → WM κ G nL Q σ tgt ls st) ∧ (y < x → WM κ G nL Q σ (pc + 3) ls st)) : WM κ G nL Q σ pc ls (vI y :: vI x :: st) := by
  intro H locs arr hP hS hl
  obtain ⟨⟨hx, hy⟩, k1, k2⟩ := k
  refine lv_icmp_le C.x C.b d ht (fun q => k1 ?_ H locs arr hP hS hl) (fun q => k2 ?_ H locs arr hP hS hl)
  all_goals
    simp only [Int32.not_lt, Int32.not_le, n_lt hx hy, n_lt hy hx, n_le hx hy, n_le hy hx, n_eq hx hy] at q
    omega
theorem r_if_le (C : CX κ G own cc nL Ts rm ret) {x : Int} {off : Int} {tgt : Nat} (d : decode cc pc = .ok (.ifCond .le off, 3)) (ht : (pc : Int) + off = (tgt : Int)) (k : InI x ∧ (x ≤ 0 → WM κ G nL Q σ tgt ls st) ∧ (0 < x → WM κ G nL Q σ (pc + 3) ls st)) : WM κ G nL Q σ pc ls (vI x :: st) := by
  intro H locs arr hP hS hl
  obtain ⟨hx, k1, k2⟩ := k
  have hy : InI 0 := ⟨by omega, by omega⟩
  refine lv_if_le C.x C.b d ht (fun q => k1 ?_ H locs arr hP hS hl) (fun q => k2 ?_ H locs arr hP hS hl)
  all_goals
    rw [← n_0] at q
    simp only [Int32.not_lt, Int32.not_le, n_lt hx hy, n_lt hy hx, n_le hx hy, n_le hy hx, n_eq hx hy] at q
    omega
def cmpL (x y : Int) : Int := if x < y then -1 else if x = y then 0 else 1
theorem cmpL_of {x y : Int} (hx : InL x) (hy : InL y) : lg_cmp (Int64.ofInt x) (Int64.ofInt y) = Int32.ofInt (cmpL x y) := by
  unfold lg_cmp cmpL
  simp only [n_ltL hx hy, n_ltL hy hx, n_eqL hx hy, n_leL hx hy, n_leL hy hx, gt_iff_lt]
  by_cases h1 : x < y
  · simp [h1, show ¬ y < x by omega, show ¬ x = y by omega, show ¬ y ≤ x by omega]
  · by_cases h2 : x = y
    · simp [h2]
    · simp [h1, h2, show y < x by omega, show ¬ x ≤ y by omega]
theorem r_lcmp (C : CX κ G own cc nL Ts rm ret) {x y : Int} (d : decode cc pc = .ok (.lcmp, 1)) (k : (InL x ∧ InL y) ∧ WM κ G nL Q σ (pc + 1) ls (vI (cmpL x y) :: st)) : WM κ G nL Q σ pc ls (vL y :: vL x :: st) := by
  intro H locs arr hP hS hl
  have h := k.2 H locs arr hP hS hl
  rw [vI, ← cmpL_of k.1.1 k.1.2] at h
  exact W.lcmp C.x C.b d h
theorem r_lcmp_eq (C : CX κ G own cc nL Ts rm ret) {x y : Int} {off : Int} {tgt : Nat} (d1 : decode cc pc = .ok (.lcmp, 1)) (d : decode cc (pc + 1) = .ok (.ifCond .eq off, 3)) (ht : ((pc + 1 : Nat) : Int) + off = (tgt : Int)) (k : (InL x ∧ InL y) ∧ (x = y → WM κ G nL Q σ tgt ls st) ∧ (¬ x = y → WM κ G nL Q σ (pc + 1 + 3) ls st)) : WM κ G nL Q σ pc ls (vL y :: vL x :: st) := by
  obtain ⟨h, k1, k2⟩ := k
  refine r_lcmp C d1 ⟨h, r_if_eq C d ht ⟨?_, fun q => k1 ?_, fun q => k2 ?_⟩⟩
  · unfold cmpL
    constructor <;> (repeat' split) <;> omega
  all_goals
    unfold cmpL at q
    by_cases h1 : x < y
    · simp [h1] at q <;> omega
    · by_cases h2 : x = y
      · simp [h2] at q <;> omega
      · simp [h1, h2] at q <;> omega
theorem r_lcmp_ne (C : CX κ G own cc nL Ts rm ret) {x y : Int} {off : Int} {tgt : Nat} (d1 : decode cc pc = .ok (.lcmp, 1)) (d : decode cc (pc + 1) = .ok (.ifCond .ne off, 3)) (ht : ((pc + 1 : Nat) : Int) + off = (tgt : Int)) (k : (InL x ∧ InL y) ∧ (¬ x = y → WM κ G nL Q σ tgt ls st) ∧ (x = y → WM κ G nL Q σ (pc + 1 + 3) ls st)) : WM κ G nL Q σ pc ls (vL y :: vL x :: st) := by
  obtain ⟨h, k1, k2⟩ := k
  refine r_lcmp C d1 ⟨h, r_if_ne C d ht ⟨?_, fun q => k1 ?_, fun q => k2 ?_⟩⟩
  · unfold cmpL
    constructor <;> (repeat' split) <;> omega
  all_goals
    unfold cmpL at q
    by_cases h1 : x < y
    · simp [h1] at q <;> omega
    · by_cases h2 : x = y
      · simp [h2] at q <;> omega
      · simp [h1, h2] at q <;> omega
theorem r_lcmp_lt (C : CX κ G own cc nL Ts rm ret) {x y : Int} {off : Int} {tgt : Nat} (d1 : decode cc pc = .ok (.lcmp, 1)) (d : decode cc (pc + 1) = .ok (.ifCond .lt off, 3)) (ht : ((pc + 1 : Nat) : Int) + off = (tgt : Int)) (k : (InL x ∧ InL y) ∧ (x < y → WM κ G nL Q σ tgt ls st) ∧ (y ≤ x → WM κ G nL Q σ (pc + 1 + 3) ls st)) : WM κ G nL Q σ pc ls (vL y :: vL x :: st) := by
  obtain ⟨h, k1, k2⟩ := k
  refine r_lcmp C d1 ⟨h, r_if_lt C d ht ⟨?_, fun q => k1 ?_, fun q => k2 ?_⟩⟩
  · unfold cmpL
    constructor <;> (repeat' split) <;> omega
  all_goals
    unfold cmpL at q
    by_cases h1 : x < y
    · simp [h1] at q <;> omega
    · by_cases h2 : x = y
      · simp [h2] at q <;> omega
      · simp [h1, h2] at q <;> omega
theorem r_lcmp_ge (C : CX κ G own cc nL Ts rm ret) {x y : Int} {off : Int} {tgt : Nat} (d1 : decode cc pc = .ok (.lcmp, 1)) (d : decode cc (pc + 1) = .ok (.ifCond .ge off, 3)) (ht : ((pc + 1 : Nat) : Int) + off = (tgt : Int)) (k : (InL x ∧ InL y) ∧ (y ≤ x → WM κ G nL Q σ tgt ls st) ∧ (x < y → WM κ G nL Q σ (pc + 1 + 3) ls st)) : WM κ G nL Q σ pc ls (vL y :: vL x :: st) := by
  obtain ⟨h, k1, k2⟩ := k
  refine r_lcmp C d1 ⟨h, r_if_ge C d ht ⟨?_, fun q => k1 ?_, fun q => k2 ?_⟩⟩
  · unfold cmpL
    constructor <;> (repeat' split) <;> omega
  all_goals
    unfold cmpL at q
    by_cases h1 : x < y
    · simp [h1] at q <;> omega
    · by_cases h2 : x = y
      · simp [h2] at q <;> omega
      · simp [h1, h2] at q <;> omega
theorem r_lcmp_gt (C : CX κ G own cc nL Ts rm ret) {x y : Int} {off : Int} {tgt : Nat} (d1 : decode cc pc = .ok (.lcmp, 1)) (d : decode cc (pc + 1) = .ok (.ifCond .gt off, 3)) (ht : ((pc + 1 : Nat) : Int) + off = (tgt : Int)) (k : (InL x ∧ InL y) ∧ (y < x → WM κ G nL Q σ tgt ls st) ∧ (x ≤ y → WM κ G nL Q σ (pc + 1 + 3) ls st)) : WM κ G nL Q σ pc ls (vL y :: vL x :: st) := by
  obtain ⟨h, k1, k2⟩ := k
  refine r_lcmp C d1 ⟨h, r_if_gt C d ht ⟨?_, fun q => k1 ?_, fun q => k2 ?_⟩⟩
  · unfold cmpL
    constructor <;> (repeat' split) <;> omega
  all_goals
    unfold cmpL at q
    by_cases h1 : x < y
    · simp [h1] at q <;> omega
    · by_cases h2 : x = y
      · simp [h2] at q <;> omega
      · simp [h1, h2] at q <;> omega
theorem r_lcmp_le (C : CX κ G own cc nL Ts rm ret) {x y : Int} {off : Int} {tgt : Nat} (d1 : decode cc pc = .ok (.lcmp, 1)) (d : decode cc (pc + 1) = .ok (.ifCond .le off, 3)) (ht : ((pc + 1 : Nat) : Int) + off = (tgt : Int)) (k : (InL x ∧ InL y) ∧ (x ≤ y → WM κ G nL Q σ tgt ls st) ∧ (y < x → WM κ G nL Q σ (pc + 1 + 3) ls st)) : WM κ G nL Q σ pc ls (vL y :: vL x :: st) := by
  obtain ⟨h, k1, k2⟩ := k
  refine r_lcmp C d1 ⟨h, r_if_le C d ht ⟨?_, fun q => k1 ?_, fun q => k2 ?_⟩⟩
  · unfold cmpL
    constructor <;> (repeat' split) <;> omega
  all_goals
    unfold cmpL at q
    by_cases h1 : x < y
    · simp [h1] at q <;> omega
    · by_cases h2 : x = y
      · simp [h2] at q <;> omega
      · simp [h1, h2] at q <;> omega
end ROWS
section ROWS2
variable {κ : KT} {G : GT} {own : String} {cc : ByteArray} {nL : Nat} {Ts : List Cond} {rm : Room} {ret : Option FieldType} {Q : State → Prop} {σ : Mem} {pc : Nat} {ls : List (Nat × Value)} {st : List Value}
/-! cells of the world by their places -/
theorem m_at_o {G : GT} {o ci : Nat} {fks : List Nat} (σ : Mem) (hs : G.1[o]? = some (.inl (ci, fks))) : (m_cells G σ)[o]? = some (G.2.1 o, .inr (ci, m_fvs G.2.1 (σ o) 0 fks)) := by
  have h := m_cel_get G.2.1 G.2.2.1 σ G.1 0 o _ hs
  rw [Nat.zero_add] at h
  exact h
theorem m_at_a {G : GT} {a n : Nat} (σ : Mem) (kd : Nat) (hs : G.1[a]? = some (.inr (kd, n))) : (m_cells G σ)[a]? = some (G.2.1 a, m_E G.2.1 G.2.2.1 (σ a) (.inr (kd, n))) := by
  have h := m_cel_get G.2.1 G.2.2.1 σ G.1 0 a _ hs
  rw [Nat.zero_add] at h
  exact h
theorem m_set {G : GT} {o : Nat} {x : (Nat × List Nat) ⊕ (Nat × Nat)} (σ : Mem) (f : Int → Int) (hs : G.1[o]? = some x) : (m_cells G σ).set o (G.2.1 o, m_E G.2.1 G.2.2.1 f x) = m_cells G (fun b => if b = o then f else σ b) := by
  have h := m_cel_set G.2.1 G.2.2.1 f G.1 0 o _ σ hs
  rw [Nat.zero_add] at h
  exact h
theorem m_set_o {G : GT} {o ci j : Nat} {fks : List Nat} {fk : Nat} (σ : Mem) (v : Int) (hs : G.1[o]? = some (.inl (ci, fks))) (hfk : fks[j]? = some fk) : (m_cells G σ).set o (G.2.1 o, .inr (ci, (m_fvs G.2.1 (σ o) 0 fks).set j (m_fk G.2.1 fk v))) = m_cells G (m_upd σ o (j : Int) v) := by
  rw [m_fvs_set G.2.1 v fks 0 j fk (σ o) hfk, Nat.zero_add]
  exact m_set σ (fun i => if i = (j : Int) then v else σ o i) hs
theorem m_updI (f : Int → Int) (i v : Int) (h : 0 ≤ i) : upd (fun j : Nat => Int32.ofInt (f (j : Int))) i.toNat (Int32.ofInt v) = fun j : Nat => Int32.ofInt (if (j : Int) = i then v else f (j : Int)) := by
  funext j
  unfold upd
  by_cases hj : j = i.toNat
  · rw [if_pos hj, if_pos (show (j : Int) = i by omega)]
  · rw [if_neg hj, if_neg (show ¬ (j : Int) = i by omega)]
theorem m_updL (f : Int → Int) (i v : Int) (h : 0 ≤ i) : vp_updL (fun j : Nat => Int64.ofInt (f (j : Int))) i.toNat (Int64.ofInt v) = fun j : Nat => Int64.ofInt (if (j : Int) = i then v else f (j : Int)) := by
  funext j
  unfold vp_updL
  by_cases hj : j = i.toNat
  · rw [if_pos hj, if_pos (show (j : Int) = i by omega)]
  · rw [if_neg hj, if_neg (show ¬ (j : Int) = i by omega)]
theorem r_iald (C : CX κ G own cc nL Ts rm ret) {a n : Nat} {i nz : Int} (d : decode cc pc = .ok (.iaload, 1)) (hs : G.1[a]? = some (.inr (0, n))) (hn : (n : Int) = nz) (hb : n < 2147483648) (k : (0 ≤ i ∧ i < nz) ∧ WM κ G nL Q σ (pc + 1) ls (vI (σ a i) :: st)) : WM κ G nL Q σ pc ls (vI i :: .ref (G.2.1 a) :: st) := by
  intro H locs arr hP hS hl
  obtain ⟨h1, h2, h3, h4⟩ := n_in hn hb k.1
  have h := k.2 H locs arr hP hS hl
  refine va_iald C.x C.b C.K hP a 0 (m_at_a σ 0 hs) rfl h1 d ?_
  show WK κ H locs Q _
  rw [h2, h4]
  exact h
theorem r_iast (C : CX κ G own cc nL Ts rm ret) {a n : Nat} {i nz x : Int} (d : decode cc pc = .ok (.iastore, 1)) (hs : G.1[a]? = some (.inr (0, n))) (hn : (n : Int) = nz) (hb : n < 2147483648) (k : (0 ≤ i ∧ i < nz) ∧ ∀ σ' : Mem, σ' = m_upd σ a i x → WM κ G nL Q σ' (pc + 1) ls st) : WM κ G nL Q σ pc ls (vI x :: vI i :: .ref (G.2.1 a) :: st) := by
  intro H locs arr hP hS hl
  obtain ⟨h1, h2, h3, h4⟩ := n_in hn hb k.1
  refine va_iast C.x C.b C.K hP (C.D σ) hS a 0 (m_at_a σ 0 hs) rfl h1 d (fun H1 locs1 hP1 hD1 hS1 => k.2 _ rfl H1 locs1 arr ?_ hS1 hl)
  have e : ∀ (ws : va_W), va_P G.2.2.2 vwCl ws H1 → ws = m_cells G (m_upd σ a i x) → va_P G.2.2.2 vwCl (m_cells G (m_upd σ a i x)) H1 := fun ws h1 h2 => h2 ▸ h1
  refine e _ hP1 ?_
  · rw [h2]
    rw [m_updI (σ a) i x (by omega)]
    exact m_set σ (fun j => if j = i then x else σ a j) hs
theorem r_lald (C : CX κ G own cc nL Ts rm ret) {a n : Nat} {i nz : Int} (d : decode cc pc = .ok (.laload, 1)) (hs : G.1[a]? = some (.inr (1, n))) (hn : (n : Int) = nz) (hb : n < 2147483648) (k : (0 ≤ i ∧ i < nz) ∧ WM κ G nL Q σ (pc + 1) ls (vL (σ a i) :: st)) : WM κ G nL Q σ pc ls (vI i :: .ref (G.2.1 a) :: st) := by
  intro H locs arr hP hS hl
  obtain ⟨h1, h2, h3, h4⟩ := n_in hn hb k.1
  have h := k.2 H locs arr hP hS hl
  refine va_lald C.x C.b C.K hP a 1 (m_at_a σ 1 hs) rfl h1 d ?_
  show WK κ H locs Q _
  rw [h2, h4]
  exact h
theorem r_last (C : CX κ G own cc nL Ts rm ret) {a n : Nat} {i nz x : Int} (d : decode cc pc = .ok (.lastore, 1)) (hs : G.1[a]? = some (.inr (1, n))) (hn : (n : Int) = nz) (hb : n < 2147483648) (k : (0 ≤ i ∧ i < nz) ∧ ∀ σ' : Mem, σ' = m_upd σ a i x → WM κ G nL Q σ' (pc + 1) ls st) : WM κ G nL Q σ pc ls (vL x :: vI i :: .ref (G.2.1 a) :: st) := by
  intro H locs arr hP hS hl
  obtain ⟨h1, h2, h3, h4⟩ := n_in hn hb k.1
  refine va_last C.x C.b C.K hP (C.D σ) hS a 1 (m_at_a σ 1 hs) rfl h1 d (fun H1 locs1 hP1 hD1 hS1 => k.2 _ rfl H1 locs1 arr ?_ hS1 hl)
  have e : ∀ (ws : va_W), va_P G.2.2.2 vwCl ws H1 → ws = m_cells G (m_upd σ a i x) → va_P G.2.2.2 vwCl (m_cells G (m_upd σ a i x)) H1 := fun ws h1 h2 => h2 ▸ h1
  refine e _ hP1 ?_
  · rw [h2]
    rw [m_updL (σ a) i x (by omega)]
    exact m_set σ (fun j => if j = i then x else σ a j) hs
theorem r_aaload (C : CX κ G own cc nL Ts rm ret) {a b n : Nat} {i nz : Int} (d : decode cc pc = .ok (.aaload, 1)) (hs : G.1[a]? = some (.inr (b + 3, n))) (hn : (n : Int) = nz) (hb : n < 2147483648) (k : (0 ≤ i ∧ i < nz) ∧ WM κ G nL Q σ (pc + 1) ls (.ref (G.2.1 (b + i.toNat)) :: st)) : WM κ G nL Q σ pc ls (vI i :: .ref (G.2.1 a) :: st) := by
  intro H locs arr hP hS hl
  obtain ⟨h1, h2, h3, h4⟩ := n_in hn hb k.1
  have h := k.2 H locs arr hP hS hl
  have hlt : (Int32.ofInt i).toNatClampNeg < n := by rw [h2]; exact h3
  have hc := hP a _ (m_at_a σ (b + 3) hs)
  refine W.aald (v := .ref (G.2.1 (b + i.toNat))) (ty := .array .int) C.x C.b hc ((C.K.2 3 _ rfl).1 n (fun j => va_rf (some (G.2.1 (b + j))))) rfl (fun q => by cases q) (by show ¬ (Int32.ofInt i < 0 ∨ (arrV _ _ _).slots.size ≤ _); rw [arrV_size]; exact h1) (by show (arrV _ _ _).slots[_]? = _; rw [arrV_read _ _ hlt, h2]; rfl) rfl rfl d h
theorem r_get (C : CX κ G own cc nL Ts rm ret) {o ci j fk : Nat} {fks : List Nat} {Cn ref : String} {T : u_T} {N index : Nat} {jz : Int} {v : Value} (d : decode cc pc = .ok (.getfield index, 3)) (hs : G.1[o]? = some (.inl (ci, fks))) (hfk : fks[j]? = some fk) (hc : vwCl[ci]? = some (Cn, T, N)) (hj : j < N) (hin : ∀ w ∈ u_ws Cn T N, w ∈ Ts) (hlink : Cond.fieldLink own index ref (T j).2.1 (T j).2.2.1 ∈ Ts) (href : (T j).1 = ref) (hz : (j : Int) = jz) (hv : m_fk G.2.1 fk (σ o jz) = v) (k : WM κ G nL Q σ (pc + 3) ls (v :: st)) : WM κ G nL Q σ pc ls (.ref (G.2.1 o) :: st) := by
  intro H locs arr hP hS hl
  subst hv
  subst hz
  subst href
  refine va_get C.x C.b C.ts hin C.own C.K hP o (m_at_o σ hs) hc j hj (C.ts _ hlink) (fun _ h9 => h9) (v := m_fk G.2.1 fk (σ o (j : Int))) ?_ d (k H locs arr hP hS hl)
  rw [m_fvs_get G.2.1 (σ o) fks 0 j fk hfk, Nat.zero_add]
theorem r_puti (C : CX κ G own cc nL Ts rm ret) {o ci j : Nat} {fks : List Nat} {Cn ref : String} {T : u_T} {N index : Nat} {jz x : Int} (d : decode cc pc = .ok (.putfield index, 3)) (hs : G.1[o]? = some (.inl (ci, fks))) (hfk : fks[j]? = some 0) (hc : vwCl[ci]? = some (Cn, T, N)) (hj : j < N) (hin : ∀ w ∈ u_ws Cn T N, w ∈ Ts) (ty0 : Nat → FieldType) (hty : ∀ k, k < N → parseFieldDescriptor (T k).2.2.1 = some (ty0 k)) (hnm : ∀ a, a < N → ∀ b, b < N → a ≠ b → (T a).2.1 ≠ (T b).2.1) (hlink : Cond.fieldLink own index ref (T j).2.1 (T j).2.2.1 ∈ Ts) (href : (T j).1 = ref) (hfin : (T j).2.2.2 = false) (hd : parseFieldDescriptor (T j).2.2.1 = some .int) (hz : (j : Int) = jz) (k : ∀ σ' : Mem, σ' = m_upd σ o jz x → WM κ G nL Q σ' (pc + 3) ls st) : WM κ G nL Q σ pc ls (vI x :: .ref (G.2.1 o) :: st) := by
  intro H locs arr hP hS hl
  subst hz
  subst href
  refine va_put C.x C.b C.ts hin ty0 hty hnm C.own C.K hP (C.D σ) hS o (m_at_o σ hs) hc j hj (C.ts _ hlink) (fun _ h9 => h9) hfin hd rfl rfl ?_ d (fun H1 locs1 hP1 hD1 hS1 => k _ rfl H1 locs1 arr ?_ hS1 hl)
  · rw [m_fvs_len]
    exact (List.getElem?_eq_some_iff.mp hfk).1
  · have e := m_set_o σ x hs hfk
    have e2 : m_fk G.2.1 0 x = vI x := rfl
    rw [e2] at e
    rw [← e]
    exact hP1
theorem r_putl (C : CX κ G own cc nL Ts rm ret) {o ci j : Nat} {fks : List Nat} {Cn ref : String} {T : u_T} {N index : Nat} {jz x : Int} (d : decode cc pc = .ok (.putfield index, 3)) (hs : G.1[o]? = some (.inl (ci, fks))) (hfk : fks[j]? = some 1) (hc : vwCl[ci]? = some (Cn, T, N)) (hj : j < N) (hin : ∀ w ∈ u_ws Cn T N, w ∈ Ts) (ty0 : Nat → FieldType) (hty : ∀ k, k < N → parseFieldDescriptor (T k).2.2.1 = some (ty0 k)) (hnm : ∀ a, a < N → ∀ b, b < N → a ≠ b → (T a).2.1 ≠ (T b).2.1) (hlink : Cond.fieldLink own index ref (T j).2.1 (T j).2.2.1 ∈ Ts) (href : (T j).1 = ref) (hfin : (T j).2.2.2 = false) (hd : parseFieldDescriptor (T j).2.2.1 = some .long) (hz : (j : Int) = jz) (k : ∀ σ' : Mem, σ' = m_upd σ o jz x → WM κ G nL Q σ' (pc + 3) ls st) : WM κ G nL Q σ pc ls (vL x :: .ref (G.2.1 o) :: st) := by
  intro H locs arr hP hS hl
  subst hz
  subst href
  refine va_put C.x C.b C.ts hin ty0 hty hnm C.own C.K hP (C.D σ) hS o (m_at_o σ hs) hc j hj (C.ts _ hlink) (fun _ h9 => h9) hfin hd rfl rfl ?_ d (fun H1 locs1 hP1 hD1 hS1 => k _ rfl H1 locs1 arr ?_ hS1 hl)
  · rw [m_fvs_len]
    exact (List.getElem?_eq_some_iff.mp hfk).1
  · have e := m_set_o σ x hs hfk
    have e2 : m_fk G.2.1 1 x = vL x := rfl
    rw [e2] at e
    rw [← e]
    exact hP1
/-- what a method's end must show -/
def m_Q (oc : Int → Option Value) (Pst : Int → Mem → Prop) (G : GT) (A : Nat → Prop) : Array Value → State → Outcome → State → Prop := fun _ st o t => (∃ (r : Int) (σ' : Mem), o = .returned (oc r) ∧ Pst r σ' ∧ va_P G.2.2.2 vwCl (m_cells G σ') t.heap) ∧ va_F A st t
def RT (κ : KT) (G : GT) (oc : Int → Option Value) (Q : State → Prop) (r : Int) (σ : Mem) : Prop := ∃ Pst : Int → Mem → Prop, Q = MQ κ.2.1.2.2.1 (m_Q oc Pst G κ.2.2) κ.2.1.2.1 κ.1.2.2.2.2 0 0 κ.2.2 ∧ Pst r σ
def ocI : Int → Option Value := fun r => some (vI r)
def ocL : Int → Option Value := fun r => some (vL r)
def ocV : Int → Option Value := fun _ => none
def ocR (ad : Nat → Nat) : Int → Option Value := fun r => some (.ref (ad r.toNat))
theorem r_ireturn (C : CX κ G own cc nL Ts rm (some .int)) {x : Int} (d : decode cc pc = .ok (.ireturn, 1)) (h : RT κ G ocI Q x σ) : WM κ G nL Q σ pc ls [vI x] := by
  intro H locs arr hP hS hl
  obtain ⟨Pst, hQ, hp⟩ := h
  subst hQ
  exact W.iret C.x C.b C.rt (fun t ht hW => ⟨⟨x, σ, rfl, hp, by rw [ht]; exact hP⟩, hS.F ht⟩) hS.2.2 d C.lk
theorem r_zreturn (C : CX κ G own cc nL Ts rm (some .boolean)) {x : Int} (d : decode cc pc = .ok (.ireturn, 1)) (h : (0 ≤ x ∧ x ≤ 1) ∧ RT κ G ocI Q x σ) : WM κ G nL Q σ pc ls [vI x] := by
  intro H locs arr hP hS hl
  obtain ⟨hx, Pst, hQ, hp⟩ := h
  subst hQ
  refine W.zret C.x C.b C.rt ?_ (fun t ht hW => ⟨⟨x, σ, rfl, hp, by rw [ht]; exact hP⟩, hS.F ht⟩) hS.2.2 d C.lk
  rcases (show x = 0 ∨ x = 1 by omega) with e | e <;> subst e <;> rfl
theorem r_lreturn (C : CX κ G own cc nL Ts rm (some .long)) {x : Int} (d : decode cc pc = .ok (.lreturn, 1)) (h : RT κ G ocL Q x σ) : WM κ G nL Q σ pc ls [vL x] := by
  intro H locs arr hP hS hl
  obtain ⟨Pst, hQ, hp⟩ := h
  subst hQ
  exact W.lret C.x C.b C.rt (fun t ht hW => ⟨⟨x, σ, rfl, hp, by rw [ht]; exact hP⟩, hS.F ht⟩) hS.2.2 d C.lk
theorem r_return (C : CX κ G own cc nL Ts rm none) (d : decode cc pc = .ok (.return_, 1)) (h : RT κ G ocV Q 0 σ) : WM κ G nL Q σ pc ls [] := by
  intro H locs arr hP hS hl
  obtain ⟨Pst, hQ, hp⟩ := h
  subst hQ
  exact W.vret C.x C.b C.rt (fun t ht hW => ⟨⟨0, σ, rfl, hp, by rw [ht]; exact hP⟩, hS.F ht⟩) hS.2.2 d C.lk
theorem r_areturn {rt : FieldType} (C : CX κ G own cc nL Ts rm (some rt)) {a : Nat} {r : Int} (d : decode cc pc = .ok (.areturn, 1)) (hrt : (∃ n, rt = .object n) ∨ ∃ t, rt = .array t) (hr : r.toNat = a) (h : RT κ G (ocR G.2.1) Q r σ) : WM κ G nL Q σ pc ls [.ref (G.2.1 a)] := by
  intro H locs arr hP hS hl
  obtain ⟨Pst, hQ, hp⟩ := h
  subst hQ
  subst hr
  exact W.aret C.x C.b C.rt hrt (Or.inr ⟨_, rfl⟩) (fun t ht hW => ⟨⟨r, σ, rfl, hp, by rw [ht]; exact hP⟩, hS.F ht⟩) hS.2.2 d C.lk
/-! contracts -/
def m_Pre (avs : List Value) (G : GT) (σ : Mem) (sz : Nat) : Array Value → State → Prop := va_Pc avs (fun U => U.heap.size = sz ∧ va_P G.2.2.2 vwCl (m_cells G σ) U.heap ∧ va_K G.2.2.2 vwCl (m_tys G.2.2.1) U ∧ va_D (fun _ => True) (m_cells G σ) ∧ m_ext G.2.1 (va_A (m_cells G σ) U.heap.size) U U.heap)
def MG (l : Launch) (y : MethodName) (ws : List Cond) (rm : Room) (oc : Int → Option Value) (avs : List Value) (G : GT) (σ : Mem) (WPp : (Int → Mem → Prop) → Prop) : Prop :=
  ∀ (Pst : Int → Mem → Prop) (sz : Nat), WPp Pst → Met l y ws rm (m_Pre avs G σ sz) (m_Q oc Pst G (va_A (m_cells G σ) sz)) 0 0 (va_A (m_cells G σ) sz)
theorem m_met {l : Launch} {y : MethodName} {ws ws' : List Cond} {rm : Room} {oc : Int → Option Value} {avs : List Value} {G : GT} {σ : Mem} {WPp : (Int → Mem → Prop) → Prop} {cc : ByteArray} {nL : Nat} {ret : Option FieldType} {own : String} {ls : List (Nat × Value)}
    (hy : plainName y.cls = true) (hw : ws = Cond.code y cc nL ret :: ws') (hown : y.cls = own) (hsl : (lg_sl avs).length ≤ nL) (hls : lv_args 0 avs = ls) (hrc : rm.cells = 0) (hrs : rm.slots = 0)
    (body : ∀ (κ : KT), κ.1.2.1 = l → CX κ G own cc nL ws rm ret → ∀ (Q : State → Prop) (Pst : Int → Mem → Prop), WPp Pst → (∀ (r : Int) (σ' : Mem), Pst r σ' → RT κ G oc Q r σ') → WM κ G nL Q σ 0 ls []) : MG l y ws rm oc avs G σ WPp := by
  intro Pst sz hWP
  refine Met.ofW (cc := cc) (maxL := nL) (ret := ret) hy hw ?_
  intro p e s m args below meth c s₁ B hml hv
  obtain ⟨rfl, hsz, hP, hK, hD0, hE⟩ := hv
  subst hsz
  have hts := atoms_spec (ws := ws) B.pre
  have hD : ∀ τ : Mem, va_D (va_A (m_cells G σ) s.heap.size) (m_cells G τ) := fun τ => by
    have h := (m_cel_D2 (τ := τ) hD0).self (sz := s.heap.size)
    rw [m_cel_Aeq G.2.1 G.2.2.1 G.1 τ σ] at h
    exact h
  have hC : CX ((p, l, e, (headSpec ws rm).room, s), (m, avs.toArray, below, meth, c), va_A (m_cells G σ) s.heap.size) G own cc nL ws rm ret := by
    refine ⟨B.exec, B.bytes, hml, ?_, hts, hK, hD, fun q h => Or.inr h, rfl, B.returns, B.notSynchronized, hE⟩
    rw [← hown]
    exact findClass_of_methodNamed B.named
  have hb := body ((p, l, e, (headSpec ws rm).room, s), (m, avs.toArray, below, meth, c), va_A (m_cells G σ) s.heap.size) rfl hC
    (MQ below (m_Q oc Pst G (va_A (m_cells G σ) s.heap.size)) avs.toArray s 0 0 (va_A (m_cells G σ) s.heap.size)) Pst hWP (fun r σ' h => ⟨Pst, rfl, h⟩)
  have hl := lv_entry avs (n := nL) hsl
  rw [hls] at hl
  rw [lg_entry_eq]
  exact hb s.heap [] _ hP va_S.rf hl
/-! calls -/
theorem m_run {G : GT} {y : MethodName} {Pst : Int → Mem → Prop} {oc : Int → Option Value} (C : CX κ G own cc nL Ts rm ret) {H : Heap} {locs : List Loc} {arr : Array Slot} {stk rest : List Value} {a : Array Value} {pc : Nat} {rs : Int → List Value}
    (hrs : ∀ r, (oc r).toList = rs r)
    (hP : va_P G.2.2.2 vwCl (m_cells G σ) H) (hS : va_S κ.2.2 κ.1.2.2.2.2.heap H locs) (hl : lv_has arr nL ls)
    (hr : va_Run κ.1.1 κ.1.2.1 κ.1.2.2.1 κ.1.2.2.2.1 κ.1.2.2.2.2 κ.2.1.1 κ.2.1.2.1 κ.2.1.2.2.1 κ.2.1.2.2.2.1 κ.2.1.2.2.2.2 H locs 0 0 0 0 (F0 κ.2.1.1 pc arr stk) rest (m_Q oc Pst G (va_A (m_cells G σ) H.size) a) (va_A (m_cells G σ) H.size))
    (kk : ∀ (r : Int) (σ' : Mem), Pst r σ' → WM κ G nL Q σ' (pc + 3) ls (rs r ++ rest)) : WK κ H locs Q (F0 κ.2.1.1 pc arr stk) := by
  have hF : ∀ q, va_A (m_cells G σ) H.size q → κ.2.2 q := by
    intro q h
    rcases h with ⟨k, e, h⟩ | h
    · exact (C.D σ).2 k (q, e) h
    · exact C.A q (Nat.le_trans hS.1 h)
  intro T hT X
  obtain ⟨v, st₀, t, T', L, h0, X', hL, e1, e2, ⟨⟨r, σ', hv, hp, hb⟩, hz, hk⟩, st⟩ := hr T hT X
  cases hv
  rw [h0] at hz hk
  have hS' : va_S κ.2.2 κ.1.2.2.2.2.heap T'.heap (locs ++ L) := by
    refine ⟨Nat.le_trans hS.1 (by rw [e1]; exact hz), fun q h1 h2 => ?_, fun q hq => ?_⟩
    · rw [e1, hk q (Nat.lt_of_lt_of_le h1 hS.1) (fun z => h2 (hF q z))]
      exact hS.2.1 q h1 h2
    · rcases List.mem_append.mp hq with h | h
      · exact hS.2.2 q h
      · exact hF _ (hL q h)
  have hb' : va_P G.2.2.2 vwCl (m_cells G σ') T'.heap := by rw [e1]; exact hb
  obtain ⟨t2, a1, b1⟩ := kk r σ' hp T'.heap (locs ++ L) arr hb' hS' hl T' rfl X'
  refine ⟨t2, st t2 ?_, b1⟩
  rw [hrs]
  exact a1
theorem m_pre {G : GT} (C : CX κ G own cc nL Ts rm ret) {H : Heap} {locs : List Loc} {avs : List Value} (hP : va_P G.2.2.2 vwCl (m_cells G σ) H) (hS : va_S κ.2.2 κ.1.2.2.2.2.heap H locs) :
    FrameBlind (m_Pre avs G σ H.size) ∧ ∀ U : State, U.heap = H → κ.1.2.2.2.2.WarmedH U.vm → m_Pre avs G σ H.size avs.toArray U := by
  refine ⟨fun a U g mk q => ?_, fun U hU hW => ?_⟩
  · obtain ⟨q0, q1, qP, qK, qD, qE⟩ := q
    exact ⟨q0, q1, qP, va_K.moved (u := U) (U := U.calling g mk a) (Vm.Alike.refl U.vm) qK, qD, m_ext.same (u := U) (U := U.calling g mk a) rfl qE⟩
  · refine ⟨rfl, by rw [hU], by rw [hU]; exact hP, va_K.moved hW.alike C.K, (C.D σ).weaken (fun _ _ _ _ => trivial), ?_⟩
    rw [hU]
    refine m_ext.warm hW (m_ext.narrow (m_ext.kept C.e (fun a h1 h2 => hS.2.1 a h1 h2)) ?_)
    intro q h
    rcases h with ⟨k, e, h⟩ | h
    · exact (C.D σ).2 k (q, e) h
    · exact C.A q (Nat.le_trans hS.1 h)
theorem r_callV (C : CX κ G own cc nL Ts rm ret) {y : MethodName} {ws ws' : List Cond} {rm' : Room} {oc : Int → Option Value} {WPp : (Int → Mem → Prop) → Prop} {bytes : ByteArray} {maxL n idx o ci : Nat} {ret' : Option FieldType} {Cn : String} {fks : List Nat} {T : u_T} {N : Nat} {As rest stk : List Value} {rs : Int → List Value}
    (d : decode cc pc = .ok (.invokevirtual idx, 3)) (hM : MG κ.1.2.1 y ws rm' oc (.ref (G.2.1 o) :: As) G σ WPp) (hG : GoodIn Ts (wsV own idx Cn y ws)) (hw : ws = Cond.code y bytes maxL ret' :: ws') (hrc : rm'.cells = 0 ∧ rm'.slots = 0)
    (hd : y.cls = Cn ∧ y.cls ≠ "java/lang/invoke/MethodHandle" ∧ y.cls ≠ "java/lang/invoke/VarHandle" ∧ (parseMethodDescriptor y.desc).map (fun d => d.parameters.length) = some n) (hR : rm'.frames + 1 ≤ rm.frames ∧ 8 + (maxL + 11) + rm'.locals ≤ rm.locals)
    (hs : G.1[o]? = some (.inl (ci, fks))) (hc : vwCl[ci]? = some (Cn, T, N)) (hn : As.length = n) (hst : stk = As.reverse ++ .ref (G.2.1 o) :: rest) (hcat : (rest.map fun v => v.category).sum ≤ 8) (hrs : ∀ r, (oc r).toList = rs r)
    (h : WPp (fun r σ' => WM κ G nL Q σ' (pc + 3) ls (rs r ++ rest))) : WM κ G nL Q σ pc ls stk := by
  intro H locs arr hP hS hl
  subst hst
  have hpre := m_pre (avs := .ref (G.2.1 o) :: As) C hP hS
  refine m_run (y := y) C hrs hP hS hl (va_runV (As := As) (rest := rest) (b := G.2.1 o) ⟨C.x, C.b, C.ml, C.own, C.ts⟩ (hM _ H.size h) (cwV n C.ts hG hw hrc.1 hrc.2 hd (by rw [C.R]; exact hR)) ⟨hpre.1, va_recv C.K hP hc (m_at_o σ hs), hpre.2⟩ rfl hn hl.1 rfl (lv_room hcat) d ⟨Nat.zero_le _, Nat.zero_le _⟩) (fun r σ' h => h)
theorem r_callS (C : CX κ G own cc nL Ts rm ret) {y : MethodName} {ws ws' : List Cond} {rm' : Room} {oc : Int → Option Value} {WPp : (Int → Mem → Prop) → Prop} {bytes : ByteArray} {maxL n idx : Nat} {ret' : Option FieldType} {As rest stk : List Value} {rs : Int → List Value}
    (d : decode cc pc = .ok (.invokestatic idx, 3)) (hM : MG κ.1.2.1 y ws rm' oc As G σ WPp) (hG : GoodIn Ts (va_wsS own idx y ws)) (hw : ws = Cond.code y bytes maxL ret' :: ws') (hrc : rm'.cells = 0 ∧ rm'.slots = 0)
    (hd : y.cls ≠ "java/lang/invoke/MethodHandle" ∧ y.cls ≠ "java/lang/invoke/VarHandle" ∧ (parseMethodDescriptor y.desc).map (fun d => d.parameters.length) = some n) (hR : rm'.frames + 1 ≤ rm.frames ∧ 8 + (maxL + 11) + rm'.locals ≤ rm.locals)
    (hn : As.length = n) (hst : stk = As.reverse ++ rest) (hcat : (rest.map fun v => v.category).sum ≤ 8) (hrs : ∀ r, (oc r).toList = rs r)
    (h : WPp (fun r σ' => WM κ G nL Q σ' (pc + 3) ls (rs r ++ rest))) : WM κ G nL Q σ pc ls stk := by
  intro H locs arr hP hS hl
  subst hst
  have hpre := m_pre (avs := As) C hP hS
  refine m_run (y := y) C hrs hP hS hl (va_runS (As := As) (rest := rest) ⟨C.x, C.b, C.ml, C.own, C.ts⟩ (hM _ H.size h) (va_cwS n C.ts hG hw hrc.1 hrc.2 hd (by rw [C.R]; exact hR)) ⟨hpre.1, hpre.2⟩ rfl hn hl.1 rfl (lv_room hcat) d ⟨Nat.zero_le _, Nat.zero_le _⟩) (fun r σ' h => h)
theorem r_callSN (C : CX κ G own cc nL Ts rm ret) {y : MethodName} {ws ws' : List Cond} {rm' : Room} {oc : Int → Option Value} {WPp : (Int → Mem → Prop) → Prop} {bytes : ByteArray} {maxL n idx : Nat} {ret' : Option FieldType} {host : String} {As rest stk : List Value} {rs : Int → List Value}
    (d : decode cc pc = .ok (.invokestatic idx, 3)) (hM : MG κ.1.2.1 y ws rm' oc As G σ WPp) (hl0 : va_Nw (.methodLinkNest own idx y host) κ.1.2.2.2.2) (hst0 : Cond.static y ∈ Ts) (hin0 : Cond.initialized y.cls ∈ Ts) (hG : GoodIn Ts ws) (hw : ws = Cond.code y bytes maxL ret' :: ws') (hrc : rm'.cells = 0 ∧ rm'.slots = 0)
    (hd : y.cls ≠ "java/lang/invoke/MethodHandle" ∧ y.cls ≠ "java/lang/invoke/VarHandle" ∧ (parseMethodDescriptor y.desc).map (fun d => d.parameters.length) = some n) (hR : rm'.frames + 1 ≤ rm.frames ∧ 8 + (maxL + 11) + rm'.locals ≤ rm.locals)
    (hn : As.length = n) (hst : stk = As.reverse ++ rest) (hcat : (rest.map fun v => v.category).sum ≤ 8) (hrs : ∀ r, (oc r).toList = rs r)
    (h : WPp (fun r σ' => WM κ G nL Q σ' (pc + 3) ls (rs r ++ rest))) : WM κ G nL Q σ pc ls stk := by
  intro H locs arr hP hS hl
  subst hst
  have hpre := m_pre (avs := As) C hP hS
  refine m_run (y := y) C hrs hP hS hl (va_runSN (As := As) (rest := rest) ⟨C.x, C.b, C.ml, C.own, C.ts⟩ (hM _ H.size h) ⟨va_cnB n C.ts hG hw hrc.1 hrc.2 hl0 (C.ts _ hin0) hd (by rw [C.R]; exact hR), C.ts _ hst0, trivial⟩ ⟨hpre.1, hpre.2⟩ rfl hn hl.1 rfl (lv_room hcat) d ⟨Nat.zero_le _, Nat.zero_le _⟩) (fun r σ' h => h)
/-! the script -/
theorem r_slen (C : CX κ G own cc nL Ts rm ret) (d : decode cc pc = .ok (.arraylength, 1)) (k : WM κ G nL Q σ (pc + 1) ls (vI (m_L G.2.1) :: st)) : WM κ G nL Q σ pc ls (.ref (G.2.1 1000) :: st) := by
  intro H locs arr hP hS hl
  have h := k H locs arr hP hS hl
  rw [m_L, vI, Int32.ofInt_eq_ofNat] at h
  exact va_slen C.x C.b C.e.2.1 C.e.2.2.1 C.e.2.2.2.1 hS d h
theorem r_sald (C : CX κ G own cc nL Ts rm ret) {i : Int} (d : decode cc pc = .ok (.iaload, 1)) (k : (0 ≤ i ∧ i < m_L G.2.1) ∧ WM κ G nL Q σ (pc + 1) ls (vI (m_x G.2.1 i) :: st)) : WM κ G nL Q σ pc ls (vI i :: .ref (G.2.1 1000) :: st) := by
  intro H locs arr hP hS hl
  have hb := C.e.2.2.2.2
  obtain ⟨h1, h2, h3, h4⟩ := n_in (i := i) (n := G.2.1 1001) rfl (by omega) k.1
  have h := k.2 H locs arr hP hS hl
  refine va_sld C.x C.b C.e.2.1 C.e.2.2.1 C.e.2.2.2.1 hS h1 d ?_
  rw [h2]
  exact h
/-! Math and arraycopy -/
theorem r_maxL (C : CX κ G own cc nL Ts rm ret) {index : Nat} {x y : Int} (d : decode cc pc = .ok (.invokestatic index, 3)) (h1 : Cond.methodLink own index Lib.MathLoose.max_long.x ∈ Ts) (h2 : Cond.static Lib.MathLoose.max_long.x ∈ Ts) (h3 : Cond.initialized "java/lang/Math" ∈ Ts) (h4 : Cond.code Lib.MathLoose.max_long.x Lib.MathLoose.max_long.code 4 (some .long) ∈ Ts) (hfr : 1 ≤ rm.frames) (hlo : (st.map fun v => v.category).sum + 15 ≤ rm.locals) (k : (InL x ∧ InL y) ∧ WM κ G nL Q σ (pc + 3) ls (vL (if y < x then x else y) :: st)) : WM κ G nL Q σ pc ls (vL y :: vL x :: st) := by
  intro H locs arr hP hS hl
  have h := k.2 H locs arr hP hS hl
  refine va_mmax_long C.x C.b (C.ml.trans hl.1.symm) C.own (C.ts _ h1) (C.ts _ h2) (C.ts _ h3) (C.ts _ h4) (by rw [C.R]; exact hfr) (by rw [C.R]; exact hlo) (Nat.zero_le _) (Nat.zero_le _) d ?_
  have e : (if Int64.ofInt y < Int64.ofInt x then Int64.ofInt x else Int64.ofInt y) = Int64.ofInt (if y < x then x else y) := by
    rw [apply_ite Int64.ofInt]
    simp only [n_ltL k.1.2 k.1.1]
  rw [e]
  exact h
theorem r_maxI (C : CX κ G own cc nL Ts rm ret) {index : Nat} {x y : Int} (d : decode cc pc = .ok (.invokestatic index, 3)) (h1 : Cond.methodLink own index Lib.Math.max.name ∈ Ts) (h2 : Cond.static Lib.Math.max.name ∈ Ts) (h3 : Cond.initialized "java/lang/Math" ∈ Ts) (h4 : Cond.code Lib.Math.max.name Lib.Math.max.code 2 (some .int) ∈ Ts) (hfr : 1 ≤ rm.frames) (hlo : (st.map fun v => v.category).sum + 13 ≤ rm.locals) (k : (InI x ∧ InI y) ∧ WM κ G nL Q σ (pc + 3) ls (vI (if x < y then y else x) :: st)) : WM κ G nL Q σ pc ls (vI y :: vI x :: st) := by
  intro H locs arr hP hS hl
  have h := k.2 H locs arr hP hS hl
  refine va_mmax C.x C.b (C.ml.trans hl.1.symm) C.own (C.ts _ h1) (C.ts _ h2) (C.ts _ h3) (C.ts _ h4) (by rw [C.R]; exact hfr) (by rw [C.R]; exact hlo) (Nat.zero_le _) (Nat.zero_le _) d ?_
  have e : (if Int32.ofInt x < Int32.ofInt y then Int32.ofInt y else Int32.ofInt x) = Int32.ofInt (if x < y then y else x) := by
    rw [apply_ite Int32.ofInt]
    simp only [n_lt k.1.1 k.1.2]
  rw [e]
  exact h
theorem r_absL (C : CX κ G own cc nL Ts rm ret) {index : Nat} {x : Int} (d : decode cc pc = .ok (.invokestatic index, 3)) (h1 : Cond.methodLink own index Lib.MathLoose.abs_long.x ∈ Ts) (h2 : Cond.static Lib.MathLoose.abs_long.x ∈ Ts) (h3 : Cond.initialized "java/lang/Math" ∈ Ts) (h4 : Cond.code Lib.MathLoose.abs_long.x Lib.MathLoose.abs_long.code 2 (some .long) ∈ Ts) (hfr : 1 ≤ rm.frames) (hlo : (st.map fun v => v.category).sum + 13 ≤ rm.locals) (k : InL x ∧ WM κ G nL Q σ (pc + 3) ls (vL (if (0 : Int) < x then x else -x) :: st)) : WM κ G nL Q σ pc ls (vL x :: st) := by
  intro H locs arr hP hS hl
  have h := k.2 H locs arr hP hS hl
  refine va_mabs_long C.x C.b (C.ml.trans hl.1.symm) C.own (C.ts _ h1) (C.ts _ h2) (C.ts _ h3) (C.ts _ h4) (by rw [C.R]; exact hfr) (by rw [C.R]; exact hlo) (Nat.zero_le _) (Nat.zero_le _) d ?_
  have e0 : (0 : Int64) = Int64.ofInt 0 := rfl
  have e : (if 0 < Int64.ofInt x then Int64.ofInt x else -Int64.ofInt x) = Int64.ofInt (if 0 < x then x else -x) := by
    rw [apply_ite Int64.ofInt, e0, Int64.ofInt_neg]
    simp only [n_ltL (⟨by omega, by omega⟩ : InL 0) k.1]
  rw [e]
  exact h
def m_cpy (σ : Mem) (a b : Nat) (sp dp n : Int) : Mem := fun c => if c = b then (fun j => if dp ≤ j ∧ j < dp + n then σ a (sp + (j - dp)) else σ b j) else σ c
theorem r_copyi (C : CX κ G own cc nL Ts rm ret) {index a b n0 n1 : Nat} {sp dp n n0z n1z : Int} (d : decode cc pc = .ok (.invokestatic index, 3)) (h1 : Cond.methodLink own index arraycopyName ∈ Ts) (h2 : Cond.native arraycopyName ∈ Ts) (h3 : Cond.static arraycopyName ∈ Ts) (h4 : Cond.initialized "java/lang/System" ∈ Ts)
    (hs0 : G.1[a]? = some (.inr (0, n0))) (hs1 : G.1[b]? = some (.inr (0, n1))) (hn0 : (n0 : Int) = n0z) (hn1 : (n1 : Int) = n1z) (hb0 : n0 < 2147483648) (hb1 : n1 < 2147483648) (hfr : 1 ≤ rm.frames) (hlo : (st.map fun v => v.category).sum + (nativeFrameWords "java/lang/System" "arraycopy" 5 + 11) ≤ rm.locals)
    (k : ((0 ≤ sp ∧ 0 ≤ dp ∧ 0 ≤ n) ∧ sp + n ≤ n0z ∧ dp + n ≤ n1z) ∧ ∀ σ' : Mem, σ' = m_cpy σ a b sp dp n → WM κ G nL Q σ' (pc + 3) ls st) : WM κ G nL Q σ pc ls (vI n :: vI dp :: .ref (G.2.1 b) :: vI sp :: .ref (G.2.1 a) :: st) := by
  intro H locs arr hP hS hl
  obtain ⟨⟨⟨p1, p2, p3⟩, p4, p5⟩, k⟩ := k
  have is : InI sp := ⟨by omega, by omega⟩
  have id : InI dp := ⟨by omega, by omega⟩
  have i3 : InI n := ⟨by omega, by omega⟩
  have i0 : InI 0 := ⟨by omega, by omega⟩
  have neg : ∀ {x : Int}, InI x → 0 ≤ x → ¬ Int32.ofInt x < 0 := fun hx h q => by
    rw [← n_0, n_lt hx i0] at q
    omega
  refine va_copyi (f := fun j : Nat => Int32.ofInt (σ a (j : Int))) (g := fun j : Nat => Int32.ofInt (σ b (j : Int))) C.x C.b (C.ml.trans hl.1.symm) C.own (C.ts _ h1) (C.ts _ h2) (C.ts _ h3) (C.ts _ h4) C.K hP (C.D σ) hS a b 0 0 (m_at_a σ 0 hs0) (m_at_a σ 0 hs1) rfl rfl rfl (neg is p1) (neg id p2) (neg i3 p3) (by rw [n_clamp is, n_clamp i3]; omega) (by rw [n_clamp id, n_clamp i3]; omega) (fun i hi => rfl) (by rw [C.R]; exact hfr) (by rw [C.R]; exact hlo) d (fun H1 locs1 hP1 hD1 hS1 => k _ rfl H1 locs1 arr ?_ hS1 hl)
  have e : ∀ (ws : va_W), va_P G.2.2.2 vwCl ws H1 → ws = m_cells G (m_cpy σ a b sp dp n) → va_P G.2.2.2 vwCl (m_cells G (m_cpy σ a b sp dp n)) H1 := fun ws h1 h2 => h2 ▸ h1
  refine e _ hP1 ?_
  rw [n_clamp is, n_clamp id, n_clamp i3]
  have e2 : va_cpy (fun j : Nat => Int32.ofInt (σ a (j : Int))) (fun j : Nat => Int32.ofInt (σ b (j : Int))) sp.toNat dp.toNat n.toNat = fun j : Nat => Int32.ofInt ((fun j : Int => if dp ≤ j ∧ j < dp + n then σ a (sp + (j - dp)) else σ b j) (j : Int)) := by
    funext j
    unfold va_cpy
    by_cases h : dp.toNat ≤ j ∧ j < dp.toNat + n.toNat
    · rw [if_pos h]
      dsimp only
      rw [if_pos (by omega)]
      rw [show ((sp.toNat + (j - dp.toNat) : Nat) : Int) = sp + ((j : Int) - dp) by omega]
    · rw [if_neg h]
      dsimp only
      rw [if_neg (by omega)]
  rw [e2]
  exact m_set σ (fun j => if dp ≤ j ∧ j < dp + n then σ a (sp + (j - dp)) else σ b j) hs1
end ROWS2
