/-! ===== leaks ===== -/
theorem L_leakPlace {o : Nat} {s : Mem} (h : RdyA o s) {Q : Int → Mem → Prop} (hQ : Q (q_amin (rA o s) (s 1 0).toNat) s) : x3_leakPlace o s Q := by
  apply x3_leakPlace_i
  have hn := h.1
  have key : ∀ (m : Nat) (k : Int), 1 ≤ k → k ≤ s 1 0 → (s 1 0 - k).toNat = m → x3_leakPlace_L4 o Q (q_amin (rA o s) k.toNat) k s := by
    intro m
    induction m with
    | zero =>
      intro k h0 h1 hm
      apply x3_leakPlace_s4
      rw [show k = s 1 0 by omega]
      exact ⟨by omega, fun _ => hQ, fun c => absurd c (by omega)⟩
    | succ m ih =>
      intro k h0 h1 hm
      have hk : q_in (s 1 0) k := ⟨by omega, by omega⟩
      have ha := q_amin_in (rA o s) k.toNat (by omega)
      have ha2 : q_in (s 1 0) (q_amin (rA o s) k.toNat) := ⟨ha.1, by have := ha.2; omega⟩
      have b1 := h.r hk
      have b2 := h.r ha2
      have nxt := ih (k + 1) (by omega) (by omega) (by omega)
      rw [show (k + 1).toNat = k.toNat + 1 by omega, q_amin, show ((k.toNat : Nat) : Int) = k by omega] at nxt
      apply x3_leakPlace_s4
      refine ⟨by omega, fun c => absurd c (by omega), fun c => L_pressUpper h hk (L_pressUpper h ha2 ⟨by constructor <;> constructor <;> omega, fun q => ?_, fun q => ?_⟩)⟩
      · rw [if_neg (by omega)] at nxt
        exact nxt
      · rw [if_pos q] at nxt
        exact nxt
  have k1 := key _ 1 (by omega) (by omega) rfl
  have e1 : q_amin (rA o s) (Int.toNat 1) = 0 := by
    show (if rA o s ((0 : Nat) : Int) < rA o s 0 then ((0 : Nat) : Int) else 0) = 0
    split <;> rfl
  rw [e1] at k1
  exact k1
def FrS (u t : Mem) : Prop := (∀ c : Nat, c ≠ 0 → t c = u c) ∧ ∀ j : Int, j ≠ 26 → j ≠ 27 → j ≠ 28 → t 0 j = u 0 j
theorem FrS.upd {u t v : Mem} (h : FrS u t) {j x : Int} (hj : j = 26 ∨ j = 27 ∨ j = 28) (e : v = m_upd t 0 j x) : FrS u v := ⟨fun c hc => by rw [e, m_upd_ne _ _ _ _ _ hc]; exact h.1 c hc, fun i i1 i2 i3 => by rw [e, m_upd_at, if_neg (by omega)]; exact h.2 i i1 i2 i3⟩
theorem FrS.rdy {u t : Mem} (h : FrS u t) (r : RdyB u) : RdyB t := by
  unfold RdyB
  rw [h.2 0 (by omega) (by omega) (by omega), h.2 15 (by omega) (by omega) (by omega), h.1 1 (by omega), h.1 2 (by omega), h.1 3 (by omega), h.1 5 (by omega), h.1 12 (by omega)]
  exact r
theorem FrS.r {u t : Mem} (h : FrS u t) : rB t = rB u := by
  funext k
  unfold rB
  rw [h.1 2 (by omega), h.1 12 (by omega)]
def q_up (u : Mem) : Int := rB u (q_amin (rB u) (u 0 0).toNat)
theorem B_findLeak {τ : Mem} (hJ : JB τ) {Q : Int → Mem → Prop} (h : ∀ u : Mem, LiftsB τ u → ∀ t : Mem, FrS u t → t 0 28 = q_amin (rB u) (u 0 0).toNat → t 0 26 = Int.tdiv (q_up u) (q_gcd (q_up u) (u 0 15)) → t 0 27 = Int.tdiv (u 0 15) (q_gcd (q_up u) (u 0 15)) → Q 0 t) : x8_findLeak τ Q := by
  apply x8_findLeak_i
  refine B_findLifts hJ (fun u hu s2 e2 => ?_)
  have h := h u hu
  have hn : 3 ≤ u 0 0 ∧ u 0 0 ≤ 6 := (hu.rdy hJ).1
  have hr := hu.rdy hJ
  have hD := hr.2.2.1
  have key : ∀ (m : Nat) (k : Int) (s : Mem), 1 ≤ k → k ≤ u 0 0 → (u 0 0 - k).toNat = m → FrS u s → s 0 28 = q_amin (rB u) k.toNat → x8_findLeak_L11 Q k s := by
    intro m
    induction m with
    | zero =>
      intro k s h0 h1 hm f e28
      apply x8_findLeak_s11
      have s00 := f.2 0 (by omega) (by omega) (by omega)
      have s15 := f.2 15 (by omega) (by omega) (by omega)
      rw [show k = u 0 0 by omega] at e28
      have ha := q_amin_in (rB u) (u 0 0).toNat (by omega)
      have ha2 : q_in (u 0 0) (q_amin (rB u) (u 0 0).toNat) := ⟨ha.1, by have := ha.2; omega⟩
      have b := hr.r ha2
      refine ⟨by rw [s00]; omega, fun _ => ?_, fun c => absurd c (by rw [s00]; omega)⟩
      rw [e28]
      refine B_press (f.rdy hr) (by rw [s00]; exact ha2) ?_
      rw [f.r, s15]
      have gp := q_gcd_pos (a := q_up u) hD.1
      have gi : InL (q_gcd (q_up u) (u 0 15)) := by
        have : q_gcd (q_up u) (u 0 15) ≤ u 0 15 := by
          unfold q_gcd
          have := Nat.gcd_le_right (q_up u).toNat (show 0 < (u 0 15).toNat by omega)
          omega
        constructor <;> omega
      have b' : 0 ≤ q_up u ∧ q_up u ≤ 30000000000000 := b
      refine B_gcd ⟨by constructor <;> omega, by omega⟩ ⟨hD.1, by constructor <;> omega⟩ ?_
      rw [if_neg (by omega)]
      refine ⟨⟨by constructor <;> omega, gi, ?_⟩, fun s7 e7 => ?_⟩
      · have gp' : 0 < q_gcd (rB u (q_amin (rB u) (u 0 0).toNat)) (u 0 15) := gp
        omega
      have f7 := f.upd (Or.inl rfl) e7
      have s715 := f7.2 15 (by omega) (by omega) (by omega)
      rw [s715]
      have gp' : 0 < q_gcd (rB u (q_amin (rB u) (u 0 0).toNat)) (u 0 15) := gp
      refine ⟨⟨by constructor <;> omega, gi, by omega⟩, fun s8 e8 => h s8 (f7.upd (Or.inr (Or.inl rfl)) e8) ?_ ?_ ?_⟩
      · rw [e8, m_upd_at, if_neg (by omega), e7, m_upd_at, if_neg (by omega)]
        exact e28
      · rw [e8, m_upd_at, if_neg (by omega), e7, m_upd_at, if_pos ⟨rfl, rfl⟩]
        rfl
      · rw [e8, m_upd_at, if_pos ⟨rfl, rfl⟩]
        rfl
    | succ m ih =>
      intro k s h0 h1 hm f e28
      apply x8_findLeak_s11
      have s00 := f.2 0 (by omega) (by omega) (by omega)
      have hk : q_in (u 0 0) k := ⟨by omega, by omega⟩
      have ha := q_amin_in (rB u) k.toNat (by omega)
      have ha2 : q_in (u 0 0) (q_amin (rB u) k.toNat) := ⟨ha.1, by have := ha.2; omega⟩
      have b1 := hr.r hk
      have b2 := hr.r ha2
      have en : q_amin (rB u) (k + 1).toNat = if rB u k < rB u (q_amin (rB u) k.toNat) then k else q_amin (rB u) k.toNat := by
        rw [show (k + 1).toNat = k.toNat + 1 by omega, q_amin, show ((k.toNat : Nat) : Int) = k by omega]
      refine ⟨by rw [s00]; omega, fun c => absurd c (by rw [s00]; omega), fun c => B_press (f.rdy hr) (by rw [s00]; exact hk) ?_⟩
      rw [e28]
      refine B_press (f.rdy hr) (by rw [s00]; exact ha2) ?_
      rw [f.r]
      refine ⟨by constructor <;> constructor <;> omega, fun q s13 e13 => ih (k + 1) s13 (by omega) (by omega) (by omega) (f.upd (Or.inr (Or.inr rfl)) e13) ?_, fun q s14 e14 => ih (k + 1) s14 (by omega) (by omega) (by omega) (f.upd (Or.inr (Or.inr rfl)) e14) ?_⟩
      · rw [e13, m_upd_at, if_pos ⟨rfl, rfl⟩, en, if_neg (by omega)]
        exact e28
      · rw [e14, m_upd_at, if_pos ⟨rfl, rfl⟩, en, if_pos q]
  have f2 : FrS u s2 := FrS.upd ⟨fun _ _ => rfl, fun _ _ _ _ => rfl⟩ (Or.inr (Or.inr rfl)) e2
  refine key _ 1 s2 (by omega) (by omega) rfl f2 ?_
  rw [e2, m_upd_at, if_pos ⟨rfl, rfl⟩]
  show (0 : Int) = if rB u ((0 : Nat) : Int) < rB u 0 then ((0 : Nat) : Int) else 0
  split <;> rfl
/-- the loads asked for: the joint's own (p = -1) or those of case p -/
def q_ld (τ : Mem) (p : Int) (k : Int) : Int := if 0 ≤ p then τ 7 (6 * p + k) else τ 4 k
/-- what a look at a leak leaves -/
def FrL (τ t : Mem) : Prop := (∀ c : Nat, c ≠ 0 → c ≠ 12 → c ≠ 13 → c ≠ 14 → c ≠ 18 → t c = τ c) ∧ ∀ j : Int, j ≠ 15 → j ≠ 26 → j ≠ 27 → j ≠ 28 → t 0 j = τ 0 j
theorem FrL.refl (τ : Mem) : FrL τ τ := ⟨fun _ _ _ _ _ _ => rfl, fun _ _ _ _ _ => rfl⟩
theorem FrL.trans {a b c : Mem} (h : FrL a b) (g : FrL b c) : FrL a c := ⟨fun d h1 h2 h3 h4 h5 => (g.1 d h1 h2 h3 h4 h5).trans (h.1 d h1 h2 h3 h4 h5), fun j h1 h2 h3 h4 => (g.2 j h1 h2 h3 h4).trans (h.2 j h1 h2 h3 h4)⟩
theorem FrL.same {τ t : Mem} (h : FrL τ t) : SameB τ t := ⟨⟨fun c h0 h3 hc => h.1 c h0 (by omega) (by omega) (by omega) (by omega), h.2 0 (by omega) (by omega) (by omega) (by omega), h.2 1 (by omega) (by omega) (by omega) (by omega), h.2 8 (by omega) (by omega) (by omega) (by omega), h.2 30 (by omega) (by omega) (by omega) (by omega), h.2 33 (by omega) (by omega) (by omega) (by omega), h.2 36 (by omega) (by omega) (by omega) (by omega)⟩, h.1 3 (by omega) (by omega) (by omega) (by omega) (by omega)⟩
theorem B_findLeakOf {τ : Mem} (hJ : JB τ) {p : Int} (hp : p = -1 ∨ (0 ≤ p ∧ p < 6)) (hl : ∀ k, q_in (τ 0 0) k → 0 ≤ q_ld τ p k ∧ q_ld τ p k ≤ 200) {Q : Int → Mem → Prop} (h : ∀ v u : Mem, (v 0 0 = τ 0 0 ∧ v 0 1 = τ 0 1 ∧ v 1 = τ 1 ∧ v 2 = τ 2 ∧ v 3 = τ 3 ∧ v 5 = τ 5 ∧ ∀ k, q_in (τ 0 0) k → v 4 k = q_ld τ p k) → JB v → LiftsB v u → ∀ t : Mem, FrL τ t → t 0 28 = q_amin (rB u) (u 0 0).toNat → t 0 26 = Int.tdiv (q_up u) (q_gcd (q_up u) (u 0 15)) → t 0 27 = Int.tdiv (u 0 15) (q_gcd (q_up u) (u 0 15)) → Q 0 t) : x8_findLeakOf p τ Q := by
  apply x8_findLeakOf_i
  have hn := hJ.n
  -- the loads back again
  have bk : ∀ (m : Nat) (k : Int) (t : Mem), 0 ≤ k → k ≤ τ 0 0 → (τ 0 0 - k).toNat = m → t 0 0 = τ 0 0 → (∀ j, 0 ≤ j → j < τ 0 0 → t 18 j = τ 4 j) → (∀ j, t 4 j = if 0 ≤ j ∧ j < τ 0 0 ∧ k ≤ j then q_ld τ p j else τ 4 j) → (∀ t' : Mem, (∀ c : Nat, c ≠ 4 → t' c = t c) → t' 4 = τ 4 → Q 0 t') → x8_findLeakOf_L64 Q k t := by
    intro m
    induction m with
    | zero =>
      intro k t h0 h1 hm t00 t18 t4 hQ
      apply x8_findLeakOf_s64
      refine ⟨by omega, fun _ => hQ t (fun _ _ => rfl) ?_, fun c => absurd c (by omega)⟩
      funext j
      rw [t4 j, if_neg (by omega)]
    | succ m ih =>
      intro k t h0 h1 hm t00 t18 t4 hQ
      apply x8_findLeakOf_s64
      refine ⟨by omega, fun c => absurd c (by omega), fun c => ⟨by omega, by omega, fun s7 e7 => ?_⟩⟩
      refine ih (k + 1) s7 (by omega) (by omega) (by omega) (by rw [e7, m_upd_ne _ _ _ _ _ (by omega)]; exact t00) (fun j j0 j1 => by rw [e7, m_upd_ne _ _ _ _ _ (by omega)]; exact t18 j j0 j1) (fun j => ?_) (fun t' f e => hQ t' (fun c hc => by rw [f c hc, e7, m_upd_ne _ _ _ _ _ hc]) e)
      rw [e7, m_upd_at]
      by_cases w : j = k
      · rw [if_pos ⟨rfl, w⟩, if_neg (by omega), w, t18 k h0 (by omega)]
      · rw [if_neg (fun q => w q.2), t4 j]
        by_cases w2 : 0 ≤ j ∧ j < τ 0 0 ∧ k ≤ j
        · rw [if_pos w2, if_pos (by omega)]
        · rw [if_neg w2, if_neg (by omega)]
  have key : ∀ (m : Nat) (k : Int) (s : Mem), 0 ≤ k → k ≤ τ 0 0 → (τ 0 0 - k).toNat = m → (∀ c : Nat, c ≠ 4 → c ≠ 18 → s c = τ c) → (∀ j, 0 ≤ j → j < k → s 18 j = τ 4 j) → (∀ j, s 4 j = if 0 ≤ j ∧ j < k then q_ld τ p j else τ 4 j) → x8_findLeakOf_L2 Q p k s := by
    intro m
    induction m with
    | zero =>
      intro k s h0 h1 hm f s18 s4
      apply x8_findLeakOf_s2
      have s00 := f 0 (by omega) (by omega)
      have ek : k = τ 0 0 := by omega
      have jv : JB s := by
        unfold JB q_ok
        rw [s00, f 1 (by omega) (by omega), f 2 (by omega) (by omega), f 3 (by omega) (by omega), f 5 (by omega) (by omega)]
        refine ⟨hJ.1, hJ.2.1, fun i hi => ?_, hJ.2.2.2⟩
        have a := hJ.2.2.1 i hi
        have b := hl i hi
        refine ⟨a.1, a.2.1, a.2.2.1, ?_, a.2.2.2.2⟩
        rw [s4 i, if_pos (by have := hi.1; have := hi.2; omega)]
        exact b
      refine ⟨by rw [s00]; omega, fun _ => B_findLeak jv (fun u hu t ft e28 e26 e27 => ?_), fun c => absurd c (by rw [s00]; omega)⟩
      have g := hu.1
      have t00 : t 0 0 = τ 0 0 := by rw [ft.2 0 (by omega) (by omega) (by omega), g.2 0 (by omega), s00]
      refine bk _ 0 t (by omega) (by omega) rfl t00 (fun j j0 j1 => by rw [ft.1 18 (by omega), g.1 18 (by omega) (by omega) (by omega) (by omega)]; exact s18 j j0 (by omega)) (fun j => ?_) (fun t' f' e' => ?_)
      · rw [ft.1 4 (by omega), g.1 4 (by omega) (by omega) (by omega) (by omega), s4 j]
        by_cases w : 0 ≤ j ∧ j < k
        · rw [if_pos w, if_pos (by omega)]
        · rw [if_neg w, if_neg (by omega)]
      · have t'0 := f' 0 (by omega)
        refine h s u ⟨by rw [s00], by rw [s00], f 1 (by omega) (by omega), f 2 (by omega) (by omega), f 3 (by omega) (by omega), f 5 (by omega) (by omega), fun i hi => ?_⟩ jv hu t' ⟨fun c c0 c12 c13 c14 c18 => ?_, fun j j1 j2 j3 j4 => by rw [t'0, ft.2 j j2 j3 j4, g.2 j j1, s00]⟩ (by rw [t'0]; exact e28) (by rw [t'0]; exact e26) (by rw [t'0]; exact e27)
        · rw [s4 i, if_pos (by have := hi.1; have := hi.2; omega)]
        · by_cases w : c = 4
          · rw [w]
            exact e'
          · rw [f' c w, ft.1 c c0, g.1 c c0 c12 c13 c14, f c w c18]
    | succ m ih =>
      intro k s h0 h1 hm f s18 s4
      apply x8_findLeakOf_s2
      have s00 := f 0 (by omega) (by omega)
      have s4k : s 4 k = τ 4 k := by rw [s4 k, if_neg (by omega)]
      refine ⟨by rw [s00]; omega, fun c => absurd c (by rw [s00]; omega), fun _ => ⟨by omega, by omega, fun s2 e2 => ⟨by omega, fun q => ⟨by omega, by omega, fun s3 e3 => ?_⟩, fun q => ⟨by omega, by omega, fun s3 e3 => ?_⟩⟩⟩⟩
      · refine ih (k + 1) s3 (by omega) (by omega) (by omega) (fun c c4 c18 => by rw [e3, m_upd_ne _ _ _ _ _ c4, e2, m_upd_ne _ _ _ _ _ c18]; exact f c c4 c18) (fun j j0 j1 => ?_) (fun j => ?_)
        · rw [e3, m_upd_ne _ _ _ _ _ (by omega), e2, m_upd_at]
          by_cases w : j = k
          · rw [if_pos ⟨rfl, w⟩, w, s4k]
          · rw [if_neg (fun q => w q.2)]
            exact s18 j j0 (by omega)
        · rw [e3, m_upd_at, e2, m_upd_ne _ _ _ _ _ (by omega), m_upd_ne _ _ _ _ _ (by omega), f 7 (by omega) (by omega)]
          by_cases w : j = k
          · rw [if_pos ⟨rfl, w⟩, if_pos (by omega), w]
            unfold q_ld
            rw [if_pos q]
          · rw [if_neg (fun q => w q.2), s4 j]
            by_cases w2 : 0 ≤ j ∧ j < k
            · rw [if_pos w2, if_pos (by omega)]
            · rw [if_neg w2, if_neg (by omega)]
      · refine ih (k + 1) s3 (by omega) (by omega) (by omega) (fun c c4 c18 => by rw [e3, m_upd_ne _ _ _ _ _ c4, e2, m_upd_ne _ _ _ _ _ c18]; exact f c c4 c18) (fun j j0 j1 => ?_) (fun j => ?_)
        · rw [e3, m_upd_ne _ _ _ _ _ (by omega), e2, m_upd_at]
          by_cases w : j = k
          · rw [if_pos ⟨rfl, w⟩, w, s4k]
          · rw [if_neg (fun q => w q.2)]
            exact s18 j j0 (by omega)
        · rw [e3, m_upd_at, e2, m_upd_ne _ _ _ _ _ (by omega)]
          by_cases w : j = k
          · rw [if_pos ⟨rfl, w⟩, if_pos (by omega), w, s4k]
            unfold q_ld
            rw [if_neg (by omega)]
          · rw [if_neg (fun q => w q.2), s4 j]
            by_cases w2 : 0 ≤ j ∧ j < k
            · rw [if_pos w2, if_pos (by omega)]
            · rw [if_neg w2, if_neg (by omega)]
  exact key _ 0 τ (by omega) (by omega) rfl (fun _ _ _ => rfl) (fun j h0 h1 => absurd h1 (by omega)) (fun j => by rw [if_neg (by omega)])
