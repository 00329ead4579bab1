/-! ===== the joint under the law: what it is, and what each call answers ===== -/
def St (n : Int) (J : JT) (T : Int → Int) (σ : Mem) : Prop := OkA σ ∧ RelN σ ∧ jA σ 5 = J ∧ tA σ = T ∧ σ 1 0 = n ∧ ∀ k, q_in n k → σ 6 k = k
theorem St.n {n : Int} {J : JT} {T : Int → Int} {σ : Mem} (h : St n J T σ) : 3 ≤ n ∧ n ≤ 6 := by
  have := h.1.1.n
  rw [h.2.2.2.2.1] at this
  exact this
theorem St.J {n : Int} {J : JT} {T : Int → Int} {σ : Mem} (h : St n J T σ) : J.1 = n := by
  rw [← h.2.2.1, ← h.2.2.2.2.1]
  rfl
theorem St.tu {n : Int} {J : JT} {T : Int → Int} {σ : Mem} (h : St n J T σ) {k : Int} (hk : q_in n k) : 0 ≤ T k ∧ T k ≤ 200 := by
  have := h.1.tu k (by rw [h.2.2.2.2.1]; exact hk)
  rw [h.2.2.2.1] at this
  exact this
theorem St.t {n : Int} {J : JT} {T : Int → Int} {σ : Mem} (h : St n J T σ) {k : Int} (hk : q_in n k) : σ 4 k = T k := by
  rw [← h.2.2.2.1]
  unfold tA
  rw [h.2.2.2.2.1, q_nrm_in hk]
theorem St.out {n : Int} {J : JT} {T : Int → Int} {σ : Mem} (h : St n J T σ) {k : Int} (hk : ¬ q_in n k) : T k = 0 := by
  rw [← h.2.2.2.1]
  unfold tA
  rw [h.2.2.2.2.1]
  exact if_neg hk
theorem St.br {n : Int} {J : JT} {T : Int → Int} {σ : Mem} (h : St n J T σ) {k : Int} (hk : q_in n k) : c_br σ k = J.2.2.2.2.2 k := by
  rw [← h.2.2.1]
  show c_br σ k = q_nrm (σ 1 0) (c_br σ) k
  rw [h.2.2.2.2.1, q_nrm_in hk]
theorem St.sum {n : Int} {J : JT} {T : Int → Int} {σ : Mem} (h : St n J T σ) : q_sum (σ 4) (σ 1 0).toNat = q_sum T n.toNat := by
  have hn := h.n
  rw [h.2.2.2.2.1]
  exact q_sum_congr _ (fun k hk => h.t ⟨hk.1, by have := hk.2; omega⟩)
theorem St.sumb {n : Int} {J : JT} {T : Int → Int} {σ : Mem} (h : St n J T σ) : 0 ≤ q_sum T n.toNat ∧ q_sum T n.toNat ≤ 1200 := by
  have hn := h.n
  exact q_sum_tu (by omega) (fun k hk => h.tu ⟨hk.1, by have := hk.2; omega⟩)
theorem St.fr {n : Int} {J : JT} {T U : Int → Int} {σ s : Mem} (h : St n J T σ) (f : FrV σ s) (ok : OkA s) (e : tA s = U) : St n J U s :=
  ⟨ok, f.N h.2.1, f.j.trans h.2.2.1, e, f.n.trans h.2.2.2.2.1, fun k hk => by rw [f.1 6 (by omega) (by omega) (by omega)]; exact h.2.2.2.2.2 k hk⟩
theorem St.row {n : Int} {J : JT} {T : Int → Int} {σ : Mem} (h : St n J T σ) : q_nrm (σ 1 0) (σ 6) = q_id n := by
  rw [h.2.2.2.2.1]
  exact q_nrm_congr (fun k hk => h.2.2.2.2.2 k hk)
theorem St.zero {n : Int} {J : JT} {T : Int → Int} {σ : Mem} (h : St n J T σ) {k : Int} (hk : q_in n k) : St n J (q_set T k 0) (m_upd σ 4 k 0) := by
  have f : ∀ c : Nat, c ≠ 4 → m_upd σ 4 k 0 c = σ c := fun c hc => m_upd_ne _ _ _ _ _ hc
  have fv : FrV σ (m_upd σ 4 k 0) := ⟨fun c _ _ c3 => f c c3, f 22 (by omega)⟩
  have e4 : ∀ j, m_upd σ 4 k 0 4 j = if j = k then 0 else σ 4 j := fun j => by
    rw [m_upd_at]
    simp
  have f1 := f 1 (by omega)
  have ok : OkA (m_upd σ 4 k 0) := by
    obtain ⟨⟨⟨a1, a2, a3, a4⟩, a5, a6⟩, a7⟩ := h.1
    refine ⟨⟨⟨?_, ?_, fun j hj => ?_, ?_⟩, ?_, ?_⟩, fun j hj => ?_⟩
    · rw [f1]
      exact a1
    · rw [f1]
      exact a2
    · rw [f1] at hj
      rw [c_br_congr f1, f 2 (by omega), f 3 (by omega), f 5 (by omega), e4]
      have x := a3 j hj
      refine ⟨x.1, x.2.1, ?_, x.2.2.2.1, x.2.2.2.2⟩
      have y := x.2.2.1
      split <;> omega
    · rw [f1, c_br_congr f1]
      exact a4
    · rw [f1]
      exact a5
    · rw [f1]
      exact a6
    · rw [f1] at hj
      rw [e4]
      have := a7 j hj
      split <;> omega
  refine h.fr fv ok ?_
  funext j
  unfold tA q_set
  rw [f1, h.2.2.2.2.1]
  by_cases w : q_in n j
  · rw [q_nrm_in w, e4]
    by_cases w2 : j = k
    · rw [if_pos w2, if_pos w2]
    · rw [if_neg w2, if_neg w2]
      exact h.t w
  · rw [show q_nrm n (m_upd σ 4 k 0 4) j = 0 from if_neg w]
    by_cases w2 : j = k
    · rw [if_pos w2]
    · rw [if_neg w2]
      exact (h.out w).symm
theorem S_told2 {n : Int} {J : JT} {T : Int → Int} {σ : Mem} (h : St n J T σ) {k : Int} (hk : q_in n k) {Q : Int → Mem → Prop} (q : Q (T k) σ) : x7_told k 2 σ Q := by
  refine V_told2 h.1.1.n (by rw [h.2.2.2.2.1]; exact hk) ?_
  rw [h.t hk]
  exact q
theorem S_told4 {n : Int} {J : JT} {T : Int → Int} {σ : Mem} (h : St n J T σ) {k : Int} (hk : q_in n k) {Q : Int → Mem → Prop} (q : Q (J.2.2.2.2.2 k) σ) : x7_told k 4 σ Q := by
  refine V_told4 h.1.1.n h.1.1.2.1 (by rw [h.2.2.2.2.1]; exact hk) ?_
  rw [h.br hk]
  exact q
theorem S_told7 {n : Int} {J : JT} {T : Int → Int} {σ : Mem} (h : St n J T σ) {k : Int} (hk : q_in n k) {Q : Int → Mem → Prop} (q : Q k σ) : x7_told k 7 σ Q :=
  V_told7 h.1.1.n (by rw [h.2.2.2.2.1]; exact hk) (by rw [h.2.2.2.2.1]; exact h.2.2.2.2.2) q
theorem S_count4 {n : Int} {J : JT} {T : Int → Int} {σ : Mem} (h : St n J T σ) {Q : Int → Mem → Prop} (q : Q (q_sum T n.toNat) σ) : x7_count 4 σ Q := by
  refine V_count4 h.1.1.n ?_
  rw [h.sum]
  exact q
theorem S_zero {n : Int} {J : JT} {T : Int → Int} {σ : Mem} (h : St n J T σ) {k : Int} (hk : q_in n k) {Q : Int → Mem → Prop} (q : ∀ s : Mem, St n J (q_set T k 0) s → Q (T k) s) : x7_set k 2 0 σ Q := by
  refine V_set2 h.1.1.n (by rw [h.2.2.2.2.1]; exact hk) (by omega) ?_
  rw [h.t hk]
  exact q _ (h.zero hk)
theorem S_passes {n : Int} {J : JT} {T : Int → Int} {σ : Mem} (h : St n J T σ) {t : Int} (ht : 1 ≤ t ∧ t ≤ 900) {Q : Int → Mem → Prop} (q1 : 0 ≤ (q_rnd J (q_id n) t 20 0 T 0).1 → ∀ s : Mem, St n J (q_rnd J (q_id n) t 20 0 T 0).2.1 s → Q (q_rnd J (q_id n) t 20 0 T 0).1 s) (q2 : (q_rnd J (q_id n) t 20 0 T 0).1 < 0 → ∀ s : Mem, St n J T s → Q (-100003) s) : x7_passes t σ Q := by
  have hr : ∀ k, q_in (σ 1 0) k → q_in (σ 1 0) (σ 6 k) := fun k hk => by
    rw [h.2.2.2.2.1] at hk ⊢
    rw [h.2.2.2.2.2 k hk]
    exact hk
  refine V_passes h.1 ht hr ?_ ?_
  · rw [h.row, h.2.2.1, h.2.2.2.1]
    exact fun w s f ok e => q1 w s (h.fr f ok e)
  · rw [h.row, h.2.2.1, h.2.2.2.1]
    exact fun w s f ok e => q2 w s (h.fr f ok e)
theorem S_even {n : Int} {J : JT} {T : Int → Int} {σ : Mem} (h : St n J T σ) {t p : Int} (ht : 1 ≤ t ∧ t ≤ 900) (hp : p = -1 ∨ q_in n p) {Q : Int → Mem → Prop} (q : ∀ s : Mem, St n J T s → Q (if (q_evn J t 1202 (q_zer J T)).1 = 0 then -100003 else if p = -1 then q_sum (q_evn J t 1202 (q_zer J T)).2 n.toNat else (q_evn J t 1202 (q_zer J T)).2 p) s) : x7_even t p σ Q := by
  refine V_even h.1 h.2.1 ht (by rw [h.2.2.2.2.1]; exact hp) (fun s f ok e => ?_)
  rw [h.2.2.2.2.1, h.2.2.1, h.2.2.2.1]
  exact q s (h.fr f ok (e.trans h.2.2.2.1))
theorem S_best {n : Int} {J : JT} {T : Int → Int} {σ : Mem} (h : St n J T σ) (h6 : n ≠ 6) {t w : Int} (ht : 1 ≤ t ∧ t ≤ 900) (hw : 0 ≤ w ∧ w ≤ 2) {Q : Int → Mem → Prop} (q : ∀ (s : Mem) (b : Int), St n J T s → q_bst (q_isRow n) (q_rp J T t) (q_rd J T t) b → Q (if b = -1 then -100003 else if w = 0 then b else if w = 1 then q_rp J T t b else q_rd J T t b) s) : x7_best t w σ Q := by
  refine V_best h.1 h.2.1 (by rw [h.2.2.2.2.1]; exact h6) ht hw (fun s b f ok e hb => ?_)
  rw [h.2.2.2.2.1, h.2.2.1, h.2.2.2.1] at hb
  rw [h.2.2.1, h.2.2.2.1]
  exact q s b (h.fr f ok (e.trans h.2.2.2.1)) hb
/-- the joint with a row of its own -/
theorem S_row {n : Int} {J : JT} {T : Int → Int} {σ : Mem} (h : St n J T σ) {x : Int} (ix : InI x) (hx : q_isRow n x) {Q : Int → Mem → Prop} (q : ∀ s : Mem, OkA s → jA s 5 = J → tA s = T → s 1 0 = n → q_nrm n (s 6) = q_rw n x → (∀ k, q_in n k → q_in n (s 6 k)) → Q 1 s) : x7_row x σ Q := by
  have hn := h.n
  refine V_row ix h.1.1.n (by rw [h.2.2.2.2.1]; exact hx) (fun s f e => ?_)
  rw [h.2.2.2.2.1] at e
  obtain ⟨ok, et, ej⟩ := h.1.other (s := s) (fun c c1 c2 => f c (by omega))
  have er : ∀ k, q_in n k → s 6 k = q_rw n x k := fun k hk => by
    rw [e k hk]
    unfold q_rw
    rw [q_nrm_in hk]
  refine q s ok (ej.trans h.2.2.1) (et.trans h.2.2.2.1) (by rw [f 1 (by omega)]; exact h.2.2.2.2.1) ?_ (fun k hk => ?_)
  · unfold q_rw
    exact q_nrm_congr (fun k hk => e k hk)
  · rw [er k hk]
    exact q_rw_in hn hx k hk
/-- passes by that row -/
theorem S_rowed {n : Int} {J : JT} {T : Int → Int} {x : Int} {σ : Mem} (ok : OkA σ) (ej : jA σ 5 = J) (et : tA σ = T) (e1 : σ 1 0 = n) (er : q_nrm n (σ 6) = q_rw n x) (hr : ∀ k, q_in n k → q_in n (σ 6 k)) (hx : q_isRow n x) {t : Int} (ht : 1 ≤ t ∧ t ≤ 900) {Q : Int → Mem → Prop} (q1 : 0 ≤ q_rp J T t x → ∀ s : Mem, (3 ≤ s 1 0 ∧ s 1 0 ≤ 6) → q_sum (s 4) (s 1 0).toNat = q_sum T n.toNat + q_rd J T t x → Q (q_rp J T t x) s) (q2 : q_rp J T t x < 0 → ∀ s : Mem, (3 ≤ s 1 0 ∧ s 1 0 ≤ 6) → q_sum (s 4) (s 1 0).toNat = q_sum T n.toNat → Q (-100003) s) : x7_passes t σ Q := by
  have hn := ok.1.n
  rw [e1] at hn
  have jn : J.1 = n := by
    rw [← ej, ← e1]
    rfl
  have tb : ∀ k, q_in n k → 0 ≤ T k ∧ T k ≤ 200 := fun k hk => by
    have := ok.tu k (by rw [e1]; exact hk)
    rw [et] at this
    exact this
  have sm : ∀ (s : Mem) (U : Int → Int), s 1 0 = n → tA s = U → q_sum (s 4) (s 1 0).toNat = q_sum U n.toNat := fun s U h1 h2 => by
    rw [h1, ← h2]
    refine q_sum_congr _ (fun k hk => ?_)
    unfold tA
    rw [h1, q_nrm_in ⟨hk.1, by have := hk.2; omega⟩]
  have rd := q_rd_bd (j := J) (tu := T) (t := t) (x := x) (by rw [jn]; exact hn) (by rw [jn]; exact tb) (by rw [jn]; exact hx)
  unfold q_rp at rd q1 q2
  unfold q_rd at rd q1
  rw [jn] at rd q1 q2
  refine V_passes ok ht (by rw [e1]; exact hr) ?_ ?_
  · rw [e1, er, ej, et]
    refine fun w s f oks e => q1 w s (by rw [f.n, e1]; exact hn) ?_
    rw [sm s _ (f.n.trans e1) e]
    exact (rd w).1
  · rw [e1, er, ej, et]
    refine fun w s f oks e => q2 w s (by rw [f.n, e1]; exact hn) ?_
    rw [sm s _ (f.n.trans e1) e]
/-- the turns of whole bolts below k are none -/
def z_T (J : JT) (T : Int → Int) (k : Int) (j : Int) : Int := if (0 ≤ j ∧ j < k) ∧ J.2.2.2.2.2 j = 0 then 0 else T j
theorem z_T0 (J : JT) (T : Int → Int) : z_T J T 0 = T := by
  funext j
  unfold z_T
  rw [if_neg (by omega)]
theorem z_Tn {J : JT} {T : Int → Int} {n : Int} (h : J.1 = n) : z_T J T n = q_zer J T := by
  funext j
  unfold z_T q_zer
  rw [h]
theorem z_Ts {J : JT} {T : Int → Int} {k : Int} (h0 : 0 ≤ k) (hb : J.2.2.2.2.2 k = 0) : q_set (z_T J T k) k 0 = z_T J T (k + 1) := by
  funext j
  unfold q_set z_T
  by_cases w : j = k
  · rw [if_pos w, if_pos ⟨by omega, by rw [w]; exact hb⟩]
  · rw [if_neg w]
    by_cases w2 : (0 ≤ j ∧ j < k) ∧ J.2.2.2.2.2 j = 0
    · rw [if_pos w2, if_pos ⟨by omega, w2.2⟩]
    · rw [if_neg w2, if_neg (fun y => w2 ⟨by omega, y.2⟩)]
theorem z_Tb {J : JT} {T : Int → Int} {k : Int} (hb : ¬ J.2.2.2.2.2 k = 0) : z_T J T k = z_T J T (k + 1) := by
  funext j
  unfold z_T
  by_cases w2 : (0 ≤ j ∧ j < k) ∧ J.2.2.2.2.2 j = 0
  · rw [if_pos w2, if_pos ⟨by omega, w2.2⟩]
  · rw [if_neg w2, if_neg (fun y => w2 ⟨⟨y.1.1, by
      by_cases w : j = k
      · rw [w] at y
        exact absurd y.2 hb
      · omega⟩, y.2⟩)]
theorem z_Tk {J : JT} {T : Int → Int} {k : Int} : z_T J T k k = T k := by
  unfold z_T
  rw [if_neg (by omega)]
