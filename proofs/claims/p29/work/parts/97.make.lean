/-! ===== the law's joint, made out of the script ===== -/
def g_cell (e : Nat → Nat) (k : Int) : Int := if m_L e ≤ k then 747796405 * (k + 1) else m_x e k
def g_low (v n : Int) : Int := Int.tmod (andI v 2147483647) n
theorem g_and (x : Int) : 0 ≤ andI x 2147483647 := by
  unfold andI
  have h : (Int32.ofInt x &&& Int32.ofInt 2147483647).toBitVec.toNat ≤ 2147483647 := by
    have : (Int32.ofInt x &&& Int32.ofInt 2147483647).toBitVec = (Int32.ofInt x).toBitVec &&& (Int32.ofInt 2147483647).toBitVec := rfl
    rw [this, BitVec.toNat_and]
    exact Nat.and_le_right
  have e : (Int32.ofInt x &&& Int32.ofInt 2147483647).toInt = ((Int32.ofInt x &&& Int32.ofInt 2147483647).toBitVec.toNat : Int) := by
    show (Int32.ofInt x &&& Int32.ofInt 2147483647).toBitVec.toInt = _
    exact BitVec.toInt_eq_toNat_of_lt (by omega)
  rw [e]
  omega
theorem g_low_bd (v : Int) {n : Int} (hn : 0 < n) : 0 ≤ g_low v n ∧ g_low v n < n := by
  unfold g_low
  rw [Int.tmod_eq_emod_of_nonneg (g_and v)]
  exact ⟨Int.emod_nonneg _ (by omega), Int.emod_lt_of_pos _ hn⟩
def g_rib (e : Nat → Nat) : Int := 1 + g_low (g_cell e 1) 9
def g_st (e : Nat → Nat) (k : Int) : Int := 1 + g_low (g_cell e (2 + k)) 9
def g_pd (e : Nat → Nat) (k : Int) : Int := 1 + g_low (g_cell e (10 + k)) 9
def g_tu (e : Nat → Nat) (k : Int) : Int := g_low (g_cell e (20 + k)) (if g_low (g_cell e 26) 2 = 0 then 201 else 20)
def g_lo (e : Nat → Nat) (k : Int) : Int := g_low (g_cell e (30 + k)) (if g_low (g_cell e 27) 2 = 0 then 201 else 10)
def g_br (e : Nat → Nat) (k : Int) : Int := if 0 < k ∧ g_low (g_cell e (40 + k)) 5 = 0 then 1 else 0
def g_J (e : Nat → Nat) (n : Int) : JT := (n, g_rib e, q_nrm n (g_st e), q_nrm n (g_pd e), q_nrm n (g_lo e), q_nrm n (g_br e))
def g_T (e : Nat → Nat) (n : Int) : Int → Int := q_nrm n (g_tu e)
theorem g_rib_bd (e : Nat → Nat) : 1 ≤ g_rib e ∧ g_rib e ≤ 9 := by
  unfold g_rib
  have := g_low_bd (g_cell e 1) (n := 9) (by omega)
  omega
theorem g_st_bd (e : Nat → Nat) (k : Int) : 1 ≤ g_st e k ∧ g_st e k ≤ 9 := by
  unfold g_st
  have := g_low_bd (g_cell e (2 + k)) (n := 9) (by omega)
  omega
theorem g_pd_bd (e : Nat → Nat) (k : Int) : 1 ≤ g_pd e k ∧ g_pd e k ≤ 9 := by
  unfold g_pd
  have := g_low_bd (g_cell e (10 + k)) (n := 9) (by omega)
  omega
theorem g_tu_bd (e : Nat → Nat) (k : Int) : 0 ≤ g_tu e k ∧ g_tu e k ≤ 200 := by
  unfold g_tu
  have := g_low_bd (g_cell e (20 + k)) (n := if g_low (g_cell e 26) 2 = 0 then 201 else 20) (by split <;> omega)
  have b : (if g_low (g_cell e 26) 2 = 0 then (201 : Int) else 20) ≤ 201 := by split <;> omega
  omega
theorem g_lo_bd (e : Nat → Nat) (k : Int) : 0 ≤ g_lo e k ∧ g_lo e k ≤ 200 := by
  unfold g_lo
  have := g_low_bd (g_cell e (30 + k)) (n := if g_low (g_cell e 27) 2 = 0 then 201 else 10) (by split <;> omega)
  have b : (if g_low (g_cell e 27) 2 = 0 then (201 : Int) else 10) ≤ 201 := by split <;> omega
  omega
theorem V_cell {e : Nat → Nat} (hL : m_L e ≤ 260) {k : Int} (hk : 0 ≤ k ∧ k ≤ 1000) {σ : Mem} {Q : Int → Mem → Prop} (h : Q (g_cell e k) σ) : xL_cell e k σ Q := by
  have h0 : 0 ≤ m_L e := by
    unfold m_L
    omega
  unfold g_cell at h
  refine ⟨⟨by constructor <;> omega, by constructor <;> omega⟩, fun c => ?_, fun c => ⟨⟨hk.1, c⟩, ?_⟩⟩
  · rw [if_pos c] at h
    exact h
  · rw [if_neg (by omega)] at h
    exact h
theorem V_low {v n : Int} (hn : 0 < n ∧ n ≤ 1000) {σ : Mem} {Q : Int → Mem → Prop} (h : Q (g_low v n) σ) : xL_low v n σ Q := ⟨⟨s_andIn _ _, by constructor <;> omega, by omega⟩, h⟩
theorem V_set0 {σ : Mem} {k v : Int} (hn : 3 ≤ σ 1 0 ∧ σ 1 0 ≤ 6) (a : q_in (σ 1 0) k) (hv : 1 ≤ v ∧ v ≤ 9) {Q : Int → Mem → Prop} (h : Q (σ 2 k) (m_upd σ 2 k v)) : x7_set k 0 v σ Q := V_set hn a (by omega) (by rw [if_pos (by omega), if_pos (by omega)]; exact hv) h
theorem V_set1 {σ : Mem} {k v : Int} (hn : 3 ≤ σ 1 0 ∧ σ 1 0 ≤ 6) (a : q_in (σ 1 0) k) (hv : 1 ≤ v ∧ v ≤ 9) {Q : Int → Mem → Prop} (h : Q (σ 3 k) (m_upd σ 3 k v)) : x7_set k 1 v σ Q := V_set hn a (by omega) (by rw [if_pos (by omega), if_pos (by omega)]; exact hv) h
theorem V_set2 {σ : Mem} {k v : Int} (hn : 3 ≤ σ 1 0 ∧ σ 1 0 ≤ 6) (a : q_in (σ 1 0) k) (hv : 0 ≤ v ∧ v ≤ 200) {Q : Int → Mem → Prop} (h : Q (σ 4 k) (m_upd σ 4 k v)) : x7_set k 2 v σ Q := V_set hn a (by omega) (by rw [if_neg (by omega), if_neg (by omega)]; exact hv) h
theorem V_set3 {σ : Mem} {k v : Int} (hn : 3 ≤ σ 1 0 ∧ σ 1 0 ≤ 6) (a : q_in (σ 1 0) k) (hv : 0 ≤ v ∧ v ≤ 200) {Q : Int → Mem → Prop} (h : Q (σ 5 k) (m_upd σ 5 k v)) : x7_set k 3 v σ Q := V_set hn a (by omega) (by rw [if_neg (by omega), if_neg (by omega)]; exact hv) h
/-- the joint with the numbers of k bolts laid, and b bolts looked at for breaking -/
def Mk (e : Nat → Nat) (n k b : Int) (s : Mem) : Prop :=
  (s 1 0 = n ∧ s 1 1 = g_rib e ∧ (0 ≤ s 1 2 ∧ s 1 2 < 64)) ∧ (∀ j, 0 ≤ j → q_bit (s 1 2) j = decide (j < b ∧ g_br e j = 1)) ∧ (∀ j, q_in n j → j < k → s 2 j = g_st e j ∧ s 3 j = g_pd e j ∧ s 4 j = g_tu e j ∧ s 5 j = g_lo e j) ∧ (∀ j, q_in n j → k ≤ j → s 2 j = 5 ∧ s 3 j = 3 ∧ s 4 j = 0 ∧ s 5 j = 0) ∧ (∀ j, q_in n j → s 6 j = j) ∧ RelN s
theorem Mk.cells {e : Nat → Nat} {n k b : Int} {s : Mem} (h : Mk e n k b s) : Mk e n (k + 1) b (m_upd (m_upd (m_upd (m_upd s 2 k (g_st e k)) 3 k (g_pd e k)) 4 k (g_tu e k)) 5 k (g_lo e k)) := by
  obtain ⟨h1, h2, h3, h4, h5, h6⟩ := h
  refine ⟨?_, ?_, fun j hj hk => ?_, fun j hj hk => ?_, fun j hj => ?_, ?_⟩
  · simp only [m_upd_at]
    exact h1
  · simp only [m_upd_at]
    exact h2
  · by_cases w : j = k
    · simp [m_upd_at, w]
    · simpa [m_upd_at, w] using h3 j hj (by omega)
  · have w : ¬ j = k := by omega
    simpa [m_upd_at, w] using h4 j hj (by omega)
  · simpa [m_upd_at] using h5 j hj
  · unfold RelN
    simp only [m_upd_at]
    exact h6
theorem Mk.none {e : Nat → Nat} {n k b : Int} {s : Mem} (h : Mk e n k b s) (hb : g_br e b = 0) : Mk e n k (b + 1) s := by
  obtain ⟨h1, h2, h3, h4, h5, h6⟩ := h
  refine ⟨h1, fun j hj => ?_, h3, h4, h5, h6⟩
  rw [h2 j hj]
  by_cases w : j = b
  · rw [w, hb]
    simp
  · congr 1
    apply propext
    constructor
    · exact fun q => ⟨by omega, q.2⟩
    · exact fun q => ⟨by omega, q.2⟩
theorem Mk.bit {e : Nat → Nat} {n k b v : Int} {s : Mem} (h : Mk e n k b s) (hb : g_br e b = 1) (hv : 0 ≤ v ∧ v < 64) (hq : ∀ j, 0 ≤ j → q_bit v j = if j = b then true else q_bit (s 1 2) j) : Mk e n k (b + 1) (m_upd s 1 2 v) := by
  obtain ⟨h1, h2, h3, h4, h5, h6⟩ := h
  have f : ∀ c : Nat, c ≠ 1 → m_upd s 1 2 v c = s c := fun c hc => m_upd_ne _ _ _ _ _ hc
  have e12 : m_upd s 1 2 v 1 2 = v := by
    rw [m_upd_at]
    simp
  refine ⟨?_, fun j hj => ?_, fun j hj hk => ?_, fun j hj hk => ?_, fun j hj => ?_, ?_⟩
  · rw [e12]
    simp only [m_upd_at]
    exact ⟨h1.1, h1.2.1, hv⟩
  · rw [e12, hq j hj]
    by_cases w : j = b
    · rw [if_pos w, w, hb]
      simp
      omega
    · rw [if_neg w, h2 j hj]
      congr 1
      apply propext
      constructor
      · exact fun q => ⟨by omega, q.2⟩
      · exact fun q => ⟨by omega, q.2⟩
  · rw [f 2 (by omega), f 3 (by omega), f 4 (by omega), f 5 (by omega)]
    exact h3 j hj hk
  · rw [f 2 (by omega), f 3 (by omega), f 4 (by omega), f 5 (by omega)]
    exact h4 j hj hk
  · rw [f 6 (by omega)]
    exact h5 j hj
  · unfold RelN
    rw [f 22 (by omega)]
    exact h6
theorem g_br_or (e : Nat → Nat) (k : Int) : g_br e k = 0 ∨ g_br e k = 1 := by
  unfold g_br
  split <;> omega
theorem Mk.br {e : Nat → Nat} {n k b : Int} {s : Mem} (h : Mk e n k b s) {j : Int} (hj : 0 ≤ j) : c_br s j = if j < b then g_br e j else 0 := by
  unfold c_br
  rw [h.2.1 j hj]
  by_cases w : j < b
  · rw [if_pos w]
    rcases g_br_or e j with q | q
    · rw [q]
      simp
    · rw [q]
      simp [w]
  · rw [if_neg w]
    simp [w]
theorem V_make {e : Nat → Nat} (hL : m_L e ≤ 260) {n : Int} (hn : 3 ≤ n ∧ n ≤ 6) {σ : Mem} (hN : RelN σ) {Q : Int → Mem → Prop} (h : ∀ s : Mem, Mk e n n n s → Q 1 s) : xL_make e n σ Q := by
  apply xL_make_i
  have rb := g_rib_bd e
  have l2 : ∀ v : Int, 0 ≤ g_low v 2 ∧ g_low v 2 < 2 := fun v => g_low_bd v (by omega)
  have l5 : ∀ v : Int, 0 ≤ g_low v 5 ∧ g_low v 5 < 5 := fun v => g_low_bd v (by omega)
  have key : ∀ (m : Nat) (k : Int) (s : Mem), 0 ≤ k → k ≤ n → (n - k).toNat = m → Mk e n k k s → xL_make_L25 e Q n k s := by
    intro m
    induction m with
    | zero =>
      intro k s h0 h1 hm hM
      obtain rfl : k = n := by omega
      apply xL_make_s25
      exact ⟨⟨by constructor <;> omega, by constructor <;> omega⟩, fun _ => ⟨by omega, h s hM⟩, fun c => absurd c (by omega)⟩
    | succ m ih =>
      intro k s h0 h1 hm hM
      have hk : q_in n k := ⟨h0, by omega⟩
      have x0 := hM.2.2.2.1 k hk (by omega)
      have e10 := hM.1.1
      have bs := g_st_bd e k
      have bp := g_pd_bd e k
      have bt := g_tu_bd e k
      have bl := g_lo_bd e k
      -- behind the four numbers
      have A3 : xL_make_L152 e Q n k (if g_low (g_cell e 27) 2 = 0 then 201 else 10) (g_cell e (30 + k)) 3 k (m_upd (m_upd (m_upd s 2 k (g_st e k)) 3 k (g_pd e k)) 4 k (g_tu e k)) := by
        apply xL_make_s152
        have e10' : (m_upd (m_upd (m_upd s 2 k (g_st e k)) 3 k (g_pd e k)) 4 k (g_tu e k)) 1 0 = n := by
          simp only [m_upd_at]
          exact e10
        have e5 : (m_upd (m_upd (m_upd s 2 k (g_st e k)) 3 k (g_pd e k)) 4 k (g_tu e k)) 5 k = 0 := by
          simp only [m_upd_at]
          exact x0.2.2.2
        have M1 := hM.cells
        refine V_low (by split <;> omega) (V_set3 (by rw [e10']; omega) (by rw [e10']; exact hk) bl ?_)
        rw [e5]
        refine ⟨by omega, fun _ => ⟨by constructor <;> omega, fun c => ?_, fun c => ?_⟩, fun c => absurd rfl c⟩
        · refine ih (k + 1) _ (by omega) (by omega) (by omega) (M1.none ?_)
          unfold g_br
          rw [if_neg (by omega)]
        · refine V_cell hL (by omega) (V_low (by omega) ⟨by have := l5 (g_cell e (40 + k)); constructor <;> omega, fun w => ?_, fun w => ?_⟩)
          · refine ih (k + 1) _ (by omega) (by omega) (by omega) (M1.none ?_)
            unfold g_br
            rw [if_neg (fun z => w z.2)]
          · have gb : g_br e k = 1 := by
              unfold g_br
              rw [if_pos ⟨c, w⟩]
            have c10 := M1.1.1
            refine V_break (by rw [c10]; omega) M1.1.2.2 (fun j hj => ?_) (by rw [c10]; exact hk) ?_ ⟨0, by rw [c10]; exact ⟨by omega, by omega⟩, by omega, ?_⟩ (fun v v1 v2 => ⟨by omega, fun _ => ?_, fun c => absurd rfl c⟩)
            · rw [c10] at hj
              rw [M1.2.1 j (by omega)]
              simp
              omega
            · rw [M1.br h0, if_neg (by omega)]
            · rw [M1.br (by omega), if_pos c]
              unfold g_br
              rw [if_neg (by omega)]
            · exact ih (k + 1) _ (by omega) (by omega) (by omega) (M1.bit gb v1 v2)
      have A2 : xL_make_L111 e Q n k (if g_low (g_cell e 26) 2 = 0 then 201 else 20) (g_cell e (20 + k)) 2 k (m_upd (m_upd s 2 k (g_st e k)) 3 k (g_pd e k)) := by
        apply xL_make_s111
        have e10' : (m_upd (m_upd s 2 k (g_st e k)) 3 k (g_pd e k)) 1 0 = n := by
          simp only [m_upd_at]
          exact e10
        have e4 : (m_upd (m_upd s 2 k (g_st e k)) 3 k (g_pd e k)) 4 k = 0 := by
          simp only [m_upd_at]
          exact x0.2.2.1
        refine V_low (by split <;> omega) (V_set2 (by rw [e10']; omega) (by rw [e10']; exact hk) bt ?_)
        rw [e4]
        refine ⟨by omega, fun c => absurd rfl c, fun _ => V_cell hL (by omega) (V_cell hL (by omega) (V_low (by omega) ⟨by have := l2 (g_cell e 27); constructor <;> omega, fun w => ?_, fun w => ?_⟩))⟩
        · rw [if_neg w] at A3
          exact A3
        · rw [if_pos w] at A3
          exact A3
      apply xL_make_s25
      refine ⟨⟨by constructor <;> omega, by constructor <;> omega⟩, fun c => absurd c (by omega), fun _ => ?_⟩
      refine V_cell hL (by omega) (V_low (by omega) (V_set0 (by rw [e10]; omega) (by rw [e10]; exact hk) bs ?_))
      rw [x0.1]
      refine ⟨by omega, fun c => absurd rfl c, fun _ => ?_⟩
      have e10' : (m_upd s 2 k (g_st e k)) 1 0 = n := by
        simp only [m_upd_at]
        exact e10
      have e3 : (m_upd s 2 k (g_st e k)) 3 k = 3 := by
        simp only [m_upd_at]
        exact x0.2.1
      refine V_cell hL (by omega) (V_low (by omega) (V_set1 (by show 3 ≤ (m_upd s 2 k (g_st e k)) 1 0 ∧ (m_upd s 2 k (g_st e k)) 1 0 ≤ 6; rw [e10']; omega) (by show q_in ((m_upd s 2 k (g_st e k)) 1 0) k; rw [e10']; exact hk) bp ?_))
      show (InI ((m_upd s 2 k (g_st e k)) 3 k) ∧ InI 3) ∧ (¬ (m_upd s 2 k (g_st e k)) 3 k = 3 → _) ∧ ((m_upd s 2 k (g_st e k)) 3 k = 3 → _)
      rw [e3]
      refine ⟨by omega, fun c => absurd rfl c, fun _ => V_cell hL (by omega) (V_cell hL (by omega) (V_low (by omega) ⟨by have := l2 (g_cell e 26); constructor <;> omega, fun w => ?_, fun w => ?_⟩))⟩
      · rw [if_neg w] at A2
        exact A2
      · rw [if_pos w] at A2
        exact A2
  refine V_cell hL (by omega) (V_low (by omega) (V_joint (σ := σ) hn (by exact rb) (fun s s1 s2 s3 => ⟨⟨by constructor <;> omega, by constructor <;> omega⟩, fun _ => ?_, fun c => absurd rfl c⟩)))
  refine key _ 0 s (by omega) (by omega) rfl ⟨⟨s1.1, s1.2.1, by rw [s1.2.2]; omega⟩, fun j hj => ?_, fun j hj hk => absurd hk (by have := hj.1; omega), fun j hj _ => ?_, fun j hj => ?_, ?_⟩
  · rw [s1.2.2, s_zero]
    simp
    omega
  · have := s2 j ⟨hj.1, by have := hj.2; omega⟩
    exact ⟨this.1, this.2.1, this.2.2.1, this.2.2.2.1⟩
  · exact (s2 j ⟨hj.1, by have := hj.2; omega⟩).2.2.2.2
  · unfold RelN
    rw [s3]
    exact hN
theorem Mk.ok {e : Nat → Nat} {n : Int} (hn : 3 ≤ n ∧ n ≤ 6) {s : Mem} (h : Mk e n n n s) : OkA s ∧ RelN s ∧ jA s 5 = g_J e n ∧ tA s = g_T e n ∧ s 1 0 = n ∧ ∀ k, q_in (s 1 0) k → s 6 k = k := by
  have hb : ∀ k, q_in n k → c_br s k = g_br e k := fun k hk => by rw [h.br hk.1, if_pos hk.2]
  obtain ⟨⟨h10, h11, h12⟩, h2, h3, h4, h5, h6⟩ := h
  have rb := g_rib_bd e
  have x : ∀ k, q_in n k → s 2 k = g_st e k ∧ s 3 k = g_pd e k ∧ s 4 k = g_tu e k ∧ s 5 k = g_lo e k := fun k hk => h3 k hk hk.2
  refine ⟨⟨⟨⟨by rw [h10]; exact hn, by rw [h11]; exact rb, fun k hk => ?_, 0, ?_, ?_⟩, h12, fun k hk => ?_⟩, fun k hk => ?_⟩, h6, ?_, ?_, h10, by rw [h10]; exact h5⟩
  · rw [h10] at hk
    have y := x k hk
    rw [y.1, y.2.1, y.2.2.1, y.2.2.2, hb k hk]
    have := g_tu_bd e k
    exact ⟨g_st_bd e k, g_pd_bd e k, by omega, g_lo_bd e k, g_br_or e k⟩
  · rw [h10]
    exact ⟨by omega, by omega⟩
  · rw [hb 0 ⟨by omega, by omega⟩]
    unfold g_br
    rw [if_neg (by omega)]
  · rw [h10] at hk
    rw [h2 k (by omega)]
    simp
    omega
  · rw [h10] at hk
    rw [(x k hk).2.2.1]
    exact (g_tu_bd e k).2
  · unfold jA g_J
    rw [h10, h11]
    rw [q_nrm_congr (fun k hk => (x k hk).1), q_nrm_congr (fun k hk => (x k hk).2.1), q_nrm_congr (fun k hk => (x k hk).2.2.2), q_nrm_congr hb]
  · unfold tA g_T
    rw [h10]
    exact q_nrm_congr (fun k hk => (x k hk).2.2.1)
