/-! ===== read: clause by clause ===== -/
def CA (σ : Mem) : Prop := OkA σ ∧ ∀ k, q_in (σ 1 0) k → q_in (σ 1 0) (σ 6 k)
theorem Rel.CA' {σ τ : Mem} (R : Rel σ τ) : CA σ := ⟨R.okA, R.rowA⟩
theorem B_draw {σ τ : Mem} (R : Rel σ τ) {p1 p2 : Int} (a : q_in (τ 0 0) p1) (b : 1 ≤ p2 ∧ p2 ≤ 900) {P : Int → Mem → Prop} (k3 : ¬ τ 5 p1 = 0 → P (-100003) τ) (k4 : τ 5 p1 = 0 → ∀ t : Mem, FrT τ t → tB t = q_drT (jB τ) (tB τ) p1 p2 → P (if q_drw (jB τ) (tB τ) p1 p2 < 0 then -100003 else q_drw (jB τ) (tB τ) p1 p2) t) : x8_draw p1 p2 τ P := by
  have hn := R.n
  have e0 : σ 1 0 = τ 0 0 := R.1.1
  have a1 := a.1
  have a2 := a.2
  unfold x8_draw
  refine B_noBolt (by constructor <;> omega) (by omega) (fun a => ⟨by omega, fun _ => B_isAim (by constructor <;> omega) (fun b => ⟨by omega, fun _ => ?_, fun c => absurd c (by omega)⟩) (fun z => absurd b z), fun c => absurd rfl c⟩) (fun z => absurd a z)
  have hb := (R.JB.k a).2.2.2.2
  refine ⟨by omega, by rcases hb with q | q <;> rw [q] <;> omega, fun q => B_drawOf R.okB a q b (fun t f _ e => ?_), fun q => k3 q⟩
  have bd := q_drw_bd (j := jB τ) (h := p1) (t := p2) (tu := tB τ) (by rw [show tB τ p1 = τ 3 p1 from q_nrm_in a]; have := R.okB.2 p1 a; omega)
  have t3 : 0 ≤ tB τ p1 := by
    rw [show tB τ p1 = τ 3 p1 from q_nrm_in a]
    exact (R.JB.k a).2.2.1.1
  have k4 := k4 q t f e
  refine ⟨by rcases bd with w | w <;> constructor <;> omega, fun w => ?_, fun w => ?_⟩
  · rw [if_neg (by omega)] at k4
    exact k4
  · rw [if_pos w] at k4
    exact k4
theorem B_broken {σ τ : Mem} (R : Rel σ τ) {p1 p2 : Int} (a : q_in (τ 0 0) p1) (i2 : p2 = 0 ∨ p2 = 1) {P : Int → Mem → Prop} (k1 : p2 = 0 ∨ ¬ τ 5 p1 = 0 ∨ ¬ q_wh (τ 5) (τ 0 0).toNat = 1 → P (τ 5 p1) (m_upd τ 5 p1 p2)) (k2 : ¬ p2 = 0 → τ 5 p1 = 0 → q_wh (τ 5) (τ 0 0).toNat = 1 → P (-100003) τ) : x8_broken p1 p2 τ P := by
  have hn := R.n
  have e0 : σ 1 0 = τ 0 0 := R.1.1
  have hJB := R.JB
  have a1 := a.1
  have a2 := a.2
  have hb := (hJB.k a).2.2.2.2
  have whb := q_wh_bd (τ 5) (τ 0 0).toNat
  have fin : p2 = 0 ∨ ¬ τ 5 p1 = 0 ∨ ¬ q_wh (τ 5) (τ 0 0).toNat = 1 → x8_broken_L35 P p1 p2 τ := fun h => by
    apply x8_broken_s35
    refine ⟨by omega, B_bit (by rcases hb with q | q <;> rw [q] <;> omega) ⟨by omega, fun s e => ?_⟩⟩
    have k1 := k1 h
    have e5 : (if τ 5 p1 = 0 then (0 : Int) else 1) = τ 5 p1 := by
      rcases hb with q | q <;> rw [q] <;> rfl
    rw [e5, e]
    exact k1
  apply x8_broken_i
  exact B_noBolt (by constructor <;> omega) (by omega) (fun _ => ⟨by omega, fun _ => ⟨by omega, fun q => fin (Or.inl q), fun q => ⟨by omega, by rcases hb with q | q <;> rw [q] <;> omega, fun q2 => fin (Or.inr (Or.inl q2)), fun q2 => B_whole (by omega) (fun k hk => (hJB.k hk).2.2.2.2) ⟨⟨by constructor <;> omega, by omega⟩, fun q3 => fin (Or.inr (Or.inr q3)), fun q3 => k2 q q2 q3⟩⟩⟩, fun c => absurd rfl c⟩) (fun q => absurd a q)
theorem L_broken {σ : Mem} (ok : OkA σ) {p1 p2 : Int} (a : q_in (σ 1 0) p1) (i2 : p2 = 0 ∨ p2 = 1) {Q : Int → Mem → Prop} (k1 : p2 = 0 ∨ ¬ c_br σ p1 = 0 ∨ ¬ q_wh (c_br σ) (σ 1 0).toNat = 1 → ∀ v : Int, (0 ≤ v ∧ v < 64) → (∀ k, 0 ≤ k → q_bit v k = if k = p1 then decide (p2 = 1) else q_bit (σ 1 2) k) → (∃ k, q_in (σ 1 0) k ∧ q_bit v k = false) → Q (c_br σ p1) (m_upd σ 1 2 v)) (k2 : ¬ p2 = 0 → c_br σ p1 = 0 → q_wh (c_br σ) (σ 1 0).toNat = 1 → Q (-100003) σ) : x7_broken p1 p2 σ Q := by
  have hn := ok.1.n
  have a1 := a.1
  have a2 := a.2
  have hB := ok.1.2.1
  have whb := q_wh_bd (c_br σ) (σ 1 0).toNat
  have hb : c_br σ p1 = 0 ∨ c_br σ p1 = 1 := by
    unfold c_br
    split <;> omega
  have fin : (p2 = 0 ∨ ¬ c_br σ p1 = 0 ∨ ¬ q_wh (c_br σ) (σ 1 0).toNat = 1) → ((∃ k, q_in (σ 1 0) k ∧ k ≠ p1 ∧ c_br σ k = 0) ∨ p2 = 0) → x7_broken_L45 Q p1 p2 (c_br σ p1) σ := fun h hw => by
    have hbi : InI (c_br σ p1) := by rcases hb with q | q <;> rw [q] <;> omega
    apply x7_broken_s45
    refine L_markBroken hB ⟨a1, by omega⟩ i2 (fun v v1 v2 => L_asNumber hbi ?_)
    have e5 : (if c_br σ p1 = 0 then (0 : Int) else 1) = c_br σ p1 := by
      rcases hb with q | q <;> rw [q] <;> rfl
    rw [e5]
    refine k1 h v v1 v2 ?_
    by_cases w : p2 = 0
    · exact ⟨p1, a, by rw [v2 p1 a1, if_pos rfl, w]; rfl⟩
    · rcases hw with ⟨k, k1, k2, k3⟩ | q
      · refine ⟨k, k1, ?_⟩
        rw [v2 k k1.1, if_neg k2]
        unfold c_br at k3
        revert k3
        cases q_bit (σ 1 2) k <;> simp
      · exact absurd q w
  apply x7_broken_i
  refine L_has (by constructor <;> omega) hn (fun a => ⟨by omega, fun _ => L_isBroken hB (by omega) ⟨by omega, fun q => fin (Or.inl q) (Or.inr q), fun q => ⟨by rcases hb with q | q <;> rw [q] <;> omega, fun q2 => fin (Or.inr (Or.inl q2)) (Or.inl ?_), fun q2 => L_wholeCount hn hB ok.1.2.2 ⟨⟨by constructor <;> omega, by omega⟩, fun q3 => fin (Or.inr (Or.inr q3)) (Or.inl ?_), fun q3 => k2 q q2 q3⟩⟩⟩, fun c => absurd c (by omega)⟩) (fun q => absurd a q)
  · obtain ⟨k, k1, k2⟩ := ok.1.1.2.2.2
    exact ⟨k, k1, fun e => q2 (by rw [← e]; exact k2), k2⟩
  · obtain ⟨k, k1, k2, k3⟩ := q_wh_two (N := (σ 1 0).toNat) ⟨a1, by omega⟩ q2 q3
    exact ⟨k, ⟨k1.1, by have := k1.2; omega⟩, k2, k3⟩
theorem CA.brok {σ : Mem} (h : CA σ) {v : Int} (hv : 0 ≤ v ∧ v < 64) {p p2 : Int} (hp : q_in (σ 1 0) p) (hb : ∀ k, 0 ≤ k → q_bit v k = if k = p then decide (p2 = 1) else q_bit (σ 1 2) k) (hw : ∃ k, q_in (σ 1 0) k ∧ q_bit v k = false) : CA (m_upd σ 1 2 v) := by
  have f : ∀ d : Nat, d ≠ 1 → m_upd σ 1 2 v d = σ d := fun d hd => m_upd_ne _ _ _ _ _ hd
  have f10 : m_upd σ 1 2 v 1 0 = σ 1 0 := by
    rw [m_upd_at]
    simp
  have f11 : m_upd σ 1 2 v 1 1 = σ 1 1 := by
    rw [m_upd_at]
    simp
  have f12 : m_upd σ 1 2 v 1 2 = v := by
    rw [m_upd_at]
    simp
  obtain ⟨⟨⟨⟨n1, n2, hk, -⟩, hB, hout⟩, ht⟩, hr⟩ := h
  have cb : ∀ k, c_br (m_upd σ 1 2 v) k = if q_bit v k = true then 1 else 0 := fun k => by
    unfold c_br
    rw [f12]
  unfold CA OkA JA q_ok
  rw [f10, f11, f12, f 2 (by omega), f 3 (by omega), f 4 (by omega), f 5 (by omega), f 6 (by omega)]
  refine ⟨⟨⟨⟨n1, n2, fun k hi => ?_, ?_⟩, hv, fun k hi => ?_⟩, ht⟩, hr⟩
  · have y := hk k hi
    refine ⟨y.1, y.2.1, y.2.2.1, y.2.2.2.1, ?_⟩
    rw [cb]
    split <;> omega
  · obtain ⟨k, hk1, hk2⟩ := hw
    refine ⟨k, hk1, ?_⟩
    rw [cb, hk2]
    rfl
  · have := hp.2
    rw [hb k (by omega), if_neg (by omega)]
    exact hout k hi
def FrO' (τ t : Mem) : Prop := (∀ d : Nat, 19 ≤ d → t d = τ d) ∧ t 0 36 = τ 0 36 ∧ t 0 37 = τ 0 37
theorem FrO'.of {τ t : Mem} (f : FrT τ t) : FrO' τ t := ⟨fun d hd => f.1 d (by omega) (by omega) (by omega) (by omega) (by omega), f.2 36 (by omega), f.2 37 (by omega)⟩
theorem FrO'.refl (τ : Mem) : FrO' τ τ := ⟨fun _ _ => rfl, rfl, rfl⟩
def RefOp (σ s : Mem) (r i k a b : Int) : Prop := ∀ τ : Mem, Rel σ τ → τ 20 i = k → τ 21 i = a → (k = 0 ∨ k = 2 → τ 22 i = b) → ∀ P : Int → Mem → Prop, (∀ t : Mem, FrO' τ t → Rel s t → P r t) → x8_doOne i τ P
theorem U_op {σ : Mem} (ca : CA σ) {i k a b : Int} (hi : 0 ≤ i ∧ i < 12) (hk : σ 38 i = k) (ha : σ 39 i = a) (hb : k = 0 ∨ k = 2 → σ 40 i = b) (okc : q_okc (σ 1 0) k a b) {Q : Int → Mem → Prop} (hQ : ∀ (r : Int) (s : Mem), (r = 0 ∨ r = 1) → (∀ c : Nat, 37 ≤ c → s c = σ c) → s 0 = σ 0 → s 1 0 = σ 1 0 → CA s → RefOp σ s r i k a b → Q r s) : x7_carryOut i σ Q := by
  have hn := ca.1.1.n
  have hB := ca.1.1.2.1
  have hbr : ∀ p, c_br σ p = 0 ∨ c_br σ p = 1 := fun p => by
    unfold c_br
    split <;> omega
  have sameQ : ∀ r, (r = 0 ∨ r = 1) → RefOp σ σ r i k a b → Q r σ := fun r hr h => hQ r σ hr (fun _ _ => rfl) rfl rfl ca h
  unfold x7_carryOut
  rw [hk, ha]
  rcases okc with ⟨k0, an, b1, b2⟩ | ⟨k0, a1, a2⟩ | ⟨k0, an, b1, b2⟩ | ⟨k0, an⟩ | ⟨k0, a1, a2⟩
  · -- draw
    have b12 : 1 ≤ b ∧ b ≤ 900 := ⟨b1, b2⟩
    have a1 := an.1
    have a2 := an.2
    rw [hb (Or.inl k0)]
    refine ⟨by omega, by omega, by omega, by constructor <;> omega, fun _ => ?_, fun c => absurd c (by omega), fun c => absurd c (by omega), fun c => absurd c (by omega), fun c => absurd c (by omega), fun c => absurd c (by omega)⟩
    refine L_isBroken hB (by omega) ⟨by rcases hbr a with q | q <;> rw [q] <;> omega, fun q => ⟨by omega, sameQ 0 (Or.inl rfl) ?_⟩, fun q => L_drawBolt ca.1 an q b12 (fun s f ok e => ?_)⟩
    · intro τ R h20 h21 h22 P hP
      have e0 : σ 1 0 = τ 0 0 := R.1.1
      unfold x8_doOne
      rw [h20, h21, h22 (Or.inl k0)]
      refine ⟨by omega, by omega, by constructor <;> omega, fun _ => ⟨by omega, B_draw R (by rw [← e0]; exact an) b12 (fun _ => ⟨by omega, fun _ => ⟨by omega, hP τ (FrO'.refl τ) R⟩, fun c => absurd c (by omega)⟩) (fun z => absurd z (by rw [← R.brk an]; exact q))⟩, fun c => absurd c (by omega), fun c => absurd c (by omega), fun c => absurd c (by omega), fun c => absurd c (by omega), fun c => absurd c (by omega)⟩
    · have bd := q_drw_bd (j := jA σ 5) (h := a) (t := b) (tu := tA σ) (by rw [show tA σ a = σ 4 a from q_nrm_in an]; have := ca.1.2 a an; omega)
      have t3 : 0 ≤ tA σ a := by
        rw [show tA σ a = σ 4 a from q_nrm_in an]
        exact (ca.1.1.k an).2.2.1.1
      have s1 : s 1 = σ 1 := f 1 (by omega) (by omega)
      have go : ∀ r, (r = 0 ∨ r = 1) → (r = 0 ↔ q_drw (jA σ 5) (tA σ) a b < 0) → Q r s := fun r hr hr2 => hQ r s hr (fun c hc => f c (by omega) (by omega)) (f 0 (by omega) (by omega)) (by rw [s1]) ⟨ok, by rw [s1, f 6 (by omega) (by omega)]; exact ca.2⟩ (fun τ R h20 h21 h22 P hP => by
        have e0 : σ 1 0 = τ 0 0 := R.1.1
        unfold x8_doOne
        rw [h20, h21, h22 (Or.inl k0)]
        refine ⟨by omega, by omega, by constructor <;> omega, fun _ => ⟨by omega, B_draw R (by rw [← e0]; exact an) b12 (fun z => absurd (by rw [← R.brk an]; exact q) z) (fun _ t ft et => ?_)⟩, fun c => absurd c (by omega), fun c => absurd c (by omega), fun c => absurd c (by omega), fun c => absurd c (by omega), fun c => absurd c (by omega)⟩
        have Rst := hP t (FrO'.of ft) (R.drawn (SameAT.fr f) (SameBT.fr ft) ok (by rw [e, et, R.j, R.t]))
        rw [← R.j, ← R.t]
        by_cases w : q_drw (jA σ 5) (tA σ) a b < 0
        · rw [if_pos w]
          rw [hr2.mpr w] at Rst
          exact ⟨by omega, fun _ => ⟨by omega, Rst⟩, fun c => absurd c (by omega)⟩
        · rw [if_neg w]
          have r1 : r = 1 := by
            rcases hr with y | y
            · exact absurd (hr2.mp y) w
            · exact y
          rw [r1] at Rst
          exact ⟨by rcases bd with y | y <;> constructor <;> omega, fun c => absurd c w, fun _ => ⟨by omega, Rst⟩⟩)
      refine ⟨⟨by rcases bd with w | w <;> constructor <;> omega, by omega⟩, fun w => ⟨by omega, go 0 (Or.inl rfl) ⟨fun _ => by omega, fun _ => rfl⟩⟩, fun w => ⟨by omega, go 1 (Or.inr rfl) ⟨fun z => absurd z (by omega), fun z => absurd z (by rcases bd with y | y <;> omega)⟩⟩⟩
  · -- pass
    have a12 : 1 ≤ a ∧ a ≤ 900 := ⟨a1, a2⟩
    refine ⟨by omega, by omega, by omega, by constructor <;> omega, fun c => absurd c (by omega), fun _ => ?_, fun c => absurd c (by omega), fun c => absurd c (by omega), fun c => absurd c (by omega), fun c => absurd c (by omega)⟩
    refine L_goRound ca.1 rfl (by omega) (Or.inl (by omega)) a12 ca.2 (fun s f ok e => ?_)
    have bd := q_pass_bd (j := jA σ 5) (t := a) hn (q_nrm_row ca.2) ca.1.tu
    have e2 : (jA σ 5).1 = σ 1 0 := rfl
    rw [e2] at bd
    have s1 : s 1 = σ 1 := f 1 (by omega) (by omega)
    have go : ∀ r, (r = 0 ∨ r = 1) → (r = 0 ↔ (q_pass (jA σ 5) (q_nrm (σ 1 0) (σ 6)) a (σ 1 0).toNat 0 (tA σ) 0).1 < 0) → Q r s := fun r hr hr2 => hQ r s hr (fun c hc => f c (by omega) (by omega)) (f 0 (by omega) (by omega)) (by rw [s1]) ⟨ok, by rw [s1, f 6 (by omega) (by omega)]; exact ca.2⟩ (fun τ R h20 h21 h22 P hP => by
      have e0 : σ 1 0 = τ 0 0 := R.1.1
      rw [R.j, R.t, R.rw, R.1.1] at hr2 bd
      unfold x8_doOne
      rw [h20, h21]
      refine ⟨by omega, by omega, by constructor <;> omega, fun c => absurd c (by omega), fun _ => ?_, fun c => absurd c (by omega), fun c => absurd c (by omega), fun c => absurd c (by omega), fun c => absurd c (by omega)⟩
      unfold x8_pass
      refine B_isAim (by constructor <;> omega) (fun _ => ⟨by omega, fun _ => B_passOf R.okB a12 R.rowB (fun t g okt et => ?_), fun c => absurd c (by omega)⟩) (fun q => absurd a12 q)
      have Rst := hP t (FrO'.of g) (R.drawn (SameAT.fr f) (SameBT.fr g) ok (by rw [e, et, R.j, R.t, R.rw, R.1.1]))
      refine ⟨by rcases bd with w | w <;> constructor <;> omega, fun w => ?_, fun w => ?_⟩
      · have r1 : r = 1 := by
          rcases hr with y | y
          · have := hr2.mp y
            omega
          · exact y
        rw [r1] at Rst
        exact ⟨by rcases bd with w | w <;> constructor <;> omega, fun c => absurd c (by omega), fun _ => ⟨by omega, Rst⟩⟩
      · rw [hr2.mpr w] at Rst
        exact ⟨by omega, fun _ => ⟨by omega, Rst⟩, fun c => absurd c (by omega)⟩)
    refine ⟨⟨by rcases bd with w | w <;> constructor <;> omega, by omega⟩, fun w => ⟨by omega, go 0 (Or.inl rfl) ⟨fun _ => by omega, fun _ => rfl⟩⟩, fun w => ⟨by omega, go 1 (Or.inr rfl) ⟨fun z => absurd z (by omega), fun z => absurd z (by rcases bd with y | y <;> omega)⟩⟩⟩
  · -- load
    have a1 := an.1
    have a2 := an.2
    rw [hb (Or.inr k0)]
    refine ⟨by omega, by omega, by omega, by constructor <;> omega, fun c => absurd c (by omega), fun c => absurd c (by omega), fun _ => ⟨by omega, fun s es => ⟨by omega, ?_⟩⟩, fun c => absurd c (by omega), fun c => absurd c (by omega), fun c => absurd c (by omega)⟩
    have f : ∀ c : Nat, c ≠ 5 → s c = σ c := fun c hc => u_nc es hc
    have s1 := f 1 (by omega)
    refine hQ 1 s (Or.inr rfl) (fun c hc => f c (by omega)) (f 0 (by omega)) (by rw [s1]) ?_ (fun τ R h20 h21 h22 P hP => ?_)
    · obtain ⟨⟨⟨⟨n1, n2, hk', hw⟩, hB', hout⟩, ht⟩, hr⟩ := ca
      unfold CA OkA JA q_ok
      rw [c_br_congr s1, s1, f 2 (by omega), f 3 (by omega), f 4 (by omega), f 6 (by omega)]
      refine ⟨⟨⟨⟨n1, n2, fun j hj => ?_, hw⟩, hB', hout⟩, ht⟩, hr⟩
      have y := hk' j hj
      refine ⟨y.1, y.2.1, y.2.2.1, ?_, y.2.2.2.2⟩
      rw [es, m_upd_at]
      have := y.2.2.2.1
      split <;> omega
    · have e0 : σ 1 0 = τ 0 0 := R.1.1
      unfold x8_doOne
      rw [h20, h21, h22 (Or.inr k0)]
      refine ⟨by omega, by omega, by constructor <;> omega, fun c => absurd c (by omega), fun c => absurd c (by omega), fun _ => ⟨by omega, by omega, fun t et => ⟨by omega, ?_⟩⟩, fun c => absurd c (by omega), fun c => absurd c (by omega), fun c => absurd c (by omega)⟩
      have Rl := R.set (c := 5) (by omega) an (v := b) (fun z => absurd z (by omega)) (fun _ => by omega)
      rw [← es] at Rl
      have Rl : Rel s (m_upd τ 4 a b) := Rl
      rw [← et] at Rl
      exact hP t ⟨fun d hd => u_nc et (by omega), by rw [u_nc et (by omega)], by rw [u_nc et (by omega)]⟩ Rl
  · -- break, mend
    have a1 := an.1
    have a2 := an.2
    have after : ∀ (p2 : Int), (p2 = 0 ∨ p2 = 1) → ∀ (r v : Int), (r = 0 ∨ r = 1) → (0 ≤ v ∧ v < 64) → (∀ k, 0 ≤ k → q_bit v k = if k = a then decide (p2 = 1) else q_bit (σ 1 2) k) → (∃ k, q_in (σ 1 0) k ∧ q_bit v k = false) → (∀ τ : Mem, Rel σ τ → τ 20 i = k → τ 21 i = a → ∀ P : Int → Mem → Prop, P r (m_upd τ 5 a p2) → x8_doOne i τ P) → Q r (m_upd σ 1 2 v) := fun p2 hp2 r v hr hv hbv hw hd => by
      refine hQ r _ hr (fun c hc => m_upd_ne _ _ _ _ _ (by omega)) (m_upd_ne _ _ _ _ _ (by omega)) ?_ (ca.brok hv an hbv hw) (fun τ R h20 h21 _ P hP => hd τ R h20 h21 P (hP _ ⟨fun d hd => m_upd_ne _ _ _ _ _ (by omega), by rw [m_upd_ne _ _ _ _ _ (by omega)], by rw [m_upd_ne _ _ _ _ _ (by omega)]⟩ (R.brok an hp2 hv hbv hw)))
      rw [m_upd_at]
      simp
    rcases k0 with k0 | k0
    · refine ⟨by omega, by omega, by omega, by constructor <;> omega, fun c => absurd c (by omega), fun c => absurd c (by omega), fun c => absurd c (by omega), fun _ => ?_, fun c => absurd c (by omega), fun c => absurd c (by omega)⟩
      refine L_isBroken hB (by omega) ⟨by rcases hbr a with q | q <;> rw [q] <;> omega, fun q => ⟨by omega, sameQ 0 (Or.inl rfl) ?_⟩, fun q => L_broken ca.1 an (Or.inr rfl) (fun h v hv hbv hw => ?_) (fun _ _ h => ⟨by omega, fun _ => ⟨by omega, sameQ 0 (Or.inl rfl) ?_⟩, fun c => absurd rfl c⟩)⟩
      · intro τ R h20 h21 h22 P hP
        have e0 : σ 1 0 = τ 0 0 := R.1.1
        unfold x8_doOne
        rw [h20, h21]
        have hb5 := (R.JB.k (show q_in (τ 0 0) a by rw [← e0]; exact an)).2.2.2.2
        exact ⟨by omega, by omega, by constructor <;> omega, fun c => absurd c (by omega), fun c => absurd c (by omega), fun c => absurd c (by omega), fun _ => ⟨by omega, by rcases hb5 with y | y <;> rw [y] <;> omega, fun _ => ⟨by omega, hP τ (FrO'.refl τ) R⟩, fun z => absurd z (by rw [← R.brk an]; exact q)⟩, fun c => absurd c (by omega), fun c => absurd c (by omega)⟩
      · rw [q]
        refine ⟨by omega, fun c => absurd c (by omega), fun _ => ⟨by omega, after 1 (Or.inr rfl) 1 v (Or.inr rfl) hv hbv hw (fun τ R h20 h21 P hP => ?_)⟩⟩
        have e0 : σ 1 0 = τ 0 0 := R.1.1
        have q5 : τ 5 a = 0 := by rw [← R.brk an]; exact q
        unfold x8_doOne
        rw [h20, h21, q5]
        refine ⟨by omega, by omega, by constructor <;> omega, fun c => absurd c (by omega), fun c => absurd c (by omega), fun c => absurd c (by omega), fun _ => ⟨by omega, by omega, fun z => absurd rfl z, fun _ => B_broken R (by rw [← e0]; exact an) (Or.inr rfl) (fun _ => ?_) (fun _ _ z => ?_)⟩, fun c => absurd c (by omega), fun c => absurd c (by omega)⟩
        · rw [q5]
          exact ⟨by omega, fun c => absurd c (by omega), fun _ => ⟨by omega, hP⟩⟩
        · rw [← R.wh] at z
          rcases h with y | y | y
          · omega
          · exact absurd q y
          · exact absurd z y
      · intro τ R h20 h21 h22 P hP
        have e0 : σ 1 0 = τ 0 0 := R.1.1
        have q5 : τ 5 a = 0 := by rw [← R.brk an]; exact q
        unfold x8_doOne
        rw [h20, h21, q5]
        refine ⟨by omega, by omega, by constructor <;> omega, fun c => absurd c (by omega), fun c => absurd c (by omega), fun c => absurd c (by omega), fun _ => ⟨by omega, by omega, fun z => absurd rfl z, fun _ => B_broken R (by rw [← e0]; exact an) (Or.inr rfl) (fun z => ?_) (fun _ _ _ => ⟨by omega, fun _ => ⟨by omega, hP τ (FrO'.refl τ) R⟩, fun c => absurd c (by omega)⟩)⟩, fun c => absurd c (by omega), fun c => absurd c (by omega)⟩
        rw [← R.wh] at z
        rcases z with y | y | y
        · omega
        · exact absurd q5 y
        · exact absurd h y
    · refine ⟨by omega, by omega, by omega, by constructor <;> omega, fun c => absurd c (by omega), fun c => absurd c (by omega), fun c => absurd c (by omega), fun c => absurd c (by omega), fun _ => ?_, fun c => absurd c (by omega)⟩
      refine L_broken ca.1 an (Or.inl rfl) (fun h v hv hbv hw => ?_) (fun z => absurd rfl z)
      rcases hbr a with q | q
      · -- it wasn't broken: nothing changes
        have same : m_upd σ 1 2 v = σ := by
          have ev : v = σ 1 2 := by
            refine s_ext hv hB (fun j hj => ?_)
            rw [hbv j hj.1]
            by_cases y : j = a
            · rw [if_pos y, y]
              unfold c_br at q
              revert q
              cases q_bit (σ 1 2) a <;> simp
            · rw [if_neg y]
          funext d j
          rw [m_upd_at]
          split
          · rename_i y
            rw [y.1, y.2, ev]
          · rfl
        rw [q, same]
        refine ⟨by omega, fun _ => ⟨by omega, sameQ 0 (Or.inl rfl) (fun τ R h20 h21 h22 P hP => ?_)⟩, fun c => absurd c (by omega)⟩
        have e0 : σ 1 0 = τ 0 0 := R.1.1
        have q5 : τ 5 a = 0 := by rw [← R.brk an]; exact q
        unfold x8_doOne
        rw [h20, h21, q5]
        exact ⟨by omega, by omega, by constructor <;> omega, fun c => absurd c (by omega), fun c => absurd c (by omega), fun c => absurd c (by omega), fun c => absurd c (by omega), fun _ => ⟨by omega, by omega, fun _ => ⟨by omega, hP τ (FrO'.refl τ) R⟩, fun z => absurd rfl z⟩, fun c => absurd c (by omega)⟩
      · rw [q]
        refine ⟨by omega, fun c => absurd rfl c, fun _ => ⟨by omega, after 0 (Or.inl rfl) 1 v (Or.inr rfl) hv hbv hw (fun τ R h20 h21 P hP => ?_)⟩⟩
        have e0 : σ 1 0 = τ 0 0 := R.1.1
        have q5 : τ 5 a = 1 := by rw [← R.brk an]; exact q
        unfold x8_doOne
        rw [h20, h21, q5]
        refine ⟨by omega, by omega, by constructor <;> omega, fun c => absurd c (by omega), fun c => absurd c (by omega), fun c => absurd c (by omega), fun c => absurd c (by omega), fun _ => ⟨by omega, by omega, fun z => absurd z (by omega), fun _ => B_broken R (by rw [← e0]; exact an) (Or.inl rfl) (fun _ => ?_) (fun z => absurd rfl z)⟩, fun c => absurd c (by omega)⟩
        rw [q5]
        exact ⟨by omega, fun c => absurd c (by omega), fun _ => ⟨by omega, hP⟩⟩
  · -- row
    refine ⟨by omega, by omega, by omega, by constructor <;> omega, fun c => absurd c (by omega), fun c => absurd c (by omega), fun c => absurd c (by omega), fun c => absurd c (by omega), fun c => absurd c (by omega), fun _ => ?_⟩
    have ia : InI a := by constructor <;> omega
    refine L_takeRow ia hn (fun hr s f e => ⟨by omega, ?_⟩) (fun hr => ⟨by omega, sameQ 0 (Or.inl rfl) (fun τ R h20 h21 h22 P hP => ?_)⟩)
    · have s1 := f 1 (by omega)
      have hin := q_isRow_inj hn hr
      refine hQ 1 s (Or.inr rfl) (fun c hc => f c (by omega)) (f 0 (by omega)) (by rw [s1]) ⟨(ca.1.other (fun c c1 c2 => f c (by omega))).1, ?_⟩ (fun τ R h20 h21 h22 P hP => ?_)
      · rw [s1]
        intro j hj
        rw [e j hj]
        exact hin.1 j hj
      · have e0 : σ 1 0 = τ 0 0 := R.1.1
        unfold x8_doOne
        rw [h20, h21]
        refine ⟨by omega, by omega, by constructor <;> omega, fun c => absurd c (by omega), fun c => absurd c (by omega), fun c => absurd c (by omega), fun c => absurd c (by omega), fun c => absurd c (by omega), fun _ => ?_⟩
        apply x8_row_i
        refine B_isRow ia (by omega) (fun _ t g e' => ⟨by omega, fun _ => ?_, fun c => absurd c (by omega)⟩) (fun q => absurd hr (by rw [e0]; exact q))
        have key : ∀ (m : Nat) (k : Int) (u : Mem), 0 ≤ k → k ≤ τ 0 0 → (τ 0 0 - k).toNat = m → (∀ c : Nat, c ≠ 6 → u c = t c) → (∀ j, 0 ≤ j → j < k → u 6 j = t 15 j) → x8_row_L13 (fun r18 s17 => InI r18 ∧ (r18 ≤ (0 : Int) → ((0 : Int) ≤ (0 : Int) ∧ (0 : Int) ≤ 1) ∧ P (0 : Int) s17) ∧ ((0 : Int) < r18 → ((0 : Int) ≤ (1 : Int) ∧ (1 : Int) ≤ 1) ∧ P (1 : Int) s17)) k u := by
          intro m
          induction m with
          | zero =>
            intro k u h0 h1 hm hF hd
            apply x8_row_s13
            have u0 : u 0 0 = τ 0 0 := by rw [hF 0 (by omega), g 0 (by omega)]
            refine ⟨by rw [u0]; constructor <;> constructor <;> omega, fun _ => ⟨by omega, fun c => absurd c (by omega), fun _ => ⟨by omega, hP u ⟨fun d hd => by rw [hF d (by omega), g d (by omega)], by rw [hF 0 (by omega), g 0 (by omega)], by rw [hF 0 (by omega), g 0 (by omega)]⟩ (R.row hr f e (fun c c6 c15 => by rw [hF c c6, g c c15]) (fun k hk => ?_))⟩⟩, fun c => absurd c (by rw [u0]; omega)⟩
            rw [hd k hk.1 (by have := hk.2; omega), e' k (by rw [← e0]; exact hk), e0]
          | succ m ih =>
            intro k u h0 h1 hm hF hd
            apply x8_row_s13
            have u0 : u 0 0 = τ 0 0 := by rw [hF 0 (by omega), g 0 (by omega)]
            refine ⟨by rw [u0]; constructor <;> constructor <;> omega, fun c => absurd c (by rw [u0]; omega), fun c => ⟨by omega, by omega, fun s4 e4 => ?_⟩⟩
            rw [hF 15 (by omega)] at e4
            refine ih (k + 1) s4 (by omega) (by omega) (by omega) (fun c hc => by rw [e4, m_upd_ne _ _ _ _ _ hc]; exact hF c hc) (fun j j0 j1 => ?_)
            rw [e4, m_upd_at]
            by_cases w : j = k
            · rw [if_pos ⟨rfl, w⟩, w]
            · rw [if_neg (fun z => w z.2)]
              exact hd j j0 (by omega)
        exact key _ 0 t (by omega) (by omega) rfl (fun _ _ => rfl) (fun j h0 h1 => absurd h1 (by omega))
    · have e0 : σ 1 0 = τ 0 0 := R.1.1
      unfold x8_doOne
      rw [h20, h21]
      refine ⟨by omega, by omega, by constructor <;> omega, fun c => absurd c (by omega), fun c => absurd c (by omega), fun c => absurd c (by omega), fun c => absurd c (by omega), fun c => absurd c (by omega), fun _ => ?_⟩
      apply x8_row_i
      refine B_isRow ia (by omega) (fun q => absurd (by rw [e0]; exact q) hr) (fun _ t g => ⟨by omega, fun c => absurd rfl c, fun _ => ⟨by omega, fun _ => ⟨by omega, hP t ⟨fun d hd => g d (by omega), by rw [g 0 (by omega)], by rw [g 0 (by omega)]⟩ ?_⟩, fun c => absurd c (by omega)⟩⟩)
      refine R.same (SameA.refl σ) ⟨⟨fun c h1 h2 h3 => g c (by omega), ?_⟩, g 3 (by omega)⟩
      rw [g 0 (by omega)]
      exact ⟨rfl, rfl, rfl, rfl, rfl, rfl⟩
