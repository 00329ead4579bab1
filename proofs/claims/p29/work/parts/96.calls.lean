/-! ===== the public methods that the law calls, by what they do to the joint ===== -/
/-- all that the law asks for stands as it was, but for the turns -/
def FrV (σ s : Mem) : Prop := (∀ c : Nat, 1 ≤ c → c ≤ 6 → c ≠ 4 → s c = σ c) ∧ s 22 = σ 22
theorem FrV.j {σ s : Mem} (h : FrV σ s) : jA s 5 = jA σ 5 := by
  have a1 := h.1 1 (by omega) (by omega) (by omega)
  unfold jA
  rw [c_br_congr a1, a1, h.1 2 (by omega) (by omega) (by omega), h.1 3 (by omega) (by omega) (by omega), h.1 5 (by omega) (by omega) (by omega)]
theorem FrV.n {σ s : Mem} (h : FrV σ s) : s 1 0 = σ 1 0 := by rw [h.1 1 (by omega) (by omega) (by omega)]
theorem FrV.N {σ s : Mem} (h : FrV σ s) (g : RelN σ) : RelN s := by
  unfold RelN
  rw [h.2]
  exact g
theorem FrV.refl (σ : Mem) : FrV σ σ := ⟨fun _ _ _ _ => rfl, rfl⟩
theorem FrV.trans {a b c : Mem} (h : FrV a b) (g : FrV b c) : FrV a c := ⟨fun d h1 h2 h3 => (g.1 d h1 h2 h3).trans (h.1 d h1 h2 h3), g.2.trans h.2⟩
theorem V_shA {c : Nat} (h : 2 ≤ c ∧ c ≤ 5) : shA[c]? = some (.inr (0, 6)) := by
  rcases (show c = 2 ∨ c = 3 ∨ c = 4 ∨ c = 5 by omega) with q | q | q | q <;> rw [q] <;> rfl
theorem V_least {p2 : Int} {σ : Mem} {Q : Int → Mem → Prop} (b : 0 ≤ p2 ∧ p2 ≤ 3) (h : Q (if p2 < 2 then 1 else 0) σ) : x7_leastOf p2 σ Q := by
  rcases (show p2 = 0 ∨ p2 = 1 ∨ p2 = 2 ∨ p2 = 3 by omega) with q | q | q | q <;> subst q
  · exact ⟨by omega, fun _ => h, fun c => absurd rfl c⟩
  · exact ⟨by omega, fun c => absurd c (by omega), fun _ => ⟨by omega, fun c => absurd rfl c, fun _ => h⟩⟩
  · exact ⟨by omega, fun c => absurd c (by omega), fun _ => ⟨by omega, fun _ => h, fun c => absurd c (by omega)⟩⟩
  · exact ⟨by omega, fun c => absurd c (by omega), fun _ => ⟨by omega, fun _ => h, fun c => absurd c (by omega)⟩⟩
theorem V_most {p2 : Int} {σ : Mem} {Q : Int → Mem → Prop} (b : 0 ≤ p2 ∧ p2 ≤ 3) (h : Q (if p2 < 2 then 9 else 200) σ) : x7_mostOf p2 σ Q := by
  rcases (show p2 = 0 ∨ p2 = 1 ∨ p2 = 2 ∨ p2 = 3 by omega) with q | q | q | q <;> subst q
  · exact ⟨by omega, fun _ => ⟨by omega, fun _ => h, fun c => absurd c (by omega)⟩, fun c => absurd c (by omega)⟩
  · exact ⟨by omega, fun _ => ⟨by omega, fun _ => h, fun c => absurd c (by omega)⟩, fun c => absurd c (by omega)⟩
  · exact ⟨by omega, fun c => absurd rfl c, fun _ => h⟩
  · exact ⟨by omega, fun _ => ⟨by omega, fun c => absurd rfl c, fun _ => h⟩, fun c => absurd c (by omega)⟩
theorem V_vals {p2 : Int} {σ : Mem} {Q : Int → Mem → Prop} (b : 0 ≤ p2 ∧ p2 ≤ 3) (h : Q (p2 + 2) σ) : x2_valuesOf p2 σ Q := by
  rcases (show p2 = 0 ∨ p2 = 1 ∨ p2 = 2 ∨ p2 = 3 by omega) with q | q | q | q <;> subst q
  · exact ⟨by omega, fun _ => h, fun c => absurd c (by omega), fun c => absurd c (by omega), fun c => absurd c (by omega)⟩
  · exact ⟨by omega, fun c => absurd c (by omega), fun _ => h, fun c => absurd c (by omega), fun c => absurd c (by omega)⟩
  · exact ⟨by omega, fun c => absurd c (by omega), fun c => absurd c (by omega), fun _ => h, fun c => absurd c (by omega)⟩
  · exact ⟨by omega, fun c => absurd c (by omega), fun c => absurd c (by omega), fun c => absurd c (by omega), fun _ => h⟩
theorem V_set {σ : Mem} {p1 p2 p3 : Int} (hn : 3 ≤ σ 1 0 ∧ σ 1 0 ≤ 6) (a : q_in (σ 1 0) p1) (b : 0 ≤ p2 ∧ p2 ≤ 3) (hv : (if p2 < 2 then 1 else 0) ≤ p3 ∧ p3 ≤ (if p2 < 2 then 9 else 200)) {Q : Int → Mem → Prop} (h : Q (σ (p2 + 2).toNat p1) (m_upd σ (p2 + 2).toNat p1 p3)) : x7_set p1 p2 p3 σ Q := by
  have a1 := a.1
  have a2 := a.2
  have i1 : InI p1 := by constructor <;> omega
  have i2 : InI p2 := by constructor <;> omega
  have i3 : InI p3 := by
    revert hv
    split <;> intro hv <;> constructor <;> omega
  unfold x7_set
  refine L_has i1 hn (fun _ => ⟨by omega, fun _ => ?_, fun c => absurd c (by omega)⟩) (fun q => absurd a q)
  refine L_within i2 (by omega) (by omega) (fun _ => ⟨by omega, fun c => absurd c (by omega), fun _ => ?_⟩) (fun q => absurd b q)
  refine V_least b (V_most b ?_)
  refine L_within i3 (by split <;> constructor <;> omega) (by split <;> constructor <;> omega) (fun _ => ⟨by omega, fun _ => V_vals b ?_, fun c => absurd c (by omega)⟩) (fun q => absurd hv q)
  have hsh : shA[(p2 + 2).toNat]? = some (.inr (0, 6)) := V_shA (by omega)
  exact ⟨hsh, by omega, hsh, by omega, fun s e => by rw [e]; exact h⟩
theorem V_told2 {σ : Mem} {p1 : Int} (hn : 3 ≤ σ 1 0 ∧ σ 1 0 ≤ 6) (a : q_in (σ 1 0) p1) {Q : Int → Mem → Prop} (h : Q (σ 4 p1) σ) : x7_told p1 2 σ Q := by
  have a1 := a.1
  have a2 := a.2
  unfold x7_told
  refine L_has (by constructor <;> omega) hn (fun _ => ⟨by omega, fun _ => ?_, fun c => absurd c (by omega)⟩) (fun q => absurd a q)
  refine ⟨by omega, fun _ => V_vals (by omega) ⟨rfl, by omega, h⟩, fun c => absurd c (by omega), fun c => absurd c (by omega), fun c => absurd c (by omega), fun c => absurd c (by omega), fun c => absurd c (by omega)⟩
theorem V_told4 {σ : Mem} {p1 : Int} (hn : 3 ≤ σ 1 0 ∧ σ 1 0 ≤ 6) (hB : 0 ≤ σ 1 2 ∧ σ 1 2 < 64) (a : q_in (σ 1 0) p1) {Q : Int → Mem → Prop} (h : Q (c_br σ p1) σ) : x7_told p1 4 σ Q := by
  have a1 := a.1
  have a2 := a.2
  have hb : c_br σ p1 = 0 ∨ c_br σ p1 = 1 := by
    unfold c_br
    split <;> omega
  unfold x7_told
  refine L_has (by constructor <;> omega) hn (fun _ => ⟨by omega, fun _ => ?_, fun c => absurd c (by omega)⟩) (fun q => absurd a q)
  refine ⟨by omega, fun c => absurd c (by omega), fun _ => L_isBroken hB (by omega) (L_asNumber (by rcases hb with w | w <;> rw [w] <;> omega) ?_), fun c => absurd c (by omega), fun c => absurd c (by omega), fun c => absurd c (by omega), fun c => absurd c (by omega)⟩
  rcases hb with w | w
  · rw [w] at h ⊢
    exact h
  · rw [w] at h ⊢
    exact h
theorem V_place {σ : Mem} {p1 : Int} (hn : 3 ≤ σ 1 0 ∧ σ 1 0 ≤ 6) (a : q_in (σ 1 0) p1) (ho : ∀ k, q_in (σ 1 0) k → σ 6 k = k) {Q : Int → Mem → Prop} (h : Q p1 σ) : x2_placeInRow p1 σ Q := by
  apply x2_placeInRow_i
  have a1 := a.1
  have a2 := a.2
  have key : ∀ (m : Nat) (k : Int), 0 ≤ k → k ≤ p1 → (p1 - k).toNat = m → x2_placeInRow_L2 Q p1 k σ := by
    intro m
    induction m with
    | zero =>
      intro k h0 h1 hm
      apply x2_placeInRow_s2
      obtain rfl : k = p1 := by omega
      have e := ho k a
      exact ⟨by omega, fun _ => h, fun c => ⟨by omega, ⟨by rw [e]; omega, by omega⟩, fun _ => h, fun c2 => absurd e c2⟩⟩
    | succ m ih =>
      intro k h0 h1 hm
      apply x2_placeInRow_s2
      have e := ho k ⟨h0, by omega⟩
      exact ⟨by omega, fun c => absurd c (by omega), fun c => ⟨by omega, ⟨by rw [e]; omega, by omega⟩, fun c2 => absurd c2 (by omega), fun _ => ih (k + 1) (by omega) (by omega) (by omega)⟩⟩
  exact key _ 0 (by omega) a1 rfl
theorem V_told7 {σ : Mem} {p1 : Int} (hn : 3 ≤ σ 1 0 ∧ σ 1 0 ≤ 6) (a : q_in (σ 1 0) p1) (ho : ∀ k, q_in (σ 1 0) k → σ 6 k = k) {Q : Int → Mem → Prop} (h : Q p1 σ) : x7_told p1 7 σ Q := by
  have a1 := a.1
  have a2 := a.2
  unfold x7_told
  refine L_has (by constructor <;> omega) hn (fun _ => ⟨by omega, fun _ => ?_, fun c => absurd c (by omega)⟩) (fun q => absurd a q)
  exact ⟨by omega, fun c => absurd c (by omega), fun c => absurd c (by omega), fun c => absurd c (by omega), fun c => absurd c (by omega), fun _ => V_place hn a ho h, fun c => absurd c (by omega)⟩
theorem V_count4 {σ : Mem} (hn : 3 ≤ σ 1 0 ∧ σ 1 0 ≤ 6) {Q : Int → Mem → Prop} (h : Q (q_sum (σ 4) (σ 1 0).toNat) σ) : x7_count 4 σ Q := by
  unfold x7_count
  exact ⟨by omega, fun c => absurd c (by omega), fun c => absurd c (by omega), fun c => absurd c (by omega), fun c => absurd c (by omega), fun _ => L_sumOf rfl hn h, fun c => absurd c (by omega), fun c => absurd c (by omega), fun c => absurd c (by omega), fun c => absurd c (by omega), fun c => absurd c (by omega)⟩
theorem V_row {σ : Mem} {p : Int} (ip : InI p) (hn : 3 ≤ σ 1 0 ∧ σ 1 0 ≤ 6) (hr : q_isRow (σ 1 0) p) {Q : Int → Mem → Prop} (h : ∀ s : Mem, (∀ c : Nat, c ≠ 6 → s c = σ c) → (∀ k, q_in (σ 1 0) k → s 6 k = q_dg p (σ 1 0 - 1 - k).toNat) → Q 1 s) : x7_row p σ Q := by
  unfold x7_row
  exact L_takeRow ip hn (fun _ s f e => ⟨by omega, fun c => absurd c (by omega), fun _ => h s f e⟩) (fun q => absurd hr q)
theorem V_joint {σ : Mem} {p1 p2 : Int} (a : 3 ≤ p1 ∧ p1 ≤ 6) (b : 1 ≤ p2 ∧ p2 ≤ 9) {Q : Int → Mem → Prop} (h : ∀ s : Mem, (s 1 0 = p1 ∧ s 1 1 = p2 ∧ s 1 2 = 0) → (∀ k, q_in 6 k → s 2 k = 5 ∧ s 3 k = 3 ∧ s 4 k = 0 ∧ s 5 k = 0 ∧ s 6 k = k) → s 22 = σ 22 → Q p1 s) : x7_joint p1 p2 σ Q := by
  unfold x7_joint
  refine L_within (by constructor <;> omega) (by omega) (by omega) (fun _ => ⟨by omega, fun c => absurd c (by omega), fun _ => ?_⟩) (fun q => absurd a q)
  refine L_within (by constructor <;> omega) (by omega) (by omega) (fun _ => ⟨by omega, fun _ => ?_, fun c => absurd c (by omega)⟩) (fun q => absurd b q)
  refine L_begin (fun s1 g1 g2 g3 s2 e2 => ⟨by omega, fun s3 e3 => ⟨by omega, fun s4 e4 => ⟨by omega, fun s5 e5 s6 e6 => ?_⟩⟩⟩)
  have f : ∀ c : Nat, c ≠ 23 → c ≠ 32 → c ≠ 34 → s6 c = s1 c := fun c c1 c2 c3 => by rw [e6, m_upd_ne _ _ _ _ _ c3, e5, m_upd_ne _ _ _ _ _ c2, e4, m_upd_ne _ _ _ _ _ c2, e3, m_upd_ne _ _ _ _ _ c2, e2, m_upd_ne _ _ _ _ _ c1]
  refine h s6 ?_ (fun k hk => ?_) ?_
  · rw [f 1 (by omega) (by omega) (by omega)]
    exact g1
  · rw [f 2 (by omega) (by omega) (by omega), f 3 (by omega) (by omega) (by omega), f 4 (by omega) (by omega) (by omega), f 5 (by omega) (by omega) (by omega), f 6 (by omega) (by omega) (by omega)]
    exact g2 k hk
  · rw [f 22 (by omega) (by omega) (by omega)]
    exact g3 22 (by omega)
/-- a whole bolt breaks where another one stays whole -/
theorem V_break {σ : Mem} {p1 : Int} (hn : 3 ≤ σ 1 0 ∧ σ 1 0 ≤ 6) (hB : 0 ≤ σ 1 2 ∧ σ 1 2 < 64) (hb : ∀ k, σ 1 0 ≤ k → q_bit (σ 1 2) k = false) (a : q_in (σ 1 0) p1) (h0 : c_br σ p1 = 0) (hw : ∃ k, q_in (σ 1 0) k ∧ k ≠ p1 ∧ c_br σ k = 0) {Q : Int → Mem → Prop} (h : ∀ v : Int, (0 ≤ v ∧ v < 64) → (∀ k, 0 ≤ k → q_bit v k = if k = p1 then true else q_bit (σ 1 2) k) → Q 0 (m_upd σ 1 2 v)) : x7_broken p1 1 σ Q := by
  have a1 := a.1
  have a2 := a.2
  have ez : ((σ 1 0).toNat : Int) = σ 1 0 := by omega
  have bd : InI (q_wh (c_br σ) (σ 1 0).toNat) := by
    rw [q_wh_cnt]
    have := q_cnt_bd (q_bit (σ 1 2)) (σ 1 0).toNat
    constructor <;> omega
  have two : ¬ q_wh (c_br σ) (σ 1 0).toNat = 1 := fun q => by
    obtain ⟨k, k1, k2, k3⟩ := hw
    exact (q_wh_one (br := c_br σ) (N := (σ 1 0).toNat) (fun k _ => by unfold c_br; split <;> omega) (by rw [ez]; exact a) h0).2 q k (by rw [ez]; exact k1) k2 k3
  apply x7_broken_i
  refine L_has (by constructor <;> omega) hn (fun _ => ⟨by omega, fun _ => ?_, fun c => absurd c (by omega)⟩) (fun q => absurd a q)
  refine L_isBroken hB (by omega) ⟨by omega, fun c => absurd c (by omega), fun _ => ⟨by rw [h0]; omega, fun c => absurd h0 c, fun _ => L_wholeCount hn hB hb ⟨⟨bd, by omega⟩, fun _ => x7_broken_s45 ?_, fun c => absurd c two⟩⟩⟩
  refine L_markBroken hB ⟨a1, by omega⟩ (Or.inr rfl) (fun v v1 v2 => L_asNumber (by rw [h0]; omega) ?_)
  rw [h0]
  refine h v v1 (fun k hk => ?_)
  rw [v2 k hk]
  simp
theorem V_passes {σ : Mem} {t : Int} (ok : OkA σ) (ht : 1 ≤ t ∧ t ≤ 900) (hrow : ∀ k, q_in (σ 1 0) k → q_in (σ 1 0) (σ 6 k)) {Q : Int → Mem → Prop} (h1 : 0 ≤ (q_rnd (jA σ 5) (q_nrm (σ 1 0) (σ 6)) t 20 0 (tA σ) 0).1 → ∀ s : Mem, FrV σ s → OkA s → tA s = (q_rnd (jA σ 5) (q_nrm (σ 1 0) (σ 6)) t 20 0 (tA σ) 0).2.1 → Q (q_rnd (jA σ 5) (q_nrm (σ 1 0) (σ 6)) t 20 0 (tA σ) 0).1 s) (h2 : (q_rnd (jA σ 5) (q_nrm (σ 1 0) (σ 6)) t 20 0 (tA σ) 0).1 < 0 → ∀ s : Mem, FrV σ s → OkA s → tA s = tA σ → Q (-100003) s) : x7_passes t σ Q := by
  unfold x7_passes
  have hn := ok.1.n
  refine L_within (by constructor <;> omega) (by omega) (by omega) (fun b => ⟨by omega, fun _ => ?_, fun c => absurd c (by omega)⟩) (fun b => absurd ht b)
  refine L_keepTurns (fun s1 f1 k1 => ?_)
  obtain ⟨ok1, t1, j1⟩ := ok.other (fun c h1 h2 => f1 c (by omega))
  have s10 : s1 1 0 = σ 1 0 := by rw [f1 1 (by omega)]
  have s16 : s1 6 = σ 6 := f1 6 (by omega)
  refine L_goRounds ok1 rfl (by omega) (Or.inl (by omega)) ht (by omega) (by rw [s10, s16]; exact hrow) (fun s f oks e => ?_)
  rw [s10, s16, t1, j1] at e ⊢
  have bd := (q_rnd_bd (j := jA σ 5) (t := t) hn (q_nrm_row hrow) 20 0 (tA σ) 0 (by omega) ok.tu).2
  have e2 : (jA σ 5).1 = σ 1 0 := rfl
  rw [e2] at bd
  have e20 : Int.toNat 20 = 20 := rfl
  rw [e20] at e ⊢
  have fs : ∀ c : Nat, c ≠ 4 → c < 14 ∨ 20 < c → s c = σ c := fun c h4 h => by rw [f c h4 (by omega), f1 c (by omega)]
  have fv : FrV σ s := ⟨fun c c1 c2 c3 => fs c c3 (by omega), fs 22 (by omega) (by omega)⟩
  refine ⟨⟨by rcases bd with w | w <;> constructor <;> omega, by omega⟩, fun w => h1 (by omega) s fv oks e, fun w => L_putBack (fun v fw hv => ?_)⟩
  obtain ⟨okv, etv⟩ := ok.back (s := v) (fun c c1 c2 c3 => by rw [fw c c3, fs c c3 (by omega)]) (fun k hk => by
    have k0 := hk.1
    have k2 := hk.2
    rw [hv k ⟨k0, by omega⟩, f 20 (by omega) (by omega), k1 k ⟨k0, by omega⟩])
  exact h2 (by omega) v ⟨fun c c1 c2 c3 => by rw [fw c c3, fs c c3 (by omega)], by rw [fw 22 (by omega), fs 22 (by omega) (by omega)]⟩ okv etv
theorem V_even {σ : Mem} {t p : Int} (ok : OkA σ) (hN : RelN σ) (ht : 1 ≤ t ∧ t ≤ 900) (hp : p = -1 ∨ q_in (σ 1 0) p) {Q : Int → Mem → Prop} (h : ∀ s : Mem, FrV σ s → OkA s → tA s = tA σ → Q (if (q_evn (jA σ 5) t 1202 (q_zer (jA σ 5) (tA σ))).1 = 0 then -100003 else if p = -1 then q_sum (q_evn (jA σ 5) t 1202 (q_zer (jA σ 5) (tA σ))).2 (σ 1 0).toNat else (q_evn (jA σ 5) t 1202 (q_zer (jA σ 5) (tA σ))).2 p) s) : x7_even t p σ Q := by
  apply x7_even_i
  have hn := ok.1.n
  have hev := q_evn_tu (j := jA σ 5) (t := t) hn 1202 _ (q_zer_tu (j := jA σ 5) (tu := tA σ) ok.tu)
  have ip : InI p := by
    rcases hp with q | q
    · rw [q]
      omega
    · have := q.1
      have := q.2
      constructor <;> omega
  have main : x7_even_L19 Q t p σ := by
    apply x7_even_s19
    refine L_within (by constructor <;> omega) (by omega) (by omega) (fun b => ⟨by omega, fun _ => L_keepTurns (fun s1 f1 k1 => ?_), fun c => absurd c (by omega)⟩) (fun b => absurd ht b)
    obtain ⟨ok1, t1, j1⟩ := ok.other (fun c h1 h2 => f1 c (by omega))
    have hN1 : RelN s1 := by
      unfold RelN
      rw [f1 22 (by omega)]
      exact hN
    refine L_even ok1 hN1 ht (fun s f oks e => ?_)
    rw [t1, j1] at e ⊢
    have fs : ∀ c : Nat, c ≠ 4 → c < 14 ∨ 20 < c → s c = σ c := fun c h4 h => by rw [f c h4 (by omega), f1 c (by omega)]
    have s1' := fs 1 (by omega) (by omega)
    have s4 : ∀ k, q_in (σ 1 0) k → s 4 k = (q_evn (jA σ 5) t 1202 (q_zer (jA σ 5) (tA σ))).2 k := fun k hk => by
      rw [← e]
      unfold tA
      rw [s1']
      exact (q_nrm_in hk).symm
    have fin : ∀ t0 : Int, t0 = (if p = -1 then q_sum (q_evn (jA σ 5) t 1202 (q_zer (jA σ 5) (tA σ))).2 (σ 1 0).toNat else (q_evn (jA σ 5) t 1202 (q_zer (jA σ 5) (tA σ))).2 p) → x7_even_L88 Q (q_evn (jA σ 5) t 1202 (q_zer (jA σ 5) (tA σ))).1 t0 s := fun t0 ht0 => by
      apply x7_even_s88
      refine L_putBack (fun v fw hv => ?_)
      obtain ⟨okv, etv⟩ := ok.back (s := v) (fun c c1 c2 c3 => by rw [fw c c3, fs c c3 (by omega)]) (fun k hk => by
        have k0 := hk.1
        have k2 := hk.2
        rw [hv k ⟨k0, by omega⟩, f 20 (by omega) (by omega), k1 k ⟨k0, by omega⟩])
      have hq := h v ⟨fun c c1 c2 c3 => by rw [fw c c3, fs c c3 (by omega)], by rw [fw 22 (by omega), fs 22 (by omega) (by omega)]⟩ okv etv
      refine ⟨by rcases hev.2 with w | w <;> rw [w] <;> omega, fun w => ?_, fun w => ?_⟩
      · rw [if_pos w] at hq
        exact hq
      · rw [if_neg w, ← ht0] at hq
        exact hq
    refine ⟨⟨ip, by omega⟩, fun w => ?_, fun w => L_sumOf rfl (by rw [s1']; exact hn) (fin _ ?_)⟩
    · have hk : q_in (σ 1 0) p := by
        rcases hp with q | q
        · exact absurd q w
        · exact q
      have k1 := hk.1
      have k2 := hk.2
      refine ⟨by omega, fin _ ?_⟩
      rw [if_neg w]
      exact s4 p hk
    · rw [if_pos w, s1']
      exact q_sum_congr _ (fun k hk => s4 k ⟨hk.1, by have := hk.2; omega⟩)
  refine ⟨⟨ip, by omega⟩, fun q => main, fun q => L_has ip hn (fun a => ⟨by omega, fun _ => main, fun c => absurd c (by omega)⟩) (fun a => ?_)⟩
  rcases hp with w | w
  · exact absurd w q
  · exact absurd w a
theorem V_best {σ : Mem} {t w : Int} (ok : OkA σ) (hN : RelN σ) (h6 : σ 1 0 ≠ 6) (ht : 1 ≤ t ∧ t ≤ 900) (hw : 0 ≤ w ∧ w ≤ 2) {Q : Int → Mem → Prop} (h : ∀ (s : Mem) (b : Int), FrV σ s → OkA s → tA s = tA σ → q_bst (q_isRow (σ 1 0)) (q_rp (jA σ 5) (tA σ) t) (q_rd (jA σ 5) (tA σ) t) b → Q (if b = -1 then -100003 else if w = 0 then b else if w = 1 then q_rp (jA σ 5) (tA σ) t b else q_rd (jA σ 5) (tA σ) t b) s) : x7_best t w σ Q := by
  unfold x7_best
  have hn := ok.1.n
  refine L_within (by constructor <;> omega) (by omega) (by omega) (fun a => ⟨by omega, fun c => absurd c (by omega), fun _ => L_within (by constructor <;> omega) (by omega) (by omega) (fun b => ⟨by omega, fun _ => ⟨by constructor <;> constructor <;> omega, fun _ => ?_, fun c => absurd c h6⟩, fun c => absurd c (by omega)⟩) (fun b => absurd hw b)⟩) (fun a => absurd ht a)
  refine L_findBest ok hN h6 ht (fun s f hk ⟨x, hx, x1, x2⟩ => ?_)
  obtain ⟨okv, etv⟩ := ok.back (s := s) (fun c h1 h2 h3 => f c h3 (by omega) (by omega) (by omega) (by omega)) (fun k hq => by
    have h1 := hq.1
    have h2 := hq.2
    exact hk k ⟨h1, by omega⟩)
  have fv : FrV σ s := ⟨fun c c1 c2 c3 => f c c3 (by omega) (by omega) (by omega) (by omega), f 22 (by omega) (by omega) (by omega) (by omega) (by omega)⟩
  have hq := h s x fv okv etv hx
  have px := q_rp_rg (jA σ 5) (tA σ) t x
  have fit : x = -1 ∨ (x ≠ -1 ∧ 0 ≤ q_rp (jA σ 5) (tA σ) t x) := by
    rcases hx with q | q
    · exact Or.inl q.1
    · exact Or.inr ⟨by have := q.1; omega, q.2.2.1⟩
  have i130 : InI (s 13 0) := by
    rcases fit with q | q
    · rw [x1 q]
      constructor <;> omega
    · rw [(x2 q.1).1]
      constructor <;> omega
  have ne : ¬ s 13 0 = -1 → x ≠ -1 := fun q z => q (x1 z)
  refine ⟨⟨i130, by omega⟩, fun q => ⟨by constructor <;> omega, fun w1 => ⟨⟨by constructor <;> omega, by omega⟩, fun v => ?_, fun v => ?_⟩, fun w1 => ?_⟩, fun q => ?_⟩
  · rw [if_neg (ne q), if_neg w1, if_neg v, ← (x2 (ne q)).2.1] at hq
    exact hq
  · rw [if_neg (ne q), if_neg w1, if_pos v, ← (x2 (ne q)).1] at hq
    exact hq
  · rw [if_neg (ne q), if_pos w1, ← (x2 (ne q)).2.2] at hq
    exact hq
  · have : x = -1 := by
      rcases fit with z | z
      · exact z
      · rw [(x2 z.1).1] at q
        omega
    rw [if_pos this] at hq
    exact hq
theorem V_best6 {σ : Mem} {t w : Int} (h6 : σ 1 0 = 6) (ht : 1 ≤ t ∧ t ≤ 900) (hw : 0 ≤ w ∧ w ≤ 2) {Q : Int → Mem → Prop} (h : Q (-100005) σ) : x7_best t w σ Q := by
  unfold x7_best
  exact L_within (by constructor <;> omega) (by omega) (by omega) (fun a => ⟨by omega, fun c => absurd c (by omega), fun _ => L_within (by constructor <;> omega) (by omega) (by omega) (fun b => ⟨by omega, fun _ => ⟨by constructor <;> constructor <;> omega, fun c => absurd h6 c, fun _ => h⟩, fun c => absurd c (by omega)⟩) (fun b => absurd hw b)⟩) (fun a => absurd ht a)
theorem V_best0 {σ : Mem} {t w : Int} (it : InI t) (ht : ¬ (1 ≤ t ∧ t ≤ 900)) {Q : Int → Mem → Prop} (h : Q (-100002) σ) : x7_best t w σ Q := by
  unfold x7_best
  exact L_within it (by omega) (by omega) (fun a => absurd a ht) (fun a => ⟨by omega, fun _ => h, fun c => absurd rfl c⟩)
