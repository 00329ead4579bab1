/-! ===== read in both ===== -/
def ArB (T : Int → Int) (len n : Int) (N : Nat) (t : Mem) : Prop := ∀ i : Nat, i < N → t 20 i = (q_C T len n i).2.2.1 ∧ t 21 i = (q_C T len n i).2.2.2.1 ∧ (t 20 i = 0 ∨ t 20 i = 2 → t 22 i = (q_C T len n i).2.2.2.2.1)
theorem q_st_fl (T : Int → Int) (len k a b i : Int) : 0 ≤ (q_st T len k a b i).1 ∧ (q_st T len k a b i).1 ≤ 1 := by
  unfold q_st
  split
  · show 0 ≤ (0 : Int) ∧ (0 : Int) ≤ 1
    omega
  · show 0 ≤ (1 : Int) ∧ (1 : Int) ≤ 1
    omega
theorem q_sc_fl (T : Int → Int) (len k a lo hi : Int) (w : Nat) (i : Int) : 0 ≤ (q_sc T len k a lo hi w i).1 ∧ (q_sc T len k a lo hi w i).1 ≤ 2 := by
  have t : 0 ≤ (q_to T len w i).1 ∧ (q_to T len w i).1 ≤ 1 := by
    unfold q_to
    split
    · show 0 ≤ (0 : Int) ∧ (0 : Int) ≤ 1
      omega
    · show 0 ≤ (1 : Int) ∧ (1 : Int) ≤ 1
      omega
  have f := q_nf_fl T len lo hi (q_to T len w i).2.2
  have s := q_st_fl T len k a (q_nf T len lo hi (q_to T len w i).2.2).2.2.1 (q_nf T len lo hi (q_to T len w i).2.2).2.2.2
  unfold q_sc
  split
  · show 0 ≤ (q_to T len w i).1 ∧ (q_to T len w i).1 ≤ 2
    omega
  · split
    · exact f
    · omega
theorem q_af_fl (T : Int → Int) (len k n lo hi i : Int) : 0 ≤ (q_af T len k n (q_nf T len lo hi i)).1 ∧ (q_af T len k n (q_nf T len lo hi i)).1 ≤ 2 := by
  have f := q_nf_fl T len lo hi i
  unfold q_af
  split
  · exact f
  · split
    · exact q_sc_fl _ _ _ _ _ _ _ _
    · split
      · exact q_sc_fl _ _ _ _ _ _ _ _
      · have := q_st_fl T len k (q_nf T len lo hi i).2.2.1 0 (q_nf T len lo hi i).2.2.2
        omega
theorem q_cl_fl (T : Int → Int) (len n c j : Int) : 0 ≤ (q_cl T len n c j).1 ∧ (q_cl T len n c j).1 ≤ 9 := by
  unfold q_cl
  split
  · show 0 ≤ (1 : Int) ∧ (1 : Int) ≤ 9
    omega
  · split
    · show 0 ≤ (5 : Int) ∧ (5 : Int) ≤ 9
      omega
    · split
      · exact q_rr_fl _ _ _ _ _ _ _
      · split
        · have := q_af_fl T len 1 n 1 900 (q_end (q_lt T) len j)
          omega
        · have := q_af_fl T len (q_kd T j (q_end (q_lt T) len j)) n 0 (n - 1) (q_end (q_lt T) len j)
          omega
def FrQ (t t' : Mem) : Prop := (∀ d : Nat, d ≠ 0 → d ≠ 20 → d ≠ 21 → d ≠ 22 → t' d = t d) ∧ ∀ i : Int, i ≠ 31 → i ≠ 32 → i ≠ 33 → i ≠ 34 → i ≠ 35 → i ≠ 37 → t' 0 i = t 0 i
theorem TxB.fq {T : Int → Int} {len : Int} {t t' : Mem} (h : TxB T len t) (f : FrQ t t') : TxB T len t' := ⟨by rw [f.1 19 (by omega) (by omega) (by omega) (by omega)]; exact h.1, by rw [f.2 30 (by omega) (by omega) (by omega) (by omega) (by omega) (by omega)]; exact h.2.1, h.2.2⟩
theorem B_parse {T : Int → Int} {len n : Int} (hn : 3 ≤ n ∧ n ≤ 6) {t : Mem} (tx : TxB T len t) (h00 : t 0 0 = n) {Q : Int → Mem → Prop} (h1 : ∀ N : Nat, q_fst T len n N → N ≤ 12 → q_ps T len n N < len → ∀ t' : Mem, FrQ t t' → t' 0 32 = (q_C T len n N).1 → 0 < t' 0 32 → InI (t' 0 32) → t' 0 33 = (q_C T len n N).2.1 → x8_read_L41 Q t') (h0 : ∀ N : Nat, q_fst T len n N → N ≤ 12 → len ≤ q_ps T len n N → ∀ t' : Mem, FrQ t t' → t' 0 32 = 0 → t' 0 33 = -1 → t' 0 37 = N → ArB T len n N t' → x8_read_L41 Q t') : x8_read t Q := by
  apply x8_read_i
  intro s1 e1 s2 e2 s3 e3 s4 e4
  have psE : ∀ c, q_end (q_sp T) len (q_ps T len n c) = q_ps T len n c := fun c => by
    cases c with
    | zero => exact q_end_end
    | succ c => exact q_end_end
  have key : ∀ (m c : Nat) (u : Mem), m + c = 13 → (∀ i, i < c → ¬ q_halt T len n i) → FrQ t u → u 0 32 = 0 → u 0 33 = -1 → u 0 37 = c → (0 ≤ u 0 31 ∧ u 0 31 ≤ len) → q_end (q_sp T) len (u 0 31) = q_ps T len n c → ArB T len n c u → x8_read_L20 Q u := by
    intro m
    induction m with
    | zero =>
      intro c u hm hno
      exact absurd (Or.inr (q_C12 T len n)) (hno 12 (by omega))
    | succ m ih =>
      intro c u hm hno fu u32 u33 u37 up e ar
      have c12 : c ≤ 12 := by omega
      have txu := tx.fq fu
      have bj := q_end_bd (p := q_sp T) (len := len) (i := u 0 31)
      rw [e] at bj
      apply x8_read_s20
      refine ⟨by rw [u32]; constructor <;> omega, fun z => absurd u32 z, fun _ => B_here txu up (fun w fw gw w31 => ?_)⟩
      rw [e] at w31 ⊢
      have fq : FrQ t w := ⟨fun d d1 d2 d3 d4 => by rw [fw.1 d d1, fu.1 d d1 d2 d3 d4], fun i i1 i2 i3 i4 i5 i6 => by rw [gw i i1, fu.2 i i1 i2 i3 i4 i5 i6]⟩
      have w32 : w 0 32 = 0 := by rw [gw 32 (by omega), u32]
      have w33 : w 0 33 = -1 := by rw [gw 33 (by omega), u33]
      have w37 : w 0 37 = c := by rw [gw 37 (by omega), u37]
      by_cases hl : q_ps T len n c < len
      · rw [if_pos hl]
        have tb := tx.2.2.2 _ (by omega) hl
        refine ⟨by constructor <;> omega, fun z => absurd z (by omega), fun _ => ?_⟩
        have fl := q_cl_fl T len n c (q_ps T len n c)
        refine B_readClause (c := c) hn (txu.fr fw) w31 ⟨by omega, hl⟩ (psE c) w32 w37 (by omega) (by rw [gw 0 (by omega), fu.2 0 (by omega) (by omega) (by omega) (by omega) (by omega) (by omega), h00]) (fun z x fx x32 ix x33 => ?_) (fun z nc x xd xs xa x32 x33 x37 x31 x20 x21 x22 => ?_)
        · apply x8_read_s20
          have n32 : ¬ x 0 32 = 0 := by rw [x32]; exact z
          exact ⟨ix, fun _ => h1 c ⟨Or.inr z, hno⟩ c12 hl x ⟨fun d d1 d2 d3 d4 => by rw [fx.1 d d1 d2 d3 d4, fq.1 d d1 d2 d3 d4], fun i i1 i2 i3 i4 i5 i6 => by rw [fx.2.1 i i1 i2 i3 i4 i5, fq.2 i i1 i2 i3 i4 i5 i6]⟩ x32 (by rw [x32] at n32 ⊢; omega) ix x33, fun y => absurd y n32⟩
        · have nh : ¬ q_halt T len n c := fun q => by
            rcases q with q | q
            · omega
            · exact q z
          have cl := q_cl_ok hn (show q_ps T len n c ≤ len by omega) z
          refine ih (c + 1) x (by omega) (fun i hi => ?_) ⟨fun d d1 d2 d3 d4 => by rw [xd d d1 d2 d3 d4, fq.1 d d1 d2 d3 d4], fun i i1 i2 i3 i4 i5 i6 => by rw [xs i i1 i2 i3 i4 i5 i6, fq.2 i i1 i2 i3 i4 i5 i6]⟩ x32 (by rw [x33, w33]) (by rw [x37]; omega) (by rw [x31]; omega) (by rw [x31]; rfl) (fun i hi => ?_)
          · by_cases q : i = c
            · rw [q]
              exact nh
            · exact hno i (by omega)
          · by_cases q : i = c
            · rw [q]
              exact ⟨x20, x21, x22⟩
            · have o := xa (i : Int) (by omega)
              rw [o.1, o.2.1, o.2.2, fw.1 20 (by omega), fw.1 21 (by omega), fw.1 22 (by omega)]
              exact ar i (by omega)
      · rw [if_neg hl]
        refine ⟨by omega, fun _ => h0 c ⟨Or.inl (by omega), hno⟩ c12 (by omega) w fq w32 w33 w37 ?_, fun z => absurd z (by omega)⟩
        intro i hi
        rw [fw.1 20 (by omega), fw.1 21 (by omega), fw.1 22 (by omega)]
        exact ar i hi
  have f4 : FrQ t s4 := ⟨fun d d1 _ _ _ => by rw [u_nc e4 d1, u_nc e3 d1, u_nc e2 d1, u_nc e1 d1], fun i i1 i2 i3 _ _ i6 => by rw [u_ne e4 i6, u_ne e3 i3, u_ne e2 i2, u_ne e1 i1]⟩
  have s31 : s4 0 31 = 0 := by rw [u_ne e4 (by omega), u_ne e3 (by omega), u_ne e2 (by omega), u_at e1]
  refine key 13 0 s4 rfl (fun i hi => absurd hi (by omega)) f4 (by rw [u_ne e4 (by omega), u_ne e3 (by omega), u_at e2]) (by rw [u_ne e4 (by omega), u_at e3]) (by rw [u_at e4]; rfl) (by rw [s31]; have := tx.2.2.1; omega) (by rw [s31]; rfl) (fun i hi => absurd hi (by omega))
theorem Rel.text {σ τ s t : Mem} (R : Rel σ τ) {x y : Int} (f : ∀ c : Nat, c ≠ 0 → c ≠ 37 → c ≠ 38 → c ≠ 39 → c ≠ 40 → s c = σ c) (h7 : s 0 7 = x) (h0 : s 37 0 = 0) (h2 : s 37 2 = y) (g : ∀ d : Nat, d ≠ 0 → d ≠ 20 → d ≠ 21 → d ≠ 22 → t d = τ d) (g0 : t 0 0 = τ 0 0 ∧ t 0 1 = τ 0 1 ∧ t 0 8 = τ 0 8) (g30 : t 0 30 = 0) (g36 : t 0 36 = x) (g33 : t 0 33 = y) : Rel s t := by
  refine ⟨R.1.cong (fun c c1 c2 => f c (by omega) (by omega) (by omega) (by omega) (by omega)) (fun c c1 c2 => g c (by omega) (by omega) (by omega) (by omega)) g0.1 g0.2.1, R.2.1.cong (by rw [f 23 (by omega) (by omega) (by omega) (by omega) (by omega)]) (fun d d1 d2 => f d (by omega) (by omega) (by omega) (by omega) (by omega)) g0.2.2 (g 7 (by omega) (by omega) (by omega) (by omega)), R.2.2.1.cong (f 32 (by omega) (by omega) (by omega) (by omega) (by omega)) (g 8 (by omega) (by omega) (by omega) (by omega)), R.2.2.2.1.cong (by rw [f 1 (by omega) (by omega) (by omega) (by omega) (by omega)]) (f 34 (by omega) (by omega) (by omega) (by omega) (by omega)) (f 35 (by omega) (by omega) (by omega) (by omega) (by omega)) (f 36 (by omega) (by omega) (by omega) (by omega) (by omega)) (g 9 (by omega) (by omega) (by omega) (by omega)) (g 10 (by omega) (by omega) (by omega) (by omega)) (g 11 (by omega) (by omega) (by omega) (by omega)), ?_, R.2.2.2.2.2.cong (f 22 (by omega) (by omega) (by omega) (by omega) (by omega))⟩
  exact ⟨by rw [h0, g30], by omega, fun j h1 h2 => absurd h2 (by omega), by rw [h7, g36], by rw [h2, g33]⟩
theorem Rel.tick {σ τ s t : Mem} (R : Rel σ τ) {x : Int} (e : s = m_upd σ 0 7 x) (e' : t = m_upd τ 0 36 x) : Rel s t := by
  have f : ∀ c : Nat, c ≠ 0 → s c = σ c := fun c hc => u_nc e hc
  have g : ∀ c : Nat, c ≠ 0 → t c = τ c := fun c hc => u_nc e' hc
  have g0 : ∀ j : Int, j ≠ 36 → t 0 j = τ 0 j := fun j hj => u_ne e' hj
  refine ⟨R.1.cong (fun c c1 c2 => f c (by omega)) (fun c c1 c2 => g c (by omega)) (g0 0 (by omega)) (g0 1 (by omega)), R.2.1.cong (by rw [f 23 (by omega)]) (fun d d1 d2 => f d (by omega)) (g0 8 (by omega)) (g 7 (by omega)), R.2.2.1.cong (f 32 (by omega)) (g 8 (by omega)), R.2.2.2.1.cong (by rw [f 1 (by omega)]) (f 34 (by omega)) (f 35 (by omega)) (f 36 (by omega)) (g 9 (by omega)) (g 10 (by omega)) (g 11 (by omega)), ?_, R.2.2.2.2.2.cong (f 22 (by omega))⟩
  obtain ⟨t1, t2, t3, t4, t5⟩ := R.2.2.2.2.1
  unfold RelT
  rw [f 37 (by omega), f 41 (by omega), g 19 (by omega), g0 30 (by omega), g0 33 (by omega), u_at e, u_at e']
  exact ⟨t1, t2, t3, rfl, t5⟩
theorem U_run {T : Int → Int} {len n : Int} {N : Nat} (hN : N ≤ 12) (okc : ∀ i : Nat, i < N → q_okc n (q_C T len n i).2.2.1 (q_C T len n i).2.2.2.1 (q_C T len n i).2.2.2.2.1) {Q : Int → Mem → Prop} : ∀ (m i : Nat) (s : Mem), m + i = N → CA s → s 37 3 = N → s 0 7 = i → s 1 0 = n → ArA T len n N s → (∀ (r : Int) (s' : Mem), (∀ τ : Mem, Rel s τ → τ 0 37 = N → ArB T len n N τ → x8_read_L71 (fun r' τ' => r = r' ∧ Rel s' τ') τ) → Q r s') → x7_read_L45 Q (i : Int) s := by
  intro m
  induction m with
  | zero =>
    intro i s hm ca s3 s7 s1 ar hQ
    apply x7_read_s45
    refine ⟨by rw [s3]; constructor <;> constructor <;> omega, fun _ => hQ _ s (fun τ R h37 arB => ?_), fun c => absurd c (by rw [s3]; omega)⟩
    have e36 : τ 0 36 = i := by rw [← R.2.2.2.2.1.2.2.2.1, s7]
    apply x8_read_s71
    exact ⟨by rw [e36, h37]; constructor <;> constructor <;> omega, fun _ => ⟨by rw [e36, s7], R⟩, fun c => absurd c (by rw [e36, h37]; omega)⟩
  | succ m ih =>
    intro i s hm ca s3 s7 s1 ar hQ
    have ai := ar i (by omega)
    apply x7_read_s45
    refine ⟨by rw [s3]; constructor <;> constructor <;> omega, fun c => absurd c (by rw [s3]; omega), fun _ => U_op (i := (i : Int)) (b := (q_C T len n i).2.2.2.2.1) ca (by omega) ai.1 ai.2.1 (fun h => ai.2.2 (by rw [ai.1]; exact h)) (by rw [s1]; exact okc i (by omega)) (fun r s6 hr hc h0 h1 ca6 op => ?_)⟩
    have step : ∀ (P : Int → Mem → Prop) (τ : Mem), Rel s τ → τ 0 37 = N → ArB T len n N τ → (∀ t : Mem, FrO' τ t → Rel s6 t → InI r ∧ (r = 0 → P (t 0 36) t) ∧ (¬ r = 0 → ∀ s16 : Mem, s16 = m_upd t 0 36 (t 0 36 + 1) → x8_read_L71 P s16)) → x8_read_L71 P τ := fun P τ R h37 arB hP => by
      have e36 : τ 0 36 = i := by rw [← R.2.2.2.2.1.2.2.2.1, s7]
      have bi := arB i (by omega)
      apply x8_read_s71
      unfold x8_read_b71
      rw [e36, h37]
      exact ⟨by constructor <;> constructor <;> omega, fun c => absurd c (by omega), fun _ => op τ R bi.1 bi.2.1 (fun h => bi.2.2 (by rw [bi.1]; exact h)) _ hP⟩
    refine ⟨by omega, fun r0 => hQ _ s6 (fun τ R h37 arB => step _ τ R h37 arB (fun t ft Rt => ⟨by omega, fun _ => ⟨?_, Rt⟩, fun c => absurd r0 c⟩)), fun r1 s8 e8 => ?_⟩
    · exact Rt.2.2.2.2.1.2.2.2.1
    · have c8 : ∀ c : Nat, c ≠ 0 → s8 c = s6 c := fun c hc => u_nc e8 hc
      have s87 : s8 0 7 = ((i + 1 : Nat) : Int) := by rw [u_at e8, h0, s7]; omega
      have := ih (i + 1) s8 (by omega) ⟨(ca6.1.other (fun c c1 c2 => c8 c (by omega))).1, by rw [c8 1 (by omega), c8 6 (by omega)]; exact ca6.2⟩ (by rw [c8 37 (by omega), hc 37 (by omega), s3]) s87 (by rw [c8 1 (by omega), h1, s1]) (fun j hj => by rw [c8 38 (by omega), c8 39 (by omega), c8 40 (by omega), hc 38 (by omega), hc 39 (by omega), hc 40 (by omega)]; exact ar j hj) (fun r' s' hs' => hQ r' s' (fun τ R h37 arB => step _ τ R h37 arB (fun t ft Rt => ⟨by omega, fun c => absurd c r1, fun _ s16 e16 => ?_⟩)))
      · rw [show ((i + 1 : Nat) : Int) = (i : Int) + 1 by omega] at this
        exact this
      · have e7 : s6 0 7 = t 0 36 := Rt.2.2.2.2.1.2.2.2.1
        rw [← e7] at e16
        have g : ∀ d : Nat, d ≠ 0 → s16 d = t d := fun d hd => u_nc e16 hd
        refine hs' s16 (Rt.tick e8 e16) (by rw [u_ne e16 (by omega), ft.2.2, h37]) (fun j hj => ?_)
        rw [g 20 (by omega), g 21 (by omega), g 22 (by omega), ft.1 20 (by omega), ft.1 21 (by omega), ft.1 22 (by omega)]
        exact arB j hj
theorem M_read {σ τ : Mem} (R : Rel σ τ) : Ans (x7_read σ) (x8_read τ) := by
  unfold Ans
  apply x7_read_i
  have hn := R.n
  have e0 : σ 1 0 = τ 0 0 := R.1.1
  obtain ⟨t1, t2, t3, t4, t5⟩ := R.2.2.2.2.1
  have txA : TxA (σ 41) (σ 37 0) σ := ⟨rfl, rfl, t2, fun k h1 h2 => (t3 k h1 h2).2⟩
  have txB : TxB (σ 41) (σ 37 0) τ := ⟨fun k h1 h2 => (t3 k h1 h2).1.symm, t1.symm, t2, fun k h1 h2 => (t3 k h1 h2).2⟩
  refine L_understand hn txA (fun N hf h12 hl s fs s1 s2 s3 e3 s4 e4 => ⟨by omega, fun c => absurd rfl c, fun _ => ?_⟩) (fun N hf h12 hl s fs s33 s2 ar s3 e3 s4 e4 => ⟨by omega, fun _ => ?_, fun c => absurd c (by omega)⟩)
  · -- a fault
    have c4 : ∀ c : Nat, c ≠ 0 → c ≠ 37 → c ≠ 38 → c ≠ 39 → c ≠ 40 → s4 c = σ c := fun c c0 c1 c2 c3 c5 => by rw [u_nc e4 c0, u_nc e3 c1, fs.1 c c1 c2 c3 c5]
    have h31 : s4 37 1 = (q_C (σ 41) (σ 37 0) (σ 1 0) N).1 := by rw [u_nc e4 (by omega), u_ne e3 (by omega), s1]
    refine B_parse hn txB e0.symm (fun M hM _ _ t ft t32 p32 i32 t33 => ?_) (fun M hM _ hl2 => absurd (q_fst_un hf hM) (fun z => by rw [z] at hl; omega))
    obtain rfl := q_fst_un hf hM
    apply x8_read_s41
    intro s10 e10
    have t10 : s10 0 32 = t 0 32 := u_ne e10 (by omega)
    refine ⟨by rw [t10]; exact i32, fun c => absurd c (by rw [t10]; omega), fun _ s12 e12 => ⟨?_, ?_⟩⟩
    · rw [h31, u_ne e12 (by omega), t10, t32]
    · refine R.text (x := 0) (y := (q_C (σ 41) (σ 37 0) (σ 1 0) N).2.1) c4 (u_at e4) ?_ ?_ (fun d d1 d2 d3 d4 => by rw [u_nc e12 d1, u_nc e10 d1, ft.1 d d1 d2 d3 d4]) ⟨?_, ?_, ?_⟩ ?_ (u_at e12) ?_
      · rw [u_nc e4 (by omega), u_at e3]
      · rw [u_nc e4 (by omega), u_ne e3 (by omega), s2]
      · rw [u_ne e12 (by omega), u_ne e10 (by omega), ft.2 0 (by omega) (by omega) (by omega) (by omega) (by omega) (by omega)]
      · rw [u_ne e12 (by omega), u_ne e10 (by omega), ft.2 1 (by omega) (by omega) (by omega) (by omega) (by omega) (by omega)]
      · rw [u_ne e12 (by omega), u_ne e10 (by omega), ft.2 8 (by omega) (by omega) (by omega) (by omega) (by omega) (by omega)]
      · rw [u_ne e12 (by omega), u_at e10]
      · rw [u_ne e12 (by omega), u_ne e10 (by omega), t33]
  · -- sound: clause by clause
    have c4 : ∀ c : Nat, c ≠ 0 → c ≠ 37 → c ≠ 38 → c ≠ 39 → c ≠ 40 → s4 c = σ c := fun c c0 c1 c2 c3 c5 => by rw [u_nc e4 c0, u_nc e3 c1, fs.1 c c1 c2 c3 c5]
    have c5 : ∀ c : Nat, 1 ≤ c → c ≤ 6 → s4 c = σ c := fun c h1 h2 => c4 c (by omega) (by omega) (by omega) (by omega) (by omega)
    have okc : ∀ i : Nat, i < N → q_okc (σ 1 0) (q_C (σ 41) (σ 37 0) (σ 1 0) i).2.2.1 (q_C (σ 41) (σ 37 0) (σ 1 0) i).2.2.2.1 (q_C (σ 41) (σ 37 0) (σ 1 0) i).2.2.2.2.1 := fun i hi => by
      have nh := hf.2 i hi
      have f0 : (q_C (σ 41) (σ 37 0) (σ 1 0) i).1 = 0 := Classical.byContradiction (fun z => nh (Or.inr z))
      have pl : q_ps (σ 41) (σ 37 0) (σ 1 0) i ≤ σ 37 0 := by
        refine Int.not_lt.mp (fun z => nh (Or.inl (by omega)))
      exact (q_cl_ok hn pl f0).2.2
    refine U_run h12 okc N 0 s4 (by omega) ⟨(R.okA.other (fun c h1 h2 => c5 c (by omega) (by omega))).1, by rw [c5 1 (by omega) (by omega), c5 6 (by omega) (by omega)]; exact R.rowA⟩ (by rw [u_nc e4 (by omega), u_ne e3 (by omega), s33]) (by rw [u_at e4]; rfl) (by rw [c5 1 (by omega) (by omega)]) (fun i hi => by rw [u_nc e4 (by omega), u_nc e4 (by omega), u_nc e4 (by omega), u_nc e3 (by omega), u_nc e3 (by omega), u_nc e3 (by omega)]; exact ar i hi) (fun r s' hs' => ?_)
    refine B_parse hn txB e0.symm (fun M hM _ hl2 => absurd (q_fst_un hf hM) (fun z => by rw [z] at hl; omega)) (fun M hM _ _ t ft t32 t33 t37 arB => ?_)
    obtain rfl := q_fst_un hf hM
    apply x8_read_s41
    intro s10 e10
    have t10 : s10 0 32 = 0 := by rw [u_ne e10 (by omega), t32]
    refine ⟨by rw [t10]; constructor <;> omega, fun _ s11 e11 => ?_, fun c => absurd c (by rw [t10]; omega)⟩
    refine hs' s11 ?_ ?_ (fun i hi => by rw [u_nc e11 (by omega), u_nc e11 (by omega), u_nc e11 (by omega), u_nc e10 (by omega), u_nc e10 (by omega), u_nc e10 (by omega)]; exact arB i hi)
    · refine R.text (x := 0) (y := -1) c4 (u_at e4) ?_ ?_ (fun d d1 d2 d3 d4 => by rw [u_nc e11 d1, u_nc e10 d1, ft.1 d d1 d2 d3 d4]) ⟨?_, ?_, ?_⟩ ?_ (u_at e11) ?_
      · rw [u_nc e4 (by omega), u_at e3]
      · rw [u_nc e4 (by omega), u_ne e3 (by omega), s2]
      · rw [u_ne e11 (by omega), u_ne e10 (by omega), ft.2 0 (by omega) (by omega) (by omega) (by omega) (by omega) (by omega)]
      · rw [u_ne e11 (by omega), u_ne e10 (by omega), ft.2 1 (by omega) (by omega) (by omega) (by omega) (by omega) (by omega)]
      · rw [u_ne e11 (by omega), u_ne e10 (by omega), ft.2 8 (by omega) (by omega) (by omega) (by omega) (by omega) (by omega)]
      · rw [u_ne e11 (by omega), u_at e10]
      · rw [u_ne e11 (by omega), u_ne e10 (by omega), t33]
    · rw [u_ne e11 (by omega), u_ne e10 (by omega), t37]
