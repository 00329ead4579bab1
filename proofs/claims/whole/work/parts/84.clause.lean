/-! ===== read: the class takes a clause ===== -/
/-- a fault told, too -/
def FrX (s s' : Mem) : Prop := (∀ d : Nat, d ≠ 37 → s' d = s d) ∧ ∀ i : Int, i ≠ 1 → i ≠ 2 → i ≠ 8 → i ≠ 9 → i ≠ 10 → i ≠ 11 → s' 37 i = s 37 i
theorem FrW.x {a b c : Mem} (h : FrW a b) (g : FrX b c) : FrX a c := ⟨fun d hd => (g.1 d hd).trans (h.1 d hd), fun i h1 h2 h3 h4 h5 h6 => (g.2 i h1 h2 h3 h4 h5 h6).trans (h.2 i h3 h4 h5 h6)⟩
def FrY (c : Int) (s s' : Mem) : Prop := (∀ d : Nat, d ≠ 37 → d ≠ 38 → d ≠ 39 → d ≠ 40 → s' d = s d) ∧ (∀ i : Int, i ≠ 8 → i ≠ 9 → i ≠ 10 → i ≠ 11 → s' 37 i = s 37 i) ∧ ∀ i : Int, i ≠ c → s' 38 i = s 38 i ∧ s' 39 i = s 39 i ∧ s' 40 i = s 40 i
def FrZ (c : Int) (s s' : Mem) : Prop := (∀ d : Nat, d ≠ 37 → d ≠ 38 → d ≠ 39 → d ≠ 40 → s' d = s d) ∧ (∀ i : Int, i ≠ 1 → i ≠ 2 → i ≠ 8 → i ≠ 9 → i ≠ 10 → i ≠ 11 → s' 37 i = s 37 i) ∧ ∀ i : Int, i ≠ c → s' 38 i = s 38 i ∧ s' 39 i = s 39 i ∧ s' 40 i = s 40 i
theorem FrY.of {c : Int} {s s' : Mem} (f : FrW s s') : FrY c s s' := ⟨fun d h _ _ _ => f.1 d h, f.2, fun i _ => ⟨by rw [f.1 38 (by omega)], by rw [f.1 39 (by omega)], by rw [f.1 40 (by omega)]⟩⟩
theorem FrZ.of {c : Int} {s s' : Mem} (f : FrX s s') : FrZ c s s' := ⟨fun d h _ _ _ => f.1 d h, f.2, fun i _ => ⟨by rw [f.1 38 (by omega)], by rw [f.1 39 (by omega)], by rw [f.1 40 (by omega)]⟩⟩
theorem FrY.trans {e : Int} {a b c : Mem} (h : FrY e a b) (g : FrY e b c) : FrY e a c := ⟨fun d h1 h2 h3 h4 => (g.1 d h1 h2 h3 h4).trans (h.1 d h1 h2 h3 h4), fun i h1 h2 h3 h4 => (g.2.1 i h1 h2 h3 h4).trans (h.2.1 i h1 h2 h3 h4), fun i hi => ⟨(g.2.2 i hi).1.trans (h.2.2 i hi).1, (g.2.2 i hi).2.1.trans (h.2.2 i hi).2.1, (g.2.2 i hi).2.2.trans (h.2.2 i hi).2.2⟩⟩
theorem FrY.z {e : Int} {a b c : Mem} (h : FrY e a b) (g : FrZ e b c) : FrZ e a c := ⟨fun d h1 h2 h3 h4 => (g.1 d h1 h2 h3 h4).trans (h.1 d h1 h2 h3 h4), fun i h1 h2 h3 h4 h5 h6 => (g.2.1 i h1 h2 h3 h4 h5 h6).trans (h.2.1 i h3 h4 h5 h6), fun i hi => ⟨(g.2.2 i hi).1.trans (h.2.2 i hi).1, (g.2.2 i hi).2.1.trans (h.2.2 i hi).2.1, (g.2.2 i hi).2.2.trans (h.2.2 i hi).2.2⟩⟩
theorem FrZ.y {e : Int} {a b c : Mem} (h : FrZ e a b) (g : FrY e b c) : FrZ e a c := ⟨fun d h1 h2 h3 h4 => (g.1 d h1 h2 h3 h4).trans (h.1 d h1 h2 h3 h4), fun i h1 h2 h3 h4 h5 h6 => (g.2.1 i h3 h4 h5 h6).trans (h.2.1 i h1 h2 h3 h4 h5 h6), fun i hi => ⟨(g.2.2 i hi).1.trans (h.2.2 i hi).1, (g.2.2 i hi).2.1.trans (h.2.2 i hi).2.1, (g.2.2 i hi).2.2.trans (h.2.2 i hi).2.2⟩⟩
theorem FrY.set {s s' : Mem} {d : Nat} {c x : Int} (e : s' = m_upd s d c x) (hd : d = 38 ∨ d = 39 ∨ d = 40) : FrY c s s' := by
  refine ⟨fun b h1 h2 h3 h4 => u_nc e (by omega), fun i _ _ _ _ => by rw [u_nc e (by omega)], fun i hi => ?_⟩
  rcases hd with q | q | q <;> subst q
  · exact ⟨u_ne e hi, by rw [u_nc e (by omega)], by rw [u_nc e (by omega)]⟩
  · exact ⟨by rw [u_nc e (by omega)], u_ne e hi, by rw [u_nc e (by omega)]⟩
  · exact ⟨by rw [u_nc e (by omega)], by rw [u_nc e (by omega)], u_ne e hi⟩
theorem TxA.fy {T : Int → Int} {len c : Int} {s s' : Mem} (h : TxA T len s) (f : FrY c s s') : TxA T len s' := ⟨by rw [f.1 41 (by omega) (by omega) (by omega) (by omega)]; exact h.1, by rw [f.2.1 0 (by omega) (by omega) (by omega) (by omega)]; exact h.2.1, h.2.2⟩
theorem L_faulty {f : Int} {s : Mem} {Q : Int → Mem → Prop} (h : ∀ s' : Mem, FrX s s' → s' 37 1 = f → s' 37 2 = s 37 10 → Q 0 s') : x5_faulty f s Q := by
  intro s1 e1 s2 e2
  refine ⟨by omega, h s2 ⟨fun d hd => by rw [u_nc e2 hd, u_nc e1 hd], fun i h1 h2 _ _ _ _ => by rw [u_ne e2 h2, u_ne e1 h1]⟩ ?_ ?_⟩
  · rw [u_ne e2 (by omega), u_at e1]
  · rw [u_at e2, u_ne e1 (by omega)]
theorem q_nf_1 {T : Int → Int} {len lo hi i : Int} (h : ¬ (q_end (q_sp T) len i < len ∧ 48 ≤ T (q_end (q_sp T) len i) ∧ T (q_end (q_sp T) len i) ≤ 57)) : q_nf T len lo hi i = (1, q_end (q_sp T) len i, 0, 0) := if_pos h
theorem q_nf_2 {T : Int → Int} {len lo hi i : Int} (h : (q_end (q_sp T) len i < len ∧ 48 ≤ T (q_end (q_sp T) len i) ∧ T (q_end (q_sp T) len i) ≤ 57)) (h2 : 4 ≤ q_end (q_fg T) len (q_end (q_sp T) len i) - q_end (q_sp T) len i ∨ ¬ (lo ≤ q_val T (q_end (q_sp T) len i) (q_end (q_fg T) len (q_end (q_sp T) len i) - q_end (q_sp T) len i).toNat ∧ q_val T (q_end (q_sp T) len i) (q_end (q_fg T) len (q_end (q_sp T) len i) - q_end (q_sp T) len i).toNat ≤ hi)) : q_nf T len lo hi i = (2, q_end (q_sp T) len i, 0, 0) := by
  unfold q_nf
  rw [if_neg (fun z => z h), if_pos h2]
theorem q_nf_0 {T : Int → Int} {len lo hi i : Int} (h : (q_end (q_sp T) len i < len ∧ 48 ≤ T (q_end (q_sp T) len i) ∧ T (q_end (q_sp T) len i) ≤ 57)) (h2 : ¬ (4 ≤ q_end (q_fg T) len (q_end (q_sp T) len i) - q_end (q_sp T) len i ∨ ¬ (lo ≤ q_val T (q_end (q_sp T) len i) (q_end (q_fg T) len (q_end (q_sp T) len i) - q_end (q_sp T) len i).toNat ∧ q_val T (q_end (q_sp T) len i) (q_end (q_fg T) len (q_end (q_sp T) len i) - q_end (q_sp T) len i).toNat ≤ hi))) : q_nf T len lo hi i = (0, q_end (q_sp T) len i, q_val T (q_end (q_sp T) len i) (q_end (q_fg T) len (q_end (q_sp T) len i) - q_end (q_sp T) len i).toNat, q_end (q_fg T) len (q_end (q_sp T) len i)) := by
  unfold q_nf
  rw [if_neg (fun z => z h), if_neg h2]
theorem L_numberLies {T : Int → Int} {len i : Int} {s : Mem} (g : GoA T len i s) {lo hi : Int} (hh : 0 ≤ lo ∧ lo ≤ 900 ∧ 0 ≤ hi ∧ hi ≤ 900) {Q : Int → Mem → Prop} (h1 : ¬ (q_nf T len lo hi i).1 = 0 → ∀ s' : Mem, FrX s s' → s' 37 1 = (q_nf T len lo hi i).1 → s' 37 2 = (q_nf T len lo hi i).2.1 → Q 0 s') (h0 : (q_nf T len lo hi i).1 = 0 → s 37 11 = (q_nf T len lo hi i).2.2.1 → s 37 8 = (q_nf T len lo hi i).2.2.2 → lo ≤ s 37 11 ∧ s 37 11 ≤ hi → Q 1 s) : x5_numberLies lo hi s Q := by
  obtain ⟨g10, g9, g8, g11⟩ := g
  have tb := q_tok_bd T len (q_end (q_sp T) len i)
  refine ⟨⟨by rw [g9]; constructor <;> omega, by constructor <;> omega⟩, fun q => ?_, fun q => L_faulty (fun s' f e1 e2 => ⟨by omega, ?_⟩)⟩
  · rw [g9] at q
    have d := q_tok8.mp q
    have v := g11 q
    have vb := q_vl_bd T len (q_end (q_sp T) len i)
    rw [← v] at vb
    refine L_within (by constructor <;> omega) (by constructor <;> omega) (by constructor <;> omega) (fun w => ⟨by omega, fun _ => ⟨by omega, ?_⟩, fun c => absurd c (by omega)⟩) (fun w => ⟨by omega, fun c => absurd rfl c, fun _ => L_faulty (fun s' f e1 e2 => ⟨by omega, fun _ => ⟨by omega, ?_⟩, fun c => absurd rfl c⟩)⟩)
    · by_cases z : q_end (q_fg T) len (q_end (q_sp T) len i) - q_end (q_sp T) len i ≤ 3
      · have v2 := v
        unfold q_vl at v2
        rw [if_pos z] at v2
        have e := q_nf_0 (lo := lo) (hi := hi) d (by rw [← v2]; omega)
        rw [e] at h0
        refine h0 rfl v2 ?_ w
        rw [g8]
        unfold q_nxt
        rw [if_neg (by omega), if_neg (by omega), if_pos d.2]
      · unfold q_vl at v
        rw [if_neg z] at v
        omega
    · have e : q_nf T len lo hi i = (2, q_end (q_sp T) len i, 0, 0) := q_nf_2 d (by
        by_cases z : q_end (q_fg T) len (q_end (q_sp T) len i) - q_end (q_sp T) len i ≤ 3
        · have v2 := v
          unfold q_vl at v2
          rw [if_pos z] at v2
          rw [← v2]
          exact Or.inr w
        · exact Or.inl (by omega))
      rw [e] at h1
      exact h1 (show ¬ (2 : Int) = 0 by omega) s' f e1 (by rw [e2, g10])
  · have e : q_nf T len lo hi i = (1, q_end (q_sp T) len i, 0, 0) := q_nf_1 (fun z => q (by rw [g9]; exact q_tok8.mpr z))
    rw [e] at h1
    exact h1 (show ¬ (1 : Int) = 0 by omega) s' f e1 (by rw [e2, g10])
theorem L_takeFirst {T : Int → Int} {len : Int} {s : Mem} (tx : TxA T len s) (hp : 0 ≤ s 37 8 ∧ s 37 8 ≤ len) (hc : 0 ≤ s 37 3 ∧ s 37 3 < 12) {lo hi : Int} (hh : 0 ≤ lo ∧ lo ≤ 900 ∧ 0 ≤ hi ∧ hi ≤ 900) {Q : Int → Mem → Prop} (h1 : ¬ (q_nf T len lo hi (s 37 8)).1 = 0 → ∀ s' : Mem, FrZ (s 37 3) s s' → s' 37 1 = (q_nf T len lo hi (s 37 8)).1 → s' 37 2 = (q_nf T len lo hi (s 37 8)).2.1 → Q 0 s') (h0 : (q_nf T len lo hi (s 37 8)).1 = 0 → ∀ s' : Mem, FrY (s 37 3) s s' → s' 37 8 = (q_nf T len lo hi (s 37 8)).2.2.2 → s' 38 = s 38 → s' 39 (s 37 3) = (q_nf T len lo hi (s 37 8)).2.2.1 → s' 40 = s 40 → 0 ≤ s' 37 8 ∧ s' 37 8 ≤ len → Q 1 s') : x5_takeFirst lo hi s Q := by
  refine L_goOn tx hp (fun u fu gu => ?_)
  have u3 : u 37 3 = s 37 3 := fu.2 3 (by omega) (by omega) (by omega) (by omega)
  have bj := q_end_bd (p := q_sp T) (len := len) (i := s 37 8)
  have bn := q_nxt_bd (T := T) (bj.2 hp.2)
  have u8 := gu.2.2.1
  refine L_numberLies gu hh (fun z v fv e1 e2 => ⟨?_, fun s' e' => ⟨by omega, h1 z s' ?_ ?_ ?_⟩⟩) (fun z z1 z2 z3 => ⟨?_, fun s' e' => ⟨by omega, h0 z s' ?_ ?_ ?_ ?_ ?_ ?_⟩⟩)
  · rw [fv.2 3 (by omega) (by omega) (by omega) (by omega) (by omega) (by omega), u3]
    exact hc
  · rw [fv.2 3 (by omega) (by omega) (by omega) (by omega) (by omega) (by omega), u3] at e'
    exact ((FrY.of fu).z (FrZ.of fv)).y (FrY.set e' (by omega))
  · rw [u_nc e' (by omega), e1]
  · rw [u_nc e' (by omega), e2]
  · rw [u3]
    exact hc
  · rw [u3] at e'
    exact (FrY.of fu).trans (FrY.set e' (by omega))
  · rw [u_nc e' (by omega), z2]
  · rw [u_nc e' (by omega), fu.1 38 (by omega)]
  · rw [u3] at e'
    rw [u_at e', z1]
  · rw [u_nc e' (by omega), fu.1 40 (by omega)]
  · rw [u_nc e' (by omega), u8]
    omega
theorem L_takeSecond {T : Int → Int} {len : Int} {s : Mem} (tx : TxA T len s) (hp : 0 ≤ s 37 8 ∧ s 37 8 ≤ len) (hc : 0 ≤ s 37 3 ∧ s 37 3 < 12) {lo hi : Int} (hh : 0 ≤ lo ∧ lo ≤ 900 ∧ 0 ≤ hi ∧ hi ≤ 900) {Q : Int → Mem → Prop} (h1 : ¬ (q_nf T len lo hi (s 37 8)).1 = 0 → ∀ s' : Mem, FrZ (s 37 3) s s' → s' 37 1 = (q_nf T len lo hi (s 37 8)).1 → s' 37 2 = (q_nf T len lo hi (s 37 8)).2.1 → Q 0 s') (h0 : (q_nf T len lo hi (s 37 8)).1 = 0 → ∀ s' : Mem, FrY (s 37 3) s s' → s' 37 8 = (q_nf T len lo hi (s 37 8)).2.2.2 → s' 38 = s 38 → s' 40 (s 37 3) = (q_nf T len lo hi (s 37 8)).2.2.1 → s' 39 = s 39 → 0 ≤ s' 37 8 ∧ s' 37 8 ≤ len → Q 1 s') : x5_takeSecond lo hi s Q := by
  refine L_goOn tx hp (fun u fu gu => ?_)
  have u3 : u 37 3 = s 37 3 := fu.2 3 (by omega) (by omega) (by omega) (by omega)
  have bj := q_end_bd (p := q_sp T) (len := len) (i := s 37 8)
  have bn := q_nxt_bd (T := T) (bj.2 hp.2)
  have u8 := gu.2.2.1
  refine L_numberLies gu hh (fun z v fv e1 e2 => ⟨?_, fun s' e' => ⟨by omega, h1 z s' ?_ ?_ ?_⟩⟩) (fun z z1 z2 z3 => ⟨?_, fun s' e' => ⟨by omega, h0 z s' ?_ ?_ ?_ ?_ ?_ ?_⟩⟩)
  · rw [fv.2 3 (by omega) (by omega) (by omega) (by omega) (by omega) (by omega), u3]
    exact hc
  · rw [fv.2 3 (by omega) (by omega) (by omega) (by omega) (by omega) (by omega), u3] at e'
    exact ((FrY.of fu).z (FrZ.of fv)).y (FrY.set e' (by omega))
  · rw [u_nc e' (by omega), e1]
  · rw [u_nc e' (by omega), e2]
  · rw [u3]
    exact hc
  · rw [u3] at e'
    exact (FrY.of fu).trans (FrY.set e' (by omega))
  · rw [u_nc e' (by omega), z2]
  · rw [u_nc e' (by omega), fu.1 38 (by omega)]
  · rw [u3] at e'
    rw [u_at e', z1]
  · rw [u_nc e' (by omega), fu.1 39 (by omega)]
  · rw [u_nc e' (by omega), u8]
    omega
/-- a sign or word wanted -/
theorem L_take {T : Int → Int} {len : Int} {s : Mem} (tx : TxA T len s) (hp : 0 ≤ s 37 8 ∧ s 37 8 ≤ len) {w : Int} (hw : InI w) {Q : Int → Mem → Prop} (h1 : ¬ q_tok T len (q_end (q_sp T) len (s 37 8)) = w → ∀ s' : Mem, FrX s s' → s' 37 1 = 1 → s' 37 2 = q_end (q_sp T) len (s 37 8) → Q 0 s') (h0 : q_tok T len (q_end (q_sp T) len (s 37 8)) = w → ∀ s' : Mem, FrW s s' → s' 37 8 = q_nxt T len (q_end (q_sp T) len (s 37 8)) → 0 ≤ s' 37 8 ∧ s' 37 8 ≤ len → Q 1 s') : x5_take w s Q := by
  refine L_goOn tx hp (fun u fu gu => ?_)
  have bj := q_end_bd (p := q_sp T) (len := len) (i := s 37 8)
  have bn := q_nxt_bd (T := T) (bj.2 hp.2)
  have tb := q_tok_bd T len (q_end (q_sp T) len (s 37 8))
  obtain ⟨g10, g9, g8, g11⟩ := gu
  refine ⟨⟨by rw [g9]; constructor <;> omega, hw⟩, fun q => ⟨by omega, h0 (by rw [← g9]; exact q) u fu g8 (by omega)⟩, fun q => L_faulty (fun s' f e1 e2 => ⟨by omega, fun _ => ⟨by omega, h1 (by rw [← g9]; exact q) s' (fu.x f) e1 (by rw [e2, g10])⟩, fun c => absurd rfl c⟩)⟩
theorem q_tok_to {T : Int → Int} {len j : Int} : q_tok T len j = 6 ↔ q_isw T j (q_end (q_lt T) len j) (q_ws 6) = true := by
  rw [← q_kd_to]
  unfold q_tok
  by_cases h1 : len ≤ j
  · rw [if_pos h1, q_end_out h1, q_kd_no]
    omega
  · rw [if_neg h1]
    by_cases h2 : 97 ≤ T j ∧ T j ≤ 122
    · rw [if_pos h2]
    · rw [if_neg h2, q_end_no (q_lt_no h2), q_kd_no]
      repeat' split
      all_goals omega
theorem q_tok_by {T : Int → Int} {len j : Int} : q_tok T len j = 7 ↔ q_isw T j (q_end (q_lt T) len j) (q_ws 7) = true := by
  rw [← q_kd_by]
  unfold q_tok
  by_cases h1 : len ≤ j
  · rw [if_pos h1, q_end_out h1, q_kd_no]
    omega
  · rw [if_neg h1]
    by_cases h2 : 97 ≤ T j ∧ T j ≤ 122
    · rw [if_pos h2]
    · rw [if_neg h2, q_end_no (q_lt_no h2), q_kd_no]
      repeat' split
      all_goals omega
theorem q_tok_st {T : Int → Int} {len j : Int} : q_tok T len j = 9 ↔ (j < len ∧ T j = 59) := by
  have := q_kd_bd T j (q_end (q_lt T) len j)
  unfold q_tok
  repeat' split
  all_goals omega
theorem q_nxt_lt {T : Int → Int} {len j : Int} (h : q_tok T len j ≤ 7) : q_nxt T len j = q_end (q_lt T) len j ∧ j < len ∧ q_kd T j (q_end (q_lt T) len j) = q_tok T len j := by
  unfold q_tok at h ⊢
  unfold q_nxt
  by_cases h1 : len ≤ j
  · rw [if_pos h1] at h
    omega
  · rw [if_neg h1] at h ⊢
    rw [if_neg h1]
    by_cases h2 : 97 ≤ T j ∧ T j ≤ 122
    · rw [if_pos h2, if_pos h2]
      exact ⟨rfl, by omega, rfl⟩
    · rw [if_neg h2] at h
      exfalso
      split at h
      · omega
      · split at h <;> omega
theorem q_nxt_st {T : Int → Int} {len j : Int} (h : q_tok T len j = 9) : q_nxt T len j = j + 1 := by
  have t := q_tok_st.mp h
  unfold q_nxt
  rw [if_neg (by omega), if_neg (by omega), if_neg (by omega)]
theorem q_kd_tok {T : Int → Int} {len j : Int} (hl : j < len) : (5 < q_tok T len j ↔ 5 < q_kd T j (q_end (q_lt T) len j)) := by
  unfold q_tok
  rw [if_neg (by omega)]
  by_cases h2 : 97 ≤ T j ∧ T j ≤ 122
  · rw [if_pos h2]
  · rw [if_neg h2, q_end_no (q_lt_no h2), q_kd_no]
    repeat' split
    all_goals omega
/-- the end of a clause -/
theorem L_stop {T : Int → Int} {len : Int} {s : Mem} (tx : TxA T len s) (hp : 0 ≤ s 37 8 ∧ s 37 8 ≤ len) {k a b : Int} {Q : Int → Mem → Prop} (h1 : ¬ (q_st T len k a b (s 37 8)).1 = 0 → ∀ s' : Mem, FrX s s' → s' 37 1 = (q_st T len k a b (s 37 8)).1 → s' 37 2 = (q_st T len k a b (s 37 8)).2.1 → Q 0 s') (h0 : q_st T len k a b (s 37 8) = (0, 0, k, a, b, q_end (q_sp T) len (s 37 8) + 1) → ∀ s' : Mem, FrW s s' → s' 37 8 = q_end (q_sp T) len (s 37 8) + 1 → Q 1 s') : x5_take 9 s Q := by
  refine L_take tx hp (by omega) (fun q s' f e1 e2 => ?_) (fun q s' f e8 _ => ?_)
  · have e : q_st T len k a b (s 37 8) = (1, q_end (q_sp T) len (s 37 8), 0, 0, 0, 0) := if_neg (fun z => q (q_tok_st.mpr z))
    rw [e] at h1
    exact h1 (by show ¬ (1 : Int) = 0; omega) s' f e1 e2
  · exact h0 (if_pos (q_tok_st.mp q)) s' f (by rw [e8, q_nxt_st q])
theorem L_textRow {T : Int → Int} {len n : Int} (hn : 3 ≤ n ∧ n ≤ 6) {s : Mem} (tx : TxA T len s) (hp : 0 ≤ s 37 8 ∧ s 37 8 ≤ len) (hc : 0 ≤ s 37 3 ∧ s 37 3 < 12) {Q : Int → Mem → Prop} (h1 : ¬ (q_rr T len n (n.toNat + 1) 0 0 (s 37 8)).1 = 0 → ∀ s' : Mem, FrZ (s 37 3) s s' → s' 37 1 = (q_rr T len n (n.toNat + 1) 0 0 (s 37 8)).1 → s' 37 2 = (q_rr T len n (n.toNat + 1) 0 0 (s 37 8)).2.1 → Q 0 s') (h0 : (q_rr T len n (n.toNat + 1) 0 0 (s 37 8)).1 = 0 → ∀ s' : Mem, FrY (s 37 3) s s' → s' 37 8 = (q_rr T len n (n.toNat + 1) 0 0 (s 37 8)).2.2.2.2.2 → s' 38 = s 38 → s' 39 (s 37 3) = (q_rr T len n (n.toNat + 1) 0 0 (s 37 8)).2.2.2.1 → (q_rr T len n (n.toNat + 1) 0 0 (s 37 8)).2.2.1 = 5 → Q 1 s') : x5_takeRow n s Q := by
  apply x5_takeRow_i
  have hall := s_all hn
  obtain ⟨o, ho⟩ : ∃ o, o = q_rr T len n (n.toNat + 1) 0 0 (s 37 8) := ⟨_, rfl⟩
  rw [← ho] at h1 h0
  have key : ∀ (m : Nat) (taken seen fig i : Int) (u : Mem), 0 ≤ taken → m + taken = n + 1 → (0 ≤ seen ∧ seen < 64) → taken ≤ q_cnt (q_bit seen) n.toNat → FrY (s 37 3) s u → u 38 = s 38 → 0 ≤ u 37 8 ∧ u 37 8 ≤ len → GoA T len i u → 0 ≤ i ∧ i ≤ len → q_rr T len n m seen fig i = o → x5_takeRow_L34 Q n seen fig taken u := by
    intro m
    induction m with
    | zero =>
      intro taken seen fig i u t0 hm hs hcnt
      have := (q_cnt_bd (q_bit seen) n.toNat).2
      omega
    | succ m ih =>
      intro taken seen fig i u t0 hm hs hcnt fu u38 up gu hi e
      have txu := tx.fy fu
      have u3 : u 37 3 = s 37 3 := fu.2.1 3 (by omega) (by omega) (by omega) (by omega)
      apply x5_takeRow_s34
      unfold q_rr at e
      refine L_numberLies gu (by omega) (fun z v fv e1 e2 => ⟨by omega, fun c => absurd rfl c, fun _ => ⟨by omega, ?_⟩⟩) (fun z z1 z2 z3 => ⟨by omega, fun _ => ⟨s_andIn _ _, fun q v7 e7 v8 e8 => ?_, fun q => L_faulty (fun v fv e1 e2 => ⟨by omega, ?_⟩)⟩, fun c => absurd c (by omega)⟩)
      · rw [if_pos z] at e
        rw [← e] at h1
        exact h1 z v (fu.z (FrZ.of fv)) e1 e2
      · rw [if_neg (fun y => y z)] at e
        rw [s_at_in (by omega) (by omega)] at q
        rw [z1] at q
        have qb : ¬ q_bit seen (q_nf T len 0 (n - 1) i).2.2.1 = true := fun y => by
          rw [if_pos y] at q
          omega
        rw [if_neg qb] at e
        have so := s_orI (x := seen) (k := u 37 11) (by omega) (by omega)
        have cnt : taken + 1 ≤ q_cnt (q_bit v7) n.toNat := by
          have := q_cnt_lt (p := q_bit seen) (q := q_bit v7) n.toNat (fun k hk hb => by rw [e7, so.2 k hk.1, hb]; rfl) (j := u 37 11) ⟨by omega, by omega⟩ (by rw [e7, so.2 _ (by omega)]; simp) (by rw [z1]; exact Bool.eq_false_iff.mpr qb)
          omega
        have v7b : 0 ≤ v7 ∧ v7 < 64 := by rw [e7]; exact ⟨so.1.1, so.1.2.2 (by omega) (by omega)⟩
        have tk : taken + 1 ≤ n := by
          have := (q_cnt_bd (q_bit v7) n.toNat).2
          omega
        rw [← z1, ← z2, ← e7, ← e8] at e
        refine L_goOn txu up (fun w fw gw => ?_)
        have w3 : w 37 3 = s 37 3 := by rw [fw.2 3 (by omega) (by omega) (by omega) (by omega), u3]
        have bj := q_end_bd (p := q_sp T) (len := len) (i := u 37 8)
        have bn := q_nxt_bd (T := T) (bj.2 up.2)
        have fyw := fu.trans (FrY.of fw)
        have tb := q_tok_bd T len (q_end (q_sp T) len (u 37 8))
        apply x5_takeRow_s11
        have go34 : ¬ q_tok T len (q_end (q_sp T) len (u 37 8)) = 9 → x5_takeRow_L34 Q n v7 v8 (taken + 1) w := fun nst => by
          by_cases d : q_end (q_sp T) len (u 37 8) < len ∧ 48 ≤ T (q_end (q_sp T) len (u 37 8)) ∧ T (q_end (q_sp T) len (u 37 8)) ≤ 57
          · rw [if_pos d] at e
            exact ih (taken + 1) v7 v8 (u 37 8) w (by omega) (by omega) v7b cnt fyw (by rw [fw.1 38 (by omega), u38]) (by rw [gw.2.2.1]; omega) gw up e
          · rw [if_neg d, if_neg (fun y => nst (q_tok_st.mpr y))] at e
            rw [← e] at h1
            apply x5_takeRow_s34
            have en : q_nf T len 0 (n - 1) (u 37 8) = (1, q_end (q_sp T) len (u 37 8), 0, 0) := q_nf_1 d
            refine L_numberLies gw (by omega) (fun z v fv e1 e2 => ⟨by omega, fun c => absurd rfl c, fun _ => ⟨by omega, ?_⟩⟩) (fun z => absurd z (by rw [en]; show ¬ (1 : Int) = 0; omega))
            rw [en] at e1 e2
            exact h1 (by show ¬ (1 : Int) = 0; omega) v (fyw.z (FrZ.of fv)) e1 e2
        refine ⟨by constructor <;> constructor <;> omega, fun c => absurd c (by omega), fun _ => ⟨by constructor <;> omega, fun c => absurd c (by omega), fun _ => ⟨⟨by rw [gw.2.1]; constructor <;> omega, by omega⟩, fun nst => go34 (by rw [← gw.2.1]; exact nst), fun st => ?_⟩⟩⟩
        rw [gw.2.1] at st
        have st2 := q_tok_st.mp st
        rw [if_neg (by omega), if_pos st2] at e
        apply x5_takeRow_s93
        unfold x5_takeRow_b93
        rw [w3]
        refine ⟨hc, fun x ex => ?_⟩
        have fx : FrY (s 37 3) s x := fyw.trans (FrY.set ex (by omega))
        refine ⟨⟨by constructor <;> omega, by have := hall.1; constructor <;> omega⟩, fun y => ⟨by omega, ?_⟩, fun y => L_faulty (fun v fv e1 e2 => ⟨by omega, fun _ => ⟨by omega, ?_⟩, fun c => absurd rfl c⟩)⟩
        · rw [if_pos y] at e
          rw [← e] at h0
          refine h0 rfl x fx ?_ ?_ (u_at ex) rfl
          · rw [u_nc ex (by omega), gw.2.2.1, q_nxt_st st]
          · rw [u_nc ex (by omega), fw.1 38 (by omega), u38]
        · rw [if_neg y] at e
          rw [← e] at h1
          exact h1 (by show ¬ (4 : Int) = 0; omega) v (fx.z (FrZ.of fv)) e1 (by rw [e2, u_nc ex (by omega), gw.1])
      · rw [if_neg (fun y => y z)] at e
        rw [s_at_in (by omega) (by omega)] at q
        rw [z1] at q
        have qb : q_bit seen (q_nf T len 0 (n - 1) i).2.2.1 = true := Classical.byContradiction (fun y => q (if_neg y))
        rw [if_pos qb] at e
        rw [← e] at h1
        have ea : (q_nf T len 0 (n - 1) i).2.1 = q_end (q_sp T) len i := by
          unfold q_nf
          repeat' split
          all_goals rfl
        exact h1 (by show ¬ (3 : Int) = 0; omega) v (fu.z (FrZ.of fv)) e1 (by show v 37 2 = (q_nf T len 0 (n - 1) i).2.1; rw [e2, gu.1, ea])
  refine L_goOn tx hp (fun w fw gw => ?_)
  have bj := q_end_bd (p := q_sp T) (len := len) (i := s 37 8)
  have bn := q_nxt_bd (T := T) (bj.2 hp.2)
  apply x5_takeRow_s11
  exact ⟨by constructor <;> constructor <;> omega, fun c => absurd c (by omega), fun _ => ⟨by omega, fun _ => key (n.toNat + 1) 0 0 0 (s 37 8) w (by omega) (by omega) (by omega) (q_cnt_bd _ _).1 (FrY.of fw) (fw.1 38 (by omega)) (by rw [gw.2.2.1]; omega) gw hp ho.symm, fun c => absurd c (by omega)⟩⟩
