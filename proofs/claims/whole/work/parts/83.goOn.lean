/-! ===== read: the class goes from word to word ===== -/
theorem u_at {s s' : Mem} {c : Nat} {i x : Int} (e : s' = m_upd s c i x) : s' c i = x := by rw [e, m_upd_at, if_pos ⟨rfl, rfl⟩]
theorem u_ne {s s' : Mem} {c : Nat} {i x j : Int} (e : s' = m_upd s c i x) (h : j ≠ i) : s' c j = s c j := by rw [e, m_upd_at, if_neg (fun q => h q.2)]
theorem u_nc {s s' : Mem} {c d : Nat} {i x : Int} (e : s' = m_upd s c i x) (h : d ≠ c) : s' d = s d := by rw [e, m_upd_ne _ _ _ _ _ h]
def TxA (T : Int → Int) (len : Int) (s : Mem) : Prop := s 41 = T ∧ s 37 0 = len ∧ (0 ≤ len ∧ len ≤ 160) ∧ ∀ k, 0 ≤ k → k < len → 0 ≤ T k ∧ T k ≤ 255
def FrW (s s' : Mem) : Prop := (∀ d : Nat, d ≠ 37 → s' d = s d) ∧ ∀ i : Int, i ≠ 8 → i ≠ 9 → i ≠ 10 → i ≠ 11 → s' 37 i = s 37 i
theorem FrW.refl (s : Mem) : FrW s s := ⟨fun _ _ => rfl, fun _ _ _ _ _ => rfl⟩
theorem FrW.trans {a b c : Mem} (h : FrW a b) (g : FrW b c) : FrW a c := ⟨fun d hd => (g.1 d hd).trans (h.1 d hd), fun i h1 h2 h3 h4 => (g.2 i h1 h2 h3 h4).trans (h.2 i h1 h2 h3 h4)⟩
theorem FrW.set {s s' : Mem} {i x : Int} (e : s' = m_upd s 37 i x) (hi : i = 8 ∨ i = 9 ∨ i = 10 ∨ i = 11) : FrW s s' := ⟨fun d hd => u_nc e hd, fun j h1 h2 h3 h4 => u_ne e (by omega)⟩
theorem TxA.fr {T : Int → Int} {len : Int} {s s' : Mem} (h : TxA T len s) (f : FrW s s') : TxA T len s' := ⟨by rw [f.1 41 (by omega)]; exact h.1, by rw [f.2 0 (by omega) (by omega) (by omega) (by omega)]; exact h.2.1, h.2.2⟩
theorem q_ws_len : ∀ w, w < 8 → shrI (m_len (1000 + w + 1000)) 0 = ((q_ws w).length : Int) ∧ m_len (1000 + w + 1000) = ((q_ws w).length : Int) ∧ (q_ws w).length ≤ 5 := by decide +kernel
theorem q_ws_ch : ∀ w, w < 8 → ∀ i, i < (q_ws w).length → i2cI (andI (m_by (1000 + w + 1000) (i : Nat)) 255) = (q_ws w).getD i 0 ∧ 0 ≤ (q_ws w).getD i 0 ∧ (q_ws w).getD i 0 ≤ 255 := by decide +kernel
theorem L_length {w : Nat} (hw : w < 8) {s : Mem} {Q : Int → Mem → Prop} (h : Q ((q_ws w).length : Int) s) : j0_length_8abf5 (1000 + w) s Q := by
  refine ⟨by omega, by omega, by omega, ⟨by omega, fun c => absurd c (by omega), fun _ => ⟨by omega, by omega, ?_⟩⟩⟩
  show Q (shrI (m_len (1000 + w + 1000)) 0) s
  rw [(q_ws_len w hw).1]
  exact h
theorem L_charAt {w i : Nat} (hw : w < 8) (hi : i < (q_ws w).length) {s : Mem} {Q : Int → Mem → Prop} (h : Q ((q_ws w).getD i 0) s) : j0_charAt_5068e (1000 + w) (i : Int) s Q := by
  have a := q_ws_ch w hw i hi
  have b := q_ws_len w hw
  refine ⟨by omega, ⟨by omega, fun c => absurd c (by omega), fun _ => ⟨by omega, by omega, fun c => absurd rfl c, fun _ => ⟨by omega, by omega, fun c => absurd c (by omega), fun _ => ⟨by omega, ⟨by omega, ⟨⟨by constructor <;> omega, by rw [b.2.1]; constructor <;> omega⟩, ⟨by omega, by rw [b.2.1]; omega⟩, ⟨⟨by omega, by omega, by rw [b.2.1]; omega⟩, ?_⟩⟩⟩⟩⟩⟩⟩⟩
  rw [a.1]
  exact ⟨by omega, by omega, h⟩
theorem L_spelling {w : Nat} (hw : w < 8) {s : Mem} {Q : Int → Mem → Prop} (h : Q ((1000 + w : Nat) : Int) s) : x5_spelling (w : Int) s Q := by
  rcases (show w = 0 ∨ w = 1 ∨ w = 2 ∨ w = 3 ∨ w = 4 ∨ w = 5 ∨ w = 6 ∨ w = 7 by omega) with q | q | q | q | q | q | q | q <;> subst q <;> (refine ⟨by constructor <;> omega, ?_, ?_, ?_, ?_, ?_, ?_, ?_, ?_⟩ <;> intro c <;> first | exact h | exact absurd c (by omega))
theorem L_isSpelt {T : Int → Int} {len : Int} {s : Mem} (tx : TxA T len s) {w : Nat} (hw : w < 8) {j : Int} (hj : 0 ≤ j ∧ j ≤ s 37 8 ∧ s 37 8 ≤ len) {Q : Int → Mem → Prop} (h1 : q_isw T j (s 37 8) (q_ws w) = true → Q 1 s) (h0 : q_isw T j (s 37 8) (q_ws w) = false → Q 0 s) : x5_isSpelt (1000 + w) j s Q := by
  apply x5_isSpelt_i
  have b := q_ws_len w hw
  obtain ⟨t1, t2, t3, t4⟩ := tx
  refine ⟨by omega, L_length hw ⟨⟨by constructor <;> omega, by constructor <;> omega⟩, fun q => ?_, fun q => ⟨by omega, h0 (decide_eq_false (fun z => q (by have := z.1; omega)))⟩⟩⟩
  have key : ∀ (m i : Nat), i + m = (q_ws w).length → (∀ v, v < i → T (j + (v : Nat)) = (q_ws w).getD v 0) → x5_isSpelt_L17 Q (1000 + w) j (i : Int) s := by
    intro m
    induction m with
    | zero =>
      intro i hi hall
      apply x5_isSpelt_s17
      exact ⟨by omega, L_length hw ⟨⟨by constructor <;> omega, by constructor <;> omega⟩, fun _ => ⟨by omega, h1 (q_isw_iff.mpr ⟨by omega, fun v hv => hall v (by omega)⟩)⟩, fun c => absurd c (by omega)⟩⟩
    | succ m ih =>
      intro i hi hall
      have a := q_ws_ch w hw i (by omega)
      have ti := t4 (j + i) (by omega) (by omega)
      apply x5_isSpelt_s17
      refine ⟨by omega, L_length hw ⟨⟨by constructor <;> omega, by constructor <;> omega⟩, fun c => absurd c (by omega), fun _ => ⟨by omega, L_charAt hw (by omega) ⟨by omega, by rw [t1]; constructor <;> constructor <;> omega, fun c => ?_, fun c => ⟨by omega, h0 (decide_eq_false (fun z => c (by rw [t1]; exact (z.2 i (by omega)).symm)))⟩⟩⟩⟩⟩
      rw [t1] at c
      exact ih (i + 1) (by omega) (fun v hv => by
        by_cases e : v = i
        · rw [e]
          exact c.symm
        · exact hall v (by omega))
  exact key (q_ws w).length 0 (by omega) (fun v hv => absurd hv (by omega))
theorem q_kd_at {T : Int → Int} {j e : Int} {k : Nat} (hk : k < 8) (h0 : ∀ v, v < k → q_isw T j e (q_ws v) = false) (h1 : q_isw T j e (q_ws k) = true) : q_kd T j e = k := by
  rcases (show k = 0 ∨ k = 1 ∨ k = 2 ∨ k = 3 ∨ k = 4 ∨ k = 5 ∨ k = 6 ∨ k = 7 by omega) with q | q | q | q | q | q | q | q <;> subst q <;> unfold q_kd <;> simp [h0, h1]
theorem L_wordFrom {T : Int → Int} {len : Int} {s : Mem} (tx : TxA T len s) {j : Int} (hj : 0 ≤ j ∧ j ≤ s 37 8 ∧ s 37 8 ≤ len) {Q : Int → Mem → Prop} (h : Q (q_kd T j (s 37 8)) s) : x5_wordFrom j s Q := by
  apply x5_wordFrom_i
  have key : ∀ (m k : Nat), k + m = 8 → (∀ v, v < k → q_isw T j (s 37 8) (q_ws v) = false) → x5_wordFrom_L2 Q j (k : Int) s := by
    intro m
    induction m with
    | zero =>
      intro k hk hall
      apply x5_wordFrom_s2
      refine ⟨by constructor <;> constructor <;> omega, fun _ => ?_, fun c => absurd c (by omega)⟩
      have : q_kd T j (s 37 8) = 11 := by
        unfold q_kd
        simp [hall 0 (by omega), hall 1 (by omega), hall 2 (by omega), hall 3 (by omega), hall 4 (by omega), hall 5 (by omega), hall 6 (by omega), hall 7 (by omega)]
      rw [this] at h
      exact h
    | succ m ih =>
      intro k hk hall
      apply x5_wordFrom_s2
      refine ⟨by constructor <;> constructor <;> omega, fun c => absurd c (by omega), fun _ => L_spelling (by omega) (L_isSpelt tx (by omega) hj (fun q => ⟨by omega, fun c => absurd c (by omega), fun _ => ?_⟩) (fun q => ⟨by omega, fun _ => ?_, fun c => absurd rfl c⟩))⟩
      · rw [q_kd_at (by omega) hall q] at h
        exact h
      · exact ih (k + 1) (by omega) (fun v hv => by
          by_cases e : v = k
          · rw [e]
            exact q
          · exact hall v (by omega))
  exact key 8 0 rfl (fun v hv => absurd hv (by omega))
/-- which word stands at j, and where it ends -/
def q_tok (T : Int → Int) (len j : Int) : Int := if len ≤ j then 10 else if 97 ≤ T j ∧ T j ≤ 122 then q_kd T j (q_end (q_lt T) len j) else if 48 ≤ T j ∧ T j ≤ 57 then 8 else if T j = 59 then 9 else 11
def q_nxt (T : Int → Int) (len j : Int) : Int := if len ≤ j then j else if 97 ≤ T j ∧ T j ≤ 122 then q_end (q_lt T) len j else if 48 ≤ T j ∧ T j ≤ 57 then q_end (q_fg T) len j else j + 1
def q_vl (T : Int → Int) (j e : Int) : Int := if e - j ≤ 3 then q_val T j (e - j).toNat else 1000
theorem q_nxt_bd {T : Int → Int} {len j : Int} (h : j ≤ len) : j ≤ q_nxt T len j ∧ q_nxt T len j ≤ len := by
  have a := q_end_bd (p := q_lt T) (len := len) (i := j)
  have b := q_end_bd (p := q_fg T) (len := len) (i := j)
  unfold q_nxt
  repeat' split
  all_goals omega
theorem q_tok_bd (T : Int → Int) (len j : Int) : 0 ≤ q_tok T len j ∧ q_tok T len j ≤ 11 := by
  have := q_kd_bd T j (q_end (q_lt T) len j)
  unfold q_tok
  repeat' split
  all_goals omega
theorem q_val_bd {T : Int → Int} {j : Int} : ∀ m : Nat, (∀ k, j ≤ k → k < j + m → 48 ≤ T k ∧ T k ≤ 57) → 0 ≤ q_val T j m ∧ q_val T j m < 10 ^ m
  | 0, _ => ⟨Int.le_refl _, by show (0 : Int) < 1; omega⟩
  | m + 1, h => by
    have ih := q_val_bd (T := T) (j := j) m (fun k h1 h2 => h k h1 (by omega))
    have a := h (j + m) (by omega) (by omega)
    have e : q_val T j (m + 1) = 10 * q_val T j m + T (j + m) - 48 := rfl
    rw [e, Int.pow_succ]
    omega
theorem q_end_all {p : Int → Bool} {len : Int} : ∀ (m : Nat) (i : Int), (∀ k, i ≤ k → k < q_run p m i → p k = true)
  | 0, i => fun k h1 h2 => absurd h2 (by show ¬ k < i; omega)
  | m + 1, i => fun k h1 h2 => by
    unfold q_run at h2
    split at h2
    · rename_i h
      by_cases e : k = i
      · rw [e]
        exact h
      · exact q_end_all (len := len) m (i + 1) k (by omega) h2
    · omega
theorem q_val_in {T : Int → Int} {len j : Int} (h : q_end (q_fg T) len j - j ≤ 3) : 0 ≤ q_val T j (q_end (q_fg T) len j - j).toNat ∧ q_val T j (q_end (q_fg T) len j - j).toNat < 1000 := by
  have a := q_end_bd (p := q_fg T) (len := len) (i := j)
  have b := q_val_bd (T := T) (j := j) (q_end (q_fg T) len j - j).toNat (fun k h1 h2 => q_fg_iff.mp (q_end_all (p := q_fg T) (len := len) (len - j).toNat j k h1 (by
    have e : q_run (q_fg T) (len - j).toNat j = q_end (q_fg T) len j := rfl
    rw [e]
    omega)))
  have c : (10 : Int) ^ (q_end (q_fg T) len j - j).toNat ≤ 1000 := by
    rcases (show (q_end (q_fg T) len j - j).toNat = 0 ∨ (q_end (q_fg T) len j - j).toNat = 1 ∨ (q_end (q_fg T) len j - j).toNat = 2 ∨ (q_end (q_fg T) len j - j).toNat = 3 by omega) with q | q | q | q <;> rw [q] <;> decide
  omega
def GoA (T : Int → Int) (len i : Int) (s' : Mem) : Prop := s' 37 10 = q_end (q_sp T) len i ∧ s' 37 9 = q_tok T len (q_end (q_sp T) len i) ∧ s' 37 8 = q_nxt T len (q_end (q_sp T) len i) ∧ (q_tok T len (q_end (q_sp T) len i) = 8 → s' 37 11 = q_vl T (q_end (q_sp T) len i) (q_end (q_fg T) len (q_end (q_sp T) len i)))
theorem q_vl_bd (T : Int → Int) (len j : Int) : 0 ≤ q_vl T j (q_end (q_fg T) len j) ∧ q_vl T j (q_end (q_fg T) len j) ≤ 1000 := by
  unfold q_vl
  split
  · rename_i h
    have := q_val_in h
    omega
  · omega
theorem q_tok8 {T : Int → Int} {len j : Int} : q_tok T len j = 8 ↔ (j < len ∧ 48 ≤ T j ∧ T j ≤ 57) := by
  have := q_kd_bd T j (q_end (q_lt T) len j)
  unfold q_tok
  repeat' split
  all_goals omega
theorem L_goOn {T : Int → Int} {len : Int} {s : Mem} (tx : TxA T len s) (hp : 0 ≤ s 37 8 ∧ s 37 8 ≤ len) {Q : Int → Mem → Prop} (hQ : ∀ s' : Mem, FrW s s' → GoA T len (s 37 8) s' → Q 0 s') : x5_goOn s Q := by
  apply x5_goOn_i
  have l160 := tx.2.2.1
  have hb := q_end_bd (p := q_sp T) (len := len) (i := s 37 8)
  obtain ⟨j, hj⟩ : ∃ j, j = q_end (q_sp T) len (s 37 8) := ⟨_, rfl⟩
  rw [← hj] at hb
  -- letters
  have word : ∀ u : Mem, FrW s u → u 37 10 = j → u 37 11 = s 37 11 → j < len → (97 ≤ T j ∧ T j ≤ 122) → ∀ (m : Nat) (v : Mem), (∀ d : Nat, d ≠ 37 → v d = u d) → (∀ i : Int, i ≠ 8 → v 37 i = u 37 i) → j ≤ v 37 8 → v 37 8 ≤ len → (len - v 37 8).toNat = m → q_end (q_lt T) len (v 37 8) = q_end (q_lt T) len j → x5_goOn_L85 Q v := by
    intro u fu u10 u11 hjl hlet
    have fin : ∀ v : Mem, (∀ d : Nat, d ≠ 37 → v d = u d) → (∀ i : Int, i ≠ 8 → v 37 i = u 37 i) → v 37 8 = q_end (q_lt T) len j → v 37 8 ≤ len → x5_goOn_L128 Q v := fun v f1 f2 e8 hl => by
      have fv : FrW s v := fu.trans ⟨f1, fun i h8 _ _ _ => f2 i h8⟩
      have bl := q_end_bd (p := q_lt T) (len := len) (i := j)
      apply x5_goOn_s128
      unfold x5_goOn_b128
      rw [f2 10 (by omega), u10]
      refine L_wordFrom (tx.fr fv) (by omega) (fun v' e' => ?_)
      rw [e8] at e'
      have t : q_tok T len j = q_kd T j (q_end (q_lt T) len j) := by
        unfold q_tok
        rw [if_neg (by omega), if_pos hlet]
      have n : q_nxt T len j = q_end (q_lt T) len j := by
        unfold q_nxt
        rw [if_neg (by omega), if_pos hlet]
      refine hQ v' (fv.trans (FrW.set e' (by omega))) ⟨?_, ?_, ?_, fun c => ?_⟩
      · rw [← hj, u_ne e' (by omega), f2 10 (by omega), u10]
      · rw [← hj, u_at e', t]
      · rw [← hj, u_ne e' (by omega), e8, n]
      · rw [← hj, q_tok8] at c
        omega
    intro m
    induction m with
    | zero =>
      intro v f1 f2 v1 v2 hm e
      have v0 : v 37 0 = len := by rw [f2 0 (by omega), (tx.fr fu).2.1]
      apply x5_goOn_s85
      refine ⟨by rw [v0]; constructor <;> constructor <;> omega, fun _ => fin v f1 f2 ?_ v2, fun c => absurd c (by rw [v0]; omega)⟩
      rw [← e, q_end_out (by omega)]
    | succ m ih =>
      intro v f1 f2 v1 v2 hm e
      have v0 : v 37 0 = len := by rw [f2 0 (by omega), (tx.fr fu).2.1]
      have v41 : v 41 = T := by rw [f1 41 (by omega), (tx.fr fu).1]
      have tb := tx.2.2.2 (v 37 8) (by omega) (by omega)
      apply x5_goOn_s85
      unfold x5_goOn_b85
      rw [v41]
      refine ⟨by rw [v0]; constructor <;> constructor <;> omega, fun c => absurd c (by rw [v0]; omega), fun _ => ⟨by have := tx.2.2.1; omega, L_within (by constructor <;> omega) (by omega) (by omega) (fun q => ⟨by omega, fun c => absurd c (by omega), fun _ v' e' => ?_⟩) (fun q => ⟨by omega, fun _ => fin v f1 f2 ?_ v2, fun c => absurd rfl c⟩)⟩⟩
      · have e8 := u_at e'
        exact ih v' (fun d hd => (u_nc e' hd).trans (f1 d hd)) (fun i hi => (u_ne e' hi).trans (f2 i hi)) (by omega) (by omega) (by omega) (by rw [e8, ← e, ← q_end_go (by omega) (q_lt_iff.mpr q)])
      · rw [← e, q_end_no (q_lt_no q)]
  -- figures
  have figs : ∀ (m : Nat) (v : Mem), FrW s v → v 37 10 = j → v 37 9 = 8 → j ≤ v 37 8 → v 37 8 ≤ len → (len - v 37 8).toNat = m → v 37 11 = q_vl T j (v 37 8) → (0 ≤ v 37 11 ∧ v 37 11 ≤ 1000) → (∀ k, j ≤ k → k < v 37 8 → 48 ≤ T k ∧ T k ≤ 57) → q_end (q_fg T) len (v 37 8) = q_end (q_fg T) len j → q_tok T len j = 8 → x5_goOverNumber_L5 (fun _ s15 => Q 0 s15) v := by
    have fin : ∀ v : Mem, FrW s v → v 37 10 = j → v 37 9 = 8 → v 37 8 = q_end (q_fg T) len j → v 37 11 = q_vl T j (v 37 8) → q_tok T len j = 8 → Q 0 v := fun v fv e10 e9 e8 e11 t => by
      have t' := q_tok8.mp t
      have n : q_nxt T len j = q_end (q_fg T) len j := by
        unfold q_nxt
        rw [if_neg (by omega), if_neg (by omega), if_pos t'.2]
      refine hQ v fv ⟨?_, ?_, ?_, fun _ => ?_⟩
      · rw [← hj, e10]
      · rw [← hj, e9, t]
      · rw [← hj, n, e8]
      · rw [← hj, e11, e8]
    intro m
    induction m with
    | zero =>
      intro v fv e10 e9 v1 v2 hm e11 b11 hd e t
      have v0 := (tx.fr fv).2.1
      apply x5_goOverNumber_s5
      exact ⟨by rw [v0]; constructor <;> constructor <;> omega, fun _ => fin v fv e10 e9 (by rw [← e, q_end_out (by omega)]) e11 t, fun c => absurd c (by rw [v0]; omega)⟩
    | succ m ih =>
      intro v fv e10 e9 v1 v2 hm e11 b11 hd e t
      have v0 := (tx.fr fv).2.1
      have v41 := (tx.fr fv).1
      have tb := tx.2.2.2 (v 37 8) (by omega) (by omega)
      have l160 := tx.2.2.1
      apply x5_goOverNumber_s5
      unfold x5_goOverNumber_b5
      rw [v41]
      refine ⟨by rw [v0]; constructor <;> constructor <;> omega, fun c => absurd c (by rw [v0]; omega), fun _ => ⟨by omega, L_within (by constructor <;> omega) (by omega) (by omega) (fun q => ⟨by omega, fun c => absurd c (by omega), fun _ => ⟨by rw [e10]; constructor <;> constructor <;> omega, fun c => fun v' e' v'' e'' => ?_, fun c => ⟨by omega, fun v' e' v'' e'' => ?_⟩⟩⟩) (fun q => ⟨by omega, fun _ => fin v fv e10 e9 (by rw [← e, q_end_no (q_fg_no q)]) e11 t, fun c => absurd rfl c⟩)⟩⟩
      · rw [e10] at c
        have e8 : v'' 37 8 = v 37 8 + 1 := by rw [u_at e'', u_ne e' (by omega)]
        have f11 : v'' 37 11 = 1000 := by rw [u_ne e'' (by omega), u_at e']
        have n11 : q_vl T j (v 37 8 + 1) = 1000 := by
          unfold q_vl
          rw [if_neg (by omega)]
        refine ih v'' (fv.trans ((FrW.set e' (by omega)).trans (FrW.set e'' (by omega)))) (by rw [u_ne e'' (by omega), u_ne e' (by omega), e10]) (by rw [u_ne e'' (by omega), u_ne e' (by omega), e9]) (by omega) (by omega) (by omega) (by rw [f11, e8, n11]) (by omega) (fun k h1 h2 => ?_) (by rw [e8, ← e, ← q_end_go (by omega) (q_fg_iff.mpr q)]) t
        by_cases w : k = v 37 8
        · rw [w]
          exact q
        · exact hd k h1 (by omega)
      · rw [e10] at c
        have e8 : v'' 37 8 = v 37 8 + 1 := by rw [u_at e'', u_ne e' (by omega)]
        have f11 : v'' 37 11 = 10 * v 37 11 + T (v 37 8) - 48 := by rw [u_ne e'' (by omega), u_at e', v41]
        have m1 : (v 37 8 + 1 - j).toNat = (v 37 8 - j).toNat + 1 := by omega
        have n11 : q_vl T j (v 37 8 + 1) = 10 * v 37 11 + T (v 37 8) - 48 := by
          rw [e11]
          unfold q_vl
          rw [if_pos (by omega), if_pos (by omega), m1, q_val, show j + (((v 37 8 - j).toNat : Nat) : Int) = v 37 8 by omega]
        have hd' : ∀ k, j ≤ k → k < v'' 37 8 → 48 ≤ T k ∧ T k ≤ 57 := fun k h1 h2 => by
          by_cases w : k = v 37 8
          · rw [w]
            exact q
          · exact hd k h1 (by omega)
        have b := q_val_bd (T := T) (j := j) (v 37 8 + 1 - j).toNat (fun k h1 h2 => hd' k h1 (by omega))
        have c3 : (10 : Int) ^ (v 37 8 + 1 - j).toNat ≤ 1000 := by
          rcases (show (v 37 8 + 1 - j).toNat = 1 ∨ (v 37 8 + 1 - j).toNat = 2 ∨ (v 37 8 + 1 - j).toNat = 3 by omega) with q | q | q <;> rw [q] <;> decide
        have n12 : q_vl T j (v 37 8 + 1) = q_val T j (v 37 8 + 1 - j).toNat := by
          unfold q_vl
          rw [if_pos (by omega)]
        refine ih v'' (fv.trans ((FrW.set e' (by omega)).trans (FrW.set e'' (by omega)))) (by rw [u_ne e'' (by omega), u_ne e' (by omega), e10]) (by rw [u_ne e'' (by omega), u_ne e' (by omega), e9]) (by omega) (by omega) (by omega) (by rw [f11, e8, n11]) (by rw [f11, ← n11, n12]; omega) hd' (by rw [e8, ← e, ← q_end_go (by omega) (q_fg_iff.mpr q)]) t
  -- the first byte
  have first : ∀ u : Mem, FrW s u → u 37 11 = s 37 11 → u 37 8 = j → x5_goOn_L38 Q u := fun u fu u11 u8 => by
    apply x5_goOn_s38
    intro v ev
    have fv : FrW s v := fu.trans (FrW.set ev (by omega))
    have v0 := (tx.fr fv).2.1
    have v41 := (tx.fr fv).1
    have v8 : v 37 8 = j := by rw [u_ne ev (by omega), u8]
    have v10 : v 37 10 = j := by rw [u_at ev, u8]
    have v11 : v 37 11 = s 37 11 := by rw [u_ne ev (by omega), u11]
    have l160 := tx.2.2.1
    rw [v0, v8, v41]
    refine ⟨by constructor <;> constructor <;> omega, fun c => ?_, fun c v' e' => ?_⟩
    · have tb := tx.2.2.2 j (by omega) c
      have one : ∀ (t : Int) (v1 v2 : Mem), v1 = m_upd v 37 9 t → v2 = m_upd v1 37 8 (v1 37 8 + 1) → q_tok T len j = t → t = 9 ∨ t = 11 → ¬ (97 ≤ T j ∧ T j ≤ 122) → ¬ (48 ≤ T j ∧ T j ≤ 57) → Q 0 v2 := fun t v1 v2 e1 e2 ht h9 n1 n2 => by
        have n : q_nxt T len j = j + 1 := by
          unfold q_nxt
          rw [if_neg (by omega), if_neg n1, if_neg n2]
        refine hQ v2 (fv.trans ((FrW.set e1 (by omega)).trans (FrW.set e2 (by omega)))) ⟨?_, ?_, ?_, fun c => ?_⟩
        · rw [← hj, u_ne e2 (by omega), u_ne e1 (by omega), v10]
        · rw [← hj, u_ne e2 (by omega), u_at e1, ht]
        · rw [← hj, u_at e2, u_ne e1 (by omega), v8, n]
        · rw [← hj] at c
          omega
      refine ⟨by omega, L_within (by constructor <;> omega) (by omega) (by omega) (fun q => ⟨by omega, fun c => absurd c (by omega), fun _ => word v fv v10 v11 c q _ v (fun _ _ => rfl) (fun _ _ => rfl) (by omega) (by omega) rfl (by rw [v8])⟩) (fun q => ⟨by omega, fun _ => ⟨by omega, ?_⟩, fun c => absurd rfl c⟩)⟩
      rw [v8, v41]
      refine L_within (by constructor <;> omega) (by omega) (by omega) (fun q2 => ⟨by omega, fun c => absurd c (by omega), fun _ w ew => ?_⟩) (fun q2 => ⟨by omega, fun _ => ⟨by omega, by rw [v8, v41]; constructor <;> constructor <;> omega, fun q3 v1 e1 v2 e2 => ?_, fun q3 v1 e1 v2 e2 => ?_⟩, fun c => absurd rfl c⟩)
      · have t : q_tok T len j = 8 := q_tok8.mpr ⟨c, q2⟩
        apply x5_goOverNumber_i
        intro w2 ew2
        have w8 : w2 37 8 = j := by rw [u_ne ew2 (by omega), u_ne ew (by omega), v8]
        have w11 : w2 37 11 = 0 := u_at ew2
        refine figs _ w2 (fv.trans ((FrW.set ew (by omega)).trans (FrW.set ew2 (by omega)))) (by rw [u_ne ew2 (by omega), u_ne ew (by omega), v10]) (by rw [u_ne ew2 (by omega), u_at ew]) (by omega) (by omega) rfl ?_ (by omega) (fun k h1 h2 => absurd h2 (by omega)) (by rw [w8]) t
        rw [w11, w8]
        unfold q_vl
        rw [if_pos (by omega), show (j - j).toNat = 0 by omega]
        rfl
      · rw [v8, v41] at q3
        exact one 11 v1 v2 e1 e2 (by unfold q_tok; rw [if_neg (by omega), if_neg q, if_neg q2, if_neg q3]) (Or.inr rfl) q q2
      · rw [v8, v41] at q3
        exact one 9 v1 v2 e1 e2 (by unfold q_tok; rw [if_neg (by omega), if_neg q, if_neg q2, if_pos q3]) (Or.inl rfl) q q2
    · have t : q_tok T len j = 10 := by
        unfold q_tok
        rw [if_pos c]
      have n : q_nxt T len j = j := by
        unfold q_nxt
        rw [if_pos c]
      refine hQ v' (fv.trans (FrW.set e' (by omega))) ⟨?_, ?_, ?_, fun c => ?_⟩
      · rw [← hj, u_ne e' (by omega), v10]
      · rw [← hj, u_at e', t]
      · rw [← hj, u_ne e' (by omega), v8, n]
      · rw [← hj] at c
        omega
  have key : ∀ (m : Nat) (u : Mem), FrW s u → u 37 11 = s 37 11 → s 37 8 ≤ u 37 8 → u 37 8 ≤ len → (len - u 37 8).toNat = m → q_end (q_sp T) len (u 37 8) = j → x5_goOn_b0 (x5_goOn_L0 Q) (x5_goOn_L38 Q) (x5_goOn_L85 Q) (x5_goOn_L128 Q) Q u := by
    intro m
    induction m with
    | zero =>
      intro u fu u11 u1 u2 hm e
      have v0 := (tx.fr fu).2.1
      exact ⟨by rw [v0]; constructor <;> constructor <;> omega, fun _ => first u fu u11 (by rw [← e, q_end_out (by omega)]), fun c => absurd c (by rw [v0]; omega)⟩
    | succ m ih =>
      intro u fu u11 u1 u2 hm e
      have v0 := (tx.fr fu).2.1
      have v41 := (tx.fr fu).1
      have l160 := tx.2.2.1
      have tb := tx.2.2.2 (u 37 8) (by omega) (by omega)
      unfold x5_goOn_b0
      rw [v41]
      refine ⟨by rw [v0]; constructor <;> constructor <;> omega, fun c => absurd c (by rw [v0]; omega), fun _ => ⟨by omega, by constructor <;> constructor <;> omega, fun c => first u fu u11 ?_, fun c v ev => x5_goOn_s0 (ih v (fu.trans (FrW.set ev (by omega))) (by rw [u_ne ev (by omega), u11]) ?_ ?_ ?_ ?_)⟩⟩
      · rw [← e, q_end_no (q_sp_no c)]
      · rw [u_at ev]
        omega
      · rw [u_at ev]
        omega
      · rw [u_at ev]
        omega
      · rw [u_at ev, ← e, ← q_end_go (by omega) (decide_eq_true c)]
  exact key _ s (FrW.refl s) rfl (by omega) (by omega) rfl hj.symm
