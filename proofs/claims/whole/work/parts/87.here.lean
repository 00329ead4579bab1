/-! ===== read: the reference goes from word to word ===== -/
def TxB (T : Int → Int) (len : Int) (t : Mem) : Prop := (∀ k, 0 ≤ k → k < len → t 19 k = T k) ∧ t 0 30 = len ∧ (0 ≤ len ∧ len ≤ 160) ∧ ∀ k, 0 ≤ k → k < len → 0 ≤ T k ∧ T k ≤ 255
def FrR (t t' : Mem) : Prop := (∀ d : Nat, d ≠ 0 → t' d = t d) ∧ ∀ i : Int, i ≠ 31 → i ≠ 32 → i ≠ 33 → i ≠ 34 → i ≠ 35 → t' 0 i = t 0 i
theorem FrR.refl (t : Mem) : FrR t t := ⟨fun _ _ => rfl, fun _ _ _ _ _ _ => rfl⟩
theorem FrR.trans {a b c : Mem} (h : FrR a b) (g : FrR b c) : FrR a c := ⟨fun d hd => (g.1 d hd).trans (h.1 d hd), fun i h1 h2 h3 h4 h5 => (g.2 i h1 h2 h3 h4 h5).trans (h.2 i h1 h2 h3 h4 h5)⟩
theorem FrR.set {t t' : Mem} {i x : Int} (e : t' = m_upd t 0 i x) (hi : i = 31 ∨ i = 32 ∨ i = 33 ∨ i = 34 ∨ i = 35) : FrR t t' := ⟨fun d hd => u_nc e hd, fun j h1 h2 h3 h4 h5 => u_ne e (by omega)⟩
theorem TxB.fr {T : Int → Int} {len : Int} {t t' : Mem} (h : TxB T len t) (f : FrR t t') : TxB T len t' := ⟨by rw [f.1 19 (by omega)]; exact h.1, by rw [f.2 30 (by omega) (by omega) (by omega) (by omega) (by omega)]; exact h.2.1, h.2.2⟩
theorem B_here {T : Int → Int} {len : Int} {t : Mem} (tx : TxB T len t) (hp : 0 ≤ t 0 31 ∧ t 0 31 ≤ len) {Q : Int → Mem → Prop} (hQ : ∀ t' : Mem, FrR t t' → (∀ i : Int, i ≠ 31 → t' 0 i = t 0 i) → t' 0 31 = q_end (q_sp T) len (t 0 31) → Q (if q_end (q_sp T) len (t 0 31) < len then T (q_end (q_sp T) len (t 0 31)) else -1) t') : x8_here t Q := by
  apply x8_here_i
  have l160 := tx.2.2.1
  have fin : ∀ u : Mem, FrR t u → (∀ i : Int, i ≠ 31 → u 0 i = t 0 i) → u 0 31 = q_end (q_sp T) len (t 0 31) → u 0 31 ≤ len → 0 ≤ u 0 31 → x8_here_L38 Q u := fun u fu gu e hl h0 => by
    have txu := tx.fr fu
    have hq := hQ u fu gu e
    rw [← e] at hq
    apply x8_here_s38
    unfold x8_here_b38
    rw [txu.2.1]
    refine ⟨by constructor <;> constructor <;> omega, fun c => ?_, fun c => ⟨by omega, ?_⟩⟩
    · rw [if_neg (by omega)] at hq
      exact hq
    · rw [if_pos c] at hq
      rw [txu.1 _ h0 c]
      exact hq
  have key : ∀ (m : Nat) (u : Mem), FrR t u → (∀ i : Int, i ≠ 31 → u 0 i = t 0 i) → 0 ≤ u 0 31 → u 0 31 ≤ len → (len - u 0 31).toNat = m → q_end (q_sp T) len (u 0 31) = q_end (q_sp T) len (t 0 31) → x8_here_b0 (x8_here_L0 Q) (x8_here_L38 Q) Q u := by
    intro m
    induction m with
    | zero =>
      intro u fu gu u0 u1 hm e
      have txu := tx.fr fu
      exact ⟨by rw [txu.2.1]; constructor <;> constructor <;> omega, fun _ => fin u fu gu (by rw [← e, q_end_out (by omega)]) u1 u0, fun c => absurd c (by rw [txu.2.1]; omega)⟩
    | succ m ih =>
      intro u fu gu u0 u1 hm e
      have txu := tx.fr fu
      have tb := tx.2.2.2 (u 0 31) u0 (by omega)
      unfold x8_here_b0
      rw [txu.2.1, txu.1 _ u0 (by omega)]
      refine ⟨by constructor <;> constructor <;> omega, fun c => absurd c (by omega), fun _ => ⟨by omega, by constructor <;> constructor <;> omega, fun c => fin u fu gu ?_ u1 u0, fun c v ev => x8_here_s0 (ih v (fu.trans (FrR.set ev (by omega))) (fun i hi => (u_ne ev hi).trans (gu i hi)) ?_ ?_ ?_ ?_)⟩⟩
      · rw [← e, q_end_no (q_sp_no c)]
      · rw [u_at ev]
        omega
      · rw [u_at ev]
        omega
      · rw [u_at ev]
        omega
      · rw [u_at ev, ← e, ← q_end_go (by omega) (decide_eq_true c)]
  exact key _ t (FrR.refl t) (fun _ _ => rfl) hp.1 hp.2 rfl rfl
theorem B_want_ok {p f a : Int} {t : Mem} {Q : Int → Mem → Prop} (h32 : t 0 32 = 0) (ip : InI p) (hp : ¬ p = 0) (h : Q 1 t) : x8_want p f a t Q := ⟨ip, fun _ => ⟨by rw [h32]; constructor <;> omega, fun c => absurd h32 c, fun _ => ⟨by omega, h⟩⟩, fun c => absurd c hp⟩
theorem B_want_fl {p f a : Int} {t : Mem} {Q : Int → Mem → Prop} (i32 : InI (t 0 32)) (h32 : ¬ t 0 32 = 0) (ip : InI p) (h : Q 0 t) : x8_want p f a t Q := ⟨ip, fun _ => ⟨i32, fun _ => ⟨by omega, h⟩, fun c => absurd c h32⟩, fun _ => ⟨i32, fun _ => ⟨i32, fun _ => ⟨by omega, h⟩, fun c => absurd c h32⟩, fun c => absurd c h32⟩⟩
theorem B_want_no {f a : Int} {t : Mem} {Q : Int → Mem → Prop} (h32 : t 0 32 = 0) (hf : InI f ∧ ¬ f = 0) (h : ∀ t' : Mem, FrR t t' → t' 0 32 = f → t' 0 33 = a → (∀ i : Int, i ≠ 32 → i ≠ 33 → t' 0 i = t 0 i) → Q 0 t') : x8_want 0 f a t Q := by
  refine ⟨by omega, fun c => absurd rfl c, fun _ => ⟨by rw [h32]; constructor <;> omega, fun c => absurd h32 c, fun _ s3 e3 s4 e4 => ?_⟩⟩
  have e32 : s4 0 32 = f := by rw [u_ne e4 (by omega), u_at e3]
  exact ⟨by rw [e32]; exact hf.1, fun _ => ⟨by omega, h s4 ((FrR.set e3 (by omega)).trans (FrR.set e4 (by omega))) e32 (u_at e4) (fun i h1 h2 => by rw [u_ne e4 h2, u_ne e3 h1])⟩, fun c => absurd (by rw [← e32]; exact c) hf.2⟩
theorem B_takeWord {T : Int → Int} {len : Int} {t : Mem} (tx : TxB T len t) (hp : 0 ≤ t 0 31 ∧ t 0 31 ≤ len) {Q : Int → Mem → Prop} (hQ : ∀ t' : Mem, FrR t t' → t' 0 32 = t 0 32 → t' 0 33 = t 0 33 → t' 0 34 = q_end (q_sp T) len (t 0 31) → t' 0 31 = q_end (q_lt T) len (q_end (q_sp T) len (t 0 31)) → t' 0 35 = q_end (q_lt T) len (q_end (q_sp T) len (t 0 31)) - q_end (q_sp T) len (t 0 31) → Q 0 t') : x8_takeWord t Q := by
  apply x8_takeWord_i
  have l160 := tx.2.2.1
  have bj := q_end_bd (p := q_sp T) (len := len) (i := t 0 31)
  refine B_here tx hp (fun u fu gu u31 s3 e3 => ?_)
  obtain ⟨j, hj⟩ : ∃ j, j = q_end (q_sp T) len (t 0 31) := ⟨_, rfl⟩
  rw [← hj] at u31 hQ bj
  have f3 := fu.trans (FrR.set e3 (by omega))
  have fin : ∀ (v v' : Mem), FrR t v → v 0 32 = t 0 32 → v 0 33 = t 0 33 → v 0 34 = j → v 0 31 = q_end (q_lt T) len j → v' = m_upd v 0 35 (v 0 31 - v 0 34) → Q 0 v' := fun v v' fv e32 e33 e34 e31 e' => hQ v' (fv.trans (FrR.set e' (by omega))) (by rw [u_ne e' (by omega), e32]) (by rw [u_ne e' (by omega), e33]) (by rw [u_ne e' (by omega), e34]) (by rw [u_ne e' (by omega), e31]) (by rw [u_at e', e31, e34])
  have key : ∀ (m : Nat) (v : Mem), FrR t v → v 0 32 = t 0 32 → v 0 33 = t 0 33 → v 0 34 = j → j ≤ v 0 31 → v 0 31 ≤ len → (len - v 0 31).toNat = m → q_end (q_lt T) len (v 0 31) = q_end (q_lt T) len j → x8_takeWord_L13 Q v := by
    intro m
    induction m with
    | zero =>
      intro v fv e32 e33 e34 v0 v1 hm e
      have txv := tx.fr fv
      apply x8_takeWord_s13
      exact ⟨by rw [txv.2.1]; constructor <;> constructor <;> omega, fun _ v' e' => fin v v' fv e32 e33 e34 (by rw [← e, q_end_out (by omega)]) e', fun c => absurd c (by rw [txv.2.1]; omega)⟩
    | succ m ih =>
      intro v fv e32 e33 e34 v0 v1 hm e
      have txv := tx.fr fv
      have tb := tx.2.2.2 (v 0 31) (by omega) (by omega)
      apply x8_takeWord_s13
      unfold x8_takeWord_b13
      rw [txv.2.1, txv.1 _ (by omega) (by omega)]
      refine ⟨by constructor <;> constructor <;> omega, fun c => absurd c (by omega), fun _ => ⟨by omega, by constructor <;> omega, B_in (by constructor <;> omega) (by omega) (by omega) (fun q => ⟨by omega, fun c => absurd c (by omega), fun _ v' e' => ?_⟩) (fun q => ⟨by omega, fun _ v' e' => fin v v' fv e32 e33 e34 ?_ e', fun c => absurd rfl c⟩)⟩⟩
      · have e8 := u_at e'
        exact ih v' (fv.trans (FrR.set e' (by omega))) (by rw [u_ne e' (by omega), e32]) (by rw [u_ne e' (by omega), e33]) (by rw [u_ne e' (by omega), e34]) (by omega) (by omega) (by omega) (by rw [e8, ← e, ← q_end_go (by omega) (q_lt_iff.mpr q)])
      · rw [← e, q_end_no (q_lt_no q)]
  have e31 : s3 0 31 = j := by rw [u_ne e3 (by omega), u31]
  exact key _ s3 f3 (by rw [u_ne e3 (by omega), gu 32 (by omega)]) (by rw [u_ne e3 (by omega), gu 33 (by omega)]) (by rw [u_at e3, u31]) (by omega) (by omega) rfl (by rw [e31])
theorem B_isWord {T : Int → Int} {len : Int} {t : Mem} (tx : TxB T len t) {j e : Int} (h34 : t 0 34 = j) (h35 : t 0 35 = e - j) (hj : 0 ≤ j ∧ j ≤ e ∧ e ≤ len) {ws : List Int} {p1 p2 p3 p4 p5 p6 : Int} (hl : (ws.length : Int) = p1) (h5 : ws.length ≤ 5) (hi : InI p2 ∧ InI p3 ∧ InI p4 ∧ InI p5 ∧ InI p6) (hc : ∀ i, i < ws.length → [p2, p3, p4, p5, p6].getD i 0 = ws.getD i 0) {Q : Int → Mem → Prop} (h1 : q_isw T j e ws = true → Q 1 t) (h0 : q_isw T j e ws = false → Q 0 t) : x8_isWord p1 p2 p3 p4 p5 p6 t Q := by
  apply x8_isWord_i
  have l160 := tx.2.2.1
  have no : q_isw T j e ws = false → ∀ i : Nat, i ≤ ws.length → x8_isWord_L18 Q p1 p2 p3 p4 p5 p6 0 (i : Int) t := fun q i hi => by
    apply x8_isWord_s18
    exact ⟨by constructor <;> constructor <;> omega, fun _ => ⟨by omega, h0 q⟩, fun _ => ⟨by omega, fun _ => ⟨by omega, h0 q⟩, fun c => absurd rfl c⟩⟩
  refine ⟨by rw [h35]; constructor <;> constructor <;> omega, fun q => no (decide_eq_false (fun z => q (by rw [h35]; omega))) 0 (by omega), fun q => ?_⟩
  rw [h35] at q
  have key : ∀ (m i : Nat), i + m = ws.length → (∀ v, v < i → T (j + (v : Nat)) = ws.getD v 0) → x8_isWord_L18 Q p1 p2 p3 p4 p5 p6 1 (i : Int) t := by
    intro m
    induction m with
    | zero =>
      intro i hi hall
      apply x8_isWord_s18
      exact ⟨by constructor <;> constructor <;> omega, fun _ => ⟨by omega, h1 (q_isw_iff.mpr ⟨by omega, fun v hv => hall v (by omega)⟩)⟩, fun c => absurd c (by omega)⟩
    | succ m ih =>
      intro i hi' hall
      have tb := tx.2.2.2 (j + i) (by omega) (by omega)
      have ci := hc i (by omega)
      have cmp : ∀ x : Int, InI x → x = ws.getD i 0 → x8_isWord_L84 Q p1 p2 p3 p4 p5 p6 (i : Int) x (T (j + (i : Nat))) t := fun x ix hx => by
        apply x8_isWord_s84
        refine ⟨⟨by constructor <;> omega, ix⟩, fun c => ?_, fun c => ?_⟩
        · have := no (decide_eq_false (fun z => c (by rw [hx]; exact z.2 i (by omega)))) (i + 1) (by omega)
          rw [show ((i + 1 : Nat) : Int) = (i : Int) + 1 by omega] at this
          exact this
        · have := ih (i + 1) (by omega) (fun v hv => by
            by_cases e : v = i
            · rw [e, c, hx]
            · exact hall v (by omega))
          rw [show ((i + 1 : Nat) : Int) = (i : Int) + 1 by omega] at this
          exact this
      apply x8_isWord_s18
      unfold x8_isWord_b18
      rw [h34, tx.1 (j + i) (by omega) (by omega)]
      refine ⟨by constructor <;> constructor <;> omega, fun c => absurd c (by omega), fun _ => ⟨by omega, fun c => absurd c (by omega), fun _ => ⟨by omega, by constructor <;> omega, fun n0 => ⟨by constructor <;> constructor <;> omega, fun n1 => ⟨by constructor <;> constructor <;> omega, fun n2 => ⟨by constructor <;> constructor <;> omega, fun n3 => ?_, fun c => ?_⟩, fun c => ?_⟩, fun c => ?_⟩, fun c => ?_⟩⟩⟩
      · obtain rfl : i = 4 := by omega
        exact cmp p6 hi.2.2.2.2 ci
      · obtain rfl : i = 3 := by omega
        exact cmp p5 hi.2.2.2.1 ci
      · obtain rfl : i = 2 := by omega
        exact cmp p4 hi.2.2.1 ci
      · obtain rfl : i = 1 := by omega
        exact cmp p3 hi.2.1 ci
      · obtain rfl : i = 0 := by omega
        exact cmp p2 hi.1 ci
  exact key ws.length 0 (by omega) (fun v hv => absurd hv (by omega))
theorem B_clauseOf {T : Int → Int} {len : Int} {t : Mem} (tx : TxB T len t) {j e : Int} (h34 : t 0 34 = j) (h35 : t 0 35 = e - j) (hj : 0 ≤ j ∧ j ≤ e ∧ e ≤ len) {Q : Int → Mem → Prop} (h : Q (if 5 < q_kd T j e then -1 else q_kd T j e) t) : x8_clauseOf t Q := by
  have yes : ∀ k : Nat, k < 6 → (∀ v, v < k → q_isw T j e (q_ws v) = false) → q_isw T j e (q_ws k) = true → Q k t := fun k hk z y => by
    rw [q_kd_at (by omega) z y, if_neg (by omega)] at h
    exact h
  have cc : ∀ k, k < 6 → (q_ws k).length ≤ 5 := by decide
  unfold x8_clauseOf
  refine B_isWord tx h34 h35 hj (ws := q_ws 0) rfl (cc 0 (by omega)) (by omega) (by decide) (fun y => ⟨by omega, fun c => absurd c (by omega), fun _ => yes 0 (by omega) (fun v hv => absurd hv (by omega)) y⟩) (fun n0 => ⟨by omega, fun _ => ?_, fun c => absurd rfl c⟩)
  refine B_isWord tx h34 h35 hj (ws := q_ws 1) rfl (cc 1 (by omega)) (by omega) (by decide) (fun y => ⟨by omega, fun c => absurd c (by omega), fun _ => yes 1 (by omega) (fun v hv => by rw [show v = 0 by omega]; exact n0) y⟩) (fun n1 => ⟨by omega, fun _ => ?_, fun c => absurd rfl c⟩)
  refine B_isWord tx h34 h35 hj (ws := q_ws 2) rfl (cc 2 (by omega)) (by omega) (by decide) (fun y => ⟨by omega, fun c => absurd c (by omega), fun _ => yes 2 (by omega) (fun v hv => by rcases (show v = 0 ∨ v = 1 by omega) with q | q <;> rw [q] <;> assumption) y⟩) (fun n2 => ⟨by omega, fun _ => ?_, fun c => absurd rfl c⟩)
  refine B_isWord tx h34 h35 hj (ws := q_ws 3) rfl (cc 3 (by omega)) (by omega) (by decide) (fun y => ⟨by omega, fun c => absurd c (by omega), fun _ => yes 3 (by omega) (fun v hv => by rcases (show v = 0 ∨ v = 1 ∨ v = 2 by omega) with q | q | q <;> rw [q] <;> assumption) y⟩) (fun n3 => ⟨by omega, fun _ => ?_, fun c => absurd rfl c⟩)
  refine B_isWord tx h34 h35 hj (ws := q_ws 4) rfl (cc 4 (by omega)) (by omega) (by decide) (fun y => ⟨by omega, fun c => absurd c (by omega), fun _ => yes 4 (by omega) (fun v hv => by rcases (show v = 0 ∨ v = 1 ∨ v = 2 ∨ v = 3 by omega) with q | q | q | q <;> rw [q] <;> assumption) y⟩) (fun n4 => ⟨by omega, fun _ => ?_, fun c => absurd rfl c⟩)
  refine B_isWord tx h34 h35 hj (ws := q_ws 5) rfl (cc 5 (by omega)) (by omega) (by decide) (fun y => ⟨by omega, fun c => absurd c (by omega), fun _ => yes 5 (by omega) (fun v hv => by rcases (show v = 0 ∨ v = 1 ∨ v = 2 ∨ v = 3 ∨ v = 4 by omega) with q | q | q | q | q <;> rw [q] <;> assumption) y⟩) (fun n5 => ⟨by omega, fun _ => ?_, fun c => absurd rfl c⟩)
  have : 5 < q_kd T j e := by
    unfold q_kd
    simp only [n0, n1, n2, n3, n4, n5, if_neg (show ¬ (false = true) by decide)]
    repeat' split
    all_goals omega
  rw [if_pos this] at h
  exact h
theorem B_takeNumber {T : Int → Int} {len : Int} {t : Mem} (tx : TxB T len t) (hp : 0 ≤ t 0 31 ∧ t 0 31 ≤ len) (h32 : t 0 32 = 0) {lo hi : Int} (hh : 0 ≤ lo ∧ lo ≤ 900 ∧ 0 ≤ hi ∧ hi ≤ 900) {Q : Int → Mem → Prop} (h1 : ¬ (q_nf T len lo hi (t 0 31)).1 = 0 → ∀ (r : Int) (t' : Mem), InI r → FrR t t' → t' 0 32 = (q_nf T len lo hi (t 0 31)).1 → t' 0 33 = (q_nf T len lo hi (t 0 31)).2.1 → 0 ≤ t' 0 31 ∧ t' 0 31 ≤ len → Q r t') (h0 : (q_nf T len lo hi (t 0 31)).1 = 0 → ∀ t' : Mem, FrR t t' → t' 0 32 = 0 → t' 0 33 = t 0 33 → t' 0 34 = q_end (q_sp T) len (t 0 31) → t' 0 31 = (q_nf T len lo hi (t 0 31)).2.2.2 → Q (q_nf T len lo hi (t 0 31)).2.2.1 t') : x8_takeNumber lo hi t Q := by
  apply x8_takeNumber_i
  have l160 := tx.2.2.1
  have bj := q_end_bd (p := q_sp T) (len := len) (i := t 0 31)
  refine B_here tx hp (fun u fu gu u31 s3 e3 => ?_)
  have f3 := fu.trans (FrR.set e3 (by omega))
  have tx3 := tx.fr f3
  have s31 : s3 0 31 = q_end (q_sp T) len (t 0 31) := by rw [u_ne e3 (by omega), u31]
  have s34 : s3 0 34 = q_end (q_sp T) len (t 0 31) := by rw [u_at e3, u31]
  have s32 : s3 0 32 = 0 := by rw [u_ne e3 (by omega), gu 32 (by omega), h32]
  have s33 : s3 0 33 = t 0 33 := by rw [u_ne e3 (by omega), gu 33 (by omega)]
  by_cases d : q_end (q_sp T) len (t 0 31) < len ∧ 48 ≤ T (q_end (q_sp T) len (t 0 31)) ∧ T (q_end (q_sp T) len (t 0 31)) ≤ 57
  · rw [if_pos d.1]
    refine ⟨by constructor <;> omega, B_in (by constructor <;> omega) (by omega) (by omega) (fun _ => B_want_ok s32 (by omega) (by omega) ⟨by omega, fun _ => ?_, fun c => absurd c (by omega)⟩) (fun z => absurd d.2 z)⟩
    obtain ⟨j, hj⟩ : ∃ j, j = q_end (q_sp T) len (t 0 31) := ⟨_, rfl⟩
    rw [← hj] at s31 s34 d bj
    have be := q_end_bd (p := q_fg T) (len := len) (i := j)
    have fin : ∀ (x : Int) (v : Mem), FrR t v → v 0 32 = 0 → v 0 33 = t 0 33 → v 0 34 = j → v 0 31 = q_end (q_fg T) len j → (0 ≤ x ∧ x ≤ 99999) → (v 0 31 - j ≤ 4 → x = q_val T j (v 0 31 - j).toNat) → x8_takeNumber_L120 Q lo hi x v := fun x v fv e32 e33 e34 e31 bx ex => by
      have bad : (4 ≤ q_end (q_fg T) len j - j ∨ ¬ (lo ≤ q_val T j (q_end (q_fg T) len j - j).toNat ∧ q_val T j (q_end (q_fg T) len j - j).toNat ≤ hi)) → x8_takeNumber_L152 Q x 0 v := fun z => by
        have en : q_nf T len lo hi (t 0 31) = (2, q_end (q_sp T) len (t 0 31), 0, 0) := q_nf_2 (by rw [← hj]; exact d) (by rw [← hj]; exact z)
        rw [en] at h1
        apply x8_takeNumber_s152
        refine B_want_no e32 (by omega) (fun w fw w32 w33 w' => ?_)
        exact h1 (show ¬ (2 : Int) = 0 by omega) x w (by constructor <;> omega) (fv.trans fw) w32 (by rw [w33, e34, hj]) (by rw [w' 31 (by omega) (by omega)]; omega)
      apply x8_takeNumber_s120
      unfold x8_takeNumber_b120
      rw [e34, e31]
      rw [e31] at ex
      refine ⟨by constructor <;> constructor <;> omega, fun c => bad (Or.inl c), fun c => ⟨by constructor <;> omega, by constructor <;> omega, by constructor <;> omega, B_in (by constructor <;> omega) (by constructor <;> omega) (by constructor <;> omega) (fun z => ⟨by omega, fun c => absurd c (by omega), fun _ => ?_⟩) (fun z => ⟨by omega, fun _ => bad (Or.inr (by rw [← ex (by omega)]; exact z)), fun c => absurd rfl c⟩)⟩⟩
      have en := q_nf_0 (T := T) (len := len) (lo := lo) (hi := hi) (i := t 0 31) (by rw [← hj]; exact d) (by rw [← hj, ← ex (by omega)]; omega)
      rw [en, ← hj] at h0
      apply x8_takeNumber_s152
      refine B_want_ok e32 (by omega) (by omega) ?_
      rw [ex (by omega)]
      exact h0 rfl v fv e32 e33 e34 e31
    have key : ∀ (m : Nat) (x : Int) (v : Mem), FrR t v → v 0 32 = 0 → v 0 33 = t 0 33 → v 0 34 = j → j ≤ v 0 31 → v 0 31 ≤ len → (len - v 0 31).toNat = m → (0 ≤ x ∧ x ≤ 99999) → (v 0 31 - j ≤ 4 → x = q_val T j (v 0 31 - j).toNat) → (∀ k, j ≤ k → k < v 0 31 → 48 ≤ T k ∧ T k ≤ 57) → q_end (q_fg T) len (v 0 31) = q_end (q_fg T) len j → x8_takeNumber_L41 Q lo hi x v := by
      intro m
      induction m with
      | zero =>
        intro x v fv e32 e33 e34 v0 v1 hm bx ex hd e
        have txv := tx.fr fv
        apply x8_takeNumber_s41
        exact ⟨by rw [txv.2.1]; constructor <;> constructor <;> omega, fun _ => fin x v fv e32 e33 e34 (by rw [← e, q_end_out (by omega)]) bx ex, fun c => absurd c (by rw [txv.2.1]; omega)⟩
      | succ m ih =>
        intro x v fv e32 e33 e34 v0 v1 hm bx ex hd e
        have txv := tx.fr fv
        have tb := tx.2.2.2 (v 0 31) (by omega) (by omega)
        apply x8_takeNumber_s41
        unfold x8_takeNumber_b41
        rw [txv.2.1, txv.1 _ (by omega) (by omega)]
        refine ⟨by constructor <;> constructor <;> omega, fun c => absurd c (by omega), fun _ => ⟨by omega, by constructor <;> omega, B_in (by constructor <;> omega) (by omega) (by omega) (fun q => ⟨by omega, fun c => absurd c (by omega), fun _ => ⟨by constructor <;> constructor <;> omega, fun c => ⟨by omega, fun v11 e11 v' e' => ?_⟩, fun c v' e' => ?_⟩⟩) (fun q => ⟨by omega, fun _ => fin x v fv e32 e33 e34 (by rw [← e, q_end_no (q_fg_no q)]) bx ex, fun c => absurd rfl c⟩)⟩⟩
        · rw [txv.1 _ (by omega) (by omega)] at e11
          have e8 := u_at e'
          have hd' : ∀ k, j ≤ k → k < v' 0 31 → 48 ≤ T k ∧ T k ≤ 57 := fun k h1 h2 => by
            by_cases w : k = v 0 31
            · rw [w]
              exact q
            · exact hd k h1 (by omega)
          refine ih v11 v' (fv.trans (FrR.set e' (by omega))) (by rw [u_ne e' (by omega), e32]) (by rw [u_ne e' (by omega), e33]) (by rw [u_ne e' (by omega), e34]) (by omega) (by omega) (by omega) (by omega) (fun y => ?_) hd' (by rw [e8, ← e, ← q_end_go (by omega) (q_fg_iff.mpr q)])
          rw [e11, ex (by omega), e8, show (v 0 31 + 1 - j).toNat = (v 0 31 - j).toNat + 1 by omega, q_val, show j + (((v 0 31 - j).toNat : Nat) : Int) = v 0 31 by omega]
        · have e8 := u_at e'
          have hd' : ∀ k, j ≤ k → k < v' 0 31 → 48 ≤ T k ∧ T k ≤ 57 := fun k h1 h2 => by
            by_cases w : k = v 0 31
            · rw [w]
              exact q
            · exact hd k h1 (by omega)
          refine ih x v' (fv.trans (FrR.set e' (by omega))) (by rw [u_ne e' (by omega), e32]) (by rw [u_ne e' (by omega), e33]) (by rw [u_ne e' (by omega), e34]) (by omega) (by omega) (by omega) bx (fun y => ?_) hd' (by rw [e8, ← e, ← q_end_go (by omega) (q_fg_iff.mpr q)])
          exfalso
          have b := q_val_bd (T := T) (j := j) (v 0 31 - j).toNat (fun k h1 h2 => hd k h1 (by omega))
          have c3 : (10 : Int) ^ (v 0 31 - j).toNat ≤ 1000 := by
            rcases (show (v 0 31 - j).toNat = 0 ∨ (v 0 31 - j).toNat = 1 ∨ (v 0 31 - j).toNat = 2 ∨ (v 0 31 - j).toNat = 3 by omega) with q | q | q | q <;> rw [q] <;> decide
          have := ex (by omega)
          omega
    refine key _ 0 s3 f3 s32 s33 s34 (by omega) (by omega) rfl (by omega) (fun _ => ?_) (fun k h1 h2 => absurd h2 (by omega)) (by rw [s31])
    rw [s31, show (j - j).toNat = 0 by omega]
    rfl
  · have en : q_nf T len lo hi (t 0 31) = (1, q_end (q_sp T) len (t 0 31), 0, 0) := q_nf_1 d
    rw [en] at h1
    have fail : x8_want 0 1 (s3 0 31) s3 (fun r7 s6 => InI r7 ∧ (¬ r7 = 0 → x8_takeNumber_L41 Q lo hi 0 s6) ∧ (r7 = 0 → Q 0 s6)) := B_want_no s32 (by omega) (fun w fw w32 w33 w' => ⟨by omega, fun c => absurd rfl c, fun _ => h1 (show ¬ (1 : Int) = 0 by omega) 0 w (by constructor <;> omega) (f3.trans fw) w32 (by rw [w33, s31]) (by rw [w' 31 (by omega) (by omega), s31]; omega)⟩)
    by_cases hl : q_end (q_sp T) len (t 0 31) < len
    · rw [if_pos hl]
      have tb := tx.2.2.2 (q_end (q_sp T) len (t 0 31)) (by omega) hl
      exact ⟨by constructor <;> omega, B_in (by constructor <;> omega) (by omega) (by omega) (fun z => absurd ⟨hl, z⟩ d) (fun _ => fail)⟩
    · rw [if_neg hl]
      exact ⟨by constructor <;> omega, B_in (by constructor <;> omega) (by omega) (by omega) (fun z => absurd z (by omega)) (fun _ => fail)⟩
