/-! ===== read: the class understands all ===== -/
theorem q_tok10 {T : Int → Int} {len j : Int} : q_tok T len j = 10 ↔ len ≤ j := by
  have := q_kd_bd T j (q_end (q_lt T) len j)
  unfold q_tok
  repeat' split
  all_goals omega
theorem q_C12 (T : Int → Int) (len n : Int) : ¬ (q_C T len n 12).1 = 0 := by
  unfold q_C q_cl
  split
  · show ¬ (1 : Int) = 0
    omega
  · rw [if_pos (show ((12 : Nat) : Int) = 12 from rfl)]
    show ¬ (5 : Int) = 0
    omega
theorem q_ps_s (T : Int → Int) (len n : Int) (c : Nat) : q_ps T len n (c + 1) = q_end (q_sp T) len (q_C T len n c).2.2.2.2.2 := rfl
def FrU (s s' : Mem) : Prop := (∀ d : Nat, d ≠ 37 → d ≠ 38 → d ≠ 39 → d ≠ 40 → s' d = s d) ∧ s' 37 0 = s 37 0
def ArA (T : Int → Int) (len n : Int) (N : Nat) (s : Mem) : Prop := ∀ i : Nat, i < N → s 38 i = (q_C T len n i).2.2.1 ∧ s 39 i = (q_C T len n i).2.2.2.1 ∧ (s 38 i = 0 ∨ s 38 i = 2 → s 40 i = (q_C T len n i).2.2.2.2.1)
theorem L_understand {T : Int → Int} {len n : Int} (hn : 3 ≤ n ∧ n ≤ 6) {s : Mem} (tx : TxA T len s) {Q : Int → Mem → Prop} (h1 : ∀ N : Nat, q_fst T len n N → N ≤ 12 → q_ps T len n N < len → ∀ s' : Mem, FrU s s' → s' 37 1 = (q_C T len n N).1 → s' 37 2 = (q_C T len n N).2.1 → Q 0 s') (h0 : ∀ N : Nat, q_fst T len n N → N ≤ 12 → len ≤ q_ps T len n N → ∀ s' : Mem, FrU s s' → s' 37 3 = N → s' 37 2 = -1 → ArA T len n N s' → Q 1 s') : x5_understand n s Q := by
  apply x5_understand_i
  intro s1 e1 s2 e2 s3 e3 s4 e4
  have l160 := tx.2.2.1
  have key : ∀ (m c : Nat) (u : Mem), m + c = 13 → (∀ i, i < c → ¬ q_halt T len n i) → FrU s u → u 37 3 = c → u 37 2 = -1 → (0 ≤ q_ps T len n c ∧ q_ps T len n c ≤ len) → u 37 10 = q_ps T len n c → u 37 9 = q_tok T len (q_ps T len n c) → u 37 8 = q_nxt T len (q_ps T len n c) → ArA T len n c u → x5_understand_L26 Q n (c : Int) u := by
    intro m
    induction m with
    | zero =>
      intro c u hm hno
      exact absurd (Or.inr (q_C12 T len n)) (hno 12 (by omega))
    | succ m ih =>
      intro c u hm hno fu u3 u2 pb g10 g9 g8 ar
      have c12 : c ≤ 12 := by omega
      have tb := q_tok_bd T len (q_ps T len n c)
      have txu : TxA T len u := ⟨by rw [fu.1 41 (by omega) (by omega) (by omega) (by omega)]; exact tx.1, by rw [fu.2]; exact tx.2.1, tx.2.2⟩
      apply x5_understand_s26
      refine ⟨by constructor <;> constructor <;> omega, fun z => absurd z (by omega), fun _ => ⟨by rw [g9]; constructor <;> constructor <;> omega, fun z => ⟨by omega, ?_⟩, fun z => ?_⟩⟩
      · rw [g9] at z
        have z := q_tok10.mp z
        exact h0 c ⟨Or.inl z, hno⟩ c12 z u fu u3 u2 ar
      · rw [g9] at z
        have jl : q_ps T len n c < len := by
          refine Int.not_le.mp (fun y => z (q_tok10.mpr y))
        refine L_takeClause hn txu ⟨pb.1, jl⟩ g10 g9 g8 (by omega) (fun y s' f e1 e2 => ⟨by omega, fun w => absurd rfl w, fun _ => ⟨by omega, ?_⟩⟩) (fun y y12 v fv v8 v38 v39 v40 => ⟨by omega, fun _ w ew => ?_, fun w => absurd w (by omega)⟩)
        · rw [u3] at y e1 e2
          exact h1 c ⟨Or.inr y, hno⟩ c12 jl s' ⟨fun d d1 d2 d3 d4 => by rw [f.1 d d1 d2 d3 d4, fu.1 d d1 d2 d3 d4], by rw [f.2.1 0 (by omega) (by omega) (by omega) (by omega) (by omega) (by omega), fu.2]⟩ e1 e2
        · rw [u3] at y y12 fv v8 v38 v39 v40
          have nh : ¬ q_halt T len n c := fun q => by
            rcases q with q | q
            · omega
            · exact q y
          have cl := q_cl_ok hn (show q_ps T len n c ≤ len by omega) y
          have v3 : v 37 3 = c := by rw [fv.2.1 3 (by omega) (by omega) (by omega) (by omega), u3]
          have fw : FrU s w := ⟨fun d d1 d2 d3 d4 => by rw [u_nc ew d1, fv.1 d d1 d2 d3 d4, fu.1 d d1 d2 d3 d4], by rw [u_ne ew (by omega), fv.2.1 0 (by omega) (by omega) (by omega) (by omega), fu.2]⟩
          have txw : TxA T len w := ⟨by rw [fw.1 41 (by omega) (by omega) (by omega) (by omega)]; exact tx.1, by rw [fw.2]; exact tx.2.1, tx.2.2⟩
          have w8 : w 37 8 = (q_C T len n c).2.2.2.2.2 := by rw [u_ne ew (by omega), v8]; rfl
          have w3 : w 37 3 = ((c + 1 : Nat) : Int) := by rw [u_at ew, v3]; omega
          have w2 : w 37 2 = -1 := by rw [u_ne ew (by omega), fv.2.1 2 (by omega) (by omega) (by omega) (by omega), u2]
          have cl1 : q_ps T len n c ≤ (q_C T len n c).2.2.2.2.2 := cl.1
          have cl2 : (q_C T len n c).2.2.2.2.2 ≤ len := cl.2.1
          refine L_goOn txw (by rw [w8]; omega) (fun x fx gx => ?_)
          rw [w8] at gx
          have bj := q_end_bd (p := q_sp T) (len := len) (i := (q_C T len n c).2.2.2.2.2)
          have := ih (c + 1) x (by omega) (fun i hi => by
            by_cases q : i = c
            · rw [q]
              exact nh
            · exact hno i (by omega)) ⟨fun d d1 d2 d3 d4 => by rw [fx.1 d d1, fw.1 d d1 d2 d3 d4], by rw [fx.2 0 (by omega) (by omega) (by omega) (by omega), fw.2]⟩ (by rw [fx.2 3 (by omega) (by omega) (by omega) (by omega), w3]) (by rw [fx.2 2 (by omega) (by omega) (by omega) (by omega), w2]) (by rw [q_ps_s]; omega) gx.1 gx.2.1 gx.2.2.1 (fun i hi => ?_)
          · rw [show ((c + 1 : Nat) : Int) = (c : Int) + 1 by omega] at this
            exact this
          · rw [fx.1 38 (by omega), fx.1 39 (by omega), fx.1 40 (by omega), u_nc ew (by omega), u_nc ew (by omega), u_nc ew (by omega)]
            by_cases q : i = c
            · rw [q]
              exact ⟨v38, v39, v40⟩
            · have o := fv.2.2 (i : Int) (by omega)
              rw [o.1, o.2.1, o.2.2]
              exact ar i (by omega)
  have f4 : FrU s s4 := ⟨fun d d1 d2 d3 d4 => by rw [u_nc e4 d1, u_nc e3 d1, u_nc e2 d1, u_nc e1 d1], by rw [u_ne e4 (by omega), u_ne e3 (by omega), u_ne e2 (by omega), u_ne e1 (by omega)]⟩
  have tx4 : TxA T len s4 := ⟨by rw [f4.1 41 (by omega) (by omega) (by omega) (by omega)]; exact tx.1, by rw [f4.2]; exact tx.2.1, tx.2.2⟩
  have s48 : s4 37 8 = 0 := u_at e4
  have s42 : s4 37 2 = -1 := by rw [u_ne e4 (by omega), u_at e3]
  have s43 : s4 37 3 = 0 := by rw [u_ne e4 (by omega), u_ne e3 (by omega), u_ne e2 (by omega), u_at e1]
  refine L_goOn tx4 (by rw [s48]; omega) (fun x fx gx => ?_)
  rw [s48] at gx
  have bj := q_end_bd (p := q_sp T) (len := len) (i := 0)
  have e0 : q_ps T len n 0 = q_end (q_sp T) len 0 := rfl
  exact key 13 0 x rfl (fun i hi => absurd hi (by omega)) ⟨fun d d1 d2 d3 d4 => by rw [fx.1 d d1, f4.1 d d1 d2 d3 d4], by rw [fx.2 0 (by omega) (by omega) (by omega) (by omega), f4.2]⟩ (by rw [fx.2 3 (by omega) (by omega) (by omega) (by omega), s43]; rfl) (by rw [fx.2 2 (by omega) (by omega) (by omega) (by omega), s42]) (by rw [e0]; omega) gx.1 gx.2.1 gx.2.2.1 (fun i hi => absurd hi (by omega))
