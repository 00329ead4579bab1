/-! ===== read: the reference takes a clause ===== -/
theorem B_textRow {T : Int → Int} {len n : Int} (hn : 3 ≤ n ∧ n ≤ 6) {t : Mem} (tx : TxB T len t) (hp : 0 ≤ t 0 31 ∧ t 0 31 ≤ len) (h32 : t 0 32 = 0) (h00 : t 0 0 = n) {Q : Int → Mem → Prop} (h1 : ¬ (q_rr T len n (n.toNat + 1) 0 0 (t 0 31)).1 = 0 → ∀ (r : Int) (t' : Mem), FrR t t' → t' 0 32 = (q_rr T len n (n.toNat + 1) 0 0 (t 0 31)).1 → t' 0 33 = (q_rr T len n (n.toNat + 1) 0 0 (t 0 31)).2.1 → 0 ≤ t' 0 31 ∧ t' 0 31 ≤ len → Q r t') (h0 : (q_rr T len n (n.toNat + 1) 0 0 (t 0 31)).1 = 0 → ∀ t' : Mem, FrR t t' → t' 0 32 = 0 → t' 0 33 = t 0 33 → t' 0 31 + 1 = (q_rr T len n (n.toNat + 1) 0 0 (t 0 31)).2.2.2.2.2 → 0 ≤ t' 0 31 → t' 0 31 < len → T (t' 0 31) = 59 → (q_rr T len n (n.toNat + 1) 0 0 (t 0 31)).2.2.1 = 5 → Q (q_rr T len n (n.toNat + 1) 0 0 (t 0 31)).2.2.2.1 t') : x8_takeRow t Q := by
  apply x8_takeRow_i
  have hall := s_all hn
  have l160 := tx.2.2.1
  obtain ⟨o, ho⟩ : ∃ o, o = q_rr T len n (n.toNat + 1) 0 0 (t 0 31) := ⟨_, rfl⟩
  rw [← ho] at h1 h0
  -- a fault told: out
  have out : ∀ (fig seen more f a : Int) (w : Mem), o = (f, a, 0, 0, 0, 0) → InI f ∧ ¬ f = 0 → FrR t w → w 0 32 = f → w 0 33 = a → (0 ≤ w 0 31 ∧ w 0 31 ≤ len) → InI more → x8_takeRow_L6 Q fig seen more w := fun fig seen more f a w eo hf fw e32 e33 hb im => by
    have leave : x8_takeRow_L107 Q fig seen w := by
      apply x8_takeRow_s107
      have bj := q_end_bd (p := q_sp T) (len := len) (i := w 0 31)
      refine B_here (tx.fr fw) hb (fun z fz gz z31 => ?_)
      have z32 : z 0 32 = f := by rw [gz 32 (by omega), e32]
      rw [eo] at h1
      exact ⟨by rw [z32]; exact hf.1, fun _ => h1 hf.2 fig z (fw.trans fz) z32 (by rw [gz 33 (by omega), e33]) (by omega), fun c => absurd (by rw [← z32]; exact c) hf.2⟩
    apply x8_takeRow_s6
    exact ⟨im, fun _ => leave, fun _ => ⟨by rw [e32]; exact hf.1, fun _ => leave, fun c => absurd (by rw [← e32]; exact c) hf.2⟩⟩
  have key : ∀ (m : Nat) (taken seen fig : Int) (u : Mem), 0 ≤ taken → m + taken = n + 1 → (0 ≤ seen ∧ seen < 64) → taken ≤ q_cnt (q_bit seen) n.toNat → FrR t u → u 0 32 = 0 → u 0 33 = t 0 33 → 0 ≤ u 0 31 ∧ u 0 31 ≤ len → q_rr T len n m seen fig (u 0 31) = o → x8_takeRow_L6 Q fig seen 1 u := by
    intro m
    induction m with
    | zero =>
      intro taken seen fig u t0 hm hs hcnt
      have := (q_cnt_bd (q_bit seen) n.toNat).2
      omega
    | succ m ih =>
      intro taken seen fig u t0 hm hs hcnt fu u32 u33 up e
      have txu := tx.fr fu
      have u00 : u 0 0 = n := by rw [fu.2 0 (by omega) (by omega) (by omega) (by omega) (by omega), h00]
      apply x8_takeRow_s6
      unfold x8_takeRow_b6
      rw [u00]
      unfold q_rr at e
      have ea : (q_nf T len 0 (n - 1) (u 0 31)).2.1 = q_end (q_sp T) len (u 0 31) := by
        unfold q_nf
        repeat' split
        all_goals rfl
      have fb : (q_nf T len 0 (n - 1) (u 0 31)).1 = 0 ∨ (q_nf T len 0 (n - 1) (u 0 31)).1 = 1 ∨ (q_nf T len 0 (n - 1) (u 0 31)).1 = 2 := by
        unfold q_nf
        repeat' split
        · exact Or.inr (Or.inl rfl)
        · exact Or.inr (Or.inr rfl)
        · exact Or.inl rfl
      refine ⟨by omega, fun c => absurd c (by omega), fun _ => ⟨by rw [u32]; constructor <;> omega, fun c => absurd u32 c, fun _ => B_takeNumber txu up u32 (by omega) (fun z r v ir fv v32 v33 vb => ?_) (fun z v fv v32 v33 v34 v31 => ?_)⟩⟩
      · -- no number
        rw [if_pos z] at e
        have iv : InI (v 0 32) := by rw [v32]; constructor <;> omega
        have nv : ¬ v 0 32 = 0 := by rw [v32]; exact z
        have go63 : ∀ t0 : Int, InI t0 → x8_takeRow_L63 Q fig seen 1 r t0 v := fun t0 it => by
          apply x8_takeRow_s63
          exact B_want_fl iv nv it ⟨by omega, fun _ => out fig seen 1 _ _ v e.symm ⟨by constructor <;> omega, z⟩ (fu.trans fv) v32 v33 vb (by omega), fun c => absurd rfl c⟩
        have go45 : ∀ t0 : Int, x8_takeRow_L45 Q fig seen 1 r t0 seen v := fun t0 => by
          apply x8_takeRow_s45
          exact ⟨s_andIn _ _, fun _ => go63 1 (by omega), fun _ => ⟨iv, fun _ => go63 0 (by omega), fun _ => go63 1 (by omega)⟩⟩
        exact ⟨⟨ir, by omega⟩, fun _ => go45 0, fun _ => go45 r⟩
      · rw [if_neg (fun y => y z)] at e
        have nb := q_nf_end up.2 z
        have fv' := fu.trans fv
        have txv := tx.fr fv'
        refine ⟨⟨by constructor <;> omega, by omega⟩, fun c => absurd c (by omega), fun _ => ?_⟩
        apply x8_takeRow_s45
        unfold x8_takeRow_b45
        rw [s_at_in (by omega) (by omega)]
        have sb := q_end_bd (p := q_sp T) (len := len) (i := v 0 31)
        refine ⟨by split <;> constructor <;> omega, fun q => ?_, fun q => ⟨by rw [v32]; constructor <;> omega, fun _ => ?_, fun c => absurd c (by rw [v32]; omega)⟩⟩
        · -- a new bolt
          have qb : ¬ q_bit seen (q_nf T len 0 (n - 1) (u 0 31)).2.2.1 = true := fun y => by
            rw [if_pos y] at q
            omega
          rw [if_neg qb, ← v31] at e
          have so := s_orI (x := seen) (k := (q_nf T len 0 (n - 1) (u 0 31)).2.2.1) (by omega) (by omega)
          apply x8_takeRow_s63
          refine B_want_ok v32 (by omega) (by omega) ⟨by omega, fun c => absurd c (by omega), fun _ v10 e10 v11 e11 => ?_⟩
          have cnt : taken + 1 ≤ q_cnt (q_bit v10) n.toNat := by
            have := q_cnt_lt (p := q_bit seen) (q := q_bit v10) n.toNat (fun k hk hb => by rw [e10, so.2 k hk.1, hb]; rfl) (j := (q_nf T len 0 (n - 1) (u 0 31)).2.2.1) ⟨by omega, by omega⟩ (by rw [e10, so.2 _ (by omega)]; simp) (Bool.eq_false_iff.mpr qb)
            omega
          have v10b : 0 ≤ v10 ∧ v10 < 64 := by rw [e10]; exact ⟨so.1.1, so.1.2.2 (by omega) (by omega)⟩
          have tk : taken + 1 ≤ n := by
            have := (q_cnt_bd (q_bit v10) n.toNat).2
            omega
          rw [← e10, ← e11] at e
          refine B_here txv (by omega) (fun w fw gw w31 => ?_)
          have fw' := fv'.trans fw
          have txw := tx.fr fw'
          have w32 : w 0 32 = 0 := by rw [gw 32 (by omega), v32]
          have w33 : w 0 33 = t 0 33 := by rw [gw 33 (by omega), v33, u33]
          have w00 : w 0 0 = n := by rw [fw'.2 0 (by omega) (by omega) (by omega) (by omega) (by omega), h00]
          have ee : q_end (q_sp T) len (w 0 31) = q_end (q_sp T) len (v 0 31) := by rw [w31, q_end_end]
          by_cases d : q_end (q_sp T) len (v 0 31) < len ∧ 48 ≤ T (q_end (q_sp T) len (v 0 31)) ∧ T (q_end (q_sp T) len (v 0 31)) ≤ 57
          · rw [if_pos d.1]
            rw [if_pos d] at e
            refine ⟨by constructor <;> omega, B_in (by constructor <;> omega) (by omega) (by omega) (fun _ => ih (taken + 1) v10 v11 w (by omega) (by omega) v10b cnt fw' w32 w33 (by omega) ?_) (fun y => absurd d.2 y)⟩
            -- the number is read from the figure on
            have same : ∀ (m : Nat) (a b : Int), q_end (q_sp T) len a = q_end (q_sp T) len b → ∀ (x y : Int), q_rr T len n m x y a = q_rr T len n m x y b := fun m a b hab x y => by
              cases m with
              | zero => rfl
              | succ m =>
                have en : q_nf T len 0 (n - 1) a = q_nf T len 0 (n - 1) b := by
                  unfold q_nf
                  rw [hab]
                unfold q_rr
                rw [en]
            rw [same m _ _ ee]
            exact e
          · rw [if_neg d] at e
            have stop : x8_takeRow_L6 Q v11 v10 0 w := by
              have leave : x8_takeRow_L107 Q v11 v10 w := by
                apply x8_takeRow_s107
                refine B_here txw (by omega) (fun x fx gx x31 => ?_)
                rw [ee] at x31 ⊢
                have fx' := fw'.trans fx
                have x32 : x 0 32 = 0 := by rw [gx 32 (by omega), w32]
                have x33 : x 0 33 = t 0 33 := by rw [gx 33 (by omega), w33]
                have x00 : x 0 0 = n := by rw [gx 0 (by omega), w00]
                refine ⟨by rw [x32]; constructor <;> omega, fun c => absurd x32 c, fun _ => ?_⟩
                by_cases hs : q_end (q_sp T) len (v 0 31) < len ∧ T (q_end (q_sp T) len (v 0 31)) = 59
                · rw [if_pos hs] at e
                  rw [if_pos hs.1, hs.2]
                  refine ⟨by omega, fun c => absurd rfl c, fun _ => ?_⟩
                  apply x8_takeRow_s133
                  refine B_want_ok x32 (by omega) (by omega) ⟨by omega, fun c => absurd c (by omega), fun _ => ?_⟩
                  rw [x00]
                  refine ⟨⟨by constructor <;> omega, by have := hall.1; constructor <;> omega⟩, fun y => ?_, fun y => ?_⟩
                  · rw [if_neg y] at e
                    apply x8_takeRow_s162
                    refine B_want_no x32 (by omega) (fun a fa a32 a33 ga => ?_)
                    rw [← e] at h1
                    exact h1 (show ¬ (4 : Int) = 0 by omega) _ a (fx'.trans fa) a32 (by rw [a33, x31]) (by rw [ga 31 (by omega) (by omega)]; omega)
                  · rw [if_pos y] at e
                    apply x8_takeRow_s162
                    refine B_want_ok x32 (by omega) (by omega) ?_
                    rw [← e] at h0
                    exact h0 rfl x fx' x32 x33 (by rw [x31]) (by omega) (by omega) (by rw [x31]; exact hs.2) rfl
                · rw [if_neg hs] at e
                  have bad : x8_takeRow_L133 Q v11 v10 0 x := by
                    apply x8_takeRow_s133
                    refine B_want_no x32 (by omega) (fun a fa a32 a33 ga => ⟨by omega, fun _ => ?_, fun c => absurd rfl c⟩)
                    rw [← e] at h1
                    exact h1 (show ¬ (1 : Int) = 0 by omega) _ a (fx'.trans fa) a32 (by rw [a33, x31]) (by rw [ga 31 (by omega) (by omega)]; omega)
                  by_cases hl : q_end (q_sp T) len (v 0 31) < len
                  · rw [if_pos hl]
                    have tb := tx.2.2.2 _ (by omega) hl
                    exact ⟨by constructor <;> constructor <;> omega, fun _ => bad, fun c => absurd ⟨hl, c⟩ hs⟩
                  · rw [if_neg hl]
                    exact ⟨by omega, fun _ => bad, fun c => absurd c (by omega)⟩
              apply x8_takeRow_s6
              exact ⟨by omega, fun _ => leave, fun c => absurd rfl c⟩
            by_cases hl : q_end (q_sp T) len (v 0 31) < len
            · rw [if_pos hl]
              have tb := tx.2.2.2 _ (by omega) hl
              exact ⟨by constructor <;> omega, B_in (by constructor <;> omega) (by omega) (by omega) (fun y => absurd ⟨hl, y⟩ d) (fun _ => stop)⟩
            · rw [if_neg hl]
              exact ⟨by constructor <;> omega, B_in (by constructor <;> omega) (by omega) (by omega) (fun y => absurd y (by omega)) (fun _ => stop)⟩
        · -- a bolt again
          have qb : q_bit seen (q_nf T len 0 (n - 1) (u 0 31)).2.2.1 = true := Classical.byContradiction (fun y => q (if_neg y))
          rw [if_pos qb, ea] at e
          apply x8_takeRow_s63
          exact B_want_no v32 (by omega) (fun a fa a32 a33 ga => ⟨by omega, fun _ => out fig seen 1 3 _ a e.symm (by omega) (fv'.trans fa) a32 (by rw [a33, v34]) (by rw [ga 31 (by omega) (by omega)]; omega) (by omega), fun c => absurd rfl c⟩)
  exact key (n.toNat + 1) 0 0 0 t (by omega) (by omega) (by omega) (q_cnt_bd _ _).1 (FrR.refl t) h32 rfl hp ho.symm
def FrV (c : Int) (t t' : Mem) : Prop := (∀ d : Nat, d ≠ 0 → d ≠ 20 → d ≠ 21 → d ≠ 22 → t' d = t d) ∧ (∀ i : Int, i ≠ 31 → i ≠ 32 → i ≠ 33 → i ≠ 34 → i ≠ 35 → t' 0 i = t 0 i) ∧ ∀ i : Int, i ≠ c → t' 20 i = t 20 i ∧ t' 21 i = t 21 i ∧ t' 22 i = t 22 i
theorem FrV.of {c : Int} {t t' : Mem} (f : FrR t t') : FrV c t t' := ⟨fun d h _ _ _ => f.1 d h, f.2, fun i _ => ⟨by rw [f.1 20 (by omega)], by rw [f.1 21 (by omega)], by rw [f.1 22 (by omega)]⟩⟩
theorem FrV.trans {e : Int} {a b c : Mem} (h : FrV e a b) (g : FrV e b c) : FrV e a c := ⟨fun d h1 h2 h3 h4 => (g.1 d h1 h2 h3 h4).trans (h.1 d h1 h2 h3 h4), fun i h1 h2 h3 h4 h5 => (g.2.1 i h1 h2 h3 h4 h5).trans (h.2.1 i h1 h2 h3 h4 h5), fun i hi => ⟨(g.2.2 i hi).1.trans (h.2.2 i hi).1, (g.2.2 i hi).2.1.trans (h.2.2 i hi).2.1, (g.2.2 i hi).2.2.trans (h.2.2 i hi).2.2⟩⟩
theorem FrV.set {t t' : Mem} {d : Nat} {c x : Int} (e : t' = m_upd t d c x) (hd : d = 20 ∨ d = 21 ∨ d = 22) : FrV c t t' := by
  refine ⟨fun b h1 h2 h3 h4 => u_nc e (by omega), fun i _ _ _ _ _ => by rw [u_nc e (by omega)], fun i hi => ?_⟩
  rcases hd with q | q | q <;> subst q
  · exact ⟨u_ne e hi, by rw [u_nc e (by omega)], by rw [u_nc e (by omega)]⟩
  · exact ⟨by rw [u_nc e (by omega)], u_ne e hi, by rw [u_nc e (by omega)]⟩
  · exact ⟨by rw [u_nc e (by omega)], by rw [u_nc e (by omega)], u_ne e hi⟩
theorem TxB.fv {T : Int → Int} {len c : Int} {t t' : Mem} (h : TxB T len t) (f : FrV c t t') : TxB T len t' := ⟨by rw [f.1 19 (by omega) (by omega) (by omega) (by omega)]; exact h.1, by rw [f.2.1 30 (by omega) (by omega) (by omega) (by omega) (by omega)]; exact h.2.1, h.2.2⟩
theorem q_nf_fl (T : Int → Int) (len lo hi i : Int) : 0 ≤ (q_nf T len lo hi i).1 ∧ (q_nf T len lo hi i).1 ≤ 2 := by
  unfold q_nf
  repeat' split
  · show 0 ≤ (1 : Int) ∧ (1 : Int) ≤ 2
    omega
  · show 0 ≤ (2 : Int) ∧ (2 : Int) ≤ 2
    omega
  · show 0 ≤ (0 : Int) ∧ (0 : Int) ≤ 2
    omega
theorem q_rr_fl (T : Int → Int) (len n : Int) : ∀ (m : Nat) (a b i : Int), 0 ≤ (q_rr T len n m a b i).1 ∧ (q_rr T len n m a b i).1 ≤ 9
  | 0, _, _, _ => by
    show 0 ≤ (9 : Int) ∧ (9 : Int) ≤ 9
    omega
  | m + 1, a, b, i => by
    have := q_nf_fl T len 0 (n - 1) i
    unfold q_rr
    repeat' split
    · show 0 ≤ (q_nf T len 0 (n - 1) i).1 ∧ (q_nf T len 0 (n - 1) i).1 ≤ 9
      omega
    · show 0 ≤ (3 : Int) ∧ (3 : Int) ≤ 9
      omega
    · exact q_rr_fl T len n m _ _ _
    · show 0 ≤ (0 : Int) ∧ (0 : Int) ≤ 9
      omega
    · show 0 ≤ (4 : Int) ∧ (4 : Int) ≤ 9
      omega
    · show 0 ≤ (1 : Int) ∧ (1 : Int) ≤ 9
      omega
theorem q_rr_eq {T : Int → Int} {len n : Int} : ∀ (m : Nat) (a b i : Int), (q_rr T len n m a b i).1 = 0 → q_rr T len n m a b i = (0, 0, 5, (q_rr T len n m a b i).2.2.2.1, 0, (q_rr T len n m a b i).2.2.2.2.2)
  | 0, _, _, _, h => absurd h (show ¬ (9 : Int) = 0 by omega)
  | m + 1, a, b, i, h => by
    unfold q_rr at h ⊢
    split at h
    · rename_i z
      exact absurd h z
    · rename_i h1
      rw [if_neg h1]
      split at h
      · exact absurd h (show ¬ (3 : Int) = 0 by omega)
      · rename_i h2
        rw [if_neg h2]
        split at h
        · rename_i h3
          rw [if_pos h3]
          exact q_rr_eq m _ _ _ h
        · rename_i h3
          rw [if_neg h3]
          split at h
          · rename_i h4
            rw [if_pos h4]
            split at h
            · rename_i h5
              rw [if_pos h5]
            · exact absurd h (show ¬ (4 : Int) = 0 by omega)
          · exact absurd h (show ¬ (1 : Int) = 0 by omega)
theorem B_readClause {T : Int → Int} {len n c j : Int} (hn : 3 ≤ n ∧ n ≤ 6) {t : Mem} (tx : TxB T len t) (h31 : t 0 31 = j) (hj : 0 ≤ j ∧ j < len) (hs : q_end (q_sp T) len j = j) (h32 : t 0 32 = 0) (h37 : t 0 37 = c) (hc : 0 ≤ c ∧ c ≤ 12) (h00 : t 0 0 = n) {Q : Int → Mem → Prop} (h1 : ¬ (q_cl T len n c j).1 = 0 → ∀ t' : Mem, FrV c t t' → t' 0 32 = (q_cl T len n c j).1 → InI (t' 0 32) → t' 0 33 = (q_cl T len n c j).2.1 → Q 0 t') (h0 : (q_cl T len n c j).1 = 0 → ¬ c = 12 → ∀ t' : Mem, (∀ d : Nat, d ≠ 0 → d ≠ 20 → d ≠ 21 → d ≠ 22 → t' d = t d) → (∀ i : Int, i ≠ 31 → i ≠ 32 → i ≠ 33 → i ≠ 34 → i ≠ 35 → i ≠ 37 → t' 0 i = t 0 i) → (∀ i : Int, i ≠ c → t' 20 i = t 20 i ∧ t' 21 i = t 21 i ∧ t' 22 i = t 22 i) → t' 0 32 = 0 → t' 0 33 = t 0 33 → t' 0 37 = c + 1 → t' 0 31 = (q_cl T len n c j).2.2.2.2.2 → t' 20 c = (q_cl T len n c j).2.2.1 → t' 21 c = (q_cl T len n c j).2.2.2.1 → (t' 20 c = 0 ∨ t' 20 c = 2 → t' 22 c = (q_cl T len n c j).2.2.2.2.1) → Q 0 t') : x8_readClause t Q := by
  apply x8_readClause_i
  have l160 := tx.2.2.1
  have el := q_end_bd (p := q_lt T) (len := len) (i := j)
  have kb := q_kd_bd T j (q_end (q_lt T) len j)
  obtain ⟨o, ho⟩ : ∃ o, o = q_cl T len n c j := ⟨_, rfl⟩
  rw [← ho] at h1 h0
  -- a fault was told: to the end
  have flt : ∀ (u : Mem), FrV c t u → ¬ o.1 = 0 → InI o.1 → u 0 32 = o.1 → u 0 33 = o.2.1 → (0 ≤ u 0 31 ∧ u 0 31 ≤ len) → x8_readClause_L219 Q u := fun u fu no io u32 u33 up => by
    apply x8_readClause_s219
    refine B_here (tx.fv fu) up (fun v fv gv v31 => ?_)
    have v32 : v 0 32 = o.1 := by rw [gv 32 (by omega), u32]
    exact ⟨by rw [v32]; exact io, fun _ => h1 no v (fu.trans (FrV.of fv)) v32 (by rw [v32]; exact io) (by rw [gv 33 (by omega), u33]), fun y => absurd (by rw [← v32]; exact y) no⟩
  -- the end of a clause
  have stp : ∀ (u : Mem) (k a b i : Int), FrV c t u → o = q_st T len k a b i → ¬ c = 12 → u 0 32 = 0 → u 0 33 = t 0 33 → u 0 31 = i → 0 ≤ i ∧ i ≤ len → u 20 c = k → u 21 c = a → (k = 0 ∨ k = 2 → u 22 c = b) → x8_readClause_L219 Q u := fun u k a b i fu eo nc u32 u33 u31 hi u20 u21 u22 => by
    have bj := q_end_bd (p := q_sp T) (len := len) (i := i)
    apply x8_readClause_s219
    refine B_here (tx.fv fu) (by omega) (fun v fv gv v31 => ?_)
    rw [u31] at v31 ⊢
    have fv' := fu.trans (FrV.of (c := c) fv)
    have v32 : v 0 32 = 0 := by rw [gv 32 (by omega), u32]
    have v33 : v 0 33 = t 0 33 := by rw [gv 33 (by omega), u33]
    refine ⟨by rw [v32]; constructor <;> omega, fun y => absurd v32 y, fun _ => ?_⟩
    by_cases d : q_end (q_sp T) len i < len ∧ T (q_end (q_sp T) len i) = 59
    · rw [if_pos d.1, d.2]
      have e : o = (0, 0, k, a, b, q_end (q_sp T) len i + 1) := by rw [eo]; exact if_pos d
      rw [e] at h0
      refine ⟨by omega, fun y => absurd rfl y, fun _ => ?_⟩
      apply x8_readClause_s243
      refine B_want_ok v32 (by omega) (by omega) ⟨by omega, fun y => absurd y (by omega), fun _ w1 e1 w2 e2 => ?_⟩
      have v37 : v 0 37 = c := by rw [fv'.2.1 37 (by omega) (by omega) (by omega) (by omega) (by omega), h37]
      have wd : ∀ d : Nat, d ≠ 0 → w2 d = v d := fun d hd => by rw [u_nc e2 hd, u_nc e1 hd]
      have v20 : v 20 c = k := by rw [fv.1 20 (by omega), u20]
      refine h0 rfl nc w2 (fun d d1 d2 d3 d4 => by rw [wd d d1, fv'.1 d d1 d2 d3 d4]) (fun i i1 i2 i3 i4 i5 i6 => by rw [u_ne e2 i6, u_ne e1 i1, fv'.2.1 i i1 i2 i3 i4 i5]) (fun i hi => by rw [wd 20 (by omega), wd 21 (by omega), wd 22 (by omega)]; exact fv'.2.2 i hi) ?_ ?_ ?_ ?_ ?_ ?_ (fun y => ?_)
      · rw [u_ne e2 (by omega), u_ne e1 (by omega), v32]
      · rw [u_ne e2 (by omega), u_ne e1 (by omega), v33]
      · rw [u_at e2, u_ne e1 (by omega), v37]
      · rw [u_ne e2 (by omega), u_at e1, v31]
      · rw [wd 20 (by omega), v20]
      · rw [wd 21 (by omega), fv.1 21 (by omega), u21]
      · rw [wd 20 (by omega), v20] at y
        rw [wd 22 (by omega), fv.1 22 (by omega)]
        exact u22 y
    · have e : o = (1, q_end (q_sp T) len i, 0, 0, 0, 0) := by rw [eo]; exact if_neg d
      rw [e] at h1
      have bad : x8_readClause_L243 Q 0 v := by
        apply x8_readClause_s243
        refine B_want_no v32 (by omega) (fun w fw w32 w33 gw => ⟨by omega, fun _ => ?_, fun y => absurd rfl y⟩)
        exact h1 (show ¬ (1 : Int) = 0 by omega) w (fv'.trans (FrV.of fw)) w32 (by rw [w32]; constructor <;> omega) (by rw [w33, v31])
      by_cases hl : q_end (q_sp T) len i < len
      · rw [if_pos hl]
        have tb := tx.2.2.2 _ (by omega) hl
        exact ⟨by constructor <;> constructor <;> omega, fun _ => bad, fun y => absurd ⟨hl, y⟩ d⟩
      · rw [if_neg hl]
        exact ⟨by omega, fun _ => bad, fun y => absurd y (by omega)⟩
  -- word and second number
  have sec : ∀ (u : Mem) (k a i lo hi : Int) (w : Nat), (k = 0 ∧ w = 6 ∧ lo = 1 ∧ hi = 900 ∨ k = 2 ∧ w = 7 ∧ lo = 0 ∧ hi = 200) → FrV c t u → o = q_sc T len k a lo hi w i → ¬ c = 12 → u 0 32 = 0 → u 0 33 = t 0 33 → u 0 31 = i → 0 ≤ i ∧ i ≤ len → u 20 c = k → u 21 c = a → x8_readClause_L124 Q k u := fun u k a i lo hi w hk fu eo nc u32 u33 u31 hi' u20 u21 => by
    have bj := q_end_bd (p := q_sp T) (len := len) (i := i)
    have be := q_end_bd (p := q_lt T) (len := len) (i := q_end (q_sp T) len i)
    have txu := tx.fv fu
    apply x8_readClause_s124
    refine ⟨by rw [u32]; constructor <;> omega, fun y => absurd u32 y, fun _ => B_takeWord txu (by omega) (fun v fv v32 v33 v34 v31 v35 => ?_)⟩
    rw [u31] at v34 v31 v35
    have fv' := fu.trans (FrV.of (c := c) fv)
    have txv := tx.fv fv'
    have after : ∀ r : Int, InI r → (r = 0 ↔ q_isw T (q_end (q_sp T) len i) (q_end (q_lt T) len (q_end (q_sp T) len i)) (q_ws w) = false) → x8_readClause_L167 Q k r v := fun r ir hr => by
      apply x8_readClause_s167
      by_cases y : r = 0
      · have e : o = (1, q_end (q_sp T) len i, 0, 0, 0, 0) := by
          have et : q_to T len w i = (1, q_end (q_sp T) len i, 0) := if_neg (by rw [hr.mp y]; decide)
          rw [eo]
          unfold q_sc
          rw [et, if_pos (show ¬ (1 : Int) = 0 by omega)]
        have f := flt
        rw [e] at f
        rw [y]
        refine B_want_no (by rw [v32, u32]) (by omega) (fun x fx x32 x33 gx => ⟨by rw [x32]; constructor <;> omega, fun z => absurd z (by rw [x32]; omega), fun _ => ⟨by rw [gx 37 (by omega) (by omega), fv'.2.1 37 (by omega) (by omega) (by omega) (by omega) (by omega), h37]; omega, fun x2 e2 => ?_⟩⟩)
        rw [gx 37 (by omega) (by omega), fv'.2.1 37 (by omega) (by omega) (by omega) (by omega) (by omega), h37] at e2
        exact f x2 ((fv'.trans (FrV.of fx)).trans (FrV.set e2 (by omega))) (show ¬ (1 : Int) = 0 by omega) (by constructor <;> (show _; omega)) (by rw [u_nc e2 (by omega), x32]) (by rw [u_nc e2 (by omega), x33, v34]) (by rw [u_nc e2 (by omega), gx 31 (by omega) (by omega), v31]; omega)
      · have yt : q_isw T (q_end (q_sp T) len i) (q_end (q_lt T) len (q_end (q_sp T) len i)) (q_ws w) = true := Bool.not_eq_false _ |>.mp (fun z => y (hr.mpr z))
        have et : q_to T len w i = (0, q_end (q_sp T) len i, q_end (q_lt T) len (q_end (q_sp T) len i)) := if_pos yt
        have vv32 : v 0 32 = 0 := by rw [v32, u32]
        have v37 : v 0 37 = c := by rw [fv'.2.1 37 (by omega) (by omega) (by omega) (by omega) (by omega), h37]
        have e : o = (if ¬ (q_nf T len lo hi (v 0 31)).1 = 0 then ((q_nf T len lo hi (v 0 31)).1, (q_nf T len lo hi (v 0 31)).2.1, 0, 0, 0, 0) else q_st T len k a (q_nf T len lo hi (v 0 31)).2.2.1 (q_nf T len lo hi (v 0 31)).2.2.2) := by
          rw [eo, v31]
          unfold q_sc
          rw [et, if_neg (show ¬ ¬ (0 : Int) = 0 by omega)]
        have fb := q_nf_fl T len lo hi (v 0 31)
        have num : x8_takeNumber lo hi v (fun r34 s33 => ((0 : Int) ≤ (v 0 37) ∧ (v 0 37) < 12) ∧ ∀ s35 : Mem, s35 = m_upd s33 22 (v 0 37) r34 → x8_readClause_L219 Q s35) := by
          rw [v37]
          refine B_takeNumber txv (by omega) vv32 (by omega) (fun z r x ir fx x32 x33 xb => ⟨by omega, fun x2 e2 => ?_⟩) (fun z x fx x32 x33 x34 x31 => ⟨by omega, fun x2 e2 => ?_⟩)
          · rw [if_pos z] at e
            have f := flt
            rw [e] at f
            exact f x2 ((fv'.trans (FrV.of fx)).trans (FrV.set e2 (by omega))) z (by constructor <;> (show _; omega)) (by rw [u_nc e2 (by omega), x32]) (by rw [u_nc e2 (by omega), x33]) (by rw [u_nc e2 (by omega)]; exact xb)
          · rw [if_neg (fun y => y z)] at e
            have nb := q_nf_end (show v 0 31 ≤ len by omega) z
            refine stp x2 k a _ _ ((fv'.trans (FrV.of fx)).trans (FrV.set e2 (by omega))) e nc (by rw [u_nc e2 (by omega), x32]) (by rw [u_nc e2 (by omega), x33, v33, u33]) (by rw [u_nc e2 (by omega), x31]) (by omega) ?_ ?_ (fun _ => u_at e2)
            · rw [u_nc e2 (by omega), fx.1 20 (by omega), fv.1 20 (by omega), u20]
            · rw [u_nc e2 (by omega), fx.1 21 (by omega), fv.1 21 (by omega), u21]
        refine B_want_ok vv32 ir y ⟨by rw [vv32]; constructor <;> omega, fun _ => ⟨by omega, fun z => ?_, fun z => ?_⟩, fun z => absurd z (by rw [vv32]; omega)⟩
        · rcases hk with ⟨k1, k2, k3, k4⟩ | ⟨k1, k2, k3, k4⟩
          · omega
          · rw [k3, k4] at num
            exact num
        · rcases hk with ⟨k1, k2, k3, k4⟩ | ⟨k1, k2, k3, k4⟩
          · rw [k3, k4] at num
            exact num
          · omega
    have h34 : v 0 34 = q_end (q_sp T) len i := v34
    refine ⟨by omega, fun z => ?_, fun z => ?_⟩
    · rcases hk with ⟨k1, k2, k3, k4⟩ | ⟨k1, k2, k3, k4⟩
      · omega
      · subst k2
        exact B_isWord txv h34 v35 (by omega) (ws := q_ws 7) rfl (by decide) (by omega) (by decide) (fun y => after 1 (by omega) ⟨fun q => absurd q (by omega), fun q => absurd (y.symm.trans q) (by decide)⟩) (fun y => after 0 (by omega) ⟨fun _ => y, fun _ => rfl⟩)
    · rcases hk with ⟨k1, k2, k3, k4⟩ | ⟨k1, k2, k3, k4⟩
      · subst k2
        exact B_isWord txv h34 v35 (by omega) (ws := q_ws 6) rfl (by decide) (by omega) (by decide) (fun y => after 1 (by omega) ⟨fun q => absurd q (by omega), fun q => absurd (y.symm.trans q) (by decide)⟩) (fun y => after 0 (by omega) ⟨fun _ => y, fun _ => rfl⟩)
      · omega
  -- the first word
  refine B_takeWord tx (by omega) (fun u fu u32 u33 u34 u31 u35 => ?_)
  rw [h31, hs] at u34 u31 u35
  have txu := tx.fr fu
  have fu' : FrV c t u := FrV.of fu
  have uu32 : u 0 32 = 0 := by rw [u32, h32]
  have u37 : u 0 37 = c := by rw [fu.2 37 (by omega) (by omega) (by omega) (by omega) (by omega), h37]
  have u00 : u 0 0 = n := by rw [fu.2 0 (by omega) (by omega) (by omega) (by omega) (by omega), h00]
  refine B_clauseOf txu (j := j) (e := q_end (q_lt T) len j) u34 u35 (by omega) ?_
  by_cases k5 : 5 < q_kd T j (q_end (q_lt T) len j)
  · rw [if_pos k5]
    have e : o = (1, j, 0, 0, 0, 0) := by
      rw [ho]
      exact if_pos k5
    rw [e] at h1
    refine ⟨by omega, fun _ => ?_, fun y => absurd y (by omega)⟩
    apply x8_readClause_s19
    exact B_want_no uu32 (by omega) (fun v fv v32 v33 gv => ⟨by omega, fun _ => h1 (show ¬ (1 : Int) = 0 by omega) v (fu'.trans (FrV.of fv)) v32 (by rw [v32]; constructor <;> omega) (by rw [v33, u34]), fun y => absurd rfl y⟩)
  · rw [if_neg k5]
    obtain ⟨k, hk⟩ : ∃ k, k = q_kd T j (q_end (q_lt T) len j) := ⟨_, rfl⟩
    rw [← hk] at kb k5 ⊢
    refine ⟨by constructor <;> omega, fun y => absurd y (by omega), fun _ => ?_⟩
    apply x8_readClause_s19
    refine B_want_ok uu32 (by omega) (by omega) ⟨by omega, fun y => absurd y (by omega), fun _ => ⟨by rw [u37]; constructor <;> constructor <;> omega, fun y => ?_, fun y => ?_⟩⟩
    · rw [u37] at y
      have e : o = (5, j, 0, 0, 0, 0) := by
        rw [ho]
        unfold q_cl
        rw [← hk, if_neg k5, if_pos (by omega)]
      rw [e] at h1
      apply x8_readClause_s45
      exact B_want_no uu32 (by omega) (fun v fv v32 v33 gv => ⟨by omega, fun y => absurd rfl y, fun _ => h1 (show ¬ (5 : Int) = 0 by omega) v (fu'.trans (FrV.of fv)) v32 (by rw [v32]; constructor <;> omega) (by rw [v33, u34])⟩)
    · rw [u37] at y
      have nc : ¬ c = 12 := by omega
      have e : o = (if k = 5 then q_rr T len n (n.toNat + 1) 0 0 (u 0 31) else if k = 1 then q_af T len 1 n (q_nf T len 1 900 (u 0 31)) else q_af T len k n (q_nf T len 0 (n - 1) (u 0 31))) := by
        rw [ho, u31]
        unfold q_cl
        rw [← hk, if_neg k5, if_neg nc]
      have up : 0 ≤ u 0 31 ∧ u 0 31 ≤ len := by omega
      apply x8_readClause_s45
      refine B_want_ok uu32 (by omega) (by omega) ⟨by omega, fun _ => ⟨by omega, fun s11 e11 => ?_⟩, fun y => absurd y (by omega)⟩
      rw [u37] at e11
      have f11 : FrV c t s11 := fu'.trans (FrV.set e11 (by omega))
      have tx11 := tx.fv f11
      have z0 : s11 0 = u 0 := u_nc e11 (by omega)
      rw [z0, u37, u00]
      have s31 : s11 0 31 = u 0 31 := by rw [z0]
      have s32 : s11 0 32 = 0 := by rw [z0, uu32]
      have s33 : s11 0 33 = t 0 33 := by rw [z0, u33]
      have s20 : s11 20 c = k := u_at e11
      -- a number first
      have one : ∀ lo hi : Int, (0 ≤ lo ∧ lo ≤ 900 ∧ 0 ≤ hi ∧ hi ≤ 900) → ¬ k = 5 → o = q_af T len k n (q_nf T len lo hi (u 0 31)) → x8_takeNumber lo hi s11 (fun r13 s12 => x8_readClause_L114 Q k r13 c s12) := fun lo hi hh nk5 eo => by
        rw [← s31] at eo
        have fb := q_nf_fl T len lo hi (s11 0 31)
        refine B_takeNumber tx11 (by omega) s32 hh (fun z r v ir fv v32 v33 vb => ?_) (fun z v fv v32 v33 v34 v31 => ?_)
        · unfold q_af at eo
          rw [if_pos z] at eo
          have f := flt
          rw [eo] at f
          apply x8_readClause_s114
          refine ⟨by omega, fun v2 e2 => ?_⟩
          have fin := f v2 ((f11.trans (FrV.of fv)).trans (FrV.set e2 (by omega))) z (by constructor <;> (show _; omega)) (by rw [u_nc e2 (by omega), v32]) (by rw [u_nc e2 (by omega), v33]) (by rw [u_nc e2 (by omega)]; exact vb)
          have i32 : InI (v2 0 32) := by rw [u_nc e2 (by omega), v32]; constructor <;> omega
          have n32 : ¬ v2 0 32 = 0 := by rw [u_nc e2 (by omega), v32]; exact z
          have go : x8_readClause_L124 Q k v2 := by
            apply x8_readClause_s124
            exact ⟨i32, fun _ => fin, fun y => absurd y n32⟩
          exact ⟨by constructor <;> omega, fun _ => go, fun _ => ⟨by constructor <;> constructor <;> omega, fun _ => fin, fun _ => go⟩⟩
        · have nb := q_nf_end (show s11 0 31 ≤ len by omega) z
          unfold q_af at eo
          rw [if_neg (fun y => y z)] at eo
          apply x8_readClause_s114
          refine ⟨by omega, fun v2 e2 => ?_⟩
          have f2 := (f11.trans (FrV.of fv)).trans (FrV.set e2 (by omega))
          have w32 : v2 0 32 = 0 := by rw [u_nc e2 (by omega), v32]
          have w33 : v2 0 33 = t 0 33 := by rw [u_nc e2 (by omega), v33, s33]
          have w31 : v2 0 31 = (q_nf T len lo hi (s11 0 31)).2.2.2 := by rw [u_nc e2 (by omega), v31]
          have w20 : v2 20 c = k := by rw [u_nc e2 (by omega), fv.1 20 (by omega), s20]
          have w21 : v2 21 c = (q_nf T len lo hi (s11 0 31)).2.2.1 := u_at e2
          refine ⟨by constructor <;> omega, fun z0 => ?_, fun z0 => ⟨by constructor <;> constructor <;> omega, fun z2 => ?_, fun z2 => ?_⟩⟩
          · rw [if_pos z0] at eo
            exact sec v2 k _ _ 1 900 6 (by omega) f2 (by rw [eo, z0]) nc w32 w33 w31 (by omega) w20 w21
          · rw [if_neg z0, if_neg z2] at eo
            exact stp v2 k _ 0 _ f2 eo nc w32 w33 w31 (by omega) w20 w21 (fun y => by omega)
          · rw [if_neg z0, if_pos z2] at eo
            exact sec v2 k _ _ 0 200 7 (by omega) f2 (by rw [eo, z2]) nc w32 w33 w31 (by omega) w20 w21
      refine ⟨⟨by constructor <;> omega, by omega⟩, fun n5 => ⟨⟨by constructor <;> omega, by omega⟩, fun n1 => ?_, fun y1 => ?_⟩, fun y5 => ?_⟩
      · rw [if_neg n5, if_neg n1] at e
        exact one 0 (n - 1) (by omega) n5 e
      · rw [if_neg n5, if_pos y1] at e
        exact one 1 900 (by omega) n5 (by rw [e, y1])
      · rw [if_pos y5, ← s31] at e
        have rf := q_rr_fl T len n (n.toNat + 1) 0 0 (s11 0 31)
        have s00 : s11 0 0 = n := by rw [z0, u00]
        refine B_textRow hn tx11 (by omega) s32 s00 (fun z r v fv v32 v33 vb => ?_) (fun z v fv v32 v33 v31 va vb vc e5 => ?_)
        · rw [← e] at z v32 v33 rf
          apply x8_readClause_s114
          refine ⟨by omega, fun v2 e2 => ⟨by constructor <;> omega, fun y => absurd y (by omega), fun _ => ⟨by constructor <;> constructor <;> omega, fun _ => ?_, fun y => absurd y (by omega)⟩⟩⟩
          exact flt v2 ((f11.trans (FrV.of fv)).trans (FrV.set e2 (by omega))) z (by constructor <;> omega) (by rw [u_nc e2 (by omega), v32]) (by rw [u_nc e2 (by omega), v33]) (by rw [u_nc e2 (by omega)]; exact vb)
        · have rk := q_rr_ok hn (n.toNat + 1) 0 0 (s11 0 31) (by omega) (by omega) z
          apply x8_readClause_s114
          refine ⟨by omega, fun v2 e2 => ⟨by constructor <;> omega, fun y => absurd y (by omega), fun _ => ⟨by constructor <;> constructor <;> omega, fun _ => ?_, fun y => absurd y (by omega)⟩⟩⟩
          have f2 := (f11.trans (FrV.of fv)).trans (FrV.set e2 (by omega))
          have w31 : v2 0 31 = v 0 31 := by rw [u_nc e2 (by omega)]
          have hv : q_end (q_sp T) len (v 0 31) = v 0 31 := q_end_no (q_sp_no (by rw [vc]; omega))
          have eo : o = q_st T len 5 (q_rr T len n (n.toNat + 1) 0 0 (s11 0 31)).2.2.2.1 0 (v 0 31) := by
            rw [e]
            unfold q_st
            rw [hv, if_pos ⟨vb, vc⟩, v31]
            exact q_rr_eq _ _ _ _ z
          exact stp v2 5 _ _ _ f2 eo nc (by rw [u_nc e2 (by omega), v32]) (by rw [u_nc e2 (by omega), v33, s33]) w31 (by omega) (by rw [u_nc e2 (by omega), fv.1 20 (by omega), s20, y5]) (u_at e2) (fun y => by omega)
