theorem B_suspect {τ : Mem} (ok : OkB τ) (h01 : ∀ k, q_in (τ 0 0) k → τ 9 k = 0 ∨ τ 9 k = 1) (hr : ∀ k, q_in (τ 0 0) k → τ 9 k ≠ 0 → (0 ≤ τ 10 k ∧ τ 10 k ≤ 2000) ∧ 0 ≤ τ 11 k ∧ τ 11 k ≤ 2000) {p : Int} (ip : InI p) {Q : Int → Mem → Prop} (hQ : ∀ s : Mem, FrB τ s → Q (q_sus (q_expl (jB τ) (tB τ) (τ 9) (τ 10) (τ 11)) p (τ 0 0)) s) : x8_suspect p τ Q := by
  apply x8_suspect_i
  have hn := ok.1.n
  have outer : ∀ (m : Nat) (i c v : Int) (s : Mem), 0 ≤ i → i ≤ τ 0 0 → (τ 0 0 - i).toNat = m → FrB τ s → (0 ≤ c ∧ c ≤ 7 * i) → q_s2 (q_expl (jB τ) (tB τ) (τ 9) (τ 10) (τ 11)) p m i (c, v) = q_s2 (q_expl (jB τ) (tB τ) (τ 9) (τ 10) (τ 11)) p (τ 0 0).toNat 0 (0, -1) → x8_suspect_L7 Q p c v i s := by
    intro m
    induction m with
    | zero =>
      intro i c v s i0 i1 hm f hc e
      apply x8_suspect_s7
      have s1 := f.2 0 (by omega)
      have e2 : q_s2 (q_expl (jB τ) (tB τ) (τ 9) (τ 10) (τ 11)) p (τ 0 0).toNat 0 (0, -1) = (c, v) := e.symm
      have hQ := hQ s f
      unfold q_sus at hQ
      rw [e2] at hQ
      refine ⟨by rw [s1]; omega, fun _ => ⟨⟨ip, by omega⟩, fun q => ?_, fun q => ?_⟩, fun q => absurd q (by rw [s1]; omega)⟩
      · rw [if_neg q] at hQ
        exact hQ
      · rw [if_pos q] at hQ
        exact hQ
    | succ m ih =>
      intro i c v s i0 i1 hm f hc e
      apply x8_suspect_s7
      have s1 := f.2 0 (by omega)
      have hi : q_in (τ 0 0) i := ⟨i0, by omega⟩
      have t4 : tB τ i = τ 3 i := q_nrm_in hi
      have bd := ok.1.k hi
      have eb : (jB τ).2.2.2.2.2 i = τ 5 i := q_nrm_in hi
      have s3 : s 3 = τ 3 := f.1 3 (by omega) (by omega) (by omega) (by omega)
      have a0 : ∀ {y : Int} {s : Mem}, AtB τ i y s → OkB τ := fun _ => ok
      have up : ∀ {x y : Int} {s s' : Mem}, AtB τ i x s → s' = m_upd s 3 i y → AtB τ i y s' := fun {x y s s'} a e => by
        refine ⟨⟨fun c c0 c3 c12 c13 c14 => by rw [e, m_upd_ne _ _ _ _ _ c3]; exact a.1.1 c c0 c3 c12 c13 c14, fun j hj => by rw [e, m_upd_ne _ _ _ _ _ (by omega)]; exact a.1.2 j hj⟩, fun k => ?_⟩
        rw [e, m_upd_at, a.2 k]
        by_cases w : k = i
        · rw [if_pos ⟨rfl, w⟩, if_pos w]
        · rw [if_neg (fun q => w q.2), if_neg w, if_neg w]
      have inner : ∀ (m2 : Nat) (d c v y : Int) (s : Mem), -3 ≤ d → d ≤ 4 → (4 - d).toNat = m2 → AtB τ i y s → (0 ≤ c ∧ c ≤ 7 * i + d + 3) → q_s2 (q_expl (jB τ) (tB τ) (τ 9) (τ 10) (τ 11)) p m (i + 1) (q_s1 (q_expl (jB τ) (tB τ) (τ 9) (τ 10) (τ 11)) p i m2 d (c, v)) = q_s2 (q_expl (jB τ) (tB τ) (τ 9) (τ 10) (τ 11)) p (τ 0 0).toNat 0 (0, -1) → x8_suspect_L29 Q p c v i (τ 3 i) d s := by
        intro m2
        induction m2 with
        | zero =>
          intro d c v y s d0 d1 hm2 a hc e
          apply x8_suspect_s29
          refine ⟨by omega, fun _ => ⟨by omega, fun s3 e3 => ih (i + 1) c v s3 (by omega) (by omega) (by omega) ?_ (by omega) e⟩, fun q => absurd q (by omega)⟩
          have au := up a e3
          refine ⟨fun c c0 c12 c13 c14 => ?_, au.1.2⟩
          by_cases w : c = 3
          · rw [w]
            funext k
            rw [au.2 k]
            by_cases x : k = i
            · rw [if_pos x, x]
            · rw [if_neg x]
          · exact au.1.1 c c0 w c12 c13 c14
        | succ m2 ih2 =>
          intro d c v y s d0 d1 hm2 a hc e
          apply x8_suspect_s29
          have s5 : s 5 = τ 5 := a.1.1 5 (by omega) (by omega) (by omega) (by omega) (by omega)
          have no : ¬ q_expl (jB τ) (tB τ) (τ 9) (τ 10) (τ 11) i d → ∀ (y : Int) (u : Mem), AtB τ i y u → x8_suspect_L29 Q p c v i (τ 3 i) (d + 1) u := fun z y u au => by
            rw [q_s1_no z] at e
            exact ih2 (d + 1) c v y u (by omega) (by omega) (by omega) au (by omega) e
          refine ⟨by omega, fun q => absurd q (by omega), fun _ => ⟨by omega, fun q => no (fun z => z.1 q) y s a, fun q => ⟨by omega, ?_⟩⟩⟩
          rw [s5]
          refine ⟨by omega, fun w => no (fun z => w (by rw [← eb]; exact z.2.1)) y s a, fun w => ⟨by constructor <;> omega, B_in0 (by constructor <;> omega) (by omega) (by omega) (fun g => ⟨by omega, fun c => absurd c (by omega), fun _ => ⟨by omega, fun s6 e6 => ?_⟩⟩) (fun g => ⟨by omega, fun _ => no (fun z => g (by rw [← t4]; exact z.2.2.1)) y s a, fun c => absurd rfl c⟩)⟩⟩
          have au := up a e6
          have js := au.jb ok.1 (by omega)
          have s9 : s6 9 = τ 9 := au.1.1 9 (by omega) (by omega) (by omega) (by omega) (by omega)
          have s10 : s6 10 = τ 10 := au.1.1 10 (by omega) (by omega) (by omega) (by omega) (by omega)
          have s11 : s6 11 = τ 11 := au.1.1 11 (by omega) (by omega) (by omega) (by omega) (by omega)
          have s00 : s6 0 0 = τ 0 0 := au.1.2 0 (by omega)
          have iff : q_fits (jB s6) (tB s6) (s6 9) (s6 10) (s6 11) ↔ q_expl (jB τ) (tB τ) (τ 9) (τ 10) (τ 11) i d := by
            rw [au.1.j, au.t hi, s9, s10, s11, ← t4]
            exact ⟨fun z => ⟨q, by rw [eb]; exact w, by rw [t4]; exact g, z⟩, fun z => z.2.2.2⟩
          have af : ∀ {t : Mem}, FrB s6 t → AtB τ i (τ 3 i + d) t := fun {t} h => ⟨au.1.trans (FrT.of h), fun k => by rw [h.1 3 (by omega) (by omega) (by omega) (by omega)]; exact au.2 k⟩
          refine B_isFit js (by rw [s00, s9]; exact h01) (by rw [s00, s9, s10, s11]; exact hr) (fun z t ft => ⟨by omega, fun c => absurd c (by omega), fun _ => ⟨⟨by omega, ip⟩, fun x => ?_, fun x v9 e9 => ?_⟩⟩) (fun z t ft => ⟨by omega, fun _ => no (fun y => z (iff.mpr y)) _ t (af ft), fun c => absurd rfl c⟩)
          · rw [q_s1_yes (iff.mp z), if_neg (show ¬ (c, v).1 = p from x)] at e
            exact ih2 (d + 1) (c + 1) v _ t (by omega) (by omega) (by omega) (af ft) (by omega) e
          · rw [q_s1_yes (iff.mp z), if_pos (show (c, v).1 = p from x)] at e
            rw [e9]
            exact ih2 (d + 1) (c + 1) (10 * i + d + 3) _ t (by omega) (by omega) (by omega) (af ft) (by omega) e
      refine ⟨by rw [s1]; omega, fun q => absurd q (by rw [s1]; omega), fun _ => ⟨by omega, ?_⟩⟩
      rw [s3]
      exact inner 7 (-3) c v (τ 3 i) s (by omega) (by omega) (by omega) ⟨FrT.of f, fun k => by
        rw [s3]
        by_cases w : k = i
        · rw [if_pos w, w]
        · rw [if_neg w]⟩ (by omega) e
  exact outer _ 0 0 (-1) τ (by omega) (by omega) (by rw [Int.sub_zero]) (FrB.refl τ) (by omega) rfl
theorem M_suspect {σ τ : Mem} (R : Rel σ τ) {p1 : Int} (i1 : InI p1) : Ans (x7_suspect p1 σ) (x8_suspect p1 τ) := by
  unfold Ans x7_suspect
  have eE : q_expl (jA σ 5) (tA σ) (c_on σ) (σ 35) (σ 36) = q_expl (jB τ) (tB τ) (τ 9) (τ 10) (τ 11) := by
    funext i d
    rw [← R.j, ← R.t]
    unfold q_expl
    rw [q_fits_congr R.2.2.2.1.on.2]
  refine L_suspectAt R.okA R.2.2.2.1.1 R.2.2.2.1.on.1 i1 (fun s f => B_suspect R.okB R.rd R.rdB i1 (fun t g => ⟨?_, R.same (SameA.of (Or.inl rfl) f) (SameB.of g)⟩))
  rw [eE, R.1.1]
