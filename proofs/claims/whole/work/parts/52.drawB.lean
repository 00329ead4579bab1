/-! ===== one draw in the reference ===== -/
def OkB (τ : Mem) : Prop := JB τ ∧ ∀ k, q_in (τ 0 0) k → τ 3 k ≤ 200
/-- but for the turns, what a draw leaves -/
def FrT (τ t : Mem) : Prop := (∀ c : Nat, c ≠ 0 → c ≠ 3 → c ≠ 12 → c ≠ 13 → c ≠ 14 → t c = τ c) ∧ ∀ j : Int, j ≠ 15 → t 0 j = τ 0 j
theorem FrT.refl (τ : Mem) : FrT τ τ := ⟨fun _ _ _ _ _ _ => rfl, fun _ _ => rfl⟩
theorem FrT.trans {a b c : Mem} (h : FrT a b) (g : FrT b c) : FrT a c := ⟨fun d h1 h2 h3 h4 h5 => (g.1 d h1 h2 h3 h4 h5).trans (h.1 d h1 h2 h3 h4 h5), fun j hj => (g.2 j hj).trans (h.2 j hj)⟩
theorem FrT.of {τ t : Mem} (h : FrB τ t) : FrT τ t := ⟨fun c h1 _ h3 h4 h5 => h.1 c h1 h3 h4 h5, h.2⟩
theorem FrT.j {τ t : Mem} (h : FrT τ t) : jB t = jB τ := by
  unfold jB
  rw [h.2 0 (by omega), h.2 1 (by omega), h.1 1 (by omega) (by omega) (by omega) (by omega) (by omega), h.1 2 (by omega) (by omega) (by omega) (by omega) (by omega), h.1 4 (by omega) (by omega) (by omega) (by omega) (by omega), h.1 5 (by omega) (by omega) (by omega) (by omega) (by omega)]
/-- as τ, but bolt h is turned to x -/
def AtB (τ : Mem) (h x : Int) (t : Mem) : Prop := FrT τ t ∧ ∀ k, t 3 k = if k = h then x else τ 3 k
theorem AtB.jb {τ t : Mem} {h x : Int} (a : AtB τ h x t) (hJ : JB τ) (hx : 0 ≤ x ∧ x ≤ 201) : JB t := by
  obtain ⟨f, g⟩ := a
  unfold JB q_ok
  rw [f.2 0 (by omega), f.2 1 (by omega), f.1 1 (by omega) (by omega) (by omega) (by omega) (by omega), f.1 2 (by omega) (by omega) (by omega) (by omega) (by omega), f.1 4 (by omega) (by omega) (by omega) (by omega) (by omega), f.1 5 (by omega) (by omega) (by omega) (by omega) (by omega)]
  refine ⟨hJ.1, hJ.2.1, fun k hk => ?_, hJ.2.2.2⟩
  have := hJ.2.2.1 k hk
  rw [g k]
  exact ⟨this.1, this.2.1, by split <;> omega, this.2.2.2⟩
theorem AtB.t {τ t : Mem} {h x : Int} (a : AtB τ h x t) (hh : q_in (τ 0 0) h) : tB t = q_set (tB τ) h x := by
  funext k
  have h1 := hh.1
  have h2 := hh.2
  unfold tB q_set q_nrm
  rw [a.1.2 0 (by omega), a.2 k]
  by_cases w : k = h
  · rw [if_pos w, if_pos w, if_pos (by omega)]
  · rw [if_neg w, if_neg w]
theorem q_set_set {f : Int → Int} {h x y : Int} : q_set (q_set f h x) h y = q_set f h y := by
  funext k
  unfold q_set
  by_cases w : k = h
  · rw [if_pos w, if_pos w]
  · rw [if_neg w, if_neg w, if_neg w]
theorem B_has {τ : Mem} {h t x : Int} {s : Mem} (a : AtB τ h x s) (hJ : JB τ) (hx : 0 ≤ x ∧ x ≤ 201) (hh : q_in (τ 0 0) h) (hb : τ 5 h = 0) (ht : 1 ≤ t ∧ t ≤ 900) {Q : Int → Mem → Prop} (h1 : q_hasJ (jB τ) (tB τ) h t x → ∀ u : Mem, AtB τ h x u → Q 1 u) (h0 : ¬ q_hasJ (jB τ) (tB τ) h t x → ∀ u : Mem, AtB τ h x u → Q 0 u) : x8_has h t s Q := by
  have js := a.jb hJ hx
  have s00 : s 0 0 = τ 0 0 := a.1.2 0 (by omega)
  have hhs : q_in (s 0 0) h := by rw [s00]; exact hh
  have hbs : s 5 h = 0 := by rw [a.1.1 5 (by omega) (by omega) (by omega) (by omega) (by omega)]; exact hb
  have s3h : s 3 h = x := by rw [a.2 h, if_pos rfl]
  unfold x8_has
  refine B_findLifts js (fun u hu => ?_)
  have hrd := hu.rdy js
  have u00 : u 0 0 = s 0 0 := hu.1.2 0 (by omega)
  have hhu : q_in (u 0 0) h := by rw [u00]; exact hhs
  have bp := hrd.p hhu
  have bD := hrd.2.2.1
  have m1 := Int.mul_nonneg (show 0 ≤ t by omega) (Int.le_of_lt bD.1)
  have m2 : t * u 0 15 ≤ 900 * 2176782336 := Int.mul_le_mul ht.2 bD.2 (Int.le_of_lt bD.1) (by omega)
  have isl : q_isL (jB τ) (q_set (tB τ) h x) (u 12) (u 0 15) := by
    have := hu.2.1
    rw [← a.1.j, ← a.t hh]
    exact q_IsG_congr (fun k hk => ⟨(q_nrm_in hk).symm, (q_nrm_in hk).symm, (q_nrm_in hk).symm, (q_nrm_in hk).symm, (q_nrm_in hk).symm⟩) this
  have key := q_hasJ_iff hJ.okJ (t := t) hh hx isl
  have ep : pB u h = q_pull ((jB τ).2.2.1 h) (x * u 0 15 - u 12 h) := by
    have e1 : (jB τ).2.2.1 h = u 1 h := by
      rw [hu.1.1 1 (by omega) (by omega) (by omega) (by omega), a.1.1 1 (by omega) (by omega) (by omega) (by omega) (by omega)]
      exact q_nrm_in hh
    unfold pB q_pl
    rw [if_pos (by rw [hu.1.1 5 (by omega) (by omega) (by omega) (by omega)]; exact hbs), e1, hu.1.1 3 (by omega) (by omega) (by omega) (by omega), s3h]
  have au : AtB τ h x u := ⟨a.1.trans (FrT.of hu.1), fun k => by rw [hu.1.1 3 (by omega) (by omega) (by omega) (by omega)]; exact a.2 k⟩
  refine B_pull hrd hhu ⟨by omega, ⟨by constructor <;> omega, by constructor <;> omega⟩, fun q => ⟨by omega, h0 (fun z => ?_) u au⟩, fun q => ⟨by omega, h1 ?_ u au⟩⟩
  · rw [key, ← ep] at z
    omega
  · rw [key, ← ep]
    exact q
theorem OkB.drawn {τ s : Mem} (h : OkB τ) (f : FrT τ s) (ht : tB s = tB τ ∨ ∃ x k, q_in (τ 0 0) k ∧ 0 ≤ x ∧ x ≤ 200 ∧ tB s = q_set (tB τ) k x) : OkB s := by
  have e0 := f.2 0 (by omega)
  have tb : ∀ k, q_in (τ 0 0) k → 0 ≤ s 3 k ∧ s 3 k ≤ 200 := fun k hk => by
    have a : tB s k = s 3 k := by
      unfold tB
      rw [e0]
      exact q_nrm_in hk
    have b : tB τ k = τ 3 k := q_nrm_in hk
    have c := h.2 k hk
    have d := (h.1.k hk).2.2.1.1
    rw [← a]
    rcases ht with q | ⟨x, i, hi, x0, x1, q⟩
    · rw [q, b]
      omega
    · rw [q]
      unfold q_set
      split <;> omega
  refine ⟨?_, fun k hk => (tb k (by rw [e0] at hk; exact hk)).2⟩
  obtain ⟨n1, n2, n3, n4⟩ := h.1
  unfold JB q_ok
  rw [e0, f.2 1 (by omega), f.1 1 (by omega) (by omega) (by omega) (by omega) (by omega), f.1 2 (by omega) (by omega) (by omega) (by omega) (by omega), f.1 4 (by omega) (by omega) (by omega) (by omega) (by omega), f.1 5 (by omega) (by omega) (by omega) (by omega) (by omega)]
  refine ⟨n1, n2, fun k hk => ?_, n4⟩
  have a := n3 k hk
  have b := tb k hk
  exact ⟨a.1, a.2.1, by omega, a.2.2.2⟩
theorem B_drawOf {τ : Mem} (ok : OkB τ) {h t : Int} (hh : q_in (τ 0 0) h) (hb : τ 5 h = 0) (ht : 1 ≤ t ∧ t ≤ 900) {Q : Int → Mem → Prop} (hQ : ∀ s : Mem, FrT τ s → OkB s → tB s = q_drT (jB τ) (tB τ) h t → Q (q_drw (jB τ) (tB τ) h t) s) : x8_drawOf h t τ Q := by
  apply x8_drawOf_i
  have hJ := ok.1
  have hn := hJ.n
  have h1 := hh.1
  have h2 := hh.2
  have th : tB τ h = τ 3 h := q_nrm_in hh
  have t1 := ok.2 h hh
  have t0 := (hJ.k hh).2.2.1.1
  have bJ : (jB τ).2.2.2.2.2 h = 0 := (q_nrm_in hh).trans hb
  have mono : ∀ {x y : Int}, 0 ≤ x → x ≤ y → y ≤ 201 → q_hasJ (jB τ) (tB τ) h t x → q_hasJ (jB τ) (tB τ) h t y := fun a b c d => q_hasJ_mono hJ.okJ hh bJ ht.1 a b c d
  have a0 : AtB τ h (τ 3 h) τ := ⟨FrT.refl τ, fun k => by
    by_cases w : k = h
    · rw [if_pos w, w]
    · rw [if_neg w]⟩
  have up : ∀ {x y : Int} {s s' : Mem}, AtB τ h x s → s' = m_upd s 3 h y → AtB τ h y s' := fun {x y s s'} a e => by
    refine ⟨⟨fun c c0 c3 c12 c13 c14 => by rw [e, m_upd_ne _ _ _ _ _ c3]; exact a.1.1 c c0 c3 c12 c13 c14, fun j hj => by rw [e, m_upd_ne _ _ _ _ _ (by omega)]; exact a.1.2 j hj⟩, fun k => ?_⟩
    rw [e, m_upd_at, a.2 k]
    by_cases w : k = h
    · rw [if_pos ⟨rfl, w⟩, if_pos w]
    · rw [if_neg (fun q => w q.2), if_neg w, if_neg w]
  -- the end, drawn to x
  have fin : ∀ {x : Int} {s : Mem}, AtB τ h x s → τ 3 h ≤ x → x ≤ 200 → q_hasJ (jB τ) (tB τ) h t x → (τ 3 h < x → ¬ q_hasJ (jB τ) (tB τ) h t (x - 1)) → Q (x - τ 3 h) s := fun {x s} a x0 x1 hx hno => by
    have ed : q_drw (jB τ) (tB τ) h t = x - τ 3 h := by
      unfold q_drw
      rw [th]
      refine q_srch_at _ _ _ (by omega) (by omega) (by rw [show τ 3 h + (x - τ 3 h) = x by omega]; exact hx) (fun i i0 i1 z => ?_)
      exact hno (by omega) (mono (by omega) (by omega) (by omega) z)
    have eT : tB s = q_drT (jB τ) (tB τ) h t := by
      unfold q_drT
      rw [ed, if_neg (by omega), th, a.t hh, show τ 3 h + (x - τ 3 h) = x by omega]
    rw [← ed]
    exact hQ s a.1 (ok.drawn a.1 (Or.inr ⟨x, h, hh, by omega, x1, a.t hh⟩)) eT
  have bad : ∀ {s : Mem}, AtB τ h (τ 3 h) s → ¬ q_hasJ (jB τ) (tB τ) h t 200 → Q (-1) s := fun {s} a hno => by
    have ed : q_drw (jB τ) (tB τ) h t = -1 := by
      unfold q_drw
      rw [th]
      exact q_srch_no _ _ (fun i i0 i1 z => hno (mono (by omega) (by omega) (by omega) z))
    have e3 : tB s = tB τ := by
      rw [a.t hh]
      funext k
      unfold q_set
      by_cases w : k = h
      · rw [if_pos w, w, th]
      · rw [if_neg w]
    have eT : tB s = q_drT (jB τ) (tB τ) h t := by
      unfold q_drT
      rw [ed, if_pos (by omega)]
      exact e3
    rw [← ed]
    exact hQ s a.1 (ok.drawn a.1 (Or.inl e3)) eT
  have bin : ∀ (m : Nat) (lo hi : Int) (s : Mem) (y : Int), AtB τ h y s → τ 3 h ≤ lo → lo < hi → hi ≤ 200 → (hi - lo).toNat ≤ m → ¬ q_hasJ (jB τ) (tB τ) h t lo → q_hasJ (jB τ) (tB τ) h t hi → x8_drawOf_L60 Q h t (τ 3 h) lo hi s := by
    intro m
    induction m with
    | zero => intro lo hi s y a l0 l1 l2 hm; omega
    | succ m ih =>
      intro lo hi s y a l0 l1 l2 hm nlo yhi
      apply x8_drawOf_s60
      refine ⟨by constructor <;> constructor <;> omega, fun q => ⟨by omega, fun s11 e11 => fin (up a e11) (by omega) l2 yhi (fun _ => by rw [show hi - 1 = lo by omega]; exact nlo)⟩, fun q => ⟨⟨by constructor <;> omega, by omega⟩, fun v12 e12 => ⟨by omega, fun s13 e13 => ?_⟩⟩⟩
      have em : v12 = (lo + hi) / 2 := by
        rw [e12, Int.tdiv_eq_ediv_of_nonneg (by omega)]
      refine B_has (up a e13) hJ (by omega) hh hb ht (fun z u au => ⟨by omega, fun c => absurd c (by omega), fun _ => ?_⟩) (fun z u au => ⟨by omega, fun _ => ?_, fun c => absurd rfl c⟩)
      · exact ih lo v12 u v12 au l0 (by omega) (by omega) (by omega) nlo z
      · exact ih v12 hi u v12 au (by omega) (by omega) l2 (by omega) z yhi
  refine ⟨by omega, B_has a0 hJ (by omega) hh hb ht (fun z u au => ⟨by omega, fun c => absurd c (by omega), fun _ => ?_⟩) (fun z u au => ⟨by omega, fun _ => ⟨by omega, fun s3 e3 => ⟨⟨by constructor <;> omega, by omega⟩, fun q => ⟨by omega, fun s4 e4 => ?_⟩, fun q => ?_⟩⟩, fun c => absurd rfl c⟩)⟩
  · have := fin au (Int.le_refl _) t1 z (fun q => absurd q (by omega))
    rw [Int.sub_self] at this
    exact this
  · exact bad (up (up au e3) e4) (by rw [← q]; exact z)
  · refine B_has (up au e3) hJ (by omega) hh hb ht (fun z2 u2 au2 => ⟨by omega, fun _ => ?_, fun c => absurd c (by omega)⟩) (fun z2 u2 au2 => ⟨by omega, fun c => absurd rfl c, fun _ => ⟨by omega, fun s7 e7 => bad (up au2 e7) z2⟩⟩)
    exact bin _ (τ 3 h) 200 u2 200 au2 (Int.le_refl _) (by omega) (by omega) (Nat.le_refl _) z z2
