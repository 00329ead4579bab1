def q_bst (S : Int → Prop) (p d : Int → Int) (b : Int) : Prop := (b = -1 ∧ ∀ x, S x → p x < 0) ∨ (0 ≤ b ∧ S b ∧ 0 ≤ p b ∧ ∀ x, S x → 0 ≤ p x → p b < p x ∨ (p b = p x ∧ (d b < d x ∨ (d b = d x ∧ b ≤ x))))
theorem q_bst_un {S : Int → Prop} {p d : Int → Int} {a b : Int} (ha : q_bst S p d a) (hb : q_bst S p d b) : a = b := by
  rcases ha with ⟨a1, a2⟩ | ⟨a1, a2, a3, a4⟩
  · rcases hb with ⟨b1, b2⟩ | ⟨b1, b2, b3, b4⟩
    · omega
    · exact absurd (a2 b b2) (by omega)
  · rcases hb with ⟨b1, b2⟩ | ⟨b1, b2, b3, b4⟩
    · exact absurd (b2 a a2) (by omega)
    · have h1 := a4 b b2 b3
      have h2 := b4 a a2 a3
      omega
theorem q_bst_keep {S S' : Int → Prop} {p d : Int → Int} {b y : Int} (h : q_bst S p d b) (hS : ∀ x, S' x ↔ S x ∨ x = y) (hlt : ∀ x, S x → x < y) (hy : p y < 0 ∨ (b ≠ -1 ∧ (p b < p y ∨ (p b = p y ∧ d b ≤ d y)))) : q_bst S' p d b := by
  rcases h with ⟨a1, a2⟩ | ⟨a1, a2, a3, a4⟩
  · refine Or.inl ⟨a1, fun x hx => ?_⟩
    rcases (hS x).mp hx with q | q
    · exact a2 x q
    · rw [q]
      omega
  · refine Or.inr ⟨a1, (hS b).mpr (Or.inl a2), a3, fun x hx h0 => ?_⟩
    rcases (hS x).mp hx with q | q
    · exact a4 x q h0
    · have := hlt b a2
      rw [q] at h0 ⊢
      omega
theorem q_bst_take {S S' : Int → Prop} {p d : Int → Int} {b y : Int} (h : q_bst S p d b) (hS : ∀ x, S' x ↔ S x ∨ x = y) (h0 : 0 ≤ y ∧ 0 ≤ p y) (hy : b = -1 ∨ p y < p b ∨ (p y = p b ∧ d y < d b)) : q_bst S' p d y := by
  refine Or.inr ⟨h0.1, (hS y).mpr (Or.inr rfl), h0.2, fun x hx hp => ?_⟩
  rcases (hS x).mp hx with q | q
  · rcases h with ⟨a1, a2⟩ | ⟨a1, a2, a3, a4⟩
    · exact absurd (a2 x q) (by omega)
    · have := a4 x q hp
      omega
  · rw [q]
    omega
theorem q_bst_congr {S S' : Int → Prop} {p d : Int → Int} {b : Int} (h : q_bst S p d b) (hS : ∀ x, S' x ↔ S x) : q_bst S' p d b := by
  rcases h with ⟨a1, a2⟩ | ⟨a1, a2, a3, a4⟩
  · exact Or.inl ⟨a1, fun x hx => a2 x ((hS x).mp hx)⟩
  · exact Or.inr ⟨a1, (hS b).mpr a2, a3, fun x hx => a4 x ((hS x).mp hx)⟩
theorem q_rnd_rg {j : JT} {row : Int → Int} {t : Int} : ∀ (m : Nat) (i : Int) (tu : Int → Int) (d : Int), (q_rnd j row t m i tu d).1 = -1 ∨ (i ≤ (q_rnd j row t m i tu d).1 ∧ (q_rnd j row t m i tu d).1 ≤ i + m)
  | 0, i, tu, d => by
    by_cases h : q_all j tu t
    · rw [q_rnd_yes h]
      exact Or.inr ⟨Int.le_refl _, by show i ≤ i + ((0 : Nat) : Int); omega⟩
    · rw [q_rnd_no0 h]
      exact Or.inl rfl
  | m + 1, i, tu, d => by
    by_cases h : q_all j tu t
    · rw [q_rnd_yes h]
      exact Or.inr ⟨Int.le_refl _, by show i ≤ i + ((m + 1 : Nat) : Int); omega⟩
    · rw [q_rnd_no h]
      split
      · exact Or.inl rfl
      · rcases q_rnd_rg (j := j) (row := row) (t := t) m (i + 1) (q_pass j row t j.1.toNat 0 tu 0).2 (d + (q_pass j row t j.1.toNat 0 tu 0).1) with q | q
        · exact Or.inl q
        · exact Or.inr (by omega)
/-- fewer rounds allowed: the same, or too few -/
theorem q_rnd_lim {j : JT} {row : Int → Int} {t : Int} : ∀ (m k : Nat) (i : Int) (tu : Int → Int) (d : Int), k ≤ m → 0 ≤ i → (0 ≤ (q_rnd j row t m i tu d).1 ∧ (q_rnd j row t m i tu d).1 ≤ i + k → q_rnd j row t k i tu d = q_rnd j row t m i tu d) ∧ ((q_rnd j row t m i tu d).1 < 0 ∨ i + k < (q_rnd j row t m i tu d).1 → (q_rnd j row t k i tu d).1 = -1)
  | m, k, i, tu, d, hk, hi => by
    by_cases h : q_all j tu t
    · rw [q_rnd_yes h, q_rnd_yes h]
      refine ⟨fun _ => rfl, fun q => ?_⟩
      have q : i < 0 ∨ i + k < i := q
      omega
    · cases k with
      | zero =>
        rw [q_rnd_no0 h]
        refine ⟨fun q => ?_, fun _ => rfl⟩
        exfalso
        cases m with
        | zero =>
          rw [q_rnd_no0 h] at q
          have : (0 : Int) ≤ -1 := q.1
          omega
        | succ m =>
          rw [q_rnd_no h] at q
          split at q
          · have : (0 : Int) ≤ -1 := q.1
            omega
          · rcases q_rnd_rg (j := j) (row := row) (t := t) m (i + 1) (q_pass j row t j.1.toNat 0 tu 0).2 (d + (q_pass j row t j.1.toNat 0 tu 0).1) with z | z <;> omega
      | succ k =>
        cases m with
        | zero => omega
        | succ m =>
          rw [q_rnd_no h, q_rnd_no h]
          by_cases w : (q_pass j row t j.1.toNat 0 tu 0).1 < 0
          · rw [if_pos w, if_pos w]
            exact ⟨fun _ => rfl, fun _ => rfl⟩
          · rw [if_neg w, if_neg w]
            have ih := q_rnd_lim (j := j) (row := row) (t := t) m k (i + 1) (q_pass j row t j.1.toNat 0 tu 0).2 (d + (q_pass j row t j.1.toNat 0 tu 0).1) (by omega) (by omega)
            rw [show i + 1 + (k : Int) = i + ((k + 1 : Nat) : Int) by omega] at ih
            exact ih
/-- the row that a number tells -/
def q_rw (n x : Int) : Int → Int := q_nrm n (fun k => q_dg x (n - 1 - k).toNat)
noncomputable def q_rp (j : JT) (tu : Int → Int) (t x : Int) : Int := (q_rnd j (q_rw j.1 x) t 20 0 tu 0).1
noncomputable def q_rd (j : JT) (tu : Int → Int) (t x : Int) : Int := (q_rnd j (q_rw j.1 x) t 20 0 tu 0).2.2
theorem q_rp_rg (j : JT) (tu : Int → Int) (t x : Int) : q_rp j tu t x = -1 ∨ (0 ≤ q_rp j tu t x ∧ q_rp j tu t x ≤ 20) := by
  rcases q_rnd_rg (j := j) (row := q_rw j.1 x) (t := t) 20 0 tu 0 with q | q
  · exact Or.inl q
  · exact Or.inr ⟨q.1, by have := q.2; unfold q_rp; omega⟩
theorem q_rw_in {n x : Int} (hn : 3 ≤ n ∧ n ≤ 6) (h : q_isRow n x) : ∀ k, q_in n k → q_in n (q_rw n x k) := fun k hk => by
  unfold q_rw
  rw [q_nrm_in hk]
  exact (q_isRow_inj hn h).1 k hk
theorem q_rd_bd {j : JT} {tu : Int → Int} {t x : Int} (hn : 3 ≤ j.1 ∧ j.1 ≤ 6) (ht : ∀ k, q_in j.1 k → 0 ≤ tu k ∧ tu k ≤ 200) (hx : q_isRow j.1 x) (hp : 0 ≤ q_rp j tu t x) : q_sum (q_rnd j (q_rw j.1 x) t 20 0 tu 0).2.1 j.1.toNat = q_sum tu j.1.toNat + q_rd j tu t x ∧ -1200 ≤ q_rd j tu t x ∧ q_rd j tu t x ≤ 1200 := by
  have b := q_rnd_bd (t := t) hn (q_rw_in hn hx) 20 0 tu 0 (by omega) ht
  have en : ((j.1.toNat : Nat) : Int) = j.1 := by omega
  have s1 := q_sum_tu (N := j.1.toNat) (by omega) (by rw [en]; exact ht)
  have s2 := q_sum_tu (N := j.1.toNat) (by omega) (by rw [en]; exact b.1)
  have e1 : q_rp j tu t x = (q_rnd j (q_rw j.1 x) t 20 0 tu 0).1 := rfl
  have e2 : q_rd j tu t x = (q_rnd j (q_rw j.1 x) t 20 0 tu 0).2.2 := rfl
  rcases b.2 with q | q
  · omega
  · omega
def InvA (σ : Mem) (t : Int) (done : List (List Nat)) (s : Mem) : Prop := (∀ c : Nat, c ≠ 4 → c ≠ 13 → c ≠ 20 → c ≠ 21 → (c < 14 ∨ 20 ≤ c) → s c = σ c) ∧ (∀ k, q_in 6 k → s 20 k = σ 4 k) ∧ (∀ k, q_in 6 k → s 4 k = σ 4 k) ∧ ∃ b, q_bst (fun x => ∃ M ∈ done, q_nmL M = x) (q_rp (jA σ 5) (tA σ) t) (q_rd (jA σ 5) (tA σ) t) b ∧ (b = -1 → s 13 0 = -1) ∧ (b ≠ -1 → s 13 0 = q_rp (jA σ 5) (tA σ) t b ∧ s 13 1 = q_rd (jA σ 5) (tA σ) t b ∧ s 13 2 = b)
theorem q_its_s (m : Nat) (L : List Nat) : q_its (m + 1) L = L :: match q_nxo L with
    | none => []
    | some M => q_its m M := rfl
theorem L_findBest {σ : Mem} (ok : OkA σ) (hN : RelN σ) (h6 : σ 1 0 ≠ 6) {t : Int} (ht : 1 ≤ t ∧ t ≤ 900) {Q : Int → Mem → Prop} (hQ : ∀ s : Mem, (∀ c : Nat, c ≠ 4 → c ≠ 13 → c ≠ 20 → c ≠ 21 → (c < 14 ∨ 20 ≤ c) → s c = σ c) → (∀ k, q_in 6 k → s 4 k = σ 4 k) → (∃ b, q_bst (q_isRow (σ 1 0)) (q_rp (jA σ 5) (tA σ) t) (q_rd (jA σ 5) (tA σ) t) b ∧ (b = -1 → s 13 0 = -1) ∧ (b ≠ -1 → s 13 0 = q_rp (jA σ 5) (tA σ) t b ∧ s 13 1 = q_rd (jA σ 5) (tA σ) t b ∧ s 13 2 = b)) → Q 0 s) : x1_findBestRow t σ Q := by
  apply x1_findBestRow_i
  have hJ := ok.1
  have hn := hJ.n
  obtain ⟨rok, rlen, rup, rall⟩ := q_rows_ok (n := σ 1 0) (by omega)
  have e1 : ((σ 1 0).toNat : Int) = σ 1 0 := by omega
  have stu := q_sum_tu (N := (σ 1 0).toNat) (by omega) (by rw [e1]; exact ok.tu)
  -- the sum of turns
  have sumt : ∀ s : Mem, s 1 0 = σ 1 0 → q_sum (s 4) (s 1 0).toNat = q_sum (tA s) (σ 1 0).toNat := fun s e => by
    rw [e]
    refine q_sum_congr _ (fun k hk => ?_)
    unfold tA
    rw [e]
    exact (q_nrm_in (by rw [e1] at hk; exact hk)).symm
  have fin : ∀ s : Mem, InvA σ t (q_rows (σ 1 0).toNat) s → Q 0 s := fun s ⟨i1, _, i3, b, i4, i5⟩ => by
    refine hQ s i1 i3 ⟨b, q_bst_congr i4 (fun x => ⟨fun hx => ?_, fun hx => ?_⟩), i5⟩
    · obtain ⟨M, hM, eM⟩ := rall x hx
      exact ⟨M, hM, eM⟩
    · obtain ⟨M, hM, eM⟩ := hx
      rw [← eM]
      exact (rok M hM).2.2
  have key : ∀ (m : Nat) (L : List Nat) (done : List (List Nat)) (st : Int) (s : Mem), m + done.length = 121 → st = done.length → done ++ q_its m L = q_rows (σ 1 0).toNat → InvA σ t done s → AtL s L → x1_findBestRow_L40 Q t (q_sum (tA σ) (σ 1 0).toNat) 1 st s := by
    intro m
    induction m with
    | zero =>
      intro L done st s hm hst he
      exfalso
      have : done.length = (q_rows (σ 1 0).toNat).length := by
        rw [← he]
        simp [q_its]
      omega
    | succ m ih =>
      intro L done st s hm hst he inv hat
      rw [q_its_s] at he
      have hLm : L ∈ q_rows (σ 1 0).toNat := by
        rw [← he]
        simp
      have hdm : ∀ M ∈ done, M ∈ q_rows (σ 1 0).toNat := fun M hM => by
        rw [← he]
        simp [hM]
      obtain ⟨l1, l2, l3⟩ := rok L hLm
      have up : ∀ M ∈ done, q_nmL M < q_nmL L := fun M hM => by
        rw [← he, List.map_append, List.pairwise_append] at rup
        exact rup.2.2 _ (List.mem_map_of_mem hM) _ (by simp)
      have dl : done.length ≤ 120 := by
        have h1 : (done ++ L :: match q_nxo L with
          | none => []
          | some M => q_its m M).length = (q_rows (σ 1 0).toNat).length := by rw [he]
        rw [List.length_append] at h1
        omega
      -- on to the next order
      have on : ∀ v : Mem, InvA σ t (done ++ [L]) v → AtL v L → x1_findBestRow_L167 Q t (q_sum (tA σ) (σ 1 0).toNat) st v := fun v iv av => by
        have v1 : v 1 0 = σ 1 0 := by rw [iv.1 1 (by omega) (by omega) (by omega) (by omega) (by omega)]
        apply x1_findBestRow_s167
        unfold x1_findBestRow_b167
        rw [v1]
        refine L_next (L := L) (by omega) hn av (fun k hk => by have := (l2 k (by omega)).1; omega) (fun e => ?_) (fun M e t' ft hl at' => ?_)
        · rw [e] at he
          have he : done ++ [L] = q_rows (σ 1 0).toNat := he
          rw [he] at iv
          apply x1_findBestRow_s40
          exact ⟨by constructor <;> constructor <;> omega, fun _ => fin v iv, fun _ => ⟨by omega, fun _ => fin v iv, fun c => absurd rfl c⟩⟩
        · rw [e] at he
          have he : done ++ (L :: q_its m M) = q_rows (σ 1 0).toNat := he
          refine ih M (done ++ [L]) (st + 1) t' (by rw [List.length_append]; show m + (done.length + 1) = 121; omega) (by rw [List.length_append]; show st + 1 = ((done.length + 1 : Nat) : Int); omega) (by rw [List.append_assoc]; exact he) ?_ at'
          obtain ⟨a1, a2, a3, b, a4, a5⟩ := iv
          exact ⟨fun c c1 c2 c3 c4 c5 => by rw [ft c c4, a1 c c1 c2 c3 c4 c5], by rw [ft 20 (by omega)]; exact a2, by rw [ft 4 (by omega)]; exact a3, b, a4, by rw [ft 13 (by omega)]; exact a5⟩
      obtain ⟨i1, i2, i3, b, i4, i5, i6⟩ := inv
      have s1 : s 1 = σ 1 := i1 1 (by omega) (by omega) (by omega) (by omega) (by omega)
      obtain ⟨oks, ts⟩ := ok.back (s := s) (fun c c1 c2 c3 => i1 c c3 (by omega) (by omega) (by omega) (by omega)) (fun k hk => i3 k ⟨hk.1, by have := hk.2; omega⟩)
      have js : jA s 5 = jA σ 5 := by
        unfold jA
        rw [c_br_congr s1, s1, i1 2 (by omega) (by omega) (by omega) (by omega) (by omega), i1 3 (by omega) (by omega) (by omega) (by omega) (by omega), i1 5 (by omega) (by omega) (by omega) (by omega) (by omega)]
      have s21 : ∀ k, q_in (σ 1 0) k → s 21 k = q_dg (q_nmL L) (σ 1 0 - 1 - k).toNat := fun k hk => by
        have k1 := hk.1
        have k2 := hk.2
        have a := hat k.toNat (by omega)
        rw [show ((k.toNat : Nat) : Int) = k by omega] at a
        rw [a, ← (l2 k.toNat (by omega)).2]
        congr 1
        omega
      have erow : q_nrm (s 1 0) (s 21) = q_rw (σ 1 0) (q_nmL L) := by
        rw [s1]
        exact q_nrm_congr s21
      have rowin : ∀ k, q_in (s 1 0) k → q_in (s 1 0) (s 21 k) := fun k hk => by
        rw [s1] at hk ⊢
        have := q_rw_in hn l3 k hk
        unfold q_rw at this
        rw [q_nrm_in hk] at this
        rw [s21 k hk]
        exact this
      have jn : (jA σ 5).1 = σ 1 0 := rfl
      have pb := q_rp_rg (jA σ 5) (tA σ) t b
      have py := q_rp_rg (jA σ 5) (tA σ) t (q_nmL L)
      have bneg : b = -1 ∨ 0 ≤ b := by
        rcases i4 with q | q
        · exact Or.inl q.1
        · exact Or.inr q.1
      have pb2 : b ≠ -1 → 0 ≤ q_rp (jA σ 5) (tA σ) t b ∧ q_isRow (σ 1 0) b := fun hb => by
        rcases i4 with q | q
        · exact absurd q.1 hb
        · refine ⟨q.2.2.1, ?_⟩
          obtain ⟨M, hM, eM⟩ := q.2.1
          rw [← eM]
          exact (rok M (hdm M hM)).2.2
      have db : b ≠ -1 → -1200 ≤ q_rd (jA σ 5) (tA σ) t b ∧ q_rd (jA σ 5) (tA σ) t b ≤ 1200 := fun hb => (q_rd_bd (j := jA σ 5) hn ok.tu (pb2 hb).2 (pb2 hb).1).2
      have dy : 0 ≤ q_rp (jA σ 5) (tA σ) t (q_nmL L) → _ := fun h => q_rd_bd (j := jA σ 5) (t := t) hn ok.tu l3 h
      have hS : ∀ x, (∃ M ∈ done ++ [L], q_nmL M = x) ↔ (∃ M ∈ done, q_nmL M = x) ∨ x = q_nmL L := fun x => by
        constructor
        · intro ⟨M, hM, eM⟩
          rcases List.mem_append.mp hM with q | q
          · exact Or.inl ⟨M, q, eM⟩
          · exact Or.inr (by rw [← eM, List.mem_singleton.mp q])
        · intro h
          rcases h with ⟨M, hM, eM⟩ | h
          · exact ⟨M, List.mem_append_left _ hM, eM⟩
          · exact ⟨L, by simp, h.symm⟩
      have hlt : ∀ x, (∃ M ∈ done, q_nmL M = x) → x < q_nmL L := fun x ⟨M, hM, eM⟩ => by
        rw [← eM]
        exact up M hM
      -- one order tried
      have go : ∀ lim : Int, (b = -1 → lim = 20) → (b ≠ -1 → lim = q_rp (jA σ 5) (tA σ) t b) → x1_findBestRow_L77 Q t (q_sum (tA σ) (σ 1 0).toNat) st lim t s := fun lim h1 h2 => by
        have lb : 0 ≤ lim ∧ lim ≤ 20 := by
          by_cases w : b = -1
          · have := h1 w
            omega
          · have := h2 w
            have := (pb2 w).1
            omega
        apply x1_findBestRow_s77
        refine L_goRounds oks rfl (by omega) (Or.inr (by omega)) ht lb rowin (fun u fu oku eu => ?_)
        rw [js, erow, ts] at eu ⊢
        have u1 : u 1 = σ 1 := by rw [fu 1 (by omega) (by omega), s1]
        refine L_sumOf rfl (by rw [u1]; exact hn) (L_putBack (fun v fv hv => ?_))
        rw [sumt u (by rw [u1]), eu]
        have v13 : v 13 = s 13 := by rw [fv 13 (by omega), fu 13 (by omega) (by omega)]
        have v21 : v 21 = s 21 := by rw [fv 21 (by omega), fu 21 (by omega) (by omega)]
        have v4 : ∀ k, q_in 6 k → v 4 k = σ 4 k := fun k hk => by rw [hv k hk, fu 20 (by omega) (by omega), i2 k hk]
        have v20 : ∀ k, q_in 6 k → v 20 k = σ 4 k := fun k hk => by rw [fv 20 (by omega), fu 20 (by omega) (by omega), i2 k hk]
        have vf : ∀ c : Nat, c ≠ 4 → c ≠ 13 → c ≠ 20 → c ≠ 21 → (c < 14 ∨ 20 ≤ c) → v c = σ c := fun c c1 c2 c3 c4 c5 => by rw [fv c c1, fu c c1 c5, i1 c c1 c2 c3 c4 c5]
        have vat : AtL v L := fun k hk => by rw [v21]; exact hat k hk
        have lm := q_rnd_lim (j := jA σ 5) (row := q_rw (σ 1 0) (q_nmL L)) (t := t) 20 lim.toNat 0 (tA σ) 0 (by omega) (by omega)
        have ep : q_rp (jA σ 5) (tA σ) t (q_nmL L) = (q_rnd (jA σ 5) (q_rw (σ 1 0) (q_nmL L)) t 20 0 (tA σ) 0).1 := rfl
        rw [← ep, show 0 + (lim.toNat : Int) = lim by omega] at lm
        have keep : (q_rp (jA σ 5) (tA σ) t (q_nmL L) < 0 ∨ (b ≠ -1 ∧ (q_rp (jA σ 5) (tA σ) t b < q_rp (jA σ 5) (tA σ) t (q_nmL L) ∨ (q_rp (jA σ 5) (tA σ) t b = q_rp (jA σ 5) (tA σ) t (q_nmL L) ∧ q_rd (jA σ 5) (tA σ) t b ≤ q_rd (jA σ 5) (tA σ) t (q_nmL L))))) → x1_findBestRow_L167 Q t (q_sum (tA σ) (σ 1 0).toNat) st v := fun h => on v ⟨vf, v20, v4, b, q_bst_keep i4 hS hlt h, by rw [v13]; exact i5, by rw [v13]; exact i6⟩ vat
        have take : 0 ≤ q_rp (jA σ 5) (tA σ) t (q_nmL L) → (b = -1 ∨ q_rp (jA σ 5) (tA σ) t (q_nmL L) < q_rp (jA σ 5) (tA σ) t b ∨ (q_rp (jA σ 5) (tA σ) t (q_nmL L) = q_rp (jA σ 5) (tA σ) t b ∧ q_rd (jA σ 5) (tA σ) t (q_nmL L) < q_rd (jA σ 5) (tA σ) t b)) → x1_findBestRow_L140 Q t (q_sum (tA σ) (σ 1 0).toNat) st (q_rp (jA σ 5) (tA σ) t (q_nmL L)) (q_rd (jA σ 5) (tA σ) t (q_nmL L)) v := fun h0 h => by
          apply x1_findBestRow_s140
          intro w1 ew1 w2 ew2
          have w2f : ∀ c : Nat, c ≠ 13 → w2 c = v c := fun c hc => by rw [ew2, m_upd_ne _ _ _ _ _ hc, ew1, m_upd_ne _ _ _ _ _ hc]
          have w21 : w2 1 0 = σ 1 0 := by rw [w2f 1 (by omega), fv 1 (by omega), u1]
          rw [w21]
          refine L_figuresOf hn (fun w3 ew3 => ?_)
          have w3f : ∀ c : Nat, c ≠ 13 → w3 c = v c := fun c hc => by rw [ew3, m_upd_ne _ _ _ _ _ hc, w2f c hc]
          have en : q_nmb (w2 21) (σ 1 0).toNat = q_nmL L := by
            unfold q_nmL
            rw [l1]
            refine q_nmb_congr _ (fun k hk => ?_)
            have k1 := hk.1
            have k2 := hk.2
            have a := hat k.toNat (by omega)
            rw [show ((k.toNat : Nat) : Int) = k by omega] at a
            rw [w2f 21 (by omega), v21, a]
            rfl
          rw [en] at ew3
          refine on w3 ⟨fun c c1 c2 c3 c4 c5 => by rw [w3f c c2, vf c c1 c2 c3 c4 c5], by rw [w3f 20 (by omega)]; exact v20, by rw [w3f 4 (by omega)]; exact v4, q_nmL L, q_bst_take i4 hS ⟨l3.1, h0⟩ h, fun z => absurd l3.1 (by omega), fun _ => ?_⟩ (fun k hk => by rw [w3f 21 (by omega)]; exact vat k hk)
          rw [ew3, ew2, ew1]
          simp only [m_upd_at]
          refine ⟨?_, ?_, ?_⟩ <;> simp
        by_cases small : 0 ≤ q_rp (jA σ 5) (tA σ) t (q_nmL L) ∧ q_rp (jA σ 5) (tA σ) t (q_nmL L) ≤ lim
        · have er := lm.1 small
          have sy := dy small.1
          rw [jn] at sy
          rw [er, ← ep, sy.1, v13, show q_sum (tA σ) (σ 1 0).toNat + q_rd (jA σ 5) (tA σ) t (q_nmL L) - q_sum (tA σ) (σ 1 0).toNat = q_rd (jA σ 5) (tA σ) t (q_nmL L) by omega]
          by_cases w : b = -1
          · rw [i5 w]
            exact ⟨by constructor <;> constructor <;> omega, fun c => absurd c (by omega), fun _ => ⟨by omega, fun _ => take small.1 (Or.inl w), fun c => absurd rfl c⟩⟩
          · obtain ⟨g1, g2, g3⟩ := i6 w
            have pbw := pb2 w
            have dbw := db w
            rw [g1, g2]
            refine ⟨by constructor <;> constructor <;> omega, fun c => absurd c (by omega), fun _ => ⟨by constructor <;> constructor <;> omega, fun c => absurd c (by omega), fun _ => ⟨by constructor <;> constructor <;> omega, fun q => take small.1 (Or.inr (Or.inl q)), fun q => ⟨by constructor <;> constructor <;> omega, fun q2 => keep (Or.inr ⟨w, Or.inl (by omega)⟩), fun q2 => ⟨by constructor <;> constructor <;> omega, fun q3 => keep (Or.inr ⟨w, Or.inr ⟨q2.symm, q3⟩⟩), fun q3 => take small.1 (Or.inr (Or.inr ⟨q2, q3⟩))⟩⟩⟩⟩⟩
        · have er := lm.2 (by omega)
          rw [er]
          refine ⟨by omega, fun _ => keep ?_, fun c => absurd rfl c⟩
          by_cases z : q_rp (jA σ 5) (tA σ) t (q_nmL L) < 0
          · exact Or.inl z
          · refine Or.inr ⟨fun w => ?_, Or.inl ?_⟩
            · have := h1 w
              omega
            · by_cases w : b = -1
              · have := h1 w
                omega
              · have := h2 w
                omega
      have i13 : InI (s 13 0) := by
        by_cases w : b = -1
        · rw [i5 w]
          constructor <;> omega
        · rw [(i6 w).1]
          constructor <;> omega
      apply x1_findBestRow_s40
      refine ⟨by constructor <;> constructor <;> omega, fun c => absurd c (by omega), fun _ => ⟨by omega, fun c => absurd c (by omega), fun _ => ⟨⟨i13, by omega⟩, fun c => go _ (fun w => absurd (i5 w) c) (fun w => (i6 w).1), fun c => go 20 (fun _ => rfl) (fun w => ?_)⟩⟩⟩
      have := (i6 w).1
      have := (pb2 w).1
      omega
  refine L_keepTurns (fun s1 f1 k1 => ?_)
  have s11 : s1 1 = σ 1 := f1 1 (by omega)
  refine L_sumOf rfl (by rw [s11]; exact hn) ⟨by omega, fun s4 e4 s5 e5 => ?_⟩
  have f5 : ∀ c : Nat, c ≠ 20 → c ≠ 21 → c ≠ 13 → s5 c = σ c := fun c c1 c2 c3 => by rw [e5, m_upd_ne _ _ _ _ _ c3, e4, m_cpy_ne _ _ _ _ _ _ _ c2, f1 c c1]
  have h21 : ∀ k, q_in 6 k → s5 21 k = k := fun k hk => by
    have h1 := hk.1
    have h2 := hk.2
    rw [e5, m_upd_ne _ _ _ _ _ (by omega), e4, m_cpy_at, if_pos ⟨rfl, by omega, by omega⟩, show 0 + (k - 0) = k by omega, f1 22 (by omega)]
    exact hN k h1 h2
  rw [sumt s1 (by rw [s11])]
  have ts1 : tA s1 = tA σ := by
    unfold tA
    rw [s11, f1 4 (by omega)]
  rw [ts1]
  refine key 121 (List.range (σ 1 0).toNat) [] 0 s5 rfl rfl rfl ⟨fun c _ c2 c3 c4 _ => f5 c c3 c4 c2, fun k hk => ?_, fun k hk => by rw [f5 4 (by omega) (by omega) (by omega)], -1, Or.inl ⟨rfl, fun x ⟨M, hM, _⟩ => absurd hM (by simp)⟩, fun _ => ?_, fun c => absurd rfl c⟩ (fun k hk => ?_)
  · rw [e5, m_upd_ne _ _ _ _ _ (by omega), e4, m_cpy_ne _ _ _ _ _ _ _ (by omega), k1 k hk]
  · rw [e5, m_upd_at]
    simp
  · rw [List.length_range] at hk
    rw [h21 k ⟨by omega, by omega⟩]
    unfold q_at
    simp [List.getD_eq_getElem?_getD, List.getElem?_range, hk]
