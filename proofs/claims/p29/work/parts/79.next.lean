theorem q_at_sw {L : List Nat} {a b : Nat} (ha : a < L.length) (hb : b < L.length) (k : Nat) : q_at (q_sw L a b) k = if k = b then q_at L a else if k = a then q_at L b else q_at L k := by
  unfold q_sw q_at
  simp only [List.getD_eq_getElem?_getD, List.getElem?_set, List.length_set]
  by_cases w : k = b
  · subst w
    simp [hb]
  · rw [if_neg w, if_neg (fun z => w z.symm)]
    by_cases v : k = a
    · subst v
      simp [ha]
    · rw [if_neg v, if_neg (fun z => v z.symm)]
theorem q_sw_len (L : List Nat) (a b : Nat) : (q_sw L a b).length = L.length := by
  unfold q_sw
  simp
def AtL (s : Mem) (L : List Nat) : Prop := ∀ k : Nat, k < L.length → s 21 (k : Int) = (q_at L k : Int)
theorem L_swap {s : Mem} {L : List Nat} {a b : Nat} (hl : L.length ≤ 6) (ha : a < L.length) (hb : b < L.length) (hat : AtL s L) {Q : Int → Mem → Prop} (h : ∀ t : Mem, (∀ c : Nat, c ≠ 21 → t c = s c) → AtL t (q_sw L a b) → Q 0 t) : x1_swap 21 a b s Q := by
  refine ⟨rfl, by omega, rfl, by omega, rfl, by omega, fun s1 e1 => ⟨rfl, by omega, fun s2 e2 => h s2 (fun c hc => by rw [e2, m_upd_ne _ _ _ _ _ hc, e1, m_upd_ne _ _ _ _ _ hc]) (fun k hk => ?_)⟩⟩
  rw [q_sw_len] at hk
  rw [q_at_sw ha hb, e2, m_upd_at, e1, m_upd_at]
  by_cases w : k = b
  · rw [if_pos ⟨rfl, by omega⟩, if_pos w, hat a ha]
  · rw [if_neg (fun z => w (by have := z.2; omega)), if_neg w]
    by_cases v : k = a
    · rw [if_pos ⟨rfl, by omega⟩, if_pos v, hat b hb]
    · rw [if_neg (fun z => v (by have := z.2; omega)), if_neg v, hat k hk]
theorem L_next {s : Mem} {L : List Nat} {n : Int} (hn : (L.length : Int) = n) (h3 : 3 ≤ n ∧ n ≤ 6) (hat : AtL s L) (hb : ∀ k, k < L.length → q_at L k < 10) {Q : Int → Mem → Prop} (h0 : q_nxo L = none → Q 0 s) (h1 : ∀ M, q_nxo L = some M → ∀ t : Mem, (∀ c : Nat, c ≠ 21 → t c = s c) → M.length = L.length → AtL t M → Q 1 t) : x1_toNextOrder 21 n s Q := by
  apply x1_toNextOrder_i
  have rev : ∀ (m a b : Nat) (M : List Nat) (t : Mem), M.length = L.length → b < L.length → a ≤ L.length → b - a ≤ m → AtL t M → (∀ c : Nat, c ≠ 21 → t c = s c) → q_nxo L = some (q_nxr m a b M) → x1_toNextOrder_L71 Q 21 a b t := by
    intro m
    induction m with
    | zero =>
      intro a b M t hl hbl hal hm ht f e
      apply x1_toNextOrder_s71
      refine ⟨by constructor <;> constructor <;> omega, fun _ => ⟨by omega, h1 M e t f hl ht⟩, fun c => absurd c (by omega)⟩
    | succ m ih =>
      intro a b M t hl hbl hal hm ht f e
      apply x1_toNextOrder_s71
      unfold q_nxr at e
      refine ⟨by constructor <;> constructor <;> omega, fun c => ⟨by omega, ?_⟩, fun c => L_swap (by omega) (by omega) (by omega) ht (fun u fu hu => ?_)⟩
      · rw [if_neg (by omega)] at e
        exact h1 M e t f hl ht
      · rw [if_pos (by omega)] at e
        have := ih (a + 1) (b - 1) (q_sw M a b) u (by rw [q_sw_len]; exact hl) (by omega) (by omega) (by omega) hu (fun c hc => (fu c hc).trans (f c hc)) e
        rw [show (((a + 1 : Nat)) : Int) = (a : Int) + 1 by omega, show (((b - 1 : Nat)) : Int) = (b : Int) + -1 by omega] at this
        exact this
  have down : ∀ (j i : Nat), j < L.length → i < L.length → q_nxi L (L.length - 1) = i + 1 → q_nxj L i (L.length - 1) = q_nxj L i j → i < L.length - 1 → x1_toNextOrder_L35 Q 21 n i j s := by
    intro j
    induction j with
    | zero =>
      intro i hj hi ei e hi2
      apply x1_toNextOrder_s35
      unfold x1_toNextOrder_b35
      refine ⟨by constructor <;> constructor <;> omega, fun _ => ?_, fun c => absurd c (by omega)⟩
      apply x1_toNextOrder_s55
      refine L_swap (by omega) hi hj hat (fun u fu hu => ?_)
      have := rev L.length (i + 1) (L.length - 1) (q_sw L i 0) u (q_sw_len L i 0) (by omega) (by omega) (by omega) hu fu (by
        unfold q_nxo
        rw [ei]
        show some _ = some _
        rw [e]
        rfl)
      rw [show (((i + 1 : Nat)) : Int) = (i : Int) + 1 by omega, show (((L.length - 1 : Nat)) : Int) = n - 1 by omega] at this
      exact this
    | succ j ih =>
      intro i hj hi ei e hi2
      apply x1_toNextOrder_s35
      have fin : q_nxj L i (L.length - 1) = j + 1 → x1_toNextOrder_L55 Q 21 n i ((j + 1 : Nat) : Int) s := fun e2 => by
        apply x1_toNextOrder_s55
        refine L_swap (by omega) hi hj hat (fun u fu hu => ?_)
        have := rev L.length (i + 1) (L.length - 1) (q_sw L i (j + 1)) u (q_sw_len L i _) (by omega) (by omega) (by omega) hu fu (by
          unfold q_nxo
          rw [ei]
          show some _ = some _
          rw [e2])
        rw [show (((i + 1 : Nat)) : Int) = (i : Int) + 1 by omega, show (((L.length - 1 : Nat)) : Int) = n - 1 by omega] at this
        exact this
      have bi := hb i hi
      have bj := hb (j + 1) hj
      have ai := hat i hi
      have aj := hat (j + 1) hj
      unfold x1_toNextOrder_b35
      rw [ai, aj]
      have ej : q_nxj L i (j + 1) = if j + 1 ≤ i then j + 1 else if q_at L i ≤ q_at L (j + 1) then j + 1 else q_nxj L i j := rfl
      rw [ej] at e
      refine ⟨by constructor <;> constructor <;> omega, fun c => fin ?_, fun c => ⟨rfl, by omega, rfl, by omega, by constructor <;> constructor <;> omega, fun c2 => fin ?_, fun c2 => ?_⟩⟩
      · rw [e, if_pos (by omega)]
      · rw [e, if_neg (by omega), if_pos (by omega)]
      · rw [if_neg (by omega), if_neg (by omega)] at e
        have := ih i (by omega) hi ei e hi2
        rw [show ((j : Nat) : Int) = ((j + 1 : Nat) : Int) + -1 by omega] at this
        exact this
  have up : ∀ (i : Nat), i < L.length → q_nxi L (L.length - 1) = q_nxi L i → x1_toNextOrder_L4 Q 21 n ((i : Int) - 1) s := by
    intro i
    induction i with
    | zero =>
      intro hi e
      apply x1_toNextOrder_s4
      refine ⟨by constructor <;> omega, fun _ => ⟨by constructor <;> omega, fun c => absurd c (by omega), fun _ => ⟨by omega, h0 ?_⟩⟩, fun c => absurd c (by omega)⟩
      unfold q_nxo
      rw [e]
      rfl
    | succ i ih =>
      intro hi e
      apply x1_toNextOrder_s4
      have bi := hb i (by omega)
      have bj := hb (i + 1) hi
      have ai := hat i (by omega)
      have aj := hat (i + 1) hi
      unfold x1_toNextOrder_b4
      rw [show ((i + 1 : Nat) : Int) - 1 = (i : Int) by omega, show (i : Int) + 1 = ((i + 1 : Nat) : Int) by omega, ai, aj]
      have ej : q_nxi L (i + 1) = if q_at L i ≤ q_at L (i + 1) then i + 1 else q_nxi L i := rfl
      rw [ej] at e
      refine ⟨by constructor <;> omega, fun c => absurd c (by omega), fun c => ⟨rfl, by omega, rfl, by omega, by constructor <;> constructor <;> omega, fun c2 => ⟨by constructor <;> omega, fun _ => ?_, fun c => absurd c (by omega)⟩, fun c2 => ?_⟩⟩
      · rw [if_pos (by omega)] at e
        have := down (L.length - 1) i (by omega) (by omega) e rfl (by omega)
        rw [show (((L.length - 1 : Nat)) : Int) = n - 1 by omega] at this
        exact this
      · rw [if_neg (by omega)] at e
        have := ih (by omega) e
        rw [show (i : Int) - 1 = (i : Int) + -1 by omega] at this
        exact this
  have := up (L.length - 1) (by omega) rfl
  rw [show (((L.length - 1 : Nat)) : Int) - 1 = n - 2 by omega] at this
  exact this
theorem q_nmb_congr {f g : Int → Int} : ∀ N : Nat, (∀ k, q_in N k → f k = g k) → q_nmb f N = q_nmb g N
  | 0, _ => rfl
  | N + 1, h => by
    show 10 * q_nmb f N + f N = 10 * q_nmb g N + g N
    rw [q_nmb_congr N (fun k hk => h k ⟨hk.1, by have := hk.2; omega⟩), h N ⟨by omega, by omega⟩]
theorem L_figuresOf {s : Mem} {n : Int} (h3 : 3 ≤ n ∧ n ≤ 6) {Q : Int → Mem → Prop} (h : Q (q_nmb (s 21) n.toNat) s) : x1_figuresOf 21 n s Q := by
  apply x1_figuresOf_i
  have key : ∀ (m : Nat) (k : Int), 0 ≤ k → k ≤ n → (n - k).toNat = m → x1_figuresOf_L4 Q 21 n (q_nmb (s 21) k.toNat) k s := by
    intro m
    induction m with
    | zero =>
      intro k h0 h1 hm
      apply x1_figuresOf_s4
      obtain rfl : k = n := by omega
      exact ⟨by constructor <;> constructor <;> omega, fun _ => h, fun c => absurd c (by omega)⟩
    | succ m ih =>
      intro k h0 h1 hm
      have nxt := ih (k + 1) (by omega) (by omega) (by omega)
      rw [show (k + 1).toNat = k.toNat + 1 by omega, q_nmb, show ((k.toNat : Nat) : Int) = k by omega] at nxt
      apply x1_figuresOf_s4
      refine ⟨by constructor <;> constructor <;> omega, fun c => absurd c (by omega), fun _ => ⟨rfl, by omega, fun v1 e1 => ?_⟩⟩
      rw [e1]
      exact nxt
  exact key _ 0 (by omega) (by omega) rfl
