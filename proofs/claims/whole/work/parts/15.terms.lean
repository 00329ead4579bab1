/-! ===== least terms, and which fraction is less ===== -/
/-- Euclid's steps -/
def q_gcd (a b : Int) : Int := (Nat.gcd a.toNat b.toNat : Nat)
theorem q_gcd_0 {a : Int} (ha : 0 ≤ a) : q_gcd a 0 = a := by
  unfold q_gcd
  rw [show (0 : Int).toNat = 0 from rfl, Nat.gcd_zero_right]
  omega
theorem q_gcd_step {a b : Int} (ha : 0 ≤ a) (hb : 0 < b) : q_gcd b (a.tmod b) = q_gcd a b := by
  unfold q_gcd
  rw [Int.tmod_eq_emod_of_nonneg ha]
  have e : (a % b).toNat = a.toNat % b.toNat := by
    rw [Int.toNat_emod ha (by omega)]
  rw [e, Nat.gcd_comm b.toNat, ← Nat.gcd_rec, Nat.gcd_comm]
theorem q_gcd_pos {a b : Int} (hb : 0 < b) : 0 < q_gcd a b := by
  unfold q_gcd
  have := Nat.gcd_pos_of_pos_right a.toNat (show 0 < b.toNat by omega)
  omega
theorem q_tmod_lt {a b : Int} (ha : 0 ≤ a) (hb : 0 < b) : 0 ≤ a.tmod b ∧ a.tmod b < b := by
  rw [Int.tmod_eq_emod_of_nonneg ha]
  exact ⟨Int.emod_nonneg _ (by omega), Int.emod_lt_of_pos _ hb⟩
/-- two of Euclid's steps halve the lower number -/
theorem q_tmod_half {b r : Int} (hb : 0 < b) (hr : 0 < r) (hlt : r < b) : 2 * b.tmod r < b := by
  rw [Int.tmod_eq_emod_of_nonneg (by omega)]
  have h1 := Int.emod_lt_of_pos b hr
  have h2 := Int.emod_add_mul_ediv b r
  have h3 : 1 ≤ b / r := by
    rw [Int.le_ediv_iff_mul_le hr]
    omega
  have h4 := Int.mul_le_mul_of_nonneg_left h3 (Int.le_of_lt hr)
  omega
/-- like fractions have like least terms -/
theorem q_least {U D V E : Nat} (hD : 0 < D) (hE : 0 < E) (h : U * E = V * D) : U / Nat.gcd U D = V / Nat.gcd V E ∧ D / Nat.gcd U D = E / Nat.gcd V E := by
  have g1 : 0 < Nat.gcd U D := Nat.gcd_pos_of_pos_right _ hD
  have g2 : 0 < Nat.gcd V E := Nat.gcd_pos_of_pos_right _ hE
  obtain ⟨a, ha⟩ := Nat.gcd_dvd_left U D
  obtain ⟨b, hb⟩ := Nat.gcd_dvd_right U D
  obtain ⟨c, hc⟩ := Nat.gcd_dvd_left V E
  obtain ⟨d, hd⟩ := Nat.gcd_dvd_right V E
  have e1 : U / Nat.gcd U D = a := by
    conv => lhs; lhs; rw [ha]
    exact Nat.mul_div_cancel_left a g1
  have e2 : D / Nat.gcd U D = b := by
    conv => lhs; lhs; rw [hb]
    exact Nat.mul_div_cancel_left b g1
  have e3 : V / Nat.gcd V E = c := by
    conv => lhs; lhs; rw [hc]
    exact Nat.mul_div_cancel_left c g2
  have e4 : E / Nat.gcd V E = d := by
    conv => lhs; lhs; rw [hd]
    exact Nat.mul_div_cancel_left d g2
  have c1 : Nat.Coprime a b := by
    have := Nat.coprime_div_gcd_div_gcd (m := U) (n := D) g1
    rwa [e1, e2] at this
  have c2 : Nat.Coprime c d := by
    have := Nat.coprime_div_gcd_div_gcd (m := V) (n := E) g2
    rwa [e3, e4] at this
  rw [e1, e2, e3, e4]
  have hx : a * d = c * b := by
    have h2 : Nat.gcd U D * Nat.gcd V E * (a * d) = Nat.gcd U D * Nat.gcd V E * (c * b) := by
      calc Nat.gcd U D * Nat.gcd V E * (a * d) = (Nat.gcd U D * a) * (Nat.gcd V E * d) := by ac_rfl
        _ = U * E := by rw [← ha, ← hd]
        _ = V * D := h
        _ = (Nat.gcd V E * c) * (Nat.gcd U D * b) := by rw [← hc, ← hb]
        _ = _ := by ac_rfl
    exact Nat.eq_of_mul_eq_mul_left (Nat.mul_pos g1 g2) h2
  have hbd : b ∣ d := by
    have : b ∣ a * d := ⟨c, by rw [hx, Nat.mul_comm]⟩
    exact Nat.Coprime.dvd_of_dvd_mul_left c1.symm this
  have hdb : d ∣ b := by
    have : d ∣ c * b := ⟨a, by rw [← hx, Nat.mul_comm]⟩
    exact Nat.Coprime.dvd_of_dvd_mul_left c2.symm this
  have hbd2 : b = d := Nat.dvd_antisymm hbd hdb
  refine ⟨?_, hbd2⟩
  rw [hbd2] at hx
  refine Nat.eq_of_mul_eq_mul_right ?_ hx
  rcases Nat.eq_zero_or_pos d with z | z
  · rw [z, Nat.mul_zero] at hd
    omega
  · exact z
/-- least terms of whole numbers, the upper of any sign -/
theorem q_leastI {U D V E : Int} (hD : 0 < D) (hE : 0 < E) (h : E * U = D * V) : U.tdiv (q_gcd (if U < 0 then -U else U) D) = V.tdiv (q_gcd (if V < 0 then -V else V) E) ∧ D.tdiv (q_gcd (if U < 0 then -U else U) D) = E.tdiv (q_gcd (if V < 0 then -V else V) E) := by
  have core : ∀ {U D V E : Int}, 0 < D → 0 < E → 0 ≤ U → 0 ≤ V → E * U = D * V → U.tdiv (q_gcd U D) = V.tdiv (q_gcd V E) ∧ D.tdiv (q_gcd U D) = E.tdiv (q_gcd V E) := by
    intro U D V E hD hE hU hV h
    obtain ⟨u, rfl⟩ : ∃ u : Nat, U = u := ⟨U.toNat, by omega⟩
    obtain ⟨d, rfl⟩ : ∃ u : Nat, D = u := ⟨D.toNat, by omega⟩
    obtain ⟨v, rfl⟩ : ∃ u : Nat, V = u := ⟨V.toNat, by omega⟩
    obtain ⟨e, rfl⟩ : ∃ u : Nat, E = u := ⟨E.toNat, by omega⟩
    have h2 : u * e = v * d := by
      have h3 : ((e * u : Nat) : Int) = ((d * v : Nat) : Int) := by
        rw [Int.natCast_mul, Int.natCast_mul]
        exact h
      have h4 : e * u = d * v := Int.ofNat.inj h3
      rw [Nat.mul_comm u, Nat.mul_comm v]
      exact h4
    have := q_least (U := u) (D := d) (V := v) (E := e) (by omega) (by omega) h2
    unfold q_gcd
    simp only [Int.toNat_natCast]
    rw [← Int.ofNat_tdiv, ← Int.ofNat_tdiv, ← Int.ofNat_tdiv, ← Int.ofNat_tdiv, this.1, this.2]
    exact ⟨rfl, rfl⟩
  by_cases hU : U < 0
  · have hV : V < 0 := by
      refine Classical.byContradiction fun q => ?_
      have h1 := Int.mul_pos hE (show 0 < -U by omega)
      have h2 := Int.mul_nonneg (Int.le_of_lt hD) (show 0 ≤ V by omega)
      rw [Int.mul_neg] at h1
      omega
    rw [if_pos hU, if_pos hV]
    have := core (U := -U) (V := -V) hD hE (by omega) (by omega) (by rw [Int.mul_neg, Int.mul_neg, h])
    rw [Int.neg_tdiv, Int.neg_tdiv] at this
    refine ⟨?_, this.2⟩
    have := this.1
    omega
  · have hV : ¬ V < 0 := by
      intro q
      have h1 := Int.mul_pos hD (show 0 < -V by omega)
      have h2 := Int.mul_nonneg (Int.le_of_lt hE) (show 0 ≤ U by omega)
      rw [Int.mul_neg] at h1
      omega
    rw [if_neg hU, if_neg hV]
    exact core hD hE (by omega) (by omega) h
/-- least terms of a fraction are a like fraction -/
theorem q_gcd_like {U D : Int} (hU : 0 ≤ U) (hD : 0 < D) : 0 < D.tdiv (q_gcd U D) ∧ 0 ≤ U.tdiv (q_gcd U D) ∧ D * U.tdiv (q_gcd U D) = D.tdiv (q_gcd U D) * U := by
  obtain ⟨u, rfl⟩ : ∃ u : Nat, U = u := ⟨U.toNat, by omega⟩
  obtain ⟨d, rfl⟩ : ∃ u : Nat, D = u := ⟨D.toNat, by omega⟩
  unfold q_gcd
  simp only [Int.toNat_natCast]
  have hd : 0 < d := by omega
  have g1 : 0 < Nat.gcd u d := Nat.gcd_pos_of_pos_right _ hd
  obtain ⟨a, ha⟩ := Nat.gcd_dvd_left u d
  obtain ⟨b, hb⟩ := Nat.gcd_dvd_right u d
  have e1 : u / Nat.gcd u d = a := by
    conv => lhs; lhs; rw [ha]
    exact Nat.mul_div_cancel_left a g1
  have e2 : d / Nat.gcd u d = b := by
    conv => lhs; lhs; rw [hb]
    exact Nat.mul_div_cancel_left b g1
  rw [← Int.ofNat_tdiv, ← Int.ofNat_tdiv, e1, e2]
  have hb0 : 0 < b := by
    rcases Nat.eq_zero_or_pos b with z | z
    · rw [z, Nat.mul_zero] at hb
      omega
    · exact z
  refine ⟨by omega, by omega, ?_⟩
  rw [← Int.natCast_mul, ← Int.natCast_mul]
  congr 1
  calc d * a = (Nat.gcd u d * b) * a := by rw [← hb]
    _ = b * (Nat.gcd u d * a) := by ac_rfl
    _ = b * u := by rw [← ha]
/-- which fraction is less doesn't hang on how it is written -/
theorem q_less {a b c d a' b' c' d' : Int} (hb : 0 < b) (hd : 0 < d) (hb' : 0 < b') (hd' : 0 < d') (h1 : b * a' = b' * a) (h2 : d * c' = d' * c) : a * d < c * b ↔ a' * d' < c' * b' := by
  have key : ∀ {a b c d a' b' c' d' : Int}, 0 < b → 0 < d → 0 < b' → 0 < d' → b * a' = b' * a → d * c' = d' * c → a * d < c * b → a' * d' < c' * b' := by
    intro a b c d a' b' c' d' hb hd hb' hd' h1 h2 h
    have h3 := Int.mul_lt_mul_of_pos_left h (Int.mul_pos hb' hd')
    have e1 : b' * d' * (a * d) = b * d * (a' * d') := by
      calc b' * d' * (a * d) = (b' * a) * (d * d') := by grind
        _ = (b * a') * (d * d') := by rw [h1]
        _ = _ := by grind
    have e2 : b' * d' * (c * b) = b * d * (c' * b') := by
      calc b' * d' * (c * b) = (d' * c) * (b * b') := by grind
        _ = (d * c') * (b * b') := by rw [h2]
        _ = _ := by grind
    rw [e1, e2] at h3
    exact Int.lt_of_mul_lt_mul_left h3 (Int.le_of_lt (Int.mul_pos hb hd))
  exact ⟨key hb hd hb' hd' h1 h2, key hb' hd' hb hd h1.symm h2.symm⟩
