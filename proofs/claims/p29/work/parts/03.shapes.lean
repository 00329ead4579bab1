def shA : Shp := [.inl (7, [1 + 2, 7 + 2, 13 + 2, 23 + 2, 31 + 2, 34 + 2, 37 + 2, 0]),
  .inl (2, [0, 0, 0, 2 + 2, 3 + 2, 4 + 2, 5 + 2, 6 + 2]),
  .inr (0, 6),
  .inr (0, 6),
  .inr (0, 6),
  .inr (0, 6),
  .inr (0, 6),
  .inl (3, [8 + 2, 1, 9 + 2, 10 + 2, 11 + 2, 12 + 2]),
  .inr (1, 6),
  .inr (1, 6),
  .inr (1, 6),
  .inr (1, 7),
  .inr (1, 36),
  .inl (1, [0, 0, 0, 14 + 2, 20 + 2, 21 + 2, 22 + 2]),
  .inl (3, [15 + 2, 1, 16 + 2, 17 + 2, 18 + 2, 19 + 2]),
  .inr (1, 6),
  .inr (1, 6),
  .inr (1, 6),
  .inr (1, 7),
  .inr (1, 36),
  .inr (0, 6),
  .inr (0, 6),
  .inr (0, 6),
  .inl (0, [0, 24 + 2, 1, 1]),
  .inr (25 + 3, 6),
  .inr (0, 6),
  .inr (0, 6),
  .inr (0, 6),
  .inr (0, 6),
  .inr (0, 6),
  .inr (0, 6),
  .inl (4, [32 + 2, 33 + 2]),
  .inr (0, 3),
  .inr (0, 6),
  .inl (6, [0, 35 + 2, 36 + 2]),
  .inr (0, 6),
  .inr (0, 6),
  .inl (5, [0, 0, 0, 0, 38 + 2, 39 + 2, 40 + 2, 41 + 2, 0, 0, 0, 0]),
  .inr (0, 12),
  .inr (0, 12),
  .inr (0, 12),
  .inr (0, 160)]
theorem shA_0 : shA[0]? = some (.inl (7, [1 + 2, 7 + 2, 13 + 2, 23 + 2, 31 + 2, 34 + 2, 37 + 2, 0])) := rfl
theorem shA_1 : shA[1]? = some (.inl (2, [0, 0, 0, 2 + 2, 3 + 2, 4 + 2, 5 + 2, 6 + 2])) := rfl
theorem shA_2 : shA[2]? = some (.inr (0, 6)) := rfl
theorem shA_3 : shA[3]? = some (.inr (0, 6)) := rfl
theorem shA_4 : shA[4]? = some (.inr (0, 6)) := rfl
theorem shA_5 : shA[5]? = some (.inr (0, 6)) := rfl
theorem shA_6 : shA[6]? = some (.inr (0, 6)) := rfl
theorem shA_7 : shA[7]? = some (.inl (3, [8 + 2, 1, 9 + 2, 10 + 2, 11 + 2, 12 + 2])) := rfl
theorem shA_8 : shA[8]? = some (.inr (1, 6)) := rfl
theorem shA_9 : shA[9]? = some (.inr (1, 6)) := rfl
theorem shA_10 : shA[10]? = some (.inr (1, 6)) := rfl
theorem shA_11 : shA[11]? = some (.inr (1, 7)) := rfl
theorem shA_12 : shA[12]? = some (.inr (1, 36)) := rfl
theorem shA_13 : shA[13]? = some (.inl (1, [0, 0, 0, 14 + 2, 20 + 2, 21 + 2, 22 + 2])) := rfl
theorem shA_14 : shA[14]? = some (.inl (3, [15 + 2, 1, 16 + 2, 17 + 2, 18 + 2, 19 + 2])) := rfl
theorem shA_15 : shA[15]? = some (.inr (1, 6)) := rfl
theorem shA_16 : shA[16]? = some (.inr (1, 6)) := rfl
theorem shA_17 : shA[17]? = some (.inr (1, 6)) := rfl
theorem shA_18 : shA[18]? = some (.inr (1, 7)) := rfl
theorem shA_19 : shA[19]? = some (.inr (1, 36)) := rfl
theorem shA_20 : shA[20]? = some (.inr (0, 6)) := rfl
theorem shA_21 : shA[21]? = some (.inr (0, 6)) := rfl
theorem shA_22 : shA[22]? = some (.inr (0, 6)) := rfl
theorem shA_23 : shA[23]? = some (.inl (0, [0, 24 + 2, 1, 1])) := rfl
theorem shA_24 : shA[24]? = some (.inr (25 + 3, 6)) := rfl
theorem shA_25 : shA[25]? = some (.inr (0, 6)) := rfl
theorem shA_26 : shA[26]? = some (.inr (0, 6)) := rfl
theorem shA_27 : shA[27]? = some (.inr (0, 6)) := rfl
theorem shA_28 : shA[28]? = some (.inr (0, 6)) := rfl
theorem shA_29 : shA[29]? = some (.inr (0, 6)) := rfl
theorem shA_30 : shA[30]? = some (.inr (0, 6)) := rfl
theorem shA_31 : shA[31]? = some (.inl (4, [32 + 2, 33 + 2])) := rfl
theorem shA_32 : shA[32]? = some (.inr (0, 3)) := rfl
theorem shA_33 : shA[33]? = some (.inr (0, 6)) := rfl
theorem shA_34 : shA[34]? = some (.inl (6, [0, 35 + 2, 36 + 2])) := rfl
theorem shA_35 : shA[35]? = some (.inr (0, 6)) := rfl
theorem shA_36 : shA[36]? = some (.inr (0, 6)) := rfl
theorem shA_37 : shA[37]? = some (.inl (5, [0, 0, 0, 0, 38 + 2, 39 + 2, 40 + 2, 41 + 2, 0, 0, 0, 0])) := rfl
theorem shA_38 : shA[38]? = some (.inr (0, 12)) := rfl
theorem shA_39 : shA[39]? = some (.inr (0, 12)) := rfl
theorem shA_40 : shA[40]? = some (.inr (0, 12)) := rfl
theorem shA_41 : shA[41]? = some (.inr (0, 160)) := rfl
abbrev GA (ad : Nat → Nat) (cA : Nat → ClassId) (D : va_G) : GT := (shA, ad, cA, D)
abbrev LfA (o : Nat) : Prop := o = 7 ∨ o = 14
theorem lf_0 {o : Nat} (ho : LfA o) : shA[o]? = some (.inl (3, [o + 1 + 2, 1, o + 2 + 2, o + 3 + 2, o + 4 + 2, o + 5 + 2])) := by rcases ho with rfl | rfl <;> rfl
theorem lf_1 {o : Nat} (ho : LfA o) : shA[o + 1]? = some (.inr (1, 6)) := by rcases ho with rfl | rfl <;> rfl
theorem lf_2 {o : Nat} (ho : LfA o) : shA[o + 2]? = some (.inr (1, 6)) := by rcases ho with rfl | rfl <;> rfl
theorem lf_3 {o : Nat} (ho : LfA o) : shA[o + 3]? = some (.inr (1, 6)) := by rcases ho with rfl | rfl <;> rfl
theorem lf_4 {o : Nat} (ho : LfA o) : shA[o + 4]? = some (.inr (1, 7)) := by rcases ho with rfl | rfl <;> rfl
theorem lf_5 {o : Nat} (ho : LfA o) : shA[o + 5]? = some (.inr (1, 36)) := by rcases ho with rfl | rfl <;> rfl
