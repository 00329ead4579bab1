/-! ===== the law, call by call (written by wip/whole/gen97.py) ===== -/
set_option maxRecDepth 20000 in
theorem w_arm_forget {κ : KT} {cA : Nat → ClassId} {D : va_G} {b L : Nat} {xs : Nat → Int32} {Q : State → Prop} {n z : Nat} {adA adB : Nat → Nat} {i : Int} {σ τ : Mem} (C : CW κ cA D b L xs) (hEA : m_ext adA κ.2.2 κ.1.2.2.2.2 κ.1.2.2.2.2.heap) (hEB : m_ext adB κ.2.2 κ.1.2.2.2.2 κ.1.2.2.2.2.heap) (hi : 0 ≤ i ∧ i + 3 < L) (R : Rel σ τ) (hfit : n ≤ room_1.cells ∧ z ≤ room_1.slots) (cont : ∀ σ' τ' : Mem, Rel σ' τ' → WN κ D 4 Q n z (m_cells (GB adB cA D) τ' ++ m_cells (GA adA cA D) σ') 929 [(3, vI i), (2, .ref (adB 0)), (1, .ref (adA 0)), (0, .ref b)] []) : WN κ D 4 Q n z (m_cells (GB adB cA D) τ ++ m_cells (GA adA cA D) σ) 791 [(3, vI i), (2, .ref (adB 0)), (1, .ref (adA 0)), (0, .ref b)] [] := by
  refine w_aload C 2 dL_law_791 rfl ?_
  refine o_call (G := GA adA cA D) (σ := σ) (X := m_cells (GB adB cA D) τ) (o := 0) (As := []) (rest := []) (rs := fun r => [vI r]) (nn := 0) C.1 C.2.1 C.2.2.1 C.2.2.2.1 hEA dL_law_792 (x7_forget_ct κ.1.2.1 adA cA D  σ) gL_law_X7_forget rfl ⟨rfl, rfl⟩ ⟨rfl, by decide +kernel, by decide +kernel, by decide +kernel⟩ ⟨(Nat.le_of_ble_eq_true rfl), (Nat.le_of_ble_eq_true rfl)⟩ shA_0 rfl rfl rfl (Nat.le_of_ble_eq_true rfl) (fun _ => rfl) hfit ?_
  refine x7_forget_mono (show x7_forget  σ (fun r σ' => x8_forget  τ (fun r' τ' => r = r' ∧ Rel σ' τ')) from M_forget R) (fun r σ1 hB => ?_)
  refine n_swap ?_
  show WN κ D 4 Q n z (m_cells (GA adA cA D) σ1 ++ m_cells (GB adB cA D) τ) 795 [(3, vI i), (2, .ref (adB 0)), (1, .ref (adA 0)), (0, .ref b)] [vI r]
  refine w_aload C 1 dL_law_795 rfl ?_
  refine o_call (G := GB adB cA D) (σ := τ) (X := m_cells (GA adA cA D) σ1) (o := 0) (As := []) (rest := [vI r]) (rs := fun r => [vI r]) (nn := 0) C.1 C.2.1 C.2.2.1 C.2.2.2.1 hEB dL_law_796 (x8_forget_ct κ.1.2.1 adB cA D  τ) gL_law_X8_forget rfl ⟨rfl, rfl⟩ ⟨rfl, by decide +kernel, by decide +kernel, by decide +kernel⟩ ⟨(Nat.le_of_ble_eq_true rfl), (Nat.le_of_ble_eq_true rfl)⟩ shB_0 rfl rfl rfl (Nat.le_of_ble_eq_true rfl) (fun _ => rfl) hfit ?_
  refine x8_forget_mono hB (fun r2 τ1 hh => ?_)
  obtain ⟨e, R1⟩ := hh
  refine n_swap ?_
  show WN κ D 4 Q n z (m_cells (GB adB cA D) τ1 ++ m_cells (GA adA cA D) σ1) 799 [(3, vI i), (2, .ref (adB 0)), (1, .ref (adA 0)), (0, .ref b)] [vI r2, vI r]
  refine w_ieq C (tgt := 929) dL_law_799 (by decide) e ?_
  exact cont σ1 τ1 R1
set_option maxRecDepth 20000 in
theorem w_arm_fit {κ : KT} {cA : Nat → ClassId} {D : va_G} {b L : Nat} {xs : Nat → Int32} {Q : State → Prop} {n z : Nat} {adA adB : Nat → Nat} {i : Int} {σ τ : Mem} (C : CW κ cA D b L xs) (hEA : m_ext adA κ.2.2 κ.1.2.2.2.2 κ.1.2.2.2.2.heap) (hEB : m_ext adB κ.2.2 κ.1.2.2.2.2 κ.1.2.2.2.2.heap) (hi : 0 ≤ i ∧ i + 3 < L) (R : Rel σ τ) (hfit : n ≤ room_1.cells ∧ z ≤ room_1.slots) (cont : ∀ σ' τ' : Mem, Rel σ' τ' → WN κ D 4 Q n z (m_cells (GB adB cA D) τ' ++ m_cells (GA adA cA D) σ') 929 [(3, vI i), (2, .ref (adB 0)), (1, .ref (adA 0)), (0, .ref b)] []) : WN κ D 4 Q n z (m_cells (GB adB cA D) τ ++ m_cells (GA adA cA D) σ) 804 [(3, vI i), (2, .ref (adB 0)), (1, .ref (adA 0)), (0, .ref b)] [] := by
  refine w_aload C 2 dL_law_804 rfl ?_
  refine o_call (G := GA adA cA D) (σ := σ) (X := m_cells (GB adB cA D) τ) (o := 0) (As := []) (rest := []) (rs := fun r => [vI r]) (nn := 0) C.1 C.2.1 C.2.2.1 C.2.2.2.1 hEA dL_law_805 (x7_fit_ct κ.1.2.1 adA cA D  σ) gL_law_X7_fit rfl ⟨rfl, rfl⟩ ⟨rfl, by decide +kernel, by decide +kernel, by decide +kernel⟩ ⟨(Nat.le_of_ble_eq_true rfl), (Nat.le_of_ble_eq_true rfl)⟩ shA_0 rfl rfl rfl (Nat.le_of_ble_eq_true rfl) (fun _ => rfl) hfit ?_
  refine x7_fit_mono (show x7_fit  σ (fun r σ' => x8_fit  τ (fun r' τ' => r = r' ∧ Rel σ' τ')) from M_fit R) (fun r σ1 hB => ?_)
  refine n_swap ?_
  show WN κ D 4 Q n z (m_cells (GA adA cA D) σ1 ++ m_cells (GB adB cA D) τ) 808 [(3, vI i), (2, .ref (adB 0)), (1, .ref (adA 0)), (0, .ref b)] [vI r]
  refine w_aload C 1 dL_law_808 rfl ?_
  refine o_call (G := GB adB cA D) (σ := τ) (X := m_cells (GA adA cA D) σ1) (o := 0) (As := []) (rest := [vI r]) (rs := fun r => [vI r]) (nn := 0) C.1 C.2.1 C.2.2.1 C.2.2.2.1 hEB dL_law_809 (x8_fit_ct κ.1.2.1 adB cA D  τ) gL_law_X8_fit rfl ⟨rfl, rfl⟩ ⟨rfl, by decide +kernel, by decide +kernel, by decide +kernel⟩ ⟨(Nat.le_of_ble_eq_true rfl), (Nat.le_of_ble_eq_true rfl)⟩ shB_0 rfl rfl rfl (Nat.le_of_ble_eq_true rfl) (fun _ => rfl) hfit ?_
  refine x8_fit_mono hB (fun r2 τ1 hh => ?_)
  obtain ⟨e, R1⟩ := hh
  refine n_swap ?_
  show WN κ D 4 Q n z (m_cells (GB adB cA D) τ1 ++ m_cells (GA adA cA D) σ1) 812 [(3, vI i), (2, .ref (adB 0)), (1, .ref (adA 0)), (0, .ref b)] [vI r2, vI r]
  refine w_ieq C (tgt := 929) dL_law_812 (by decide) e ?_
  exact cont σ1 τ1 R1
set_option maxRecDepth 20000 in
theorem w_arm_suspect {κ : KT} {cA : Nat → ClassId} {D : va_G} {b L : Nat} {xs : Nat → Int32} {Q : State → Prop} {n z : Nat} {adA adB : Nat → Nat} {i : Int} {σ τ : Mem} (C : CW κ cA D b L xs) (hEA : m_ext adA κ.2.2 κ.1.2.2.2.2 κ.1.2.2.2.2.heap) (hEB : m_ext adB κ.2.2 κ.1.2.2.2.2 κ.1.2.2.2.2.heap) (hi : 0 ≤ i ∧ i + 3 < L) (R : Rel σ τ) (hfit : n ≤ room_1.cells ∧ z ≤ room_1.slots) (cont : ∀ σ' τ' : Mem, Rel σ' τ' → WN κ D 4 Q n z (m_cells (GB adB cA D) τ' ++ m_cells (GA adA cA D) σ') 929 [(3, vI i), (2, .ref (adB 0)), (1, .ref (adA 0)), (0, .ref b)] []) : WN κ D 4 Q n z (m_cells (GB adB cA D) τ ++ m_cells (GA adA cA D) σ) 817 [(3, vI i), (2, .ref (adB 0)), (1, .ref (adA 0)), (0, .ref b)] [] := by
  refine w_aload C 2 dL_law_817 rfl ?_
  refine w_arg C rfl rfl rfl rfl dL_law_818 dL_law_819 dL_law_820 dL_law_821 dL_law_822 rfl rfl (by omega) ?_
  refine o_call (G := GA adA cA D) (σ := σ) (X := m_cells (GB adB cA D) τ) (o := 0) (As := [vI (w_x xs (i + 1))]) (rest := []) (rs := fun r => [vI r]) (nn := 1) C.1 C.2.1 C.2.2.1 C.2.2.2.1 hEA dL_law_823 (x7_suspect_ct κ.1.2.1 adA cA D (w_x xs (i + 1)) σ) gL_law_X7_suspect rfl ⟨rfl, rfl⟩ ⟨rfl, by decide +kernel, by decide +kernel, by decide +kernel⟩ ⟨(Nat.le_of_ble_eq_true rfl), (Nat.le_of_ble_eq_true rfl)⟩ shA_0 rfl rfl rfl (Nat.le_of_ble_eq_true rfl) (fun _ => rfl) hfit ?_
  refine x7_suspect_mono (show x7_suspect (w_x xs (i + 1)) σ (fun r σ' => x8_suspect (w_x xs (i + 1)) τ (fun r' τ' => r = r' ∧ Rel σ' τ')) from M_suspect R (w_xI _ _)) (fun r σ1 hB => ?_)
  refine n_swap ?_
  show WN κ D 4 Q n z (m_cells (GA adA cA D) σ1 ++ m_cells (GB adB cA D) τ) 826 [(3, vI i), (2, .ref (adB 0)), (1, .ref (adA 0)), (0, .ref b)] [vI r]
  refine w_aload C 1 dL_law_826 rfl ?_
  refine w_arg C rfl rfl rfl rfl dL_law_827 dL_law_828 dL_law_829 dL_law_830 dL_law_831 rfl rfl (by omega) ?_
  refine o_call (G := GB adB cA D) (σ := τ) (X := m_cells (GA adA cA D) σ1) (o := 0) (As := [vI (w_x xs (i + 1))]) (rest := [vI r]) (rs := fun r => [vI r]) (nn := 1) C.1 C.2.1 C.2.2.1 C.2.2.2.1 hEB dL_law_832 (x8_suspect_ct κ.1.2.1 adB cA D (w_x xs (i + 1)) τ) gL_law_X8_suspect rfl ⟨rfl, rfl⟩ ⟨rfl, by decide +kernel, by decide +kernel, by decide +kernel⟩ ⟨(Nat.le_of_ble_eq_true rfl), (Nat.le_of_ble_eq_true rfl)⟩ shB_0 rfl rfl rfl (Nat.le_of_ble_eq_true rfl) (fun _ => rfl) hfit ?_
  refine x8_suspect_mono hB (fun r2 τ1 hh => ?_)
  obtain ⟨e, R1⟩ := hh
  refine n_swap ?_
  show WN κ D 4 Q n z (m_cells (GB adB cA D) τ1 ++ m_cells (GA adA cA D) σ1) 835 [(3, vI i), (2, .ref (adB 0)), (1, .ref (adA 0)), (0, .ref b)] [vI r2, vI r]
  refine w_ieq C (tgt := 929) dL_law_835 (by decide) e ?_
  exact cont σ1 τ1 R1
set_option maxRecDepth 20000 in
theorem w_arm_feed {κ : KT} {cA : Nat → ClassId} {D : va_G} {b L : Nat} {xs : Nat → Int32} {Q : State → Prop} {n z : Nat} {adA adB : Nat → Nat} {i : Int} {σ τ : Mem} (C : CW κ cA D b L xs) (hEA : m_ext adA κ.2.2 κ.1.2.2.2.2 κ.1.2.2.2.2.heap) (hEB : m_ext adB κ.2.2 κ.1.2.2.2.2 κ.1.2.2.2.2.heap) (hi : 0 ≤ i ∧ i + 3 < L) (R : Rel σ τ) (hfit : n ≤ room_1.cells ∧ z ≤ room_1.slots) (cont : ∀ σ' τ' : Mem, Rel σ' τ' → WN κ D 4 Q n z (m_cells (GB adB cA D) τ' ++ m_cells (GA adA cA D) σ') 929 [(3, vI i), (2, .ref (adB 0)), (1, .ref (adA 0)), (0, .ref b)] []) : WN κ D 4 Q n z (m_cells (GB adB cA D) τ ++ m_cells (GA adA cA D) σ) 840 [(3, vI i), (2, .ref (adB 0)), (1, .ref (adA 0)), (0, .ref b)] [] := by
  refine w_aload C 2 dL_law_840 rfl ?_
  refine w_arg C rfl rfl rfl rfl dL_law_841 dL_law_842 dL_law_843 dL_law_844 dL_law_845 rfl rfl (by omega) ?_
  refine w_arg C rfl rfl rfl rfl dL_law_846 dL_law_847 dL_law_848 dL_law_849 dL_law_850 rfl rfl (by omega) ?_
  refine w_i2l C dL_law_851 (w_xI _ _) ?_
  refine w_bipush C dL_law_852 (by decide) ?_
  refine w_lshl C dL_law_854 ?_
  refine w_arg C rfl rfl rfl rfl dL_law_855 dL_law_856 dL_law_857 dL_law_858 dL_law_859 rfl rfl (by omega) ?_
  refine w_i2l C dL_law_860 (w_xI _ _) ?_
  refine w_ldc2 C dL_law_861 wL_112 (x := 4294967295) (by decide) ?_
  refine w_land C dL_law_864 ?_
  refine w_lor C dL_law_865 ?_
  refine o_call (G := GA adA cA D) (σ := σ) (X := m_cells (GB adB cA D) τ) (o := 0) (As := [vI (w_x xs (i + 1)), vL (orL (shlL (w_x xs (i + 2)) 32) (andL (w_x xs (i + 3)) 4294967295))]) (rest := []) (rs := fun r => [vI r]) (nn := 2) C.1 C.2.1 C.2.2.1 C.2.2.2.1 hEA dL_law_866 (x7_feed_ct κ.1.2.1 adA cA D (w_x xs (i + 1)) (orL (shlL (w_x xs (i + 2)) 32) (andL (w_x xs (i + 3)) 4294967295)) σ) gL_law_X7_feed rfl ⟨rfl, rfl⟩ ⟨rfl, by decide +kernel, by decide +kernel, by decide +kernel⟩ ⟨(Nat.le_of_ble_eq_true rfl), (Nat.le_of_ble_eq_true rfl)⟩ shA_0 rfl rfl rfl (Nat.le_of_ble_eq_true rfl) (fun _ => rfl) hfit ?_
  refine x7_feed_mono (show x7_feed (w_x xs (i + 1)) (orL (shlL (w_x xs (i + 2)) 32) (andL (w_x xs (i + 3)) 4294967295)) σ (fun r σ' => x8_feed (w_x xs (i + 1)) (orL (shlL (w_x xs (i + 2)) 32) (andL (w_x xs (i + 3)) 4294967295)) τ (fun r' τ' => r = r' ∧ Rel σ' τ')) from M_feed R (w_xI _ _)) (fun r σ1 hB => ?_)
  refine n_swap ?_
  show WN κ D 4 Q n z (m_cells (GA adA cA D) σ1 ++ m_cells (GB adB cA D) τ) 869 [(3, vI i), (2, .ref (adB 0)), (1, .ref (adA 0)), (0, .ref b)] [vI r]
  refine w_aload C 1 dL_law_869 rfl ?_
  refine w_arg C rfl rfl rfl rfl dL_law_870 dL_law_871 dL_law_872 dL_law_873 dL_law_874 rfl rfl (by omega) ?_
  refine w_arg C rfl rfl rfl rfl dL_law_875 dL_law_876 dL_law_877 dL_law_878 dL_law_879 rfl rfl (by omega) ?_
  refine w_i2l C dL_law_880 (w_xI _ _) ?_
  refine w_bipush C dL_law_881 (by decide) ?_
  refine w_lshl C dL_law_883 ?_
  refine w_arg C rfl rfl rfl rfl dL_law_884 dL_law_885 dL_law_886 dL_law_887 dL_law_888 rfl rfl (by omega) ?_
  refine w_i2l C dL_law_889 (w_xI _ _) ?_
  refine w_ldc2 C dL_law_890 wL_112 (x := 4294967295) (by decide) ?_
  refine w_land C dL_law_893 ?_
  refine w_lor C dL_law_894 ?_
  refine o_call (G := GB adB cA D) (σ := τ) (X := m_cells (GA adA cA D) σ1) (o := 0) (As := [vI (w_x xs (i + 1)), vL (orL (shlL (w_x xs (i + 2)) 32) (andL (w_x xs (i + 3)) 4294967295))]) (rest := [vI r]) (rs := fun r => [vI r]) (nn := 2) C.1 C.2.1 C.2.2.1 C.2.2.2.1 hEB dL_law_895 (x8_feed_ct κ.1.2.1 adB cA D (w_x xs (i + 1)) (orL (shlL (w_x xs (i + 2)) 32) (andL (w_x xs (i + 3)) 4294967295)) τ) gL_law_X8_feed rfl ⟨rfl, rfl⟩ ⟨rfl, by decide +kernel, by decide +kernel, by decide +kernel⟩ ⟨(Nat.le_of_ble_eq_true rfl), (Nat.le_of_ble_eq_true rfl)⟩ shB_0 rfl rfl rfl (Nat.le_of_ble_eq_true rfl) (fun _ => rfl) hfit ?_
  refine x8_feed_mono hB (fun r2 τ1 hh => ?_)
  obtain ⟨e, R1⟩ := hh
  refine n_swap ?_
  show WN κ D 4 Q n z (m_cells (GB adB cA D) τ1 ++ m_cells (GA adA cA D) σ1) 898 [(3, vI i), (2, .ref (adB 0)), (1, .ref (adA 0)), (0, .ref b)] [vI r2, vI r]
  refine w_ieq C (tgt := 929) dL_law_898 (by decide) e ?_
  exact cont σ1 τ1 R1
set_option maxRecDepth 20000 in
theorem w_arm_read {κ : KT} {cA : Nat → ClassId} {D : va_G} {b L : Nat} {xs : Nat → Int32} {Q : State → Prop} {n z : Nat} {adA adB : Nat → Nat} {i : Int} {σ τ : Mem} (C : CW κ cA D b L xs) (hEA : m_ext adA κ.2.2 κ.1.2.2.2.2 κ.1.2.2.2.2.heap) (hEB : m_ext adB κ.2.2 κ.1.2.2.2.2 κ.1.2.2.2.2.heap) (hi : 0 ≤ i ∧ i + 3 < L) (R : Rel σ τ) (hfit : n ≤ room_1.cells ∧ z ≤ room_1.slots) (cont : ∀ σ' τ' : Mem, Rel σ' τ' → WN κ D 4 Q n z (m_cells (GB adB cA D) τ' ++ m_cells (GA adA cA D) σ') 929 [(3, vI i), (2, .ref (adB 0)), (1, .ref (adA 0)), (0, .ref b)] []) : WN κ D 4 Q n z (m_cells (GB adB cA D) τ ++ m_cells (GA adA cA D) σ) 903 [(3, vI i), (2, .ref (adB 0)), (1, .ref (adA 0)), (0, .ref b)] [] := by
  refine w_aload C 2 dL_law_903 rfl ?_
  refine o_call (G := GA adA cA D) (σ := σ) (X := m_cells (GB adB cA D) τ) (o := 0) (As := []) (rest := []) (rs := fun r => [vI r]) (nn := 0) C.1 C.2.1 C.2.2.1 C.2.2.2.1 hEA dL_law_904 (x7_read_ct κ.1.2.1 adA cA D  σ) gL_law_X7_read rfl ⟨rfl, rfl⟩ ⟨rfl, by decide +kernel, by decide +kernel, by decide +kernel⟩ ⟨(Nat.le_of_ble_eq_true rfl), (Nat.le_of_ble_eq_true rfl)⟩ shA_0 rfl rfl rfl (Nat.le_of_ble_eq_true rfl) (fun _ => rfl) hfit ?_
  refine x7_read_mono (show x7_read  σ (fun r σ' => x8_read  τ (fun r' τ' => r = r' ∧ Rel σ' τ')) from M_read R) (fun r σ1 hB => ?_)
  refine n_swap ?_
  show WN κ D 4 Q n z (m_cells (GA adA cA D) σ1 ++ m_cells (GB adB cA D) τ) 907 [(3, vI i), (2, .ref (adB 0)), (1, .ref (adA 0)), (0, .ref b)] [vI r]
  refine w_aload C 1 dL_law_907 rfl ?_
  refine o_call (G := GB adB cA D) (σ := τ) (X := m_cells (GA adA cA D) σ1) (o := 0) (As := []) (rest := [vI r]) (rs := fun r => [vI r]) (nn := 0) C.1 C.2.1 C.2.2.1 C.2.2.2.1 hEB dL_law_908 (x8_read_ct κ.1.2.1 adB cA D  τ) gL_law_X8_read rfl ⟨rfl, rfl⟩ ⟨rfl, by decide +kernel, by decide +kernel, by decide +kernel⟩ ⟨(Nat.le_of_ble_eq_true rfl), (Nat.le_of_ble_eq_true rfl)⟩ shB_0 rfl rfl rfl (Nat.le_of_ble_eq_true rfl) (fun _ => rfl) hfit ?_
  refine x8_read_mono hB (fun r2 τ1 hh => ?_)
  obtain ⟨e, R1⟩ := hh
  refine n_swap ?_
  show WN κ D 4 Q n z (m_cells (GB adB cA D) τ1 ++ m_cells (GA adA cA D) σ1) 911 [(3, vI i), (2, .ref (adB 0)), (1, .ref (adA 0)), (0, .ref b)] [vI r2, vI r]
  refine w_ieq C (tgt := 929) dL_law_911 (by decide) e ?_
  exact cont σ1 τ1 R1
set_option maxRecDepth 20000 in
theorem w_arm_fault {κ : KT} {cA : Nat → ClassId} {D : va_G} {b L : Nat} {xs : Nat → Int32} {Q : State → Prop} {n z : Nat} {adA adB : Nat → Nat} {i : Int} {σ τ : Mem} (C : CW κ cA D b L xs) (hEA : m_ext adA κ.2.2 κ.1.2.2.2.2 κ.1.2.2.2.2.heap) (hEB : m_ext adB κ.2.2 κ.1.2.2.2.2 κ.1.2.2.2.2.heap) (hi : 0 ≤ i ∧ i + 3 < L) (R : Rel σ τ) (hfit : n ≤ room_1.cells ∧ z ≤ room_1.slots) (cont : ∀ σ' τ' : Mem, Rel σ' τ' → WN κ D 4 Q n z (m_cells (GB adB cA D) τ' ++ m_cells (GA adA cA D) σ') 929 [(3, vI i), (2, .ref (adB 0)), (1, .ref (adA 0)), (0, .ref b)] []) : WN κ D 4 Q n z (m_cells (GB adB cA D) τ ++ m_cells (GA adA cA D) σ) 916 [(3, vI i), (2, .ref (adB 0)), (1, .ref (adA 0)), (0, .ref b)] [] := by
  refine w_aload C 2 dL_law_916 rfl ?_
  refine o_call (G := GA adA cA D) (σ := σ) (X := m_cells (GB adB cA D) τ) (o := 0) (As := []) (rest := []) (rs := fun r => [vI r]) (nn := 0) C.1 C.2.1 C.2.2.1 C.2.2.2.1 hEA dL_law_917 (x7_fault_ct κ.1.2.1 adA cA D  σ) gL_law_X7_fault rfl ⟨rfl, rfl⟩ ⟨rfl, by decide +kernel, by decide +kernel, by decide +kernel⟩ ⟨(Nat.le_of_ble_eq_true rfl), (Nat.le_of_ble_eq_true rfl)⟩ shA_0 rfl rfl rfl (Nat.le_of_ble_eq_true rfl) (fun _ => rfl) hfit ?_
  refine x7_fault_mono (show x7_fault  σ (fun r σ' => x8_fault  τ (fun r' τ' => r = r' ∧ Rel σ' τ')) from M_fault R) (fun r σ1 hB => ?_)
  refine n_swap ?_
  show WN κ D 4 Q n z (m_cells (GA adA cA D) σ1 ++ m_cells (GB adB cA D) τ) 920 [(3, vI i), (2, .ref (adB 0)), (1, .ref (adA 0)), (0, .ref b)] [vI r]
  refine w_aload C 1 dL_law_920 rfl ?_
  refine o_call (G := GB adB cA D) (σ := τ) (X := m_cells (GA adA cA D) σ1) (o := 0) (As := []) (rest := [vI r]) (rs := fun r => [vI r]) (nn := 0) C.1 C.2.1 C.2.2.1 C.2.2.2.1 hEB dL_law_921 (x8_fault_ct κ.1.2.1 adB cA D  τ) gL_law_X8_fault rfl ⟨rfl, rfl⟩ ⟨rfl, by decide +kernel, by decide +kernel, by decide +kernel⟩ ⟨(Nat.le_of_ble_eq_true rfl), (Nat.le_of_ble_eq_true rfl)⟩ shB_0 rfl rfl rfl (Nat.le_of_ble_eq_true rfl) (fun _ => rfl) hfit ?_
  refine x8_fault_mono hB (fun r2 τ1 hh => ?_)
  obtain ⟨e, R1⟩ := hh
  refine n_swap ?_
  show WN κ D 4 Q n z (m_cells (GB adB cA D) τ1 ++ m_cells (GA adA cA D) σ1) 924 [(3, vI i), (2, .ref (adB 0)), (1, .ref (adA 0)), (0, .ref b)] [vI r2, vI r]
  refine w_ieq C (tgt := 929) dL_law_924 (by decide) e ?_
  exact cont σ1 τ1 R1
