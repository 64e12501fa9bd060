/-! small methods: what numbers may be; a strand's reads -/
section SM20
variable {l : Launch} {b : Nat} {D : va_G} {cA : Nat → ClassId} {M : sm_M}
theorem c_isOwner (x : Int32) : sm_Ct l b D cA yX6_isOwner cX6_isOwner 1 (some .boolean) 0 0 0 [.int x] M (fun r M1 => r = some (.int (if 0 ≤ x.toInt ∧ x.toInt < 10 then 1 else 0)) ∧ M1 = M) := by
  refine sm_enter (by decide +kernel) rfl (fun _ => Nat.le_of_ble_eq_true rfl) ?_
  refine sg_iload_n dX6_isOwner_0 rfl ?_
  refine sg_if_lt 14 dX6_isOwner_1 (by decide) (fun c_1 => ?_) (fun c_1 => ?_)
  · refine sg_iconst 0 dX6_isOwner_14 (by decide) ?_
    refine sg_zreturn dX6_isOwner_15 rfl (by first | decide | assumption) (Nat.le_of_ble_eq_true rfl) (Nat.le_of_ble_eq_true rfl) ?_
    exact ⟨by (try simp only [Int32.lt_iff_toInt_lt, Int32.le_iff_toInt_le, ← Int32.toInt_inj, ti_m2, ti_m1, ti_0, ti_1, ti_2, ti_3, ti_4, ti_5, ti_6, ti_7, ti_8, ti_9, ti_10, ti_11, ti_12, ti_16, ti_20, ti_25, ti_31, ti_40, ti_50, ti_60, ti_61, ti_63, ti_80, ti_99, ti_100, ti_200, ti_300, ti_500, ti_800, ti_1000, ti_3200, ti_10000, ti_1000000] at *) <;> (repeat split) <;> first | rfl | (exfalso; omega), rfl⟩
  · refine sg_iload_n dX6_isOwner_4 rfl ?_
    refine sg_bipush 10 dX6_isOwner_5 (by decide) ?_
    refine sg_icmp_ge 14 dX6_isOwner_7 (by decide) (fun c_7 => ?_) (fun c_7 => ?_)
    · refine sg_iconst 0 dX6_isOwner_14 (by decide) ?_
      refine sg_zreturn dX6_isOwner_15 rfl (by first | decide | assumption) (Nat.le_of_ble_eq_true rfl) (Nat.le_of_ble_eq_true rfl) ?_
      exact ⟨by (try simp only [Int32.lt_iff_toInt_lt, Int32.le_iff_toInt_le, ← Int32.toInt_inj, ti_m2, ti_m1, ti_0, ti_1, ti_2, ti_3, ti_4, ti_5, ti_6, ti_7, ti_8, ti_9, ti_10, ti_11, ti_12, ti_16, ti_20, ti_25, ti_31, ti_40, ti_50, ti_60, ti_61, ti_63, ti_80, ti_99, ti_100, ti_200, ti_300, ti_500, ti_800, ti_1000, ti_3200, ti_10000, ti_1000000] at *) <;> (repeat split) <;> first | rfl | (exfalso; omega), rfl⟩
    · refine sg_iconst 1 dX6_isOwner_10 (by decide) ?_
      refine sg_goto 15 dX6_isOwner_11 (by decide) ?_
      refine sg_zreturn dX6_isOwner_15 rfl (by first | decide | assumption) (Nat.le_of_ble_eq_true rfl) (Nat.le_of_ble_eq_true rfl) ?_
      exact ⟨by (try simp only [Int32.lt_iff_toInt_lt, Int32.le_iff_toInt_le, ← Int32.toInt_inj, ti_m2, ti_m1, ti_0, ti_1, ti_2, ti_3, ti_4, ti_5, ti_6, ti_7, ti_8, ti_9, ti_10, ti_11, ti_12, ti_16, ti_20, ti_25, ti_31, ti_40, ti_50, ti_60, ti_61, ti_63, ti_80, ti_99, ti_100, ti_200, ti_300, ti_500, ti_800, ti_1000, ti_3200, ti_10000, ti_1000000] at *) <;> (repeat split) <;> first | rfl | (exfalso; omega), rfl⟩
theorem c_isGrade (x : Int32) : sm_Ct l b D cA yX6_isGrade cX6_isGrade 1 (some .boolean) 0 0 0 [.int x] M (fun r M1 => r = some (.int (if 0 ≤ x.toInt ∧ x.toInt < 5 then 1 else 0)) ∧ M1 = M) := by
  refine sm_enter (by decide +kernel) rfl (fun _ => Nat.le_of_ble_eq_true rfl) ?_
  refine sg_iload_n dX6_isGrade_0 rfl ?_
  refine sg_if_lt 13 dX6_isGrade_1 (by decide) (fun c_1 => ?_) (fun c_1 => ?_)
  · refine sg_iconst 0 dX6_isGrade_13 (by decide) ?_
    refine sg_zreturn dX6_isGrade_14 rfl (by first | decide | assumption) (Nat.le_of_ble_eq_true rfl) (Nat.le_of_ble_eq_true rfl) ?_
    exact ⟨by (try simp only [Int32.lt_iff_toInt_lt, Int32.le_iff_toInt_le, ← Int32.toInt_inj, ti_m2, ti_m1, ti_0, ti_1, ti_2, ti_3, ti_4, ti_5, ti_6, ti_7, ti_8, ti_9, ti_10, ti_11, ti_12, ti_16, ti_20, ti_25, ti_31, ti_40, ti_50, ti_60, ti_61, ti_63, ti_80, ti_99, ti_100, ti_200, ti_300, ti_500, ti_800, ti_1000, ti_3200, ti_10000, ti_1000000] at *) <;> (repeat split) <;> first | rfl | (exfalso; omega), rfl⟩
  · refine sg_iload_n dX6_isGrade_4 rfl ?_
    refine sg_iconst 5 dX6_isGrade_5 (by decide) ?_
    refine sg_icmp_ge 13 dX6_isGrade_6 (by decide) (fun c_6 => ?_) (fun c_6 => ?_)
    · refine sg_iconst 0 dX6_isGrade_13 (by decide) ?_
      refine sg_zreturn dX6_isGrade_14 rfl (by first | decide | assumption) (Nat.le_of_ble_eq_true rfl) (Nat.le_of_ble_eq_true rfl) ?_
      exact ⟨by (try simp only [Int32.lt_iff_toInt_lt, Int32.le_iff_toInt_le, ← Int32.toInt_inj, ti_m2, ti_m1, ti_0, ti_1, ti_2, ti_3, ti_4, ti_5, ti_6, ti_7, ti_8, ti_9, ti_10, ti_11, ti_12, ti_16, ti_20, ti_25, ti_31, ti_40, ti_50, ti_60, ti_61, ti_63, ti_80, ti_99, ti_100, ti_200, ti_300, ti_500, ti_800, ti_1000, ti_3200, ti_10000, ti_1000000] at *) <;> (repeat split) <;> first | rfl | (exfalso; omega), rfl⟩
    · refine sg_iconst 1 dX6_isGrade_9 (by decide) ?_
      refine sg_goto 14 dX6_isGrade_10 (by decide) ?_
      refine sg_zreturn dX6_isGrade_14 rfl (by first | decide | assumption) (Nat.le_of_ble_eq_true rfl) (Nat.le_of_ble_eq_true rfl) ?_
      exact ⟨by (try simp only [Int32.lt_iff_toInt_lt, Int32.le_iff_toInt_le, ← Int32.toInt_inj, ti_m2, ti_m1, ti_0, ti_1, ti_2, ti_3, ti_4, ti_5, ti_6, ti_7, ti_8, ti_9, ti_10, ti_11, ti_12, ti_16, ti_20, ti_25, ti_31, ti_40, ti_50, ti_60, ti_61, ti_63, ti_80, ti_99, ti_100, ti_200, ti_300, ti_500, ti_800, ti_1000, ti_3200, ti_10000, ti_1000000] at *) <;> (repeat split) <;> first | rfl | (exfalso; omega), rfl⟩
theorem c_isName (x : Int32) : sm_Ct l b D cA yX6_isName cX6_isName 1 (some .boolean) 0 0 0 [.int x] M (fun r M1 => r = some (.int (if 0 < x.toInt ∧ x.toInt ≤ 99 then 1 else 0)) ∧ M1 = M) := by
  refine sm_enter (by decide +kernel) rfl (fun _ => Nat.le_of_ble_eq_true rfl) ?_
  refine sg_iload_n dX6_isName_0 rfl ?_
  refine sg_if_le 14 dX6_isName_1 (by decide) (fun c_1 => ?_) (fun c_1 => ?_)
  · refine sg_iconst 0 dX6_isName_14 (by decide) ?_
    refine sg_zreturn dX6_isName_15 rfl (by first | decide | assumption) (Nat.le_of_ble_eq_true rfl) (Nat.le_of_ble_eq_true rfl) ?_
    exact ⟨by (try simp only [Int32.lt_iff_toInt_lt, Int32.le_iff_toInt_le, ← Int32.toInt_inj, ti_m2, ti_m1, ti_0, ti_1, ti_2, ti_3, ti_4, ti_5, ti_6, ti_7, ti_8, ti_9, ti_10, ti_11, ti_12, ti_16, ti_20, ti_25, ti_31, ti_40, ti_50, ti_60, ti_61, ti_63, ti_80, ti_99, ti_100, ti_200, ti_300, ti_500, ti_800, ti_1000, ti_3200, ti_10000, ti_1000000] at *) <;> (repeat split) <;> first | rfl | (exfalso; omega), rfl⟩
  · refine sg_iload_n dX6_isName_4 rfl ?_
    refine sg_bipush 99 dX6_isName_5 (by decide) ?_
    refine sg_icmp_gt 14 dX6_isName_7 (by decide) (fun c_7 => ?_) (fun c_7 => ?_)
    · refine sg_iconst 0 dX6_isName_14 (by decide) ?_
      refine sg_zreturn dX6_isName_15 rfl (by first | decide | assumption) (Nat.le_of_ble_eq_true rfl) (Nat.le_of_ble_eq_true rfl) ?_
      exact ⟨by (try simp only [Int32.lt_iff_toInt_lt, Int32.le_iff_toInt_le, ← Int32.toInt_inj, ti_m2, ti_m1, ti_0, ti_1, ti_2, ti_3, ti_4, ti_5, ti_6, ti_7, ti_8, ti_9, ti_10, ti_11, ti_12, ti_16, ti_20, ti_25, ti_31, ti_40, ti_50, ti_60, ti_61, ti_63, ti_80, ti_99, ti_100, ti_200, ti_300, ti_500, ti_800, ti_1000, ti_3200, ti_10000, ti_1000000] at *) <;> (repeat split) <;> first | rfl | (exfalso; omega), rfl⟩
    · refine sg_iconst 1 dX6_isName_10 (by decide) ?_
      refine sg_goto 15 dX6_isName_11 (by decide) ?_
      refine sg_zreturn dX6_isName_15 rfl (by first | decide | assumption) (Nat.le_of_ble_eq_true rfl) (Nat.le_of_ble_eq_true rfl) ?_
      exact ⟨by (try simp only [Int32.lt_iff_toInt_lt, Int32.le_iff_toInt_le, ← Int32.toInt_inj, ti_m2, ti_m1, ti_0, ti_1, ti_2, ti_3, ti_4, ti_5, ti_6, ti_7, ti_8, ti_9, ti_10, ti_11, ti_12, ti_16, ti_20, ti_25, ti_31, ti_40, ti_50, ti_60, ti_61, ti_63, ti_80, ti_99, ti_100, ti_200, ti_300, ti_500, ti_800, ti_1000, ti_3200, ti_10000, ti_1000000] at *) <;> (repeat split) <;> first | rfl | (exfalso; omega), rfl⟩
theorem c_in (x lo hi : Int32) : sm_Ct l b D cA yX7_in cX7_in 3 (some .boolean) 0 0 0 [.int x, .int lo, .int hi] M (fun r M1 => r = some (.int (if lo.toInt ≤ x.toInt ∧ x.toInt ≤ hi.toInt then 1 else 0)) ∧ M1 = M) := by
  refine sm_enter (by decide +kernel) rfl (fun _ => Nat.le_of_ble_eq_true rfl) ?_
  refine sg_iload_n dX7_in_0 rfl ?_
  refine sg_iload_n dX7_in_1 rfl ?_
  refine sg_icmp_lt 14 dX7_in_2 (by decide) (fun c_2 => ?_) (fun c_2 => ?_)
  · refine sg_iconst 0 dX7_in_14 (by decide) ?_
    refine sg_zreturn dX7_in_15 rfl (by first | decide | assumption) (Nat.le_of_ble_eq_true rfl) (Nat.le_of_ble_eq_true rfl) ?_
    exact ⟨by (try simp only [Int32.lt_iff_toInt_lt, Int32.le_iff_toInt_le, ← Int32.toInt_inj, ti_m2, ti_m1, ti_0, ti_1, ti_2, ti_3, ti_4, ti_5, ti_6, ti_7, ti_8, ti_9, ti_10, ti_11, ti_12, ti_16, ti_20, ti_25, ti_31, ti_40, ti_50, ti_60, ti_61, ti_63, ti_80, ti_99, ti_100, ti_200, ti_300, ti_500, ti_800, ti_1000, ti_3200, ti_10000, ti_1000000] at *) <;> (repeat split) <;> first | rfl | (exfalso; omega), rfl⟩
  · refine sg_iload_n dX7_in_5 rfl ?_
    refine sg_iload_n dX7_in_6 rfl ?_
    refine sg_icmp_gt 14 dX7_in_7 (by decide) (fun c_7 => ?_) (fun c_7 => ?_)
    · refine sg_iconst 0 dX7_in_14 (by decide) ?_
      refine sg_zreturn dX7_in_15 rfl (by first | decide | assumption) (Nat.le_of_ble_eq_true rfl) (Nat.le_of_ble_eq_true rfl) ?_
      exact ⟨by (try simp only [Int32.lt_iff_toInt_lt, Int32.le_iff_toInt_le, ← Int32.toInt_inj, ti_m2, ti_m1, ti_0, ti_1, ti_2, ti_3, ti_4, ti_5, ti_6, ti_7, ti_8, ti_9, ti_10, ti_11, ti_12, ti_16, ti_20, ti_25, ti_31, ti_40, ti_50, ti_60, ti_61, ti_63, ti_80, ti_99, ti_100, ti_200, ti_300, ti_500, ti_800, ti_1000, ti_3200, ti_10000, ti_1000000] at *) <;> (repeat split) <;> first | rfl | (exfalso; omega), rfl⟩
    · refine sg_iconst 1 dX7_in_10 (by decide) ?_
      refine sg_goto 15 dX7_in_11 (by decide) ?_
      refine sg_zreturn dX7_in_15 rfl (by first | decide | assumption) (Nat.le_of_ble_eq_true rfl) (Nat.le_of_ble_eq_true rfl) ?_
      exact ⟨by (try simp only [Int32.lt_iff_toInt_lt, Int32.le_iff_toInt_le, ← Int32.toInt_inj, ti_m2, ti_m1, ti_0, ti_1, ti_2, ti_3, ti_4, ti_5, ti_6, ti_7, ti_8, ti_9, ti_10, ti_11, ti_12, ti_16, ti_20, ti_25, ti_31, ti_40, ti_50, ti_60, ti_61, ti_63, ti_80, ti_99, ti_100, ti_200, ti_300, ti_500, ti_800, ti_1000, ti_3200, ti_10000, ti_1000000] at *) <;> (repeat split) <;> first | rfl | (exfalso; omega), rfl⟩
theorem c_has {q g m : Nat} {len ow nm : Int32} (i : Int32) (hM : M[q]? = some (sm_o 4 [.ref g, .ref m, .int len, .int ow, .int nm])) : sm_Ct l b D cA yX4_has cX4_has 2 (some .boolean) 0 0 0 [.ref q, .int i] M (fun r M1 => r = some (.int (if 0 ≤ i.toInt ∧ i.toInt < len.toInt ∧ i.toInt < 80 then 1 else 0)) ∧ M1 = M) := by
  refine sm_enter (by decide +kernel) rfl (fun _ => Nat.le_of_ble_eq_true rfl) ?_
  refine sg_iload_n dX4_has_0 rfl ?_
  refine sg_if_lt 22 dX4_has_1 (by decide) (fun c_1 => ?_) (fun c_1 => ?_)
  · refine sg_iconst 0 dX4_has_22 (by decide) ?_
    refine sg_zreturn dX4_has_23 rfl (by first | decide | assumption) (Nat.le_of_ble_eq_true rfl) (Nat.le_of_ble_eq_true rfl) ?_
    exact ⟨by (try simp only [Int32.lt_iff_toInt_lt, Int32.le_iff_toInt_le, ← Int32.toInt_inj, ti_m2, ti_m1, ti_0, ti_1, ti_2, ti_3, ti_4, ti_5, ti_6, ti_7, ti_8, ti_9, ti_10, ti_11, ti_12, ti_16, ti_20, ti_25, ti_31, ti_40, ti_50, ti_60, ti_61, ti_63, ti_80, ti_99, ti_100, ti_200, ti_300, ti_500, ti_800, ti_1000, ti_3200, ti_10000, ti_1000000] at *) <;> (repeat split) <;> first | rfl | (exfalso; omega), rfl⟩
  · refine sg_iload_n dX4_has_4 rfl ?_
    refine sg_aload_n dX4_has_5 rfl ?_
    refine sg_get dX4_has_6 fl_X4_18 (by first | rfl | assumption) rfl ?_
    refine sg_icmp_ge 22 dX4_has_9 (by decide) (fun c_9 => ?_) (fun c_9 => ?_)
    · refine sg_iconst 0 dX4_has_22 (by decide) ?_
      refine sg_zreturn dX4_has_23 rfl (by first | decide | assumption) (Nat.le_of_ble_eq_true rfl) (Nat.le_of_ble_eq_true rfl) ?_
      exact ⟨by (try simp only [Int32.lt_iff_toInt_lt, Int32.le_iff_toInt_le, ← Int32.toInt_inj, ti_m2, ti_m1, ti_0, ti_1, ti_2, ti_3, ti_4, ti_5, ti_6, ti_7, ti_8, ti_9, ti_10, ti_11, ti_12, ti_16, ti_20, ti_25, ti_31, ti_40, ti_50, ti_60, ti_61, ti_63, ti_80, ti_99, ti_100, ti_200, ti_300, ti_500, ti_800, ti_1000, ti_3200, ti_10000, ti_1000000] at *) <;> (repeat split) <;> first | rfl | (exfalso; omega), rfl⟩
    · refine sg_iload_n dX4_has_12 rfl ?_
      refine sg_bipush 80 dX4_has_13 (by decide) ?_
      refine sg_icmp_ge 22 dX4_has_15 (by decide) (fun c_15 => ?_) (fun c_15 => ?_)
      · refine sg_iconst 0 dX4_has_22 (by decide) ?_
        refine sg_zreturn dX4_has_23 rfl (by first | decide | assumption) (Nat.le_of_ble_eq_true rfl) (Nat.le_of_ble_eq_true rfl) ?_
        exact ⟨by (try simp only [Int32.lt_iff_toInt_lt, Int32.le_iff_toInt_le, ← Int32.toInt_inj, ti_m2, ti_m1, ti_0, ti_1, ti_2, ti_3, ti_4, ti_5, ti_6, ti_7, ti_8, ti_9, ti_10, ti_11, ti_12, ti_16, ti_20, ti_25, ti_31, ti_40, ti_50, ti_60, ti_61, ti_63, ti_80, ti_99, ti_100, ti_200, ti_300, ti_500, ti_800, ti_1000, ti_3200, ti_10000, ti_1000000] at *) <;> (repeat split) <;> first | rfl | (exfalso; omega), rfl⟩
      · refine sg_iconst 1 dX4_has_18 (by decide) ?_
        refine sg_goto 23 dX4_has_19 (by decide) ?_
        refine sg_zreturn dX4_has_23 rfl (by first | decide | assumption) (Nat.le_of_ble_eq_true rfl) (Nat.le_of_ble_eq_true rfl) ?_
        exact ⟨by (try simp only [Int32.lt_iff_toInt_lt, Int32.le_iff_toInt_le, ← Int32.toInt_inj, ti_m2, ti_m1, ti_0, ti_1, ti_2, ti_3, ti_4, ti_5, ti_6, ti_7, ti_8, ti_9, ti_10, ti_11, ti_12, ti_16, ti_20, ti_25, ti_31, ti_40, ti_50, ti_60, ti_61, ti_63, ti_80, ti_99, ti_100, ti_200, ti_300, ti_500, ti_800, ti_1000, ti_3200, ti_10000, ti_1000000] at *) <;> (repeat split) <;> first | rfl | (exfalso; omega), rfl⟩
theorem c_spans {q g m : Nat} {len ow nm : Int32} (hM : M[q]? = some (sm_o 4 [.ref g, .ref m, .int len, .int ow, .int nm])) : sm_Ct l b D cA yX4_spans cX4_spans 1 (some .int) 0 0 0 [.ref q] M (fun r M1 => r = some (.int (len / 10)) ∧ M1 = M) := by
  refine sm_enter (by decide +kernel) rfl (fun _ => Nat.le_of_ble_eq_true rfl) ?_
  refine sg_aload_n dX4_spans_0 rfl ?_
  refine sg_get dX4_spans_1 fl_X4_18 (by first | rfl | assumption) rfl ?_
  refine sg_bipush 10 dX4_spans_4 (by decide) ?_
  refine sg_idiv dX4_spans_6 (by decide) ?_
  refine sg_ireturn dX4_spans_7 rfl (Nat.le_of_ble_eq_true rfl) (Nat.le_of_ble_eq_true rfl) ?_
  exact ⟨by (try simp only [Int32.lt_iff_toInt_lt, Int32.le_iff_toInt_le, ← Int32.toInt_inj, ti_m2, ti_m1, ti_0, ti_1, ti_2, ti_3, ti_4, ti_5, ti_6, ti_7, ti_8, ti_9, ti_10, ti_11, ti_12, ti_16, ti_20, ti_25, ti_31, ti_40, ti_50, ti_60, ti_61, ti_63, ti_80, ti_99, ti_100, ti_200, ti_300, ti_500, ti_800, ti_1000, ti_3200, ti_10000, ti_1000000] at *) <;> (repeat split) <;> first | rfl | (exfalso; omega), rfl⟩
end SM20
