/-! ShellMoney: what set() replaces; names of what is cut and joined -/
section SM31
variable {l : Launch} {b : Nat} {D : va_G} {cA : Nat → ClassId} {M : sm_M}
theorem c_replaced {q : Nat} {f : Nat → Int32} (g v lo hi : Int32) (hq : M[q]? = some (sm_i 5 f)) : sm_Ct l b D cA yX6_replaced cX6_replaced 6 (some .int) 0 0 0 [.ref q, .int g, .int v, .int lo, .int hi] M (fun r M1 => (((0 ≤ g.toInt ∧ g.toInt < 5) ∧ lo.toInt ≤ v.toInt ∧ v.toInt ≤ hi.toInt) → r = some (.int (f g.toInt.toNat)) ∧ M1 = M.set q (sm_i 5 (upd f g.toInt.toNat v))) ∧ (¬ ((0 ≤ g.toInt ∧ g.toInt < 5) ∧ lo.toInt ≤ v.toInt ∧ v.toInt ≤ hi.toInt) → r = some (.int (-1)) ∧ M1 = M)) := by
  refine sm_enter (by decide +kernel) rfl (fun _ => Nat.le_of_ble_eq_true rfl) ?_
  refine sg_iload_n dX6_replaced_0 rfl ?_
  refine sg_if_lt 21 dX6_replaced_1 (by decide) (fun c1 => ?_) (fun c1 => ?_)
  · simp only [Int32.lt_iff_toInt_lt, ti_0] at c1
    refine sg_iconst (-1) dX6_replaced_21 (by decide) ?_
    refine sg_ireturn dX6_replaced_22 rfl (Nat.le_of_ble_eq_true rfl) (Nat.le_of_ble_eq_true rfl) ?_
    exact ⟨fun q => absurd q (by omega), fun _ => ⟨rfl, rfl⟩⟩
  · simp only [Int32.lt_iff_toInt_lt, ti_0] at c1
    refine sg_iload_n dX6_replaced_4 rfl ?_
    refine sg_aload_n dX6_replaced_5 rfl ?_
    refine sg_alen dX6_replaced_6 (by first | rfl | assumption) ?_
    refine sg_icmp_ge 21 dX6_replaced_7 (by decide) (fun c2 => ?_) (fun c2 => ?_)
    · rw [Int32.le_iff_toInt_le, nI_toInt (by decide)] at c2
      refine sg_iconst (-1) dX6_replaced_21 (by decide) ?_
      refine sg_ireturn dX6_replaced_22 rfl (Nat.le_of_ble_eq_true rfl) (Nat.le_of_ble_eq_true rfl) ?_
      exact ⟨fun q => absurd q (by omega), fun _ => ⟨rfl, rfl⟩⟩
    · rw [Int32.le_iff_toInt_le, nI_toInt (by decide)] at c2
      refine sg_iload_n dX6_replaced_10 rfl ?_
      refine sg_iload_n dX6_replaced_11 rfl ?_
      refine sg_icmp_lt 21 dX6_replaced_12 (by decide) (fun c3 => ?_) (fun c3 => ?_)
      · rw [Int32.lt_iff_toInt_lt] at c3
        refine sg_iconst (-1) dX6_replaced_21 (by decide) ?_
        refine sg_ireturn dX6_replaced_22 rfl (Nat.le_of_ble_eq_true rfl) (Nat.le_of_ble_eq_true rfl) ?_
        exact ⟨fun q => absurd q (by omega), fun _ => ⟨rfl, rfl⟩⟩
      · rw [Int32.lt_iff_toInt_lt] at c3
        refine sg_iload_n dX6_replaced_15 rfl ?_
        refine sg_iload dX6_replaced_16 rfl ?_
        refine sg_icmp_le 23 dX6_replaced_18 (by decide) (fun c4 => ?_) (fun c4 => ?_)
        · rw [Int32.le_iff_toInt_le] at c4
          refine sg_aload_n dX6_replaced_23 rfl ?_
          refine sg_iload_n dX6_replaced_24 rfl ?_
          refine sg_ald (g.toInt.toNat) dX6_replaced_25 (by first | rfl | assumption) (sm_asN (by omega)) (by omega) (by decide) ?_
          refine sg_istore dX6_replaced_26 (by decide) ?_
          refine sg_aload_n dX6_replaced_28 rfl ?_
          refine sg_iload_n dX6_replaced_29 rfl ?_
          refine sg_iload_n dX6_replaced_30 rfl ?_
          refine sg_ast (g.toInt.toNat) dX6_replaced_31 (by first | rfl | assumption) (sm_asN (by omega)) (by omega) (by decide) ?_
          refine sg_iload dX6_replaced_32 rfl ?_
          refine sg_ireturn dX6_replaced_34 rfl (Nat.le_of_ble_eq_true rfl) (Nat.le_of_ble_eq_true rfl) ?_
          exact ⟨fun _ => ⟨rfl, rfl⟩, fun q => absurd ⟨⟨by omega, by omega⟩, by omega, by omega⟩ q⟩
        · rw [Int32.le_iff_toInt_le] at c4
          refine sg_iconst (-1) dX6_replaced_21 (by decide) ?_
          refine sg_ireturn dX6_replaced_22 rfl (Nat.le_of_ble_eq_true rfl) (Nat.le_of_ble_eq_true rfl) ?_
          exact ⟨fun q => absurd q (by omega), fun _ => ⟨rfl, rfl⟩⟩
theorem c_replacedFame {c dc : Nat} {cu it yr fame : Int32} {sa da : Nat → Option Nat} {r1 r2 r3 r4 : Nat → Int32} (v : Int32) (hr : sm_rates M r1 r2 r3 r4 fame) (h : sm_X M c dc cu it yr sa da) : sm_Ct l b D cA yX6_replacedFame cX6_replacedFame 3 (some .int) 0 0 0 [.ref 0, .int v] M (fun r M1 => ((0 ≤ v.toInt ∧ v.toInt ≤ 500) → r = some (.int fame) ∧ sm_ex M M1 [3] ∧ sm_rates M1 r1 r2 r3 r4 v) ∧ (¬ (0 ≤ v.toInt ∧ v.toInt ≤ 500) → r = some (.int (-1)) ∧ M1 = M)) := by
  obtain ⟨h0, h1, h16⟩ := h
  obtain ⟨h3, h4, h5, h6, h7⟩ := hr
  refine sm_enter (by decide +kernel) rfl (fun _ => Nat.le_of_ble_eq_true rfl) ?_
  refine sg_iload_n dX6_replacedFame_0 rfl ?_
  refine sg_if_lt 11 dX6_replacedFame_1 (by decide) (fun c1 => ?_) (fun c1 => ?_)
  · simp only [Int32.lt_iff_toInt_lt, ti_0] at c1
    refine sg_iconst (-1) dX6_replacedFame_11 (by decide) ?_
    refine sg_ireturn dX6_replacedFame_12 rfl (Nat.le_of_ble_eq_true rfl) (Nat.le_of_ble_eq_true rfl) ?_
    exact ⟨fun q => absurd q (by omega), fun _ => ⟨rfl, rfl⟩⟩
  · simp only [Int32.lt_iff_toInt_lt, ti_0] at c1
    refine sg_iload_n dX6_replacedFame_4 rfl ?_
    refine sg_sipush 500 dX6_replacedFame_5 (by decide) ?_
    refine sg_icmp_le 13 dX6_replacedFame_8 (by decide) (fun c2 => ?_) (fun c2 => ?_)
    · simp only [Int32.le_iff_toInt_le, ti_500] at c2
      refine sg_aload_n dX6_replacedFame_13 rfl ?_
      refine sg_get dX6_replacedFame_14 fl_X6_26 (by first | rfl | assumption) rfl ?_
      refine sg_get dX6_replacedFame_17 fl_X6_278 (by first | rfl | assumption) rfl ?_
      refine sg_istore_n dX6_replacedFame_20 (by decide) ?_
      refine sg_aload_n dX6_replacedFame_21 rfl ?_
      refine sg_get dX6_replacedFame_22 fl_X6_26 (by first | rfl | assumption) rfl ?_
      refine sg_iload_n dX6_replacedFame_25 rfl ?_
      refine sg_putx dX6_replacedFame_26 fl_X6_278 ft_X3_4 h3 (Nat.le_of_ble_eq_true rfl) (fun M2 x2 q2 => ?_)
      refine sg_iload_n dX6_replacedFame_29 rfl ?_
      refine sg_ireturn dX6_replacedFame_30 rfl (Nat.le_of_ble_eq_true rfl) (Nat.le_of_ble_eq_true rfl) ?_
      exact ⟨fun _ => ⟨rfl, x2, q2, (x2.2 4 (by decide)).trans h4, (x2.2 5 (by decide)).trans h5, (x2.2 6 (by decide)).trans h6, (x2.2 7 (by decide)).trans h7⟩, fun q => absurd ⟨by omega, by omega⟩ q⟩
    · simp only [Int32.le_iff_toInt_le, ti_500] at c2
      refine sg_iconst (-1) dX6_replacedFame_11 (by decide) ?_
      refine sg_ireturn dX6_replacedFame_12 rfl (Nat.le_of_ble_eq_true rfl) (Nat.le_of_ble_eq_true rfl) ?_
      exact ⟨fun q => absurd q (by omega), fun _ => ⟨rfl, rfl⟩⟩
theorem c_replacedCustom {c dc : Nat} {cu it yr : Int32} {sa da : Nat → Option Nat} (v : Int32) (h : sm_X M c dc cu it yr sa da) : sm_Ct l b D cA yX6_replacedCustom cX6_replacedCustom 3 (some .int) 0 0 0 [.ref 0, .int v] M (fun r M1 => ((0 ≤ v.toInt ∧ v.toInt ≤ 1) → r = some (.int cu) ∧ sm_ex M M1 [0] ∧ sm_X M1 c dc v it yr sa da) ∧ (¬ (0 ≤ v.toInt ∧ v.toInt ≤ 1) → r = some (.int (-1)) ∧ M1 = M)) := by
  obtain ⟨h0, h1, h16⟩ := h
  refine sm_enter (by decide +kernel) rfl (fun _ => Nat.le_of_ble_eq_true rfl) ?_
  refine sg_iload_n dX6_replacedCustom_0 rfl ?_
  refine sg_if_lt 9 dX6_replacedCustom_1 (by decide) (fun c1 => ?_) (fun c1 => ?_)
  · simp only [Int32.lt_iff_toInt_lt, ti_0] at c1
    refine sg_iconst (-1) dX6_replacedCustom_9 (by decide) ?_
    refine sg_ireturn dX6_replacedCustom_10 rfl (Nat.le_of_ble_eq_true rfl) (Nat.le_of_ble_eq_true rfl) ?_
    exact ⟨fun q => absurd q (by omega), fun _ => ⟨rfl, rfl⟩⟩
  · simp only [Int32.lt_iff_toInt_lt, ti_0] at c1
    refine sg_iload_n dX6_replacedCustom_4 rfl ?_
    refine sg_iconst 1 dX6_replacedCustom_5 (by decide) ?_
    refine sg_icmp_le 11 dX6_replacedCustom_6 (by decide) (fun c2 => ?_) (fun c2 => ?_)
    · simp only [Int32.le_iff_toInt_le, ti_1] at c2
      refine sg_aload_n dX6_replacedCustom_11 rfl ?_
      refine sg_get dX6_replacedCustom_12 fl_X6_60 (by first | rfl | assumption) rfl ?_
      refine sg_istore_n dX6_replacedCustom_15 (by decide) ?_
      refine sg_aload_n dX6_replacedCustom_16 rfl ?_
      refine sg_iload_n dX6_replacedCustom_17 rfl ?_
      refine sg_putx dX6_replacedCustom_18 fl_X6_60 ft_X6_9 h0 (Nat.le_of_ble_eq_true rfl) (fun M2 x2 q2 => ?_)
      refine sg_iload_n dX6_replacedCustom_21 rfl ?_
      refine sg_ireturn dX6_replacedCustom_22 rfl (Nat.le_of_ble_eq_true rfl) (Nat.le_of_ble_eq_true rfl) ?_
      exact ⟨fun _ => ⟨rfl, x2, q2, (x2.2 1 (by decide)).trans h1, (x2.2 16 (by decide)).trans h16⟩, fun q => absurd ⟨by omega, by omega⟩ q⟩
    · simp only [Int32.le_iff_toInt_le, ti_1] at c2
      refine sg_iconst (-1) dX6_replacedCustom_9 (by decide) ?_
      refine sg_ireturn dX6_replacedCustom_10 rfl (Nat.le_of_ble_eq_true rfl) (Nat.le_of_ble_eq_true rfl) ?_
      exact ⟨fun q => absurd q (by omega), fun _ => ⟨rfl, rfl⟩⟩
theorem c_replacedInterest {c dc : Nat} {cu it yr : Int32} {sa da : Nat → Option Nat} (v : Int32) (h : sm_X M c dc cu it yr sa da) : sm_Ct l b D cA yX6_replacedInterest cX6_replacedInterest 3 (some .int) 0 0 0 [.ref 0, .int v] M (fun r M1 => ((0 ≤ v.toInt ∧ v.toInt ≤ 50) → r = some (.int it) ∧ sm_ex M M1 [0] ∧ sm_X M1 c dc cu v yr sa da) ∧ (¬ (0 ≤ v.toInt ∧ v.toInt ≤ 50) → r = some (.int (-1)) ∧ M1 = M)) := by
  obtain ⟨h0, h1, h16⟩ := h
  refine sm_enter (by decide +kernel) rfl (fun _ => Nat.le_of_ble_eq_true rfl) ?_
  refine sg_iload_n dX6_replacedInterest_0 rfl ?_
  refine sg_if_lt 10 dX6_replacedInterest_1 (by decide) (fun c1 => ?_) (fun c1 => ?_)
  · simp only [Int32.lt_iff_toInt_lt, ti_0] at c1
    refine sg_iconst (-1) dX6_replacedInterest_10 (by decide) ?_
    refine sg_ireturn dX6_replacedInterest_11 rfl (Nat.le_of_ble_eq_true rfl) (Nat.le_of_ble_eq_true rfl) ?_
    exact ⟨fun q => absurd q (by omega), fun _ => ⟨rfl, rfl⟩⟩
  · simp only [Int32.lt_iff_toInt_lt, ti_0] at c1
    refine sg_iload_n dX6_replacedInterest_4 rfl ?_
    refine sg_bipush 50 dX6_replacedInterest_5 (by decide) ?_
    refine sg_icmp_le 12 dX6_replacedInterest_7 (by decide) (fun c2 => ?_) (fun c2 => ?_)
    · simp only [Int32.le_iff_toInt_le, ti_50] at c2
      refine sg_aload_n dX6_replacedInterest_12 rfl ?_
      refine sg_get dX6_replacedInterest_13 fl_X6_63 (by first | rfl | assumption) rfl ?_
      refine sg_istore_n dX6_replacedInterest_16 (by decide) ?_
      refine sg_aload_n dX6_replacedInterest_17 rfl ?_
      refine sg_iload_n dX6_replacedInterest_18 rfl ?_
      refine sg_putx dX6_replacedInterest_19 fl_X6_63 ft_X6_10 h0 (Nat.le_of_ble_eq_true rfl) (fun M2 x2 q2 => ?_)
      refine sg_iload_n dX6_replacedInterest_22 rfl ?_
      refine sg_ireturn dX6_replacedInterest_23 rfl (Nat.le_of_ble_eq_true rfl) (Nat.le_of_ble_eq_true rfl) ?_
      exact ⟨fun _ => ⟨rfl, x2, q2, (x2.2 1 (by decide)).trans h1, (x2.2 16 (by decide)).trans h16⟩, fun q => absurd ⟨by omega, by omega⟩ q⟩
    · simp only [Int32.le_iff_toInt_le, ti_50] at c2
      refine sg_iconst (-1) dX6_replacedInterest_10 (by decide) ?_
      refine sg_ireturn dX6_replacedInterest_11 rfl (Nat.le_of_ble_eq_true rfl) (Nat.le_of_ble_eq_true rfl) ?_
      exact ⟨fun q => absurd q (by omega), fun _ => ⟨rfl, rfl⟩⟩
theorem sm_lt41 {z q : Nat} (h : 41 ≤ q) (hz : z ∈ [0, 1, 16] ∨ z ∈ [8, 9, 10, 11, 12]) : z ∉ [q] := by
  simp only [List.mem_cons, List.not_mem_nil, or_false] at hz
  exact sm_ge41 h (by omega)
/-- the name of a strand that was cut (it has one; the rest has none) -/
theorem c_settleNameOfCut {c dc q1 g1 m1 n1 q2 g2 m2 n2 : Nat} {cu it yr o1 o2 nm : Int32} {sa da : Nat → Option Nat} {τ : sm_T5} (ha : 41 ≤ q1) (hb : 41 ≤ q2) (hq : q1 ≠ q2) (hn1 : n1 ≤ 80) (hn2 : n2 ≤ 80) (h1 : M[q1]? = some (sm_o 4 [.ref g1, .ref m1, .int (nI n1), .int o1, .int nm])) (h2 : M[q2]? = some (sm_o 4 [.ref g2, .ref m2, .int (nI n2), .int o2, .int 0])) (ht : sm_t5 M τ) (hz : τ.1 < 200) (hnm : ¬ nm = 0) (h : sm_X M c dc cu it yr sa da) : sm_Ct l b D cA yX6_settleNameOfCut cX6_settleNameOfCut 5 none 2 0 0 [.ref 0, .ref q1, .ref q2] M (fun r M1 => r = none ∧ sm_ex M M1 [q1, q2, 8, 9, 10, 11, 12] ∧ M1[q1]? = some (sm_o 4 [.ref g1, .ref m1, .int (nI n1), .int o1, .int (if cu = 0 ∨ n1 < n2 then 0 else nm)]) ∧ M1[q2]? = some (sm_o 4 [.ref g2, .ref m2, .int (nI n2), .int o2, .int (if ¬ cu = 0 ∧ n1 < n2 then nm else 0)]) ∧ sm_t5 M1 (if cu = 0 then sm_say nm 5 0 yr τ else sm_say nm 3 (nI (if n1 < n2 then n2 else n1)) yr τ)) := by
  obtain ⟨h0, hx1, hx16⟩ := id h
  refine sm_enter (by decide +kernel) rfl (fun _ => Nat.le_of_ble_eq_true rfl) ?_
  refine sg_aload_n dX6_settleNameOfCut_0 rfl ?_
  refine sg_get dX6_settleNameOfCut_1 fl_X6_60 (by first | rfl | assumption) rfl ?_
  refine sg_if_ne 13 dX6_settleNameOfCut_4 (by decide) (fun c1 => ?_) (fun c1 => ?_)
  · rw [if_neg c1]
    refine sg_aload_n dX6_settleNameOfCut_13 rfl ?_
    refine sg_get dX6_settleNameOfCut_14 fl_X6_96 (by first | rfl | assumption) rfl ?_
    refine sg_aload_n dX6_settleNameOfCut_17 rfl ?_
    refine sg_get dX6_settleNameOfCut_18 fl_X6_96 (by first | rfl | assumption) rfl ?_
    refine sg_icmp_le 28 dX6_settleNameOfCut_21 (by decide) (fun c2 => ?_) (fun c2 => ?_)
    · rw [nI_leI (by omega) (by omega)] at c2
      rw [show (if cu = 0 ∨ n1 < n2 then (0 : Int32) else nm) = nm from if_neg (fun q => q.elim c1 (fun q => by omega)), show (if ¬ cu = 0 ∧ n1 < n2 then nm else (0 : Int32)) = 0 from if_neg (fun q => by have := q.2; omega), show (if n1 < n2 then n2 else n1) = n1 from if_neg (by omega)]
      refine sg_aload_n dX6_settleNameOfCut_28 rfl ?_
      refine sg_astore_n dX6_settleNameOfCut_29 (by decide) ?_
      refine sg_aload_n dX6_settleNameOfCut_30 rfl ?_
      refine sg_get dX6_settleNameOfCut_31 fl_X6_112 (by first | rfl | assumption) rfl ?_
      refine sg_istore dX6_settleNameOfCut_34 (by decide) ?_
      refine sg_aload_n dX6_settleNameOfCut_36 rfl ?_
      refine sg_iconst 0 dX6_settleNameOfCut_37 (by decide) ?_
      refine sg_putx dX6_settleNameOfCut_38 fl_X6_112 ft_X4_4 h1 (Nat.le_of_ble_eq_true rfl) (fun M2 x2 q2' => ?_)
      refine sg_aload_n dX6_settleNameOfCut_41 rfl ?_
      refine sg_iload dX6_settleNameOfCut_42 rfl ?_
      refine sg_putx dX6_settleNameOfCut_44 fl_X6_112 ft_X4_4 q2' (Nat.le_of_ble_eq_true rfl) (fun M3 x3 q3 => ?_)
      have x23 := x2.tr x3
      have t3 := ht.ex x23 (fun z hz => sm_lt41 ha (Or.inr hz))
      have k3 := h.ex x23 (fun z hz => sm_lt41 ha (Or.inl hz))
      have k0 := k3.1
      refine sg_aload_n dX6_settleNameOfCut_47 rfl ?_
      refine sg_get dX6_settleNameOfCut_48 fl_X6_33 (by first | rfl | assumption) rfl ?_
      refine sg_iload dX6_settleNameOfCut_51 rfl ?_
      refine sg_iconst 3 dX6_settleNameOfCut_53 (by decide) ?_
      refine sg_aload_n dX6_settleNameOfCut_54 rfl ?_
      refine sg_get dX6_settleNameOfCut_55 fl_X6_96 (by first | rfl | assumption) rfl ?_
      refine sg_aload_n dX6_settleNameOfCut_58 rfl ?_
      refine sg_get dX6_settleNameOfCut_59 fl_X6_66 (by first | rfl | assumption) rfl ?_
      refine sg_V4 dX6_settleNameOfCut_62 cv_X6_136 t3.1 (c_tell nm 3 (nI n1) yr hz t3) (Nat.le_of_ble_eq_true rfl) (Nat.le_of_ble_eq_true rfl) (Nat.le_of_ble_eq_true rfl) (Nat.le_of_ble_eq_true rfl) (fun r9 M9 hp => ?_)
      obtain ⟨rfl, x9, t9⟩ := hp
      refine sg_return dX6_settleNameOfCut_65 rfl (Nat.le_of_ble_eq_true rfl) (Nat.le_of_ble_eq_true rfl) ?_
      exact ⟨rfl, (x23.mono (fun z hz => by rw [List.mem_singleton.mp hz]; exact List.mem_cons_self)).tr (x9.mono (fun z hz => List.mem_cons_of_mem _ (List.mem_cons_of_mem _ hz))), (x9.2 q1 (sm_le41 ha)).trans q3, (x9.2 q2 (sm_le41 hb)).trans ((x23.2 q2 (fun e => hq (List.mem_singleton.mp e).symm)).trans h2), t9⟩
    · rw [nI_leI (by omega) (by omega)] at c2
      rw [show (if cu = 0 ∨ n1 < n2 then (0 : Int32) else nm) = 0 from if_pos (Or.inr (by omega)), show (if ¬ cu = 0 ∧ n1 < n2 then nm else (0 : Int32)) = nm from if_pos ⟨c1, by omega⟩, show (if n1 < n2 then n2 else n1) = n2 from if_pos (by omega)]
      refine sg_aload_n dX6_settleNameOfCut_24 rfl ?_
      refine sg_goto 29 dX6_settleNameOfCut_25 (by decide) ?_
      refine sg_astore_n dX6_settleNameOfCut_29 (by decide) ?_
      refine sg_aload_n dX6_settleNameOfCut_30 rfl ?_
      refine sg_get dX6_settleNameOfCut_31 fl_X6_112 (by first | rfl | assumption) rfl ?_
      refine sg_istore dX6_settleNameOfCut_34 (by decide) ?_
      refine sg_aload_n dX6_settleNameOfCut_36 rfl ?_
      refine sg_iconst 0 dX6_settleNameOfCut_37 (by decide) ?_
      refine sg_putx dX6_settleNameOfCut_38 fl_X6_112 ft_X4_4 h1 (Nat.le_of_ble_eq_true rfl) (fun M2 x2 q2' => ?_)
      have a2 := (x2.2 q2 (fun e => hq (List.mem_singleton.mp e).symm)).trans h2
      refine sg_aload_n dX6_settleNameOfCut_41 rfl ?_
      refine sg_iload dX6_settleNameOfCut_42 rfl ?_
      refine sg_putx dX6_settleNameOfCut_44 fl_X6_112 ft_X4_4 a2 (Nat.le_of_ble_eq_true rfl) (fun M3 x3 q3 => ?_)
      have b1 := (x3.2 q1 (fun e => hq (List.mem_singleton.mp e))).trans q2'
      have t3 := (ht.ex x2 (fun z hz => sm_lt41 ha (Or.inr hz))).ex x3 (fun z hz => sm_lt41 hb (Or.inr hz))
      have k3 := (h.ex x2 (fun z hz => sm_lt41 ha (Or.inl hz))).ex x3 (fun z hz => sm_lt41 hb (Or.inl hz))
      have k0 := k3.1
      refine sg_aload_n dX6_settleNameOfCut_47 rfl ?_
      refine sg_get dX6_settleNameOfCut_48 fl_X6_33 (by first | rfl | assumption) rfl ?_
      refine sg_iload dX6_settleNameOfCut_51 rfl ?_
      refine sg_iconst 3 dX6_settleNameOfCut_53 (by decide) ?_
      refine sg_aload_n dX6_settleNameOfCut_54 rfl ?_
      refine sg_get dX6_settleNameOfCut_55 fl_X6_96 (by first | rfl | assumption) rfl ?_
      refine sg_aload_n dX6_settleNameOfCut_58 rfl ?_
      refine sg_get dX6_settleNameOfCut_59 fl_X6_66 (by first | rfl | assumption) rfl ?_
      refine sg_V4 dX6_settleNameOfCut_62 cv_X6_136 t3.1 (c_tell nm 3 (nI n2) yr hz t3) (Nat.le_of_ble_eq_true rfl) (Nat.le_of_ble_eq_true rfl) (Nat.le_of_ble_eq_true rfl) (Nat.le_of_ble_eq_true rfl) (fun r9 M9 hp => ?_)
      obtain ⟨rfl, x9, t9⟩ := hp
      refine sg_return dX6_settleNameOfCut_65 rfl (Nat.le_of_ble_eq_true rfl) (Nat.le_of_ble_eq_true rfl) ?_
      exact ⟨rfl, (x2.mono (fun z hz => by rw [List.mem_singleton.mp hz]; exact List.mem_cons_self)).tr ((x3.mono (fun z hz => by rw [List.mem_singleton.mp hz]; exact List.mem_cons_of_mem _ List.mem_cons_self)).tr (x9.mono (fun z hz => List.mem_cons_of_mem _ (List.mem_cons_of_mem _ hz)))), (x9.2 q1 (sm_le41 ha)).trans b1, (x9.2 q2 (sm_le41 hb)).trans q3, t9⟩
  · rw [show (if cu = 0 ∨ n1 < n2 then (0 : Int32) else nm) = 0 from if_pos (Or.inl c1), show (if ¬ cu = 0 ∧ n1 < n2 then nm else (0 : Int32)) = 0 from if_neg (fun q => q.1 c1), if_pos c1]
    refine sg_aload_n dX6_settleNameOfCut_7 rfl ?_
    refine sg_aload_n dX6_settleNameOfCut_8 rfl ?_
    refine sg_V1 dX6_settleNameOfCut_9 cv_X6_132 h0 (c_loseName ha h1 ht (Or.inr hz) h) (Nat.le_of_ble_eq_true rfl) (Nat.le_of_ble_eq_true rfl) (Nat.le_of_ble_eq_true rfl) (Nat.le_of_ble_eq_true rfl) (fun r9 M9 hp => ?_)
    obtain ⟨rfl, x9, q9, t9⟩ := hp
    unfold sm_sayIf at t9
    rw [if_neg hnm] at t9
    refine sg_return dX6_settleNameOfCut_12 rfl (Nat.le_of_ble_eq_true rfl) (Nat.le_of_ble_eq_true rfl) ?_
    refine ⟨rfl, x9.mono (fun z hz => ?_), q9, (x9.2 q2 (fun e => ?_)).trans h2, t9⟩
    · rcases List.mem_cons.mp hz with e | e
      · rw [e]; exact List.mem_cons_self
      · exact List.mem_cons_of_mem _ (List.mem_cons_of_mem _ e)
    · rcases List.mem_cons.mp e with e | e
      · exact hq e.symm
      · exact sm_le41 hb e
/-- the names of two strands that were joined -/
theorem c_settleNameOfJoined {c dc q1 g1 m1 q2 g2 m2 : Nat} {cu it yr n1 n2 o1 o2 a1 a2 : Int32} {sa da : Nat → Option Nat} {τ : sm_T5} (ha : 41 ≤ q1) (hb : 41 ≤ q2) (hq : q1 ≠ q2) (h1 : M[q1]? = some (sm_o 4 [.ref g1, .ref m1, .int n1, .int o1, .int a1])) (h2 : M[q2]? = some (sm_o 4 [.ref g2, .ref m2, .int n2, .int o2, .int a2])) (ht : sm_t5 M τ) (hz : τ.1 + ((if a1 = 0 then 0 else 1) + (if a2 = 0 then 0 else 1)) ≤ 200) (h : sm_X M c dc cu it yr sa da) : sm_Ct l b D cA yX6_settleNameOfJoined cX6_settleNameOfJoined 3 none 2 0 0 [.ref 0, .ref q1, .ref q2] M (fun r M1 => r = none ∧ sm_ex M M1 [q1, q2, 8, 9, 10, 11, 12] ∧ M1[q1]? = some (sm_o 4 [.ref g1, .ref m1, .int n1, .int o1, .int (if a1 = 0 then a2 else a1)]) ∧ M1[q2]? = some (sm_o 4 [.ref g2, .ref m2, .int n2, .int o2, .int 0]) ∧ sm_t5 M1 (sm_sayIf (if a1 = 0 then a2 else a1) 4 n1 yr (if a1 = 0 then τ else sm_sayIf a2 5 0 yr τ))) := by
  have fin : ∀ (M2 : sm_M) (a : Int32) (τ2 : sm_T5), sm_ex M M2 [q1, q2, 8, 9, 10, 11, 12] → M2[q1]? = some (sm_o 4 [.ref g1, .ref m1, .int n1, .int o1, .int a]) → M2[q2]? = some (sm_o 4 [.ref g2, .ref m2, .int n2, .int o2, .int 0]) → sm_t5 M2 τ2 → (a = 0 ∨ τ2.1 < 200) → sm_X M2 c dc cu it yr sa da → sm_G l b D cA yX6_settleNameOfJoined cX6_settleNameOfJoined 3 none 2 0 0 (fun r M1 => r = none ∧ sm_ex M M1 [q1, q2, 8, 9, 10, 11, 12] ∧ M1[q1]? = some (sm_o 4 [.ref g1, .ref m1, .int n1, .int o1, .int a]) ∧ M1[q2]? = some (sm_o 4 [.ref g2, .ref m2, .int n2, .int o2, .int 0]) ∧ sm_t5 M1 (sm_sayIf a 4 n1 yr τ2)) 0 0 28 [some (.ref 0), some (.ref q1), some (.ref q2)] [] M2 := fun M2 a τ2 x2 k1 k2 t2 z2 kx => by
    have k0 := kx.1
    unfold sm_sayIf
    refine sg_aload_n dX6_settleNameOfJoined_28 rfl ?_
    refine sg_get dX6_settleNameOfJoined_29 fl_X6_112 (by first | rfl | assumption) rfl ?_
    refine sg_if_eq 55 dX6_settleNameOfJoined_32 (by decide) (fun c1 => ?_) (fun c1 => ?_)
    · rw [if_pos c1]
      refine sg_return dX6_settleNameOfJoined_55 rfl (Nat.le_of_ble_eq_true rfl) (Nat.le_of_ble_eq_true rfl) ?_
      exact ⟨rfl, x2, k1, k2, t2⟩
    · rw [if_neg c1]
      refine sg_aload_n dX6_settleNameOfJoined_35 rfl ?_
      refine sg_get dX6_settleNameOfJoined_36 fl_X6_33 (by first | rfl | assumption) rfl ?_
      refine sg_aload_n dX6_settleNameOfJoined_39 rfl ?_
      refine sg_get dX6_settleNameOfJoined_40 fl_X6_112 (by first | rfl | assumption) rfl ?_
      refine sg_iconst 4 dX6_settleNameOfJoined_43 (by decide) ?_
      refine sg_aload_n dX6_settleNameOfJoined_44 rfl ?_
      refine sg_get dX6_settleNameOfJoined_45 fl_X6_96 (by first | rfl | assumption) rfl ?_
      refine sg_aload_n dX6_settleNameOfJoined_48 rfl ?_
      refine sg_get dX6_settleNameOfJoined_49 fl_X6_66 (by first | rfl | assumption) rfl ?_
      refine sg_V4 dX6_settleNameOfJoined_52 cv_X6_136 t2.1 (c_tell a 4 n1 yr (z2.elim (fun e => absurd e c1) id) t2) (Nat.le_of_ble_eq_true rfl) (Nat.le_of_ble_eq_true rfl) (Nat.le_of_ble_eq_true rfl) (Nat.le_of_ble_eq_true rfl) (fun r9 M9 hp => ?_)
      obtain ⟨rfl, x9, t9⟩ := hp
      refine sg_return dX6_settleNameOfJoined_55 rfl (Nat.le_of_ble_eq_true rfl) (Nat.le_of_ble_eq_true rfl) ?_
      exact ⟨rfl, x2.tr (x9.mono (fun z hz => List.mem_cons_of_mem _ (List.mem_cons_of_mem _ hz))), (x9.2 q1 (sm_le41 ha)).trans k1, (x9.2 q2 (sm_le41 hb)).trans k2, t9⟩
  refine sm_enter (by decide +kernel) rfl (fun _ => Nat.le_of_ble_eq_true rfl) ?_
  refine sg_aload_n dX6_settleNameOfJoined_0 rfl ?_
  refine sg_get dX6_settleNameOfJoined_1 fl_X6_112 (by first | rfl | assumption) rfl ?_
  refine sg_if_ne 23 dX6_settleNameOfJoined_4 (by decide) (fun c1 => ?_) (fun c1 => ?_)
  · rw [if_neg c1] at hz
    rw [if_neg c1, if_neg c1]
    have k0 := h.1
    have hz2 : a2 = 0 ∨ τ.1 < 200 := by
      by_cases e : a2 = 0
      · exact Or.inl e
      · rw [if_neg e] at hz
        exact Or.inr (by omega)
    refine sg_aload_n dX6_settleNameOfJoined_23 rfl ?_
    refine sg_aload_n dX6_settleNameOfJoined_24 rfl ?_
    refine sg_V1 dX6_settleNameOfJoined_25 cv_X6_132 k0 (c_loseName hb h2 ht hz2 h) (Nat.le_of_ble_eq_true rfl) (Nat.le_of_ble_eq_true rfl) (Nat.le_of_ble_eq_true rfl) (Nat.le_of_ble_eq_true rfl) (fun r9 M9 hp => ?_)
    obtain ⟨rfl, x9, q9, t9⟩ := hp
    refine fin M9 a1 _ (x9.mono (fun z hz => List.mem_cons_of_mem _ hz)) ((x9.2 q1 (fun e => ?_)).trans h1) q9 t9 (Or.inr ?_) (h.ex x9 (fun z hz => ?_))
    · rcases List.mem_cons.mp e with e | e
      · exact hq e
      · exact sm_le41 ha e
    · unfold sm_sayIf
      by_cases e : a2 = 0
      · rw [if_pos e] at hz ⊢
        omega
      · rw [if_neg e] at hz ⊢
        show τ.1 + 1 < 200
        omega
    · intro e
      rcases List.mem_cons.mp e with e | e
      · simp only [List.mem_cons, List.not_mem_nil, or_false] at hz
        omega
      · simp only [List.mem_cons, List.not_mem_nil, or_false] at hz e
        omega
  · rw [if_pos c1] at hz
    rw [if_pos c1, if_pos c1]
    refine sg_aload_n dX6_settleNameOfJoined_7 rfl ?_
    refine sg_aload_n dX6_settleNameOfJoined_8 rfl ?_
    refine sg_get dX6_settleNameOfJoined_9 fl_X6_112 (by first | rfl | assumption) rfl ?_
    refine sg_putx dX6_settleNameOfJoined_12 fl_X6_112 ft_X4_4 h1 (Nat.le_of_ble_eq_true rfl) (fun M2 x2 q2' => ?_)
    have b2 := (x2.2 q2 (fun e => hq (List.mem_singleton.mp e).symm)).trans h2
    refine sg_aload_n dX6_settleNameOfJoined_15 rfl ?_
    refine sg_iconst 0 dX6_settleNameOfJoined_16 (by decide) ?_
    refine sg_putx dX6_settleNameOfJoined_17 fl_X6_112 ft_X4_4 b2 (Nat.le_of_ble_eq_true rfl) (fun M3 x3 q3 => ?_)
    refine sg_goto 28 dX6_settleNameOfJoined_20 (by decide) ?_
    refine fin M3 a2 τ ((x2.mono (fun z hz => by rw [List.mem_singleton.mp hz]; exact List.mem_cons_self)).tr (x3.mono (fun z hz => by rw [List.mem_singleton.mp hz]; exact List.mem_cons_of_mem _ List.mem_cons_self))) ((x3.2 q1 (fun e => hq (List.mem_singleton.mp e))).trans q2') q3 ((ht.ex x2 (fun z hz => sm_lt41 ha (Or.inr hz))).ex x3 (fun z hz => sm_lt41 hb (Or.inr hz))) ?_ ((h.ex x2 (fun z hz => sm_lt41 ha (Or.inl hz))).ex x3 (fun z hz => sm_lt41 hb (Or.inl hz)))
    by_cases e : a2 = 0
    · exact Or.inl e
    · rw [if_neg e] at hz
      exact Or.inr (by omega)
end SM31
