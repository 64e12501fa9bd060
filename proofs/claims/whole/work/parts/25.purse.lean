/-! the purse, the heap: their small methods -/
def sm_pu (M : sm_M) (n : Nat) (tot ch cs cw : Int32) (fn fw : Nat → Int32) : Prop := M[13]? = some (sm_o 2 [.ref 14, .ref 15, .int (nI n), .int tot, .int ch, .int cs, .int cw]) ∧ M[14]? = some (sm_i 12 fn) ∧ M[15]? = some (sm_i 12 fw)
def sm_hp (M : sm_M) (sz : Nat) (fb fgo fw fp ff : Nat → Int32) : Prop := M[17]? = some (sm_o 1 [.ref 18, .int (nI sz), .ref 19, .ref 20, .ref 21, .ref 22]) ∧ M[18]? = some (sm_i 5 fb) ∧ M[19]? = some (sm_i 60 fgo) ∧ M[20]? = some (sm_i 61 fw) ∧ M[21]? = some (sm_i 61 fp) ∧ M[22]? = some (sm_i 61 ff)
section SM25
variable {l : Launch} {b : Nat} {D : va_G} {cA : Nat → ClassId} {M : sm_M}
theorem c_clear {n : Nat} {tot ch cs cw : Int32} {fn fw : Nat → Int32} (h : sm_pu M n tot ch cs cw fn fw) : sm_Ct l b D cA yX2_clear cX2_clear 1 none 0 0 0 [.ref 13] M (fun r M1 => r = none ∧ sm_ex M M1 [13] ∧ sm_pu M1 0 0 0 0 (-1) fn fw) := by
  obtain ⟨h13, h14, h15⟩ := h
  refine sm_enter (by decide +kernel) rfl (fun _ => Nat.le_of_ble_eq_true rfl) ?_
  refine sg_aload_n dX2_clear_0 rfl ?_
  refine sg_iconst 0 dX2_clear_1 (by decide) ?_
  refine sg_putx dX2_clear_2 fl_X2_18 ft_X2_2 h13 (Nat.le_of_ble_eq_true rfl) (fun M1 x1 q1 => ?_)
  refine sg_aload_n dX2_clear_5 rfl ?_
  refine sg_iconst 0 dX2_clear_6 (by decide) ?_
  refine sg_putx dX2_clear_7 fl_X2_22 ft_X2_3 q1 (Nat.le_of_ble_eq_true rfl) (fun M2 x2 q2 => ?_)
  refine sg_aload_n dX2_clear_10 rfl ?_
  refine sg_iconst 0 dX2_clear_11 (by decide) ?_
  refine sg_putx dX2_clear_12 fl_X2_25 ft_X2_4 q2 (Nat.le_of_ble_eq_true rfl) (fun M3 x3 q3 => ?_)
  refine sg_aload_n dX2_clear_15 rfl ?_
  refine sg_iconst 0 dX2_clear_16 (by decide) ?_
  refine sg_putx dX2_clear_17 fl_X2_28 ft_X2_5 q3 (Nat.le_of_ble_eq_true rfl) (fun M4 x4 q4 => ?_)
  refine sg_aload_n dX2_clear_20 rfl ?_
  refine sg_iconst (-1) dX2_clear_21 (by decide) ?_
  refine sg_putx dX2_clear_22 fl_X2_31 ft_X2_6 q4 (Nat.le_of_ble_eq_true rfl) (fun M5 x5 q5 => ?_)
  have x := x1.tr (x2.tr (x3.tr (x4.tr x5)))
  refine sg_return dX2_clear_25 rfl (Nat.le_of_ble_eq_true rfl) (Nat.le_of_ble_eq_true rfl) ?_
  exact ⟨rfl, x, q5, (x.2 14 (by decide)).trans h14, (x.2 15 (by decide)).trans h15⟩
theorem c_purse_put {n : Nat} {tot ch cs cw : Int32} {fn fw : Nat → Int32} (i w : Int32) (hn : n ≤ 12) (h : sm_pu M n tot ch cs cw fn fw) : sm_Ct l b D cA yX2_put cX2_put 3 (some .boolean) 0 0 0 [.ref 13, .int i, .int w] M (fun r M1 => r = some (.int (if n < 12 then 1 else 0)) ∧ (n < 12 → sm_ex M M1 [13, 14, 15] ∧ sm_pu M1 (n + 1) (tot + w) ch cs cw (upd fn n i) (upd fw n w)) ∧ (¬ n < 12 → M1 = M)) := by
  obtain ⟨h13, h14, h15⟩ := h
  refine sm_enter (by decide +kernel) rfl (fun _ => Nat.le_of_ble_eq_true rfl) ?_
  refine sg_aload_n dX2_put_0 rfl ?_
  refine sg_get dX2_put_1 fl_X2_18 (by first | rfl | assumption) rfl ?_
  refine sg_bipush 12 dX2_put_4 (by decide) ?_
  refine sg_icmp_lt 11 dX2_put_6 (by decide) (fun c => ?_) (fun c => ?_)
  · rw [Int32.lt_iff_toInt_lt, nI_toInt (by omega), ti_12] at c
    refine sg_aload_n dX2_put_11 rfl ?_
    refine sg_get dX2_put_12 fl_X2_9 (by first | rfl | assumption) rfl ?_
    refine sg_aload_n dX2_put_15 rfl ?_
    refine sg_get dX2_put_16 fl_X2_18 (by first | rfl | assumption) rfl ?_
    refine sg_iload_n dX2_put_19 rfl ?_
    refine sg_astx n dX2_put_20 h14 rfl (by omega) (by decide) (fun M1 x1 g1 => ?_)
    have a13 := (x1.2 13 (by decide)).trans h13
    have a15 := (x1.2 15 (by decide)).trans h15
    refine sg_aload_n dX2_put_21 rfl ?_
    refine sg_get dX2_put_22 fl_X2_15 (by first | rfl | assumption) rfl ?_
    refine sg_aload_n dX2_put_25 rfl ?_
    refine sg_get dX2_put_26 fl_X2_18 (by first | rfl | assumption) rfl ?_
    refine sg_iload_n dX2_put_29 rfl ?_
    refine sg_astx n dX2_put_30 a15 rfl (by omega) (by decide) (fun M2 x2 g2 => ?_)
    have b13 := (x2.2 13 (by decide)).trans a13
    have b14 := (x2.2 14 (by decide)).trans g1
    refine sg_aload_n dX2_put_31 rfl ?_
    refine sg_dup dX2_put_32 rfl ?_
    refine sg_get dX2_put_33 fl_X2_18 (by first | rfl | assumption) rfl ?_
    refine sg_iconst 1 dX2_put_36 (by decide) ?_
    refine sg_iadd dX2_put_37 ?_
    refine sg_putx dX2_put_38 fl_X2_18 ft_X2_2 b13 (Nat.le_of_ble_eq_true rfl) (fun M3 x3 q3 => ?_)
    refine sg_aload_n dX2_put_41 rfl ?_
    refine sg_dup dX2_put_42 rfl ?_
    refine sg_get dX2_put_43 fl_X2_22 (by first | rfl | assumption) rfl ?_
    refine sg_iload_n dX2_put_46 rfl ?_
    refine sg_iadd dX2_put_47 ?_
    refine sg_putx dX2_put_48 fl_X2_22 ft_X2_3 q3 (Nat.le_of_ble_eq_true rfl) (fun M4 x4 q4 => ?_)
    rw [nI_1] at q4
    refine sg_iconst 1 dX2_put_51 (by decide) ?_
    refine sg_zreturn dX2_put_52 rfl (by first | decide | assumption) (Nat.le_of_ble_eq_true rfl) (Nat.le_of_ble_eq_true rfl) ?_
    exact ⟨by rw [if_pos (by omega)], fun _ => ⟨(x1.mono (by decide)).tr ((x2.mono (by decide)).tr ((x3.mono (by decide)).tr (x4.mono (by decide)))), q4, ((x3.tr x4).2 14 (by decide)).trans b14, ((x3.tr x4).2 15 (by decide)).trans g2⟩, fun q => absurd (by omega) q⟩
  · rw [Int32.lt_iff_toInt_lt, nI_toInt (by omega), ti_12] at c
    refine sg_iconst 0 dX2_put_9 (by decide) ?_
    refine sg_zreturn dX2_put_10 rfl (by first | decide | assumption) (Nat.le_of_ble_eq_true rfl) (Nat.le_of_ble_eq_true rfl) ?_
    exact ⟨by rw [if_neg (by omega)], fun q => absurd q (by omega), fun _ => rfl⟩
/-- is a set of worth w and size z better than the chosen one -/
def sm_bet (cw cs w z : Int32) : Prop := cw = -1 ∨ w < cw ∨ (w = cw ∧ z < cs)
theorem c_isBetter {n : Nat} {tot ch cs cw : Int32} {fn fw : Nat → Int32} (w z : Int32) (h : sm_pu M n tot ch cs cw fn fw) : sm_Ct l b D cA yX2_isBetter cX2_isBetter 3 (some .boolean) 0 0 0 [.ref 13, .int w, .int z] M (fun r M1 => (∃ x : Int32, r = some (.int x) ∧ (x = 0 ↔ ¬ sm_bet cw cs w z)) ∧ M1 = M) := by
  obtain ⟨h13, h14, h15⟩ := h
  unfold sm_bet
  refine sm_enter (by decide +kernel) rfl (fun _ => Nat.le_of_ble_eq_true rfl) ?_
  refine sg_aload_n dX2_isBetter_0 rfl ?_
  refine sg_get dX2_isBetter_1 fl_X2_31 (by first | rfl | assumption) rfl ?_
  refine sg_iconst (-1) dX2_isBetter_4 (by decide) ?_
  refine sg_icmp_eq 16 dX2_isBetter_5 (by decide) (fun c => ?_) (fun c => ?_)
  · refine sg_iconst 1 dX2_isBetter_16 (by decide) ?_
    refine sg_zreturn dX2_isBetter_17 rfl (by first | decide | assumption) (Nat.le_of_ble_eq_true rfl) (Nat.le_of_ble_eq_true rfl) ?_
    exact ⟨⟨1, rfl, ⟨fun e => absurd e (by decide), fun q => absurd (Or.inl c) q⟩⟩, rfl⟩
  · refine sg_iload_n dX2_isBetter_8 rfl ?_
    refine sg_aload_n dX2_isBetter_9 rfl ?_
    refine sg_get dX2_isBetter_10 fl_X2_31 (by first | rfl | assumption) rfl ?_
    refine sg_icmp_ge 18 dX2_isBetter_13 (by decide) (fun c2 => ?_) (fun c2 => ?_)
    · refine sg_iload_n dX2_isBetter_18 rfl ?_
      refine sg_aload_n dX2_isBetter_19 rfl ?_
      refine sg_get dX2_isBetter_20 fl_X2_31 (by first | rfl | assumption) rfl ?_
      refine sg_icmp_ne 38 dX2_isBetter_23 (by decide) (fun c3 => ?_) (fun c3 => ?_)
      · refine sg_iconst 0 dX2_isBetter_38 (by decide) ?_
        refine sg_zreturn dX2_isBetter_39 rfl (by first | decide | assumption) (Nat.le_of_ble_eq_true rfl) (Nat.le_of_ble_eq_true rfl) ?_
        exact ⟨⟨0, rfl, ⟨fun _ q => q.elim c (fun q => q.elim (fun q => absurd c2 (Int32.not_le.mpr q)) (fun q => c3 q.1)), fun _ => rfl⟩⟩, rfl⟩
      · refine sg_iload_n dX2_isBetter_26 rfl ?_
        refine sg_aload_n dX2_isBetter_27 rfl ?_
        refine sg_get dX2_isBetter_28 fl_X2_28 (by first | rfl | assumption) rfl ?_
        refine sg_icmp_ge 38 dX2_isBetter_31 (by decide) (fun c4 => ?_) (fun c4 => ?_)
        · refine sg_iconst 0 dX2_isBetter_38 (by decide) ?_
          refine sg_zreturn dX2_isBetter_39 rfl (by first | decide | assumption) (Nat.le_of_ble_eq_true rfl) (Nat.le_of_ble_eq_true rfl) ?_
          exact ⟨⟨0, rfl, ⟨fun _ q => q.elim c (fun q => q.elim (fun q => absurd c2 (Int32.not_le.mpr q)) (fun q => absurd c4 (Int32.not_le.mpr q.2))), fun _ => rfl⟩⟩, rfl⟩
        · refine sg_iconst 1 dX2_isBetter_34 (by decide) ?_
          refine sg_goto 39 dX2_isBetter_35 (by decide) ?_
          refine sg_zreturn dX2_isBetter_39 rfl (by first | decide | assumption) (Nat.le_of_ble_eq_true rfl) (Nat.le_of_ble_eq_true rfl) ?_
          exact ⟨⟨1, rfl, ⟨fun e => absurd e (by decide), fun q => absurd (Or.inr (Or.inr ⟨c3, Int32.not_le.mp c4⟩)) q⟩⟩, rfl⟩
    · refine sg_iconst 1 dX2_isBetter_16 (by decide) ?_
      refine sg_zreturn dX2_isBetter_17 rfl (by first | decide | assumption) (Nat.le_of_ble_eq_true rfl) (Nat.le_of_ble_eq_true rfl) ?_
      exact ⟨⟨1, rfl, ⟨fun e => absurd e (by decide), fun q => absurd (Or.inr (Or.inl (Int32.not_le.mp c2))) q⟩⟩, rfl⟩
theorem c_worthAt {n : Nat} {tot ch cs cw i : Int32} {fn fw : Nat → Int32} (j : Nat) (hi : i = nI j) (hj : j < n) (hn : n ≤ 12) (h : sm_pu M n tot ch cs cw fn fw) : sm_Ct l b D cA yX2_worthAt cX2_worthAt 2 (some .int) 0 0 0 [.ref 13, .int i] M (fun r M1 => r = some (.int (fw j)) ∧ M1 = M) := by
  subst hi
  obtain ⟨h13, h14, h15⟩ := h
  refine sm_enter (by decide +kernel) rfl (fun _ => Nat.le_of_ble_eq_true rfl) ?_
  refine sg_iload_n dX2_worthAt_0 rfl ?_
  refine sg_if_lt 27 dX2_worthAt_1 (by decide) (fun c => ?_) (fun c => ?_)
  · exact absurd c (nI_pos (by omega))
  · refine sg_iload_n dX2_worthAt_4 rfl ?_
    refine sg_aload_n dX2_worthAt_5 rfl ?_
    refine sg_get dX2_worthAt_6 fl_X2_18 (by first | rfl | assumption) rfl ?_
    refine sg_icmp_ge 27 dX2_worthAt_9 (by decide) (fun c2 => ?_) (fun c2 => ?_)
    · exact absurd c2 (nI_ge hj (by omega))
    · refine sg_iload_n dX2_worthAt_12 rfl ?_
      refine sg_bipush 12 dX2_worthAt_13 (by decide) ?_
      refine sg_icmp_ge 27 dX2_worthAt_15 (by decide) (fun c3 => ?_) (fun c3 => ?_)
      · rw [Int32.le_iff_toInt_le, nI_toInt (by omega), ti_12] at c3
        exact absurd c3 (by omega)
      · refine sg_aload_n dX2_worthAt_18 rfl ?_
        refine sg_get dX2_worthAt_19 fl_X2_15 (by first | rfl | assumption) rfl ?_
        refine sg_iload_n dX2_worthAt_22 rfl ?_
        refine sg_ald (j) dX2_worthAt_23 (by first | rfl | assumption) (rfl) (by omega) (by decide) ?_
        refine sg_goto 28 dX2_worthAt_24 (by decide) ?_
        refine sg_ireturn dX2_worthAt_28 rfl (Nat.le_of_ble_eq_true rfl) (Nat.le_of_ble_eq_true rfl) ?_
        exact ⟨rfl, rfl⟩
theorem c_chosenAt {n : Nat} {tot ch cs cw i : Int32} {fn fw : Nat → Int32} (j : Nat) (hi : i = nI j) (hj : j < n) (hn : n ≤ 12) (h : sm_pu M n tot ch cs cw fn fw) : sm_Ct l b D cA yX2_chosenAt cX2_chosenAt 2 (some .int) 0 0 0 [.ref 13, .int i] M (fun r M1 => r = some (.int (if (ch >>> (nI j &&& 31)) &&& 1 = 1 then fn j else -1)) ∧ M1 = M) := by
  subst hi
  obtain ⟨h13, h14, h15⟩ := h
  refine sm_enter (by decide +kernel) rfl (fun _ => Nat.le_of_ble_eq_true rfl) ?_
  refine sg_iload_n dX2_chosenAt_0 rfl ?_
  refine sg_if_lt 18 dX2_chosenAt_1 (by decide) (fun c => ?_) (fun c => ?_)
  · exact absurd c (nI_pos (by omega))
  · refine sg_iload_n dX2_chosenAt_4 rfl ?_
    refine sg_aload_n dX2_chosenAt_5 rfl ?_
    refine sg_get dX2_chosenAt_6 fl_X2_18 (by first | rfl | assumption) rfl ?_
    refine sg_icmp_ge 18 dX2_chosenAt_9 (by decide) (fun c2 => ?_) (fun c2 => ?_)
    · exact absurd c2 (nI_ge hj (by omega))
    · refine sg_iload_n dX2_chosenAt_12 rfl ?_
      refine sg_bipush 12 dX2_chosenAt_13 (by decide) ?_
      refine sg_icmp_lt 20 dX2_chosenAt_15 (by decide) (fun c3 => ?_) (fun c3 => ?_)
      · refine sg_aload_n dX2_chosenAt_20 rfl ?_
        refine sg_get dX2_chosenAt_21 fl_X2_25 (by first | rfl | assumption) rfl ?_
        refine sg_iload_n dX2_chosenAt_24 rfl ?_
        refine sg_ishr dX2_chosenAt_25 ?_
        refine sg_iconst 1 dX2_chosenAt_26 (by decide) ?_
        refine sg_iand dX2_chosenAt_27 ?_
        refine sg_iconst 1 dX2_chosenAt_28 (by decide) ?_
        refine sg_icmp_ne 41 dX2_chosenAt_29 (by decide) (fun c4 => ?_) (fun c4 => ?_)
        · refine sg_iconst (-1) dX2_chosenAt_41 (by decide) ?_
          refine sg_ireturn dX2_chosenAt_42 rfl (Nat.le_of_ble_eq_true rfl) (Nat.le_of_ble_eq_true rfl) ?_
          exact ⟨by rw [if_neg c4], rfl⟩
        · refine sg_aload_n dX2_chosenAt_32 rfl ?_
          refine sg_get dX2_chosenAt_33 fl_X2_9 (by first | rfl | assumption) rfl ?_
          refine sg_iload_n dX2_chosenAt_36 rfl ?_
          refine sg_ald (j) dX2_chosenAt_37 (by first | rfl | assumption) (rfl) (by omega) (by decide) ?_
          refine sg_goto 42 dX2_chosenAt_38 (by decide) ?_
          refine sg_ireturn dX2_chosenAt_42 rfl (Nat.le_of_ble_eq_true rfl) (Nat.le_of_ble_eq_true rfl) ?_
          exact ⟨by rw [if_pos c4], rfl⟩
      · rw [Int32.lt_iff_toInt_lt, nI_toInt (by omega), ti_12] at c3
        exact absurd (by omega) c3
theorem c_bestWorth {sz : Nat} {fb fgo fw fp ff : Nat → Int32} (h : sm_hp M sz fb fgo fw fp ff) : sm_Ct l b D cA yX1_bestWorth cX1_bestWorth 1 (some .int) 0 0 0 [.ref 17] M (fun r M1 => r = some (.int (fw 0)) ∧ M1 = M) := by
  obtain ⟨h17, h18, h19, h20, h21, h22⟩ := h
  refine sm_enter (by decide +kernel) rfl (fun _ => Nat.le_of_ble_eq_true rfl) ?_
  refine sg_aload_n dX1_bestWorth_0 rfl ?_
  refine sg_get dX1_bestWorth_1 fl_X1_22 (by first | rfl | assumption) rfl ?_
  refine sg_iconst 0 dX1_bestWorth_4 (by decide) ?_
  refine sg_ald (0) dX1_bestWorth_5 (by first | rfl | assumption) (by decide) (by decide) (by decide) ?_
  refine sg_ireturn dX1_bestWorth_6 rfl (Nat.le_of_ble_eq_true rfl) (Nat.le_of_ble_eq_true rfl) ?_
  exact ⟨rfl, rfl⟩
theorem c_bestParts {sz : Nat} {fb fgo fw fp ff : Nat → Int32} (h : sm_hp M sz fb fgo fw fp ff) : sm_Ct l b D cA yX1_bestParts cX1_bestParts 1 (some .int) 0 0 0 [.ref 17] M (fun r M1 => r = some (.int (fp 0)) ∧ M1 = M) := by
  obtain ⟨h17, h18, h19, h20, h21, h22⟩ := h
  refine sm_enter (by decide +kernel) rfl (fun _ => Nat.le_of_ble_eq_true rfl) ?_
  refine sg_aload_n dX1_bestParts_0 rfl ?_
  refine sg_get dX1_bestParts_1 fl_X1_25 (by first | rfl | assumption) rfl ?_
  refine sg_iconst 0 dX1_bestParts_4 (by decide) ?_
  refine sg_ald (0) dX1_bestParts_5 (by first | rfl | assumption) (by decide) (by decide) (by decide) ?_
  refine sg_ireturn dX1_bestParts_6 rfl (Nat.le_of_ble_eq_true rfl) (Nat.le_of_ble_eq_true rfl) ?_
  exact ⟨rfl, rfl⟩
theorem c_clearFrom {sz : Nat} {fb fgo fw fp ff : Nat → Int32} {i : Int32} (a : Nat) (hi : i = nI a) (ha : a ≤ 60) (h : sm_hp M sz fb fgo fw fp ff) : sm_Ct l b D cA yX1_clearFrom cX1_clearFrom 2 none 0 0 0 [.ref 17, .int i] M (fun r M1 => r = none ∧ sm_ex M M1 [20, 21, 22] ∧ sm_hp M1 sz fb fgo (upd fw a 0) (upd fp a 0) (upd ff a 0)) := by
  subst hi
  obtain ⟨h17, h18, h19, h20, h21, h22⟩ := h
  refine sm_enter (by decide +kernel) rfl (fun _ => Nat.le_of_ble_eq_true rfl) ?_
  refine sg_iload_n dX1_clearFrom_0 rfl ?_
  refine sg_if_lt 31 dX1_clearFrom_1 (by decide) (fun c => ?_) (fun c => ?_)
  · exact absurd c (nI_pos (by omega))
  · refine sg_iload_n dX1_clearFrom_4 rfl ?_
    refine sg_bipush 60 dX1_clearFrom_5 (by decide) ?_
    refine sg_icmp_gt 31 dX1_clearFrom_7 (by decide) (fun c2 => ?_) (fun c2 => ?_)
    · rw [Int32.lt_iff_toInt_lt, nI_toInt (by omega), ti_60] at c2
      exact absurd c2 (by omega)
    · refine sg_aload_n dX1_clearFrom_10 rfl ?_
      refine sg_get dX1_clearFrom_11 fl_X1_22 (by first | rfl | assumption) rfl ?_
      refine sg_iload_n dX1_clearFrom_14 rfl ?_
      refine sg_iconst 0 dX1_clearFrom_15 (by decide) ?_
      refine sg_astx a dX1_clearFrom_16 h20 rfl (by omega) (by decide) (fun M1 x1 g1 => ?_)
      have a17 := (x1.2 17 (by decide)).trans h17
      have a21 := (x1.2 21 (by decide)).trans h21
      have a22 := (x1.2 22 (by decide)).trans h22
      refine sg_aload_n dX1_clearFrom_17 rfl ?_
      refine sg_get dX1_clearFrom_18 fl_X1_25 (by first | rfl | assumption) rfl ?_
      refine sg_iload_n dX1_clearFrom_21 rfl ?_
      refine sg_iconst 0 dX1_clearFrom_22 (by decide) ?_
      refine sg_astx a dX1_clearFrom_23 a21 rfl (by omega) (by decide) (fun M2 x2 g2 => ?_)
      have b17 := (x2.2 17 (by decide)).trans a17
      have b22 := (x2.2 22 (by decide)).trans a22
      refine sg_aload_n dX1_clearFrom_24 rfl ?_
      refine sg_get dX1_clearFrom_25 fl_X1_28 (by first | rfl | assumption) rfl ?_
      refine sg_iload_n dX1_clearFrom_28 rfl ?_
      refine sg_iconst 0 dX1_clearFrom_29 (by decide) ?_
      refine sg_astx a dX1_clearFrom_30 b22 rfl (by omega) (by decide) (fun M3 x3 g3 => ?_)
      have x := (x1.mono (ys := [20, 21, 22]) (by decide)).tr ((x2.mono (by decide)).tr (x3.mono (by decide)))
      refine sg_return dX1_clearFrom_31 rfl (Nat.le_of_ble_eq_true rfl) (Nat.le_of_ble_eq_true rfl) ?_
      exact ⟨rfl, x, (x.2 17 (by decide)).trans h17, (x.2 18 (by decide)).trans h18, (x.2 19 (by decide)).trans h19, (x3.2 20 (by decide)).trans ((x2.2 20 (by decide)).trans g1), (x3.2 21 (by decide)).trans g2, g3⟩
/-- heap(g, x) is taken -/
def sm_hok (sz : Nat) (hb : Nat → Nat) (g x : Int32) : Prop := (0 ≤ g.toInt ∧ g.toInt < 5) ∧ (0 ≤ x.toInt ∧ x.toInt ≤ 60) ∧ (sz : Int) - hb g.toInt.toNat + x.toInt ≤ 60
theorem c_heap_put {sz : Nat} {hb : Nat → Nat} {fgo fw fp ff : Nat → Int32} (g x : Int32) (hs : sz ≤ 60) (hle : ∀ j, j < 5 → hb j ≤ sz) (h : sm_hp M sz (fun j => nI (hb j)) fgo fw fp ff) : sm_Ct l b D cA yX1_put cX1_put 4 (some .boolean) 1 0 0 [.ref 17, .int g, .int x] M (fun r M1 => (∃ z : Int32, r = some (.int z) ∧ (z = 0 ∨ z = 1) ∧ (z = 1 ↔ sm_hok sz hb g x)) ∧ (sm_hok sz hb g x → sm_ex M M1 [17, 18] ∧ sm_hp M1 (sz - hb g.toInt.toNat + x.toInt.toNat) (upd (fun j => nI (hb j)) g.toInt.toNat x) fgo fw fp ff) ∧ (¬ sm_hok sz hb g x → M1 = M)) := by
  obtain ⟨h17, h18, h19, h20, h21, h22⟩ := h
  unfold sm_hok
  refine sm_enter (by decide +kernel) rfl (fun _ => Nat.le_of_ble_eq_true rfl) ?_
  refine sg_iload_n dX1_put_0 rfl ?_
  refine sg_S1 dX1_put_1 cs_X1_31 (c_isGrade _) (Nat.le_of_ble_eq_true rfl) (Nat.le_of_ble_eq_true rfl) (Nat.le_of_ble_eq_true rfl) (Nat.le_of_ble_eq_true rfl) (fun r M1 hp => ?_)
  obtain ⟨rfl, rfl⟩ := hp
  refine sg_bf_eq 17 dX1_put_4 (by decide) (fun c => ?_) (fun c => ?_)
  · refine sg_iconst 0 dX1_put_17 (by decide) ?_
    refine sg_zreturn dX1_put_18 rfl (by first | decide | assumption) (Nat.le_of_ble_eq_true rfl) (Nat.le_of_ble_eq_true rfl) ?_
    exact ⟨⟨0, rfl, Or.inl rfl, ⟨fun e => absurd e (by decide), fun q => absurd q.1 c⟩⟩, fun q => absurd q.1 c, fun _ => rfl⟩
  · have hle1 := hle g.toInt.toNat (by omega)
    refine sg_iload_n dX1_put_7 rfl ?_
    refine sg_if_lt 17 dX1_put_8 (by decide) (fun c2 => ?_) (fun c2 => ?_)
    · simp only [Int32.lt_iff_toInt_lt, ti_0] at c2
      refine sg_iconst 0 dX1_put_17 (by decide) ?_
      refine sg_zreturn dX1_put_18 rfl (by first | decide | assumption) (Nat.le_of_ble_eq_true rfl) (Nat.le_of_ble_eq_true rfl) ?_
      exact ⟨⟨0, rfl, Or.inl rfl, ⟨fun e => absurd e (by decide), fun q => by omega⟩⟩, fun q => by omega, fun _ => rfl⟩
    · simp only [Int32.lt_iff_toInt_lt, ti_0] at c2
      refine sg_iload_n dX1_put_11 rfl ?_
      refine sg_bipush 60 dX1_put_12 (by decide) ?_
      refine sg_icmp_le 19 dX1_put_14 (by decide) (fun c3 => ?_) (fun c3 => ?_)
      · simp only [Int32.le_iff_toInt_le, ti_60] at c3
        have e1 : x = nI x.toInt.toNat := sm_asN (by omega)
        have e2 : nI sz - nI (hb g.toInt.toNat) + x = nI (sz - hb g.toInt.toNat + x.toInt.toNat) := by
          rw [pk_sub hle1, ← nI_add, ← e1]
        refine sg_aload_n dX1_put_19 rfl ?_
        refine sg_get dX1_put_20 fl_X1_15 (by first | rfl | assumption) rfl ?_
        refine sg_aload_n dX1_put_23 rfl ?_
        refine sg_get dX1_put_24 fl_X1_9 (by first | rfl | assumption) rfl ?_
        refine sg_iload_n dX1_put_27 rfl ?_
        refine sg_ald (g.toInt.toNat) dX1_put_28 (by first | rfl | assumption) (sm_asN c.1) (by omega) (by decide) ?_
        refine sg_isub dX1_put_29 ?_
        refine sg_istore_n dX1_put_30 (by decide) ?_
        refine sg_iload_n dX1_put_31 rfl ?_
        refine sg_iload_n dX1_put_32 rfl ?_
        refine sg_iadd dX1_put_33 ?_
        refine sg_bipush 60 dX1_put_34 (by decide) ?_
        refine sg_icmp_le 41 dX1_put_36 (by decide) (fun c4 => ?_) (fun c4 => ?_)
        · rw [e2, Int32.le_iff_toInt_le, nI_toInt (by omega), ti_60] at c4
          refine sg_aload_n dX1_put_41 rfl ?_
          refine sg_get dX1_put_42 fl_X1_9 (by first | rfl | assumption) rfl ?_
          refine sg_iload_n dX1_put_45 rfl ?_
          refine sg_iload_n dX1_put_46 rfl ?_
          refine sg_astx g.toInt.toNat dX1_put_47 h18 (sm_asN c.1) (by omega) (by decide) (fun M1 x1 g1 => ?_)
          have a17 := (x1.2 17 (by decide)).trans h17
          refine sg_aload_n dX1_put_48 rfl ?_
          refine sg_iload_n dX1_put_49 rfl ?_
          refine sg_iload_n dX1_put_50 rfl ?_
          refine sg_iadd dX1_put_51 ?_
          refine sg_putx dX1_put_52 fl_X1_15 ft_X1_1 a17 (Nat.le_of_ble_eq_true rfl) (fun M2 x2 q2 => ?_)
          rw [e2] at q2
          have xx := (x1.mono (ys := [17, 18]) (by decide)).tr (x2.mono (by decide))
          refine sg_iconst 1 dX1_put_55 (by decide) ?_
          refine sg_zreturn dX1_put_56 rfl (by first | decide | assumption) (Nat.le_of_ble_eq_true rfl) (Nat.le_of_ble_eq_true rfl) ?_
          exact ⟨⟨1, rfl, Or.inr rfl, ⟨fun _ => ⟨c, ⟨by omega, by omega⟩, by omega⟩, fun _ => rfl⟩⟩, fun _ => ⟨xx, q2, (x2.2 18 (by decide)).trans g1, (xx.2 19 (by decide)).trans h19, (xx.2 20 (by decide)).trans h20, (xx.2 21 (by decide)).trans h21, (xx.2 22 (by decide)).trans h22⟩, fun q => absurd ⟨c, ⟨by omega, by omega⟩, by omega⟩ q⟩
        · rw [e2, Int32.le_iff_toInt_le, nI_toInt (by omega), ti_60] at c4
          refine sg_iconst 0 dX1_put_39 (by decide) ?_
          refine sg_zreturn dX1_put_40 rfl (by first | decide | assumption) (Nat.le_of_ble_eq_true rfl) (Nat.le_of_ble_eq_true rfl) ?_
          exact ⟨⟨0, rfl, Or.inl rfl, ⟨fun e => absurd e (by decide), fun q => by omega⟩⟩, fun q => by omega, fun _ => rfl⟩
      · simp only [Int32.le_iff_toInt_le, ti_60] at c3
        refine sg_iconst 0 dX1_put_17 (by decide) ?_
        refine sg_zreturn dX1_put_18 rfl (by first | decide | assumption) (Nat.le_of_ble_eq_true rfl) (Nat.le_of_ble_eq_true rfl) ?_
        exact ⟨⟨0, rfl, Or.inl rfl, ⟨fun e => absurd e (by decide), fun q => by omega⟩⟩, fun q => by omega, fun _ => rfl⟩
end SM25
