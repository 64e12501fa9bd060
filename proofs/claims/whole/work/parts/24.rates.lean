/-! debts, rates, tales -/
def sm_rate (fr ff fd : Nat → Int32) (j : Nat) : Int32 := if 1 < fr j - (if ff j ≤ 0 then 0 else fd j / ff j) then fr j - (if ff j ≤ 0 then 0 else fd j / ff j) else 1
def sm_wbl (fr fb ff fd : Nat → Int32) (j : Nat) (n : Int32) : Int32 := n * sm_rate fr ff fd j + n / 10 * fb j
def sm_grow (sp it : Int32) : Int32 := if sp + sp * it / 100 < 10000 then sp + sp * it / 100 else 10000
def sm_rates (M : sm_M) (fr fb ff fd : Nat → Int32) (fame : Int32) : Prop := M[3]? = some (sm_o 3 [.ref 4, .ref 5, .ref 6, .ref 7, .int fame]) ∧ M[4]? = some (sm_i 5 fr) ∧ M[5]? = some (sm_i 5 fb) ∧ M[6]? = some (sm_i 5 ff) ∧ M[7]? = some (sm_i 5 fd)
def sm_tl (M : sm_M) (sz : Nat) (f0 f1 f2 f3 : Nat → Int32) : Prop := M[8]? = some (sm_o 5 [.ref 9, .ref 10, .ref 11, .ref 12, .int (nI sz)]) ∧ M[9]? = some (sm_i 200 f0) ∧ M[10]? = some (sm_i 200 f1) ∧ M[11]? = some (sm_i 200 f2) ∧ M[12]? = some (sm_i 200 f3)
def sm_pl (f : Nat → Int32) (nm i : Int32) : Nat → Nat → Int32 → Int32
  | 0, _, _ => -1
  | r + 1, p, bf => if f p = nm then (if bf = i then nI p else sm_pl f nm i r (p + 1) (bf + 1)) else sm_pl f nm i r (p + 1) bf
section SM24
variable {l : Launch} {b : Nat} {D : va_G} {cA : Nat → ClassId} {M : sm_M}
theorem c_isPaid {q : Nat} {ow to gr sp pd : Int32} (hq : M[q]? = some (sm_o 0 [.int ow, .int to, .int gr, .int sp, .int pd])) : sm_Ct l b D cA yX0_isPaid cX0_isPaid 1 (some .boolean) 0 0 0 [.ref q] M (fun r M1 => r = some (.int (if pd = -1 then 0 else 1)) ∧ M1 = M) := by
  refine sm_enter (by decide +kernel) rfl (fun _ => Nat.le_of_ble_eq_true rfl) ?_
  refine sg_aload_n dX0_isPaid_0 rfl ?_
  refine sg_get dX0_isPaid_1 fl_X0_9 (by first | rfl | assumption) rfl ?_
  refine sg_iconst (-1) dX0_isPaid_4 (by decide) ?_
  refine sg_icmp_eq 12 dX0_isPaid_5 (by decide) (fun c_5 => ?_) (fun c_5 => ?_)
  · refine sg_iconst 0 dX0_isPaid_12 (by decide) ?_
    refine sg_zreturn dX0_isPaid_13 rfl (by first | decide | assumption) (Nat.le_of_ble_eq_true rfl) (Nat.le_of_ble_eq_true rfl) ?_
    exact ⟨by simp [*], rfl⟩
  · refine sg_iconst 1 dX0_isPaid_8 (by decide) ?_
    refine sg_goto 13 dX0_isPaid_9 (by decide) ?_
    refine sg_zreturn dX0_isPaid_13 rfl (by first | decide | assumption) (Nat.le_of_ble_eq_true rfl) (Nat.le_of_ble_eq_true rfl) ?_
    exact ⟨by simp [*], rfl⟩
theorem c_grow {q : Nat} {ow to gr sp pd it : Int32} (hq : M[q]? = some (sm_o 0 [.int ow, .int to, .int gr, .int sp, .int pd])) : sm_Ct l b D cA yX0_grow cX0_grow 2 none 1 0 0 [.ref q, .int it] M (fun r M1 => r = none ∧ M1 = M.set q (sm_o 0 [.int ow, .int to, .int gr, .int (sm_grow sp it), .int pd])) := by
  refine sm_enter (by decide +kernel) rfl (fun _ => Nat.le_of_ble_eq_true rfl) ?_
  refine sg_aload_n dX0_grow_0 rfl ?_
  refine sg_sipush 10000 dX0_grow_1 (by decide) ?_
  refine sg_aload_n dX0_grow_4 rfl ?_
  refine sg_get dX0_grow_5 fl_X0_21 (by first | rfl | assumption) rfl ?_
  refine sg_aload_n dX0_grow_8 rfl ?_
  refine sg_get dX0_grow_9 fl_X0_21 (by first | rfl | assumption) rfl ?_
  refine sg_iload_n dX0_grow_12 rfl ?_
  refine sg_imul dX0_grow_13 ?_
  refine sg_bipush 100 dX0_grow_14 (by decide) ?_
  refine sg_idiv dX0_grow_16 (by decide) ?_
  refine sg_iadd dX0_grow_17 ?_
  refine sg_mmin dX0_grow_18 ml_X0_27 mmin_s math_i mmin_c (Nat.le_of_ble_eq_true rfl) (Nat.le_of_ble_eq_true rfl) (Nat.le_of_ble_eq_true rfl) (Nat.le_of_ble_eq_true rfl) ?_
  refine sg_put dX0_grow_21 fl_X0_21 ft_X0_3 (by first | rfl | assumption) (Nat.le_of_ble_eq_true rfl) ?_
  refine sg_return dX0_grow_24 rfl (Nat.le_of_ble_eq_true rfl) (Nat.le_of_ble_eq_true rfl) ?_
  exact ⟨rfl, rfl⟩
theorem sg_putFix {y : MethodName} {cc : ByteArray} {nL : Nat} {ret : Option FieldType} {fr mc ms : Nat} {Post : Option Value → sm_M → Prop} {k n pc : Nat} {L : List (Option Value)} {st : List Value} {idx ci kk q N : Nat} {C : String} {T : u_T} {fs : List Value} {x : Int32} (hd : decode cc pc = .ok (.putfield idx, 3)) (hf : sm_FL y.cls idx ci kk C T N) (ht : sm_FT kk .int true T N) (hfl : Cond.fieldLink y.cls idx C (T kk).2.1 (T kk).2.2.1 ∈ sm_tb) (hdc : C = y.cls) (hnm0 : y.name = "<init>") (hM : M[q]? = some (sm_o ci fs)) (hl : kk < fs.length) (h : ∀ M1 : sm_M, sm_ex M M1 [q] → M1[q]? = some (sm_o ci (fs.set kk (.int x))) → sm_G l b D cA y cc nL ret fr mc ms Post k n (pc + 3) L st M1) : sm_G l b D cA y cc nL ret fr mc ms Post k n pc L (.int x :: .ref q :: st) M := sg_putFi hd hf ht hfl hdc hnm0 hM hl (h _ sm_ex.set (sm_gs hM))
theorem c_Debt {q : Nat} (ow to sp gr : Int32) (hq : M[q]? = some (sm_o 0 [.int 0, .int 0, .int 0, .int 0, .int 0])) : sm_Ct l b D cA yX0_init cX0_init 5 none 1 0 0 [.ref q, .int ow, .int to, .int sp, .int gr] M (fun r M1 => r = none ∧ sm_ex M M1 [q] ∧ M1[q]? = some (sm_o 0 [.int ow, .int to, .int gr, .int sp, .int (-1)])) := by
  refine sm_enter (by decide +kernel) rfl (fun _ => Nat.le_of_ble_eq_true rfl) ?_
  refine sg_aload_n dX0_init_0 rfl ?_
  refine sg_objInit dX0_init_1 oi_X0 oi_m oi_c (Nat.le_of_ble_eq_true rfl) (Nat.le_of_ble_eq_true rfl) ?_
  refine sg_aload_n dX0_init_4 rfl ?_
  refine sg_iconst (-1) dX0_init_5 (by decide) ?_
  refine sg_putx dX0_init_6 fl_X0_9 ft_X0_4 hq (Nat.le_of_ble_eq_true rfl) (fun M1 x1 q1 => ?_)
  refine sg_aload_n dX0_init_9 rfl ?_
  refine sg_iload_n dX0_init_10 rfl ?_
  refine sg_putFix dX0_init_11 fl_X0_15 ft_X0_0 fi_X0_15 rfl rfl q1 (Nat.le_of_ble_eq_true rfl) (fun M2 x2 q2 => ?_)
  refine sg_aload_n dX0_init_14 rfl ?_
  refine sg_iload_n dX0_init_15 rfl ?_
  refine sg_putFix dX0_init_16 fl_X0_18 ft_X0_1 fi_X0_18 rfl rfl q2 (Nat.le_of_ble_eq_true rfl) (fun M3 x3 q3 => ?_)
  refine sg_aload_n dX0_init_19 rfl ?_
  refine sg_iload_n dX0_init_20 rfl ?_
  refine sg_putx dX0_init_21 fl_X0_21 ft_X0_3 q3 (Nat.le_of_ble_eq_true rfl) (fun M4 x4 q4 => ?_)
  refine sg_aload_n dX0_init_24 rfl ?_
  refine sg_iload dX0_init_25 rfl ?_
  refine sg_putFix dX0_init_27 fl_X0_24 ft_X0_2 fi_X0_24 rfl rfl q4 (Nat.le_of_ble_eq_true rfl) (fun M5 x5 q5 => ?_)
  refine sg_return dX0_init_30 rfl (Nat.le_of_ble_eq_true rfl) (Nat.le_of_ble_eq_true rfl) ?_
  exact ⟨rfl, x1.tr (x2.tr (x3.tr (x4.tr x5))), q5⟩
theorem c_flowIn {fr fb ff fd : Nat → Int32} {fame g : Int32} (j : Nat) (x : Int32) (hg : g = nI j) (hj : j < 5) (h : sm_rates M fr fb ff fd fame) : sm_Ct l b D cA yX3_flowIn cX3_flowIn 3 none 1 0 0 [.ref 3, .int g, .int x] M (fun r M1 => r = none ∧ M1 = M.set 7 (sm_i 5 (upd fd j (fd j + x)))) := by
  subst hg
  obtain ⟨h3, h4, h5, h6, h7⟩ := h
  refine sm_enter (by decide +kernel) rfl (fun _ => Nat.le_of_ble_eq_true rfl) ?_
  refine sg_iload_n dX3_flowIn_0 rfl ?_
  refine sg_S1 dX3_flowIn_1 cs_X3_42 (c_isGrade _) (Nat.le_of_ble_eq_true rfl) (Nat.le_of_ble_eq_true rfl) (Nat.le_of_ble_eq_true rfl) (Nat.le_of_ble_eq_true rfl) (fun r M1 hp => ?_)
  obtain ⟨rfl, rfl⟩ := hp
  refine sg_bf_eq 17 dX3_flowIn_4 (by decide) (fun c => ?_) (fun c => ?_)
  · rw [nI_toInt (by omega)] at c
    exact absurd (by omega) c
  · refine sg_aload_n dX3_flowIn_7 rfl ?_
    refine sg_get dX3_flowIn_8 fl_X3_35 (by first | rfl | assumption) rfl ?_
    refine sg_iload_n dX3_flowIn_11 rfl ?_
    refine sg_dup2 dX3_flowIn_12 rfl rfl ?_
    refine sg_ald (j) dX3_flowIn_13 (by first | rfl | assumption) (rfl) (hj) (by decide) ?_
    refine sg_iload_n dX3_flowIn_14 rfl ?_
    refine sg_iadd dX3_flowIn_15 ?_
    refine sg_ast (j) dX3_flowIn_16 (by first | rfl | assumption) (rfl) (hj) (by decide) ?_
    refine sg_return dX3_flowIn_17 rfl (Nat.le_of_ble_eq_true rfl) (Nat.le_of_ble_eq_true rfl) ?_
    exact ⟨rfl, rfl⟩
theorem c_rateNow {fr fb ff fd : Nat → Int32} {fame g : Int32} (j : Nat) (hg : g = nI j) (hj : j < 5) (h : sm_rates M fr fb ff fd fame) : sm_Ct l b D cA yX3_rateNow cX3_rateNow 4 (some .int) 1 0 0 [.ref 3, .int g] M (fun r M1 => r = some (.int (sm_rate fr ff fd j)) ∧ M1 = M) := by
  subst hg
  obtain ⟨h3, h4, h5, h6, h7⟩ := h
  refine sm_enter (by decide +kernel) rfl (fun _ => Nat.le_of_ble_eq_true rfl) ?_
  refine sg_iload_n dX3_rateNow_0 rfl ?_
  refine sg_S1 dX3_rateNow_1 cs_X3_42 (c_isGrade _) (Nat.le_of_ble_eq_true rfl) (Nat.le_of_ble_eq_true rfl) (Nat.le_of_ble_eq_true rfl) (Nat.le_of_ble_eq_true rfl) (fun r M1 hp => ?_)
  obtain ⟨rfl, rfl⟩ := hp
  refine sg_bf_ne 9 dX3_rateNow_4 (by decide) (fun c => ?_) (fun c => ?_)
  · refine sg_aload_n dX3_rateNow_9 rfl ?_
    refine sg_get dX3_rateNow_10 fl_X3_32 (by first | rfl | assumption) rfl ?_
    refine sg_iload_n dX3_rateNow_13 rfl ?_
    refine sg_ald (j) dX3_rateNow_14 (by first | rfl | assumption) (rfl) (hj) (by decide) ?_
    refine sg_istore_n dX3_rateNow_15 (by decide) ?_
    refine sg_iload_n dX3_rateNow_16 rfl ?_
    refine sg_if_le 31 dX3_rateNow_17 (by decide) (fun c2 => ?_) (fun c2 => ?_)
    · refine sg_iconst 0 dX3_rateNow_31 (by decide) ?_
      refine sg_istore_n dX3_rateNow_32 (by decide) ?_
      refine sg_iconst 1 dX3_rateNow_33 (by decide) ?_
      refine sg_aload_n dX3_rateNow_34 rfl ?_
      refine sg_get dX3_rateNow_35 fl_X3_18 (by first | rfl | assumption) rfl ?_
      refine sg_iload_n dX3_rateNow_38 rfl ?_
      refine sg_ald (j) dX3_rateNow_39 (by first | rfl | assumption) (rfl) (hj) (by decide) ?_
      refine sg_iload_n dX3_rateNow_40 rfl ?_
      refine sg_isub dX3_rateNow_41 ?_
      refine sg_mmax dX3_rateNow_42 ml_X3_46 mmax_s math_i mmax_c (Nat.le_of_ble_eq_true rfl) (Nat.le_of_ble_eq_true rfl) (Nat.le_of_ble_eq_true rfl) (Nat.le_of_ble_eq_true rfl) ?_
      refine sg_ireturn dX3_rateNow_45 rfl (Nat.le_of_ble_eq_true rfl) (Nat.le_of_ble_eq_true rfl) ?_
      exact ⟨by unfold sm_rate; rw [if_pos c2], rfl⟩
    · refine sg_aload_n dX3_rateNow_20 rfl ?_
      refine sg_get dX3_rateNow_21 fl_X3_35 (by first | rfl | assumption) rfl ?_
      refine sg_iload_n dX3_rateNow_24 rfl ?_
      refine sg_ald (j) dX3_rateNow_25 (by first | rfl | assumption) (rfl) (hj) (by decide) ?_
      refine sg_iload_n dX3_rateNow_26 rfl ?_
      refine sg_idiv dX3_rateNow_27 (fun e => c2 (by rw [e]; decide)) ?_
      refine sg_goto 32 dX3_rateNow_28 (by decide) ?_
      refine sg_istore_n dX3_rateNow_32 (by decide) ?_
      refine sg_iconst 1 dX3_rateNow_33 (by decide) ?_
      refine sg_aload_n dX3_rateNow_34 rfl ?_
      refine sg_get dX3_rateNow_35 fl_X3_18 (by first | rfl | assumption) rfl ?_
      refine sg_iload_n dX3_rateNow_38 rfl ?_
      refine sg_ald (j) dX3_rateNow_39 (by first | rfl | assumption) (rfl) (hj) (by decide) ?_
      refine sg_iload_n dX3_rateNow_40 rfl ?_
      refine sg_isub dX3_rateNow_41 ?_
      refine sg_mmax dX3_rateNow_42 ml_X3_46 mmax_s math_i mmax_c (Nat.le_of_ble_eq_true rfl) (Nat.le_of_ble_eq_true rfl) (Nat.le_of_ble_eq_true rfl) (Nat.le_of_ble_eq_true rfl) ?_
      refine sg_ireturn dX3_rateNow_45 rfl (Nat.le_of_ble_eq_true rfl) (Nat.le_of_ble_eq_true rfl) ?_
      exact ⟨by unfold sm_rate; rw [if_neg c2], rfl⟩
  · rw [nI_toInt (by omega)] at c
    exact absurd (by omega) c
theorem c_worthByLength {fr fb ff fd : Nat → Int32} {fame g : Int32} (j : Nat) (x : Int32) (hg : g = nI j) (hj : j < 5) (h : sm_rates M fr fb ff fd fame) : sm_Ct l b D cA yX3_worthByLength cX3_worthByLength 3 (some .int) 2 0 0 [.ref 3, .int g, .int x] M (fun r M1 => r = some (.int (sm_wbl fr fb ff fd j x)) ∧ M1 = M) := by
  subst hg
  obtain ⟨h3, h4, h5, h6, h7⟩ := id h
  refine sm_enter (by decide +kernel) rfl (fun _ => Nat.le_of_ble_eq_true rfl) ?_
  refine sg_iload_n dX3_worthByLength_0 rfl ?_
  refine sg_S1 dX3_worthByLength_1 cs_X3_42 (c_isGrade _) (Nat.le_of_ble_eq_true rfl) (Nat.le_of_ble_eq_true rfl) (Nat.le_of_ble_eq_true rfl) (Nat.le_of_ble_eq_true rfl) (fun r M1 hp => ?_)
  obtain ⟨rfl, rfl⟩ := hp
  refine sg_bf_ne 9 dX3_worthByLength_4 (by decide) (fun c => ?_) (fun c => ?_)
  · refine sg_iload_n dX3_worthByLength_9 rfl ?_
    refine sg_aload_n dX3_worthByLength_10 rfl ?_
    refine sg_iload_n dX3_worthByLength_11 rfl ?_
    refine sg_V1 dX3_worthByLength_12 cv_X3_52 h3 (c_rateNow j rfl hj h) (Nat.le_of_ble_eq_true rfl) (Nat.le_of_ble_eq_true rfl) (Nat.le_of_ble_eq_true rfl) (Nat.le_of_ble_eq_true rfl) (fun r M1 hp => ?_)
    obtain ⟨rfl, e9⟩ := hp; rw [e9]
    refine sg_imul dX3_worthByLength_15 ?_
    refine sg_iload_n dX3_worthByLength_16 rfl ?_
    refine sg_bipush 10 dX3_worthByLength_17 (by decide) ?_
    refine sg_idiv dX3_worthByLength_19 (by decide) ?_
    refine sg_aload_n dX3_worthByLength_20 rfl ?_
    refine sg_get dX3_worthByLength_21 fl_X3_26 (by first | rfl | assumption) rfl ?_
    refine sg_iload_n dX3_worthByLength_24 rfl ?_
    refine sg_ald (j) dX3_worthByLength_25 (by first | rfl | assumption) (rfl) (hj) (by decide) ?_
    refine sg_imul dX3_worthByLength_26 ?_
    refine sg_iadd dX3_worthByLength_27 ?_
    refine sg_ireturn dX3_worthByLength_28 rfl (Nat.le_of_ble_eq_true rfl) (Nat.le_of_ble_eq_true rfl) ?_
    exact ⟨rfl, rfl⟩
  · rw [nI_toInt (by omega)] at c
    exact absurd (by omega) c
theorem lp_allBeads {fr fb ff fd : Nat → Int32} {fame : Int32} {Post : Option Value → sm_M → Prop} (h : sm_rates M fr fb ff fd fame) (hP : Post (some (.int (fd 0 + fd 1 + fd 2 + fd 3 + fd 4))) M) : sm_G l b D cA yX3_allBeads cX3_allBeads 3 (some .int) 0 0 0 Post 0 0 0 [some (.ref 3), none, none] [] M := by
  obtain ⟨h3, h4, h5, h6, h7⟩ := h
  have e : (0 : Int32) + fd 0 = fd 0 := Int32.zero_add _
  refine sg_iconst 0 dX3_allBeads_0 (by decide) ?_
  refine sg_istore_n dX3_allBeads_1 (by decide) ?_
  refine sg_iconst 0 dX3_allBeads_2 (by decide) ?_
  refine sg_istore_n dX3_allBeads_3 (by decide) ?_
  refine sg_iload_n dX3_allBeads_4 rfl ?_
  refine sg_iconst 5 dX3_allBeads_5 (by decide) ?_
  refine sg_icmp_ge 24 dX3_allBeads_6 (by decide) (fun c => ?_) (fun c => ?_)
  · exact absurd c (by decide)
  · refine sg_iload_n dX3_allBeads_9 rfl ?_
    refine sg_aload_n dX3_allBeads_10 rfl ?_
    refine sg_get dX3_allBeads_11 fl_X3_35 (by first | rfl | assumption) rfl ?_
    refine sg_iload_n dX3_allBeads_14 rfl ?_
    refine sg_ald (0) dX3_allBeads_15 (by first | rfl | assumption) (by decide) (by decide) (by decide) ?_
    refine sg_iadd dX3_allBeads_16 ?_
    refine sg_istore_n dX3_allBeads_17 (by decide) ?_
    refine sg_iinc _ dX3_allBeads_18 rfl rfl (by decide) ?_
    refine sg_goto 4 dX3_allBeads_21 (by decide) ?_
    refine sg_iload_n dX3_allBeads_4 rfl ?_
    refine sg_iconst 5 dX3_allBeads_5 (by decide) ?_
    refine sg_icmp_ge 24 dX3_allBeads_6 (by decide) (fun c => ?_) (fun c => ?_)
    · exact absurd c (by decide)
    · refine sg_iload_n dX3_allBeads_9 rfl ?_
      refine sg_aload_n dX3_allBeads_10 rfl ?_
      refine sg_get dX3_allBeads_11 fl_X3_35 (by first | rfl | assumption) rfl ?_
      refine sg_iload_n dX3_allBeads_14 rfl ?_
      refine sg_ald (1) dX3_allBeads_15 (by first | rfl | assumption) (by decide) (by decide) (by decide) ?_
      refine sg_iadd dX3_allBeads_16 ?_
      refine sg_istore_n dX3_allBeads_17 (by decide) ?_
      refine sg_iinc _ dX3_allBeads_18 rfl rfl (by decide) ?_
      refine sg_goto 4 dX3_allBeads_21 (by decide) ?_
      refine sg_iload_n dX3_allBeads_4 rfl ?_
      refine sg_iconst 5 dX3_allBeads_5 (by decide) ?_
      refine sg_icmp_ge 24 dX3_allBeads_6 (by decide) (fun c => ?_) (fun c => ?_)
      · exact absurd c (by decide)
      · refine sg_iload_n dX3_allBeads_9 rfl ?_
        refine sg_aload_n dX3_allBeads_10 rfl ?_
        refine sg_get dX3_allBeads_11 fl_X3_35 (by first | rfl | assumption) rfl ?_
        refine sg_iload_n dX3_allBeads_14 rfl ?_
        refine sg_ald (2) dX3_allBeads_15 (by first | rfl | assumption) (by decide) (by decide) (by decide) ?_
        refine sg_iadd dX3_allBeads_16 ?_
        refine sg_istore_n dX3_allBeads_17 (by decide) ?_
        refine sg_iinc _ dX3_allBeads_18 rfl rfl (by decide) ?_
        refine sg_goto 4 dX3_allBeads_21 (by decide) ?_
        refine sg_iload_n dX3_allBeads_4 rfl ?_
        refine sg_iconst 5 dX3_allBeads_5 (by decide) ?_
        refine sg_icmp_ge 24 dX3_allBeads_6 (by decide) (fun c => ?_) (fun c => ?_)
        · exact absurd c (by decide)
        · refine sg_iload_n dX3_allBeads_9 rfl ?_
          refine sg_aload_n dX3_allBeads_10 rfl ?_
          refine sg_get dX3_allBeads_11 fl_X3_35 (by first | rfl | assumption) rfl ?_
          refine sg_iload_n dX3_allBeads_14 rfl ?_
          refine sg_ald (3) dX3_allBeads_15 (by first | rfl | assumption) (by decide) (by decide) (by decide) ?_
          refine sg_iadd dX3_allBeads_16 ?_
          refine sg_istore_n dX3_allBeads_17 (by decide) ?_
          refine sg_iinc _ dX3_allBeads_18 rfl rfl (by decide) ?_
          refine sg_goto 4 dX3_allBeads_21 (by decide) ?_
          refine sg_iload_n dX3_allBeads_4 rfl ?_
          refine sg_iconst 5 dX3_allBeads_5 (by decide) ?_
          refine sg_icmp_ge 24 dX3_allBeads_6 (by decide) (fun c => ?_) (fun c => ?_)
          · exact absurd c (by decide)
          · refine sg_iload_n dX3_allBeads_9 rfl ?_
            refine sg_aload_n dX3_allBeads_10 rfl ?_
            refine sg_get dX3_allBeads_11 fl_X3_35 (by first | rfl | assumption) rfl ?_
            refine sg_iload_n dX3_allBeads_14 rfl ?_
            refine sg_ald (4) dX3_allBeads_15 (by first | rfl | assumption) (by decide) (by decide) (by decide) ?_
            refine sg_iadd dX3_allBeads_16 ?_
            refine sg_istore_n dX3_allBeads_17 (by decide) ?_
            refine sg_iinc _ dX3_allBeads_18 rfl rfl (by decide) ?_
            refine sg_goto 4 dX3_allBeads_21 (by decide) ?_
            refine sg_iload_n dX3_allBeads_4 rfl ?_
            refine sg_iconst 5 dX3_allBeads_5 (by decide) ?_
            refine sg_icmp_ge 24 dX3_allBeads_6 (by decide) (fun c => ?_) (fun c => ?_)
            · refine sg_iload_n dX3_allBeads_24 rfl ?_
              refine sg_ireturn dX3_allBeads_25 rfl (Nat.le_of_ble_eq_true rfl) (Nat.le_of_ble_eq_true rfl) ?_
              rw [e]
              exact hP
            · exact absurd (by decide) c
theorem c_allBeads {fr fb ff fd : Nat → Int32} {fame : Int32} (h : sm_rates M fr fb ff fd fame) : sm_Ct l b D cA yX3_allBeads cX3_allBeads 3 (some .int) 0 0 0 [.ref 3] M (fun r M1 => r = some (.int (fd 0 + fd 1 + fd 2 + fd 3 + fd 4)) ∧ M1 = M) := by
  refine sm_enter (by decide +kernel) rfl (fun _ => Nat.le_of_ble_eq_true rfl) ?_
  exact lp_allBeads h ⟨rfl, rfl⟩
theorem c_hasRoom {sz : Nat} {f0 f1 f2 f3 : Nat → Int32} {x : Int32} (k : Nat) (hx : x = nI k) (hk : k ≤ 100) (hs : sz ≤ 200) (h : sm_tl M sz f0 f1 f2 f3) : sm_Ct l b D cA yX5_hasRoom cX5_hasRoom 2 (some .boolean) 0 0 0 [.ref 8, .int x] M (fun r M1 => r = some (.int (if sz + k ≤ 200 then 1 else 0)) ∧ M1 = M) := by
  subst hx
  obtain ⟨h8, h9, h10, h11, h12⟩ := h
  refine sm_enter (by decide +kernel) rfl (fun _ => Nat.le_of_ble_eq_true rfl) ?_
  refine sg_aload_n dX5_hasRoom_0 rfl ?_
  refine sg_get dX5_hasRoom_1 fl_X5_24 (by first | rfl | assumption) rfl ?_
  refine sg_iload_n dX5_hasRoom_4 rfl ?_
  refine sg_iadd dX5_hasRoom_5 ?_
  refine sg_sipush 200 dX5_hasRoom_6 (by decide) ?_
  refine sg_icmp_gt 16 dX5_hasRoom_9 (by decide) (fun c => ?_) (fun c => ?_)
  · rw [nI_add, Int32.lt_iff_toInt_lt, nI_toInt (by omega), ti_200] at c
    refine sg_iconst 0 dX5_hasRoom_16 (by decide) ?_
    refine sg_zreturn dX5_hasRoom_17 rfl (by first | decide | assumption) (Nat.le_of_ble_eq_true rfl) (Nat.le_of_ble_eq_true rfl) ?_
    exact ⟨by rw [if_neg (by omega)], rfl⟩
  · rw [nI_add, Int32.lt_iff_toInt_lt, nI_toInt (by omega), ti_200] at c
    refine sg_iconst 1 dX5_hasRoom_12 (by decide) ?_
    refine sg_goto 17 dX5_hasRoom_13 (by decide) ?_
    refine sg_zreturn dX5_hasRoom_17 rfl (by first | decide | assumption) (Nat.le_of_ble_eq_true rfl) (Nat.le_of_ble_eq_true rfl) ?_
    exact ⟨by rw [if_pos (by omega)], rfl⟩
theorem c_tell {sz : Nat} {f0 f1 f2 f3 : Nat → Int32} (nm kd nu yr : Int32) (hs : sz < 200) (h : sm_tl M sz f0 f1 f2 f3) : sm_Ct l b D cA yX5_tell cX5_tell 5 none 0 0 0 [.ref 8, .int nm, .int kd, .int nu, .int yr] M (fun r M1 => r = none ∧ sm_ex M M1 [8, 9, 10, 11, 12] ∧ sm_tl M1 (sz + 1) (upd f0 sz nm) (upd f1 sz kd) (upd f2 sz nu) (upd f3 sz yr)) := by
  obtain ⟨h8, h9, h10, h11, h12⟩ := h
  refine sm_enter (by decide +kernel) rfl (fun _ => Nat.le_of_ble_eq_true rfl) ?_
  refine sg_aload_n dX5_tell_0 rfl ?_
  refine sg_get dX5_tell_1 fl_X5_24 (by first | rfl | assumption) rfl ?_
  refine sg_sipush 200 dX5_tell_4 (by decide) ?_
  refine sg_icmp_lt 11 dX5_tell_7 (by decide) (fun c => ?_) (fun c => ?_)
  · refine sg_aload_n dX5_tell_11 rfl ?_
    refine sg_get dX5_tell_12 fl_X5_9 (by first | rfl | assumption) rfl ?_
    refine sg_aload_n dX5_tell_15 rfl ?_
    refine sg_get dX5_tell_16 fl_X5_24 (by first | rfl | assumption) rfl ?_
    refine sg_iload_n dX5_tell_19 rfl ?_
    refine sg_astx sz dX5_tell_20 h9 rfl hs (by decide) (fun M1 x1 g1 => ?_)
    have a8 := (x1.2 8 (by decide)).trans h8
    have a10 := (x1.2 10 (by decide)).trans h10
    have a11 := (x1.2 11 (by decide)).trans h11
    have a12 := (x1.2 12 (by decide)).trans h12
    refine sg_aload_n dX5_tell_21 rfl ?_
    refine sg_get dX5_tell_22 fl_X5_15 (by first | rfl | assumption) rfl ?_
    refine sg_aload_n dX5_tell_25 rfl ?_
    refine sg_get dX5_tell_26 fl_X5_24 (by first | rfl | assumption) rfl ?_
    refine sg_iload_n dX5_tell_29 rfl ?_
    refine sg_astx sz dX5_tell_30 a10 rfl hs (by decide) (fun M2 x2 g2 => ?_)
    have b8 := (x2.2 8 (by decide)).trans a8
    have b9 := (x2.2 9 (by decide)).trans g1
    have b11 := (x2.2 11 (by decide)).trans a11
    have b12 := (x2.2 12 (by decide)).trans a12
    refine sg_aload_n dX5_tell_31 rfl ?_
    refine sg_get dX5_tell_32 fl_X5_18 (by first | rfl | assumption) rfl ?_
    refine sg_aload_n dX5_tell_35 rfl ?_
    refine sg_get dX5_tell_36 fl_X5_24 (by first | rfl | assumption) rfl ?_
    refine sg_iload_n dX5_tell_39 rfl ?_
    refine sg_astx sz dX5_tell_40 b11 rfl hs (by decide) (fun M3 x3 g3 => ?_)
    have c8 := (x3.2 8 (by decide)).trans b8
    have c9 := (x3.2 9 (by decide)).trans b9
    have c10 := (x3.2 10 (by decide)).trans g2
    have c12 := (x3.2 12 (by decide)).trans b12
    refine sg_aload_n dX5_tell_41 rfl ?_
    refine sg_get dX5_tell_42 fl_X5_21 (by first | rfl | assumption) rfl ?_
    refine sg_aload_n dX5_tell_45 rfl ?_
    refine sg_get dX5_tell_46 fl_X5_24 (by first | rfl | assumption) rfl ?_
    refine sg_iload dX5_tell_49 rfl ?_
    refine sg_astx sz dX5_tell_51 c12 rfl hs (by decide) (fun M4 x4 g4 => ?_)
    have d8 := (x4.2 8 (by decide)).trans c8
    have d9 := (x4.2 9 (by decide)).trans c9
    have d10 := (x4.2 10 (by decide)).trans c10
    have d11 := (x4.2 11 (by decide)).trans g3
    refine sg_aload_n dX5_tell_52 rfl ?_
    refine sg_dup dX5_tell_53 rfl ?_
    refine sg_get dX5_tell_54 fl_X5_24 (by first | rfl | assumption) rfl ?_
    refine sg_iconst 1 dX5_tell_57 (by decide) ?_
    refine sg_iadd dX5_tell_58 ?_
    refine sg_putx dX5_tell_59 fl_X5_24 ft_X5_4 d8 (Nat.le_of_ble_eq_true rfl) (fun M5 x5 g5 => ?_)
    rw [nI_1] at g5
    refine sg_return dX5_tell_62 rfl (Nat.le_of_ble_eq_true rfl) (Nat.le_of_ble_eq_true rfl) ?_
    exact ⟨rfl, (x1.mono (by decide)).tr ((x2.mono (by decide)).tr ((x3.mono (by decide)).tr ((x4.mono (by decide)).tr (x5.mono (by decide))))), g5, (x5.2 9 (by decide)).trans d9, (x5.2 10 (by decide)).trans d10, (x5.2 11 (by decide)).trans d11, (x5.2 12 (by decide)).trans g4⟩
  · rw [Int32.lt_iff_toInt_lt, nI_toInt (by omega), ti_200] at c
    exact absurd (by omega) c
theorem lp_placeOf {sz : Nat} {f0 f1 f2 f3 : Nat → Int32} {nm i : Int32} {Post : Option Value → sm_M → Prop} (hs : sz ≤ 200) (h : sm_tl M sz f0 f1 f2 f3) :
    ∀ (r p : Nat) (bf : Int32), p + r = sz → Post (some (.int (sm_pl f0 nm i r p bf))) M → sm_G l b D cA yX5_placeOf cX5_placeOf 5 (some .int) 0 0 0 Post 0 0 5 [some (.ref 8), some (.int nm), some (.int i), some (.int bf), some (.int (nI p))] [] M := by
  obtain ⟨h8, h9, h10, h11, h12⟩ := h
  intro r
  induction r with
  | zero =>
    intro p bf hp hP
    have e : p = sz := by omega
    subst e
    refine sg_iload dX5_placeOf_5 rfl ?_
    refine sg_aload_n dX5_placeOf_7 rfl ?_
    refine sg_get dX5_placeOf_8 fl_X5_24 (by first | rfl | assumption) rfl ?_
    refine sg_icmp_ge 50 dX5_placeOf_11 (by decide) (fun c => ?_) (fun c => ?_)
    · refine sg_iconst (-1) dX5_placeOf_50 (by decide) ?_
      refine sg_ireturn dX5_placeOf_51 rfl (Nat.le_of_ble_eq_true rfl) (Nat.le_of_ble_eq_true rfl) ?_
      exact hP
    · exact absurd (nI_le (Nat.le_refl _) (by omega)) c
  | succ r ih =>
    intro p bf hp hP
    unfold sm_pl at hP
    refine sg_iload dX5_placeOf_5 rfl ?_
    refine sg_aload_n dX5_placeOf_7 rfl ?_
    refine sg_get dX5_placeOf_8 fl_X5_24 (by first | rfl | assumption) rfl ?_
    refine sg_icmp_ge 50 dX5_placeOf_11 (by decide) (fun c => ?_) (fun c => ?_)
    · exact absurd c (nI_ge (by omega) (by omega))
    · refine sg_iload dX5_placeOf_14 rfl ?_
      refine sg_sipush 200 dX5_placeOf_16 (by decide) ?_
      refine sg_icmp_ge 50 dX5_placeOf_19 (by decide) (fun c2 => ?_) (fun c2 => ?_)
      · rw [Int32.le_iff_toInt_le, nI_toInt (by omega), ti_200] at c2
        exact absurd c2 (by omega)
      · refine sg_aload_n dX5_placeOf_22 rfl ?_
        refine sg_get dX5_placeOf_23 fl_X5_9 (by first | rfl | assumption) rfl ?_
        refine sg_iload dX5_placeOf_26 rfl ?_
        refine sg_ald (p) dX5_placeOf_28 (by first | rfl | assumption) (rfl) (by omega) (by decide) ?_
        refine sg_iload_n dX5_placeOf_29 rfl ?_
        refine sg_icmp_ne 44 dX5_placeOf_30 (by decide) (fun c3 => ?_) (fun c3 => ?_)
        · rw [if_neg c3] at hP
          refine sg_iinc _ dX5_placeOf_44 rfl (sm_inc p) (by decide) ?_
          refine sg_goto 5 dX5_placeOf_47 (by decide) ?_
          exact ih (p + 1) bf (by omega) hP
        · rw [if_pos c3] at hP
          refine sg_iload_n dX5_placeOf_33 rfl ?_
          refine sg_iload_n dX5_placeOf_34 rfl ?_
          refine sg_icmp_ne 41 dX5_placeOf_35 (by decide) (fun c4 => ?_) (fun c4 => ?_)
          · rw [if_neg c4] at hP
            refine sg_iinc _ dX5_placeOf_41 rfl rfl (by decide) ?_
            refine sg_iinc _ dX5_placeOf_44 rfl (sm_inc p) (by decide) ?_
            refine sg_goto 5 dX5_placeOf_47 (by decide) ?_
            exact ih (p + 1) (bf + 1) (by omega) hP
          · rw [if_pos c4] at hP
            refine sg_iload dX5_placeOf_38 rfl ?_
            refine sg_ireturn dX5_placeOf_40 rfl (Nat.le_of_ble_eq_true rfl) (Nat.le_of_ble_eq_true rfl) ?_
            exact hP
theorem c_placeOf {sz : Nat} {f0 f1 f2 f3 : Nat → Int32} (nm i : Int32) (hs : sz ≤ 200) (h : sm_tl M sz f0 f1 f2 f3) : sm_Ct l b D cA yX5_placeOf cX5_placeOf 5 (some .int) 0 0 0 [.ref 8, .int nm, .int i] M (fun r M1 => r = some (.int (sm_pl f0 nm i sz 0 0)) ∧ M1 = M) := by
  refine sm_enter (by decide +kernel) rfl (fun _ => Nat.le_of_ble_eq_true rfl) ?_
  refine sg_iconst 0 dX5_placeOf_0 (by decide) ?_
  refine sg_istore_n dX5_placeOf_1 (by decide) ?_
  refine sg_iconst 0 dX5_placeOf_2 (by decide) ?_
  refine sg_istore dX5_placeOf_3 (by decide) ?_
  exact lp_placeOf hs h sz 0 0 (by omega) ⟨rfl, rfl⟩
theorem c_about {sz : Nat} {f0 f1 f2 f3 : Nat → Int32} (p w : Int32) (hs : sz ≤ 200) (h : sm_tl M sz f0 f1 f2 f3) : sm_Ct l b D cA yX5_about cX5_about 3 (some .int) 0 0 0 [.ref 8, .int p, .int w] M (fun r M1 => r = some (.int (if 0 ≤ p.toInt ∧ p.toInt < sz then (if w = 0 then f1 p.toInt.toNat else if w = 1 then f2 p.toInt.toNat else if w = 2 then f3 p.toInt.toNat else -1) else -1)) ∧ M1 = M) := by
  obtain ⟨h8, h9, h10, h11, h12⟩ := h
  refine sm_enter (by decide +kernel) rfl (fun _ => Nat.le_of_ble_eq_true rfl) ?_
  refine sg_iload_n dX5_about_0 rfl ?_
  refine sg_if_lt 19 dX5_about_1 (by decide) (fun c => ?_) (fun c => ?_)
  · simp only [Int32.lt_iff_toInt_lt, ti_0] at c
    refine sg_iconst (-1) dX5_about_19 (by decide) ?_
    refine sg_ireturn dX5_about_20 rfl (Nat.le_of_ble_eq_true rfl) (Nat.le_of_ble_eq_true rfl) ?_
    exact ⟨by rw [if_neg (by omega)], rfl⟩
  · simp only [Int32.lt_iff_toInt_lt, ti_0] at c
    refine sg_iload_n dX5_about_4 rfl ?_
    refine sg_aload_n dX5_about_5 rfl ?_
    refine sg_get dX5_about_6 fl_X5_24 (by first | rfl | assumption) rfl ?_
    refine sg_icmp_ge 19 dX5_about_9 (by decide) (fun c2 => ?_) (fun c2 => ?_)
    · rw [Int32.le_iff_toInt_le, nI_toInt (by omega)] at c2
      refine sg_iconst (-1) dX5_about_19 (by decide) ?_
      refine sg_ireturn dX5_about_20 rfl (Nat.le_of_ble_eq_true rfl) (Nat.le_of_ble_eq_true rfl) ?_
      exact ⟨by rw [if_neg (by omega)], rfl⟩
    · rw [Int32.le_iff_toInt_le, nI_toInt (by omega)] at c2
      refine sg_iload_n dX5_about_12 rfl ?_
      refine sg_sipush 200 dX5_about_13 (by decide) ?_
      refine sg_icmp_lt 21 dX5_about_16 (by decide) (fun c3 => ?_) (fun c3 => ?_)
      · rw [if_pos ⟨by omega, by omega⟩]
        refine sg_iload_n dX5_about_21 rfl ?_
        by_cases h0 : w = 0
        · subst h0
          refine sg_tableIn (off := 26) 48 dX5_about_22 (by decide) (by decide) (by decide +kernel) (by decide) ?_
          refine sg_aload_n dX5_about_48 rfl ?_
          refine sg_get dX5_about_49 fl_X5_15 (by first | rfl | assumption) rfl ?_
          refine sg_iload_n dX5_about_52 rfl ?_
          refine sg_ald (p.toInt.toNat) dX5_about_53 (by first | rfl | assumption) (sm_asN (by omega)) (by omega) (by decide) ?_
          refine sg_ireturn dX5_about_54 rfl (Nat.le_of_ble_eq_true rfl) (Nat.le_of_ble_eq_true rfl) ?_
          exact ⟨by rw [if_pos rfl], rfl⟩
        · by_cases h1 : w = 1
          · subst h1
            refine sg_tableIn (off := 33) 55 dX5_about_22 (by decide) (by decide) (by decide +kernel) (by decide) ?_
            refine sg_aload_n dX5_about_55 rfl ?_
            refine sg_get dX5_about_56 fl_X5_18 (by first | rfl | assumption) rfl ?_
            refine sg_iload_n dX5_about_59 rfl ?_
            refine sg_ald (p.toInt.toNat) dX5_about_60 (by first | rfl | assumption) (sm_asN (by omega)) (by omega) (by decide) ?_
            refine sg_ireturn dX5_about_61 rfl (Nat.le_of_ble_eq_true rfl) (Nat.le_of_ble_eq_true rfl) ?_
            exact ⟨by rw [if_neg (by decide), if_pos rfl], rfl⟩
          · by_cases h2 : w = 2
            · subst h2
              refine sg_tableIn (off := 40) 62 dX5_about_22 (by decide) (by decide) (by decide +kernel) (by decide) ?_
              refine sg_aload_n dX5_about_62 rfl ?_
              refine sg_get dX5_about_63 fl_X5_21 (by first | rfl | assumption) rfl ?_
              refine sg_iload_n dX5_about_66 rfl ?_
              refine sg_ald (p.toInt.toNat) dX5_about_67 (by first | rfl | assumption) (sm_asN (by omega)) (by omega) (by decide) ?_
              refine sg_ireturn dX5_about_68 rfl (Nat.le_of_ble_eq_true rfl) (Nat.le_of_ble_eq_true rfl) ?_
              exact ⟨by rw [if_neg (by decide), if_neg (by decide), if_pos rfl], rfl⟩
            · have n0 := lv_neT h0 ti_0
              have n1 := lv_neT h1 ti_1
              have n2 := lv_neT h2 ti_2
              refine sg_tableOut 69 dX5_about_22 (by omega) (by decide) ?_
              refine sg_iconst (-1) dX5_about_69 (by decide) ?_
              refine sg_ireturn dX5_about_70 rfl (Nat.le_of_ble_eq_true rfl) (Nat.le_of_ble_eq_true rfl) ?_
              exact ⟨by rw [if_neg h0, if_neg h1, if_neg h2], rfl⟩
      · rw [Int32.lt_iff_toInt_lt, ti_200] at c3
        exact absurd (by omega) c3
end SM24
