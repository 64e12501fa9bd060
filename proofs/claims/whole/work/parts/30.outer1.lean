/-! ShellMoney: finding, keeping, names, worth -/
def sm_X (M : sm_M) (c dc : Nat) (cu it yr : Int32) (sa da : Nat → Option Nat) : Prop := M[0]? = some (sm_o 6 [.ref 1, .int (nI c), .ref 2, .ref 3, .ref 8, .ref 13, .ref 16, .int (nI dc), .ref 17, .int cu, .int it, .int yr]) ∧ M[1]? = some (sm_r 1 40 sa) ∧ M[16]? = some (sm_r 2 60 da)
theorem sm_X.ex {M M1 : sm_M} {c dc : Nat} {cu it yr : Int32} {sa da : Nat → Option Nat} {zs : List Nat} (h : sm_X M c dc cu it yr sa da) (hx : sm_ex M M1 zs) (hz : ∀ z ∈ [0, 1, 16], z ∉ zs) : sm_X M1 c dc cu it yr sa da := ⟨(hx.2 0 (hz 0 (by decide))).trans h.1, (hx.2 1 (hz 1 (by decide))).trans h.2.1, (hx.2 16 (hz 16 (by decide))).trans h.2.2⟩
/-- tales as one value -/
abbrev sm_T5 : Type := Nat × (Nat → Int32) × (Nat → Int32) × (Nat → Int32) × (Nat → Int32)
def sm_t5 (M : sm_M) (τ : sm_T5) : Prop := sm_tl M τ.1 τ.2.1 τ.2.2.1 τ.2.2.2.1 τ.2.2.2.2
def sm_say (nm kd nu yr : Int32) (τ : sm_T5) : sm_T5 := (τ.1 + 1, upd τ.2.1 τ.1 nm, upd τ.2.2.1 τ.1 kd, upd τ.2.2.2.1 τ.1 nu, upd τ.2.2.2.2 τ.1 yr)
def sm_sayIf (nm kd nu yr : Int32) (τ : sm_T5) : sm_T5 := if nm = 0 then τ else sm_say nm kd nu yr τ
theorem sm_t5.ex {M M1 : sm_M} {τ : sm_T5} {zs : List Nat} (h : sm_t5 M τ) (hx : sm_ex M M1 zs) (hz : ∀ z ∈ [8, 9, 10, 11, 12], z ∉ zs) : sm_t5 M1 τ := ⟨(hx.2 8 (hz 8 (by decide))).trans h.1, (hx.2 9 (hz 9 (by decide))).trans h.2.1, (hx.2 10 (hz 10 (by decide))).trans h.2.2.1, (hx.2 11 (hz 11 (by decide))).trans h.2.2.2.1, (hx.2 12 (hz 12 (by decide))).trans h.2.2.2.2⟩
theorem sm_le41 {q : Nat} (h : 41 ≤ q) : q ∉ [8, 9, 10, 11, 12] := by
  intro z
  simp only [List.mem_cons, List.not_mem_nil, or_false] at z
  omega
theorem sm_ge41 {z q : Nat} (h : 41 ≤ q) (hz : z < 41) : z ∉ [q] := by
  intro e
  have := List.mem_singleton.mp e
  omega
section SM30
variable {l : Launch} {b : Nat} {D : va_G} {cA : Nat → ClassId} {M : sm_M}
theorem c_areBeads (g m n : Int32) : sm_Ct l b D cA yX6_areBeads cX6_areBeads 3 (some .boolean) 1 0 0 [.int g, .int m, .int n] M (fun r M1 => r = some (.int (if (0 ≤ g.toInt ∧ g.toInt < 5) ∧ (0 ≤ m.toInt ∧ m.toInt < 10) ∧ (1 ≤ n.toInt ∧ n.toInt ≤ 80) then 1 else 0)) ∧ M1 = M) := by
  refine sm_enter (by decide +kernel) rfl (fun _ => Nat.le_of_ble_eq_true rfl) ?_
  refine sg_iload_n dX6_areBeads_0 rfl ?_
  refine sg_S1 dX6_areBeads_1 cs_X6_197 (c_isGrade _) (Nat.le_of_ble_eq_true rfl) (Nat.le_of_ble_eq_true rfl) (Nat.le_of_ble_eq_true rfl) (Nat.le_of_ble_eq_true rfl) (fun r M1 hp => ?_)
  obtain ⟨rfl, rfl⟩ := hp
  refine sg_bf_eq 32 dX6_areBeads_4 (by decide) (fun c => ?_) (fun c => ?_)
  · refine sg_iconst 0 dX6_areBeads_32 (by decide) ?_
    refine sg_zreturn dX6_areBeads_33 rfl (by first | decide | assumption) (Nat.le_of_ble_eq_true rfl) (Nat.le_of_ble_eq_true rfl) ?_
    exact ⟨by rw [if_neg (fun q => c q.1)], rfl⟩
  · refine sg_iload_n dX6_areBeads_7 rfl ?_
    refine sg_if_lt 32 dX6_areBeads_8 (by decide) (fun c_8 => ?_) (fun c_8 => ?_)
    · refine sg_iconst 0 dX6_areBeads_32 (by decide) ?_
      refine sg_zreturn dX6_areBeads_33 rfl (by first | decide | assumption) (Nat.le_of_ble_eq_true rfl) (Nat.le_of_ble_eq_true rfl) ?_
      exact ⟨by (try simp only [Int32.lt_iff_toInt_lt, Int32.le_iff_toInt_le, ← Int32.toInt_inj, ti_m2, ti_m1, ti_0, ti_1, ti_2, ti_3, ti_4, ti_5, ti_6, ti_7, ti_8, ti_9, ti_10, ti_11, ti_12, ti_16, ti_20, ti_25, ti_31, ti_40, ti_50, ti_60, ti_61, ti_63, ti_80, ti_99, ti_100, ti_200, ti_300, ti_500, ti_800, ti_1000, ti_3200, ti_10000, ti_1000000] at *) <;> (repeat split) <;> first | rfl | (exfalso; omega), rfl⟩
    · refine sg_iload_n dX6_areBeads_11 rfl ?_
      refine sg_bipush 10 dX6_areBeads_12 (by decide) ?_
      refine sg_icmp_ge 32 dX6_areBeads_14 (by decide) (fun c_14 => ?_) (fun c_14 => ?_)
      · refine sg_iconst 0 dX6_areBeads_32 (by decide) ?_
        refine sg_zreturn dX6_areBeads_33 rfl (by first | decide | assumption) (Nat.le_of_ble_eq_true rfl) (Nat.le_of_ble_eq_true rfl) ?_
        exact ⟨by (try simp only [Int32.lt_iff_toInt_lt, Int32.le_iff_toInt_le, ← Int32.toInt_inj, ti_m2, ti_m1, ti_0, ti_1, ti_2, ti_3, ti_4, ti_5, ti_6, ti_7, ti_8, ti_9, ti_10, ti_11, ti_12, ti_16, ti_20, ti_25, ti_31, ti_40, ti_50, ti_60, ti_61, ti_63, ti_80, ti_99, ti_100, ti_200, ti_300, ti_500, ti_800, ti_1000, ti_3200, ti_10000, ti_1000000] at *) <;> (repeat split) <;> first | rfl | (exfalso; omega), rfl⟩
      · refine sg_iload_n dX6_areBeads_17 rfl ?_
        refine sg_iconst 1 dX6_areBeads_18 (by decide) ?_
        refine sg_icmp_lt 32 dX6_areBeads_19 (by decide) (fun c_19 => ?_) (fun c_19 => ?_)
        · refine sg_iconst 0 dX6_areBeads_32 (by decide) ?_
          refine sg_zreturn dX6_areBeads_33 rfl (by first | decide | assumption) (Nat.le_of_ble_eq_true rfl) (Nat.le_of_ble_eq_true rfl) ?_
          exact ⟨by (try simp only [Int32.lt_iff_toInt_lt, Int32.le_iff_toInt_le, ← Int32.toInt_inj, ti_m2, ti_m1, ti_0, ti_1, ti_2, ti_3, ti_4, ti_5, ti_6, ti_7, ti_8, ti_9, ti_10, ti_11, ti_12, ti_16, ti_20, ti_25, ti_31, ti_40, ti_50, ti_60, ti_61, ti_63, ti_80, ti_99, ti_100, ti_200, ti_300, ti_500, ti_800, ti_1000, ti_3200, ti_10000, ti_1000000] at *) <;> (repeat split) <;> first | rfl | (exfalso; omega), rfl⟩
        · refine sg_iload_n dX6_areBeads_22 rfl ?_
          refine sg_bipush 80 dX6_areBeads_23 (by decide) ?_
          refine sg_icmp_gt 32 dX6_areBeads_25 (by decide) (fun c_25 => ?_) (fun c_25 => ?_)
          · refine sg_iconst 0 dX6_areBeads_32 (by decide) ?_
            refine sg_zreturn dX6_areBeads_33 rfl (by first | decide | assumption) (Nat.le_of_ble_eq_true rfl) (Nat.le_of_ble_eq_true rfl) ?_
            exact ⟨by (try simp only [Int32.lt_iff_toInt_lt, Int32.le_iff_toInt_le, ← Int32.toInt_inj, ti_m2, ti_m1, ti_0, ti_1, ti_2, ti_3, ti_4, ti_5, ti_6, ti_7, ti_8, ti_9, ti_10, ti_11, ti_12, ti_16, ti_20, ti_25, ti_31, ti_40, ti_50, ti_60, ti_61, ti_63, ti_80, ti_99, ti_100, ti_200, ti_300, ti_500, ti_800, ti_1000, ti_3200, ti_10000, ti_1000000] at *) <;> (repeat split) <;> first | rfl | (exfalso; omega), rfl⟩
          · refine sg_iconst 1 dX6_areBeads_28 (by decide) ?_
            refine sg_goto 33 dX6_areBeads_29 (by decide) ?_
            refine sg_zreturn dX6_areBeads_33 rfl (by first | decide | assumption) (Nat.le_of_ble_eq_true rfl) (Nat.le_of_ble_eq_true rfl) ?_
            exact ⟨by (try simp only [Int32.lt_iff_toInt_lt, Int32.le_iff_toInt_le, ← Int32.toInt_inj, ti_m2, ti_m1, ti_0, ti_1, ti_2, ti_3, ti_4, ti_5, ti_6, ti_7, ti_8, ti_9, ti_10, ti_11, ti_12, ti_16, ti_20, ti_25, ti_31, ti_40, ti_50, ti_60, ti_61, ti_63, ti_80, ti_99, ti_100, ti_200, ti_300, ti_500, ti_800, ti_1000, ti_3200, ti_10000, ti_1000000] at *) <;> (repeat split) <;> first | rfl | (exfalso; omega), rfl⟩
theorem c_strandAt_y {c dc : Nat} {cu it yr i : Int32} {sa da : Nat → Option Nat} {q : Nat} (k : Nat) (hi : i = nI k) (hk : k < c) (hc : c ≤ 40) (hq : sa k = some q) (h : sm_X M c dc cu it yr sa da) : sm_Ct l b D cA yX6_strandAt cX6_strandAt 2 (some (.object "ShellMoney$Strand")) 0 0 0 [.ref 0, .int i] M (fun r M1 => r = some (.ref q) ∧ M1 = M) := by
  subst hi
  obtain ⟨h0, h1, h16⟩ := h
  refine sm_enter (by decide +kernel) rfl (fun _ => Nat.le_of_ble_eq_true rfl) ?_
  refine sg_iload_n dX6_strandAt_0 rfl ?_
  refine sg_if_lt 21 dX6_strandAt_1 (by decide) (fun c1 => ?_) (fun c1 => ?_)
  · exact absurd c1 (nI_pos (by omega))
  · refine sg_iload_n dX6_strandAt_4 rfl ?_
    refine sg_aload_n dX6_strandAt_5 rfl ?_
    refine sg_get dX6_strandAt_6 fl_X6_15 (by first | rfl | assumption) rfl ?_
    refine sg_icmp_ge 21 dX6_strandAt_9 (by decide) (fun c2 => ?_) (fun c2 => ?_)
    · exact absurd c2 (nI_ge hk (by omega))
    · refine sg_iload_n dX6_strandAt_12 rfl ?_
      refine sg_aload_n dX6_strandAt_13 rfl ?_
      refine sg_get dX6_strandAt_14 fl_X6_11 (by first | rfl | assumption) rfl ?_
      refine sg_alenr dX6_strandAt_17 (by first | rfl | assumption) (by decide) ?_
      refine sg_icmp_lt 23 dX6_strandAt_18 (by decide) (fun c3 => ?_) (fun c3 => ?_)
      · refine sg_aload_n dX6_strandAt_23 rfl ?_
        refine sg_get dX6_strandAt_24 fl_X6_11 (by first | rfl | assumption) rfl ?_
        refine sg_iload_n dX6_strandAt_27 rfl ?_
        refine sg_aald (k) dX6_strandAt_28 (by first | rfl | assumption) (fun _ => rfl) (rfl) (by omega) (by decide) ?_
        refine sg_areturn dX6_strandAt_29 rfl (Nat.le_of_ble_eq_true rfl) (Nat.le_of_ble_eq_true rfl) ?_
        exact ⟨by rw [hq]; rfl, rfl⟩
      · exact absurd (nI_lt (by omega) (by omega)) c3
theorem c_strandAt_n {c dc : Nat} {cu it yr i : Int32} {sa da : Nat → Option Nat} (hc : c ≤ 40) (hn : ¬ (0 ≤ i.toInt ∧ i.toInt < c)) (h : sm_X M c dc cu it yr sa da) : sm_Ct l b D cA yX6_strandAt cX6_strandAt 2 (some (.object "ShellMoney$Strand")) 0 0 0 [.ref 0, .int i] M (fun r M1 => r = some .null ∧ M1 = M) := by
  obtain ⟨h0, h1, h16⟩ := h
  refine sm_enter (by decide +kernel) rfl (fun _ => Nat.le_of_ble_eq_true rfl) ?_
  refine sg_iload_n dX6_strandAt_0 rfl ?_
  refine sg_if_lt 21 dX6_strandAt_1 (by decide) (fun c1 => ?_) (fun c1 => ?_)
  · refine sg_null dX6_strandAt_21 ?_
    refine sg_areturn (r := none) dX6_strandAt_22 rfl (Nat.le_of_ble_eq_true rfl) (Nat.le_of_ble_eq_true rfl) ?_
    exact ⟨rfl, rfl⟩
  · simp only [Int32.lt_iff_toInt_lt, ti_0] at c1
    refine sg_iload_n dX6_strandAt_4 rfl ?_
    refine sg_aload_n dX6_strandAt_5 rfl ?_
    refine sg_get dX6_strandAt_6 fl_X6_15 (by first | rfl | assumption) rfl ?_
    refine sg_icmp_ge 21 dX6_strandAt_9 (by decide) (fun c2 => ?_) (fun c2 => ?_)
    · refine sg_null dX6_strandAt_21 ?_
      refine sg_areturn (r := none) dX6_strandAt_22 rfl (Nat.le_of_ble_eq_true rfl) (Nat.le_of_ble_eq_true rfl) ?_
      exact ⟨rfl, rfl⟩
    · rw [Int32.le_iff_toInt_le, nI_toInt (by omega)] at c2
      exact absurd ⟨by omega, by omega⟩ hn
theorem c_debtAt_y {c dc : Nat} {cu it yr i : Int32} {sa da : Nat → Option Nat} {q : Nat} (k : Nat) (hi : i = nI k) (hk : k < dc) (hc : dc ≤ 60) (hq : da k = some q) (h : sm_X M c dc cu it yr sa da) : sm_Ct l b D cA yX6_debtAt cX6_debtAt 2 (some (.object "ShellMoney$Debt")) 0 0 0 [.ref 0, .int i] M (fun r M1 => r = some (.ref q) ∧ M1 = M) := by
  subst hi
  obtain ⟨h0, h1, h16⟩ := h
  refine sm_enter (by decide +kernel) rfl (fun _ => Nat.le_of_ble_eq_true rfl) ?_
  refine sg_iload_n dX6_debtAt_0 rfl ?_
  refine sg_if_lt 21 dX6_debtAt_1 (by decide) (fun c1 => ?_) (fun c1 => ?_)
  · exact absurd c1 (nI_pos (by omega))
  · refine sg_iload_n dX6_debtAt_4 rfl ?_
    refine sg_aload_n dX6_debtAt_5 rfl ?_
    refine sg_get dX6_debtAt_6 fl_X6_50 (by first | rfl | assumption) rfl ?_
    refine sg_icmp_ge 21 dX6_debtAt_9 (by decide) (fun c2 => ?_) (fun c2 => ?_)
    · exact absurd c2 (nI_ge hk (by omega))
    · refine sg_iload_n dX6_debtAt_12 rfl ?_
      refine sg_aload_n dX6_debtAt_13 rfl ?_
      refine sg_get dX6_debtAt_14 fl_X6_46 (by first | rfl | assumption) rfl ?_
      refine sg_alenr dX6_debtAt_17 (by first | rfl | assumption) (by decide) ?_
      refine sg_icmp_lt 23 dX6_debtAt_18 (by decide) (fun c3 => ?_) (fun c3 => ?_)
      · refine sg_aload_n dX6_debtAt_23 rfl ?_
        refine sg_get dX6_debtAt_24 fl_X6_46 (by first | rfl | assumption) rfl ?_
        refine sg_iload_n dX6_debtAt_27 rfl ?_
        refine sg_aald (k) dX6_debtAt_28 (by first | rfl | assumption) (fun _ => rfl) (rfl) (by omega) (by decide) ?_
        refine sg_areturn dX6_debtAt_29 rfl (Nat.le_of_ble_eq_true rfl) (Nat.le_of_ble_eq_true rfl) ?_
        exact ⟨by rw [hq]; rfl, rfl⟩
      · exact absurd (nI_lt (by omega) (by omega)) c3
theorem c_debtAt_n {c dc : Nat} {cu it yr i : Int32} {sa da : Nat → Option Nat} (hc : dc ≤ 60) (hn : ¬ (0 ≤ i.toInt ∧ i.toInt < dc)) (h : sm_X M c dc cu it yr sa da) : sm_Ct l b D cA yX6_debtAt cX6_debtAt 2 (some (.object "ShellMoney$Debt")) 0 0 0 [.ref 0, .int i] M (fun r M1 => r = some .null ∧ M1 = M) := by
  obtain ⟨h0, h1, h16⟩ := h
  refine sm_enter (by decide +kernel) rfl (fun _ => Nat.le_of_ble_eq_true rfl) ?_
  refine sg_iload_n dX6_debtAt_0 rfl ?_
  refine sg_if_lt 21 dX6_debtAt_1 (by decide) (fun c1 => ?_) (fun c1 => ?_)
  · refine sg_null dX6_debtAt_21 ?_
    refine sg_areturn (r := none) dX6_debtAt_22 rfl (Nat.le_of_ble_eq_true rfl) (Nat.le_of_ble_eq_true rfl) ?_
    exact ⟨rfl, rfl⟩
  · simp only [Int32.lt_iff_toInt_lt, ti_0] at c1
    refine sg_iload_n dX6_debtAt_4 rfl ?_
    refine sg_aload_n dX6_debtAt_5 rfl ?_
    refine sg_get dX6_debtAt_6 fl_X6_50 (by first | rfl | assumption) rfl ?_
    refine sg_icmp_ge 21 dX6_debtAt_9 (by decide) (fun c2 => ?_) (fun c2 => ?_)
    · refine sg_null dX6_debtAt_21 ?_
      refine sg_areturn (r := none) dX6_debtAt_22 rfl (Nat.le_of_ble_eq_true rfl) (Nat.le_of_ble_eq_true rfl) ?_
      exact ⟨rfl, rfl⟩
    · rw [Int32.le_iff_toInt_le, nI_toInt (by omega)] at c2
      exact absurd ⟨by omega, by omega⟩ hn
theorem c_living_y {c dc q g m n : Nat} {cu it yr i ow nm : Int32} {sa da : Nat → Option Nat} (k : Nat) (hi : i = nI k) (hk : k < c) (hc : c ≤ 40) (hq : sa k = some q) (hs : M[q]? = some (sm_o 4 [.ref g, .ref m, .int (nI n), .int ow, .int nm])) (h1 : 1 ≤ n) (hn : n ≤ 80) (h : sm_X M c dc cu it yr sa da) : sm_Ct l b D cA yX6_livingStrand cX6_livingStrand 3 (some (.object "ShellMoney$Strand")) 1 0 0 [.ref 0, .int i] M (fun r M1 => r = some (.ref q) ∧ M1 = M) := by
  refine sm_enter (by decide +kernel) rfl (fun _ => Nat.le_of_ble_eq_true rfl) ?_
  refine sg_aload_n dX6_livingStrand_0 rfl ?_
  refine sg_iload_n dX6_livingStrand_1 rfl ?_
  refine sg_V1 dX6_livingStrand_2 cv_X6_143 h.1 (c_strandAt_y k hi hk hc hq h) (Nat.le_of_ble_eq_true rfl) (Nat.le_of_ble_eq_true rfl) (Nat.le_of_ble_eq_true rfl) (Nat.le_of_ble_eq_true rfl) (fun r9 M9 hp => ?_)
  obtain ⟨rfl, e9⟩ := hp
  rw [e9]
  refine sg_astore_n dX6_livingStrand_5 (by decide) ?_
  refine sg_aload_n dX6_livingStrand_6 rfl ?_
  refine sg_ifnull dX6_livingStrand_7 ?_
  refine sg_aload_n dX6_livingStrand_10 rfl ?_
  refine sg_get dX6_livingStrand_11 fl_X6_96 (by first | rfl | assumption) rfl ?_
  refine sg_if_ne 21 dX6_livingStrand_14 (by decide) (fun c1 => ?_) (fun c1 => ?_)
  · refine sg_aload_n dX6_livingStrand_21 rfl ?_
    refine sg_areturn (r := some q) dX6_livingStrand_22 rfl (Nat.le_of_ble_eq_true rfl) (Nat.le_of_ble_eq_true rfl) ?_
    exact ⟨rfl, rfl⟩
  · exact absurd c1 (nI_ne0 (by omega) (by omega))
theorem c_living_n1 {c dc : Nat} {cu it yr i : Int32} {sa da : Nat → Option Nat} (hc : c ≤ 40) (hn : ¬ (0 ≤ i.toInt ∧ i.toInt < c)) (h : sm_X M c dc cu it yr sa da) : sm_Ct l b D cA yX6_livingStrand cX6_livingStrand 3 (some (.object "ShellMoney$Strand")) 1 0 0 [.ref 0, .int i] M (fun r M1 => r = some .null ∧ M1 = M) := by
  refine sm_enter (by decide +kernel) rfl (fun _ => Nat.le_of_ble_eq_true rfl) ?_
  refine sg_aload_n dX6_livingStrand_0 rfl ?_
  refine sg_iload_n dX6_livingStrand_1 rfl ?_
  refine sg_V1 dX6_livingStrand_2 cv_X6_143 h.1 (c_strandAt_n hc hn h) (Nat.le_of_ble_eq_true rfl) (Nat.le_of_ble_eq_true rfl) (Nat.le_of_ble_eq_true rfl) (Nat.le_of_ble_eq_true rfl) (fun r9 M9 hp => ?_)
  obtain ⟨rfl, e9⟩ := hp
  rw [e9]
  refine sg_astore_nN dX6_livingStrand_5 (by decide) ?_
  refine sg_aload_nN dX6_livingStrand_6 rfl ?_
  refine sg_ifnullN 17 dX6_livingStrand_7 (by decide) ?_
  refine sg_null dX6_livingStrand_17 ?_
  refine sg_goto 22 dX6_livingStrand_18 (by decide) ?_
  refine sg_areturn (r := none) dX6_livingStrand_22 rfl (Nat.le_of_ble_eq_true rfl) (Nat.le_of_ble_eq_true rfl) ?_
  exact ⟨rfl, rfl⟩
theorem c_living_n2 {c dc q g m : Nat} {cu it yr i ow nm : Int32} {sa da : Nat → Option Nat} (k : Nat) (hi : i = nI k) (hk : k < c) (hc : c ≤ 40) (hq : sa k = some q) (hs : M[q]? = some (sm_o 4 [.ref g, .ref m, .int (nI 0), .int ow, .int nm])) (h : sm_X M c dc cu it yr sa da) : sm_Ct l b D cA yX6_livingStrand cX6_livingStrand 3 (some (.object "ShellMoney$Strand")) 1 0 0 [.ref 0, .int i] M (fun r M1 => r = some .null ∧ M1 = M) := by
  refine sm_enter (by decide +kernel) rfl (fun _ => Nat.le_of_ble_eq_true rfl) ?_
  refine sg_aload_n dX6_livingStrand_0 rfl ?_
  refine sg_iload_n dX6_livingStrand_1 rfl ?_
  refine sg_V1 dX6_livingStrand_2 cv_X6_143 h.1 (c_strandAt_y k hi hk hc hq h) (Nat.le_of_ble_eq_true rfl) (Nat.le_of_ble_eq_true rfl) (Nat.le_of_ble_eq_true rfl) (Nat.le_of_ble_eq_true rfl) (fun r9 M9 hp => ?_)
  obtain ⟨rfl, e9⟩ := hp
  rw [e9]
  refine sg_astore_n dX6_livingStrand_5 (by decide) ?_
  refine sg_aload_n dX6_livingStrand_6 rfl ?_
  refine sg_ifnull dX6_livingStrand_7 ?_
  refine sg_aload_n dX6_livingStrand_10 rfl ?_
  refine sg_get dX6_livingStrand_11 fl_X6_96 (by first | rfl | assumption) rfl ?_
  refine sg_if_ne 21 dX6_livingStrand_14 (by decide) (fun c1 => ?_) (fun c1 => ?_)
  · exact absurd nI_0 c1
  · refine sg_null dX6_livingStrand_17 ?_
    refine sg_goto 22 dX6_livingStrand_18 (by decide) ?_
    refine sg_areturn (r := none) dX6_livingStrand_22 rfl (Nat.le_of_ble_eq_true rfl) (Nat.le_of_ble_eq_true rfl) ?_
    exact ⟨rfl, rfl⟩
theorem c_keepStrand {c dc q : Nat} {cu it yr : Int32} {sa da : Nat → Option Nat} {fs : List Value} (hc : c < 40) (hq : M[q]? = some (sm_o 4 fs)) (h : sm_X M c dc cu it yr sa da) : sm_Ct l b D cA yX6_keepStrand cX6_keepStrand 2 (some .int) 0 0 0 [.ref 0, .ref q] M (fun r M1 => r = some (.int (nI c)) ∧ sm_ex M M1 [0, 1] ∧ sm_X M1 (c + 1) dc cu it yr (va_up sa c (some q)) da) := by
  obtain ⟨h0, h1, h16⟩ := h
  refine sm_enter (by decide +kernel) rfl (fun _ => Nat.le_of_ble_eq_true rfl) ?_
  refine sg_aload_n dX6_keepStrand_0 rfl ?_
  refine sg_get dX6_keepStrand_1 fl_X6_15 (by first | rfl | assumption) rfl ?_
  refine sg_aload_n dX6_keepStrand_4 rfl ?_
  refine sg_get dX6_keepStrand_5 fl_X6_11 (by first | rfl | assumption) rfl ?_
  refine sg_alenr dX6_keepStrand_8 (by first | rfl | assumption) (by decide) ?_
  refine sg_icmp_lt 14 dX6_keepStrand_9 (by decide) (fun c1 => ?_) (fun c1 => ?_)
  · refine sg_aload_n dX6_keepStrand_14 rfl ?_
    refine sg_get dX6_keepStrand_15 fl_X6_11 (by first | rfl | assumption) rfl ?_
    refine sg_aload_n dX6_keepStrand_18 rfl ?_
    refine sg_get dX6_keepStrand_19 fl_X6_15 (by first | rfl | assumption) rfl ?_
    refine sg_aload_n dX6_keepStrand_22 rfl ?_
    refine sg_aast c dX6_keepStrand_23 h1 (fun _ => rfl) hq rfl rfl hc (by decide) ?_
    have x1 : sm_ex M (M.set 1 (sm_r 1 40 (va_up sa c (some q)))) [1] := sm_ex.set
    have g1 := sm_gs (c := sm_r 1 40 (va_up sa c (some q))) h1
    generalize M.set 1 (sm_r 1 40 (va_up sa c (some q))) = M1 at x1 g1 ⊢
    have a0 := (x1.2 0 (by decide)).trans h0
    refine sg_aload_n dX6_keepStrand_24 rfl ?_
    refine sg_dup dX6_keepStrand_25 rfl ?_
    refine sg_get dX6_keepStrand_26 fl_X6_15 (by first | rfl | assumption) rfl ?_
    refine sg_iconst 1 dX6_keepStrand_29 (by decide) ?_
    refine sg_iadd dX6_keepStrand_30 ?_
    refine sg_putx dX6_keepStrand_31 fl_X6_15 ft_X6_1 a0 (Nat.le_of_ble_eq_true rfl) (fun M2 x2 q2 => ?_)
    have xx := (x1.mono (ys := [0, 1]) (by decide)).tr (x2.mono (by decide))
    rw [nI_1] at q2
    refine sg_aload_n dX6_keepStrand_34 rfl ?_
    refine sg_get dX6_keepStrand_35 fl_X6_15 (by first | rfl | assumption) rfl ?_
    refine sg_iconst 1 dX6_keepStrand_38 (by decide) ?_
    refine sg_isub dX6_keepStrand_39 ?_
    rw [nI_pred]
    refine sg_ireturn dX6_keepStrand_40 rfl (Nat.le_of_ble_eq_true rfl) (Nat.le_of_ble_eq_true rfl) ?_
    exact ⟨rfl, xx, q2, (x2.2 1 (by decide)).trans g1, (xx.2 16 (by decide)).trans h16⟩
  · exact absurd (nI_lt hc (by omega)) c1
theorem c_nameCount {q g m : Nat} {n ow nm : Int32} (hs : M[q]? = some (sm_o 4 [.ref g, .ref m, .int n, .int ow, .int nm])) : sm_Ct l b D cA yX6_nameCount cX6_nameCount 1 (some .int) 0 0 0 [.ref q] M (fun r M1 => r = some (.int (nI (if nm = 0 then 0 else 1))) ∧ M1 = M) := by
  refine sm_enter (by decide +kernel) rfl (fun _ => Nat.le_of_ble_eq_true rfl) ?_
  refine sg_aload_n dX6_nameCount_0 rfl ?_
  refine sg_get dX6_nameCount_1 fl_X6_112 (by first | rfl | assumption) rfl ?_
  refine sg_if_ne 11 dX6_nameCount_4 (by decide) (fun c => ?_) (fun c => ?_)
  · refine sg_iconst 1 dX6_nameCount_11 (by decide) ?_
    refine sg_ireturn dX6_nameCount_12 rfl (Nat.le_of_ble_eq_true rfl) (Nat.le_of_ble_eq_true rfl) ?_
    exact ⟨by rw [if_neg c]; rfl, rfl⟩
  · refine sg_iconst 0 dX6_nameCount_7 (by decide) ?_
    refine sg_goto 12 dX6_nameCount_8 (by decide) ?_
    refine sg_ireturn dX6_nameCount_12 rfl (Nat.le_of_ble_eq_true rfl) (Nat.le_of_ble_eq_true rfl) ?_
    exact ⟨by rw [if_pos c]; rfl, rfl⟩
theorem c_loseName {c dc q g m : Nat} {cu it yr n ow nm : Int32} {sa da : Nat → Option Nat} {τ : sm_T5} (h41 : 41 ≤ q) (hs : M[q]? = some (sm_o 4 [.ref g, .ref m, .int n, .int ow, .int nm])) (ht : sm_t5 M τ) (hz : nm = 0 ∨ τ.1 < 200) (h : sm_X M c dc cu it yr sa da) : sm_Ct l b D cA yX6_loseName cX6_loseName 2 none 1 0 0 [.ref 0, .ref q] M (fun r M1 => r = none ∧ sm_ex M M1 [q, 8, 9, 10, 11, 12] ∧ M1[q]? = some (sm_o 4 [.ref g, .ref m, .int n, .int ow, .int 0]) ∧ sm_t5 M1 (sm_sayIf nm 5 0 yr τ)) := by
  obtain ⟨h0, h1, h16⟩ := id h
  unfold sm_sayIf
  refine sm_enter (by decide +kernel) rfl (fun _ => Nat.le_of_ble_eq_true rfl) ?_
  refine sg_aload_n dX6_loseName_0 rfl ?_
  refine sg_get dX6_loseName_1 fl_X6_112 (by first | rfl | assumption) rfl ?_
  refine sg_if_eq 29 dX6_loseName_4 (by decide) (fun c1 => ?_) (fun c1 => ?_)
  · refine sg_return dX6_loseName_29 rfl (Nat.le_of_ble_eq_true rfl) (Nat.le_of_ble_eq_true rfl) ?_
    subst c1
    exact ⟨rfl, sm_ex.rf, hs, by rw [if_pos rfl]; exact ht⟩
  · refine sg_aload_n dX6_loseName_7 rfl ?_
    refine sg_get dX6_loseName_8 fl_X6_33 (by first | rfl | assumption) rfl ?_
    refine sg_aload_n dX6_loseName_11 rfl ?_
    refine sg_get dX6_loseName_12 fl_X6_112 (by first | rfl | assumption) rfl ?_
    refine sg_iconst 5 dX6_loseName_15 (by decide) ?_
    refine sg_iconst 0 dX6_loseName_16 (by decide) ?_
    refine sg_aload_n dX6_loseName_17 rfl ?_
    refine sg_get dX6_loseName_18 fl_X6_66 (by first | rfl | assumption) rfl ?_
    refine sg_V4 dX6_loseName_21 cv_X6_136 ht.1 (c_tell nm 5 0 yr (hz.elim (fun e => absurd e c1) id) ht) (Nat.le_of_ble_eq_true rfl) (Nat.le_of_ble_eq_true rfl) (Nat.le_of_ble_eq_true rfl) (Nat.le_of_ble_eq_true rfl) (fun r9 M9 hp => ?_)
    obtain ⟨rfl, x9, t9⟩ := hp
    have s9 := (x9.2 q (sm_le41 h41)).trans hs
    refine sg_aload_n dX6_loseName_24 rfl ?_
    refine sg_iconst 0 dX6_loseName_25 (by decide) ?_
    refine sg_putx dX6_loseName_26 fl_X6_112 ft_X4_4 s9 (Nat.le_of_ble_eq_true rfl) (fun M2 x2 q2 => ?_)
    refine sg_return dX6_loseName_29 rfl (Nat.le_of_ble_eq_true rfl) (Nat.le_of_ble_eq_true rfl) ?_
    refine ⟨rfl, (x9.mono (fun z hz => List.mem_cons_of_mem _ hz)).tr (x2.mono (fun z hz => by rw [List.mem_singleton.mp hz]; exact List.mem_cons_self)), q2, ?_⟩
    rw [if_neg c1]
    exact (show sm_t5 M9 (sm_say nm 5 0 yr τ) from t9).ex x2 (fun z hz => sm_ge41 h41 (by simp only [List.mem_cons, List.not_mem_nil, or_false] at hz; omega))
theorem c_handOver {c dc q g m : Nat} {cu it yr n ow nm : Int32} {sa da : Nat → Option Nat} {τ : sm_T5} (to : Int32) (h41 : 41 ≤ q) (hs : M[q]? = some (sm_o 4 [.ref g, .ref m, .int n, .int ow, .int nm])) (ht : sm_t5 M τ) (hz : nm = 0 ∨ τ.1 < 200) (h : sm_X M c dc cu it yr sa da) : sm_Ct l b D cA yX6_handOver cX6_handOver 3 none 1 0 0 [.ref 0, .ref q, .int to] M (fun r M1 => r = none ∧ sm_ex M M1 [q, 8, 9, 10, 11, 12] ∧ M1[q]? = some (sm_o 4 [.ref g, .ref m, .int n, .int to, .int nm]) ∧ sm_t5 M1 (sm_sayIf nm 2 to yr τ)) := by
  unfold sm_sayIf
  refine sm_enter (by decide +kernel) rfl (fun _ => Nat.le_of_ble_eq_true rfl) ?_
  refine sg_aload_n dX6_handOver_0 rfl ?_
  refine sg_iload_n dX6_handOver_1 rfl ?_
  refine sg_putx dX6_handOver_2 fl_X6_105 ft_X4_3 hs (Nat.le_of_ble_eq_true rfl) (fun M2 x2 q2 => ?_)
  have h2 := h.ex x2 (fun z hz => sm_ge41 h41 (by simp only [List.mem_cons, List.not_mem_nil, or_false] at hz; omega))
  have t2 := ht.ex x2 (fun z hz => sm_ge41 h41 (by simp only [List.mem_cons, List.not_mem_nil, or_false] at hz; omega))
  have x2' := x2.mono (ys := [q, 8, 9, 10, 11, 12]) (fun z hz => by rw [List.mem_singleton.mp hz]; exact List.mem_cons_self)
  obtain ⟨h0, h1, h16⟩ := id h2
  refine sg_aload_n dX6_handOver_5 rfl ?_
  refine sg_get dX6_handOver_6 fl_X6_112 (by first | rfl | assumption) rfl ?_
  refine sg_if_eq 29 dX6_handOver_9 (by decide) (fun c1 => ?_) (fun c1 => ?_)
  · refine sg_return dX6_handOver_29 rfl (Nat.le_of_ble_eq_true rfl) (Nat.le_of_ble_eq_true rfl) ?_
    exact ⟨rfl, x2', q2, by rw [if_pos c1]; exact t2⟩
  · refine sg_aload_n dX6_handOver_12 rfl ?_
    refine sg_get dX6_handOver_13 fl_X6_33 (by first | rfl | assumption) rfl ?_
    refine sg_aload_n dX6_handOver_16 rfl ?_
    refine sg_get dX6_handOver_17 fl_X6_112 (by first | rfl | assumption) rfl ?_
    refine sg_iconst 2 dX6_handOver_20 (by decide) ?_
    refine sg_iload_n dX6_handOver_21 rfl ?_
    refine sg_aload_n dX6_handOver_22 rfl ?_
    refine sg_get dX6_handOver_23 fl_X6_66 (by first | rfl | assumption) rfl ?_
    refine sg_V4 dX6_handOver_26 cv_X6_136 t2.1 (c_tell nm 2 to yr (hz.elim (fun e => absurd e c1) id) t2) (Nat.le_of_ble_eq_true rfl) (Nat.le_of_ble_eq_true rfl) (Nat.le_of_ble_eq_true rfl) (Nat.le_of_ble_eq_true rfl) (fun r9 M9 hp => ?_)
    obtain ⟨rfl, x9, t9⟩ := hp
    refine sg_return dX6_handOver_29 rfl (Nat.le_of_ble_eq_true rfl) (Nat.le_of_ble_eq_true rfl) ?_
    exact ⟨rfl, x2'.tr (x9.mono (fun z hz => List.mem_cons_of_mem _ hz)), (x9.2 q (sm_le41 h41)).trans q2, by rw [if_neg c1]; exact t9⟩
theorem c_worthOf {c dc q g m n j : Nat} {cu it yr ow nm fame : Int32} {sa da : Nat → Option Nat} {fg fm r1 r2 r3 r4 : Nat → Int32} (hn : n ≤ 80) (hl : 0 < n → sm_least fg 0 n = nI j ∧ j < 5) (hs : sm_st M q g m n fg fm ow nm) (hr : sm_rates M r1 r2 r3 r4 fame) (h : sm_X M c dc cu it yr sa da) : sm_Ct l b D cA yX6_worthOf cX6_worthOf 3 (some .int) 3 0 0 [.ref 0, .ref q] M (fun r M1 => r = some (.int (if n = 0 then 0 else sm_wbl r1 r2 r3 r4 j (nI n) + (if nm = 0 then 0 else fame))) ∧ M1 = M) := by
  obtain ⟨h0, h1, h16⟩ := id h
  obtain ⟨hq, hg, hm⟩ := id hs
  have h3 := hr.1
  have fin : 0 < n → ∀ (f : Int32), sm_G l b D cA yX6_worthOf cX6_worthOf 3 (some .int) 3 0 0 (fun r M1 => r = some (.int (sm_wbl r1 r2 r3 r4 j (nI n) + f)) ∧ M1 = M) 0 0 27 [some (.ref 0), some (.ref q), none] [.int f] M := fun hn0 f => by
    refine sg_istore_n dX6_worthOf_27 (by decide) ?_
    refine sg_aload_n dX6_worthOf_28 rfl ?_
    refine sg_get dX6_worthOf_29 fl_X6_26 (by first | rfl | assumption) rfl ?_
    refine sg_aload_n dX6_worthOf_32 rfl ?_
    refine sg_V0 dX6_worthOf_33 cv_X6_149 hq (c_leastGrade hn hs) (Nat.le_of_ble_eq_true rfl) (Nat.le_of_ble_eq_true rfl) (Nat.le_of_ble_eq_true rfl) (Nat.le_of_ble_eq_true rfl) (fun r9 M9 hp => ?_)
    obtain ⟨rfl, e9⟩ := hp
    rw [e9]
    refine sg_aload_n dX6_worthOf_36 rfl ?_
    refine sg_get dX6_worthOf_37 fl_X6_96 (by first | rfl | assumption) rfl ?_
    refine sg_V2 dX6_worthOf_40 cv_X6_281 h3 (c_worthByLength j _ (hl hn0).1 (hl hn0).2 hr) (Nat.le_of_ble_eq_true rfl) (Nat.le_of_ble_eq_true rfl) (Nat.le_of_ble_eq_true rfl) (Nat.le_of_ble_eq_true rfl) (fun r9 M9 hp => ?_)
    obtain ⟨rfl, e9⟩ := hp
    rw [e9]
    refine sg_iload_n dX6_worthOf_43 rfl ?_
    refine sg_iadd dX6_worthOf_44 ?_
    refine sg_ireturn dX6_worthOf_45 rfl (Nat.le_of_ble_eq_true rfl) (Nat.le_of_ble_eq_true rfl) ?_
    exact ⟨rfl, rfl⟩
  refine sm_enter (by decide +kernel) rfl (fun _ => Nat.le_of_ble_eq_true rfl) ?_
  refine sg_aload_n dX6_worthOf_0 rfl ?_
  refine sg_get dX6_worthOf_1 fl_X6_96 (by first | rfl | assumption) rfl ?_
  refine sg_if_ne 9 dX6_worthOf_4 (by decide) (fun c1 => ?_) (fun c1 => ?_)
  · have hn0 : 0 < n := by
      rcases Nat.eq_zero_or_pos n with e | e
      · rw [e] at c1
        exact absurd nI_0 c1
      · exact e
    rw [if_neg (show ¬ n = 0 by omega)]
    refine sg_aload_n dX6_worthOf_9 rfl ?_
    refine sg_get dX6_worthOf_10 fl_X6_112 (by first | rfl | assumption) rfl ?_
    refine sg_if_ne 20 dX6_worthOf_13 (by decide) (fun c2 => ?_) (fun c2 => ?_)
    · rw [if_neg c2]
      refine sg_aload_n dX6_worthOf_20 rfl ?_
      refine sg_get dX6_worthOf_21 fl_X6_26 (by first | rfl | assumption) rfl ?_
      refine sg_get dX6_worthOf_24 fl_X6_278 (by first | rfl | assumption) rfl ?_
      exact fin hn0 fame
    · rw [if_pos c2]
      refine sg_iconst 0 dX6_worthOf_16 (by decide) ?_
      refine sg_goto 27 dX6_worthOf_17 (by decide) ?_
      exact fin hn0 0
  · have hn0 : n = 0 := by
      rcases Nat.eq_zero_or_pos n with e | e
      · exact e
      · exact absurd c1 (nI_ne0 e (by omega))
    rw [if_pos hn0]
    refine sg_iconst 0 dX6_worthOf_7 (by decide) ?_
    refine sg_ireturn dX6_worthOf_8 rfl (Nat.le_of_ble_eq_true rfl) (Nat.le_of_ble_eq_true rfl) ?_
    exact ⟨rfl, rfl⟩
end SM30
