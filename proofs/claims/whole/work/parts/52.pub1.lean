/-! ShellMoney: what is read from outside -/
def sm_cht (f : Nat → Int32) (g : Int32) : Nat → Nat → Int32
  | 0, _ => -1
  | r + 1, t => if g ≤ f t then sm_cht f g r (t + 1) else nI t
theorem sm_toN {i : Int32} {c : Nat} (h : 0 ≤ i.toInt ∧ i.toInt < c) : i = nI i.toInt.toNat ∧ i.toInt.toNat < c := ⟨sm_asN h.1, by omega⟩
section SM52
variable {l : Launch} {b : Nat} {D : va_G} {cA : Nat → ClassId} {M : sm_M}
variable {c dc : Nat} {cu it yr fame : Int32} {sa da : Nat → Option Nat} {sid ln js did hb : Nat → Nat} {fg fm : Nat → Nat → Int32} {ow nm : Nat → Int32} {r1 r2 r3 r4 ws to gr sp pd fgo fw fp ff : Nat → Int32} {τ : sm_T5}
theorem c_tale (x i w : Int32) (hX : sm_X M c dc cu it yr sa da) (ht : sm_t5 M τ) (hz : τ.1 ≤ 200) : sm_Ct l b D cA yX6_tale cX6_tale 4 (some .int) 1 0 0 [.ref 0, .int x, .int i, .int w] M (fun r M1 => r = some (.int (if 0 < x.toInt ∧ x.toInt ≤ 99 then (if 0 ≤ (sm_pl τ.2.1 x i τ.1 0 0).toInt ∧ (sm_pl τ.2.1 x i τ.1 0 0).toInt < τ.1 then (if w = 0 then τ.2.2.1 (sm_pl τ.2.1 x i τ.1 0 0).toInt.toNat else if w = 1 then τ.2.2.2.1 (sm_pl τ.2.1 x i τ.1 0 0).toInt.toNat else if w = 2 then τ.2.2.2.2 (sm_pl τ.2.1 x i τ.1 0 0).toInt.toNat else -1) else -1) else -1)) ∧ M1 = M) := by
  have h0 := hX.1
  have h8 := ht.1
  refine sm_enter (by decide +kernel) rfl (fun _ => Nat.le_of_ble_eq_true rfl) ?_
  refine sg_iload_n dX6_tale_0 rfl ?_
  refine sg_S1 dX6_tale_1 cs_X6_125 (c_isName _) (Nat.le_of_ble_eq_true rfl) (Nat.le_of_ble_eq_true rfl) (Nat.le_of_ble_eq_true rfl) (Nat.le_of_ble_eq_true rfl) (fun r M1 hp => ?_)
  obtain ⟨rfl, rfl⟩ := hp
  refine sg_bf_ne 9 dX6_tale_4 (by decide) (fun c1 => ?_) (fun c1 => ?_)
  · rw [if_pos c1]
    refine sg_aload_n dX6_tale_9 rfl ?_
    refine sg_get dX6_tale_10 fl_X6_33 (by first | rfl | assumption) rfl ?_
    refine sg_aload_n dX6_tale_13 rfl ?_
    refine sg_get dX6_tale_14 fl_X6_33 (by first | rfl | assumption) rfl ?_
    refine sg_iload_n dX6_tale_17 rfl ?_
    refine sg_iload_n dX6_tale_18 rfl ?_
    refine sg_V2 dX6_tale_19 cv_X6_168 h8 (c_placeOf _ _ hz ht) (Nat.le_of_ble_eq_true rfl) (Nat.le_of_ble_eq_true rfl) (Nat.le_of_ble_eq_true rfl) (Nat.le_of_ble_eq_true rfl) (fun r M1 hp => ?_)
    obtain ⟨rfl, e9⟩ := hp; rw [e9]
    refine sg_iload_n dX6_tale_22 rfl ?_
    refine sg_V2 dX6_tale_23 cv_X6_172 h8 (c_about _ _ hz ht) (Nat.le_of_ble_eq_true rfl) (Nat.le_of_ble_eq_true rfl) (Nat.le_of_ble_eq_true rfl) (Nat.le_of_ble_eq_true rfl) (fun r M1 hp => ?_)
    obtain ⟨rfl, e9⟩ := hp; rw [e9]
    refine sg_ireturn dX6_tale_26 rfl (Nat.le_of_ble_eq_true rfl) (Nat.le_of_ble_eq_true rfl) ?_
    exact ⟨rfl, rfl⟩
  · rw [if_neg c1]
    refine sg_iconst (-1) dX6_tale_7 (by decide) ?_
    refine sg_ireturn dX6_tale_8 rfl (Nat.le_of_ble_eq_true rfl) (Nat.le_of_ble_eq_true rfl) ?_
    exact ⟨rfl, rfl⟩
theorem c_rate (g : Int32) (hX : sm_X M c dc cu it yr sa da) (hr : sm_rates M r1 r2 r3 r4 fame) : sm_Ct l b D cA yX6_rate cX6_rate 2 (some .int) 2 0 0 [.ref 0, .int g] M (fun r M1 => r = some (.int (if 0 ≤ g.toInt ∧ g.toInt < 5 then sm_rate r1 r3 r4 g.toInt.toNat else -1)) ∧ M1 = M) := by
  have h0 := hX.1
  have h3 := hr.1
  refine sm_enter (by decide +kernel) rfl (fun _ => Nat.le_of_ble_eq_true rfl) ?_
  refine sg_iload_n dX6_rate_0 rfl ?_
  refine sg_S1 dX6_rate_1 cs_X6_197 (c_isGrade _) (Nat.le_of_ble_eq_true rfl) (Nat.le_of_ble_eq_true rfl) (Nat.le_of_ble_eq_true rfl) (Nat.le_of_ble_eq_true rfl) (fun r M1 hp => ?_)
  obtain ⟨rfl, rfl⟩ := hp
  refine sg_bf_eq 18 dX6_rate_4 (by decide) (fun c1 => ?_) (fun c1 => ?_)
  · rw [if_neg c1]
    refine sg_iconst (-1) dX6_rate_18 (by decide) ?_
    refine sg_ireturn dX6_rate_19 rfl (Nat.le_of_ble_eq_true rfl) (Nat.le_of_ble_eq_true rfl) ?_
    exact ⟨rfl, rfl⟩
  · rw [if_pos c1]
    refine sg_aload_n dX6_rate_7 rfl ?_
    refine sg_get dX6_rate_8 fl_X6_26 (by first | rfl | assumption) rfl ?_
    refine sg_iload_n dX6_rate_11 rfl ?_
    refine sg_V1 dX6_rate_12 cv_X6_200 h3 (c_rateNow g.toInt.toNat (sm_toN (c := 5) c1).1 (sm_toN (c := 5) c1).2 hr) (Nat.le_of_ble_eq_true rfl) (Nat.le_of_ble_eq_true rfl) (Nat.le_of_ble_eq_true rfl) (Nat.le_of_ble_eq_true rfl) (fun r M1 hp => ?_)
    obtain ⟨rfl, e9⟩ := hp; rw [e9]
    refine sg_goto 19 dX6_rate_15 (by decide) ?_
    refine sg_ireturn dX6_rate_19 rfl (Nat.le_of_ble_eq_true rfl) (Nat.le_of_ble_eq_true rfl) ?_
    exact ⟨rfl, rfl⟩
theorem c_bead (i j w : Int32) (hc : c ≤ 40) (hX : sm_X M c dc cu it yr sa da) (hS : sm_S M c sa sid ln fg fm ow nm) : sm_Ct l b D cA yX6_bead cX6_bead 5 (some .int) 2 0 0 [.ref 0, .int i, .int j, .int w] M (fun r M1 => r = some (.int (if 0 ≤ i.toInt ∧ i.toInt < c then (if w = 0 then (if 0 ≤ j.toInt ∧ j.toInt < ln i.toInt.toNat then fg i.toInt.toNat j.toInt.toNat else -1) else if w = 1 then (if 0 ≤ j.toInt ∧ j.toInt < ln i.toInt.toNat then fm i.toInt.toNat j.toInt.toNat else -1) else -1) else -1)) ∧ M1 = M) := by
  have h0 := hX.1
  refine sm_enter (by decide +kernel) rfl (fun _ => Nat.le_of_ble_eq_true rfl) ?_
  refine sg_aload_n dX6_bead_0 rfl ?_
  refine sg_iload_n dX6_bead_1 rfl ?_
  by_cases hi : 0 ≤ i.toInt ∧ i.toInt < c
  · rw [if_pos hi]
    obtain ⟨hsa, hst, hl80, h41⟩ := hS _ (sm_toN hi).2
    have hq := hst.1
    refine sg_V1 dX6_bead_2 cv_X6_143 h0 (c_strandAt_y _ (sm_toN hi).1 (sm_toN hi).2 hc hsa hX) (Nat.le_of_ble_eq_true rfl) (Nat.le_of_ble_eq_true rfl) (Nat.le_of_ble_eq_true rfl) (Nat.le_of_ble_eq_true rfl) (fun r9 M9 hp => ?_)
    obtain ⟨rfl, e9⟩ := hp
    rw [e9]
    refine sg_astore dX6_bead_5 (by decide) ?_
    refine sg_aload dX6_bead_7 rfl ?_
    refine sg_ifnonnull 14 dX6_bead_9 (by decide) ?_
    refine sg_iload_n dX6_bead_14 rfl ?_
    by_cases w0 : w = 0
    · subst w0
      rw [if_pos rfl]
      refine sg_lookup (off := 25) 40 dX6_bead_15 (by decide) (by decide +kernel) (by decide) ?_
      refine sg_aload dX6_bead_40 rfl ?_
      refine sg_iload_n dX6_bead_42 rfl ?_
      refine sg_V1 dX6_bead_43 cv_X6_162 hq (c_gradeAt _ hl80 hst) (Nat.le_of_ble_eq_true rfl) (Nat.le_of_ble_eq_true rfl) (Nat.le_of_ble_eq_true rfl) (Nat.le_of_ble_eq_true rfl) (fun r M1 hp => ?_)
      obtain ⟨rfl, e9⟩ := hp; rw [e9]
      refine sg_ireturn dX6_bead_46 rfl (Nat.le_of_ble_eq_true rfl) (Nat.le_of_ble_eq_true rfl) ?_
      exact ⟨rfl, rfl⟩
    · rw [if_neg w0]
      by_cases w1 : w = 1
      · subst w1
        rw [if_pos rfl]
        refine sg_lookup (off := 32) 47 dX6_bead_15 (by decide) (by decide +kernel) (by decide) ?_
        refine sg_aload dX6_bead_47 rfl ?_
        refine sg_iload_n dX6_bead_49 rfl ?_
        refine sg_V1 dX6_bead_50 cv_X6_165 hq (c_makerAt _ hl80 hst) (Nat.le_of_ble_eq_true rfl) (Nat.le_of_ble_eq_true rfl) (Nat.le_of_ble_eq_true rfl) (Nat.le_of_ble_eq_true rfl) (fun r M1 hp => ?_)
        obtain ⟨rfl, e9⟩ := hp; rw [e9]
        refine sg_ireturn dX6_bead_53 rfl (Nat.le_of_ble_eq_true rfl) (Nat.le_of_ble_eq_true rfl) ?_
        exact ⟨rfl, rfl⟩
      · rw [if_neg w1]
        refine sg_lookup (off := 39) 54 dX6_bead_15 (by decide) (by show Op.lookupswitch.offset [(0, 25), (1, 32)] 39 w.toInt = 39; rw [lv_osw w0 ti_0, lv_osw w1 ti_1]; rfl) (by decide) ?_
        refine sg_iconst (-1) dX6_bead_54 (by decide) ?_
        refine sg_ireturn dX6_bead_55 rfl (Nat.le_of_ble_eq_true rfl) (Nat.le_of_ble_eq_true rfl) ?_
        exact ⟨rfl, rfl⟩
  · rw [if_neg hi]
    refine sg_V1 dX6_bead_2 cv_X6_143 h0 (c_strandAt_n hc hi hX) (Nat.le_of_ble_eq_true rfl) (Nat.le_of_ble_eq_true rfl) (Nat.le_of_ble_eq_true rfl) (Nat.le_of_ble_eq_true rfl) (fun r9 M9 hp => ?_)
    obtain ⟨rfl, e9⟩ := hp
    rw [e9]
    refine sg_astoreN dX6_bead_5 (by decide) ?_
    refine sg_aloadN dX6_bead_7 rfl ?_
    refine sg_ifnonnullN dX6_bead_9 ?_
    refine sg_iconst (-1) dX6_bead_12 (by decide) ?_
    refine sg_ireturn dX6_bead_13 rfl (Nat.le_of_ble_eq_true rfl) (Nat.le_of_ble_eq_true rfl) ?_
    exact ⟨rfl, rfl⟩
theorem c_drawn (i j n : Int32) (hc : c ≤ 40) (hX : sm_X M c dc cu it yr sa da) (hS : sm_S M c sa sid ln fg fm ow nm) : sm_Ct l b D cA yX6_drawn cX6_drawn 5 (some .int) 2 0 0 [.ref 0, .int i, .int j, .int n] M (fun r M1 => r = some (.int (if (0 ≤ i.toInt ∧ i.toInt < c) ∧ 0 ≤ j.toInt ∧ 1 ≤ n.toInt ∧ j.toInt + n.toInt ≤ ln i.toInt.toNat then sm_least (fg i.toInt.toNat) j.toInt.toNat n.toInt.toNat else -1)) ∧ M1 = M) := by
  have h0 := hX.1
  refine sm_enter (by decide +kernel) rfl (fun _ => Nat.le_of_ble_eq_true rfl) ?_
  refine sg_aload_n dX6_drawn_0 rfl ?_
  refine sg_iload_n dX6_drawn_1 rfl ?_
  by_cases hi : 0 ≤ i.toInt ∧ i.toInt < c
  · obtain ⟨hsa, hst, hl80, h41⟩ := hS _ (sm_toN hi).2
    have hq := hst.1
    refine sg_V1 dX6_drawn_2 cv_X6_143 h0 (c_strandAt_y _ (sm_toN hi).1 (sm_toN hi).2 hc hsa hX) (Nat.le_of_ble_eq_true rfl) (Nat.le_of_ble_eq_true rfl) (Nat.le_of_ble_eq_true rfl) (Nat.le_of_ble_eq_true rfl) (fun r9 M9 hp => ?_)
    obtain ⟨rfl, e9⟩ := hp
    rw [e9]
    refine sg_astore dX6_drawn_5 (by decide) ?_
    refine sg_aload dX6_drawn_7 rfl ?_
    refine sg_ifnull dX6_drawn_9 ?_
    refine sg_iload_n dX6_drawn_12 rfl ?_
    refine sg_if_lt 41 dX6_drawn_13 (by decide) (fun c1 => ?_) (fun c1 => ?_)
    · simp only [Int32.lt_iff_toInt_lt, ti_0] at c1
      rw [if_neg (by omega)]
      refine sg_iconst (-1) dX6_drawn_41 (by decide) ?_
      refine sg_ireturn dX6_drawn_42 rfl (Nat.le_of_ble_eq_true rfl) (Nat.le_of_ble_eq_true rfl) ?_
      exact ⟨rfl, rfl⟩
    · simp only [Int32.lt_iff_toInt_lt, ti_0] at c1
      refine sg_iload_n dX6_drawn_16 rfl ?_
      refine sg_aload dX6_drawn_17 rfl ?_
      refine sg_get dX6_drawn_19 fl_X6_96 (by first | rfl | assumption) rfl ?_
      refine sg_icmp_ge 41 dX6_drawn_22 (by decide) (fun c2 => ?_) (fun c2 => ?_)
      · rw [Int32.le_iff_toInt_le, nI_toInt (by omega)] at c2
        rw [if_neg (by omega)]
        refine sg_iconst (-1) dX6_drawn_41 (by decide) ?_
        refine sg_ireturn dX6_drawn_42 rfl (Nat.le_of_ble_eq_true rfl) (Nat.le_of_ble_eq_true rfl) ?_
        exact ⟨rfl, rfl⟩
      · rw [Int32.le_iff_toInt_le, nI_toInt (by omega)] at c2
        refine sg_iload_n dX6_drawn_25 rfl ?_
        refine sg_iconst 1 dX6_drawn_26 (by decide) ?_
        refine sg_icmp_lt 41 dX6_drawn_27 (by decide) (fun c3 => ?_) (fun c3 => ?_)
        · simp only [Int32.lt_iff_toInt_lt, ti_1] at c3
          rw [if_neg (by omega)]
          refine sg_iconst (-1) dX6_drawn_41 (by decide) ?_
          refine sg_ireturn dX6_drawn_42 rfl (Nat.le_of_ble_eq_true rfl) (Nat.le_of_ble_eq_true rfl) ?_
          exact ⟨rfl, rfl⟩
        · simp only [Int32.lt_iff_toInt_lt, ti_1] at c3
          have hji : j = nI j.toInt.toNat := sm_asN (by omega)
          have hsub : (nI (ln i.toInt.toNat) - j).toInt = (ln i.toInt.toNat : Int) - j.toInt := by
            rw [hji, pk_sub_toInt (by omega) (by omega), nI_toInt (by omega)]
          refine sg_iload_n dX6_drawn_30 rfl ?_
          refine sg_aload dX6_drawn_31 rfl ?_
          refine sg_get dX6_drawn_33 fl_X6_96 (by first | rfl | assumption) rfl ?_
          refine sg_iload_n dX6_drawn_36 rfl ?_
          refine sg_isub dX6_drawn_37 ?_
          refine sg_icmp_le 43 dX6_drawn_38 (by decide) (fun c4 => ?_) (fun c4 => ?_)
          · rw [Int32.le_iff_toInt_le, hsub] at c4
            rw [if_pos (by omega)]
            refine sg_aload dX6_drawn_43 rfl ?_
            refine sg_iload_n dX6_drawn_45 rfl ?_
            refine sg_iload_n dX6_drawn_46 rfl ?_
            refine sg_V2 dX6_drawn_47 cv_X6_203 hq (c_leastGradeWithin hji (sm_asN (by omega)) hl80 (by omega) hst) (Nat.le_of_ble_eq_true rfl) (Nat.le_of_ble_eq_true rfl) (Nat.le_of_ble_eq_true rfl) (Nat.le_of_ble_eq_true rfl) (fun r M1 hp => ?_)
            obtain ⟨rfl, e9⟩ := hp; rw [e9]
            refine sg_ireturn dX6_drawn_50 rfl (Nat.le_of_ble_eq_true rfl) (Nat.le_of_ble_eq_true rfl) ?_
            exact ⟨rfl, rfl⟩
          · rw [Int32.le_iff_toInt_le, hsub] at c4
            rw [if_neg (by omega)]
            refine sg_iconst (-1) dX6_drawn_41 (by decide) ?_
            refine sg_ireturn dX6_drawn_42 rfl (Nat.le_of_ble_eq_true rfl) (Nat.le_of_ble_eq_true rfl) ?_
            exact ⟨rfl, rfl⟩
  · rw [if_neg (fun q => hi q.1)]
    refine sg_V1 dX6_drawn_2 cv_X6_143 h0 (c_strandAt_n hc hi hX) (Nat.le_of_ble_eq_true rfl) (Nat.le_of_ble_eq_true rfl) (Nat.le_of_ble_eq_true rfl) (Nat.le_of_ble_eq_true rfl) (fun r9 M9 hp => ?_)
    obtain ⟨rfl, e9⟩ := hp
    rw [e9]
    refine sg_astoreN dX6_drawn_5 (by decide) ?_
    refine sg_aloadN dX6_drawn_7 rfl ?_
    refine sg_ifnullN 41 dX6_drawn_9 (by decide) ?_
    refine sg_iconst (-1) dX6_drawn_41 (by decide) ?_
    refine sg_ireturn dX6_drawn_42 rfl (Nat.le_of_ble_eq_true rfl) (Nat.le_of_ble_eq_true rfl) ?_
    exact ⟨rfl, rfl⟩
theorem lp_cheat {i g : Int32} {k : Nat} {Post : Option Value → sm_M → Prop} (hl80 : ln k ≤ 80) (hst : sm_st M (sid k) (sid k + 1) (sid k + 2) (ln k) (fg k) (fm k) (ow k) (nm k)) :
    ∀ (r t : Nat), t + r = ln k → Post (some (.int (sm_cht (fg k) g r t))) M → sm_G l b D cA yX6_cheat cX6_cheat 5 (some .int) 2 0 0 Post 0 0 15 [some (.ref 0), some (.int i), some (.int g), some (.ref (sid k)), some (.int (nI t))] [] M := by
  have hq := hst.1
  intro r
  induction r with
  | zero =>
    intro t ht hP
    have e : t = ln k := by omega
    subst e
    refine sg_iload dX6_cheat_15 rfl ?_
    refine sg_aload_n dX6_cheat_17 rfl ?_
    refine sg_get dX6_cheat_18 fl_X6_96 (by first | rfl | assumption) rfl ?_
    refine sg_icmp_ge 43 dX6_cheat_21 (by decide) (fun c1 => ?_) (fun c1 => ?_)
    · refine sg_iconst (-1) dX6_cheat_43 (by decide) ?_
      refine sg_ireturn dX6_cheat_44 rfl (Nat.le_of_ble_eq_true rfl) (Nat.le_of_ble_eq_true rfl) ?_
      exact hP
    · exact absurd (nI_le (Nat.le_refl _) (by omega)) c1
  | succ r ih =>
    intro t ht hP
    unfold sm_cht at hP
    refine sg_iload dX6_cheat_15 rfl ?_
    refine sg_aload_n dX6_cheat_17 rfl ?_
    refine sg_get dX6_cheat_18 fl_X6_96 (by first | rfl | assumption) rfl ?_
    refine sg_icmp_ge 43 dX6_cheat_21 (by decide) (fun c1 => ?_) (fun c1 => ?_)
    · exact absurd c1 (nI_ge (by omega) (by omega))
    · refine sg_aload_n dX6_cheat_24 rfl ?_
      refine sg_iload dX6_cheat_25 rfl ?_
      refine sg_V1 dX6_cheat_27 cv_X6_162 hq (c_gradeAt _ hl80 hst) (Nat.le_of_ble_eq_true rfl) (Nat.le_of_ble_eq_true rfl) (Nat.le_of_ble_eq_true rfl) (Nat.le_of_ble_eq_true rfl) (fun r9 M9 hp => ?_)
      obtain ⟨e8, e9⟩ := hp
      rw [sm_at1 hl80 (by omega)] at e8
      subst e8
      rw [e9]
      refine sg_iload_n dX6_cheat_30 rfl ?_
      refine sg_icmp_ge 37 dX6_cheat_31 (by decide) (fun c2 => ?_) (fun c2 => ?_)
      · rw [if_pos c2] at hP
        refine sg_iinc _ dX6_cheat_37 rfl (sm_inc t) (by decide) ?_
        refine sg_goto 15 dX6_cheat_40 (by decide) ?_
        exact ih (t + 1) (by omega) hP
      · rw [if_neg c2] at hP
        refine sg_iload dX6_cheat_34 rfl ?_
        refine sg_ireturn dX6_cheat_36 rfl (Nat.le_of_ble_eq_true rfl) (Nat.le_of_ble_eq_true rfl) ?_
        exact hP
theorem c_cheat (i g : Int32) (hc : c ≤ 40) (hX : sm_X M c dc cu it yr sa da) (hS : sm_S M c sa sid ln fg fm ow nm) : sm_Ct l b D cA yX6_cheat cX6_cheat 5 (some .int) 2 0 0 [.ref 0, .int i, .int g] M (fun r M1 => r = some (.int (if 0 ≤ i.toInt ∧ i.toInt < c then sm_cht (fg i.toInt.toNat) g (ln i.toInt.toNat) 0 else -1)) ∧ M1 = M) := by
  have h0 := hX.1
  refine sm_enter (by decide +kernel) rfl (fun _ => Nat.le_of_ble_eq_true rfl) ?_
  refine sg_aload_n dX6_cheat_0 rfl ?_
  refine sg_iload_n dX6_cheat_1 rfl ?_
  by_cases hi : 0 ≤ i.toInt ∧ i.toInt < c
  · rw [if_pos hi]
    obtain ⟨hsa, hst, hl80, h41⟩ := hS _ (sm_toN hi).2
    refine sg_V1 dX6_cheat_2 cv_X6_143 h0 (c_strandAt_y _ (sm_toN hi).1 (sm_toN hi).2 hc hsa hX) (Nat.le_of_ble_eq_true rfl) (Nat.le_of_ble_eq_true rfl) (Nat.le_of_ble_eq_true rfl) (Nat.le_of_ble_eq_true rfl) (fun r9 M9 hp => ?_)
    obtain ⟨rfl, e9⟩ := hp
    rw [e9]
    refine sg_astore_n dX6_cheat_5 (by decide) ?_
    refine sg_aload_n dX6_cheat_6 rfl ?_
    refine sg_ifnonnull 12 dX6_cheat_7 (by decide) ?_
    refine sg_iconst (nI 0) dX6_cheat_12 (by decide) ?_
    refine sg_istore dX6_cheat_13 (by decide) ?_
    exact lp_cheat hl80 hst (ln i.toInt.toNat) 0 (by omega) ⟨rfl, rfl⟩
  · rw [if_neg hi]
    refine sg_V1 dX6_cheat_2 cv_X6_143 h0 (c_strandAt_n hc hi hX) (Nat.le_of_ble_eq_true rfl) (Nat.le_of_ble_eq_true rfl) (Nat.le_of_ble_eq_true rfl) (Nat.le_of_ble_eq_true rfl) (fun r9 M9 hp => ?_)
    obtain ⟨rfl, e9⟩ := hp
    rw [e9]
    refine sg_astore_nN dX6_cheat_5 (by decide) ?_
    refine sg_aload_nN dX6_cheat_6 rfl ?_
    refine sg_ifnonnullN dX6_cheat_7 ?_
    refine sg_iconst (-1) dX6_cheat_10 (by decide) ?_
    refine sg_ireturn dX6_cheat_11 rfl (Nat.le_of_ble_eq_true rfl) (Nat.le_of_ble_eq_true rfl) ?_
    exact ⟨rfl, rfl⟩
theorem c_heap (g x : Int32) {sz : Nat} (hX : sm_X M c dc cu it yr sa da) (hs : sz ≤ 60) (hle : ∀ j, j < 5 → hb j ≤ sz) (h : sm_hp M sz (fun j => nI (hb j)) fgo fw fp ff) : sm_Ct l b D cA yX6_heap cX6_heap 3 (some .boolean) 2 0 0 [.ref 0, .int g, .int x] M (fun r M1 => (∃ z : Int32, r = some (.int z) ∧ (z = 0 ∨ z = 1) ∧ (z = 1 ↔ sm_hok sz hb g x)) ∧ (sm_hok sz hb g x → sm_ex M M1 [17, 18] ∧ sm_hp M1 (sz - hb g.toInt.toNat + x.toInt.toNat) (upd (fun j => nI (hb j)) g.toInt.toNat x) fgo fw fp ff) ∧ (¬ sm_hok sz hb g x → M1 = M)) := by
  have h0 := hX.1
  have h17 := h.1
  refine sm_enter (by decide +kernel) rfl (fun _ => Nat.le_of_ble_eq_true rfl) ?_
  refine sg_aload_n dX6_heap_0 rfl ?_
  refine sg_get dX6_heap_1 fl_X6_56 (by first | rfl | assumption) rfl ?_
  refine sg_iload_n dX6_heap_4 rfl ?_
  refine sg_iload_n dX6_heap_5 rfl ?_
  refine sg_V2 dX6_heap_6 cv_X6_258 h17 (c_heap_put g x hs hle h) (Nat.le_of_ble_eq_true rfl) (Nat.le_of_ble_eq_true rfl) (Nat.le_of_ble_eq_true rfl) (Nat.le_of_ble_eq_true rfl) (fun r9 M9 hp => ?_)
  obtain ⟨⟨z, rfl, hz01, hz⟩, p1, p2⟩ := hp
  refine sg_zreturn dX6_heap_9 rfl (by rcases hz01 with e | e <;> (rw [e]; decide)) (Nat.le_of_ble_eq_true rfl) (Nat.le_of_ble_eq_true rfl) ?_
  exact ⟨⟨z, rfl, hz01, hz⟩, p1, p2⟩
theorem c_strung {sz : Nat} (hX : sm_X M c dc cu it yr sa da) (hsz : sz = hb 0 + hb 1 + hb 2 + hb 3 + hb 4) (hs : sz ≤ 60) (hr : sm_rates M r1 r2 r3 r4 fame) (h : sm_hp M sz (fun j => nI (hb j)) fgo fw fp ff) : sm_Ct l b D cA yX6_strung cX6_strung 1 (some .int) 5 0 0 [.ref 0] M (fun r M1 => r = some (.int ((sm_out (fun a k => sm_wbl r1 r2 r3 r4 (sm_gr hb (a + k - 1)) (nI k)) sz fw fp ff sz).1 0)) ∧ sm_ex M M1 [19, 20, 21, 22] ∧ ∃ f fw2 fp2 ff2 : Nat → Int32, sm_hp M1 sz (fun j => nI (hb j)) f fw2 fp2 ff2) := by
  have h0 := hX.1
  have h17 := h.1
  refine sm_enter (by decide +kernel) rfl (fun _ => Nat.le_of_ble_eq_true rfl) ?_
  refine sg_aload_n dX6_strung_0 rfl ?_
  refine sg_get dX6_strung_1 fl_X6_56 (by first | rfl | assumption) rfl ?_
  refine sg_aload_n dX6_strung_4 rfl ?_
  refine sg_get dX6_strung_5 fl_X6_26 (by first | rfl | assumption) rfl ?_
  refine sg_V1 dX6_strung_8 cv_X6_262 h17 (c_plan hsz hs hr h) (Nat.le_of_ble_eq_true rfl) (Nat.le_of_ble_eq_true rfl) (Nat.le_of_ble_eq_true rfl) (Nat.le_of_ble_eq_true rfl) (fun r9 M9 hp => ?_)
  obtain ⟨rfl, x9, f, h9⟩ := hp
  have k0 := (hX.ex x9 (by decide)).1
  have k17 := h9.1
  refine sg_aload_n dX6_strung_11 rfl ?_
  refine sg_get dX6_strung_12 fl_X6_56 (by first | rfl | assumption) rfl ?_
  refine sg_V0 dX6_strung_15 cv_X6_266 k17 (c_bestWorth h9) (Nat.le_of_ble_eq_true rfl) (Nat.le_of_ble_eq_true rfl) (Nat.le_of_ble_eq_true rfl) (Nat.le_of_ble_eq_true rfl) (fun r9 M8 hp => ?_)
  obtain ⟨rfl, e9⟩ := hp
  rw [e9]
  refine sg_ireturn dX6_strung_18 rfl (Nat.le_of_ble_eq_true rfl) (Nat.le_of_ble_eq_true rfl) ?_
  exact ⟨rfl, x9, f, _, _, _, h9⟩
theorem c_strings {sz : Nat} (hX : sm_X M c dc cu it yr sa da) (hsz : sz = hb 0 + hb 1 + hb 2 + hb 3 + hb 4) (hs : sz ≤ 60) (hr : sm_rates M r1 r2 r3 r4 fame) (h : sm_hp M sz (fun j => nI (hb j)) fgo fw fp ff) : sm_Ct l b D cA yX6_strings cX6_strings 1 (some .int) 5 0 0 [.ref 0] M (fun r M1 => r = some (.int ((sm_out (fun a k => sm_wbl r1 r2 r3 r4 (sm_gr hb (a + k - 1)) (nI k)) sz fw fp ff sz).2.1 0)) ∧ sm_ex M M1 [19, 20, 21, 22] ∧ ∃ f fw2 fp2 ff2 : Nat → Int32, sm_hp M1 sz (fun j => nI (hb j)) f fw2 fp2 ff2) := by
  have h0 := hX.1
  have h17 := h.1
  refine sm_enter (by decide +kernel) rfl (fun _ => Nat.le_of_ble_eq_true rfl) ?_
  refine sg_aload_n dX6_strings_0 rfl ?_
  refine sg_get dX6_strings_1 fl_X6_56 (by first | rfl | assumption) rfl ?_
  refine sg_aload_n dX6_strings_4 rfl ?_
  refine sg_get dX6_strings_5 fl_X6_26 (by first | rfl | assumption) rfl ?_
  refine sg_V1 dX6_strings_8 cv_X6_262 h17 (c_plan hsz hs hr h) (Nat.le_of_ble_eq_true rfl) (Nat.le_of_ble_eq_true rfl) (Nat.le_of_ble_eq_true rfl) (Nat.le_of_ble_eq_true rfl) (fun r9 M9 hp => ?_)
  obtain ⟨rfl, x9, f, h9⟩ := hp
  have k0 := (hX.ex x9 (by decide)).1
  have k17 := h9.1
  refine sg_aload_n dX6_strings_11 rfl ?_
  refine sg_get dX6_strings_12 fl_X6_56 (by first | rfl | assumption) rfl ?_
  refine sg_V0 dX6_strings_15 cv_X6_269 k17 (c_bestParts h9) (Nat.le_of_ble_eq_true rfl) (Nat.le_of_ble_eq_true rfl) (Nat.le_of_ble_eq_true rfl) (Nat.le_of_ble_eq_true rfl) (fun r9 M8 hp => ?_)
  obtain ⟨rfl, e9⟩ := hp
  rw [e9]
  refine sg_ireturn dX6_strings_18 rfl (Nat.le_of_ble_eq_true rfl) (Nat.le_of_ble_eq_true rfl) ?_
  exact ⟨rfl, x9, f, _, _, _, h9⟩
theorem c_part {sz : Nat} {fl : Nat → Nat} (i : Int32) (hX : sm_X M c dc cu it yr sa da) (hsz : sz = hb 0 + hb 1 + hb 2 + hb 3 + hb 4) (hs : sz ≤ 60) (hr : sm_rates M r1 r2 r3 r4 fame) (hfl : ∀ p, p < sz → (sm_out (fun a k => sm_wbl r1 r2 r3 r4 (sm_gr hb (a + k - 1)) (nI k)) sz fw fp ff sz).2.2 p = nI (fl p) ∧ p + fl p ≤ sz) (h : sm_hp M sz (fun j => nI (hb j)) fgo fw fp ff) : sm_Ct l b D cA yX6_part cX6_part 2 (some .int) 5 0 0 [.ref 0, .int i] M (fun r M1 => r = some (.int (if ¬ i < 0 ∧ i < (sm_out (fun a k => sm_wbl r1 r2 r3 r4 (sm_gr hb (a + k - 1)) (nI k)) sz fw fp ff sz).2.1 0 ∧ sm_go fl sz i 60 0 0 < sz then nI (fl (sm_go fl sz i 60 0 0)) else -1)) ∧ sm_ex M M1 [19, 20, 21, 22] ∧ ∃ f fw2 fp2 ff2 : Nat → Int32, sm_hp M1 sz (fun j => nI (hb j)) f fw2 fp2 ff2) := by
  have h0 := hX.1
  have h17 := h.1
  refine sm_enter (by decide +kernel) rfl (fun _ => Nat.le_of_ble_eq_true rfl) ?_
  refine sg_aload_n dX6_part_0 rfl ?_
  refine sg_get dX6_part_1 fl_X6_56 (by first | rfl | assumption) rfl ?_
  refine sg_aload_n dX6_part_4 rfl ?_
  refine sg_get dX6_part_5 fl_X6_26 (by first | rfl | assumption) rfl ?_
  refine sg_V1 dX6_part_8 cv_X6_262 h17 (c_plan hsz hs hr h) (Nat.le_of_ble_eq_true rfl) (Nat.le_of_ble_eq_true rfl) (Nat.le_of_ble_eq_true rfl) (Nat.le_of_ble_eq_true rfl) (fun r9 M9 hp => ?_)
  obtain ⟨rfl, x9, f, h9⟩ := hp
  have k0 := (hX.ex x9 (by decide)).1
  have k17 := h9.1
  refine sg_aload_n dX6_part_11 rfl ?_
  refine sg_get dX6_part_12 fl_X6_56 (by first | rfl | assumption) rfl ?_
  refine sg_iload_n dX6_part_15 rfl ?_
  refine sg_V1 dX6_part_16 cv_X6_272 k17 (c_lengthOfPart i hs hfl h9) (Nat.le_of_ble_eq_true rfl) (Nat.le_of_ble_eq_true rfl) (Nat.le_of_ble_eq_true rfl) (Nat.le_of_ble_eq_true rfl) (fun r9 M8 hp => ?_)
  obtain ⟨rfl, e9⟩ := hp
  rw [e9]
  refine sg_ireturn dX6_part_19 rfl (Nat.le_of_ble_eq_true rfl) (Nat.le_of_ble_eq_true rfl) ?_
  exact ⟨rfl, x9, f, _, _, _, h9⟩
theorem c_debt_n (i w : Int32) (hc : dc ≤ 60) (hi : ¬ (0 ≤ i.toInt ∧ i.toInt < dc)) (hX : sm_X M c dc cu it yr sa da) : sm_Ct l b D cA yX6_debt cX6_debt 4 (some .int) 1 0 0 [.ref 0, .int i, .int w] M (fun r M1 => r = some (.int (-1)) ∧ M1 = M) := by
  have h0 := hX.1
  refine sm_enter (by decide +kernel) rfl (fun _ => Nat.le_of_ble_eq_true rfl) ?_
  refine sg_aload_n dX6_debt_0 rfl ?_
  refine sg_iload_n dX6_debt_1 rfl ?_
  refine sg_V1 dX6_debt_2 cv_X6_220 h0 (c_debtAt_n hc hi hX) (Nat.le_of_ble_eq_true rfl) (Nat.le_of_ble_eq_true rfl) (Nat.le_of_ble_eq_true rfl) (Nat.le_of_ble_eq_true rfl) (fun r9 M9 hp => ?_)
  obtain ⟨rfl, e9⟩ := hp
  rw [e9]
  refine sg_astore_nN dX6_debt_5 (by decide) ?_
  refine sg_aload_nN dX6_debt_6 rfl ?_
  refine sg_ifnonnullN dX6_debt_7 ?_
  refine sg_iconst (-1) dX6_debt_10 (by decide) ?_
  refine sg_ireturn dX6_debt_11 rfl (Nat.le_of_ble_eq_true rfl) (Nat.le_of_ble_eq_true rfl) ?_
  exact ⟨rfl, rfl⟩
theorem c_debt_y (i w : Int32) (hc : dc ≤ 60) (hi : 0 ≤ i.toInt ∧ i.toInt < dc) (hX : sm_X M c dc cu it yr sa da) (hD : sm_D M dc da did ws to gr sp pd) : sm_Ct l b D cA yX6_debt cX6_debt 4 (some .int) 1 0 0 [.ref 0, .int i, .int w] M (fun r M1 => r = some (.int (if w = 0 then ws i.toInt.toNat else if w = 1 then to i.toInt.toNat else if w = 2 then sp i.toInt.toNat else if w = 3 then gr i.toInt.toNat else if w = 4 then pd i.toInt.toNat else -1)) ∧ M1 = M) := by
  have h0 := hX.1
  obtain ⟨hda, hq, h41⟩ := hD _ (sm_toN hi).2
  refine sm_enter (by decide +kernel) rfl (fun _ => Nat.le_of_ble_eq_true rfl) ?_
  refine sg_aload_n dX6_debt_0 rfl ?_
  refine sg_iload_n dX6_debt_1 rfl ?_
  refine sg_V1 dX6_debt_2 cv_X6_220 h0 (c_debtAt_y _ (sm_toN hi).1 (sm_toN hi).2 hc hda hX) (Nat.le_of_ble_eq_true rfl) (Nat.le_of_ble_eq_true rfl) (Nat.le_of_ble_eq_true rfl) (Nat.le_of_ble_eq_true rfl) (fun r9 M9 hp => ?_)
  obtain ⟨rfl, e9⟩ := hp
  rw [e9]
  refine sg_astore_n dX6_debt_5 (by decide) ?_
  refine sg_aload_n dX6_debt_6 rfl ?_
  refine sg_ifnonnull 12 dX6_debt_7 (by decide) ?_
  refine sg_iload_n dX6_debt_12 rfl ?_
  by_cases w0 : w = 0
  · subst w0
    rw [if_pos rfl]
    refine sg_tableIn (off := 35) 48 dX6_debt_13 (by decide) (by decide) (by decide +kernel) (by decide) ?_
    refine sg_aload_n dX6_debt_48 rfl ?_
    refine sg_get dX6_debt_49 fl_X6_228 (by first | rfl | assumption) rfl ?_
    refine sg_ireturn dX6_debt_52 rfl (Nat.le_of_ble_eq_true rfl) (Nat.le_of_ble_eq_true rfl) ?_
    exact ⟨rfl, rfl⟩
  · rw [if_neg w0]
    by_cases w1 : w = 1
    · subst w1
      rw [if_pos rfl]
      refine sg_tableIn (off := 40) 53 dX6_debt_13 (by decide) (by decide) (by decide +kernel) (by decide) ?_
      refine sg_aload_n dX6_debt_53 rfl ?_
      refine sg_get dX6_debt_54 fl_X6_236 (by first | rfl | assumption) rfl ?_
      refine sg_ireturn dX6_debt_57 rfl (Nat.le_of_ble_eq_true rfl) (Nat.le_of_ble_eq_true rfl) ?_
      exact ⟨rfl, rfl⟩
    · rw [if_neg w1]
      by_cases w2 : w = 2
      · subst w2
        rw [if_pos rfl]
        refine sg_tableIn (off := 45) 58 dX6_debt_13 (by decide) (by decide) (by decide +kernel) (by decide) ?_
        refine sg_aload_n dX6_debt_58 rfl ?_
        refine sg_get dX6_debt_59 fl_X6_231 (by first | rfl | assumption) rfl ?_
        refine sg_ireturn dX6_debt_62 rfl (Nat.le_of_ble_eq_true rfl) (Nat.le_of_ble_eq_true rfl) ?_
        exact ⟨rfl, rfl⟩
      · rw [if_neg w2]
        by_cases w3 : w = 3
        · subst w3
          rw [if_pos rfl]
          refine sg_tableIn (off := 50) 63 dX6_debt_13 (by decide) (by decide) (by decide +kernel) (by decide) ?_
          refine sg_aload_n dX6_debt_63 rfl ?_
          refine sg_get dX6_debt_64 fl_X6_233 (by first | rfl | assumption) rfl ?_
          refine sg_ireturn dX6_debt_67 rfl (Nat.le_of_ble_eq_true rfl) (Nat.le_of_ble_eq_true rfl) ?_
          exact ⟨rfl, rfl⟩
        · rw [if_neg w3]
          by_cases w4 : w = 4
          · subst w4
            rw [if_pos rfl]
            refine sg_tableIn (off := 55) 68 dX6_debt_13 (by decide) (by decide) (by decide +kernel) (by decide) ?_
            refine sg_aload_n dX6_debt_68 rfl ?_
            refine sg_get dX6_debt_69 fl_X6_239 (by first | rfl | assumption) rfl ?_
            refine sg_ireturn dX6_debt_72 rfl (Nat.le_of_ble_eq_true rfl) (Nat.le_of_ble_eq_true rfl) ?_
            exact ⟨rfl, rfl⟩
          · rw [if_neg w4]
            have n0 := lv_neT w0 ti_0
            have n1 := lv_neT w1 ti_1
            have n2 := lv_neT w2 ti_2
            have n3 := lv_neT w3 ti_3
            have n4 := lv_neT w4 ti_4
            refine sg_tableOut 73 dX6_debt_13 (by omega) (by decide) ?_
            refine sg_iconst (-1) dX6_debt_73 (by decide) ?_
            refine sg_ireturn dX6_debt_74 rfl (Nat.le_of_ble_eq_true rfl) (Nat.le_of_ble_eq_true rfl) ?_
            exact ⟨rfl, rfl⟩
theorem c_count (w : Int32) {sz : Nat} (hc : c ≤ 40) (hdc : dc ≤ 60) (hX : sm_X M c dc cu it yr sa da) (hS : sm_S M c sa sid ln fg fm ow nm) (hD : sm_D M dc da did ws to gr sp pd) (hr : sm_rates M r1 r2 r3 r4 fame) (ht : sm_t5 M τ) (h : sm_hp M sz (fun j => nI (hb j)) fgo fw fp ff) : sm_Ct l b D cA yX6_count cX6_count 2 (some .int) 3 0 0 [.ref 0, .int w] M (fun r M1 => r = some (.int (if w = 0 then nI c else if w = 1 then nI (sm_gone ln c) else if w = 2 then nI dc else if w = 3 then nI (sm_paid pd dc) else if w = 4 then yr else if w = 5 then nI τ.1 else if w = 6 then r4 0 + r4 1 + r4 2 + r4 3 + r4 4 else if w = 7 then nI sz else -1)) ∧ M1 = M) := by
  have h0 := hX.1
  have h3 := hr.1
  have h8 := ht.1
  have h17 := h.1
  refine sm_enter (by decide +kernel) rfl (fun _ => Nat.le_of_ble_eq_true rfl) ?_
  refine sg_iload_n dX6_count_0 rfl ?_
  by_cases w0 : w = 0
  · subst w0
    rw [if_pos rfl]
    refine sg_tableIn (off := 47) 48 dX6_count_1 (by decide) (by decide) (by decide +kernel) (by decide) ?_
    refine sg_aload_n dX6_count_48 rfl ?_
    refine sg_get dX6_count_49 fl_X6_15 (by first | rfl | assumption) rfl ?_
    refine sg_ireturn dX6_count_52 rfl (Nat.le_of_ble_eq_true rfl) (Nat.le_of_ble_eq_true rfl) ?_
    exact ⟨rfl, rfl⟩
  · rw [if_neg w0]
    by_cases w1 : w = 1
    · subst w1
      rw [if_pos rfl]
      refine sg_tableIn (off := 52) 53 dX6_count_1 (by decide) (by decide) (by decide +kernel) (by decide) ?_
      refine sg_aload_n dX6_count_53 rfl ?_
      refine sg_V0 dX6_count_54 cv_X6_245 h0 (c_goneCount hc hX hS) (Nat.le_of_ble_eq_true rfl) (Nat.le_of_ble_eq_true rfl) (Nat.le_of_ble_eq_true rfl) (Nat.le_of_ble_eq_true rfl) (fun r M1 hp => ?_)
      obtain ⟨rfl, e9⟩ := hp; rw [e9]
      refine sg_ireturn dX6_count_57 rfl (Nat.le_of_ble_eq_true rfl) (Nat.le_of_ble_eq_true rfl) ?_
      exact ⟨rfl, rfl⟩
    · rw [if_neg w1]
      by_cases w2 : w = 2
      · subst w2
        rw [if_pos rfl]
        refine sg_tableIn (off := 57) 58 dX6_count_1 (by decide) (by decide) (by decide +kernel) (by decide) ?_
        refine sg_aload_n dX6_count_58 rfl ?_
        refine sg_get dX6_count_59 fl_X6_50 (by first | rfl | assumption) rfl ?_
        refine sg_ireturn dX6_count_62 rfl (Nat.le_of_ble_eq_true rfl) (Nat.le_of_ble_eq_true rfl) ?_
        exact ⟨rfl, rfl⟩
      · rw [if_neg w2]
        by_cases w3 : w = 3
        · subst w3
          rw [if_pos rfl]
          refine sg_tableIn (off := 62) 63 dX6_count_1 (by decide) (by decide) (by decide +kernel) (by decide) ?_
          refine sg_aload_n dX6_count_63 rfl ?_
          refine sg_V0 dX6_count_64 cv_X6_248 h0 (c_paidCount hdc hX hD) (Nat.le_of_ble_eq_true rfl) (Nat.le_of_ble_eq_true rfl) (Nat.le_of_ble_eq_true rfl) (Nat.le_of_ble_eq_true rfl) (fun r M1 hp => ?_)
          obtain ⟨rfl, e9⟩ := hp; rw [e9]
          refine sg_ireturn dX6_count_67 rfl (Nat.le_of_ble_eq_true rfl) (Nat.le_of_ble_eq_true rfl) ?_
          exact ⟨rfl, rfl⟩
        · rw [if_neg w3]
          by_cases w4 : w = 4
          · subst w4
            rw [if_pos rfl]
            refine sg_tableIn (off := 67) 68 dX6_count_1 (by decide) (by decide) (by decide +kernel) (by decide) ?_
            refine sg_aload_n dX6_count_68 rfl ?_
            refine sg_get dX6_count_69 fl_X6_66 (by first | rfl | assumption) rfl ?_
            refine sg_ireturn dX6_count_72 rfl (Nat.le_of_ble_eq_true rfl) (Nat.le_of_ble_eq_true rfl) ?_
            exact ⟨rfl, rfl⟩
          · rw [if_neg w4]
            by_cases w5 : w = 5
            · subst w5
              rw [if_pos rfl]
              refine sg_tableIn (off := 72) 73 dX6_count_1 (by decide) (by decide) (by decide +kernel) (by decide) ?_
              refine sg_aload_n dX6_count_73 rfl ?_
              refine sg_get dX6_count_74 fl_X6_33 (by first | rfl | assumption) rfl ?_
              refine sg_get dX6_count_77 fl_X6_251 (by first | rfl | assumption) rfl ?_
              refine sg_ireturn dX6_count_80 rfl (Nat.le_of_ble_eq_true rfl) (Nat.le_of_ble_eq_true rfl) ?_
              exact ⟨rfl, rfl⟩
            · rw [if_neg w5]
              by_cases w6 : w = 6
              · subst w6
                rw [if_pos rfl]
                refine sg_tableIn (off := 80) 81 dX6_count_1 (by decide) (by decide) (by decide +kernel) (by decide) ?_
                refine sg_aload_n dX6_count_81 rfl ?_
                refine sg_get dX6_count_82 fl_X6_26 (by first | rfl | assumption) rfl ?_
                refine sg_V0 dX6_count_85 cv_X6_254 h3 (c_allBeads hr) (Nat.le_of_ble_eq_true rfl) (Nat.le_of_ble_eq_true rfl) (Nat.le_of_ble_eq_true rfl) (Nat.le_of_ble_eq_true rfl) (fun r M1 hp => ?_)
                obtain ⟨rfl, e9⟩ := hp; rw [e9]
                refine sg_ireturn dX6_count_88 rfl (Nat.le_of_ble_eq_true rfl) (Nat.le_of_ble_eq_true rfl) ?_
                exact ⟨rfl, rfl⟩
              · rw [if_neg w6]
                by_cases w7 : w = 7
                · subst w7
                  rw [if_pos rfl]
                  refine sg_tableIn (off := 88) 89 dX6_count_1 (by decide) (by decide) (by decide +kernel) (by decide) ?_
                  refine sg_aload_n dX6_count_89 rfl ?_
                  refine sg_get dX6_count_90 fl_X6_56 (by first | rfl | assumption) rfl ?_
                  refine sg_get dX6_count_93 fl_X6_257 (by first | rfl | assumption) rfl ?_
                  refine sg_ireturn dX6_count_96 rfl (Nat.le_of_ble_eq_true rfl) (Nat.le_of_ble_eq_true rfl) ?_
                  exact ⟨rfl, rfl⟩
                · rw [if_neg w7]
                  have n0 := lv_neT w0 ti_0
                  have n1 := lv_neT w1 ti_1
                  have n2 := lv_neT w2 ti_2
                  have n3 := lv_neT w3 ti_3
                  have n4 := lv_neT w4 ti_4
                  have n5 := lv_neT w5 ti_5
                  have n6 := lv_neT w6 ti_6
                  have n7 := lv_neT w7 ti_7
                  refine sg_tableOut 97 dX6_count_1 (by omega) (by decide) ?_
                  refine sg_iconst (-1) dX6_count_97 (by decide) ?_
                  refine sg_ireturn dX6_count_98 rfl (Nat.le_of_ble_eq_true rfl) (Nat.le_of_ble_eq_true rfl) ?_
                  exact ⟨rfl, rfl⟩
end SM52
