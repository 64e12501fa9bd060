/-! ShellMoney: cut, join -/
theorem sm_gx.low {M M1 : sm_M} {zs ys : List Nat} (h : sm_gx M M1 zs) (hs : ∀ z ∈ zs, z ∈ ys ∨ M.length ≤ z) : sm_gx M M1 ys := ⟨h.1, fun z hl hz => h.2 z hl (fun q => (hs z q).elim hz (fun e => absurd hl (Nat.not_lt.mpr e)))⟩
theorem sm_lt_len {M : sm_M} {q : Nat} {x : Option sm_C} (h : M[q]? = some x) : q < M.length := (List.getElem?_eq_some_iff.mp h).1
section SM55
variable {l : Launch} {b : Nat} {D : va_G} {cA : Nat → ClassId} {M : sm_M}
variable {c dc : Nat} {cu it yr fame : Int32} {sa da : Nat → Option Nat} {sid ln js did hb : Nat → Nat} {fg fm : Nat → Nat → Int32} {ow nm : Nat → Int32} {r1 r2 r3 r4 : Nat → Int32} {τ : sm_T5}
abbrev sm_cutc (c : Nat) (ln : Nat → Nat) (nm : Nat → Int32) (τ : sm_T5) (i j : Int32) : Prop := ((0 ≤ i.toInt ∧ i.toInt < c) ∧ 0 < ln i.toInt.toNat) ∧ (1 ≤ j.toInt ∧ j.toInt < ln i.toInt.toNat) ∧ c < 40 ∧ τ.1 + (if nm i.toInt.toNat = 0 then 0 else 1) ≤ 200
theorem c_cut (i j : Int32) (h41 : 41 ≤ M.length) (hc : c ≤ 40) (hX : sm_X M c dc cu it yr sa da) (hS : sm_S M c sa sid ln fg fm ow nm) (ht : sm_t5 M τ) (hz : τ.1 ≤ 200) : sm_Ct l b D cA yX6_cut cX6_cut 5 (some .int) 3 3 165 [.ref 0, .int i, .int j] M (fun r M1 => (sm_cutc c ln nm τ i j → r = some (.int (nI c)) ∧ M1.length = M.length + 3 ∧ sm_gx M M1 [0, 1, sid i.toInt.toNat, 8, 9, 10, 11, 12] ∧ sm_X M1 (c + 1) dc cu it yr (va_up sa c (some M.length)) da ∧ sm_st M1 (sid i.toInt.toNat) (sid i.toInt.toNat + 1) (sid i.toInt.toNat + 2) j.toInt.toNat (fg i.toInt.toNat) (fm i.toInt.toNat) (ow i.toInt.toNat) (if nm i.toInt.toNat = 0 ∨ cu = 0 ∨ j.toInt.toNat < ln i.toInt.toNat - j.toInt.toNat then 0 else nm i.toInt.toNat) ∧ sm_st M1 M.length (M.length + 1) (M.length + 2) (ln i.toInt.toNat - j.toInt.toNat) (fun t => if 0 ≤ t ∧ t < 0 + (ln i.toInt.toNat - j.toInt.toNat) then fg i.toInt.toNat (j.toInt.toNat + (t - 0)) else 0) (fun t => if 0 ≤ t ∧ t < 0 + (ln i.toInt.toNat - j.toInt.toNat) then fm i.toInt.toNat (j.toInt.toNat + (t - 0)) else 0) (ow i.toInt.toNat) (if ¬ nm i.toInt.toNat = 0 ∧ ¬ cu = 0 ∧ j.toInt.toNat < ln i.toInt.toNat - j.toInt.toNat then nm i.toInt.toNat else 0) ∧ sm_t5 M1 (if nm i.toInt.toNat = 0 then τ else if cu = 0 then sm_say (nm i.toInt.toNat) 5 0 yr τ else sm_say (nm i.toInt.toNat) 3 (nI (if j.toInt.toNat < ln i.toInt.toNat - j.toInt.toNat then ln i.toInt.toNat - j.toInt.toNat else j.toInt.toNat)) yr τ)) ∧ (¬ sm_cutc c ln nm τ i j → r = some (.int (-1)) ∧ M1 = M)) := by
  have h0 := hX.1
  have h8 := ht.1
  refine sm_enter (by decide +kernel) rfl (fun _ => Nat.le_of_ble_eq_true rfl) ?_
  refine sg_aload_n dX6_cut_0 rfl ?_
  refine sg_iload_n dX6_cut_1 rfl ?_
  by_cases hi : (0 ≤ i.toInt ∧ i.toInt < c) ∧ 0 < ln i.toInt.toNat
  · obtain ⟨hsa, hst, hl80, hs41⟩ := hS _ (sm_toN hi.1).2
    have hq := hst.1
    have hlt := sm_lt_len hst.2.2
    refine sg_V1 dX6_cut_2 cv_X6_92 h0 (c_liv_y hc hi hX hS) (Nat.le_of_ble_eq_true rfl) (Nat.le_of_ble_eq_true rfl) (Nat.le_of_ble_eq_true rfl) (Nat.le_of_ble_eq_true rfl) (fun r9 M9 hp => ?_)
    obtain ⟨rfl, e9⟩ := hp
    rw [e9]
    refine sg_astore_n dX6_cut_5 (by decide) ?_
    refine sg_aload_n dX6_cut_6 rfl ?_
    refine sg_ifnull dX6_cut_7 ?_
    refine sg_iload_n dX6_cut_10 rfl ?_
    refine sg_iconst 1 dX6_cut_11 (by decide) ?_
    refine sg_icmp_lt 32 dX6_cut_12 (by decide) (fun c1 => ?_) (fun c1 => ?_)
    · rw [Int32.lt_iff_toInt_lt, ti_1] at c1
      refine sg_iconst (-1) dX6_cut_32 (by decide) ?_
      refine sg_ireturn dX6_cut_33 rfl (Nat.le_of_ble_eq_true rfl) (Nat.le_of_ble_eq_true rfl) ?_
      exact ⟨fun q => absurd q.2.1.1 (by omega), fun _ => ⟨rfl, rfl⟩⟩
    · rw [Int32.lt_iff_toInt_lt, ti_1] at c1
      refine sg_iload_n dX6_cut_15 rfl ?_
      refine sg_aload_n dX6_cut_16 rfl ?_
      refine sg_get dX6_cut_17 fl_X6_96 (by first | rfl | assumption) rfl ?_
      refine sg_icmp_ge 32 dX6_cut_20 (by decide) (fun c2 => ?_) (fun c2 => ?_)
      · rw [Int32.le_iff_toInt_le, nI_toInt (by omega)] at c2
        refine sg_iconst (-1) dX6_cut_32 (by decide) ?_
        refine sg_ireturn dX6_cut_33 rfl (Nat.le_of_ble_eq_true rfl) (Nat.le_of_ble_eq_true rfl) ?_
        exact ⟨fun q => absurd q.2.1.2 (by omega), fun _ => ⟨rfl, rfl⟩⟩
      · rw [Int32.le_iff_toInt_le, nI_toInt (by omega)] at c2
        refine sg_aload_n dX6_cut_23 rfl ?_
        refine sg_get dX6_cut_24 fl_X6_15 (by first | rfl | assumption) rfl ?_
        refine sg_bipush 40 dX6_cut_27 (by decide) ?_
        refine sg_icmp_lt 34 dX6_cut_29 (by decide) (fun c3 => ?_) (fun c3 => ?_)
        · rw [Int32.lt_iff_toInt_lt, nI_toInt (by omega), ti_40] at c3
          have hjn : j = nI j.toInt.toNat := sm_asN (by omega)
          refine sg_aload_n dX6_cut_34 rfl ?_
          refine sg_get dX6_cut_35 fl_X6_33 (by first | rfl | assumption) rfl ?_
          refine sg_aload_n dX6_cut_38 rfl ?_
          refine sg_S1 dX6_cut_39 cs_X6_99 (c_nameCount hq) (Nat.le_of_ble_eq_true rfl) (Nat.le_of_ble_eq_true rfl) (Nat.le_of_ble_eq_true rfl) (Nat.le_of_ble_eq_true rfl) (fun r9 M9 hp => ?_)
          obtain ⟨rfl, e9⟩ := hp
          rw [e9]
          refine sg_V1 dX6_cut_42 cv_X6_102 h8 (c_hasRoom _ rfl (by split <;> omega) hz ht) (Nat.le_of_ble_eq_true rfl) (Nat.le_of_ble_eq_true rfl) (Nat.le_of_ble_eq_true rfl) (Nat.le_of_ble_eq_true rfl) (fun r9 M9 hp => ?_)
          obtain ⟨rfl, e9⟩ := hp
          rw [e9]
          refine sg_bf_ne 50 dX6_cut_45 (by decide) (fun c4 => ?_) (fun c4 => ?_)
          · refine sg_newx (fs := [.null, .null, .int 0, .int 0, .int 0]) dX6_cut_50 (ci := 4) rfl inTX4 tyX4_ok cl_X6_9 it_X4 id_X4 sm_dfS (Nat.le_of_ble_eq_true rfl) (Nat.le_of_ble_eq_true rfl) (fun M1 l1 x1 q1 => ?_)
            have k1 := x1.at hq (by simp)
            refine sg_dup dX6_cut_53 rfl ?_
            refine sg_aload_n dX6_cut_54 rfl ?_
            refine sg_get dX6_cut_55 fl_X6_105 (by first | rfl | assumption) rfl ?_
            refine sg_I1 dX6_cut_58 ci_X6_77 (c_Strand (ow i.toInt.toNat) q1) (Nat.le_of_ble_eq_true rfl) (Nat.le_of_ble_eq_true rfl) (Nat.le_of_ble_eq_true rfl) (Nat.le_of_ble_eq_true rfl) (fun r9 M2 hp => ?_)
            obtain ⟨rfl, l2, x2, s2⟩ := hp
            rw [l1] at l2 s2
            have y2 : sm_gx M M2 [M.length] := (x1.mono (by simp)).tr x2
            have o2 := hst.gx y2 (sm_nin1 (by omega)) (sm_nin1 (by omega)) (sm_nin1 (by omega))
            have q2 := s2.1
            refine sg_astore dX6_cut_61 (by decide) ?_
            refine sg_aload dX6_cut_63 rfl ?_
            refine sg_aload_n dX6_cut_65 rfl ?_
            refine sg_iload_n dX6_cut_66 rfl ?_
            refine sg_V2 dX6_cut_67 cv_X6_108 q2 (c_appendFrom j.toInt.toNat hjn (by omega) hl80 (by omega) (by omega) (fun z hz e => by simp only [List.mem_cons, List.not_mem_nil, or_false] at hz e; omega) s2 o2) (Nat.le_of_ble_eq_true rfl) (Nat.le_of_ble_eq_true rfl) (Nat.le_of_ble_eq_true rfl) (Nat.le_of_ble_eq_true rfl) (fun r9 M3 hp => ?_)
            obtain ⟨rfl, x3, s3⟩ := hp
            have o3 := o2.ex x3 (fun e => by simp only [List.mem_cons, List.not_mem_nil, or_false] at e; omega) (fun e => by simp only [List.mem_cons, List.not_mem_nil, or_false] at e; omega) (fun e => by simp only [List.mem_cons, List.not_mem_nil, or_false] at e; omega)
            have p3 := o3.1
            refine sg_aload_n dX6_cut_70 rfl ?_
            refine sg_iload_n dX6_cut_71 rfl ?_
            refine sg_putx dX6_cut_72 fl_X6_96 ft_X4_2 p3 (Nat.le_of_ble_eq_true rfl) (fun M4 x4 q4 => ?_)
            have q4' : M4[sid i.toInt.toNat]? = some (sm_o 4 [.ref (sid i.toInt.toNat + 1), .ref (sid i.toInt.toNat + 2), .int (nI j.toInt.toNat), .int (ow i.toInt.toNat), .int (nm i.toInt.toNat)]) := by
              rw [← hjn]
              exact q4
            have g4 := (x4.2 (sid i.toInt.toNat + 1) (sm_nin1 (by omega))).trans o3.2.1
            have m4 := (x4.2 (sid i.toInt.toNat + 2) (sm_nin1 (by omega))).trans o3.2.2
            have s4 := s3.ex x4 (sm_nin1 (by omega)) (sm_nin1 (by omega)) (sm_nin1 (by omega))
            have y4 : sm_gx M M4 [M.length, M.length + 1, M.length + 2, sid i.toInt.toNat] := (y2.mono (fun z hz => by simp only [List.mem_cons, List.not_mem_nil, or_false] at hz ⊢; omega)).tr ((x3.gx.mono (fun z hz => by simp only [List.mem_cons, List.not_mem_nil, or_false] at hz ⊢; omega)).tr (x4.gx.mono (fun z hz => by simp only [List.mem_cons, List.not_mem_nil, or_false] at hz ⊢; omega)))
            have l4 : M4.length = M.length + 3 := by rw [x4.1, x3.1, l2]
            have X4 := hX.gx y4 (fun z hz e => by simp only [List.mem_cons, List.not_mem_nil, or_false] at hz e; omega)
            have t4 := ht.gx y4 (fun z hz e => by simp only [List.mem_cons, List.not_mem_nil, or_false] at hz e; omega)
            have z0 := X4.1
            rw [Nat.zero_add] at s4
            clear q4 x4 s3 x3 o3 p3 s2 x2 y2 o2 q2 k1 q1 x1
            refine sg_aload_n dX6_cut_75 rfl ?_
            refine sg_get dX6_cut_76 fl_X6_112 (by first | rfl | assumption) rfl ?_
            refine sg_if_eq 89 dX6_cut_79 (by decide) (fun c5 => ?_) (fun c5 => ?_)
            · have z4 := s4.1
              refine sg_aload_n dX6_cut_89 rfl ?_
              refine sg_aload dX6_cut_90 rfl ?_
              refine sg_V1 dX6_cut_92 cv_X6_88 z0 (c_keepStrand (by omega) z4 X4) (Nat.le_of_ble_eq_true rfl) (Nat.le_of_ble_eq_true rfl) (Nat.le_of_ble_eq_true rfl) (Nat.le_of_ble_eq_true rfl) (fun r9 M6 hp => ?_)
              obtain ⟨rfl, x6, X6⟩ := hp
              refine sg_ireturn dX6_cut_95 rfl (Nat.le_of_ble_eq_true rfl) (Nat.le_of_ble_eq_true rfl) ?_
              refine ⟨fun _ => ⟨rfl, by rw [x6.1, l4], ((y4.mono (fun z hz => by simp only [List.mem_cons, List.not_mem_nil, or_false] at hz ⊢; omega)).tr (x6.gx.mono (fun z hz => by simp only [List.mem_cons, List.not_mem_nil, or_false] at hz ⊢; omega)) : sm_gx M M6 [M.length, M.length + 1, M.length + 2, sid i.toInt.toNat, 0, 1]).low (fun z hz => by simp only [List.mem_cons, List.not_mem_nil, or_false] at hz ⊢; omega), X6, ?_, ?_, ?_⟩, fun q => absurd ⟨hi, by omega, by omega, c4⟩ q⟩
              · rw [if_pos (Or.inl c5)]
                rw [c5] at q4'
                exact ⟨(x6.2 _ (fun e => by simp only [List.mem_cons, List.not_mem_nil, or_false] at e; omega)).trans q4', (x6.2 _ (fun e => by simp only [List.mem_cons, List.not_mem_nil, or_false] at e; omega)).trans g4, (x6.2 _ (fun e => by simp only [List.mem_cons, List.not_mem_nil, or_false] at e; omega)).trans m4⟩
              · rw [if_neg (fun q => q.1 c5)]
                rw [Nat.zero_add]
                exact s4.ex x6 (fun e => by simp only [List.mem_cons, List.not_mem_nil, or_false] at e; omega) (fun e => by simp only [List.mem_cons, List.not_mem_nil, or_false] at e; omega) (fun e => by simp only [List.mem_cons, List.not_mem_nil, or_false] at e; omega)
              · rw [if_pos c5]
                exact t4.ex x6 (by decide)
            · have z4 := s4.1
              rw [if_neg c5] at c4
              refine sg_aload_n dX6_cut_82 rfl ?_
              refine sg_aload_n dX6_cut_83 rfl ?_
              refine sg_aload dX6_cut_84 rfl ?_
              refine sg_V2 dX6_cut_86 cv_X6_115 z0 (c_settleNameOfCut hs41 h41 (by omega) (by omega) (by omega) q4' z4 t4 (by omega) c5 X4) (Nat.le_of_ble_eq_true rfl) (Nat.le_of_ble_eq_true rfl) (Nat.le_of_ble_eq_true rfl) (Nat.le_of_ble_eq_true rfl) (fun r9 M5 hp => ?_)
              obtain ⟨rfl, x5, a5, b5, t5⟩ := hp
              have X5 := X4.ex x5 (fun z hz e => by simp only [List.mem_cons, List.not_mem_nil, or_false] at hz e; omega)
              have k0 := X5.1
              refine sg_aload_n dX6_cut_89 rfl ?_
              refine sg_aload dX6_cut_90 rfl ?_
              refine sg_V1 dX6_cut_92 cv_X6_88 k0 (c_keepStrand (by omega) b5 X5) (Nat.le_of_ble_eq_true rfl) (Nat.le_of_ble_eq_true rfl) (Nat.le_of_ble_eq_true rfl) (Nat.le_of_ble_eq_true rfl) (fun r9 M6 hp => ?_)
              obtain ⟨rfl, x6, X6⟩ := hp
              refine sg_ireturn dX6_cut_95 rfl (Nat.le_of_ble_eq_true rfl) (Nat.le_of_ble_eq_true rfl) ?_
              refine ⟨fun _ => ⟨rfl, by rw [x6.1, x5.1, l4], ((y4.mono (fun z hz => by simp only [List.mem_cons, List.not_mem_nil, or_false] at hz ⊢; omega)).tr ((x5.gx.mono (fun z hz => by simp only [List.mem_cons, List.not_mem_nil, or_false] at hz ⊢; omega)).tr (x6.gx.mono (fun z hz => by simp only [List.mem_cons, List.not_mem_nil, or_false] at hz ⊢; omega))) : sm_gx M M6 [M.length, M.length + 1, M.length + 2, sid i.toInt.toNat, 0, 1, 8, 9, 10, 11, 12]).low (fun z hz => by simp only [List.mem_cons, List.not_mem_nil, or_false] at hz ⊢; omega), X6, ?_, ?_, ?_⟩, fun q => absurd ⟨hi, by omega, by omega, by rw [if_neg c5]; exact c4⟩ q⟩
              · refine ⟨(x6.2 _ (fun e => by simp only [List.mem_cons, List.not_mem_nil, or_false] at e; omega)).trans (a5.trans ?_), (x6.2 _ (fun e => by simp only [List.mem_cons, List.not_mem_nil, or_false] at e; omega)).trans ((x5.2 _ (fun e => by simp only [List.mem_cons, List.not_mem_nil, or_false] at e; omega)).trans g4), (x6.2 _ (fun e => by simp only [List.mem_cons, List.not_mem_nil, or_false] at e; omega)).trans ((x5.2 _ (fun e => by simp only [List.mem_cons, List.not_mem_nil, or_false] at e; omega)).trans m4)⟩
                simp only [c5, false_or]
              · refine ⟨(x6.2 _ (fun e => by simp only [List.mem_cons, List.not_mem_nil, or_false] at e; omega)).trans (b5.trans ?_), (x6.2 _ (fun e => by simp only [List.mem_cons, List.not_mem_nil, or_false] at e; omega)).trans ((x5.2 _ (fun e => by simp only [List.mem_cons, List.not_mem_nil, or_false] at e; omega)).trans ?_), (x6.2 _ (fun e => by simp only [List.mem_cons, List.not_mem_nil, or_false] at e; omega)).trans ((x5.2 _ (fun e => by simp only [List.mem_cons, List.not_mem_nil, or_false] at e; omega)).trans ?_)⟩
                · simp only [c5, not_false_eq_true, true_and]
                · rw [Nat.zero_add]
                  exact s4.2.1
                · rw [Nat.zero_add]
                  exact s4.2.2
              · rw [if_neg c5]
                exact t5.ex x6 (by decide)
          · refine sg_iconst (-1) dX6_cut_48 (by decide) ?_
            refine sg_ireturn dX6_cut_49 rfl (Nat.le_of_ble_eq_true rfl) (Nat.le_of_ble_eq_true rfl) ?_
            exact ⟨fun q => absurd q.2.2.2 c4, fun _ => ⟨rfl, rfl⟩⟩
        · rw [Int32.lt_iff_toInt_lt, nI_toInt (by omega), ti_40] at c3
          refine sg_iconst (-1) dX6_cut_32 (by decide) ?_
          refine sg_ireturn dX6_cut_33 rfl (Nat.le_of_ble_eq_true rfl) (Nat.le_of_ble_eq_true rfl) ?_
          exact ⟨fun q => absurd q.2.2.1 (by omega), fun _ => ⟨rfl, rfl⟩⟩
  · refine sg_V1 dX6_cut_2 cv_X6_92 h0 (c_liv_n hc hi hX hS) (Nat.le_of_ble_eq_true rfl) (Nat.le_of_ble_eq_true rfl) (Nat.le_of_ble_eq_true rfl) (Nat.le_of_ble_eq_true rfl) (fun r9 M9 hp => ?_)
    obtain ⟨rfl, e9⟩ := hp
    rw [e9]
    refine sg_astore_nN dX6_cut_5 (by decide) ?_
    refine sg_aload_nN dX6_cut_6 rfl ?_
    refine sg_ifnullN 32 dX6_cut_7 (by decide) ?_
    refine sg_iconst (-1) dX6_cut_32 (by decide) ?_
    refine sg_ireturn dX6_cut_33 rfl (Nat.le_of_ble_eq_true rfl) (Nat.le_of_ble_eq_true rfl) ?_
    exact ⟨fun q => absurd q.1 hi, fun _ => ⟨rfl, rfl⟩⟩
abbrev sm_lvg (c : Nat) (ln : Nat → Nat) (i : Int32) : Prop := (0 ≤ i.toInt ∧ i.toInt < c) ∧ 0 < ln i.toInt.toNat
abbrev sm_joinc (c : Nat) (ln : Nat → Nat) (ow nm : Nat → Int32) (τ : sm_T5) (i j : Int32) : Prop := sm_lvg c ln i ∧ sm_lvg c ln j ∧ ¬ i = j ∧ ow i.toInt.toNat = ow j.toInt.toNat ∧ ln i.toInt.toNat + ln j.toInt.toNat ≤ 80 ∧ τ.1 + ((if nm i.toInt.toNat = 0 then 0 else 1) + (if nm j.toInt.toNat = 0 then 0 else 1)) ≤ 200
theorem c_join (i j : Int32) (hc : c ≤ 40) (hX : sm_X M c dc cu it yr sa da) (hS : sm_S M c sa sid ln fg fm ow nm) (hsp : ∀ j k, j < c → k < c → j ≠ k → sid j + 3 ≤ sid k ∨ sid k + 3 ≤ sid j) (ht : sm_t5 M τ) (hz : τ.1 ≤ 200) : sm_Ct l b D cA yX6_join cX6_join 5 (some .int) 3 0 0 [.ref 0, .int i, .int j] M (fun r M1 => (sm_joinc c ln ow nm τ i j → r = some (.int (nI (ln i.toInt.toNat + ln j.toInt.toNat))) ∧ sm_ex M M1 [sid i.toInt.toNat, sid i.toInt.toNat + 1, sid i.toInt.toNat + 2, sid j.toInt.toNat, 8, 9, 10, 11, 12] ∧ sm_st M1 (sid i.toInt.toNat) (sid i.toInt.toNat + 1) (sid i.toInt.toNat + 2) (ln i.toInt.toNat + ln j.toInt.toNat) (fun t => if ln i.toInt.toNat ≤ t ∧ t < ln i.toInt.toNat + (ln j.toInt.toNat - 0) then fg j.toInt.toNat (0 + (t - ln i.toInt.toNat)) else fg i.toInt.toNat t) (fun t => if ln i.toInt.toNat ≤ t ∧ t < ln i.toInt.toNat + (ln j.toInt.toNat - 0) then fm j.toInt.toNat (0 + (t - ln i.toInt.toNat)) else fm i.toInt.toNat t) (ow i.toInt.toNat) (if nm i.toInt.toNat = 0 then nm j.toInt.toNat else nm i.toInt.toNat) ∧ sm_st M1 (sid j.toInt.toNat) (sid j.toInt.toNat + 1) (sid j.toInt.toNat + 2) 0 (fg j.toInt.toNat) (fm j.toInt.toNat) (ow j.toInt.toNat) 0 ∧ sm_t5 M1 (sm_sayIf (if nm i.toInt.toNat = 0 then nm j.toInt.toNat else nm i.toInt.toNat) 4 (nI (ln i.toInt.toNat + ln j.toInt.toNat)) yr (if nm i.toInt.toNat = 0 then τ else sm_sayIf (nm j.toInt.toNat) 5 0 yr τ))) ∧ (¬ sm_joinc c ln ow nm τ i j → r = some (.int (-1)) ∧ M1 = M)) := by
  have h0 := hX.1
  have h8 := ht.1
  refine sm_enter (by decide +kernel) rfl (fun _ => Nat.le_of_ble_eq_true rfl) ?_
  refine sg_aload_n dX6_join_0 rfl ?_
  refine sg_iload_n dX6_join_1 rfl ?_
  by_cases hi : sm_lvg c ln i
  · obtain ⟨hsa, hst, hl80, hs41⟩ := hS _ (sm_toN hi.1).2
    have hq := hst.1
    refine sg_V1 dX6_join_2 cv_X6_92 h0 (c_liv_y hc hi hX hS) (Nat.le_of_ble_eq_true rfl) (Nat.le_of_ble_eq_true rfl) (Nat.le_of_ble_eq_true rfl) (Nat.le_of_ble_eq_true rfl) (fun r9 M9 hp => ?_)
    obtain ⟨rfl, e9⟩ := hp
    rw [e9]
    refine sg_astore_n dX6_join_5 (by decide) ?_
    refine sg_aload_n dX6_join_6 rfl ?_
    refine sg_iload_n dX6_join_7 rfl ?_
    by_cases hj : sm_lvg c ln j
    · obtain ⟨hsa', hst', hl80', hs41'⟩ := hS _ (sm_toN hj.1).2
      have hq' := hst'.1
      refine sg_V1 dX6_join_8 cv_X6_92 h0 (c_liv_y hc hj hX hS) (Nat.le_of_ble_eq_true rfl) (Nat.le_of_ble_eq_true rfl) (Nat.le_of_ble_eq_true rfl) (Nat.le_of_ble_eq_true rfl) (fun r9 M9 hp => ?_)
      obtain ⟨rfl, e9⟩ := hp
      rw [e9]
      refine sg_astore dX6_join_11 (by decide) ?_
      refine sg_aload_n dX6_join_13 rfl ?_
      refine sg_ifnull dX6_join_14 ?_
      refine sg_aload dX6_join_17 rfl ?_
      refine sg_ifnull dX6_join_19 ?_
      refine sg_iload_n dX6_join_22 rfl ?_
      refine sg_iload_n dX6_join_23 rfl ?_
      refine sg_icmp_eq 39 dX6_join_24 (by decide) (fun c1 => ?_) (fun c1 => ?_)
      · refine sg_iconst (-1) dX6_join_39 (by decide) ?_
        refine sg_ireturn dX6_join_40 rfl (Nat.le_of_ble_eq_true rfl) (Nat.le_of_ble_eq_true rfl) ?_
        exact ⟨fun q => absurd c1 q.2.2.1, fun _ => ⟨rfl, rfl⟩⟩
      · have hne : i.toInt.toNat ≠ j.toInt.toNat := fun e => c1 (by rw [(sm_toN hi.1).1, (sm_toN hj.1).1, e])
        have hs := hsp _ _ (sm_toN hi.1).2 (sm_toN hj.1).2 hne
        refine sg_aload_n dX6_join_27 rfl ?_
        refine sg_get dX6_join_28 fl_X6_105 (by first | rfl | assumption) rfl ?_
        refine sg_aload dX6_join_31 rfl ?_
        refine sg_get dX6_join_33 fl_X6_105 (by first | rfl | assumption) rfl ?_
        refine sg_icmp_eq 41 dX6_join_36 (by decide) (fun c2 => ?_) (fun c2 => ?_)
        · refine sg_aload_n dX6_join_41 rfl ?_
          refine sg_get dX6_join_42 fl_X6_96 (by first | rfl | assumption) rfl ?_
          refine sg_aload dX6_join_45 rfl ?_
          refine sg_get dX6_join_47 fl_X6_96 (by first | rfl | assumption) rfl ?_
          refine sg_iadd dX6_join_50 ?_
          rw [nI_add]
          refine sg_bipush 80 dX6_join_51 (by decide) ?_
          refine sg_icmp_gt 76 dX6_join_53 (by decide) (fun c3 => ?_) (fun c3 => ?_)
          · rw [Int32.lt_iff_toInt_lt, nI_toInt (by omega), ti_80] at c3
            refine sg_iconst (-1) dX6_join_76 (by decide) ?_
            refine sg_ireturn dX6_join_77 rfl (Nat.le_of_ble_eq_true rfl) (Nat.le_of_ble_eq_true rfl) ?_
            exact ⟨fun q => absurd q.2.2.2.2.1 (by omega), fun _ => ⟨rfl, rfl⟩⟩
          · rw [Int32.lt_iff_toInt_lt, nI_toInt (by omega), ti_80] at c3
            refine sg_aload_n dX6_join_56 rfl ?_
            refine sg_get dX6_join_57 fl_X6_33 (by first | rfl | assumption) rfl ?_
            refine sg_aload_n dX6_join_60 rfl ?_
            refine sg_S1 dX6_join_61 cs_X6_99 (c_nameCount hq) (Nat.le_of_ble_eq_true rfl) (Nat.le_of_ble_eq_true rfl) (Nat.le_of_ble_eq_true rfl) (Nat.le_of_ble_eq_true rfl) (fun r9 M9 hp => ?_)
            obtain ⟨rfl, e9⟩ := hp
            rw [e9]
            refine sg_aload dX6_join_64 rfl ?_
            refine sg_S1 dX6_join_66 cs_X6_99 (c_nameCount hq') (Nat.le_of_ble_eq_true rfl) (Nat.le_of_ble_eq_true rfl) (Nat.le_of_ble_eq_true rfl) (Nat.le_of_ble_eq_true rfl) (fun r9 M9 hp => ?_)
            obtain ⟨rfl, e9⟩ := hp
            rw [e9]
            refine sg_iadd dX6_join_69 ?_
            rw [nI_add]
            refine sg_V1 dX6_join_70 cv_X6_102 h8 (c_hasRoom _ rfl (by split <;> split <;> omega) hz ht) (Nat.le_of_ble_eq_true rfl) (Nat.le_of_ble_eq_true rfl) (Nat.le_of_ble_eq_true rfl) (Nat.le_of_ble_eq_true rfl) (fun r9 M9 hp => ?_)
            obtain ⟨rfl, e9⟩ := hp
            rw [e9]
            refine sg_bf_ne 78 dX6_join_73 (by decide) (fun c4 => ?_) (fun c4 => ?_)
            · refine sg_aload_n dX6_join_78 rfl ?_
              refine sg_aload dX6_join_79 rfl ?_
              refine sg_iconst 0 dX6_join_81 (by decide) ?_
              refine sg_V2 dX6_join_82 cv_X6_108 hq (c_appendFrom 0 rfl (by omega) hl80' (by omega) (by omega) (fun z hz e => by simp only [List.mem_cons, List.not_mem_nil, or_false] at hz e; omega) hst hst') (Nat.le_of_ble_eq_true rfl) (Nat.le_of_ble_eq_true rfl) (Nat.le_of_ble_eq_true rfl) (Nat.le_of_ble_eq_true rfl) (fun r9 M3 hp => ?_)
              obtain ⟨rfl, x3, s3⟩ := hp
              have o3 := hst'.ex x3 (fun e => by simp only [List.mem_cons, List.not_mem_nil, or_false] at e; omega) (fun e => by simp only [List.mem_cons, List.not_mem_nil, or_false] at e; omega) (fun e => by simp only [List.mem_cons, List.not_mem_nil, or_false] at e; omega)
              have p3 := o3.1
              refine sg_aload dX6_join_85 rfl ?_
              refine sg_iconst 0 dX6_join_87 (by decide) ?_
              refine sg_putx dX6_join_88 fl_X6_96 ft_X4_2 p3 (Nat.le_of_ble_eq_true rfl) (fun M4 x4 q4 => ?_)
              have s4 := s3.ex x4 (sm_nin1 (by omega)) (sm_nin1 (by omega)) (sm_nin1 (by omega))
              rw [Nat.sub_zero] at s4
              have o4 : sm_st M4 (sid j.toInt.toNat) (sid j.toInt.toNat + 1) (sid j.toInt.toNat + 2) 0 (fg j.toInt.toNat) (fm j.toInt.toNat) (ow j.toInt.toNat) (nm j.toInt.toNat) := ⟨q4, (x4.2 _ (sm_nin1 (by omega))).trans o3.2.1, (x4.2 _ (sm_nin1 (by omega))).trans o3.2.2⟩
              have y4 : sm_ex M M4 [sid i.toInt.toNat, sid i.toInt.toNat + 1, sid i.toInt.toNat + 2, sid j.toInt.toNat] := (x3.mono (fun z hz => by simp only [List.mem_cons, List.not_mem_nil, or_false] at hz ⊢; omega)).tr (x4.mono (fun z hz => by simp only [List.mem_cons, List.not_mem_nil, or_false] at hz ⊢; omega))
              have X4 := hX.ex y4 (fun z hz e => by simp only [List.mem_cons, List.not_mem_nil, or_false] at hz e; omega)
              have t4 := ht.ex y4 (fun z hz e => by simp only [List.mem_cons, List.not_mem_nil, or_false] at hz e; omega)
              have z0 := X4.1
              have z4 := s4.1
              have w4 := o4.1
              clear q4 x4 s3 x3 o3 p3
              refine sg_aload_n dX6_join_91 rfl ?_
              refine sg_aload_n dX6_join_92 rfl ?_
              refine sg_aload dX6_join_93 rfl ?_
              refine sg_V2 dX6_join_95 cv_X6_119 z0 (c_settleNameOfJoined hs41 hs41' (by omega) z4 w4 t4 c4 X4) (Nat.le_of_ble_eq_true rfl) (Nat.le_of_ble_eq_true rfl) (Nat.le_of_ble_eq_true rfl) (Nat.le_of_ble_eq_true rfl) (fun r9 M5 hp => ?_)
              obtain ⟨rfl, x5, a5, b5, t5⟩ := hp
              refine sg_aload_n dX6_join_98 rfl ?_
              refine sg_get dX6_join_99 fl_X6_96 (by first | rfl | assumption) rfl ?_
              refine sg_ireturn dX6_join_102 rfl (Nat.le_of_ble_eq_true rfl) (Nat.le_of_ble_eq_true rfl) ?_
              refine ⟨fun _ => ⟨rfl, (y4.mono (fun z hz => by simp only [List.mem_cons, List.not_mem_nil, or_false] at hz ⊢; omega)).tr (x5.mono (fun z hz => by simp only [List.mem_cons, List.not_mem_nil, or_false] at hz ⊢; omega)), ⟨a5, ?_, ?_⟩, ⟨b5, (x5.2 _ (fun e => by simp only [List.mem_cons, List.not_mem_nil, or_false] at e; omega)).trans o4.2.1, (x5.2 _ (fun e => by simp only [List.mem_cons, List.not_mem_nil, or_false] at e; omega)).trans o4.2.2⟩, t5⟩, fun q => absurd ⟨hi, hj, c1, c2, by omega, c4⟩ q⟩
              · exact (x5.2 _ (fun e => by simp only [List.mem_cons, List.not_mem_nil, or_false] at e; omega)).trans s4.2.1
              · exact (x5.2 _ (fun e => by simp only [List.mem_cons, List.not_mem_nil, or_false] at e; omega)).trans s4.2.2
            · refine sg_iconst (-1) dX6_join_76 (by decide) ?_
              refine sg_ireturn dX6_join_77 rfl (Nat.le_of_ble_eq_true rfl) (Nat.le_of_ble_eq_true rfl) ?_
              exact ⟨fun q => absurd q.2.2.2.2.2 c4, fun _ => ⟨rfl, rfl⟩⟩
        · refine sg_iconst (-1) dX6_join_39 (by decide) ?_
          refine sg_ireturn dX6_join_40 rfl (Nat.le_of_ble_eq_true rfl) (Nat.le_of_ble_eq_true rfl) ?_
          exact ⟨fun q => absurd q.2.2.2.1 c2, fun _ => ⟨rfl, rfl⟩⟩
    · refine sg_V1 dX6_join_8 cv_X6_92 h0 (c_liv_n hc hj hX hS) (Nat.le_of_ble_eq_true rfl) (Nat.le_of_ble_eq_true rfl) (Nat.le_of_ble_eq_true rfl) (Nat.le_of_ble_eq_true rfl) (fun r9 M9 hp => ?_)
      obtain ⟨rfl, e9⟩ := hp
      rw [e9]
      refine sg_astoreN dX6_join_11 (by decide) ?_
      refine sg_aload_n dX6_join_13 rfl ?_
      refine sg_ifnull dX6_join_14 ?_
      refine sg_aloadN dX6_join_17 rfl ?_
      refine sg_ifnullN 39 dX6_join_19 (by decide) ?_
      refine sg_iconst (-1) dX6_join_39 (by decide) ?_
      refine sg_ireturn dX6_join_40 rfl (Nat.le_of_ble_eq_true rfl) (Nat.le_of_ble_eq_true rfl) ?_
      exact ⟨fun q => absurd q.2.1 hj, fun _ => ⟨rfl, rfl⟩⟩
  · refine sg_V1 dX6_join_2 cv_X6_92 h0 (c_liv_n hc hi hX hS) (Nat.le_of_ble_eq_true rfl) (Nat.le_of_ble_eq_true rfl) (Nat.le_of_ble_eq_true rfl) (Nat.le_of_ble_eq_true rfl) (fun r9 M9 hp => ?_)
    obtain ⟨rfl, e9⟩ := hp
    rw [e9]
    by_cases hj : sm_lvg c ln j
    · refine sg_astore_nN dX6_join_5 (by decide) ?_
      refine sg_aload_n dX6_join_6 rfl ?_
      refine sg_iload_n dX6_join_7 rfl ?_
      refine sg_V1 dX6_join_8 cv_X6_92 h0 (c_liv_y hc hj hX hS) (Nat.le_of_ble_eq_true rfl) (Nat.le_of_ble_eq_true rfl) (Nat.le_of_ble_eq_true rfl) (Nat.le_of_ble_eq_true rfl) (fun r9 M9 hp => ?_)
      obtain ⟨rfl, e9⟩ := hp
      rw [e9]
      refine sg_astore dX6_join_11 (by decide) ?_
      refine sg_aload_nN dX6_join_13 rfl ?_
      refine sg_ifnullN 39 dX6_join_14 (by decide) ?_
      refine sg_iconst (-1) dX6_join_39 (by decide) ?_
      refine sg_ireturn dX6_join_40 rfl (Nat.le_of_ble_eq_true rfl) (Nat.le_of_ble_eq_true rfl) ?_
      exact ⟨fun q => absurd q.1 hi, fun _ => ⟨rfl, rfl⟩⟩
    · refine sg_astore_nN dX6_join_5 (by decide) ?_
      refine sg_aload_n dX6_join_6 rfl ?_
      refine sg_iload_n dX6_join_7 rfl ?_
      refine sg_V1 dX6_join_8 cv_X6_92 h0 (c_liv_n hc hj hX hS) (Nat.le_of_ble_eq_true rfl) (Nat.le_of_ble_eq_true rfl) (Nat.le_of_ble_eq_true rfl) (Nat.le_of_ble_eq_true rfl) (fun r9 M9 hp => ?_)
      obtain ⟨rfl, e9⟩ := hp
      rw [e9]
      refine sg_astoreN dX6_join_11 (by decide) ?_
      refine sg_aload_nN dX6_join_13 rfl ?_
      refine sg_ifnullN 39 dX6_join_14 (by decide) ?_
      refine sg_iconst (-1) dX6_join_39 (by decide) ?_
      refine sg_ireturn dX6_join_40 rfl (Nat.le_of_ble_eq_true rfl) (Nat.le_of_ble_eq_true rfl) ?_
      exact ⟨fun q => absurd q.1 hi, fun _ => ⟨rfl, rfl⟩⟩
end SM55
