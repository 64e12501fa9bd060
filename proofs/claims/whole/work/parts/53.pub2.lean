/-! ShellMoney: turn, give, name, add -/
section SM53
variable {l : Launch} {b : Nat} {D : va_G} {cA : Nat → ClassId} {M : sm_M}
variable {c dc : Nat} {cu it yr fame : Int32} {sa da : Nat → Option Nat} {sid ln js did hb : Nat → Nat} {fg fm : Nat → Nat → Int32} {ow nm : Nat → Int32} {r1 r2 r3 r4 ws to gr sp pd fgo fw fp ff : Nat → Int32} {τ : sm_T5}
theorem c_liv_y {i : Int32} (hc : c ≤ 40) (hi : (0 ≤ i.toInt ∧ i.toInt < c) ∧ 0 < ln i.toInt.toNat) (hX : sm_X M c dc cu it yr sa da) (hS : sm_S M c sa sid ln fg fm ow nm) : sm_Ct l b D cA yX6_livingStrand cX6_livingStrand 3 (some (.object "ShellMoney$Strand")) 1 0 0 [.ref 0, .int i] M (fun r M1 => r = some (.ref (sid i.toInt.toNat)) ∧ M1 = M) := by
  obtain ⟨hsa, hst, hl80, h41⟩ := hS _ (sm_toN hi.1).2
  exact c_living_y _ (sm_toN hi.1).1 (sm_toN hi.1).2 hc hsa hst.1 hi.2 hl80 hX
theorem c_liv_n {i : Int32} (hc : c ≤ 40) (hi : ¬ ((0 ≤ i.toInt ∧ i.toInt < c) ∧ 0 < ln i.toInt.toNat)) (hX : sm_X M c dc cu it yr sa da) (hS : sm_S M c sa sid ln fg fm ow nm) : sm_Ct l b D cA yX6_livingStrand cX6_livingStrand 3 (some (.object "ShellMoney$Strand")) 1 0 0 [.ref 0, .int i] M (fun r M1 => r = some .null ∧ M1 = M) := by
  by_cases h : 0 ≤ i.toInt ∧ i.toInt < c
  · obtain ⟨hsa, hst, hl80, h41⟩ := hS _ (sm_toN h).2
    have hz : ln i.toInt.toNat = 0 := by
      rcases Nat.eq_zero_or_pos (ln i.toInt.toNat) with e | e
      · exact e
      · exact absurd ⟨h, e⟩ hi
    have hq := hst.1
    rw [hz] at hq
    exact c_living_n2 _ (sm_toN h).1 (sm_toN h).2 hc hsa hq hX
  · exact c_living_n1 hc h hX
theorem c_turn (i : Int32) (hc : c ≤ 40) (hX : sm_X M c dc cu it yr sa da) (hS : sm_S M c sa sid ln fg fm ow nm) : sm_Ct l b D cA yX6_turn cX6_turn 3 (some .boolean) 3 0 0 [.ref 0, .int i] M (fun r M1 => (((0 ≤ i.toInt ∧ i.toInt < c) ∧ 0 < ln i.toInt.toNat) → r = some (.int 1) ∧ sm_ex M M1 [sid i.toInt.toNat, sid i.toInt.toNat + 1, sid i.toInt.toNat + 2] ∧ sm_st M1 (sid i.toInt.toNat) (sid i.toInt.toNat + 1) (sid i.toInt.toNat + 2) (ln i.toInt.toNat) (fun j => if j < ln i.toInt.toNat then fg i.toInt.toNat (ln i.toInt.toNat - 1 - j) else fg i.toInt.toNat j) (fun j => if j < ln i.toInt.toNat then fm i.toInt.toNat (ln i.toInt.toNat - 1 - j) else fm i.toInt.toNat j) (ow i.toInt.toNat) (nm i.toInt.toNat)) ∧ (¬ ((0 ≤ i.toInt ∧ i.toInt < c) ∧ 0 < ln i.toInt.toNat) → r = some (.int 0) ∧ M1 = M)) := by
  have h0 := hX.1
  refine sm_enter (by decide +kernel) rfl (fun _ => Nat.le_of_ble_eq_true rfl) ?_
  refine sg_aload_n dX6_turn_0 rfl ?_
  refine sg_iload_n dX6_turn_1 rfl ?_
  by_cases hi : (0 ≤ i.toInt ∧ i.toInt < c) ∧ 0 < ln i.toInt.toNat
  · obtain ⟨hsa, hst, hl80, h41⟩ := hS _ (sm_toN hi.1).2
    have hq := hst.1
    refine sg_V1 dX6_turn_2 cv_X6_92 h0 (c_liv_y hc hi hX hS) (Nat.le_of_ble_eq_true rfl) (Nat.le_of_ble_eq_true rfl) (Nat.le_of_ble_eq_true rfl) (Nat.le_of_ble_eq_true rfl) (fun r9 M9 hp => ?_)
    obtain ⟨rfl, e9⟩ := hp
    rw [e9]
    refine sg_astore_n dX6_turn_5 (by decide) ?_
    refine sg_aload_n dX6_turn_6 rfl ?_
    refine sg_ifnonnull 12 dX6_turn_7 (by decide) ?_
    refine sg_aload_n dX6_turn_12 rfl ?_
    refine sg_V0 dX6_turn_13 cv_X6_122 hq (c_reverse hl80 hi.2 (by omega) hst) (Nat.le_of_ble_eq_true rfl) (Nat.le_of_ble_eq_true rfl) (Nat.le_of_ble_eq_true rfl) (Nat.le_of_ble_eq_true rfl) (fun r9 M9 hp => ?_)
    obtain ⟨rfl, x9, s9⟩ := hp
    refine sg_iconst 1 dX6_turn_16 (by decide) ?_
    refine sg_zreturn dX6_turn_17 rfl (by first | decide | assumption) (Nat.le_of_ble_eq_true rfl) (Nat.le_of_ble_eq_true rfl) ?_
    exact ⟨fun _ => ⟨rfl, x9, s9⟩, fun q => absurd hi q⟩
  · refine sg_V1 dX6_turn_2 cv_X6_92 h0 (c_liv_n hc hi hX hS) (Nat.le_of_ble_eq_true rfl) (Nat.le_of_ble_eq_true rfl) (Nat.le_of_ble_eq_true rfl) (Nat.le_of_ble_eq_true rfl) (fun r9 M9 hp => ?_)
    obtain ⟨rfl, e9⟩ := hp
    rw [e9]
    refine sg_astore_nN dX6_turn_5 (by decide) ?_
    refine sg_aload_nN dX6_turn_6 rfl ?_
    refine sg_ifnonnullN dX6_turn_7 ?_
    refine sg_iconst 0 dX6_turn_10 (by decide) ?_
    refine sg_zreturn dX6_turn_11 rfl (by first | decide | assumption) (Nat.le_of_ble_eq_true rfl) (Nat.le_of_ble_eq_true rfl) ?_
    exact ⟨fun q => absurd q hi, fun _ => ⟨rfl, rfl⟩⟩
theorem c_give (i o : Int32) (hc : c ≤ 40) (hX : sm_X M c dc cu it yr sa da) (hS : sm_S M c sa sid ln fg fm ow nm) (ht : sm_t5 M τ) (hz : τ.1 ≤ 200) : sm_Ct l b D cA yX6_give cX6_give 4 (some .boolean) 2 0 0 [.ref 0, .int i, .int o] M (fun r M1 => ((((0 ≤ i.toInt ∧ i.toInt < c) ∧ 0 < ln i.toInt.toNat) ∧ (0 ≤ o.toInt ∧ o.toInt < 10) ∧ ¬ ow i.toInt.toNat = o ∧ τ.1 + (if nm i.toInt.toNat = 0 then 0 else 1) ≤ 200) → r = some (.int 1) ∧ sm_ex M M1 [sid i.toInt.toNat, 8, 9, 10, 11, 12] ∧ M1[sid i.toInt.toNat]? = some (sm_o 4 [.ref (sid i.toInt.toNat + 1), .ref (sid i.toInt.toNat + 2), .int (nI (ln i.toInt.toNat)), .int o, .int (nm i.toInt.toNat)]) ∧ sm_t5 M1 (sm_sayIf (nm i.toInt.toNat) 2 o yr τ)) ∧ (¬ (((0 ≤ i.toInt ∧ i.toInt < c) ∧ 0 < ln i.toInt.toNat) ∧ (0 ≤ o.toInt ∧ o.toInt < 10) ∧ ¬ ow i.toInt.toNat = o ∧ τ.1 + (if nm i.toInt.toNat = 0 then 0 else 1) ≤ 200) → r = some (.int 0) ∧ M1 = M)) := by
  have h0 := hX.1
  have h8 := ht.1
  refine sm_enter (by decide +kernel) rfl (fun _ => Nat.le_of_ble_eq_true rfl) ?_
  refine sg_aload_n dX6_give_0 rfl ?_
  refine sg_iload_n dX6_give_1 rfl ?_
  by_cases hi : (0 ≤ i.toInt ∧ i.toInt < c) ∧ 0 < ln i.toInt.toNat
  · obtain ⟨hsa, hst, hl80, h41⟩ := hS _ (sm_toN hi.1).2
    have hq := hst.1
    refine sg_V1 dX6_give_2 cv_X6_92 h0 (c_liv_y hc hi hX hS) (Nat.le_of_ble_eq_true rfl) (Nat.le_of_ble_eq_true rfl) (Nat.le_of_ble_eq_true rfl) (Nat.le_of_ble_eq_true rfl) (fun r9 M9 hp => ?_)
    obtain ⟨rfl, e9⟩ := hp
    rw [e9]
    refine sg_astore_n dX6_give_5 (by decide) ?_
    refine sg_aload_n dX6_give_6 rfl ?_
    refine sg_ifnull dX6_give_7 ?_
    refine sg_iload_n dX6_give_10 rfl ?_
    refine sg_S1 dX6_give_11 cs_X6_69 (c_isOwner _) (Nat.le_of_ble_eq_true rfl) (Nat.le_of_ble_eq_true rfl) (Nat.le_of_ble_eq_true rfl) (Nat.le_of_ble_eq_true rfl) (fun r M1 hp => ?_)
    obtain ⟨rfl, rfl⟩ := hp
    refine sg_bf_eq 39 dX6_give_14 (by decide) (fun c1 => ?_) (fun c1 => ?_)
    · refine sg_iconst 0 dX6_give_39 (by decide) ?_
      refine sg_zreturn dX6_give_40 rfl (by first | decide | assumption) (Nat.le_of_ble_eq_true rfl) (Nat.le_of_ble_eq_true rfl) ?_
      exact ⟨fun q => absurd q.2.1 c1, fun _ => ⟨rfl, rfl⟩⟩
    · refine sg_aload_n dX6_give_17 rfl ?_
      refine sg_get dX6_give_18 fl_X6_105 (by first | rfl | assumption) rfl ?_
      refine sg_iload_n dX6_give_21 rfl ?_
      refine sg_icmp_eq 39 dX6_give_22 (by decide) (fun c2 => ?_) (fun c2 => ?_)
      · refine sg_iconst 0 dX6_give_39 (by decide) ?_
        refine sg_zreturn dX6_give_40 rfl (by first | decide | assumption) (Nat.le_of_ble_eq_true rfl) (Nat.le_of_ble_eq_true rfl) ?_
        exact ⟨fun q => absurd c2 q.2.2.1, fun _ => ⟨rfl, rfl⟩⟩
      · refine sg_aload_n dX6_give_25 rfl ?_
        refine sg_get dX6_give_26 fl_X6_33 (by first | rfl | assumption) rfl ?_
        refine sg_aload_n dX6_give_29 rfl ?_
        refine sg_S1 dX6_give_30 cs_X6_99 (c_nameCount hq) (Nat.le_of_ble_eq_true rfl) (Nat.le_of_ble_eq_true rfl) (Nat.le_of_ble_eq_true rfl) (Nat.le_of_ble_eq_true rfl) (fun r9 M9 hp => ?_)
        obtain ⟨rfl, e9⟩ := hp
        rw [e9]
        refine sg_V1 dX6_give_33 cv_X6_102 h8 (c_hasRoom _ rfl (by split <;> omega) hz ht) (Nat.le_of_ble_eq_true rfl) (Nat.le_of_ble_eq_true rfl) (Nat.le_of_ble_eq_true rfl) (Nat.le_of_ble_eq_true rfl) (fun r9 M9 hp => ?_)
        obtain ⟨rfl, e9⟩ := hp
        rw [e9]
        refine sg_bf_ne 41 dX6_give_36 (by decide) (fun c3 => ?_) (fun c3 => ?_)
        · have hroom : nm i.toInt.toNat = 0 ∨ τ.1 < 200 := by
            by_cases e : nm i.toInt.toNat = 0
            · exact Or.inl e
            · rw [if_neg e] at c3
              exact Or.inr (by omega)
          refine sg_aload_n dX6_give_41 rfl ?_
          refine sg_aload_n dX6_give_42 rfl ?_
          refine sg_iload_n dX6_give_43 rfl ?_
          refine sg_V2 dX6_give_44 cv_X6_140 h0 (c_handOver o h41 hq ht hroom hX) (Nat.le_of_ble_eq_true rfl) (Nat.le_of_ble_eq_true rfl) (Nat.le_of_ble_eq_true rfl) (Nat.le_of_ble_eq_true rfl) (fun r9 M9 hp => ?_)
          obtain ⟨rfl, x9, q9, t9⟩ := hp
          refine sg_iconst 1 dX6_give_47 (by decide) ?_
          refine sg_zreturn dX6_give_48 rfl (by first | decide | assumption) (Nat.le_of_ble_eq_true rfl) (Nat.le_of_ble_eq_true rfl) ?_
          exact ⟨fun _ => ⟨rfl, x9, q9, t9⟩, fun q => absurd ⟨hi, c1, c2, c3⟩ q⟩
        · refine sg_iconst 0 dX6_give_39 (by decide) ?_
          refine sg_zreturn dX6_give_40 rfl (by first | decide | assumption) (Nat.le_of_ble_eq_true rfl) (Nat.le_of_ble_eq_true rfl) ?_
          exact ⟨fun q => absurd q.2.2.2 c3, fun _ => ⟨rfl, rfl⟩⟩
  · refine sg_V1 dX6_give_2 cv_X6_92 h0 (c_liv_n hc hi hX hS) (Nat.le_of_ble_eq_true rfl) (Nat.le_of_ble_eq_true rfl) (Nat.le_of_ble_eq_true rfl) (Nat.le_of_ble_eq_true rfl) (fun r9 M9 hp => ?_)
    obtain ⟨rfl, e9⟩ := hp
    rw [e9]
    refine sg_astore_nN dX6_give_5 (by decide) ?_
    refine sg_aload_nN dX6_give_6 rfl ?_
    refine sg_ifnullN 39 dX6_give_7 (by decide) ?_
    refine sg_iconst 0 dX6_give_39 (by decide) ?_
    refine sg_zreturn dX6_give_40 rfl (by first | decide | assumption) (Nat.le_of_ble_eq_true rfl) (Nat.le_of_ble_eq_true rfl) ?_
    exact ⟨fun q => absurd q.1 hi, fun _ => ⟨rfl, rfl⟩⟩
theorem c_name (i x : Int32) (hc : c ≤ 40) (hX : sm_X M c dc cu it yr sa da) (hS : sm_S M c sa sid ln fg fm ow nm) (ht : sm_t5 M τ) (hz : τ.1 ≤ 200) : sm_Ct l b D cA yX6_name cX6_name 4 (some .boolean) 2 0 0 [.ref 0, .int i, .int x] M (fun r M1 => ((((0 ≤ i.toInt ∧ i.toInt < c) ∧ 0 < ln i.toInt.toNat) ∧ (0 < x.toInt ∧ x.toInt ≤ 99) ∧ sm_nmd nm x c 0 = -1 ∧ τ.1 + ((if nm i.toInt.toNat = 0 then 0 else 1) + 1) ≤ 200) → r = some (.int 1) ∧ sm_ex M M1 [sid i.toInt.toNat, 8, 9, 10, 11, 12] ∧ M1[sid i.toInt.toNat]? = some (sm_o 4 [.ref (sid i.toInt.toNat + 1), .ref (sid i.toInt.toNat + 2), .int (nI (ln i.toInt.toNat)), .int (ow i.toInt.toNat), .int x]) ∧ sm_t5 M1 (sm_say x 1 (ow i.toInt.toNat) yr (sm_sayIf (nm i.toInt.toNat) 5 0 yr τ))) ∧ (¬ (((0 ≤ i.toInt ∧ i.toInt < c) ∧ 0 < ln i.toInt.toNat) ∧ (0 < x.toInt ∧ x.toInt ≤ 99) ∧ sm_nmd nm x c 0 = -1 ∧ τ.1 + ((if nm i.toInt.toNat = 0 then 0 else 1) + 1) ≤ 200) → r = some (.int 0) ∧ M1 = M)) := by
  have h0 := hX.1
  have h8 := ht.1
  refine sm_enter (by decide +kernel) rfl (fun _ => Nat.le_of_ble_eq_true rfl) ?_
  refine sg_aload_n dX6_name_0 rfl ?_
  refine sg_iload_n dX6_name_1 rfl ?_
  by_cases hi : (0 ≤ i.toInt ∧ i.toInt < c) ∧ 0 < ln i.toInt.toNat
  · obtain ⟨hsa, hst, hl80, h41⟩ := hS _ (sm_toN hi.1).2
    have hq := hst.1
    refine sg_V1 dX6_name_2 cv_X6_92 h0 (c_liv_y hc hi hX hS) (Nat.le_of_ble_eq_true rfl) (Nat.le_of_ble_eq_true rfl) (Nat.le_of_ble_eq_true rfl) (Nat.le_of_ble_eq_true rfl) (fun r9 M9 hp => ?_)
    obtain ⟨rfl, e9⟩ := hp
    rw [e9]
    refine sg_astore_n dX6_name_5 (by decide) ?_
    refine sg_aload_n dX6_name_6 rfl ?_
    refine sg_ifnull dX6_name_7 ?_
    refine sg_iload_n dX6_name_10 rfl ?_
    refine sg_S1 dX6_name_11 cs_X6_125 (c_isName _) (Nat.le_of_ble_eq_true rfl) (Nat.le_of_ble_eq_true rfl) (Nat.le_of_ble_eq_true rfl) (Nat.le_of_ble_eq_true rfl) (fun r M1 hp => ?_)
    obtain ⟨rfl, rfl⟩ := hp
    refine sg_bf_eq 26 dX6_name_14 (by decide) (fun c1 => ?_) (fun c1 => ?_)
    · refine sg_iconst 0 dX6_name_26 (by decide) ?_
      refine sg_zreturn dX6_name_27 rfl (by first | decide | assumption) (Nat.le_of_ble_eq_true rfl) (Nat.le_of_ble_eq_true rfl) ?_
      exact ⟨fun q => absurd q.2.1 c1, fun _ => ⟨rfl, rfl⟩⟩
    · refine sg_aload_n dX6_name_17 rfl ?_
      refine sg_iload_n dX6_name_18 rfl ?_
      refine sg_V1 dX6_name_19 cv_X6_128 h0 (c_named x hc hX hS) (Nat.le_of_ble_eq_true rfl) (Nat.le_of_ble_eq_true rfl) (Nat.le_of_ble_eq_true rfl) (Nat.le_of_ble_eq_true rfl) (fun r9 M9 hp => ?_)
      obtain ⟨e8, e9⟩ := hp
      rw [if_pos c1] at e8
      subst e8
      rw [e9]
      refine sg_iconst (-1) dX6_name_22 (by decide) ?_
      refine sg_icmp_eq 28 dX6_name_23 (by decide) (fun c2 => ?_) (fun c2 => ?_)
      · refine sg_aload_n dX6_name_28 rfl ?_
        refine sg_get dX6_name_29 fl_X6_33 (by first | rfl | assumption) rfl ?_
        refine sg_aload_n dX6_name_32 rfl ?_
        refine sg_S1 dX6_name_33 cs_X6_99 (c_nameCount hq) (Nat.le_of_ble_eq_true rfl) (Nat.le_of_ble_eq_true rfl) (Nat.le_of_ble_eq_true rfl) (Nat.le_of_ble_eq_true rfl) (fun r9 M9 hp => ?_)
        obtain ⟨rfl, e9⟩ := hp
        rw [e9]
        refine sg_iconst 1 dX6_name_36 (by decide) ?_
        refine sg_iadd dX6_name_37 ?_
        rw [nI_1]
        refine sg_V1 dX6_name_38 cv_X6_102 h8 (c_hasRoom _ rfl (by split <;> omega) hz ht) (Nat.le_of_ble_eq_true rfl) (Nat.le_of_ble_eq_true rfl) (Nat.le_of_ble_eq_true rfl) (Nat.le_of_ble_eq_true rfl) (fun r9 M9 hp => ?_)
        obtain ⟨rfl, e9⟩ := hp
        rw [e9]
        refine sg_bf_ne 46 dX6_name_41 (by decide) (fun c3 => ?_) (fun c3 => ?_)
        · have hroom : nm i.toInt.toNat = 0 ∨ τ.1 < 200 := by
            by_cases e : nm i.toInt.toNat = 0
            · exact Or.inl e
            · rw [if_neg e] at c3
              exact Or.inr (by omega)
          refine sg_aload_n dX6_name_46 rfl ?_
          refine sg_aload_n dX6_name_47 rfl ?_
          refine sg_V1 dX6_name_48 cv_X6_132 h0 (c_loseName h41 hq ht hroom hX) (Nat.le_of_ble_eq_true rfl) (Nat.le_of_ble_eq_true rfl) (Nat.le_of_ble_eq_true rfl) (Nat.le_of_ble_eq_true rfl) (fun r9 M9 hp => ?_)
          obtain ⟨rfl, x9, q9, t9⟩ := hp
          have hroom2 : (sm_sayIf (nm i.toInt.toNat) 5 0 yr τ).1 < 200 := by
            unfold sm_sayIf
            by_cases e : nm i.toInt.toNat = 0
            · rw [if_pos e] at c3 ⊢
              omega
            · rw [if_neg e] at c3 ⊢
              show τ.1 + 1 < 200
              omega
          refine sg_aload_n dX6_name_51 rfl ?_
          refine sg_iload_n dX6_name_52 rfl ?_
          refine sg_putx dX6_name_53 fl_X6_112 ft_X4_4 q9 (Nat.le_of_ble_eq_true rfl) (fun M2 x2 q2 => ?_)
          have t2 := t9.ex x2 (fun z hz => sm_lt41 h41 (Or.inr hz))
          have X2 := (hX.ex x9 (fun z hz e => by
            rcases List.mem_cons.mp e with e | e
            · simp only [List.mem_cons, List.not_mem_nil, or_false] at hz
              omega
            · simp only [List.mem_cons, List.not_mem_nil, or_false] at hz e
              omega)).ex x2 (fun z hz => sm_lt41 h41 (Or.inl hz))
          have k0 := X2.1
          refine sg_aload_n dX6_name_56 rfl ?_
          refine sg_get dX6_name_57 fl_X6_33 (by first | rfl | assumption) rfl ?_
          refine sg_iload_n dX6_name_60 rfl ?_
          refine sg_iconst 1 dX6_name_61 (by decide) ?_
          refine sg_aload_n dX6_name_62 rfl ?_
          refine sg_get dX6_name_63 fl_X6_105 (by first | rfl | assumption) rfl ?_
          refine sg_aload_n dX6_name_66 rfl ?_
          refine sg_get dX6_name_67 fl_X6_66 (by first | rfl | assumption) rfl ?_
          refine sg_V4 dX6_name_70 cv_X6_136 t2.1 (c_tell x 1 (ow i.toInt.toNat) yr hroom2 t2) (Nat.le_of_ble_eq_true rfl) (Nat.le_of_ble_eq_true rfl) (Nat.le_of_ble_eq_true rfl) (Nat.le_of_ble_eq_true rfl) (fun r9 M9 hp => ?_)
          obtain ⟨rfl, x8, t8⟩ := hp
          refine sg_iconst 1 dX6_name_73 (by decide) ?_
          refine sg_zreturn dX6_name_74 rfl (by first | decide | assumption) (Nat.le_of_ble_eq_true rfl) (Nat.le_of_ble_eq_true rfl) ?_
          exact ⟨fun _ => ⟨rfl, x9.tr ((x2.mono (fun z hz => by rw [List.mem_singleton.mp hz]; exact List.mem_cons_self)).tr (x8.mono (fun z hz => List.mem_cons_of_mem _ hz))), (x8.2 _ (sm_le41 h41)).trans q2, t8⟩, fun q => absurd ⟨hi, c1, c2, c3⟩ q⟩
        · refine sg_iconst 0 dX6_name_44 (by decide) ?_
          refine sg_zreturn dX6_name_45 rfl (by first | decide | assumption) (Nat.le_of_ble_eq_true rfl) (Nat.le_of_ble_eq_true rfl) ?_
          exact ⟨fun q => absurd q.2.2.2 c3, fun _ => ⟨rfl, rfl⟩⟩
      · refine sg_iconst 0 dX6_name_26 (by decide) ?_
        refine sg_zreturn dX6_name_27 rfl (by first | decide | assumption) (Nat.le_of_ble_eq_true rfl) (Nat.le_of_ble_eq_true rfl) ?_
        exact ⟨fun q => absurd q.2.2.1 c2, fun _ => ⟨rfl, rfl⟩⟩
  · refine sg_V1 dX6_name_2 cv_X6_92 h0 (c_liv_n hc hi hX hS) (Nat.le_of_ble_eq_true rfl) (Nat.le_of_ble_eq_true rfl) (Nat.le_of_ble_eq_true rfl) (Nat.le_of_ble_eq_true rfl) (fun r9 M9 hp => ?_)
    obtain ⟨rfl, e9⟩ := hp
    rw [e9]
    refine sg_astore_nN dX6_name_5 (by decide) ?_
    refine sg_aload_nN dX6_name_6 rfl ?_
    refine sg_ifnullN 26 dX6_name_7 (by decide) ?_
    refine sg_iconst 0 dX6_name_26 (by decide) ?_
    refine sg_zreturn dX6_name_27 rfl (by first | decide | assumption) (Nat.le_of_ble_eq_true rfl) (Nat.le_of_ble_eq_true rfl) ?_
    exact ⟨fun q => absurd q.1 hi, fun _ => ⟨rfl, rfl⟩⟩
/-- the beads that add and string take -/
abbrev sm_bok (g m n : Int32) : Prop := (0 ≤ g.toInt ∧ g.toInt < 5) ∧ (0 ≤ m.toInt ∧ m.toInt < 10) ∧ (1 ≤ n.toInt ∧ n.toInt ≤ 80)
theorem c_add (i g m n : Int32) (hc : c ≤ 40) (hX : sm_X M c dc cu it yr sa da) (hS : sm_S M c sa sid ln fg fm ow nm) (hr : sm_rates M r1 r2 r3 r4 fame) : sm_Ct l b D cA yX6_add cX6_add 6 (some .int) 2 0 0 [.ref 0, .int i, .int g, .int m, .int n] M (fun r M1 => ((((0 ≤ i.toInt ∧ i.toInt < c) ∧ 0 < ln i.toInt.toNat) ∧ sm_bok g m n ∧ (ln i.toInt.toNat : Int) + n.toInt ≤ 80) → r = some (.int (nI (ln i.toInt.toNat + n.toInt.toNat))) ∧ sm_ex M M1 [sid i.toInt.toNat, sid i.toInt.toNat + 1, sid i.toInt.toNat + 2, 7] ∧ sm_st M1 (sid i.toInt.toNat) (sid i.toInt.toNat + 1) (sid i.toInt.toNat + 2) (ln i.toInt.toNat + n.toInt.toNat) (fun j => if ln i.toInt.toNat ≤ j ∧ j < ln i.toInt.toNat + n.toInt.toNat then g else fg i.toInt.toNat j) (fun j => if ln i.toInt.toNat ≤ j ∧ j < ln i.toInt.toNat + n.toInt.toNat then m else fm i.toInt.toNat j) (ow i.toInt.toNat) (nm i.toInt.toNat) ∧ sm_rates M1 r1 r2 r3 (upd r4 g.toInt.toNat (r4 g.toInt.toNat + n)) fame) ∧ (¬ (((0 ≤ i.toInt ∧ i.toInt < c) ∧ 0 < ln i.toInt.toNat) ∧ sm_bok g m n ∧ (ln i.toInt.toNat : Int) + n.toInt ≤ 80) → r = some (.int (-1)) ∧ M1 = M)) := by
  have h0 := hX.1
  refine sm_enter (by decide +kernel) rfl (fun _ => Nat.le_of_ble_eq_true rfl) ?_
  refine sg_aload_n dX6_add_0 rfl ?_
  refine sg_iload_n dX6_add_1 rfl ?_
  by_cases hi : (0 ≤ i.toInt ∧ i.toInt < c) ∧ 0 < ln i.toInt.toNat
  · obtain ⟨hsa, hst, hl80, h41⟩ := hS _ (sm_toN hi.1).2
    have hq := hst.1
    refine sg_V1 dX6_add_2 cv_X6_92 h0 (c_liv_y hc hi hX hS) (Nat.le_of_ble_eq_true rfl) (Nat.le_of_ble_eq_true rfl) (Nat.le_of_ble_eq_true rfl) (Nat.le_of_ble_eq_true rfl) (fun r9 M9 hp => ?_)
    obtain ⟨rfl, e9⟩ := hp
    rw [e9]
    refine sg_astore dX6_add_5 (by decide) ?_
    refine sg_aload dX6_add_7 rfl ?_
    refine sg_ifnull dX6_add_9 ?_
    refine sg_iload_n dX6_add_12 rfl ?_
    refine sg_iload_n dX6_add_13 rfl ?_
    refine sg_iload dX6_add_14 rfl ?_
    refine sg_S3 dX6_add_16 cs_X6_73 (c_areBeads _ _ _) (Nat.le_of_ble_eq_true rfl) (Nat.le_of_ble_eq_true rfl) (Nat.le_of_ble_eq_true rfl) (Nat.le_of_ble_eq_true rfl) (fun r M1 hp => ?_)
    obtain ⟨rfl, rfl⟩ := hp
    refine sg_bf_eq 35 dX6_add_19 (by decide) (fun c1 => ?_) (fun c1 => ?_)
    · refine sg_iconst (-1) dX6_add_35 (by decide) ?_
      refine sg_ireturn dX6_add_36 rfl (Nat.le_of_ble_eq_true rfl) (Nat.le_of_ble_eq_true rfl) ?_
      exact ⟨fun q => absurd q.2.1 c1, fun _ => ⟨rfl, rfl⟩⟩
    · have hnn : n = nI n.toInt.toNat := sm_asN (by omega)
      have hsum : nI (ln i.toInt.toNat) + n = nI (ln i.toInt.toNat + n.toInt.toNat) := by
        rw [← nI_add, ← hnn]
      refine sg_aload dX6_add_22 rfl ?_
      refine sg_get dX6_add_24 fl_X6_96 (by first | rfl | assumption) rfl ?_
      refine sg_iload dX6_add_27 rfl ?_
      refine sg_iadd dX6_add_29 ?_
      rw [hsum]
      refine sg_bipush 80 dX6_add_30 (by decide) ?_
      refine sg_icmp_le 37 dX6_add_32 (by decide) (fun c2 => ?_) (fun c2 => ?_)
      · rw [Int32.le_iff_toInt_le, nI_toInt (by omega), ti_80] at c2
        refine sg_aload dX6_add_37 rfl ?_
        refine sg_iload_n dX6_add_39 rfl ?_
        refine sg_iload_n dX6_add_40 rfl ?_
        refine sg_iload dX6_add_41 rfl ?_
        refine sg_V3 dX6_add_43 cv_X6_80 hq (c_append n.toInt.toNat hnn (by omega) (by omega) hst) (Nat.le_of_ble_eq_true rfl) (Nat.le_of_ble_eq_true rfl) (Nat.le_of_ble_eq_true rfl) (Nat.le_of_ble_eq_true rfl) (fun r9 M9 hp => ?_)
        obtain ⟨rfl, x9, s9⟩ := hp
        have R9 := hr.ex x9 (fun z hz e => by
          simp only [List.mem_cons, List.not_mem_nil, or_false] at hz e
          omega)
        have k0 := (hX.ex x9 (fun z hz e => by
          simp only [List.mem_cons, List.not_mem_nil, or_false] at hz e
          omega)).1
        have k3 := R9.1
        refine sg_aload_n dX6_add_46 rfl ?_
        refine sg_get dX6_add_47 fl_X6_26 (by first | rfl | assumption) rfl ?_
        refine sg_iload_n dX6_add_50 rfl ?_
        refine sg_iload dX6_add_51 rfl ?_
        refine sg_V2 dX6_add_53 cv_X6_84 k3 (c_flowIn g.toInt.toNat n (sm_toN (c := 5) c1.1).1 (sm_toN (c := 5) c1.1).2 R9) (Nat.le_of_ble_eq_true rfl) (Nat.le_of_ble_eq_true rfl) (Nat.le_of_ble_eq_true rfl) (Nat.le_of_ble_eq_true rfl) (fun r9 M8 hp => ?_)
        obtain ⟨rfl, e8⟩ := hp
        have x8 : sm_ex M9 M8 [7] := by
          rw [e8]
          exact sm_ex.set
        have g7 : M8[7]? = some (sm_i 5 (upd r4 g.toInt.toNat (r4 g.toInt.toNat + n))) := by
          rw [e8]
          exact sm_gs R9.2.2.2.2
        have s8 := s9.ex x8 (fun e => by have := List.mem_singleton.mp e; omega) (fun e => by have := List.mem_singleton.mp e; omega) (fun e => by have := List.mem_singleton.mp e; omega)
        have q8 := s8.1
        clear e8
        refine sg_aload dX6_add_56 rfl ?_
        refine sg_get dX6_add_58 fl_X6_96 (by first | rfl | assumption) rfl ?_
        refine sg_ireturn dX6_add_61 rfl (Nat.le_of_ble_eq_true rfl) (Nat.le_of_ble_eq_true rfl) ?_
        exact ⟨fun _ => ⟨rfl, (x9.mono (fun z hz => by
          simp only [List.mem_cons, List.not_mem_nil, or_false] at hz ⊢
          omega)).tr (x8.mono (fun z hz => by
          have := List.mem_singleton.mp hz
          simp only [List.mem_cons, List.not_mem_nil, or_false]
          omega)), s8, (x8.2 3 (by decide)).trans R9.1, (x8.2 4 (by decide)).trans R9.2.1, (x8.2 5 (by decide)).trans R9.2.2.1, (x8.2 6 (by decide)).trans R9.2.2.2.1, g7⟩, fun q => absurd ⟨hi, c1, by omega⟩ q⟩
      · rw [Int32.le_iff_toInt_le, nI_toInt (by omega), ti_80] at c2
        refine sg_iconst (-1) dX6_add_35 (by decide) ?_
        refine sg_ireturn dX6_add_36 rfl (Nat.le_of_ble_eq_true rfl) (Nat.le_of_ble_eq_true rfl) ?_
        exact ⟨fun q => absurd q.2.2 (by omega), fun _ => ⟨rfl, rfl⟩⟩
  · refine sg_V1 dX6_add_2 cv_X6_92 h0 (c_liv_n hc hi hX hS) (Nat.le_of_ble_eq_true rfl) (Nat.le_of_ble_eq_true rfl) (Nat.le_of_ble_eq_true rfl) (Nat.le_of_ble_eq_true rfl) (fun r9 M9 hp => ?_)
    obtain ⟨rfl, e9⟩ := hp
    rw [e9]
    refine sg_astoreN dX6_add_5 (by decide) ?_
    refine sg_aloadN dX6_add_7 rfl ?_
    refine sg_ifnullN 35 dX6_add_9 (by decide) ?_
    refine sg_iconst (-1) dX6_add_35 (by decide) ?_
    refine sg_ireturn dX6_add_36 rfl (Nat.le_of_ble_eq_true rfl) (Nat.le_of_ble_eq_true rfl) ?_
    exact ⟨fun q => absurd q.1 hi, fun _ => ⟨rfl, rfl⟩⟩
end SM53
