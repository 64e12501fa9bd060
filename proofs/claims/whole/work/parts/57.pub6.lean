/-! ShellMoney: owe, settle, year, of -/
theorem sm_dfD : ∀ b : Nat, ∀ j, j < 5 → defaultValue (tyX0 j) = vp_V (([.int 0, .int 0, .int 0, .int 0, .int 0] : List Value).map (sm_s b)) j := fun b j hj => by
  rcases (show j = 0 ∨ j = 1 ∨ j = 2 ∨ j = 3 ∨ j = 4 by omega) with rfl | rfl | rfl | rfl | rfl <;> rfl
theorem sm_ne04 {M : sm_M} {q z : Nat} {fs gs : List Value} (h : M[q]? = some (sm_o 0 fs)) (h2 : M[z]? = some (sm_o 4 gs)) : q ≠ z := fun e => by
  rw [e, h2] at h
  exact absurd h (by simp)
/-- the spans once t debts are grown -/
def sm_grt (sp : Nat → Int32) (it : Int32) (t : Nat) : Nat → Int32 := fun k => if k < t then sm_grow (sp k) it else sp k
theorem sm_grt_up (sp : Nat → Int32) (it : Int32) (t : Nat) : sm_grt sp it (t + 1) = va_up (sm_grt sp it t) t (sm_grow (sp t) it) := by
  funext k
  show (if k < t + 1 then sm_grow (sp k) it else sp k) = if k = t then sm_grow (sp t) it else (if k < t then sm_grow (sp k) it else sp k)
  by_cases e : k = t
  · rw [if_pos (by omega), if_pos e, e]
  · rw [if_neg e]
    by_cases h : k < t
    · rw [if_pos (by omega), if_pos h]
    · rw [if_neg (by omega), if_neg h]
section SM57
variable {l : Launch} {b : Nat} {D : va_G} {cA : Nat → ClassId} {M : sm_M}
variable {c dc : Nat} {cu it yr fame : Int32} {sa da : Nat → Option Nat} {sid ln js did hb : Nat → Nat} {fg fm : Nat → Nat → Int32} {ow nm : Nat → Int32} {r1 r2 r3 r4 ws to gr sp pd : Nat → Int32} {τ : sm_T5}
abbrev sm_owec (dc : Nat) (o t s g : Int32) : Prop := (0 ≤ o.toInt ∧ o.toInt < 10) ∧ (0 ≤ t.toInt ∧ t.toInt < 10) ∧ ¬ o = t ∧ (0 ≤ g.toInt ∧ g.toInt < 5) ∧ (1 ≤ s.toInt ∧ s.toInt ≤ 99) ∧ dc < 60
theorem c_owe (o t s g : Int32) (h41 : 41 ≤ M.length) (hdc : dc ≤ 60) (hX : sm_X M c dc cu it yr sa da) : sm_Ct l b D cA yX6_owe cX6_owe 5 (some .int) 2 1 5 [.ref 0, .int o, .int t, .int s, .int g] M (fun r M1 => (sm_owec dc o t s g → r = some (.int (nI dc)) ∧ M1.length = M.length + 1 ∧ sm_gx M M1 [0, 16] ∧ sm_X M1 c (dc + 1) cu it yr sa (va_up da dc (some M.length)) ∧ M1[M.length]? = some (sm_o 0 [.int o, .int t, .int g, .int s, .int (-1)])) ∧ (¬ sm_owec dc o t s g → r = some (.int (-1)) ∧ M1 = M)) := by
  have h0 := hX.1
  refine sm_enter (by decide +kernel) rfl (fun _ => Nat.le_of_ble_eq_true rfl) ?_
  refine sg_iload_n dX6_owe_0 rfl ?_
  refine sg_S1 dX6_owe_1 cs_X6_69 (c_isOwner _) (Nat.le_of_ble_eq_true rfl) (Nat.le_of_ble_eq_true rfl) (Nat.le_of_ble_eq_true rfl) (Nat.le_of_ble_eq_true rfl) (fun r M1 hp => ?_)
  obtain ⟨rfl, e9⟩ := hp; rw [e9]
  refine sg_bf_eq 27 dX6_owe_4 (by decide) (fun c1 => ?_) (fun c1 => ?_)
  · refine sg_iconst (-1) dX6_owe_27 (by decide) ?_
    refine sg_ireturn dX6_owe_28 rfl (Nat.le_of_ble_eq_true rfl) (Nat.le_of_ble_eq_true rfl) ?_
    exact ⟨fun q => absurd q.1 c1, fun _ => ⟨rfl, rfl⟩⟩
  · refine sg_iload_n dX6_owe_7 rfl ?_
    refine sg_S1 dX6_owe_8 cs_X6_69 (c_isOwner _) (Nat.le_of_ble_eq_true rfl) (Nat.le_of_ble_eq_true rfl) (Nat.le_of_ble_eq_true rfl) (Nat.le_of_ble_eq_true rfl) (fun r M1 hp => ?_)
    obtain ⟨rfl, e9⟩ := hp; rw [e9]
    refine sg_bf_eq 27 dX6_owe_11 (by decide) (fun c2 => ?_) (fun c2 => ?_)
    · refine sg_iconst (-1) dX6_owe_27 (by decide) ?_
      refine sg_ireturn dX6_owe_28 rfl (Nat.le_of_ble_eq_true rfl) (Nat.le_of_ble_eq_true rfl) ?_
      exact ⟨fun q => absurd q.2.1 c2, fun _ => ⟨rfl, rfl⟩⟩
    · refine sg_iload_n dX6_owe_14 rfl ?_
      refine sg_iload_n dX6_owe_15 rfl ?_
      refine sg_icmp_eq 27 dX6_owe_16 (by decide) (fun c3 => ?_) (fun c3 => ?_)
      · refine sg_iconst (-1) dX6_owe_27 (by decide) ?_
        refine sg_ireturn dX6_owe_28 rfl (Nat.le_of_ble_eq_true rfl) (Nat.le_of_ble_eq_true rfl) ?_
        exact ⟨fun q => absurd c3 q.2.2.1, fun _ => ⟨rfl, rfl⟩⟩
      · refine sg_iload dX6_owe_19 rfl ?_
        refine sg_S1 dX6_owe_21 cs_X6_197 (c_isGrade _) (Nat.le_of_ble_eq_true rfl) (Nat.le_of_ble_eq_true rfl) (Nat.le_of_ble_eq_true rfl) (Nat.le_of_ble_eq_true rfl) (fun r M1 hp => ?_)
        obtain ⟨rfl, e9⟩ := hp; rw [e9]
        refine sg_bf_ne 29 dX6_owe_24 (by decide) (fun c4 => ?_) (fun c4 => ?_)
        · refine sg_iload_n dX6_owe_29 rfl ?_
          refine sg_iconst 1 dX6_owe_30 (by decide) ?_
          refine sg_icmp_lt 49 dX6_owe_31 (by decide) (fun c5 => ?_) (fun c5 => ?_)
          · rw [Int32.lt_iff_toInt_lt, ti_1] at c5
            refine sg_iconst (-1) dX6_owe_49 (by decide) ?_
            refine sg_ireturn dX6_owe_50 rfl (Nat.le_of_ble_eq_true rfl) (Nat.le_of_ble_eq_true rfl) ?_
            exact ⟨fun q => absurd q.2.2.2.2.1.1 (by omega), fun _ => ⟨rfl, rfl⟩⟩
          · rw [Int32.lt_iff_toInt_lt, ti_1] at c5
            refine sg_iload_n dX6_owe_34 rfl ?_
            refine sg_bipush 99 dX6_owe_35 (by decide) ?_
            refine sg_icmp_gt 49 dX6_owe_37 (by decide) (fun c6 => ?_) (fun c6 => ?_)
            · rw [Int32.lt_iff_toInt_lt, ti_99] at c6
              refine sg_iconst (-1) dX6_owe_49 (by decide) ?_
              refine sg_ireturn dX6_owe_50 rfl (Nat.le_of_ble_eq_true rfl) (Nat.le_of_ble_eq_true rfl) ?_
              exact ⟨fun q => absurd q.2.2.2.2.1.2 (by omega), fun _ => ⟨rfl, rfl⟩⟩
            · rw [Int32.lt_iff_toInt_lt, ti_99] at c6
              refine sg_aload_n dX6_owe_40 rfl ?_
              refine sg_get dX6_owe_41 fl_X6_50 (by first | rfl | assumption) rfl ?_
              refine sg_bipush 60 dX6_owe_44 (by decide) ?_
              refine sg_icmp_lt 51 dX6_owe_46 (by decide) (fun c7 => ?_) (fun c7 => ?_)
              · rw [Int32.lt_iff_toInt_lt, nI_toInt (by omega), ti_60] at c7
                refine sg_aload_n dX6_owe_51 rfl ?_
                refine sg_get dX6_owe_52 fl_X6_46 (by first | rfl | assumption) rfl ?_
                refine sg_aload_n dX6_owe_55 rfl ?_
                refine sg_get dX6_owe_56 fl_X6_50 (by first | rfl | assumption) rfl ?_
                refine sg_newx (fs := [.int 0, .int 0, .int 0, .int 0, .int 0]) dX6_owe_59 (ci := 0) rfl inTX0 tyX0_ok cl_X6_44 it_X0 id_X0 sm_dfD (Nat.le_of_ble_eq_true rfl) (Nat.le_of_ble_eq_true rfl) (fun M1 l1 x1 q1 => ?_)
                refine sg_dup dX6_owe_62 rfl ?_
                refine sg_iload_n dX6_owe_63 rfl ?_
                refine sg_iload_n dX6_owe_64 rfl ?_
                refine sg_iload_n dX6_owe_65 rfl ?_
                refine sg_iload dX6_owe_66 rfl ?_
                refine sg_I4 dX6_owe_68 ci_X6_218 (c_Debt o t s g q1) (Nat.le_of_ble_eq_true rfl) (Nat.le_of_ble_eq_true rfl) (Nat.le_of_ble_eq_true rfl) (Nat.le_of_ble_eq_true rfl) (fun r9 M2 hp => ?_)
                obtain ⟨rfl, x2, q2⟩ := hp
                have y2 : sm_gx M M2 [M.length] := (x1.mono (by simp)).tr x2.gx
                have X2 := hX.gx y2 (fun z hz e => by simp only [List.mem_cons, List.not_mem_nil, or_false] at hz e; omega)
                obtain ⟨k0, k1, k16⟩ := X2
                refine sg_aast dc dX6_owe_71 k16 (fun _ => rfl) q2 rfl rfl (by omega) (by decide) ?_
                have x3 : sm_ex M2 (M2.set 16 (sm_r 2 60 (va_up da dc (some M.length)))) [16] := sm_ex.set
                have g3 := sm_gs (c := sm_r 2 60 (va_up da dc (some M.length))) k16
                generalize M2.set 16 (sm_r 2 60 (va_up da dc (some M.length))) = M3 at x3 g3 ⊢
                have a0 := (x3.2 0 (by decide)).trans k0
                refine sg_aload_n dX6_owe_72 rfl ?_
                refine sg_dup dX6_owe_73 rfl ?_
                refine sg_get dX6_owe_74 fl_X6_50 (by first | rfl | assumption) rfl ?_
                refine sg_iconst 1 dX6_owe_77 (by decide) ?_
                refine sg_iadd dX6_owe_78 ?_
                refine sg_putx dX6_owe_79 fl_X6_50 ft_X6_7 a0 (Nat.le_of_ble_eq_true rfl) (fun M4 x4 q4 => ?_)
                rw [nI_1] at q4
                refine sg_aload_n dX6_owe_82 rfl ?_
                refine sg_get dX6_owe_83 fl_X6_50 (by first | rfl | assumption) rfl ?_
                refine sg_iconst 1 dX6_owe_86 (by decide) ?_
                refine sg_isub dX6_owe_87 ?_
                rw [nI_pred]
                refine sg_ireturn dX6_owe_88 rfl (Nat.le_of_ble_eq_true rfl) (Nat.le_of_ble_eq_true rfl) ?_
                refine ⟨fun _ => ⟨rfl, by rw [x4.1, x3.1, x2.1, l1], ((y2.mono (fun z hz => by simp only [List.mem_cons, List.not_mem_nil, or_false] at hz ⊢; omega)).tr ((x3.gx.mono (fun z hz => by simp only [List.mem_cons, List.not_mem_nil, or_false] at hz ⊢; omega)).tr (x4.gx.mono (fun z hz => by simp only [List.mem_cons, List.not_mem_nil, or_false] at hz ⊢; omega))) : sm_gx M M4 [M.length, 0, 16]).low (fun z hz => by simp only [List.mem_cons, List.not_mem_nil, or_false] at hz ⊢; omega), ⟨q4, (x4.2 1 (by decide)).trans ((x3.2 1 (by decide)).trans k1), (x4.2 16 (by decide)).trans g3⟩, (x4.2 _ (sm_nin1 (by omega))).trans ((x3.2 _ (sm_nin1 (by omega))).trans q2)⟩, fun q => absurd ⟨c1, c2, c3, c4, by omega, by omega⟩ q⟩
              · rw [Int32.lt_iff_toInt_lt, nI_toInt (by omega), ti_60] at c7
                refine sg_iconst (-1) dX6_owe_49 (by decide) ?_
                refine sg_ireturn dX6_owe_50 rfl (Nat.le_of_ble_eq_true rfl) (Nat.le_of_ble_eq_true rfl) ?_
                exact ⟨fun q => absurd q.2.2.2.2.2 (by omega), fun _ => ⟨rfl, rfl⟩⟩
        · refine sg_iconst (-1) dX6_owe_27 (by decide) ?_
          refine sg_ireturn dX6_owe_28 rfl (Nat.le_of_ble_eq_true rfl) (Nat.le_of_ble_eq_true rfl) ?_
          exact ⟨fun q => absurd q.2.2.2.1 c4, fun _ => ⟨rfl, rfl⟩⟩
abbrev sm_setlc (c dc : Nat) (ln : Nat → Nat) (fg : Nat → Nat → Int32) (ow nm ws gr sp pd : Nat → Int32) (τ : sm_T5) (d i : Int32) : Prop := (0 ≤ d.toInt ∧ d.toInt < dc) ∧ sm_lvg c ln i ∧ pd d.toInt.toNat = -1 ∧ ow i.toInt.toNat = ws d.toInt.toNat ∧ ¬ nI (ln i.toInt.toNat) / 10 < sp d.toInt.toNat ∧ ¬ sm_least (fg i.toInt.toNat) 0 (ln i.toInt.toNat) < gr d.toInt.toNat ∧ τ.1 + (if nm i.toInt.toNat = 0 then 0 else 1) ≤ 200
theorem c_settle (d i : Int32) (hc : c ≤ 40) (hdc : dc ≤ 60) (hX : sm_X M c dc cu it yr sa da) (hS : sm_S M c sa sid ln fg fm ow nm) (hD : sm_D M dc da did ws to gr sp pd) (ht : sm_t5 M τ) (hz : τ.1 ≤ 200) : sm_Ct l b D cA yX6_settle cX6_settle 5 (some .boolean) 3 0 0 [.ref 0, .int d, .int i] M (fun r M1 => (sm_setlc c dc ln fg ow nm ws gr sp pd τ d i → r = some (.int 1) ∧ sm_ex M M1 [sid i.toInt.toNat, did d.toInt.toNat, 8, 9, 10, 11, 12] ∧ M1[sid i.toInt.toNat]? = some (sm_o 4 [.ref (sid i.toInt.toNat + 1), .ref (sid i.toInt.toNat + 2), .int (nI (ln i.toInt.toNat)), .int (to d.toInt.toNat), .int (nm i.toInt.toNat)]) ∧ M1[did d.toInt.toNat]? = some (sm_o 0 [.int (ws d.toInt.toNat), .int (to d.toInt.toNat), .int (gr d.toInt.toNat), .int 0, .int yr]) ∧ sm_t5 M1 (sm_sayIf (nm i.toInt.toNat) 2 (to d.toInt.toNat) yr τ)) ∧ (¬ sm_setlc c dc ln fg ow nm ws gr sp pd τ d i → r = some (.int 0) ∧ M1 = M)) := by
  have h0 := hX.1
  have h8 := ht.1
  refine sm_enter (by decide +kernel) rfl (fun _ => Nat.le_of_ble_eq_true rfl) ?_
  refine sg_aload_n dX6_settle_0 rfl ?_
  refine sg_iload_n dX6_settle_1 rfl ?_
  by_cases hd : 0 ≤ d.toInt ∧ d.toInt < dc
  · obtain ⟨hda, hdq, hd41⟩ := hD _ (sm_toN hd).2
    refine sg_V1 dX6_settle_2 cv_X6_220 h0 (c_debtAt_y _ (sm_toN hd).1 (sm_toN hd).2 hdc hda hX) (Nat.le_of_ble_eq_true rfl) (Nat.le_of_ble_eq_true rfl) (Nat.le_of_ble_eq_true rfl) (Nat.le_of_ble_eq_true rfl) (fun r9 M9 hp => ?_)
    obtain ⟨rfl, e9⟩ := hp
    rw [e9]
    refine sg_astore_n dX6_settle_5 (by decide) ?_
    refine sg_aload_n dX6_settle_6 rfl ?_
    refine sg_iload_n dX6_settle_7 rfl ?_
    by_cases hi : sm_lvg c ln i
    · obtain ⟨hsa, hst, hl80, hs41⟩ := hS _ (sm_toN hi.1).2
      have hq := hst.1
      have hne := sm_ne04 hdq hq
      refine sg_V1 dX6_settle_8 cv_X6_92 h0 (c_liv_y hc hi hX hS) (Nat.le_of_ble_eq_true rfl) (Nat.le_of_ble_eq_true rfl) (Nat.le_of_ble_eq_true rfl) (Nat.le_of_ble_eq_true rfl) (fun r9 M9 hp => ?_)
      obtain ⟨rfl, e9⟩ := hp
      rw [e9]
      refine sg_astore dX6_settle_11 (by decide) ?_
      refine sg_aload_n dX6_settle_13 rfl ?_
      refine sg_ifnull dX6_settle_14 ?_
      refine sg_aload dX6_settle_17 rfl ?_
      refine sg_ifnull dX6_settle_19 ?_
      refine sg_aload_n dX6_settle_22 rfl ?_
      refine sg_V0 dX6_settle_23 cv_X6_224 hdq (c_isPaid hdq) (Nat.le_of_ble_eq_true rfl) (Nat.le_of_ble_eq_true rfl) (Nat.le_of_ble_eq_true rfl) (Nat.le_of_ble_eq_true rfl) (fun r9 M9 hp => ?_)
      obtain ⟨rfl, e9⟩ := hp
      rw [e9]
      by_cases c1 : pd d.toInt.toNat = -1
      · rw [if_pos c1]
        refine sg_if_ne 41 dX6_settle_26 (by decide) (fun cc => ?_) (fun cc => ?_)
        · exact absurd rfl cc
        · refine sg_aload dX6_settle_29 rfl ?_
          refine sg_get dX6_settle_31 fl_X6_105 (by first | rfl | assumption) rfl ?_
          refine sg_aload_n dX6_settle_34 rfl ?_
          refine sg_get dX6_settle_35 fl_X6_228 (by first | rfl | assumption) rfl ?_
          refine sg_icmp_eq 43 dX6_settle_38 (by decide) (fun c2 => ?_) (fun c2 => ?_)
          · refine sg_aload dX6_settle_43 rfl ?_
            refine sg_V0 dX6_settle_45 cv_X6_156 hq (c_spans hq) (Nat.le_of_ble_eq_true rfl) (Nat.le_of_ble_eq_true rfl) (Nat.le_of_ble_eq_true rfl) (Nat.le_of_ble_eq_true rfl) (fun r9 M9 hp => ?_)
            obtain ⟨rfl, e9⟩ := hp
            rw [e9]
            refine sg_aload_n dX6_settle_48 rfl ?_
            refine sg_get dX6_settle_49 fl_X6_231 (by first | rfl | assumption) rfl ?_
            refine sg_icmp_lt 82 dX6_settle_52 (by decide) (fun c3 => ?_) (fun c3 => ?_)
            · refine sg_iconst 0 dX6_settle_82 (by decide) ?_
              refine sg_zreturn dX6_settle_83 rfl (by first | decide | assumption) (Nat.le_of_ble_eq_true rfl) (Nat.le_of_ble_eq_true rfl) ?_
              exact ⟨fun q => absurd c3 q.2.2.2.2.1, fun _ => ⟨rfl, rfl⟩⟩
            · refine sg_aload dX6_settle_55 rfl ?_
              refine sg_V0 dX6_settle_57 cv_X6_149 hq (c_leastGrade hl80 hst) (Nat.le_of_ble_eq_true rfl) (Nat.le_of_ble_eq_true rfl) (Nat.le_of_ble_eq_true rfl) (Nat.le_of_ble_eq_true rfl) (fun r9 M9 hp => ?_)
              obtain ⟨rfl, e9⟩ := hp
              rw [e9]
              refine sg_aload_n dX6_settle_60 rfl ?_
              refine sg_get dX6_settle_61 fl_X6_233 (by first | rfl | assumption) rfl ?_
              refine sg_icmp_lt 82 dX6_settle_64 (by decide) (fun c4 => ?_) (fun c4 => ?_)
              · refine sg_iconst 0 dX6_settle_82 (by decide) ?_
                refine sg_zreturn dX6_settle_83 rfl (by first | decide | assumption) (Nat.le_of_ble_eq_true rfl) (Nat.le_of_ble_eq_true rfl) ?_
                exact ⟨fun q => absurd c4 q.2.2.2.2.2.1, fun _ => ⟨rfl, rfl⟩⟩
              · refine sg_aload_n dX6_settle_67 rfl ?_
                refine sg_get dX6_settle_68 fl_X6_33 (by first | rfl | assumption) rfl ?_
                refine sg_aload dX6_settle_71 rfl ?_
                refine sg_S1 dX6_settle_73 cs_X6_99 (c_nameCount hq) (Nat.le_of_ble_eq_true rfl) (Nat.le_of_ble_eq_true rfl) (Nat.le_of_ble_eq_true rfl) (Nat.le_of_ble_eq_true rfl) (fun r9 M9 hp => ?_)
                obtain ⟨rfl, e9⟩ := hp
                rw [e9]
                refine sg_V1 dX6_settle_76 cv_X6_102 h8 (c_hasRoom _ rfl (by split <;> omega) hz ht) (Nat.le_of_ble_eq_true rfl) (Nat.le_of_ble_eq_true rfl) (Nat.le_of_ble_eq_true rfl) (Nat.le_of_ble_eq_true rfl) (fun r9 M9 hp => ?_)
                obtain ⟨rfl, e9⟩ := hp
                rw [e9]
                refine sg_bf_ne 84 dX6_settle_79 (by decide) (fun c5 => ?_) (fun c5 => ?_)
                · have hroom : nm i.toInt.toNat = 0 ∨ τ.1 < 200 := by
                    by_cases e : nm i.toInt.toNat = 0
                    · exact Or.inl e
                    · rw [if_neg e] at c5
                      exact Or.inr (by omega)
                  refine sg_aload_n dX6_settle_84 rfl ?_
                  refine sg_aload dX6_settle_85 rfl ?_
                  refine sg_aload_n dX6_settle_87 rfl ?_
                  refine sg_get dX6_settle_88 fl_X6_236 (by first | rfl | assumption) rfl ?_
                  refine sg_V2 dX6_settle_91 cv_X6_140 h0 (c_handOver _ hs41 hq ht hroom hX) (Nat.le_of_ble_eq_true rfl) (Nat.le_of_ble_eq_true rfl) (Nat.le_of_ble_eq_true rfl) (Nat.le_of_ble_eq_true rfl) (fun r9 M9 hp => ?_)
                  obtain ⟨rfl, x9, q9, t9⟩ := hp
                  have d9 := (x9.2 (did d.toInt.toNat) (fun e => by simp only [List.mem_cons, List.not_mem_nil, or_false] at e; omega)).trans hdq
                  have z9 := (x9.2 0 (fun e => by simp only [List.mem_cons, List.not_mem_nil, or_false] at e; omega)).trans h0
                  refine sg_aload_n dX6_settle_94 rfl ?_
                  refine sg_iconst 0 dX6_settle_95 (by decide) ?_
                  refine sg_putx dX6_settle_96 fl_X6_231 ft_X0_3 d9 (Nat.le_of_ble_eq_true rfl) (fun M2 x2 q2 => ?_)
                  have z2 := (x2.2 0 (fun e => by simp only [List.mem_cons, List.not_mem_nil, or_false] at e; omega)).trans z9
                  refine sg_aload_n dX6_settle_99 rfl ?_
                  refine sg_aload_n dX6_settle_100 rfl ?_
                  refine sg_get dX6_settle_101 fl_X6_66 (by first | rfl | assumption) rfl ?_
                  refine sg_putx dX6_settle_104 fl_X6_239 ft_X0_4 q2 (Nat.le_of_ble_eq_true rfl) (fun M3 x3 q3 => ?_)
                  refine sg_iconst 1 dX6_settle_107 (by decide) ?_
                  refine sg_zreturn dX6_settle_108 rfl (by first | decide | assumption) (Nat.le_of_ble_eq_true rfl) (Nat.le_of_ble_eq_true rfl) ?_
                  exact ⟨fun _ => ⟨rfl, (x9.mono (fun z hz => by simp only [List.mem_cons, List.not_mem_nil, or_false] at hz ⊢; omega)).tr ((x2.mono (fun z hz => by simp only [List.mem_cons, List.not_mem_nil, or_false] at hz ⊢; omega)).tr (x3.mono (fun z hz => by simp only [List.mem_cons, List.not_mem_nil, or_false] at hz ⊢; omega))), (x3.2 _ (fun e => by simp only [List.mem_cons, List.not_mem_nil, or_false] at e; omega)).trans ((x2.2 _ (fun e => by simp only [List.mem_cons, List.not_mem_nil, or_false] at e; omega)).trans q9), q3, (t9.ex x2 (fun z hz e => by simp only [List.mem_cons, List.not_mem_nil, or_false] at hz e; omega)).ex x3 (fun z hz e => by simp only [List.mem_cons, List.not_mem_nil, or_false] at hz e; omega)⟩, fun q => absurd ⟨hd, hi, c1, c2, c3, c4, c5⟩ q⟩
                · refine sg_iconst 0 dX6_settle_82 (by decide) ?_
                  refine sg_zreturn dX6_settle_83 rfl (by first | decide | assumption) (Nat.le_of_ble_eq_true rfl) (Nat.le_of_ble_eq_true rfl) ?_
                  exact ⟨fun q => absurd q.2.2.2.2.2.2 c5, fun _ => ⟨rfl, rfl⟩⟩
          · refine sg_iconst 0 dX6_settle_41 (by decide) ?_
            refine sg_zreturn dX6_settle_42 rfl (by first | decide | assumption) (Nat.le_of_ble_eq_true rfl) (Nat.le_of_ble_eq_true rfl) ?_
            exact ⟨fun q => absurd q.2.2.2.1 c2, fun _ => ⟨rfl, rfl⟩⟩
      · rw [if_neg c1]
        refine sg_if_ne 41 dX6_settle_26 (by decide) (fun cc => ?_) (fun cc => ?_)
        · refine sg_iconst 0 dX6_settle_41 (by decide) ?_
          refine sg_zreturn dX6_settle_42 rfl (by first | decide | assumption) (Nat.le_of_ble_eq_true rfl) (Nat.le_of_ble_eq_true rfl) ?_
          exact ⟨fun q => absurd q.2.2.1 c1, fun _ => ⟨rfl, rfl⟩⟩
        · exact absurd cc (by decide)
    · refine sg_V1 dX6_settle_8 cv_X6_92 h0 (c_liv_n hc hi hX hS) (Nat.le_of_ble_eq_true rfl) (Nat.le_of_ble_eq_true rfl) (Nat.le_of_ble_eq_true rfl) (Nat.le_of_ble_eq_true rfl) (fun r9 M9 hp => ?_)
      obtain ⟨rfl, e9⟩ := hp
      rw [e9]
      refine sg_astoreN dX6_settle_11 (by decide) ?_
      refine sg_aload_n dX6_settle_13 rfl ?_
      refine sg_ifnull dX6_settle_14 ?_
      refine sg_aloadN dX6_settle_17 rfl ?_
      refine sg_ifnullN 41 dX6_settle_19 (by decide) ?_
      refine sg_iconst 0 dX6_settle_41 (by decide) ?_
      refine sg_zreturn dX6_settle_42 rfl (by first | decide | assumption) (Nat.le_of_ble_eq_true rfl) (Nat.le_of_ble_eq_true rfl) ?_
      exact ⟨fun q => absurd q.2.1 hi, fun _ => ⟨rfl, rfl⟩⟩
  · refine sg_V1 dX6_settle_2 cv_X6_220 h0 (c_debtAt_n hdc hd hX) (Nat.le_of_ble_eq_true rfl) (Nat.le_of_ble_eq_true rfl) (Nat.le_of_ble_eq_true rfl) (Nat.le_of_ble_eq_true rfl) (fun r9 M9 hp => ?_)
    obtain ⟨rfl, e9⟩ := hp
    rw [e9]
    by_cases hi : sm_lvg c ln i
    · refine sg_astore_nN dX6_settle_5 (by decide) ?_
      refine sg_aload_n dX6_settle_6 rfl ?_
      refine sg_iload_n dX6_settle_7 rfl ?_
      refine sg_V1 dX6_settle_8 cv_X6_92 h0 (c_liv_y hc hi hX hS) (Nat.le_of_ble_eq_true rfl) (Nat.le_of_ble_eq_true rfl) (Nat.le_of_ble_eq_true rfl) (Nat.le_of_ble_eq_true rfl) (fun r9 M9 hp => ?_)
      obtain ⟨rfl, e9⟩ := hp
      rw [e9]
      refine sg_astore dX6_settle_11 (by decide) ?_
      refine sg_aload_nN dX6_settle_13 rfl ?_
      refine sg_ifnullN 41 dX6_settle_14 (by decide) ?_
      refine sg_iconst 0 dX6_settle_41 (by decide) ?_
      refine sg_zreturn dX6_settle_42 rfl (by first | decide | assumption) (Nat.le_of_ble_eq_true rfl) (Nat.le_of_ble_eq_true rfl) ?_
      exact ⟨fun q => absurd q.1 hd, fun _ => ⟨rfl, rfl⟩⟩
    · refine sg_astore_nN dX6_settle_5 (by decide) ?_
      refine sg_aload_n dX6_settle_6 rfl ?_
      refine sg_iload_n dX6_settle_7 rfl ?_
      refine sg_V1 dX6_settle_8 cv_X6_92 h0 (c_liv_n hc hi hX hS) (Nat.le_of_ble_eq_true rfl) (Nat.le_of_ble_eq_true rfl) (Nat.le_of_ble_eq_true rfl) (Nat.le_of_ble_eq_true rfl) (fun r9 M9 hp => ?_)
      obtain ⟨rfl, e9⟩ := hp
      rw [e9]
      refine sg_astoreN dX6_settle_11 (by decide) ?_
      refine sg_aload_nN dX6_settle_13 rfl ?_
      refine sg_ifnullN 41 dX6_settle_14 (by decide) ?_
      refine sg_iconst 0 dX6_settle_41 (by decide) ?_
      refine sg_zreturn dX6_settle_42 rfl (by first | decide | assumption) (Nat.le_of_ble_eq_true rfl) (Nat.le_of_ble_eq_true rfl) ?_
      exact ⟨fun q => absurd q.1 hd, fun _ => ⟨rfl, rfl⟩⟩
theorem sm_D.up {M M1 : sm_M} {dc p : Nat} {da : Nat → Option Nat} {did : Nat → Nat} {ws to gr sp pd : Nat → Int32} {zs : List Nat} {s a : Int32} (h : sm_D M dc da did ws to gr sp pd) (hx : sm_ex M M1 zs) (hz : ∀ k, k < dc → k ≠ p → did k ∉ zs) (hq : M1[did p]? = some (sm_o 0 [.int (ws p), .int (to p), .int (gr p), .int s, .int a])) : sm_D M1 dc da did ws to gr (va_up sp p s) (va_up pd p a) := fun k hk => by
  by_cases e : k = p
  · subst e
    rw [va_up_self, va_up_self]
    exact ⟨(h k hk).1, hq, (h k hk).2.2⟩
  · rw [va_up_ne _ _ e, va_up_ne _ _ e]
    obtain ⟨a1, s1, q1⟩ := h k hk
    exact ⟨a1, (hx.2 _ (hz k hk e)).trans s1, q1⟩
theorem lp_year {y : Int32} {Post : Option Value → sm_M → Prop} (hdc : dc ≤ 60) (hdd : ∀ j k, j < dc → k < dc → j ≠ k → did j ≠ did k)
    (hP : ∀ M1 : sm_M, sm_exS M M1 dc did [0] → sm_X M1 c dc cu it y sa da → sm_D M1 dc da did ws to gr (sm_grt sp it dc) pd → Post (some (.int y)) M1) :
    ∀ (r t : Nat) (x : Option Value) (M1 : sm_M), t + r = dc → sm_exS M M1 dc did [0] → sm_X M1 c dc cu it y sa da → sm_D M1 dc da did ws to gr (sm_grt sp it t) pd → sm_G l b D cA yX6_year cX6_year 3 (some .int) 2 0 0 Post 0 0 23 [some (.ref 0), some (.int (nI t)), x] [] M1 := by
  intro r
  induction r with
  | zero =>
    intro t x M1 ht hE hX hD
    have h0 := hX.1
    have e : t = dc := by omega
    subst e
    refine sg_iload_n dX6_year_23 rfl ?_
    refine sg_aload_n dX6_year_24 rfl ?_
    refine sg_get dX6_year_25 fl_X6_50 (by first | rfl | assumption) rfl ?_
    refine sg_icmp_ge 55 dX6_year_28 (by decide) (fun c1 => ?_) (fun c1 => ?_)
    · refine sg_aload_n dX6_year_55 rfl ?_
      refine sg_get dX6_year_56 fl_X6_66 (by first | rfl | assumption) rfl ?_
      refine sg_ireturn dX6_year_59 rfl (Nat.le_of_ble_eq_true rfl) (Nat.le_of_ble_eq_true rfl) ?_
      exact hP M1 hE hX hD
    · exact absurd (nI_le (Nat.le_refl _) (by omega)) c1
  | succ r ih =>
    intro t x M1 ht hE hX hD
    have h0 := hX.1
    obtain ⟨hda, hq, h41⟩ := hD t (by omega)
    refine sg_iload_n dX6_year_23 rfl ?_
    refine sg_aload_n dX6_year_24 rfl ?_
    refine sg_get dX6_year_25 fl_X6_50 (by first | rfl | assumption) rfl ?_
    refine sg_icmp_ge 55 dX6_year_28 (by decide) (fun c1 => ?_) (fun c1 => ?_)
    · exact absurd c1 (nI_ge (by omega) (by omega))
    · refine sg_aload_n dX6_year_31 rfl ?_
      refine sg_iload_n dX6_year_32 rfl ?_
      refine sg_V1 dX6_year_33 cv_X6_220 h0 (c_debtAt_y t rfl (by omega) hdc hda hX) (Nat.le_of_ble_eq_true rfl) (Nat.le_of_ble_eq_true rfl) (Nat.le_of_ble_eq_true rfl) (Nat.le_of_ble_eq_true rfl) (fun r9 M9 hp => ?_)
      obtain ⟨rfl, e9⟩ := hp
      rw [e9]
      refine sg_astore_n dX6_year_36 (by decide) ?_
      refine sg_aload_n dX6_year_37 rfl ?_
      refine sg_ifnull dX6_year_38 ?_
      refine sg_aload_n dX6_year_41 rfl ?_
      refine sg_aload_n dX6_year_42 rfl ?_
      refine sg_get dX6_year_43 fl_X6_63 (by first | rfl | assumption) rfl ?_
      refine sg_V1 dX6_year_46 cv_X6_242 hq (c_grow hq) (Nat.le_of_ble_eq_true rfl) (Nat.le_of_ble_eq_true rfl) (Nat.le_of_ble_eq_true rfl) (Nat.le_of_ble_eq_true rfl) (fun r9 M2 hp => ?_)
      obtain ⟨rfl, e2⟩ := hp
      have x2 : sm_ex M1 M2 [did t] := by
        rw [e2]
        exact sm_ex.set
      have q2 : M2[did t]? = some (sm_o 0 [.int (ws t), .int (to t), .int (gr t), .int (sm_grow (sp t) it), .int (pd t)]) := by
        rw [e2]
        have := sm_gs (c := sm_o 0 [.int (ws t), .int (to t), .int (gr t), .int (sm_grow (sm_grt sp it t t) it), .int (pd t)]) hq
        rw [show sm_grt sp it t t = sp t from by unfold sm_grt; rw [if_neg (by omega)]] at this ⊢
        exact this
      have D2 := hD.up x2 (fun k hk hne => sm_nin1 (hdd k t hk (by omega) hne)) q2
      rw [va_up_id, ← sm_grt_up] at D2
      refine sg_iinc _ dX6_year_49 rfl (sm_inc t) (by decide) ?_
      refine sg_goto 23 dX6_year_52 (by decide) ?_
      exact ih (t + 1) _ M2 (by omega) ⟨x2.1.trans hE.1, fun z h1 h2 => (x2.2 z (sm_nin1 (h2 t (by omega)))).trans (hE.2 z h1 h2)⟩ (hX.ex x2 (fun z hz e => by simp only [List.mem_cons, List.not_mem_nil, or_false] at hz e; omega)) D2
theorem c_year (hdc : dc ≤ 60) (hdd : ∀ j k, j < dc → k < dc → j ≠ k → did j ≠ did k) (hX : sm_X M c dc cu it yr sa da) (hD : sm_D M dc da did ws to gr sp pd) : sm_Ct l b D cA yX6_year cX6_year 3 (some .int) 2 0 0 [.ref 0] M (fun r M1 => (yr.toInt < 100 → r = some (.int (yr + 1)) ∧ sm_exS M M1 dc did [0] ∧ sm_X M1 c dc cu it (yr + 1) sa da ∧ sm_D M1 dc da did ws to gr (sm_grt sp it dc) pd) ∧ (¬ yr.toInt < 100 → r = some (.int (-1)) ∧ M1 = M)) := by
  have h0 := hX.1
  refine sm_enter (by decide +kernel) rfl (fun _ => Nat.le_of_ble_eq_true rfl) ?_
  refine sg_aload_n dX6_year_0 rfl ?_
  refine sg_get dX6_year_1 fl_X6_66 (by first | rfl | assumption) rfl ?_
  refine sg_bipush 100 dX6_year_4 (by decide) ?_
  refine sg_icmp_lt 11 dX6_year_6 (by decide) (fun c1 => ?_) (fun c1 => ?_)
  · rw [Int32.lt_iff_toInt_lt, ti_100] at c1
    refine sg_aload_n dX6_year_11 rfl ?_
    refine sg_dup dX6_year_12 rfl ?_
    refine sg_get dX6_year_13 fl_X6_66 (by first | rfl | assumption) rfl ?_
    refine sg_iconst 1 dX6_year_16 (by decide) ?_
    refine sg_iadd dX6_year_17 ?_
    refine sg_putx dX6_year_18 fl_X6_66 ft_X6_11 h0 (Nat.le_of_ble_eq_true rfl) (fun M2 x2 q2 => ?_)
    have X2 : sm_X M2 c dc cu it (yr + 1) sa da := ⟨q2, (x2.2 1 (by decide)).trans hX.2.1, (x2.2 16 (by decide)).trans hX.2.2⟩
    have D2 := hD.ex x2 (fun k hk => sm_nin1 (by have := (hD k hk).2.2; omega))
    refine sg_iconst (nI 0) dX6_year_21 (by decide) ?_
    refine sg_istore_n dX6_year_22 (by decide) ?_
    refine lp_year (M := M) (ws := ws) (to := to) (gr := gr) (sp := sp) (pd := pd) hdc hdd (fun M1 a1 a2 a3 => ⟨fun _ => ⟨rfl, a1, a2, a3⟩, fun q => absurd c1 q⟩) dc 0 _ M2 (by omega) ⟨x2.1, fun z h1 _ => x2.2 z h1⟩ X2 ?_
    rw [show sm_grt sp it 0 = sp from by funext k; unfold sm_grt; rw [if_neg (by omega)]]
    exact D2
  · rw [Int32.lt_iff_toInt_lt, ti_100] at c1
    refine sg_iconst (-1) dX6_year_9 (by decide) ?_
    refine sg_ireturn dX6_year_10 rfl (Nat.le_of_ble_eq_true rfl) (Nat.le_of_ble_eq_true rfl) ?_
    exact ⟨fun q => absurd q c1, fun _ => ⟨rfl, rfl⟩⟩
def sm_ofv (r1 r2 r3 r4 : Nat → Int32) (fame : Int32) (ln js : Nat → Nat) (fg fm : Nat → Nat → Int32) (ow nm : Nat → Int32) (k : Nat) (w : Int32) : Int32 := if w = 0 then nI (ln k) else if w = 1 then ow k else if w = 2 then nm k else if w = 3 then sm_least (fg k) 0 (ln k) else if w = 4 then sm_wv r1 r2 r3 r4 fame ln js nm k else if w = 5 then nI (ln k) / 10 else sm_bc (sm_seen (fm k) (ln k))
theorem c_of (i w : Int32) (hc : c ≤ 40) (hi : 0 ≤ i.toInt ∧ i.toInt < c) (hw : 0 ≤ w.toInt ∧ w.toInt ≤ 6) (hX : sm_X M c dc cu it yr sa da) (hS : sm_S M c sa sid ln fg fm ow nm) (hr : sm_rates M r1 r2 r3 r4 fame) (hj : ∀ k, k < c → 0 < ln k → sm_least (fg k) 0 (ln k) = nI (js k) ∧ js k < 5) : sm_Ct l b D cA yX6_of cX6_of 4 (some .int) 4 0 0 [.ref 0, .int i, .int w] M (fun r M1 => r = some (.int (sm_ofv r1 r2 r3 r4 fame ln js fg fm ow nm i.toInt.toNat w)) ∧ M1 = M) := by
  obtain ⟨hsa, hst, hl80, h41⟩ := hS _ (sm_toN hi).2
  have h0 := hX.1
  have hq := hst.1
  unfold sm_ofv
  refine sm_enter (by decide +kernel) rfl (fun _ => Nat.le_of_ble_eq_true rfl) ?_
  refine sg_aload_n dX6_of_0 rfl ?_
  refine sg_iload_n dX6_of_1 rfl ?_
  refine sg_V1 dX6_of_2 cv_X6_143 h0 (c_strandAt_y _ (sm_toN hi).1 (sm_toN hi).2 hc hsa hX) (Nat.le_of_ble_eq_true rfl) (Nat.le_of_ble_eq_true rfl) (Nat.le_of_ble_eq_true rfl) (Nat.le_of_ble_eq_true rfl) (fun r9 M9 hp => ?_)
  obtain ⟨rfl, e9⟩ := hp
  rw [e9]
  refine sg_astore_n dX6_of_5 (by decide) ?_
  refine sg_aload_n dX6_of_6 rfl ?_
  refine sg_ifnull dX6_of_7 ?_
  refine sg_iload_n dX6_of_10 rfl ?_
  refine sg_if_lt 20 dX6_of_11 (by decide) (fun c1 => ?_) (fun c1 => ?_)
  · rw [Int32.lt_iff_toInt_lt, ti_0] at c1
    exact absurd c1 (by omega)
  · clear c1
    refine sg_iload_n dX6_of_14 rfl ?_
    refine sg_bipush 6 dX6_of_15 (by decide) ?_
    refine sg_icmp_le 28 dX6_of_17 (by decide) (fun c2 => ?_) (fun c2 => ?_)
    · clear c2
      refine sg_iload_n dX6_of_28 rfl ?_
      by_cases w0 : w = 0
      · subst w0
        rw [if_pos rfl]
        refine sg_tableIn (off := 39) 68 dX6_of_29 (by decide) (by decide) (by decide +kernel) (by decide) ?_
        refine sg_aload_n dX6_of_68 rfl ?_
        refine sg_get dX6_of_69 fl_X6_96 (by first | rfl | assumption) rfl ?_
        refine sg_ireturn dX6_of_72 rfl (Nat.le_of_ble_eq_true rfl) (Nat.le_of_ble_eq_true rfl) ?_
        exact ⟨rfl, rfl⟩
      · rw [if_neg w0]
        by_cases w1 : w = 1
        · subst w1
          rw [if_pos rfl]
          refine sg_tableIn (off := 44) 73 dX6_of_29 (by decide) (by decide) (by decide +kernel) (by decide) ?_
          refine sg_aload_n dX6_of_73 rfl ?_
          refine sg_get dX6_of_74 fl_X6_105 (by first | rfl | assumption) rfl ?_
          refine sg_ireturn dX6_of_77 rfl (Nat.le_of_ble_eq_true rfl) (Nat.le_of_ble_eq_true rfl) ?_
          exact ⟨rfl, rfl⟩
        · rw [if_neg w1]
          by_cases w2 : w = 2
          · subst w2
            rw [if_pos rfl]
            refine sg_tableIn (off := 49) 78 dX6_of_29 (by decide) (by decide) (by decide +kernel) (by decide) ?_
            refine sg_aload_n dX6_of_78 rfl ?_
            refine sg_get dX6_of_79 fl_X6_112 (by first | rfl | assumption) rfl ?_
            refine sg_ireturn dX6_of_82 rfl (Nat.le_of_ble_eq_true rfl) (Nat.le_of_ble_eq_true rfl) ?_
            exact ⟨rfl, rfl⟩
          · rw [if_neg w2]
            by_cases w3 : w = 3
            · subst w3
              rw [if_pos rfl]
              refine sg_tableIn (off := 54) 83 dX6_of_29 (by decide) (by decide) (by decide +kernel) (by decide) ?_
              refine sg_aload_n dX6_of_83 rfl ?_
              refine sg_V0 dX6_of_84 cv_X6_149 hq (c_leastGrade hl80 hst) (Nat.le_of_ble_eq_true rfl) (Nat.le_of_ble_eq_true rfl) (Nat.le_of_ble_eq_true rfl) (Nat.le_of_ble_eq_true rfl) (fun r9 M9 hp => ?_)
              obtain ⟨rfl, e9⟩ := hp
              rw [e9]
              refine sg_ireturn dX6_of_87 rfl (Nat.le_of_ble_eq_true rfl) (Nat.le_of_ble_eq_true rfl) ?_
              exact ⟨rfl, rfl⟩
            · rw [if_neg w3]
              by_cases w4 : w = 4
              · subst w4
                rw [if_pos rfl]
                refine sg_tableIn (off := 59) 88 dX6_of_29 (by decide) (by decide) (by decide +kernel) (by decide) ?_
                refine sg_aload_n dX6_of_88 rfl ?_
                refine sg_aload_n dX6_of_89 rfl ?_
                refine sg_V1 dX6_of_90 cv_X6_153 h0 (c_worthOf hl80 (fun q => hj _ (sm_toN hi).2 q) hst hr hX) (Nat.le_of_ble_eq_true rfl) (Nat.le_of_ble_eq_true rfl) (Nat.le_of_ble_eq_true rfl) (Nat.le_of_ble_eq_true rfl) (fun r9 M9 hp => ?_)
                obtain ⟨rfl, e9⟩ := hp
                rw [e9]
                refine sg_ireturn dX6_of_93 rfl (Nat.le_of_ble_eq_true rfl) (Nat.le_of_ble_eq_true rfl) ?_
                exact ⟨rfl, rfl⟩
              · rw [if_neg w4]
                by_cases w5 : w = 5
                · subst w5
                  rw [if_pos rfl]
                  refine sg_tableIn (off := 65) 94 dX6_of_29 (by decide) (by decide) (by decide +kernel) (by decide) ?_
                  refine sg_aload_n dX6_of_94 rfl ?_
                  refine sg_V0 dX6_of_95 cv_X6_156 hq (c_spans hq) (Nat.le_of_ble_eq_true rfl) (Nat.le_of_ble_eq_true rfl) (Nat.le_of_ble_eq_true rfl) (Nat.le_of_ble_eq_true rfl) (fun r9 M9 hp => ?_)
                  obtain ⟨rfl, e9⟩ := hp
                  rw [e9]
                  refine sg_ireturn dX6_of_98 rfl (Nat.le_of_ble_eq_true rfl) (Nat.le_of_ble_eq_true rfl) ?_
                  exact ⟨rfl, rfl⟩
                · rw [if_neg w5]
                  have h6 : w = 6 := by
                    (try simp only [Int32.lt_iff_toInt_lt, Int32.le_iff_toInt_le, ← Int32.toInt_inj, ti_m2, ti_m1, ti_0, ti_1, ti_2, ti_3, ti_4, ti_5, ti_6, ti_7, ti_8, ti_9, ti_10, ti_11, ti_12, ti_16, ti_20, ti_25, ti_31, ti_40, ti_50, ti_60, ti_61, ti_63, ti_80, ti_99, ti_100, ti_200, ti_300, ti_500, ti_800, ti_1000, ti_3200, ti_10000, ti_1000000] at *)
                    omega
                  subst h6
                  refine sg_tableOut 99 dX6_of_29 ((by decide)) (by decide) ?_
                  refine sg_aload_n dX6_of_99 rfl ?_
                  refine sg_V0 dX6_of_100 cv_X6_159 hq (c_makerCount hl80 hst) (Nat.le_of_ble_eq_true rfl) (Nat.le_of_ble_eq_true rfl) (Nat.le_of_ble_eq_true rfl) (Nat.le_of_ble_eq_true rfl) (fun r9 M9 hp => ?_)
                  obtain ⟨rfl, e9⟩ := hp
                  rw [e9]
                  refine sg_ireturn dX6_of_103 rfl (Nat.le_of_ble_eq_true rfl) (Nat.le_of_ble_eq_true rfl) ?_
                  exact ⟨rfl, rfl⟩
    · rw [Int32.le_iff_toInt_le, ti_6] at c2
      exact absurd hw.2 c2
end SM57
