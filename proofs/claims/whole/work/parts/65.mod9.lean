/-! the reference: set, heap, owe, debt, year, count, settle -/
theorem sm_Rd.owe {I I1 : Nat → Int32} {A A1 : Nat → Nat → Int32} {dc : Nat} {ws to gr sp pd : Nat → Int32} {o t s g : Int32} (h : sm_Rd I A dc ws to gr sp pd) (e6 : I1 6 = nI (dc + 1)) (e33 : A1 33 = upd (upd (upd (upd (upd (A 33) (5 * dc) o) (5 * dc + 1) t) (5 * dc + 2) s) (5 * dc + 3) g) (5 * dc + 4) (-1)) : sm_Rd I1 A1 (dc + 1) (va_up ws dc o) (va_up to dc t) (va_up gr dc g) (va_up sp dc s) (va_up pd dc (-1)) := by
  refine ⟨e6, fun d hd => ?_⟩
  rw [e33]
  unfold upd
  by_cases e : d = dc
  · subst e
    rw [va_up_self, va_up_self, va_up_self, va_up_self, va_up_self]
    refine ⟨?_, ?_, fun _ => ?_, ?_, ?_⟩
    · rw [if_neg (by omega), if_neg (by omega), if_neg (by omega), if_neg (by omega), if_pos rfl]
    · rw [if_neg (by omega), if_neg (by omega), if_neg (by omega), if_pos rfl]
    · rw [if_neg (by omega), if_neg (by omega), if_pos rfl]
    · rw [if_neg (by omega), if_pos rfl]
    · rw [if_pos rfl]
  · obtain ⟨b0, b1, b2, b3, b4⟩ := h.2 d (by omega)
    rw [va_up_ne _ _ e, va_up_ne _ _ e, va_up_ne _ _ e, va_up_ne _ _ e, va_up_ne _ _ e]
    refine ⟨?_, ?_, fun q => ?_, ?_, ?_⟩
    · rw [if_neg (by omega), if_neg (by omega), if_neg (by omega), if_neg (by omega), if_neg (by omega)]
      exact b0
    · rw [if_neg (by omega), if_neg (by omega), if_neg (by omega), if_neg (by omega), if_neg (by omega)]
      exact b1
    · rw [if_neg (by omega), if_neg (by omega), if_neg (by omega), if_neg (by omega), if_neg (by omega)]
      exact b2 q
    · rw [if_neg (by omega), if_neg (by omega), if_neg (by omega), if_neg (by omega), if_neg (by omega)]
      exact b3
    · rw [if_neg (by omega), if_neg (by omega), if_neg (by omega), if_neg (by omega), if_neg (by omega)]
      exact b4
/-- a debt's spans, or its year of payment, written anew -/
theorem sm_Rd.sp {I I1 : Nat → Int32} {A A1 : Nat → Nat → Int32} {dc t : Nat} {ws to gr sp pd : Nat → Int32} {s : Int32} (h : sm_Rd I A dc ws to gr sp pd) (e6 : I1 6 = I 6) (e33 : A1 33 = upd (A 33) (5 * t + 2) s) : sm_Rd I1 A1 dc ws to gr (va_up sp t s) pd := by
  refine ⟨e6.trans h.1, fun d hd => ?_⟩
  obtain ⟨b0, b1, b2, b3, b4⟩ := h.2 d hd
  rw [e33]
  unfold upd
  refine ⟨by rw [if_neg (by omega)]; exact b0, by rw [if_neg (by omega)]; exact b1, fun q => ?_, by rw [if_neg (by omega)]; exact b3, by rw [if_neg (by omega)]; exact b4⟩
  by_cases e : d = t
  · subst e
    rw [va_up_self, if_pos rfl]
  · rw [va_up_ne _ _ e, if_neg (by omega)]
    exact b2 q
theorem sm_Rd.pd {I I1 : Nat → Int32} {A A1 : Nat → Nat → Int32} {dc t : Nat} {ws to gr sp pd : Nat → Int32} {s : Int32} (z : Int32) (hs : ¬ s = -1) (h : sm_Rd I A dc ws to gr sp pd) (e6 : I1 6 = I 6) (e33 : A1 33 = upd (A 33) (5 * t + 4) s) : sm_Rd I1 A1 dc ws to gr (va_up sp t z) (va_up pd t s) := by
  refine ⟨e6.trans h.1, fun d hd => ?_⟩
  obtain ⟨b0, b1, b2, b3, b4⟩ := h.2 d hd
  rw [e33]
  unfold upd
  refine ⟨by rw [if_neg (by omega)]; exact b0, by rw [if_neg (by omega)]; exact b1, fun q => ?_, by rw [if_neg (by omega)]; exact b3, ?_⟩
  · by_cases e : d = t
    · subst e
      rw [va_up_self] at q
      exact absurd q hs
    · rw [va_up_ne _ _ e] at q ⊢
      rw [if_neg (by omega)]
      exact b2 q
  · by_cases e : d = t
    · subst e
      rw [va_up_self, if_pos rfl]
    · rw [va_up_ne _ _ e, if_neg (by omega)]
      exact b4
theorem sm_Rd.ext {I : Nat → Int32} {A : Nat → Nat → Int32} {dc : Nat} {ws to gr sp sp2 pd : Nat → Int32} (h : sm_Rd I A dc ws to gr sp pd) (e : ∀ d, d < dc → pd d = -1 → sp d = sp2 d) : sm_Rd I A dc ws to gr sp2 pd := ⟨h.1, fun d hd => by
  obtain ⟨b0, b1, b2, b3, b4⟩ := h.2 d hd
  exact ⟨b0, b1, fun q => (b2 q).trans (e d hd q), b3, b4⟩⟩
theorem sm_5 (d j : Nat) : (5 : Int32) * nI d + nI j = nI (5 * d + j) := by
  rw [show (5 : Int32) = nI 5 from by decide, pk_mul, nI_add]
theorem sm_5z (d : Nat) : (5 : Int32) * nI d = nI (5 * d) := by
  rw [show (5 : Int32) = nI 5 from by decide, pk_mul]
def sm_sln (ln : Nat → Nat) : Nat → Nat
  | 0 => 0
  | k + 1 => sm_sln ln k + ln k
section SM65
variable {l : Launch} {b : Nat} {D : va_G} {cA : Nat → ClassId} {M : sm_M}
variable {th : Int32} {c dc : Nat} {ln hb : Nat → Nat} {fg fm : Nat → Nat → Int32} {ow nm r1 r2 r3 r4 ws to gr sp pd : Nat → Int32} {fame cu it yr : Int32} {τ : sm_T5}
theorem m_set0 (g v : Int32) (hW : sm_W M th c ln fg fm ow nm r1 r2 r3 fame cu it yr τ dc ws to gr sp pd hb) : sm_Ct l b D cA yX7_set cX7_set 5 (some .int) 1 0 0 [.ref 23, .int 0, .int g, .int v] M (fun r M1 => sm_ex M M1 sm_ml ∧ (((0 ≤ g.toInt ∧ g.toInt < 5) ∧ 1 ≤ v.toInt ∧ v.toInt ≤ 100) → r = some (.int (r1 g.toInt.toNat)) ∧ sm_W M1 0 c ln fg fm ow nm (upd r1 g.toInt.toNat v) r2 r3 fame cu it yr τ dc ws to gr sp pd hb) ∧ (¬ ((0 ≤ g.toInt ∧ g.toInt < 5) ∧ 1 ≤ v.toInt ∧ v.toInt ≤ 100) → r = some (.int (-1)) ∧ sm_W M1 0 c ln fg fm ow nm r1 r2 r3 fame cu it yr τ dc ws to gr sp pd hb)) := by
  obtain ⟨I, A, hm, h7, ha, hbb, ht, hdd, hh⟩ := id hW
  obtain ⟨h23, h24, h25, h26, h27, h28, h29, h30, h31, h32, h33, h34, h35, h36, h37, h38, h39⟩ := id hm
  refine sm_enter (by decide +kernel) rfl (fun _ => Nat.le_of_ble_eq_true rfl) ?_
  refine sg_aload_n dX7_set_0 rfl ?_
  refine sg_iconst 0 dX7_set_1 (by decide) ?_
  refine sg_putx dX7_set_2 fl_X7_68 ft_X7_18 h23 (Nat.le_of_ble_eq_true rfl) (fun M2 x2 q2 => ?_)
  have W2 : sm_W M2 0 c ln fg fm ow nm r1 r2 r3 fame cu it yr τ dc ws to gr sp pd hb := ⟨upd I 7 0, A, hm.o x2 q2, rfl, ha, hbb, ht, hdd, hh⟩
  have X2 : sm_ex M M2 sm_ml := x2.mono (by decide)
  clear q2 x2 hh hdd ht hbb ha h7 hm h23 h24 h25 h26 h27 h28 h29 h30 h31 h32 h33 h34 h35 h36 h37 h38 h39
  obtain ⟨I, A, hm, h7, ha, hbb, ht, hdd, hh⟩ := id W2
  obtain ⟨h23, h24, h25, h26, h27, h28, h29, h30, h31, h32, h33, h34, h35, h36, h37, h38, h39⟩ := id hm
  refine sg_iload_n dX7_set_5 rfl ?_
  refine sg_iconst 0 dX7_set_6 (by decide) ?_
  refine sg_iconst 5 dX7_set_7 (by decide) ?_
  refine sg_S3 dX7_set_8 cs_X7_74 (c_in _ _ _) (Nat.le_of_ble_eq_true rfl) (Nat.le_of_ble_eq_true rfl) (Nat.le_of_ble_eq_true rfl) (Nat.le_of_ble_eq_true rfl) (fun r M1 hp => ?_)
  obtain ⟨rfl, e9⟩ := hp; rw [e9]
  refine sg_bf_eq 28 dX7_set_11 (by decide) (fun c0 => ?_) (fun c0 => ?_)
  · exact absurd (by decide +kernel) c0
  · clear c0
    refine sg_iload_n dX7_set_14 rfl ?_
    refine sg_iconst 3 dX7_set_15 (by decide) ?_
    refine sg_icmp_ge 30 dX7_set_16 (by decide) (fun c0 => ?_) (fun c0 => ?_)
    · exact absurd c0 (by decide +kernel)
    · clear c0
      refine sg_iload_n dX7_set_19 rfl ?_
      refine sg_iconst 0 dX7_set_20 (by decide) ?_
      refine sg_iconst 4 dX7_set_21 (by decide) ?_
      refine sg_S3 dX7_set_22 cs_X7_74 (c_in _ _ _) (Nat.le_of_ble_eq_true rfl) (Nat.le_of_ble_eq_true rfl) (Nat.le_of_ble_eq_true rfl) (Nat.le_of_ble_eq_true rfl) (fun r M1 hp => ?_)
      obtain ⟨rfl, e9⟩ := hp; rw [e9]
      refine sg_bf_ne 30 dX7_set_25 (by decide) (fun c1 => ?_) (fun c1 => ?_)
      · rw [ti_0, ti_4] at c1
        have c1' : 0 ≤ g.toInt ∧ g.toInt < (5 : Nat) := by omega
        have hg := (sm_toN c1').2
        refine sg_iload_n dX7_set_30 rfl ?_
        refine sg_tableIn (off := 33) 64 dX7_set_31 (by decide) (by decide) (by decide +kernel) (by decide) ?_
        refine sg_iload_n dX7_set_64 rfl ?_
        refine sg_iconst 1 dX7_set_65 (by decide) ?_
        refine sg_bipush 100 dX7_set_66 (by decide) ?_
        refine sg_S3 dX7_set_68 cs_X7_74 (c_in _ _ _) (Nat.le_of_ble_eq_true rfl) (Nat.le_of_ble_eq_true rfl) (Nat.le_of_ble_eq_true rfl) (Nat.le_of_ble_eq_true rfl) (fun r M1 hp => ?_)
        obtain ⟨rfl, e9⟩ := hp; rw [e9]
        refine sg_bf_ne 76 dX7_set_71 (by decide) (fun c2 => ?_) (fun c2 => ?_)
        · rw [ti_1, ti_100] at c2
          refine sg_aload_n dX7_set_76 rfl ?_
          refine sg_get dX7_set_77 fl_X7_25 (by first | rfl | assumption) rfl ?_
          refine sg_iload_n dX7_set_80 rfl ?_
          refine sg_ald (g.toInt.toNat) dX7_set_81 (by first | rfl | assumption) ((sm_toN c1').1) (hg) (by decide) ?_
          refine sg_istore dX7_set_82 (by decide) ?_
          refine sg_aload_n dX7_set_84 rfl ?_
          refine sg_get dX7_set_85 fl_X7_25 (by first | rfl | assumption) rfl ?_
          refine sg_iload_n dX7_set_88 rfl ?_
          refine sg_iload_n dX7_set_89 rfl ?_
          refine sg_astx g.toInt.toNat dX7_set_90 h29 (sm_toN c1').1 hg (by decide) (fun M3 x3 g3 => ?_)
          refine sg_iload dX7_set_91 rfl ?_
          refine sg_ireturn dX7_set_93 rfl (Nat.le_of_ble_eq_true rfl) (Nat.le_of_ble_eq_true rfl) ?_
          exact ⟨X2.tr (x3.mono (by decide)), fun _ => ⟨by rw [(hbb.2.2.2.2 _ hg).1], I, _, hm.u29 x3 g3, h7, ha, ⟨hbb.1, hbb.2.1, hbb.2.2.1, hbb.2.2.2.1, fun j hj => ⟨by show upd (A 29) _ v j = upd r1 _ v j; unfold upd; rw [(hbb.2.2.2.2 j hj).1], (hbb.2.2.2.2 j hj).2⟩⟩, ht, hdd, hh⟩, fun q => absurd ⟨by omega, c2⟩ q⟩
        · rw [ti_1, ti_100] at c2
          refine sg_iconst (-1) dX7_set_74 (by decide) ?_
          refine sg_ireturn dX7_set_75 rfl (Nat.le_of_ble_eq_true rfl) (Nat.le_of_ble_eq_true rfl) ?_
          exact ⟨X2, fun q => absurd q.2 c2, fun _ => ⟨rfl, W2⟩⟩
      · rw [ti_0, ti_4] at c1
        refine sg_iconst (-1) dX7_set_28 (by decide) ?_
        refine sg_ireturn dX7_set_29 rfl (Nat.le_of_ble_eq_true rfl) (Nat.le_of_ble_eq_true rfl) ?_
        exact ⟨X2, fun q => absurd q.1 (by omega), fun _ => ⟨rfl, W2⟩⟩
theorem m_set1 (g v : Int32) (hW : sm_W M th c ln fg fm ow nm r1 r2 r3 fame cu it yr τ dc ws to gr sp pd hb) : sm_Ct l b D cA yX7_set cX7_set 5 (some .int) 1 0 0 [.ref 23, .int 1, .int g, .int v] M (fun r M1 => sm_ex M M1 sm_ml ∧ (((0 ≤ g.toInt ∧ g.toInt < 5) ∧ 0 ≤ v.toInt ∧ v.toInt ≤ 500) → r = some (.int (r2 g.toInt.toNat)) ∧ sm_W M1 0 c ln fg fm ow nm r1 (upd r2 g.toInt.toNat v) r3 fame cu it yr τ dc ws to gr sp pd hb) ∧ (¬ ((0 ≤ g.toInt ∧ g.toInt < 5) ∧ 0 ≤ v.toInt ∧ v.toInt ≤ 500) → r = some (.int (-1)) ∧ sm_W M1 0 c ln fg fm ow nm r1 r2 r3 fame cu it yr τ dc ws to gr sp pd hb)) := by
  obtain ⟨I, A, hm, h7, ha, hbb, ht, hdd, hh⟩ := id hW
  obtain ⟨h23, h24, h25, h26, h27, h28, h29, h30, h31, h32, h33, h34, h35, h36, h37, h38, h39⟩ := id hm
  refine sm_enter (by decide +kernel) rfl (fun _ => Nat.le_of_ble_eq_true rfl) ?_
  refine sg_aload_n dX7_set_0 rfl ?_
  refine sg_iconst 0 dX7_set_1 (by decide) ?_
  refine sg_putx dX7_set_2 fl_X7_68 ft_X7_18 h23 (Nat.le_of_ble_eq_true rfl) (fun M2 x2 q2 => ?_)
  have W2 : sm_W M2 0 c ln fg fm ow nm r1 r2 r3 fame cu it yr τ dc ws to gr sp pd hb := ⟨upd I 7 0, A, hm.o x2 q2, rfl, ha, hbb, ht, hdd, hh⟩
  have X2 : sm_ex M M2 sm_ml := x2.mono (by decide)
  clear q2 x2 hh hdd ht hbb ha h7 hm h23 h24 h25 h26 h27 h28 h29 h30 h31 h32 h33 h34 h35 h36 h37 h38 h39
  obtain ⟨I, A, hm, h7, ha, hbb, ht, hdd, hh⟩ := id W2
  obtain ⟨h23, h24, h25, h26, h27, h28, h29, h30, h31, h32, h33, h34, h35, h36, h37, h38, h39⟩ := id hm
  refine sg_iload_n dX7_set_5 rfl ?_
  refine sg_iconst 0 dX7_set_6 (by decide) ?_
  refine sg_iconst 5 dX7_set_7 (by decide) ?_
  refine sg_S3 dX7_set_8 cs_X7_74 (c_in _ _ _) (Nat.le_of_ble_eq_true rfl) (Nat.le_of_ble_eq_true rfl) (Nat.le_of_ble_eq_true rfl) (Nat.le_of_ble_eq_true rfl) (fun r M1 hp => ?_)
  obtain ⟨rfl, e9⟩ := hp; rw [e9]
  refine sg_bf_eq 28 dX7_set_11 (by decide) (fun c0 => ?_) (fun c0 => ?_)
  · exact absurd (by decide +kernel) c0
  · clear c0
    refine sg_iload_n dX7_set_14 rfl ?_
    refine sg_iconst 3 dX7_set_15 (by decide) ?_
    refine sg_icmp_ge 30 dX7_set_16 (by decide) (fun c0 => ?_) (fun c0 => ?_)
    · exact absurd c0 (by decide +kernel)
    · clear c0
      refine sg_iload_n dX7_set_19 rfl ?_
      refine sg_iconst 0 dX7_set_20 (by decide) ?_
      refine sg_iconst 4 dX7_set_21 (by decide) ?_
      refine sg_S3 dX7_set_22 cs_X7_74 (c_in _ _ _) (Nat.le_of_ble_eq_true rfl) (Nat.le_of_ble_eq_true rfl) (Nat.le_of_ble_eq_true rfl) (Nat.le_of_ble_eq_true rfl) (fun r M1 hp => ?_)
      obtain ⟨rfl, e9⟩ := hp; rw [e9]
      refine sg_bf_ne 30 dX7_set_25 (by decide) (fun c1 => ?_) (fun c1 => ?_)
      · rw [ti_0, ti_4] at c1
        have c1' : 0 ≤ g.toInt ∧ g.toInt < (5 : Nat) := by omega
        have hg := (sm_toN c1').2
        refine sg_iload_n dX7_set_30 rfl ?_
        refine sg_tableIn (off := 63) 94 dX7_set_31 (by decide) (by decide) (by decide +kernel) (by decide) ?_
        refine sg_iload_n dX7_set_94 rfl ?_
        refine sg_iconst 0 dX7_set_95 (by decide) ?_
        refine sg_sipush 500 dX7_set_96 (by decide) ?_
        refine sg_S3 dX7_set_99 cs_X7_74 (c_in _ _ _) (Nat.le_of_ble_eq_true rfl) (Nat.le_of_ble_eq_true rfl) (Nat.le_of_ble_eq_true rfl) (Nat.le_of_ble_eq_true rfl) (fun r M1 hp => ?_)
        obtain ⟨rfl, e9⟩ := hp; rw [e9]
        refine sg_bf_ne 107 dX7_set_102 (by decide) (fun c2 => ?_) (fun c2 => ?_)
        · rw [ti_0, ti_500] at c2
          refine sg_aload_n dX7_set_107 rfl ?_
          refine sg_get dX7_set_108 fl_X7_28 (by first | rfl | assumption) rfl ?_
          refine sg_iload_n dX7_set_111 rfl ?_
          refine sg_ald (g.toInt.toNat) dX7_set_112 (by first | rfl | assumption) ((sm_toN c1').1) (hg) (by decide) ?_
          refine sg_istore dX7_set_113 (by decide) ?_
          refine sg_aload_n dX7_set_115 rfl ?_
          refine sg_get dX7_set_116 fl_X7_28 (by first | rfl | assumption) rfl ?_
          refine sg_iload_n dX7_set_119 rfl ?_
          refine sg_iload_n dX7_set_120 rfl ?_
          refine sg_astx g.toInt.toNat dX7_set_121 h30 (sm_toN c1').1 hg (by decide) (fun M3 x3 g3 => ?_)
          refine sg_iload dX7_set_122 rfl ?_
          refine sg_ireturn dX7_set_124 rfl (Nat.le_of_ble_eq_true rfl) (Nat.le_of_ble_eq_true rfl) ?_
          exact ⟨X2.tr (x3.mono (by decide)), fun _ => ⟨by rw [(hbb.2.2.2.2 _ hg).2.1], I, _, hm.u30 x3 g3, h7, ha, ⟨hbb.1, hbb.2.1, hbb.2.2.1, hbb.2.2.2.1, fun j hj => ⟨(hbb.2.2.2.2 j hj).1, by show upd (A 30) _ v j = upd r2 _ v j; unfold upd; rw [(hbb.2.2.2.2 j hj).2.1], (hbb.2.2.2.2 j hj).2.2⟩⟩, ht, hdd, hh⟩, fun q => absurd ⟨by omega, c2⟩ q⟩
        · rw [ti_0, ti_500] at c2
          refine sg_iconst (-1) dX7_set_105 (by decide) ?_
          refine sg_ireturn dX7_set_106 rfl (Nat.le_of_ble_eq_true rfl) (Nat.le_of_ble_eq_true rfl) ?_
          exact ⟨X2, fun q => absurd q.2 c2, fun _ => ⟨rfl, W2⟩⟩
      · rw [ti_0, ti_4] at c1
        refine sg_iconst (-1) dX7_set_28 (by decide) ?_
        refine sg_ireturn dX7_set_29 rfl (Nat.le_of_ble_eq_true rfl) (Nat.le_of_ble_eq_true rfl) ?_
        exact ⟨X2, fun q => absurd q.1 (by omega), fun _ => ⟨rfl, W2⟩⟩
theorem m_set2 (g v : Int32) (hW : sm_W M th c ln fg fm ow nm r1 r2 r3 fame cu it yr τ dc ws to gr sp pd hb) : sm_Ct l b D cA yX7_set cX7_set 5 (some .int) 1 0 0 [.ref 23, .int 2, .int g, .int v] M (fun r M1 => sm_ex M M1 sm_ml ∧ (((0 ≤ g.toInt ∧ g.toInt < 5) ∧ 1 ≤ v.toInt ∧ v.toInt ≤ 1000) → r = some (.int (r3 g.toInt.toNat)) ∧ sm_W M1 0 c ln fg fm ow nm r1 r2 (upd r3 g.toInt.toNat v) fame cu it yr τ dc ws to gr sp pd hb) ∧ (¬ ((0 ≤ g.toInt ∧ g.toInt < 5) ∧ 1 ≤ v.toInt ∧ v.toInt ≤ 1000) → r = some (.int (-1)) ∧ sm_W M1 0 c ln fg fm ow nm r1 r2 r3 fame cu it yr τ dc ws to gr sp pd hb)) := by
  obtain ⟨I, A, hm, h7, ha, hbb, ht, hdd, hh⟩ := id hW
  obtain ⟨h23, h24, h25, h26, h27, h28, h29, h30, h31, h32, h33, h34, h35, h36, h37, h38, h39⟩ := id hm
  refine sm_enter (by decide +kernel) rfl (fun _ => Nat.le_of_ble_eq_true rfl) ?_
  refine sg_aload_n dX7_set_0 rfl ?_
  refine sg_iconst 0 dX7_set_1 (by decide) ?_
  refine sg_putx dX7_set_2 fl_X7_68 ft_X7_18 h23 (Nat.le_of_ble_eq_true rfl) (fun M2 x2 q2 => ?_)
  have W2 : sm_W M2 0 c ln fg fm ow nm r1 r2 r3 fame cu it yr τ dc ws to gr sp pd hb := ⟨upd I 7 0, A, hm.o x2 q2, rfl, ha, hbb, ht, hdd, hh⟩
  have X2 : sm_ex M M2 sm_ml := x2.mono (by decide)
  clear q2 x2 hh hdd ht hbb ha h7 hm h23 h24 h25 h26 h27 h28 h29 h30 h31 h32 h33 h34 h35 h36 h37 h38 h39
  obtain ⟨I, A, hm, h7, ha, hbb, ht, hdd, hh⟩ := id W2
  obtain ⟨h23, h24, h25, h26, h27, h28, h29, h30, h31, h32, h33, h34, h35, h36, h37, h38, h39⟩ := id hm
  refine sg_iload_n dX7_set_5 rfl ?_
  refine sg_iconst 0 dX7_set_6 (by decide) ?_
  refine sg_iconst 5 dX7_set_7 (by decide) ?_
  refine sg_S3 dX7_set_8 cs_X7_74 (c_in _ _ _) (Nat.le_of_ble_eq_true rfl) (Nat.le_of_ble_eq_true rfl) (Nat.le_of_ble_eq_true rfl) (Nat.le_of_ble_eq_true rfl) (fun r M1 hp => ?_)
  obtain ⟨rfl, e9⟩ := hp; rw [e9]
  refine sg_bf_eq 28 dX7_set_11 (by decide) (fun c0 => ?_) (fun c0 => ?_)
  · exact absurd (by decide +kernel) c0
  · clear c0
    refine sg_iload_n dX7_set_14 rfl ?_
    refine sg_iconst 3 dX7_set_15 (by decide) ?_
    refine sg_icmp_ge 30 dX7_set_16 (by decide) (fun c0 => ?_) (fun c0 => ?_)
    · exact absurd c0 (by decide +kernel)
    · clear c0
      refine sg_iload_n dX7_set_19 rfl ?_
      refine sg_iconst 0 dX7_set_20 (by decide) ?_
      refine sg_iconst 4 dX7_set_21 (by decide) ?_
      refine sg_S3 dX7_set_22 cs_X7_74 (c_in _ _ _) (Nat.le_of_ble_eq_true rfl) (Nat.le_of_ble_eq_true rfl) (Nat.le_of_ble_eq_true rfl) (Nat.le_of_ble_eq_true rfl) (fun r M1 hp => ?_)
      obtain ⟨rfl, e9⟩ := hp; rw [e9]
      refine sg_bf_ne 30 dX7_set_25 (by decide) (fun c1 => ?_) (fun c1 => ?_)
      · rw [ti_0, ti_4] at c1
        have c1' : 0 ≤ g.toInt ∧ g.toInt < (5 : Nat) := by omega
        have hg := (sm_toN c1').2
        refine sg_iload_n dX7_set_30 rfl ?_
        refine sg_tableIn (off := 94) 125 dX7_set_31 (by decide) (by decide) (by decide +kernel) (by decide) ?_
        refine sg_iload_n dX7_set_125 rfl ?_
        refine sg_iconst 1 dX7_set_126 (by decide) ?_
        refine sg_sipush 1000 dX7_set_127 (by decide) ?_
        refine sg_S3 dX7_set_130 cs_X7_74 (c_in _ _ _) (Nat.le_of_ble_eq_true rfl) (Nat.le_of_ble_eq_true rfl) (Nat.le_of_ble_eq_true rfl) (Nat.le_of_ble_eq_true rfl) (fun r M1 hp => ?_)
        obtain ⟨rfl, e9⟩ := hp; rw [e9]
        refine sg_bf_ne 138 dX7_set_133 (by decide) (fun c2 => ?_) (fun c2 => ?_)
        · rw [ti_1, ti_1000] at c2
          refine sg_aload_n dX7_set_138 rfl ?_
          refine sg_get dX7_set_139 fl_X7_31 (by first | rfl | assumption) rfl ?_
          refine sg_iload_n dX7_set_142 rfl ?_
          refine sg_ald (g.toInt.toNat) dX7_set_143 (by first | rfl | assumption) ((sm_toN c1').1) (hg) (by decide) ?_
          refine sg_istore dX7_set_144 (by decide) ?_
          refine sg_aload_n dX7_set_146 rfl ?_
          refine sg_get dX7_set_147 fl_X7_31 (by first | rfl | assumption) rfl ?_
          refine sg_iload_n dX7_set_150 rfl ?_
          refine sg_iload_n dX7_set_151 rfl ?_
          refine sg_astx g.toInt.toNat dX7_set_152 h31 (sm_toN c1').1 hg (by decide) (fun M3 x3 g3 => ?_)
          refine sg_iload dX7_set_153 rfl ?_
          refine sg_ireturn dX7_set_155 rfl (Nat.le_of_ble_eq_true rfl) (Nat.le_of_ble_eq_true rfl) ?_
          exact ⟨X2.tr (x3.mono (by decide)), fun _ => ⟨by rw [(hbb.2.2.2.2 _ hg).2.2], I, _, hm.u31 x3 g3, h7, ha, ⟨hbb.1, hbb.2.1, hbb.2.2.1, hbb.2.2.2.1, fun j hj => ⟨(hbb.2.2.2.2 j hj).1, (hbb.2.2.2.2 j hj).2.1, by show upd (A 31) _ v j = upd r3 _ v j; unfold upd; rw [(hbb.2.2.2.2 j hj).2.2]⟩⟩, ht, hdd, hh⟩, fun q => absurd ⟨by omega, c2⟩ q⟩
        · rw [ti_1, ti_1000] at c2
          refine sg_iconst (-1) dX7_set_136 (by decide) ?_
          refine sg_ireturn dX7_set_137 rfl (Nat.le_of_ble_eq_true rfl) (Nat.le_of_ble_eq_true rfl) ?_
          exact ⟨X2, fun q => absurd q.2 c2, fun _ => ⟨rfl, W2⟩⟩
      · rw [ti_0, ti_4] at c1
        refine sg_iconst (-1) dX7_set_28 (by decide) ?_
        refine sg_ireturn dX7_set_29 rfl (Nat.le_of_ble_eq_true rfl) (Nat.le_of_ble_eq_true rfl) ?_
        exact ⟨X2, fun q => absurd q.1 (by omega), fun _ => ⟨rfl, W2⟩⟩
theorem m_set3 (g v : Int32) (hW : sm_W M th c ln fg fm ow nm r1 r2 r3 fame cu it yr τ dc ws to gr sp pd hb) : sm_Ct l b D cA yX7_set cX7_set 5 (some .int) 1 0 0 [.ref 23, .int 3, .int g, .int v] M (fun r M1 => sm_ex M M1 sm_ml ∧ ((0 ≤ v.toInt ∧ v.toInt ≤ 500) → r = some (.int fame) ∧ sm_W M1 0 c ln fg fm ow nm r1 r2 r3 (v) cu it yr τ dc ws to gr sp pd hb) ∧ (¬ (0 ≤ v.toInt ∧ v.toInt ≤ 500) → r = some (.int (-1)) ∧ sm_W M1 0 c ln fg fm ow nm r1 r2 r3 fame cu it yr τ dc ws to gr sp pd hb)) := by
  obtain ⟨I, A, hm, h7, ha, hbb, ht, hdd, hh⟩ := id hW
  obtain ⟨h23, h24, h25, h26, h27, h28, h29, h30, h31, h32, h33, h34, h35, h36, h37, h38, h39⟩ := id hm
  refine sm_enter (by decide +kernel) rfl (fun _ => Nat.le_of_ble_eq_true rfl) ?_
  refine sg_aload_n dX7_set_0 rfl ?_
  refine sg_iconst 0 dX7_set_1 (by decide) ?_
  refine sg_putx dX7_set_2 fl_X7_68 ft_X7_18 h23 (Nat.le_of_ble_eq_true rfl) (fun M2 x2 q2 => ?_)
  have W2 : sm_W M2 0 c ln fg fm ow nm r1 r2 r3 fame cu it yr τ dc ws to gr sp pd hb := ⟨upd I 7 0, A, hm.o x2 q2, rfl, ha, hbb, ht, hdd, hh⟩
  have X2 : sm_ex M M2 sm_ml := x2.mono (by decide)
  clear q2 x2 hh hdd ht hbb ha h7 hm h23 h24 h25 h26 h27 h28 h29 h30 h31 h32 h33 h34 h35 h36 h37 h38 h39
  obtain ⟨I, A, hm, h7, ha, hbb, ht, hdd, hh⟩ := id W2
  obtain ⟨h23, h24, h25, h26, h27, h28, h29, h30, h31, h32, h33, h34, h35, h36, h37, h38, h39⟩ := id hm
  refine sg_iload_n dX7_set_5 rfl ?_
  refine sg_iconst 0 dX7_set_6 (by decide) ?_
  refine sg_iconst 5 dX7_set_7 (by decide) ?_
  refine sg_S3 dX7_set_8 cs_X7_74 (c_in _ _ _) (Nat.le_of_ble_eq_true rfl) (Nat.le_of_ble_eq_true rfl) (Nat.le_of_ble_eq_true rfl) (Nat.le_of_ble_eq_true rfl) (fun r M1 hp => ?_)
  obtain ⟨rfl, e9⟩ := hp; rw [e9]
  refine sg_bf_eq 28 dX7_set_11 (by decide) (fun c0 => ?_) (fun c0 => ?_)
  · exact absurd (by decide +kernel) c0
  · clear c0
    refine sg_iload_n dX7_set_14 rfl ?_
    refine sg_iconst 3 dX7_set_15 (by decide) ?_
    refine sg_icmp_ge 30 dX7_set_16 (by decide) (fun c0 => ?_) (fun c0 => ?_)
    · clear c0
      refine sg_iload_n dX7_set_30 rfl ?_
      refine sg_tableIn (off := 125) 156 dX7_set_31 (by decide) (by decide) (by decide +kernel) (by decide) ?_
      refine sg_iload_n dX7_set_156 rfl ?_
      refine sg_iconst 0 dX7_set_157 (by decide) ?_
      refine sg_sipush 500 dX7_set_158 (by decide) ?_
      refine sg_S3 dX7_set_161 cs_X7_74 (c_in _ _ _) (Nat.le_of_ble_eq_true rfl) (Nat.le_of_ble_eq_true rfl) (Nat.le_of_ble_eq_true rfl) (Nat.le_of_ble_eq_true rfl) (fun r M1 hp => ?_)
      obtain ⟨rfl, e9⟩ := hp; rw [e9]
      refine sg_bf_ne 169 dX7_set_164 (by decide) (fun c2 => ?_) (fun c2 => ?_)
      · rw [ti_0, ti_500] at c2
        refine sg_aload_n dX7_set_169 rfl ?_
        refine sg_get dX7_set_170 fl_X7_34 (by first | rfl | assumption) rfl ?_
        refine sg_istore dX7_set_173 (by decide) ?_
        refine sg_aload_n dX7_set_175 rfl ?_
        refine sg_iload_n dX7_set_176 rfl ?_
        refine sg_putx dX7_set_177 fl_X7_34 ft_X7_9 h23 (Nat.le_of_ble_eq_true rfl) (fun M3 x3 q3 => ?_)
        refine sg_iload dX7_set_180 rfl ?_
        refine sg_ireturn dX7_set_182 rfl (Nat.le_of_ble_eq_true rfl) (Nat.le_of_ble_eq_true rfl) ?_
        exact ⟨X2.tr (x3.mono (by decide)), fun _ => ⟨by rw [hbb.1], upd I 1 v, A, hm.o x3 q3, h7, ha, ⟨rfl, hbb.2.1, hbb.2.2.1, hbb.2.2.2.1, hbb.2.2.2.2⟩, ht, hdd, hh⟩, fun q => absurd c2 q⟩
      · rw [ti_0, ti_500] at c2
        refine sg_iconst (-1) dX7_set_167 (by decide) ?_
        refine sg_ireturn dX7_set_168 rfl (Nat.le_of_ble_eq_true rfl) (Nat.le_of_ble_eq_true rfl) ?_
        exact ⟨X2, fun q => absurd q c2, fun _ => ⟨rfl, W2⟩⟩
    · exact absurd (by decide +kernel) c0
theorem m_set4 (g v : Int32) (hW : sm_W M th c ln fg fm ow nm r1 r2 r3 fame cu it yr τ dc ws to gr sp pd hb) : sm_Ct l b D cA yX7_set cX7_set 5 (some .int) 1 0 0 [.ref 23, .int 4, .int g, .int v] M (fun r M1 => sm_ex M M1 sm_ml ∧ ((0 ≤ v.toInt ∧ v.toInt ≤ 1) → r = some (.int cu) ∧ sm_W M1 0 c ln fg fm ow nm r1 r2 r3 fame (v) it yr τ dc ws to gr sp pd hb) ∧ (¬ (0 ≤ v.toInt ∧ v.toInt ≤ 1) → r = some (.int (-1)) ∧ sm_W M1 0 c ln fg fm ow nm r1 r2 r3 fame cu it yr τ dc ws to gr sp pd hb)) := by
  obtain ⟨I, A, hm, h7, ha, hbb, ht, hdd, hh⟩ := id hW
  obtain ⟨h23, h24, h25, h26, h27, h28, h29, h30, h31, h32, h33, h34, h35, h36, h37, h38, h39⟩ := id hm
  refine sm_enter (by decide +kernel) rfl (fun _ => Nat.le_of_ble_eq_true rfl) ?_
  refine sg_aload_n dX7_set_0 rfl ?_
  refine sg_iconst 0 dX7_set_1 (by decide) ?_
  refine sg_putx dX7_set_2 fl_X7_68 ft_X7_18 h23 (Nat.le_of_ble_eq_true rfl) (fun M2 x2 q2 => ?_)
  have W2 : sm_W M2 0 c ln fg fm ow nm r1 r2 r3 fame cu it yr τ dc ws to gr sp pd hb := ⟨upd I 7 0, A, hm.o x2 q2, rfl, ha, hbb, ht, hdd, hh⟩
  have X2 : sm_ex M M2 sm_ml := x2.mono (by decide)
  clear q2 x2 hh hdd ht hbb ha h7 hm h23 h24 h25 h26 h27 h28 h29 h30 h31 h32 h33 h34 h35 h36 h37 h38 h39
  obtain ⟨I, A, hm, h7, ha, hbb, ht, hdd, hh⟩ := id W2
  obtain ⟨h23, h24, h25, h26, h27, h28, h29, h30, h31, h32, h33, h34, h35, h36, h37, h38, h39⟩ := id hm
  refine sg_iload_n dX7_set_5 rfl ?_
  refine sg_iconst 0 dX7_set_6 (by decide) ?_
  refine sg_iconst 5 dX7_set_7 (by decide) ?_
  refine sg_S3 dX7_set_8 cs_X7_74 (c_in _ _ _) (Nat.le_of_ble_eq_true rfl) (Nat.le_of_ble_eq_true rfl) (Nat.le_of_ble_eq_true rfl) (Nat.le_of_ble_eq_true rfl) (fun r M1 hp => ?_)
  obtain ⟨rfl, e9⟩ := hp; rw [e9]
  refine sg_bf_eq 28 dX7_set_11 (by decide) (fun c0 => ?_) (fun c0 => ?_)
  · exact absurd (by decide +kernel) c0
  · clear c0
    refine sg_iload_n dX7_set_14 rfl ?_
    refine sg_iconst 3 dX7_set_15 (by decide) ?_
    refine sg_icmp_ge 30 dX7_set_16 (by decide) (fun c0 => ?_) (fun c0 => ?_)
    · clear c0
      refine sg_iload_n dX7_set_30 rfl ?_
      refine sg_tableIn (off := 152) 183 dX7_set_31 (by decide) (by decide) (by decide +kernel) (by decide) ?_
      refine sg_iload_n dX7_set_183 rfl ?_
      refine sg_iconst 0 dX7_set_184 (by decide) ?_
      refine sg_iconst 1 dX7_set_185 (by decide) ?_
      refine sg_S3 dX7_set_186 cs_X7_74 (c_in _ _ _) (Nat.le_of_ble_eq_true rfl) (Nat.le_of_ble_eq_true rfl) (Nat.le_of_ble_eq_true rfl) (Nat.le_of_ble_eq_true rfl) (fun r M1 hp => ?_)
      obtain ⟨rfl, e9⟩ := hp; rw [e9]
      refine sg_bf_ne 194 dX7_set_189 (by decide) (fun c2 => ?_) (fun c2 => ?_)
      · rw [ti_0, ti_1] at c2
        refine sg_aload_n dX7_set_194 rfl ?_
        refine sg_get dX7_set_195 fl_X7_38 (by first | rfl | assumption) rfl ?_
        refine sg_istore dX7_set_198 (by decide) ?_
        refine sg_aload_n dX7_set_200 rfl ?_
        refine sg_iload_n dX7_set_201 rfl ?_
        refine sg_putx dX7_set_202 fl_X7_38 ft_X7_10 h23 (Nat.le_of_ble_eq_true rfl) (fun M3 x3 q3 => ?_)
        refine sg_iload dX7_set_205 rfl ?_
        refine sg_ireturn dX7_set_207 rfl (Nat.le_of_ble_eq_true rfl) (Nat.le_of_ble_eq_true rfl) ?_
        exact ⟨X2.tr (x3.mono (by decide)), fun _ => ⟨by rw [hbb.2.1], upd I 2 v, A, hm.o x3 q3, h7, ha, ⟨hbb.1, rfl, hbb.2.2.1, hbb.2.2.2.1, hbb.2.2.2.2⟩, ht, hdd, hh⟩, fun q => absurd c2 q⟩
      · rw [ti_0, ti_1] at c2
        refine sg_iconst (-1) dX7_set_192 (by decide) ?_
        refine sg_ireturn dX7_set_193 rfl (Nat.le_of_ble_eq_true rfl) (Nat.le_of_ble_eq_true rfl) ?_
        exact ⟨X2, fun q => absurd q c2, fun _ => ⟨rfl, W2⟩⟩
    · exact absurd (by decide +kernel) c0
theorem m_set5 (g v : Int32) (hW : sm_W M th c ln fg fm ow nm r1 r2 r3 fame cu it yr τ dc ws to gr sp pd hb) : sm_Ct l b D cA yX7_set cX7_set 5 (some .int) 1 0 0 [.ref 23, .int 5, .int g, .int v] M (fun r M1 => sm_ex M M1 sm_ml ∧ ((0 ≤ v.toInt ∧ v.toInt ≤ 50) → r = some (.int it) ∧ sm_W M1 0 c ln fg fm ow nm r1 r2 r3 fame cu (v) yr τ dc ws to gr sp pd hb) ∧ (¬ (0 ≤ v.toInt ∧ v.toInt ≤ 50) → r = some (.int (-1)) ∧ sm_W M1 0 c ln fg fm ow nm r1 r2 r3 fame cu it yr τ dc ws to gr sp pd hb)) := by
  obtain ⟨I, A, hm, h7, ha, hbb, ht, hdd, hh⟩ := id hW
  obtain ⟨h23, h24, h25, h26, h27, h28, h29, h30, h31, h32, h33, h34, h35, h36, h37, h38, h39⟩ := id hm
  refine sm_enter (by decide +kernel) rfl (fun _ => Nat.le_of_ble_eq_true rfl) ?_
  refine sg_aload_n dX7_set_0 rfl ?_
  refine sg_iconst 0 dX7_set_1 (by decide) ?_
  refine sg_putx dX7_set_2 fl_X7_68 ft_X7_18 h23 (Nat.le_of_ble_eq_true rfl) (fun M2 x2 q2 => ?_)
  have W2 : sm_W M2 0 c ln fg fm ow nm r1 r2 r3 fame cu it yr τ dc ws to gr sp pd hb := ⟨upd I 7 0, A, hm.o x2 q2, rfl, ha, hbb, ht, hdd, hh⟩
  have X2 : sm_ex M M2 sm_ml := x2.mono (by decide)
  clear q2 x2 hh hdd ht hbb ha h7 hm h23 h24 h25 h26 h27 h28 h29 h30 h31 h32 h33 h34 h35 h36 h37 h38 h39
  obtain ⟨I, A, hm, h7, ha, hbb, ht, hdd, hh⟩ := id W2
  obtain ⟨h23, h24, h25, h26, h27, h28, h29, h30, h31, h32, h33, h34, h35, h36, h37, h38, h39⟩ := id hm
  refine sg_iload_n dX7_set_5 rfl ?_
  refine sg_iconst 0 dX7_set_6 (by decide) ?_
  refine sg_iconst 5 dX7_set_7 (by decide) ?_
  refine sg_S3 dX7_set_8 cs_X7_74 (c_in _ _ _) (Nat.le_of_ble_eq_true rfl) (Nat.le_of_ble_eq_true rfl) (Nat.le_of_ble_eq_true rfl) (Nat.le_of_ble_eq_true rfl) (fun r M1 hp => ?_)
  obtain ⟨rfl, e9⟩ := hp; rw [e9]
  refine sg_bf_eq 28 dX7_set_11 (by decide) (fun c0 => ?_) (fun c0 => ?_)
  · exact absurd (by decide +kernel) c0
  · clear c0
    refine sg_iload_n dX7_set_14 rfl ?_
    refine sg_iconst 3 dX7_set_15 (by decide) ?_
    refine sg_icmp_ge 30 dX7_set_16 (by decide) (fun c0 => ?_) (fun c0 => ?_)
    · clear c0
      refine sg_iload_n dX7_set_30 rfl ?_
      refine sg_tableOut 208 dX7_set_31 ((by decide +kernel)) (by decide) ?_
      refine sg_iload_n dX7_set_208 rfl ?_
      refine sg_iconst 0 dX7_set_209 (by decide) ?_
      refine sg_bipush 50 dX7_set_210 (by decide) ?_
      refine sg_S3 dX7_set_212 cs_X7_74 (c_in _ _ _) (Nat.le_of_ble_eq_true rfl) (Nat.le_of_ble_eq_true rfl) (Nat.le_of_ble_eq_true rfl) (Nat.le_of_ble_eq_true rfl) (fun r M1 hp => ?_)
      obtain ⟨rfl, e9⟩ := hp; rw [e9]
      refine sg_bf_ne 220 dX7_set_215 (by decide) (fun c2 => ?_) (fun c2 => ?_)
      · rw [ti_0, ti_50] at c2
        refine sg_aload_n dX7_set_220 rfl ?_
        refine sg_get dX7_set_221 fl_X7_41 (by first | rfl | assumption) rfl ?_
        refine sg_istore dX7_set_224 (by decide) ?_
        refine sg_aload_n dX7_set_226 rfl ?_
        refine sg_iload_n dX7_set_227 rfl ?_
        refine sg_putx dX7_set_228 fl_X7_41 ft_X7_11 h23 (Nat.le_of_ble_eq_true rfl) (fun M3 x3 q3 => ?_)
        refine sg_iload dX7_set_231 rfl ?_
        refine sg_ireturn dX7_set_233 rfl (Nat.le_of_ble_eq_true rfl) (Nat.le_of_ble_eq_true rfl) ?_
        exact ⟨X2.tr (x3.mono (by decide)), fun _ => ⟨by rw [hbb.2.2.1], upd I 3 v, A, hm.o x3 q3, h7, ha, ⟨hbb.1, hbb.2.1, rfl, hbb.2.2.2.1, hbb.2.2.2.2⟩, ht, hdd, hh⟩, fun q => absurd c2 q⟩
      · rw [ti_0, ti_50] at c2
        refine sg_iconst (-1) dX7_set_218 (by decide) ?_
        refine sg_ireturn dX7_set_219 rfl (Nat.le_of_ble_eq_true rfl) (Nat.le_of_ble_eq_true rfl) ?_
        exact ⟨X2, fun q => absurd q c2, fun _ => ⟨rfl, W2⟩⟩
    · exact absurd (by decide +kernel) c0
theorem m_setx (w g v : Int32) (hw : w.toInt < 0 ∨ 5 < w.toInt) (hW : sm_W M th c ln fg fm ow nm r1 r2 r3 fame cu it yr τ dc ws to gr sp pd hb) : sm_Ct l b D cA yX7_set cX7_set 5 (some .int) 1 0 0 [.ref 23, .int w, .int g, .int v] M (fun r M1 => r = some (.int (-1)) ∧ sm_ex M M1 sm_ml ∧ sm_W M1 0 c ln fg fm ow nm r1 r2 r3 fame cu it yr τ dc ws to gr sp pd hb) := by
  obtain ⟨I, A, hm, h7, ha, hbb, ht, hdd, hh⟩ := id hW
  obtain ⟨h23, h24, h25, h26, h27, h28, h29, h30, h31, h32, h33, h34, h35, h36, h37, h38, h39⟩ := id hm
  refine sm_enter (by decide +kernel) rfl (fun _ => Nat.le_of_ble_eq_true rfl) ?_
  refine sg_aload_n dX7_set_0 rfl ?_
  refine sg_iconst 0 dX7_set_1 (by decide) ?_
  refine sg_putx dX7_set_2 fl_X7_68 ft_X7_18 h23 (Nat.le_of_ble_eq_true rfl) (fun M2 x2 q2 => ?_)
  have W2 : sm_W M2 0 c ln fg fm ow nm r1 r2 r3 fame cu it yr τ dc ws to gr sp pd hb := ⟨upd I 7 0, A, hm.o x2 q2, rfl, ha, hbb, ht, hdd, hh⟩
  have X2 : sm_ex M M2 sm_ml := x2.mono (by decide)
  clear q2 x2 hh hdd ht hbb ha h7 hm h23 h24 h25 h26 h27 h28 h29 h30 h31 h32 h33 h34 h35 h36 h37 h38 h39
  obtain ⟨I, A, hm, h7, ha, hbb, ht, hdd, hh⟩ := id W2
  obtain ⟨h23, h24, h25, h26, h27, h28, h29, h30, h31, h32, h33, h34, h35, h36, h37, h38, h39⟩ := id hm
  refine sg_iload_n dX7_set_5 rfl ?_
  refine sg_iconst 0 dX7_set_6 (by decide) ?_
  refine sg_iconst 5 dX7_set_7 (by decide) ?_
  refine sg_S3 dX7_set_8 cs_X7_74 (c_in _ _ _) (Nat.le_of_ble_eq_true rfl) (Nat.le_of_ble_eq_true rfl) (Nat.le_of_ble_eq_true rfl) (Nat.le_of_ble_eq_true rfl) (fun r M1 hp => ?_)
  obtain ⟨rfl, e9⟩ := hp; rw [e9]
  refine sg_bf_eq 28 dX7_set_11 (by decide) (fun c0 => ?_) (fun c0 => ?_)
  · refine sg_iconst (-1) dX7_set_28 (by decide) ?_
    refine sg_ireturn dX7_set_29 rfl (Nat.le_of_ble_eq_true rfl) (Nat.le_of_ble_eq_true rfl) ?_
    exact ⟨rfl, X2, W2⟩
  · rw [ti_0, ti_5] at c0
    exact absurd c0 (by omega)
theorem m_heap (g x : Int32) (hs : hb 0 + hb 1 + hb 2 + hb 3 + hb 4 ≤ 60) (hW : sm_W M th c ln fg fm ow nm r1 r2 r3 fame cu it yr τ dc ws to gr sp pd hb) : sm_Ct l b D cA yX7_heap cX7_heap 3 (some .boolean) 1 0 0 [.ref 23, .int g, .int x] M (fun r M1 => sm_ex M M1 sm_ml ∧ (sm_hok (hb 0 + hb 1 + hb 2 + hb 3 + hb 4) hb g x → r = some (.int 1) ∧ sm_W M1 0 c ln fg fm ow nm r1 r2 r3 fame cu it yr τ dc ws to gr sp pd (va_up hb g.toInt.toNat x.toInt.toNat)) ∧ (¬ sm_hok (hb 0 + hb 1 + hb 2 + hb 3 + hb 4) hb g x → r = some (.int 0) ∧ sm_W M1 0 c ln fg fm ow nm r1 r2 r3 fame cu it yr τ dc ws to gr sp pd hb)) := by
  unfold sm_hok
  obtain ⟨I, A, hm, h7, ha, hbb, ht, hdd, hh⟩ := id hW
  obtain ⟨h23, h24, h25, h26, h27, h28, h29, h30, h31, h32, h33, h34, h35, h36, h37, h38, h39⟩ := id hm
  refine sm_enter (by decide +kernel) rfl (fun _ => Nat.le_of_ble_eq_true rfl) ?_
  refine sg_aload_n dX7_heap_0 rfl ?_
  refine sg_iconst 0 dX7_heap_1 (by decide) ?_
  refine sg_putx dX7_heap_2 fl_X7_68 ft_X7_18 h23 (Nat.le_of_ble_eq_true rfl) (fun M2 x2 q2 => ?_)
  have W2 : sm_W M2 0 c ln fg fm ow nm r1 r2 r3 fame cu it yr τ dc ws to gr sp pd hb := ⟨upd I 7 0, A, hm.o x2 q2, rfl, ha, hbb, ht, hdd, hh⟩
  have X2 : sm_ex M M2 sm_ml := x2.mono (by decide)
  clear q2 x2 hh hdd ht hbb ha h7 hm h23 h24 h25 h26 h27 h28 h29 h30 h31 h32 h33 h34 h35 h36 h37 h38 h39
  obtain ⟨I, A, hm, h7, ha, hbb, ht, hdd, hh⟩ := id W2
  obtain ⟨h23, h24, h25, h26, h27, h28, h29, h30, h31, h32, h33, h34, h35, h36, h37, h38, h39⟩ := id hm
  refine sg_iload_n dX7_heap_5 rfl ?_
  refine sg_iconst 0 dX7_heap_6 (by decide) ?_
  refine sg_iconst 4 dX7_heap_7 (by decide) ?_
  refine sg_S3 dX7_heap_8 cs_X7_74 (c_in _ _ _) (Nat.le_of_ble_eq_true rfl) (Nat.le_of_ble_eq_true rfl) (Nat.le_of_ble_eq_true rfl) (Nat.le_of_ble_eq_true rfl) (fun r M1 hp => ?_)
  obtain ⟨rfl, e9⟩ := hp; rw [e9]
  refine sg_bf_eq 42 dX7_heap_11 (by decide) (fun c1 => ?_) (fun c1 => ?_)
  · rw [ti_0, ti_4] at c1
    refine sg_iconst 0 dX7_heap_42 (by decide) ?_
    refine sg_zreturn dX7_heap_43 rfl (by first | decide | assumption) (Nat.le_of_ble_eq_true rfl) (Nat.le_of_ble_eq_true rfl) ?_
    exact ⟨X2, fun q => absurd q.1 (by omega), fun _ => ⟨rfl, W2⟩⟩
  · rw [ti_0, ti_4] at c1
    have c1' : 0 ≤ g.toInt ∧ g.toInt < (5 : Nat) := by omega
    have hg := (sm_toN c1').2
    refine sg_iload_n dX7_heap_14 rfl ?_
    refine sg_iconst 0 dX7_heap_15 (by decide) ?_
    refine sg_bipush 60 dX7_heap_16 (by decide) ?_
    refine sg_S3 dX7_heap_18 cs_X7_74 (c_in _ _ _) (Nat.le_of_ble_eq_true rfl) (Nat.le_of_ble_eq_true rfl) (Nat.le_of_ble_eq_true rfl) (Nat.le_of_ble_eq_true rfl) (fun r M1 hp => ?_)
    obtain ⟨rfl, e9⟩ := hp; rw [e9]
    refine sg_bf_eq 42 dX7_heap_21 (by decide) (fun c2 => ?_) (fun c2 => ?_)
    · rw [ti_0, ti_60] at c2
      refine sg_iconst 0 dX7_heap_42 (by decide) ?_
      refine sg_zreturn dX7_heap_43 rfl (by first | decide | assumption) (Nat.le_of_ble_eq_true rfl) (Nat.le_of_ble_eq_true rfl) ?_
      exact ⟨X2, fun q => absurd q.2.1 c2, fun _ => ⟨rfl, W2⟩⟩
    · rw [ti_0, ti_60] at c2
      have hx := sm_asN c2.1
      have hle : hb g.toInt.toNat ≤ hb 0 + hb 1 + hb 2 + hb 3 + hb 4 := by
        rcases (show g.toInt.toNat = 0 ∨ g.toInt.toNat = 1 ∨ g.toInt.toNat = 2 ∨ g.toInt.toNat = 3 ∨ g.toInt.toNat = 4 by omega) with e | e | e | e | e <;> rw [e] <;> omega
      have hval : nI (hb 0 + hb 1 + hb 2 + hb 3 + hb 4) - nI (hb g.toInt.toNat) + x = nI (hb 0 + hb 1 + hb 2 + hb 3 + hb 4 - hb g.toInt.toNat + x.toInt.toNat) := by
        rw [pk_sub hle, ← nI_add, ← hx]
      refine sg_aload_n dX7_heap_24 rfl ?_
      refine sg_V0 dX7_heap_25 cv_X7_151 h23 (c_heaped hh hm) (Nat.le_of_ble_eq_true rfl) (Nat.le_of_ble_eq_true rfl) (Nat.le_of_ble_eq_true rfl) (Nat.le_of_ble_eq_true rfl) (fun r9 M9 hp => ?_)
      obtain ⟨rfl, e9⟩ := hp
      rw [e9]
      refine sg_aload_n dX7_heap_28 rfl ?_
      refine sg_get dX7_heap_29 fl_X7_50 (by first | rfl | assumption) rfl ?_
      refine sg_iload_n dX7_heap_32 rfl ?_
      refine sg_ald (g.toInt.toNat) dX7_heap_33 (by first | rfl | assumption) ((sm_toN c1').1) (hg) (by decide) ?_
      refine sg_isub dX7_heap_34 ?_
      refine sg_iload_n dX7_heap_35 rfl ?_
      refine sg_iadd dX7_heap_36 ?_
      refine sg_bipush 60 dX7_heap_37 (by decide) ?_
      rw [hh _ hg, hval]
      refine sg_icmp_le 44 dX7_heap_39 (by decide) (fun c3 => ?_) (fun c3 => ?_)
      · rw [Int32.le_iff_toInt_le, nI_toInt (by omega), ti_60] at c3
        refine sg_aload_n dX7_heap_44 rfl ?_
        refine sg_get dX7_heap_45 fl_X7_50 (by first | rfl | assumption) rfl ?_
        refine sg_iload_n dX7_heap_48 rfl ?_
        refine sg_iload_n dX7_heap_49 rfl ?_
        refine sg_astx g.toInt.toNat dX7_heap_50 h34 (sm_toN c1').1 hg (by decide) (fun M3 x3 g3 => ?_)
        refine sg_iconst 1 dX7_heap_51 (by decide) ?_
        refine sg_zreturn dX7_heap_52 rfl (by first | decide | assumption) (Nat.le_of_ble_eq_true rfl) (Nat.le_of_ble_eq_true rfl) ?_
        refine ⟨X2.tr (x3.mono (by decide)), fun _ => ⟨rfl, I, _, hm.u34 x3 g3, h7, ha, hbb, ht, hdd, fun j hj => ?_⟩, fun q => absurd ⟨by omega, c2, by omega⟩ q⟩
        show upd (A 34) g.toInt.toNat x j = nI (va_up hb g.toInt.toNat x.toInt.toNat j)
        unfold upd
        by_cases e : j = g.toInt.toNat
        · rw [if_pos e, e, va_up_self]
          exact hx
        · rw [if_neg e, va_up_ne _ _ e]
          exact hh j hj
      · rw [Int32.le_iff_toInt_le, nI_toInt (by omega), ti_60] at c3
        refine sg_iconst 0 dX7_heap_42 (by decide) ?_
        refine sg_zreturn dX7_heap_43 rfl (by first | decide | assumption) (Nat.le_of_ble_eq_true rfl) (Nat.le_of_ble_eq_true rfl) ?_
        exact ⟨X2, fun q => absurd q.2.2 (by omega), fun _ => ⟨rfl, W2⟩⟩
theorem m_owe (o t s g : Int32) (hdc : dc ≤ 60) (hW : sm_W M th c ln fg fm ow nm r1 r2 r3 fame cu it yr τ dc ws to gr sp pd hb) : sm_Ct l b D cA yX7_owe cX7_owe 6 (some .int) 1 0 0 [.ref 23, .int o, .int t, .int s, .int g] M (fun r M1 => sm_ex M M1 sm_ml ∧ (sm_owec dc o t s g → r = some (.int (nI dc)) ∧ sm_W M1 0 c ln fg fm ow nm r1 r2 r3 fame cu it yr τ (dc + 1) (va_up ws dc o) (va_up to dc t) (va_up gr dc g) (va_up sp dc s) (va_up pd dc (-1)) hb) ∧ (¬ sm_owec dc o t s g → r = some (.int (-1)) ∧ sm_W M1 0 c ln fg fm ow nm r1 r2 r3 fame cu it yr τ dc ws to gr sp pd hb)) := by
  obtain ⟨I, A, hm, h7, ha, hbb, ht, hdd, hh⟩ := id hW
  obtain ⟨h23, h24, h25, h26, h27, h28, h29, h30, h31, h32, h33, h34, h35, h36, h37, h38, h39⟩ := id hm
  refine sm_enter (by decide +kernel) rfl (fun _ => Nat.le_of_ble_eq_true rfl) ?_
  refine sg_aload_n dX7_owe_0 rfl ?_
  refine sg_iconst 0 dX7_owe_1 (by decide) ?_
  refine sg_putx dX7_owe_2 fl_X7_68 ft_X7_18 h23 (Nat.le_of_ble_eq_true rfl) (fun M2 x2 q2 => ?_)
  have W2 : sm_W M2 0 c ln fg fm ow nm r1 r2 r3 fame cu it yr τ dc ws to gr sp pd hb := ⟨upd I 7 0, A, hm.o x2 q2, rfl, ha, hbb, ht, hdd, hh⟩
  have X2 : sm_ex M M2 sm_ml := x2.mono (by decide)
  clear q2 x2 hh hdd ht hbb ha h7 hm h23 h24 h25 h26 h27 h28 h29 h30 h31 h32 h33 h34 h35 h36 h37 h38 h39
  obtain ⟨I, A, hm, h7, ha, hbb, ht, hdd, hh⟩ := id W2
  obtain ⟨h23, h24, h25, h26, h27, h28, h29, h30, h31, h32, h33, h34, h35, h36, h37, h38, h39⟩ := id hm
  refine sg_iload_n dX7_owe_5 rfl ?_
  refine sg_iconst 0 dX7_owe_6 (by decide) ?_
  refine sg_bipush 9 dX7_owe_7 (by decide) ?_
  refine sg_S3 dX7_owe_9 cs_X7_74 (c_in _ _ _) (Nat.le_of_ble_eq_true rfl) (Nat.le_of_ble_eq_true rfl) (Nat.le_of_ble_eq_true rfl) (Nat.le_of_ble_eq_true rfl) (fun r M1 hp => ?_)
  obtain ⟨rfl, e9⟩ := hp; rw [e9]
  refine sg_bf_eq 59 dX7_owe_12 (by decide) (fun c1 => ?_) (fun c1 => ?_)
  · rw [ti_0, ti_9] at c1
    refine sg_iconst (-1) dX7_owe_59 (by decide) ?_
    refine sg_ireturn dX7_owe_60 rfl (Nat.le_of_ble_eq_true rfl) (Nat.le_of_ble_eq_true rfl) ?_
    exact ⟨X2, fun q => absurd q.1 (by omega), fun _ => ⟨rfl, W2⟩⟩
  · rw [ti_0, ti_9] at c1
    refine sg_iload_n dX7_owe_15 rfl ?_
    refine sg_iconst 0 dX7_owe_16 (by decide) ?_
    refine sg_bipush 9 dX7_owe_17 (by decide) ?_
    refine sg_S3 dX7_owe_19 cs_X7_74 (c_in _ _ _) (Nat.le_of_ble_eq_true rfl) (Nat.le_of_ble_eq_true rfl) (Nat.le_of_ble_eq_true rfl) (Nat.le_of_ble_eq_true rfl) (fun r M1 hp => ?_)
    obtain ⟨rfl, e9⟩ := hp; rw [e9]
    refine sg_bf_eq 59 dX7_owe_22 (by decide) (fun c2 => ?_) (fun c2 => ?_)
    · rw [ti_0, ti_9] at c2
      refine sg_iconst (-1) dX7_owe_59 (by decide) ?_
      refine sg_ireturn dX7_owe_60 rfl (Nat.le_of_ble_eq_true rfl) (Nat.le_of_ble_eq_true rfl) ?_
      exact ⟨X2, fun q => absurd q.2.1 (by omega), fun _ => ⟨rfl, W2⟩⟩
    · rw [ti_0, ti_9] at c2
      refine sg_iload_n dX7_owe_25 rfl ?_
      refine sg_iload_n dX7_owe_26 rfl ?_
      refine sg_icmp_eq 59 dX7_owe_27 (by decide) (fun c3 => ?_) (fun c3 => ?_)
      · refine sg_iconst (-1) dX7_owe_59 (by decide) ?_
        refine sg_ireturn dX7_owe_60 rfl (Nat.le_of_ble_eq_true rfl) (Nat.le_of_ble_eq_true rfl) ?_
        exact ⟨X2, fun q => absurd c3 q.2.2.1, fun _ => ⟨rfl, W2⟩⟩
      · refine sg_iload_n dX7_owe_30 rfl ?_
        refine sg_iconst 1 dX7_owe_31 (by decide) ?_
        refine sg_bipush 99 dX7_owe_32 (by decide) ?_
        refine sg_S3 dX7_owe_34 cs_X7_74 (c_in _ _ _) (Nat.le_of_ble_eq_true rfl) (Nat.le_of_ble_eq_true rfl) (Nat.le_of_ble_eq_true rfl) (Nat.le_of_ble_eq_true rfl) (fun r M1 hp => ?_)
        obtain ⟨rfl, e9⟩ := hp; rw [e9]
        refine sg_bf_eq 59 dX7_owe_37 (by decide) (fun c4 => ?_) (fun c4 => ?_)
        · rw [ti_1, ti_99] at c4
          refine sg_iconst (-1) dX7_owe_59 (by decide) ?_
          refine sg_ireturn dX7_owe_60 rfl (Nat.le_of_ble_eq_true rfl) (Nat.le_of_ble_eq_true rfl) ?_
          exact ⟨X2, fun q => absurd q.2.2.2.2.1 (by omega), fun _ => ⟨rfl, W2⟩⟩
        · rw [ti_1, ti_99] at c4
          refine sg_iload dX7_owe_40 rfl ?_
          refine sg_iconst 0 dX7_owe_42 (by decide) ?_
          refine sg_iconst 4 dX7_owe_43 (by decide) ?_
          refine sg_S3 dX7_owe_44 cs_X7_74 (c_in _ _ _) (Nat.le_of_ble_eq_true rfl) (Nat.le_of_ble_eq_true rfl) (Nat.le_of_ble_eq_true rfl) (Nat.le_of_ble_eq_true rfl) (fun r M1 hp => ?_)
          obtain ⟨rfl, e9⟩ := hp; rw [e9]
          refine sg_bf_eq 59 dX7_owe_47 (by decide) (fun c5 => ?_) (fun c5 => ?_)
          · rw [ti_0, ti_4] at c5
            refine sg_iconst (-1) dX7_owe_59 (by decide) ?_
            refine sg_ireturn dX7_owe_60 rfl (Nat.le_of_ble_eq_true rfl) (Nat.le_of_ble_eq_true rfl) ?_
            exact ⟨X2, fun q => absurd q.2.2.2.1 (by omega), fun _ => ⟨rfl, W2⟩⟩
          · rw [ti_0, ti_4] at c5
            refine sg_aload_n dX7_owe_50 rfl ?_
            refine sg_get dX7_owe_51 fl_X7_148 (by first | rfl | assumption) rfl ?_
            refine sg_bipush 60 dX7_owe_54 (by decide) ?_
            rw [hdd.1]
            refine sg_icmp_ne 61 dX7_owe_56 (by decide) (fun c6 => ?_) (fun c6 => ?_)
            · rw [← Int32.toInt_inj, nI_toInt (by omega), ti_60] at c6
              refine sg_iconst 5 dX7_owe_61 (by decide) ?_
              refine sg_aload_n dX7_owe_62 rfl ?_
              refine sg_get dX7_owe_63 fl_X7_148 (by first | rfl | assumption) rfl ?_
              refine sg_imul dX7_owe_66 ?_
              rw [hdd.1, sm_5z]
              refine sg_istore dX7_owe_67 (by decide) ?_
              refine sg_aload_n dX7_owe_69 rfl ?_
              refine sg_get dX7_owe_70 fl_X7_47 (by first | rfl | assumption) rfl ?_
              refine sg_iload dX7_owe_73 rfl ?_
              refine sg_iload_n dX7_owe_75 rfl ?_
              refine sg_astx (5 * dc) dX7_owe_76 h33 rfl (by omega) (by decide) (fun M3 x3 g3 => ?_)
              have a23 := (x3.2 23 (by decide)).trans h23
              refine sg_aload_n dX7_owe_77 rfl ?_
              refine sg_get dX7_owe_78 fl_X7_47 (by first | rfl | assumption) rfl ?_
              refine sg_iload dX7_owe_81 rfl ?_
              refine sg_iconst 1 dX7_owe_83 (by decide) ?_
              refine sg_iadd dX7_owe_84 ?_
              refine sg_iload_n dX7_owe_85 rfl ?_
              refine sg_astx (5 * dc + 1) dX7_owe_86 g3 (nI_add _ 1) (by omega) (by decide) (fun M4 x4 g4 => ?_)
              have b23 := (x4.2 23 (by decide)).trans a23
              refine sg_aload_n dX7_owe_87 rfl ?_
              refine sg_get dX7_owe_88 fl_X7_47 (by first | rfl | assumption) rfl ?_
              refine sg_iload dX7_owe_91 rfl ?_
              refine sg_iconst 2 dX7_owe_93 (by decide) ?_
              refine sg_iadd dX7_owe_94 ?_
              refine sg_iload_n dX7_owe_95 rfl ?_
              refine sg_astx (5 * dc + 2) dX7_owe_96 g4 (nI_add _ 2) (by omega) (by decide) (fun M5 x5 g5 => ?_)
              have d23 := (x5.2 23 (by decide)).trans b23
              refine sg_aload_n dX7_owe_97 rfl ?_
              refine sg_get dX7_owe_98 fl_X7_47 (by first | rfl | assumption) rfl ?_
              refine sg_iload dX7_owe_101 rfl ?_
              refine sg_iconst 3 dX7_owe_103 (by decide) ?_
              refine sg_iadd dX7_owe_104 ?_
              refine sg_iload dX7_owe_105 rfl ?_
              refine sg_astx (5 * dc + 3) dX7_owe_107 g5 (nI_add _ 3) (by omega) (by decide) (fun M6 x6 g6 => ?_)
              have e23 := (x6.2 23 (by decide)).trans d23
              refine sg_aload_n dX7_owe_108 rfl ?_
              refine sg_get dX7_owe_109 fl_X7_47 (by first | rfl | assumption) rfl ?_
              refine sg_iload dX7_owe_112 rfl ?_
              refine sg_iconst 4 dX7_owe_114 (by decide) ?_
              refine sg_iadd dX7_owe_115 ?_
              refine sg_iconst (-1) dX7_owe_116 (by decide) ?_
              refine sg_astx (5 * dc + 4) dX7_owe_117 g6 (nI_add _ 4) (by omega) (by decide) (fun M7 x7 g7 => ?_)
              have f23 := (x7.2 23 (by decide)).trans e23
              have m7 := hm.u33 (x3.tr (x4.tr (x5.tr (x6.tr x7)))) g7
              refine sg_aload_n dX7_owe_118 rfl ?_
              refine sg_dup dX7_owe_119 rfl ?_
              refine sg_get dX7_owe_120 fl_X7_148 (by first | rfl | assumption) rfl ?_
              refine sg_iconst 1 dX7_owe_123 (by decide) ?_
              refine sg_iadd dX7_owe_124 ?_
              rw [hdd.1]
              refine sg_putx dX7_owe_125 fl_X7_148 ft_X7_16 f23 (Nat.le_of_ble_eq_true rfl) (fun M8 x8 q8 => ?_)
              have g23 := q8
              refine sg_aload_n dX7_owe_128 rfl ?_
              refine sg_get dX7_owe_129 fl_X7_148 (by first | rfl | assumption) rfl ?_
              refine sg_iconst 1 dX7_owe_132 (by decide) ?_
              refine sg_isub dX7_owe_133 ?_
              refine sg_ireturn dX7_owe_134 rfl (Nat.le_of_ble_eq_true rfl) (Nat.le_of_ble_eq_true rfl) ?_
              have m8 : sm_mm M8 (upd I 6 (nI dc + 1)) _ := m7.o x8 q8
              refine ⟨X2.tr ((x3.mono (by decide)).tr ((x4.mono (by decide)).tr ((x5.mono (by decide)).tr ((x6.mono (by decide)).tr ((x7.mono (by decide)).tr (x8.mono (by decide))))))), fun _ => ⟨?_, _, _, m8, h7, ha, hbb, ht, hdd.owe (nI_1 dc) rfl, hh⟩, fun q => absurd ⟨by omega, by omega, c3, by omega, c4, by omega⟩ q⟩
              show some (Value.int (nI dc + 1 - 1)) = _
              rw [nI_1, nI_pred]
            · rw [← Int32.toInt_inj, nI_toInt (by omega), ti_60] at c6
              refine sg_iconst (-1) dX7_owe_59 (by decide) ?_
              refine sg_ireturn dX7_owe_60 rfl (Nat.le_of_ble_eq_true rfl) (Nat.le_of_ble_eq_true rfl) ?_
              exact ⟨X2, fun q => absurd q.2.2.2.2.2 (by omega), fun _ => ⟨rfl, W2⟩⟩
theorem m_debt (d w : Int32) (hdc : dc ≤ 60) (hpd : ∀ k, k < dc → ¬ pd k = -1 → sp k = 0) (hW : sm_W M th c ln fg fm ow nm r1 r2 r3 fame cu it yr τ dc ws to gr sp pd hb) : sm_Ct l b D cA yX7_debt cX7_debt 4 (some .int) 1 0 0 [.ref 23, .int d, .int w] M (fun r M1 => r = some (.int (if 0 ≤ d.toInt ∧ d.toInt < dc then (if w = 0 then ws d.toInt.toNat else if w = 1 then to d.toInt.toNat else if w = 2 then sp d.toInt.toNat else if w = 3 then gr d.toInt.toNat else if w = 4 then pd d.toInt.toNat else -1) else -1)) ∧ sm_ex M M1 sm_ml ∧ sm_W M1 0 c ln fg fm ow nm r1 r2 r3 fame cu it yr τ dc ws to gr sp pd hb) := by
  obtain ⟨I, A, hm, h7, ha, hbb, ht, hdd, hh⟩ := id hW
  obtain ⟨h23, h24, h25, h26, h27, h28, h29, h30, h31, h32, h33, h34, h35, h36, h37, h38, h39⟩ := id hm
  refine sm_enter (by decide +kernel) rfl (fun _ => Nat.le_of_ble_eq_true rfl) ?_
  refine sg_aload_n dX7_debt_0 rfl ?_
  refine sg_iconst 0 dX7_debt_1 (by decide) ?_
  refine sg_putx dX7_debt_2 fl_X7_68 ft_X7_18 h23 (Nat.le_of_ble_eq_true rfl) (fun M2 x2 q2 => ?_)
  have W2 : sm_W M2 0 c ln fg fm ow nm r1 r2 r3 fame cu it yr τ dc ws to gr sp pd hb := ⟨upd I 7 0, A, hm.o x2 q2, rfl, ha, hbb, ht, hdd, hh⟩
  have X2 : sm_ex M M2 sm_ml := x2.mono (by decide)
  clear q2 x2 hh hdd ht hbb ha h7 hm h23 h24 h25 h26 h27 h28 h29 h30 h31 h32 h33 h34 h35 h36 h37 h38 h39
  obtain ⟨I, A, hm, h7, ha, hbb, ht, hdd, hh⟩ := id W2
  obtain ⟨h23, h24, h25, h26, h27, h28, h29, h30, h31, h32, h33, h34, h35, h36, h37, h38, h39⟩ := id hm
  refine sg_iload_n dX7_debt_5 rfl ?_
  refine sg_iconst 0 dX7_debt_6 (by decide) ?_
  refine sg_aload_n dX7_debt_7 rfl ?_
  refine sg_get dX7_debt_8 fl_X7_148 (by first | rfl | assumption) rfl ?_
  refine sg_iconst 1 dX7_debt_11 (by decide) ?_
  refine sg_isub dX7_debt_12 ?_
  refine sg_S3 dX7_debt_13 cs_X7_74 (c_in _ _ _) (Nat.le_of_ble_eq_true rfl) (Nat.le_of_ble_eq_true rfl) (Nat.le_of_ble_eq_true rfl) (Nat.le_of_ble_eq_true rfl) (fun r M1 hp => ?_)
  obtain ⟨rfl, e9⟩ := hp; rw [e9]
  rw [hdd.1]
  refine sg_bf_eq 28 dX7_debt_16 (by decide) (fun c1 => ?_) (fun c1 => ?_)
  · rw [ti_0, sm_pred (by omega)] at c1
    refine sg_iconst (-1) dX7_debt_28 (by decide) ?_
    refine sg_ireturn dX7_debt_29 rfl (Nat.le_of_ble_eq_true rfl) (Nat.le_of_ble_eq_true rfl) ?_
    exact ⟨by rw [if_neg (by omega)], X2, W2⟩
  · rw [ti_0, sm_pred (by omega)] at c1
    have c1' : 0 ≤ d.toInt ∧ d.toInt < dc := by omega
    have hd := (sm_toN c1').2
    have hdn := (sm_toN c1').1
    obtain ⟨b0, b1, b2, b3, b4⟩ := hdd.2 _ hd
    rw [if_pos c1']
    refine sg_iload_n dX7_debt_19 rfl ?_
    refine sg_iconst 0 dX7_debt_20 (by decide) ?_
    refine sg_iconst 4 dX7_debt_21 (by decide) ?_
    refine sg_S3 dX7_debt_22 cs_X7_74 (c_in _ _ _) (Nat.le_of_ble_eq_true rfl) (Nat.le_of_ble_eq_true rfl) (Nat.le_of_ble_eq_true rfl) (Nat.le_of_ble_eq_true rfl) (fun r M1 hp => ?_)
    obtain ⟨rfl, e9⟩ := hp; rw [e9]
    refine sg_bf_ne 30 dX7_debt_25 (by decide) (fun c2 => ?_) (fun c2 => ?_)
    · rw [ti_0, ti_4] at c2
      have hw := sm_asN c2.1
      have h5 : (5 : Int32) * d = nI (5 * d.toInt.toNat) := by
        rw [← sm_5z, ← hdn]
      have h5w : nI (5 * d.toInt.toNat) + w = nI (5 * d.toInt.toNat + w.toInt.toNat) := by
        rw [← nI_add, ← hw]
      refine sg_iconst 5 dX7_debt_30 (by decide) ?_
      refine sg_iload_n dX7_debt_31 rfl ?_
      refine sg_imul dX7_debt_32 ?_
      rw [h5]
      refine sg_istore_n dX7_debt_33 (by decide) ?_
      refine sg_iload_n dX7_debt_34 rfl ?_
      refine sg_iconst 2 dX7_debt_35 (by decide) ?_
      have hlast : ∀ (Post : Option Value → sm_M → Prop), Post (some (.int (A 33 (5 * d.toInt.toNat + w.toInt.toNat)))) M2 → sm_G l b D cA yX7_debt cX7_debt 4 (some .int) 1 0 0 Post 0 0 55 [some (.ref 23), some (.int d), some (.int w), some (.int (nI (5 * d.toInt.toNat)))] [] M2 := fun Post hP => by
        refine sg_aload_n dX7_debt_55 rfl ?_
        refine sg_get dX7_debt_56 fl_X7_47 (by first | rfl | assumption) rfl ?_
        refine sg_iload_n dX7_debt_59 rfl ?_
        refine sg_iload_n dX7_debt_60 rfl ?_
        refine sg_iadd dX7_debt_61 ?_
        refine sg_ald (5 * d.toInt.toNat + w.toInt.toNat) dX7_debt_62 (by first | rfl | assumption) (h5w) (by omega) (by decide) ?_
        refine sg_ireturn dX7_debt_63 rfl (Nat.le_of_ble_eq_true rfl) (Nat.le_of_ble_eq_true rfl) ?_
        exact hP
      refine sg_icmp_ne 55 dX7_debt_36 (by decide) (fun c3 => ?_) (fun c3 => ?_)
      · refine hlast _ ⟨?_, X2, W2⟩
        by_cases w0 : w = 0
        · rw [if_pos w0, w0]
          exact congrArg some (congrArg Value.int b0)
        · rw [if_neg w0]
          by_cases w1 : w = 1
          · rw [if_pos w1, w1]
            exact congrArg some (congrArg Value.int b1)
          · rw [if_neg w1, if_neg c3]
            by_cases w3 : w = 3
            · rw [if_pos w3, w3]
              exact congrArg some (congrArg Value.int b3)
            · rw [if_neg w3]
              have w4 : w = 4 := by
                rw [← Int32.toInt_inj] at w0 w1 c3 w3 ⊢
                rw [ti_0] at w0
                rw [ti_1] at w1
                rw [ti_2] at c3
                rw [ti_3] at w3
                rw [ti_4]
                omega
              rw [if_pos w4, w4]
              exact congrArg some (congrArg Value.int b4)
      · subst c3
        rw [if_neg (show ¬ (2 : Int32) = 0 by decide), if_neg (show ¬ (2 : Int32) = 1 by decide), if_pos rfl]
        refine sg_aload_n dX7_debt_39 rfl ?_
        refine sg_get dX7_debt_40 fl_X7_47 (by first | rfl | assumption) rfl ?_
        refine sg_iload_n dX7_debt_43 rfl ?_
        refine sg_iconst 4 dX7_debt_44 (by decide) ?_
        refine sg_iadd dX7_debt_45 ?_
        refine sg_ald (5 * d.toInt.toNat + 4) dX7_debt_46 (by first | rfl | assumption) (nI_add _ 4) (by omega) (by decide) ?_
        refine sg_iconst (-1) dX7_debt_47 (by decide) ?_
        rw [b4]
        refine sg_icmp_eq 55 dX7_debt_48 (by decide) (fun c4 => ?_) (fun c4 => ?_)
        · exact hlast _ ⟨congrArg some (congrArg Value.int (b2 c4)), X2, W2⟩
        · refine sg_iconst 0 dX7_debt_51 (by decide) ?_
          refine sg_goto 63 dX7_debt_52 (by decide) ?_
          refine sg_ireturn dX7_debt_63 rfl (Nat.le_of_ble_eq_true rfl) (Nat.le_of_ble_eq_true rfl) ?_
          exact ⟨by rw [hpd _ hd c4], X2, W2⟩
    · rw [ti_0, ti_4] at c2
      refine sg_iconst (-1) dX7_debt_28 (by decide) ?_
      refine sg_ireturn dX7_debt_29 rfl (Nat.le_of_ble_eq_true rfl) (Nat.le_of_ble_eq_true rfl) ?_
      refine ⟨?_, X2, W2⟩
      rw [if_neg (fun q => c2 (by rw [q, ti_0]; omega)), if_neg (fun q => c2 (by rw [q, ti_1]; omega)), if_neg (fun q => c2 (by rw [q, ti_2]; omega)), if_neg (fun q => c2 (by rw [q, ti_3]; omega)), if_neg (fun q => c2 (by rw [q, ti_4]; omega))]
theorem lp_myear {Post : Option Value → sm_M → Prop} (hdc : dc ≤ 60)
    (hP : ∀ M1 : sm_M, sm_ex M M1 sm_ml → sm_W M1 0 c ln fg fm ow nm r1 r2 r3 fame cu it (yr + 1) τ dc ws to gr (sm_grt sp it dc) pd hb → Post (some (.int (yr + 1))) M1) :
    ∀ (r t : Nat) (M1 : sm_M) (x2 x3 : Option Value), t + r = dc → sm_ex M M1 sm_ml → sm_W M1 0 c ln fg fm ow nm r1 r2 r3 fame cu it (yr + 1) τ dc ws to gr (sm_grt sp it t) pd hb → sm_G l b D cA yX7_year cX7_year 4 (some .int) 1 0 0 Post 0 0 28 [some (.ref 23), some (.int (nI t)), x2, x3] [] M1 := by
  intro r
  induction r with
  | zero =>
    intro t M1 x2 x3 hk hx hW
    have e : t = dc := by omega
    subst e
    obtain ⟨I, A, hm, h7, ha, hbb, ht, hdd, hh⟩ := id hW
    obtain ⟨h23, h24, h25, h26, h27, h28, h29, h30, h31, h32, h33, h34, h35, h36, h37, h38, h39⟩ := id hm
    refine sg_iload_n dX7_year_28 rfl ?_
    refine sg_aload_n dX7_year_29 rfl ?_
    refine sg_get dX7_year_30 fl_X7_148 (by first | rfl | assumption) rfl ?_
    rw [hdd.1]
    refine sg_icmp_ge 109 dX7_year_33 (by decide) (fun c1 => ?_) (fun c1 => ?_)
    · refine sg_aload_n dX7_year_109 rfl ?_
      refine sg_get dX7_year_110 fl_X7_81 (by first | rfl | assumption) rfl ?_
      rw [hbb.2.2.2.1]
      refine sg_ireturn dX7_year_113 rfl (Nat.le_of_ble_eq_true rfl) (Nat.le_of_ble_eq_true rfl) ?_
      exact hP M1 hx hW
    · exact absurd (nI_le (Nat.le_refl _) (by omega)) c1
  | succ r ih =>
    intro t M1 x2 x3 hk hx hW
    obtain ⟨I, A, hm, h7, ha, hbb, ht, hdd, hh⟩ := id hW
    obtain ⟨h23, h24, h25, h26, h27, h28, h29, h30, h31, h32, h33, h34, h35, h36, h37, h38, h39⟩ := id hm
    obtain ⟨b0, b1, b2, b3, b4⟩ := hdd.2 t (by omega)
    have hsp : sm_grt sp it t t = sp t := by
      unfold sm_grt
      rw [if_neg (by omega)]
    rw [hsp] at b2
    refine sg_iload_n dX7_year_28 rfl ?_
    refine sg_aload_n dX7_year_29 rfl ?_
    refine sg_get dX7_year_30 fl_X7_148 (by first | rfl | assumption) rfl ?_
    rw [hdd.1]
    refine sg_icmp_ge 109 dX7_year_33 (by decide) (fun c1 => ?_) (fun c1 => ?_)
    · exact absurd c1 (nI_ge (by omega) (by omega))
    · refine sg_iconst 5 dX7_year_36 (by decide) ?_
      refine sg_iload_n dX7_year_37 rfl ?_
      refine sg_imul dX7_year_38 ?_
      rw [sm_5z]
      refine sg_istore_n dX7_year_39 (by decide) ?_
      refine sg_aload_n dX7_year_40 rfl ?_
      refine sg_get dX7_year_41 fl_X7_47 (by first | rfl | assumption) rfl ?_
      refine sg_iload_n dX7_year_44 rfl ?_
      refine sg_iconst 4 dX7_year_45 (by decide) ?_
      refine sg_iadd dX7_year_46 ?_
      refine sg_ald (5 * t + 4) dX7_year_47 (by first | rfl | assumption) (nI_add _ 4) (by omega) (by decide) ?_
      refine sg_iconst (-1) dX7_year_48 (by decide) ?_
      rw [b4]
      refine sg_icmp_eq 55 dX7_year_49 (by decide) (fun c2 => ?_) (fun c2 => ?_)
      · refine sg_aload_n dX7_year_55 rfl ?_
        refine sg_get dX7_year_56 fl_X7_47 (by first | rfl | assumption) rfl ?_
        refine sg_iload_n dX7_year_59 rfl ?_
        refine sg_iconst 2 dX7_year_60 (by decide) ?_
        refine sg_iadd dX7_year_61 ?_
        refine sg_ald (5 * t + 2) dX7_year_62 (by first | rfl | assumption) (nI_add _ 2) (by omega) (by decide) ?_
        refine sg_aload_n dX7_year_63 rfl ?_
        refine sg_get dX7_year_64 fl_X7_47 (by first | rfl | assumption) rfl ?_
        refine sg_iload_n dX7_year_67 rfl ?_
        refine sg_iconst 2 dX7_year_68 (by decide) ?_
        refine sg_iadd dX7_year_69 ?_
        refine sg_ald (5 * t + 2) dX7_year_70 (by first | rfl | assumption) (nI_add _ 2) (by omega) (by decide) ?_
        refine sg_aload_n dX7_year_71 rfl ?_
        refine sg_get dX7_year_72 fl_X7_41 (by first | rfl | assumption) rfl ?_
        refine sg_imul dX7_year_75 ?_
        refine sg_bipush 100 dX7_year_76 (by decide) ?_
        refine sg_idiv dX7_year_78 (by decide) ?_
        refine sg_iadd dX7_year_79 ?_
        rw [b2 c2, hbb.2.2.1]
        refine sg_istore_n dX7_year_80 (by decide) ?_
        refine sg_aload_n dX7_year_81 rfl ?_
        refine sg_get dX7_year_82 fl_X7_47 (by first | rfl | assumption) rfl ?_
        refine sg_iload_n dX7_year_85 rfl ?_
        refine sg_iconst 2 dX7_year_86 (by decide) ?_
        refine sg_iadd dX7_year_87 ?_
        refine sg_iload_n dX7_year_88 rfl ?_
        refine sg_sipush 10000 dX7_year_89 (by decide) ?_
        have hend : ∀ v x3 : Int32, v = sm_grow (sp t) it → sm_G l b D cA yX7_year cX7_year 4 (some .int) 1 0 0 Post 0 0 102 [some (.ref 23), some (.int (nI t)), some (.int (nI (5 * t))), some (.int x3)] [.int v, .int (nI (5 * t) + 2), .ref 33] M1 := fun v x3 hv => by
          subst hv
          refine sg_astx (5 * t + 2) dX7_year_102 h33 (nI_add _ 2) (by omega) (by decide) (fun M4 x4 g4 => ?_)
          refine sg_iinc _ dX7_year_103 rfl (sm_inc t) (by decide) ?_
          refine sg_goto 28 dX7_year_106 (by decide) ?_
          refine ih (t + 1) M4 _ _ (by omega) (hx.tr (x4.mono (by decide))) ⟨I, _, hm.u33 x4 g4, h7, ha, hbb, ht, ?_, hh⟩
          rw [sm_grt_up]
          exact hdd.sp rfl rfl
        refine sg_icmp_le 101 dX7_year_92 (by decide) (fun c3 => ?_) (fun c3 => ?_)
        · refine sg_iload_n dX7_year_101 rfl ?_
          refine hend _ _ ?_
          unfold sm_grow
          by_cases q : sp t + sp t * it / 100 < 10000
          · rw [if_pos q]
          · rw [if_neg q]
            rw [Int32.lt_iff_toInt_lt, ti_10000] at q
            rw [Int32.le_iff_toInt_le, ti_10000] at c3
            exact Int32.toInt_inj.mp (by rw [ti_10000]; omega)
        · refine sg_sipush 10000 dX7_year_95 (by decide) ?_
          refine sg_goto 102 dX7_year_98 (by decide) ?_
          refine hend _ _ ?_
          unfold sm_grow
          rw [if_neg]
          rw [Int32.lt_iff_toInt_lt, ti_10000]
          rw [Int32.le_iff_toInt_le, ti_10000] at c3
          omega
      · refine sg_goto 103 dX7_year_52 (by decide) ?_
        refine sg_iinc _ dX7_year_103 rfl (sm_inc t) (by decide) ?_
        refine sg_goto 28 dX7_year_106 (by decide) ?_
        refine ih (t + 1) M1 _ _ (by omega) hx ⟨I, A, hm, h7, ha, hbb, ht, hdd.ext (fun d hd q => ?_), hh⟩
        unfold sm_grt
        by_cases e : d < t
        · rw [if_pos e, if_pos (by omega)]
        · by_cases e2 : d = t
          · subst e2
            exact absurd q c2
          · rw [if_neg e, if_neg (by omega)]
theorem m_year (hdc : dc ≤ 60) (hyr : 0 ≤ yr.toInt ∧ yr.toInt ≤ 100) (hW : sm_W M th c ln fg fm ow nm r1 r2 r3 fame cu it yr τ dc ws to gr sp pd hb) : sm_Ct l b D cA yX7_year cX7_year 4 (some .int) 1 0 0 [.ref 23] M (fun r M1 => sm_ex M M1 sm_ml ∧ (yr.toInt < 100 → r = some (.int (yr + 1)) ∧ sm_W M1 0 c ln fg fm ow nm r1 r2 r3 fame cu it (yr + 1) τ dc ws to gr (sm_grt sp it dc) pd hb) ∧ (¬ yr.toInt < 100 → r = some (.int (-1)) ∧ sm_W M1 0 c ln fg fm ow nm r1 r2 r3 fame cu it yr τ dc ws to gr sp pd hb)) := by
  obtain ⟨I, A, hm, h7, ha, hbb, ht, hdd, hh⟩ := id hW
  obtain ⟨h23, h24, h25, h26, h27, h28, h29, h30, h31, h32, h33, h34, h35, h36, h37, h38, h39⟩ := id hm
  refine sm_enter (by decide +kernel) rfl (fun _ => Nat.le_of_ble_eq_true rfl) ?_
  refine sg_aload_n dX7_year_0 rfl ?_
  refine sg_iconst 0 dX7_year_1 (by decide) ?_
  refine sg_putx dX7_year_2 fl_X7_68 ft_X7_18 h23 (Nat.le_of_ble_eq_true rfl) (fun M2 x2 q2 => ?_)
  have W2 : sm_W M2 0 c ln fg fm ow nm r1 r2 r3 fame cu it yr τ dc ws to gr sp pd hb := ⟨upd I 7 0, A, hm.o x2 q2, rfl, ha, hbb, ht, hdd, hh⟩
  have X2 : sm_ex M M2 sm_ml := x2.mono (by decide)
  clear q2 x2 hh hdd ht hbb ha h7 hm h23 h24 h25 h26 h27 h28 h29 h30 h31 h32 h33 h34 h35 h36 h37 h38 h39
  obtain ⟨I, A, hm, h7, ha, hbb, ht, hdd, hh⟩ := id W2
  obtain ⟨h23, h24, h25, h26, h27, h28, h29, h30, h31, h32, h33, h34, h35, h36, h37, h38, h39⟩ := id hm
  refine sg_aload_n dX7_year_5 rfl ?_
  refine sg_get dX7_year_6 fl_X7_81 (by first | rfl | assumption) rfl ?_
  refine sg_bipush 100 dX7_year_9 (by decide) ?_
  rw [hbb.2.2.2.1]
  refine sg_icmp_ne 16 dX7_year_11 (by decide) (fun c1 => ?_) (fun c1 => ?_)
  · rw [← Int32.toInt_inj, ti_100] at c1
    refine sg_aload_n dX7_year_16 rfl ?_
    refine sg_dup dX7_year_17 rfl ?_
    refine sg_get dX7_year_18 fl_X7_81 (by first | rfl | assumption) rfl ?_
    refine sg_iconst 1 dX7_year_21 (by decide) ?_
    refine sg_iadd dX7_year_22 ?_
    rw [hbb.2.2.2.1]
    refine sg_putx dX7_year_23 fl_X7_81 ft_X7_14 h23 (Nat.le_of_ble_eq_true rfl) (fun M3 x3 q3 => ?_)
    refine sg_iconst (nI 0) dX7_year_26 (by decide) ?_
    refine sg_istore_n dX7_year_27 (by decide) ?_
    refine lp_myear (M := M3) (yr := yr) (sp := sp) hdc (fun M1 x1 W1 => ⟨X2.tr ((x3.mono (by decide)).tr x1), fun _ => ⟨rfl, W1⟩, fun q => absurd (by omega) q⟩) dc 0 M3 _ _ (by omega) sm_ex.rf ⟨upd I 5 (yr + 1), A, hm.o x3 q3, h7, ha, ⟨hbb.1, hbb.2.1, hbb.2.2.1, rfl, hbb.2.2.2.2⟩, ht, hdd.ext (fun d hd q => ?_), hh⟩
    unfold sm_grt
    rw [if_neg (by omega)]
  · rw [← Int32.toInt_inj, ti_100] at c1
    refine sg_iconst (-1) dX7_year_14 (by decide) ?_
    refine sg_ireturn dX7_year_15 rfl (Nat.le_of_ble_eq_true rfl) (Nat.le_of_ble_eq_true rfl) ?_
    exact ⟨X2, fun q => absurd q (by omega), fun _ => ⟨rfl, W2⟩⟩
theorem lp_mcount1 {w : Int32} {Post : Option Value → sm_M → Prop} (hc : c ≤ 40) (hln : ∀ t, t < c → ln t ≤ 80) (hW : sm_W M 0 c ln fg fm ow nm r1 r2 r3 fame cu it yr τ dc ws to gr sp pd hb) (hP : Post (some (.int (nI (sm_gone ln c)))) M) :
    ∀ (r k : Nat), k + r = c → sm_G l b D cA yX7_count cX7_count 4 (some .int) 1 0 0 Post 0 0 63 [some (.ref 23), some (.int w), some (.int (nI (sm_gone ln k))), some (.int (nI k))] [] M := by
  obtain ⟨I, A, hm, h7, ha, hbb, ht, hdd, hh⟩ := id hW
  obtain ⟨h23, h24, h25, h26, h27, h28, h29, h30, h31, h32, h33, h34, h35, h36, h37, h38, h39⟩ := id hm
  intro r
  induction r with
  | zero =>
    intro k hk
    have e : k = c := by omega
    subst e
    refine sg_iload_n dX7_count_63 rfl ?_
    refine sg_aload_n dX7_count_64 rfl ?_
    refine sg_get dX7_count_65 fl_X7_71 (by first | rfl | assumption) rfl ?_
    rw [ha.1]
    refine sg_icmp_ge 89 dX7_count_68 (by decide) (fun c1 => ?_) (fun c1 => ?_)
    · refine sg_iload_n dX7_count_89 rfl ?_
      refine sg_ireturn dX7_count_90 rfl (Nat.le_of_ble_eq_true rfl) (Nat.le_of_ble_eq_true rfl) ?_
      exact hP
    · exact absurd (nI_le (Nat.le_refl _) (by omega)) c1
  | succ r ih =>
    intro k hk
    have h80 := hln k (by omega)
    have ih2 := ih (k + 1) (by omega)
    rw [show sm_gone ln (k + 1) = sm_gone ln k + (if ln k = 0 then 1 else 0) from rfl] at ih2
    refine sg_iload_n dX7_count_63 rfl ?_
    refine sg_aload_n dX7_count_64 rfl ?_
    refine sg_get dX7_count_65 fl_X7_71 (by first | rfl | assumption) rfl ?_
    rw [ha.1]
    refine sg_icmp_ge 89 dX7_count_68 (by decide) (fun c1 => ?_) (fun c1 => ?_)
    · exact absurd c1 (nI_ge (by omega) (by omega))
    · refine sg_aload_n dX7_count_71 rfl ?_
      refine sg_get dX7_count_72 fl_X7_16 (by first | rfl | assumption) rfl ?_
      refine sg_iload_n dX7_count_75 rfl ?_
      refine sg_ald (k) dX7_count_76 (by first | rfl | assumption) (rfl) (by omega) (by decide) ?_
      rw [(ha.2 k (by omega)).1]
      refine sg_if_ne 83 dX7_count_77 (by decide) (fun c2 => ?_) (fun c2 => ?_)
      · rw [if_neg (fun q => c2 (by rw [q]; rfl))] at ih2
        refine sg_iinc _ dX7_count_83 rfl (sm_inc k) (by decide) ?_
        refine sg_goto 63 dX7_count_86 (by decide) ?_
        exact ih2
      · rw [← Int32.toInt_inj, nI_toInt (by omega), ti_0] at c2
        rw [if_pos (by omega)] at ih2
        refine sg_iinc _ dX7_count_80 rfl (sm_inc (sm_gone ln k)) (by decide) ?_
        refine sg_iinc _ dX7_count_83 rfl (sm_inc k) (by decide) ?_
        refine sg_goto 63 dX7_count_86 (by decide) ?_
        exact ih2
theorem lp_mcount3 {w : Int32} {Post : Option Value → sm_M → Prop} (hc : dc ≤ 60) (hW : sm_W M 0 c ln fg fm ow nm r1 r2 r3 fame cu it yr τ dc ws to gr sp pd hb) (hP : Post (some (.int (nI (sm_paid pd dc)))) M) :
    ∀ (r k : Nat), k + r = dc → sm_G l b D cA yX7_count cX7_count 4 (some .int) 1 0 0 Post 0 0 98 [some (.ref 23), some (.int w), some (.int (nI (sm_paid pd k))), some (.int (nI k))] [] M := by
  obtain ⟨I, A, hm, h7, ha, hbb, ht, hdd, hh⟩ := id hW
  obtain ⟨h23, h24, h25, h26, h27, h28, h29, h30, h31, h32, h33, h34, h35, h36, h37, h38, h39⟩ := id hm
  intro r
  induction r with
  | zero =>
    intro k hk
    have e : k = dc := by omega
    subst e
    refine sg_iload_n dX7_count_98 rfl ?_
    refine sg_aload_n dX7_count_99 rfl ?_
    refine sg_get dX7_count_100 fl_X7_148 (by first | rfl | assumption) rfl ?_
    rw [hdd.1]
    refine sg_icmp_ge 129 dX7_count_103 (by decide) (fun c1 => ?_) (fun c1 => ?_)
    · refine sg_iload_n dX7_count_129 rfl ?_
      refine sg_ireturn dX7_count_130 rfl (Nat.le_of_ble_eq_true rfl) (Nat.le_of_ble_eq_true rfl) ?_
      exact hP
    · exact absurd (nI_le (Nat.le_refl _) (by omega)) c1
  | succ r ih =>
    intro k hk
    have ih2 := ih (k + 1) (by omega)
    rw [show sm_paid pd (k + 1) = sm_paid pd k + (if pd k = -1 then 0 else 1) from rfl] at ih2
    refine sg_iload_n dX7_count_98 rfl ?_
    refine sg_aload_n dX7_count_99 rfl ?_
    refine sg_get dX7_count_100 fl_X7_148 (by first | rfl | assumption) rfl ?_
    rw [hdd.1]
    refine sg_icmp_ge 129 dX7_count_103 (by decide) (fun c1 => ?_) (fun c1 => ?_)
    · exact absurd c1 (nI_ge (by omega) (by omega))
    · refine sg_aload_n dX7_count_106 rfl ?_
      refine sg_get dX7_count_107 fl_X7_47 (by first | rfl | assumption) rfl ?_
      refine sg_iconst 5 dX7_count_110 (by decide) ?_
      refine sg_iload_n dX7_count_111 rfl ?_
      refine sg_imul dX7_count_112 ?_
      refine sg_iconst 4 dX7_count_113 (by decide) ?_
      refine sg_iadd dX7_count_114 ?_
      refine sg_ald (5 * k + 4) dX7_count_115 (by first | rfl | assumption) (sm_5 k 4) (by omega) (by decide) ?_
      refine sg_iconst (-1) dX7_count_116 (by decide) ?_
      rw [(hdd.2 k (by omega)).2.2.2.2]
      refine sg_icmp_eq 123 dX7_count_117 (by decide) (fun c2 => ?_) (fun c2 => ?_)
      · rw [if_pos c2] at ih2
        refine sg_iinc _ dX7_count_123 rfl (sm_inc k) (by decide) ?_
        refine sg_goto 98 dX7_count_126 (by decide) ?_
        exact ih2
      · rw [if_neg c2] at ih2
        refine sg_iinc _ dX7_count_120 rfl (sm_inc (sm_paid pd k)) (by decide) ?_
        refine sg_iinc _ dX7_count_123 rfl (sm_inc k) (by decide) ?_
        refine sg_goto 98 dX7_count_126 (by decide) ?_
        exact ih2
theorem lp_mcount6 {w : Int32} {Post : Option Value → sm_M → Prop} (hc : c ≤ 40) (hW : sm_W M 0 c ln fg fm ow nm r1 r2 r3 fame cu it yr τ dc ws to gr sp pd hb) (hP : Post (some (.int (nI (sm_sln ln c)))) M) :
    ∀ (r k : Nat), k + r = c → sm_G l b D cA yX7_count cX7_count 4 (some .int) 1 0 0 Post 0 0 143 [some (.ref 23), some (.int w), some (.int (nI (sm_sln ln k))), some (.int (nI k))] [] M := by
  obtain ⟨I, A, hm, h7, ha, hbb, ht, hdd, hh⟩ := id hW
  obtain ⟨h23, h24, h25, h26, h27, h28, h29, h30, h31, h32, h33, h34, h35, h36, h37, h38, h39⟩ := id hm
  intro r
  induction r with
  | zero =>
    intro k hk
    have e : k = c := by omega
    subst e
    refine sg_iload_n dX7_count_143 rfl ?_
    refine sg_aload_n dX7_count_144 rfl ?_
    refine sg_get dX7_count_145 fl_X7_71 (by first | rfl | assumption) rfl ?_
    rw [ha.1]
    refine sg_icmp_ge 166 dX7_count_148 (by decide) (fun c1 => ?_) (fun c1 => ?_)
    · refine sg_iload_n dX7_count_166 rfl ?_
      refine sg_ireturn dX7_count_167 rfl (Nat.le_of_ble_eq_true rfl) (Nat.le_of_ble_eq_true rfl) ?_
      exact hP
    · exact absurd (nI_le (Nat.le_refl _) (by omega)) c1
  | succ r ih =>
    intro k hk
    have ih2 := ih (k + 1) (by omega)
    rw [show sm_sln ln (k + 1) = sm_sln ln k + ln k from rfl, ← nI_add] at ih2
    refine sg_iload_n dX7_count_143 rfl ?_
    refine sg_aload_n dX7_count_144 rfl ?_
    refine sg_get dX7_count_145 fl_X7_71 (by first | rfl | assumption) rfl ?_
    rw [ha.1]
    refine sg_icmp_ge 166 dX7_count_148 (by decide) (fun c1 => ?_) (fun c1 => ?_)
    · exact absurd c1 (nI_ge (by omega) (by omega))
    · refine sg_iload_n dX7_count_151 rfl ?_
      refine sg_aload_n dX7_count_152 rfl ?_
      refine sg_get dX7_count_153 fl_X7_16 (by first | rfl | assumption) rfl ?_
      refine sg_iload_n dX7_count_156 rfl ?_
      refine sg_ald (k) dX7_count_157 (by first | rfl | assumption) (rfl) (by omega) (by decide) ?_
      rw [(ha.2 k (by omega)).1]
      refine sg_iadd dX7_count_158 ?_
      refine sg_istore_n dX7_count_159 (by decide) ?_
      refine sg_iinc _ dX7_count_160 rfl (sm_inc k) (by decide) ?_
      refine sg_goto 143 dX7_count_163 (by decide) ?_
      exact ih2
theorem m_count (w : Int32) (hc : c ≤ 40) (hdc : dc ≤ 60) (hln : ∀ t, t < c → ln t ≤ 80) (hW : sm_W M th c ln fg fm ow nm r1 r2 r3 fame cu it yr τ dc ws to gr sp pd hb) : sm_Ct l b D cA yX7_count cX7_count 4 (some .int) 1 0 0 [.ref 23, .int w] M (fun r M1 => r = some (.int (if w = 0 then nI c else if w = 1 then nI (sm_gone ln c) else if w = 2 then nI dc else if w = 3 then nI (sm_paid pd dc) else if w = 4 then yr else if w = 5 then nI τ.1 else if w = 6 then nI (sm_sln ln c) else if w = 7 then nI (hb 0 + hb 1 + hb 2 + hb 3 + hb 4) else -1)) ∧ sm_ex M M1 sm_ml ∧ sm_W M1 0 c ln fg fm ow nm r1 r2 r3 fame cu it yr τ dc ws to gr sp pd hb) := by
  obtain ⟨I, A, hm, h7, ha, hbb, ht, hdd, hh⟩ := id hW
  obtain ⟨h23, h24, h25, h26, h27, h28, h29, h30, h31, h32, h33, h34, h35, h36, h37, h38, h39⟩ := id hm
  refine sm_enter (by decide +kernel) rfl (fun _ => Nat.le_of_ble_eq_true rfl) ?_
  refine sg_aload_n dX7_count_0 rfl ?_
  refine sg_iconst 0 dX7_count_1 (by decide) ?_
  refine sg_putx dX7_count_2 fl_X7_68 ft_X7_18 h23 (Nat.le_of_ble_eq_true rfl) (fun M2 x2 q2 => ?_)
  have W2 : sm_W M2 0 c ln fg fm ow nm r1 r2 r3 fame cu it yr τ dc ws to gr sp pd hb := ⟨upd I 7 0, A, hm.o x2 q2, rfl, ha, hbb, ht, hdd, hh⟩
  have X2 : sm_ex M M2 sm_ml := x2.mono (by decide)
  clear q2 x2 hh hdd ht hbb ha h7 hm h23 h24 h25 h26 h27 h28 h29 h30 h31 h32 h33 h34 h35 h36 h37 h38 h39
  obtain ⟨I, A, hm, h7, ha, hbb, ht, hdd, hh⟩ := id W2
  obtain ⟨h23, h24, h25, h26, h27, h28, h29, h30, h31, h32, h33, h34, h35, h36, h37, h38, h39⟩ := id hm
  refine sg_iconst (nI 0) dX7_count_5 (by decide) ?_
  refine sg_istore_n dX7_count_6 (by decide) ?_
  refine sg_iload_n dX7_count_7 rfl ?_
  by_cases w0 : w = 0
  · subst w0
    rw [if_pos rfl]
    refine sg_tableIn (off := 48) 56 dX7_count_8 (by decide) (by decide) (by decide +kernel) (by decide) ?_
    refine sg_aload_n dX7_count_56 rfl ?_
    refine sg_get dX7_count_57 fl_X7_71 (by first | rfl | assumption) rfl ?_
    rw [ha.1]
    refine sg_ireturn dX7_count_60 rfl (Nat.le_of_ble_eq_true rfl) (Nat.le_of_ble_eq_true rfl) ?_
    exact ⟨rfl, X2, W2⟩
  · rw [if_neg w0]
    by_cases w1 : w = 1
    · subst w1
      rw [if_pos rfl]
      refine sg_tableIn (off := 53) 61 dX7_count_8 (by decide) (by decide) (by decide +kernel) (by decide) ?_
      refine sg_iconst (nI 0) dX7_count_61 (by decide) ?_
      refine sg_istore_n dX7_count_62 (by decide) ?_
      exact lp_mcount1 hc hln W2 ⟨rfl, X2, W2⟩ c 0 (by omega)
    · rw [if_neg w1]
      by_cases w2 : w = 2
      · subst w2
        rw [if_pos rfl]
        refine sg_tableIn (off := 83) 91 dX7_count_8 (by decide) (by decide) (by decide +kernel) (by decide) ?_
        refine sg_aload_n dX7_count_91 rfl ?_
        refine sg_get dX7_count_92 fl_X7_148 (by first | rfl | assumption) rfl ?_
        rw [hdd.1]
        refine sg_ireturn dX7_count_95 rfl (Nat.le_of_ble_eq_true rfl) (Nat.le_of_ble_eq_true rfl) ?_
        exact ⟨rfl, X2, W2⟩
      · rw [if_neg w2]
        by_cases w3 : w = 3
        · subst w3
          rw [if_pos rfl]
          refine sg_tableIn (off := 88) 96 dX7_count_8 (by decide) (by decide) (by decide +kernel) (by decide) ?_
          refine sg_iconst (nI 0) dX7_count_96 (by decide) ?_
          refine sg_istore_n dX7_count_97 (by decide) ?_
          exact lp_mcount3 hdc W2 ⟨rfl, X2, W2⟩ dc 0 (by omega)
        · rw [if_neg w3]
          by_cases w4 : w = 4
          · subst w4
            rw [if_pos rfl]
            refine sg_tableIn (off := 123) 131 dX7_count_8 (by decide) (by decide) (by decide +kernel) (by decide) ?_
            refine sg_aload_n dX7_count_131 rfl ?_
            refine sg_get dX7_count_132 fl_X7_81 (by first | rfl | assumption) rfl ?_
            rw [hbb.2.2.2.1]
            refine sg_ireturn dX7_count_135 rfl (Nat.le_of_ble_eq_true rfl) (Nat.le_of_ble_eq_true rfl) ?_
            exact ⟨rfl, X2, W2⟩
          · rw [if_neg w4]
            by_cases w5 : w = 5
            · subst w5
              rw [if_pos rfl]
              refine sg_tableIn (off := 128) 136 dX7_count_8 (by decide) (by decide) (by decide +kernel) (by decide) ?_
              refine sg_aload_n dX7_count_136 rfl ?_
              refine sg_get dX7_count_137 fl_X7_78 (by first | rfl | assumption) rfl ?_
              rw [ht.1]
              refine sg_ireturn dX7_count_140 rfl (Nat.le_of_ble_eq_true rfl) (Nat.le_of_ble_eq_true rfl) ?_
              exact ⟨rfl, X2, W2⟩
            · rw [if_neg w5]
              by_cases w6 : w = 6
              · subst w6
                rw [if_pos rfl]
                refine sg_tableIn (off := 133) 141 dX7_count_8 (by decide) (by decide) (by decide +kernel) (by decide) ?_
                refine sg_iconst (nI 0) dX7_count_141 (by decide) ?_
                refine sg_istore_n dX7_count_142 (by decide) ?_
                exact lp_mcount6 hc W2 ⟨rfl, X2, W2⟩ c 0 (by omega)
              · rw [if_neg w6]
                by_cases w7 : w = 7
                · subst w7
                  rw [if_pos rfl]
                  refine sg_tableIn (off := 160) 168 dX7_count_8 (by decide) (by decide) (by decide +kernel) (by decide) ?_
                  refine sg_aload_n dX7_count_168 rfl ?_
                  refine sg_V0 dX7_count_169 cv_X7_151 h23 (c_heaped hh hm) (Nat.le_of_ble_eq_true rfl) (Nat.le_of_ble_eq_true rfl) (Nat.le_of_ble_eq_true rfl) (Nat.le_of_ble_eq_true rfl) (fun r9 M9 hp => ?_)
                  obtain ⟨rfl, e9⟩ := hp
                  rw [e9]
                  refine sg_ireturn dX7_count_172 rfl (Nat.le_of_ble_eq_true rfl) (Nat.le_of_ble_eq_true rfl) ?_
                  exact ⟨rfl, X2, W2⟩
                · rw [if_neg w7]
                  rw [← Int32.toInt_inj, ti_0] at w0
                  rw [← Int32.toInt_inj, ti_1] at w1
                  rw [← Int32.toInt_inj, ti_2] at w2
                  rw [← Int32.toInt_inj, ti_3] at w3
                  rw [← Int32.toInt_inj, ti_4] at w4
                  rw [← Int32.toInt_inj, ti_5] at w5
                  rw [← Int32.toInt_inj, ti_6] at w6
                  rw [← Int32.toInt_inj, ti_7] at w7
                  refine sg_tableOut 173 dX7_count_8 (by omega) (by decide) ?_
                  refine sg_iconst (-1) dX7_count_173 (by decide) ?_
                  refine sg_ireturn dX7_count_174 rfl (Nat.le_of_ble_eq_true rfl) (Nat.le_of_ble_eq_true rfl) ?_
                  exact ⟨rfl, X2, W2⟩
theorem m_settle (d i : Int32) (hc : c ≤ 40) (hdc : dc ≤ 60) (hln : ∀ t, t < c → ln t ≤ 80) (hnm : ∀ t, t < c → 0 ≤ (nm t).toInt) (hgr : ∀ s, s < c → ∀ k, k < ln s → 0 ≤ (fg s k).toInt ∧ (fg s k).toInt < 5) (hyr : 0 ≤ yr.toInt) (hz : τ.1 ≤ 200) (hW : sm_W M th c ln fg fm ow nm r1 r2 r3 fame cu it yr τ dc ws to gr sp pd hb) : sm_Ct l b D cA yX7_settle cX7_settle 4 (some .boolean) 2 0 0 [.ref 23, .int d, .int i] M (fun r M1 => sm_ex M M1 sm_ml ∧ (sm_setlc c dc ln fg ow nm ws gr sp pd τ d i → r = some (.int 1) ∧ sm_W M1 0 c ln fg fm (va_up ow i.toInt.toNat (to d.toInt.toNat)) nm r1 r2 r3 fame cu it yr (sm_sayIf (nm i.toInt.toNat) 2 (to d.toInt.toNat) yr τ) dc ws to gr (va_up sp d.toInt.toNat 0) (va_up pd d.toInt.toNat yr) hb) ∧ (¬ sm_setlc c dc ln fg ow nm ws gr sp pd τ d i → r = some (.int 0) ∧ sm_W M1 0 c ln fg fm ow nm r1 r2 r3 fame cu it yr τ dc ws to gr sp pd hb)) := by
  have hy1 : ¬ yr = -1 := fun q => by
    rw [q, ti_m1] at hyr
    omega
  obtain ⟨I, A, hm, h7, ha, hbb, ht, hdd, hh⟩ := id hW
  obtain ⟨h23, h24, h25, h26, h27, h28, h29, h30, h31, h32, h33, h34, h35, h36, h37, h38, h39⟩ := id hm
  refine sm_enter (by decide +kernel) rfl (fun _ => Nat.le_of_ble_eq_true rfl) ?_
  refine sg_aload_n dX7_settle_0 rfl ?_
  refine sg_iconst 0 dX7_settle_1 (by decide) ?_
  refine sg_putx dX7_settle_2 fl_X7_68 ft_X7_18 h23 (Nat.le_of_ble_eq_true rfl) (fun M2 x2 q2 => ?_)
  have W2 : sm_W M2 0 c ln fg fm ow nm r1 r2 r3 fame cu it yr τ dc ws to gr sp pd hb := ⟨upd I 7 0, A, hm.o x2 q2, rfl, ha, hbb, ht, hdd, hh⟩
  have X2 : sm_ex M M2 sm_ml := x2.mono (by decide)
  clear q2 x2 hh hdd ht hbb ha h7 hm h23 h24 h25 h26 h27 h28 h29 h30 h31 h32 h33 h34 h35 h36 h37 h38 h39
  obtain ⟨I, A, hm, h7, ha, hbb, ht, hdd, hh⟩ := id W2
  obtain ⟨h23, h24, h25, h26, h27, h28, h29, h30, h31, h32, h33, h34, h35, h36, h37, h38, h39⟩ := id hm
  refine sg_iload_n dX7_settle_5 rfl ?_
  refine sg_iconst 0 dX7_settle_6 (by decide) ?_
  refine sg_aload_n dX7_settle_7 rfl ?_
  refine sg_get dX7_settle_8 fl_X7_148 (by first | rfl | assumption) rfl ?_
  refine sg_iconst 1 dX7_settle_11 (by decide) ?_
  refine sg_isub dX7_settle_12 ?_
  refine sg_S3 dX7_settle_13 cs_X7_74 (c_in _ _ _) (Nat.le_of_ble_eq_true rfl) (Nat.le_of_ble_eq_true rfl) (Nat.le_of_ble_eq_true rfl) (Nat.le_of_ble_eq_true rfl) (fun r M1 hp => ?_)
  obtain ⟨rfl, e9⟩ := hp; rw [e9]
  rw [hdd.1]
  refine sg_bf_eq 27 dX7_settle_16 (by decide) (fun c1 => ?_) (fun c1 => ?_)
  · rw [ti_0, sm_pred (by omega)] at c1
    refine sg_iconst 0 dX7_settle_27 (by decide) ?_
    refine sg_zreturn dX7_settle_28 rfl (by first | decide | assumption) (Nat.le_of_ble_eq_true rfl) (Nat.le_of_ble_eq_true rfl) ?_
    exact ⟨X2, fun q => absurd q.1 (by omega), fun _ => ⟨rfl, W2⟩⟩
  · rw [ti_0, sm_pred (by omega)] at c1
    have c1' : 0 ≤ d.toInt ∧ d.toInt < dc := by omega
    have hd := (sm_toN c1').2
    have hdn := (sm_toN c1').1
    obtain ⟨b0, b1, b2, b3, b4⟩ := hdd.2 _ hd
    have h5 : (5 : Int32) * d = nI (5 * d.toInt.toNat) := by
      rw [← sm_5z, ← hdn]
    refine sg_aload_n dX7_settle_19 rfl ?_
    refine sg_iload_n dX7_settle_20 rfl ?_
    refine sg_V1 dX7_settle_21 cv_X7_95 h23 (w_isThere i hc hln W2) (Nat.le_of_ble_eq_true rfl) (Nat.le_of_ble_eq_true rfl) (Nat.le_of_ble_eq_true rfl) (Nat.le_of_ble_eq_true rfl) (fun r M1 hp => ?_)
    obtain ⟨rfl, e9⟩ := hp; rw [e9]
    refine sg_bf_ne 29 dX7_settle_24 (by decide) (fun c2 => ?_) (fun c2 => ?_)
    · have hi := (sm_toN c2.1).2
      have hii := (sm_toN c2.1).1
      have h80 := hln _ hi
      have ni := hnm _ hi
      obtain ⟨e26, e27, e28, eN⟩ := ha.2 _ hi
      refine sg_iconst 5 dX7_settle_29 (by decide) ?_
      refine sg_iload_n dX7_settle_30 rfl ?_
      refine sg_imul dX7_settle_31 ?_
      rw [h5]
      refine sg_istore_n dX7_settle_32 (by decide) ?_
      refine sg_aload_n dX7_settle_33 rfl ?_
      refine sg_get dX7_settle_34 fl_X7_47 (by first | rfl | assumption) rfl ?_
      refine sg_iload_n dX7_settle_37 rfl ?_
      refine sg_iconst 4 dX7_settle_38 (by decide) ?_
      refine sg_iadd dX7_settle_39 ?_
      refine sg_ald (5 * d.toInt.toNat + 4) dX7_settle_40 (by first | rfl | assumption) (nI_add _ 4) (by omega) (by decide) ?_
      refine sg_iconst (-1) dX7_settle_41 (by decide) ?_
      rw [b4]
      refine sg_icmp_ne 120 dX7_settle_42 (by decide) (fun c3 => ?_) (fun c3 => ?_)
      · refine sg_iconst 0 dX7_settle_120 (by decide) ?_
        refine sg_zreturn dX7_settle_121 rfl (by first | decide | assumption) (Nat.le_of_ble_eq_true rfl) (Nat.le_of_ble_eq_true rfl) ?_
        exact ⟨X2, fun q => absurd q.2.2.1 c3, fun _ => ⟨rfl, W2⟩⟩
      · refine sg_aload_n dX7_settle_45 rfl ?_
        refine sg_get dX7_settle_46 fl_X7_19 (by first | rfl | assumption) rfl ?_
        refine sg_iload_n dX7_settle_49 rfl ?_
        refine sg_ald (i.toInt.toNat) dX7_settle_50 (by first | rfl | assumption) (hii) (by omega) (by decide) ?_
        refine sg_aload_n dX7_settle_51 rfl ?_
        refine sg_get dX7_settle_52 fl_X7_47 (by first | rfl | assumption) rfl ?_
        refine sg_iload_n dX7_settle_55 rfl ?_
        refine sg_ald (5 * d.toInt.toNat) dX7_settle_56 (by first | rfl | assumption) (rfl) (by omega) (by decide) ?_
        rw [e27, b0]
        refine sg_icmp_ne 120 dX7_settle_57 (by decide) (fun c4 => ?_) (fun c4 => ?_)
        · refine sg_iconst 0 dX7_settle_120 (by decide) ?_
          refine sg_zreturn dX7_settle_121 rfl (by first | decide | assumption) (Nat.le_of_ble_eq_true rfl) (Nat.le_of_ble_eq_true rfl) ?_
          exact ⟨X2, fun q => absurd q.2.2.2.1 c4, fun _ => ⟨rfl, W2⟩⟩
        · refine sg_aload_n dX7_settle_60 rfl ?_
          refine sg_get dX7_settle_61 fl_X7_16 (by first | rfl | assumption) rfl ?_
          refine sg_iload_n dX7_settle_64 rfl ?_
          refine sg_ald (i.toInt.toNat) dX7_settle_65 (by first | rfl | assumption) (hii) (by omega) (by decide) ?_
          refine sg_bipush 10 dX7_settle_66 (by decide) ?_
          refine sg_idiv dX7_settle_68 (by decide) ?_
          refine sg_aload_n dX7_settle_69 rfl ?_
          refine sg_get dX7_settle_70 fl_X7_47 (by first | rfl | assumption) rfl ?_
          refine sg_iload_n dX7_settle_73 rfl ?_
          refine sg_iconst 2 dX7_settle_74 (by decide) ?_
          refine sg_iadd dX7_settle_75 ?_
          refine sg_ald (5 * d.toInt.toNat + 2) dX7_settle_76 (by first | rfl | assumption) (nI_add _ 2) (by omega) (by decide) ?_
          rw [e26, b2 c3]
          refine sg_icmp_lt 120 dX7_settle_77 (by decide) (fun c5 => ?_) (fun c5 => ?_)
          · refine sg_iconst 0 dX7_settle_120 (by decide) ?_
            refine sg_zreturn dX7_settle_121 rfl (by first | decide | assumption) (Nat.le_of_ble_eq_true rfl) (Nat.le_of_ble_eq_true rfl) ?_
            exact ⟨X2, fun q => absurd c5 q.2.2.2.2.1, fun _ => ⟨rfl, W2⟩⟩
          · have key : sm_mleast (A 24) (80 * i.toInt.toNat + 0) (ln i.toInt.toNat) = sm_least (fg i.toInt.toNat) 0 (ln i.toInt.toNat) := by
              rw [(sm_least_ok (f := fg i.toInt.toNat) (a := 0) (ln i.toInt.toNat) (fun t ht => by rw [Nat.zero_add]; exact hgr _ hi t ht) c2.2).1]
              exact sm_mleast_sh _ (fun k hk => by rw [Nat.zero_add]; exact (eN k hk).1)
            refine sg_aload_n dX7_settle_80 rfl ?_
            refine sg_iload_n dX7_settle_81 rfl ?_
            refine sg_iconst 0 dX7_settle_82 (by decide) ?_
            refine sg_aload_n dX7_settle_83 rfl ?_
            refine sg_get dX7_settle_84 fl_X7_16 (by first | rfl | assumption) rfl ?_
            refine sg_iload_n dX7_settle_87 rfl ?_
            refine sg_ald (i.toInt.toNat) dX7_settle_88 (by first | rfl | assumption) (hii) (by omega) (by decide) ?_
            refine sg_V3 dX7_settle_89 cv_X7_116 h23 (c_leastOf (a := 0) (m := ln i.toInt.toNat) hii rfl (by rw [e26, Nat.zero_add]) (by omega) (by omega) hm) (Nat.le_of_ble_eq_true rfl) (Nat.le_of_ble_eq_true rfl) (Nat.le_of_ble_eq_true rfl) (Nat.le_of_ble_eq_true rfl) (fun r9 M9 hp => ?_)
            obtain ⟨rfl, e9⟩ := hp
            rw [e9, key]
            refine sg_aload_n dX7_settle_92 rfl ?_
            refine sg_get dX7_settle_93 fl_X7_47 (by first | rfl | assumption) rfl ?_
            refine sg_iload_n dX7_settle_96 rfl ?_
            refine sg_iconst 3 dX7_settle_97 (by decide) ?_
            refine sg_iadd dX7_settle_98 ?_
            refine sg_ald (5 * d.toInt.toNat + 3) dX7_settle_99 (by first | rfl | assumption) (nI_add _ 3) (by omega) (by decide) ?_
            rw [b3]
            refine sg_icmp_lt 120 dX7_settle_100 (by decide) (fun c6 => ?_) (fun c6 => ?_)
            · refine sg_iconst 0 dX7_settle_120 (by decide) ?_
              refine sg_zreturn dX7_settle_121 rfl (by first | decide | assumption) (Nat.le_of_ble_eq_true rfl) (Nat.le_of_ble_eq_true rfl) ?_
              exact ⟨X2, fun q => absurd c6 q.2.2.2.2.2.1, fun _ => ⟨rfl, W2⟩⟩
            · have hend : ∀ (Post : Option Value → sm_M → Prop), (nm i.toInt.toNat = 0 ∨ τ.1 < 200) → (∀ M1 : sm_M, sm_ex M2 M1 sm_ml → sm_W M1 0 c ln fg fm (va_up ow i.toInt.toNat (to d.toInt.toNat)) nm r1 r2 r3 fame cu it yr (sm_sayIf (nm i.toInt.toNat) 2 (to d.toInt.toNat) yr τ) dc ws to gr (va_up sp d.toInt.toNat 0) (va_up pd d.toInt.toNat yr) hb → Post (some (.int 1)) M1) → sm_G l b D cA yX7_settle cX7_settle 4 (some .boolean) 2 0 0 Post 0 0 122 [some (.ref 23), some (.int d), some (.int i), some (.int (nI (5 * d.toInt.toNat)))] [] M2 := fun Post hroom hP => by
                refine sg_aload_n dX7_settle_122 rfl ?_
                refine sg_iload_n dX7_settle_123 rfl ?_
                refine sg_aload_n dX7_settle_124 rfl ?_
                refine sg_get dX7_settle_125 fl_X7_47 (by first | rfl | assumption) rfl ?_
                refine sg_iload_n dX7_settle_128 rfl ?_
                refine sg_iconst 1 dX7_settle_129 (by decide) ?_
                refine sg_iadd dX7_settle_130 ?_
                refine sg_ald (5 * d.toInt.toNat + 1) dX7_settle_131 (by first | rfl | assumption) (nI_add _ 1) (by omega) (by decide) ?_
                rw [b1]
                refine sg_V2 dX7_settle_132 cv_X7_109 h23 (w_hand (to d.toInt.toNat) hii hi hc ni hroom hln W2) (Nat.le_of_ble_eq_true rfl) (Nat.le_of_ble_eq_true rfl) (Nat.le_of_ble_eq_true rfl) (Nat.le_of_ble_eq_true rfl) (fun r9 M6 hp => ?_)
                obtain ⟨rfl, x6, W6⟩ := hp
                clear h23 h24 h25 h26 h27 h28 h29 h30 h31 h32 h33 h34 h35 h36 h37 h38 h39
                obtain ⟨I, A, hm, h7, ha, hbb, ht, hdd, hh⟩ := id W6
                obtain ⟨h23, h24, h25, h26, h27, h28, h29, h30, h31, h32, h33, h34, h35, h36, h37, h38, h39⟩ := id hm
                refine sg_aload_n dX7_settle_135 rfl ?_
                refine sg_get dX7_settle_136 fl_X7_47 (by first | rfl | assumption) rfl ?_
                refine sg_iload_n dX7_settle_139 rfl ?_
                refine sg_iconst 4 dX7_settle_140 (by decide) ?_
                refine sg_iadd dX7_settle_141 ?_
                refine sg_aload_n dX7_settle_142 rfl ?_
                refine sg_get dX7_settle_143 fl_X7_81 (by first | rfl | assumption) rfl ?_
                rw [hbb.2.2.2.1]
                refine sg_astx (5 * d.toInt.toNat + 4) dX7_settle_146 h33 (nI_add _ 4) (by omega) (by decide) (fun M7 x7 g7 => ?_)
                refine sg_iconst 1 dX7_settle_147 (by decide) ?_
                refine sg_zreturn dX7_settle_148 rfl (by first | decide | assumption) (Nat.le_of_ble_eq_true rfl) (Nat.le_of_ble_eq_true rfl) ?_
                exact hP M7 (x6.tr (x7.mono (by decide))) ⟨I, _, hm.u33 x7 g7, h7, ha, hbb, ht, hdd.pd 0 hy1 rfl rfl, hh⟩
              refine sg_aload_n dX7_settle_103 rfl ?_
              refine sg_get dX7_settle_104 fl_X7_22 (by first | rfl | assumption) rfl ?_
              refine sg_iload_n dX7_settle_107 rfl ?_
              refine sg_ald (i.toInt.toNat) dX7_settle_108 (by first | rfl | assumption) (hii) (by omega) (by decide) ?_
              rw [e28]
              refine sg_if_le 122 dX7_settle_109 (by decide) (fun c7 => ?_) (fun c7 => ?_)
              · have c7' := (sm_nmz ni).mp c7
                exact hend _ (Or.inl c7') (fun M1 x1 W1 => ⟨X2.tr x1, fun _ => ⟨rfl, W1⟩, fun q => absurd ⟨c1', c2, c3, c4, c5, c6, by rw [if_pos c7']; exact hz⟩ q⟩)
              · have c7' : ¬ nm i.toInt.toNat = 0 := fun q => c7 ((sm_nmz ni).mpr q)
                refine sg_aload_n dX7_settle_112 rfl ?_
                refine sg_iconst 1 dX7_settle_113 (by decide) ?_
                refine sg_V1 dX7_settle_114 cv_X7_99 h23 (w_hasRoom 1 rfl (by omega) hz W2) (Nat.le_of_ble_eq_true rfl) (Nat.le_of_ble_eq_true rfl) (Nat.le_of_ble_eq_true rfl) (Nat.le_of_ble_eq_true rfl) (fun r9 M9 hp => ?_)
                obtain ⟨rfl, e9⟩ := hp
                rw [e9]
                refine sg_bf_ne 122 dX7_settle_117 (by decide) (fun c8 => ?_) (fun c8 => ?_)
                · exact hend _ (Or.inr (by omega)) (fun M1 x1 W1 => ⟨X2.tr x1, fun _ => ⟨rfl, W1⟩, fun q => absurd ⟨c1', c2, c3, c4, c5, c6, by rw [if_neg c7']; exact c8⟩ q⟩)
                · refine sg_iconst 0 dX7_settle_120 (by decide) ?_
                  refine sg_zreturn dX7_settle_121 rfl (by first | decide | assumption) (Nat.le_of_ble_eq_true rfl) (Nat.le_of_ble_eq_true rfl) ?_
                  exact ⟨X2, fun q => absurd q.2.2.2.2.2.2 (by rw [if_neg c7']; exact c8), fun _ => ⟨rfl, W2⟩⟩
    · refine sg_iconst 0 dX7_settle_27 (by decide) ?_
      refine sg_zreturn dX7_settle_28 rfl (by first | decide | assumption) (Nat.le_of_ble_eq_true rfl) (Nat.le_of_ble_eq_true rfl) ?_
      exact ⟨X2, fun q => absurd q.2.1 c2, fun _ => ⟨rfl, W2⟩⟩
end SM65
