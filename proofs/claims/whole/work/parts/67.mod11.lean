/-! the reference: strung, strings, part -/
theorem sm_gr5 (hb : Nat → Nat) (p : Nat) : sm_gr hb p < 5 := by
  unfold sm_gr
  repeat' split
  all_goals omega
abbrev sm_wbf (r1 r2 r3 r4 : Nat → Int32) (hb : Nat → Nat) : Nat → Nat → Int32 := fun a k => sm_wbl r1 r2 r3 r4 (sm_gr hb (a + k - 1)) (nI k)
def sm_wk (en : Nat → Nat) : Nat → Nat
  | 0 => 0
  | k + 1 => en (sm_wk en k)
section SM67
variable {l : Launch} {b : Nat} {D : va_G} {cA : Nat → ClassId} {M : sm_M}
variable {th : Int32} {c dc : Nat} {ln hb : Nat → Nat} {fg fm : Nat → Nat → Int32} {ow nm r1 r2 r3 r4 ws to gr sp pd : Nat → Int32} {fame cu it yr : Int32} {τ : sm_T5}
theorem w_string {n : Nat} (hn : n = hb 0 + hb 1 + hb 2 + hb 3 + hb 4) (hn60 : n ≤ 60) (hc : c ≤ 40) (hln : ∀ t, t < c → ln t ≤ 80) (hr3 : ∀ j, j < 5 → 1 ≤ (r3 j).toInt) (hr4 : ∀ j, j < 5 → r4 j = nI (sm_cg fg ln (nI j) c)) (hW : sm_W M th c ln fg fm ow nm r1 r2 r3 fame cu it yr τ dc ws to gr sp pd hb) : sm_Ct l b D cA yX7_string_ cX7_string_ 6 none 2 0 0 [.ref 23] M (fun r M1 => r = none ∧ sm_ex M M1 sm_ml ∧ sm_W M1 th c ln fg fm ow nm r1 r2 r3 fame cu it yr τ dc ws to gr sp pd hb ∧ ∃ f1 f2 f3 : Nat → Int32, M1[37]? = some (sm_i 61 (sm_mout (sm_wbf r1 r2 r3 r4 hb) n f1 f2 f3 n).1) ∧ M1[38]? = some (sm_i 61 (sm_mout (sm_wbf r1 r2 r3 r4 hb) n f1 f2 f3 n).2.1) ∧ M1[39]? = some (sm_i 61 (sm_mout (sm_wbf r1 r2 r3 r4 hb) n f1 f2 f3 n).2.2)) := by
  obtain ⟨I, A, hm, h7, ha, hbb, ht, hdd, hh⟩ := id hW
  obtain ⟨h23, h24, h25, h26, h27, h28, h29, h30, h31, h32, h33, h34, h35, h36, h37, h38, h39⟩ := id hm
  have hwb : sm_mwb A ln hb c = sm_wbf r1 r2 r3 r4 hb := by
    funext a k
    have e2 := sm_gr5 hb (a + k - 1)
    obtain ⟨b29, b30, b31⟩ := hbb.2.2.2.2 _ e2
    unfold sm_mwb sm_wbf sm_mbw sm_wbl
    rw [sm_cnt_cg (fg := fg) c (fun s hs k hk => ((ha.2 s hs).2.2.2 k hk).1), sm_mrate_eq b29 b31 (hr3 _ e2) (hr4 _ e2), b30]
  refine sm_Ct.post (c_mstring (l := l) (b := b) (D := D) (cA := cA) (c := c) (ln := ln) hn hn60 hh (fun j hj q => ?_) hc ha.1 (fun s hs => ⟨(ha.2 s hs).1, hln s hs⟩) hm) (fun r M1 hp => ?_)
  · have h3 := hr3 j hj
    rw [← (hbb.2.2.2.2 j hj).2.2, q, ti_0] at h3
    omega
  · obtain ⟨e, x, mm⟩ := hp
    rw [hwb] at mm
    obtain ⟨a23, a24, a25, a26, a27, a28, a29, a30, a31, a32, a33, a34, a35, a36, a37, a38, a39⟩ := id mm
    exact ⟨e, x.mono (by decide), ⟨_, _, mm, h7, ha, hbb, ht, hdd, hh⟩, A 37, A 38, A 39, a37, a38, a39⟩
theorem m_strung {n : Nat} (hn : n = hb 0 + hb 1 + hb 2 + hb 3 + hb 4) (hn60 : n ≤ 60) (hc : c ≤ 40) (hln : ∀ t, t < c → ln t ≤ 80) (hr3 : ∀ j, j < 5 → 1 ≤ (r3 j).toInt) (hr4 : ∀ j, j < 5 → r4 j = nI (sm_cg fg ln (nI j) c)) (hW : sm_W M th c ln fg fm ow nm r1 r2 r3 fame cu it yr τ dc ws to gr sp pd hb) : sm_Ct l b D cA yX7_strung cX7_strung 1 (some .int) 3 0 0 [.ref 23] M (fun r M1 => sm_ex M M1 sm_ml ∧ sm_W M1 0 c ln fg fm ow nm r1 r2 r3 fame cu it yr τ dc ws to gr sp pd hb ∧ ∃ f1 f2 f3 : Nat → Int32, r = some (.int ((sm_mout (sm_wbf r1 r2 r3 r4 hb) n f1 f2 f3 n).1 0))) := by
  obtain ⟨I, A, hm, h7, ha, hbb, ht, hdd, hh⟩ := id hW
  obtain ⟨h23, h24, h25, h26, h27, h28, h29, h30, h31, h32, h33, h34, h35, h36, h37, h38, h39⟩ := id hm
  refine sm_enter (by decide +kernel) rfl (fun _ => Nat.le_of_ble_eq_true rfl) ?_
  refine sg_aload_n dX7_strung_0 rfl ?_
  refine sg_iconst 0 dX7_strung_1 (by decide) ?_
  refine sg_putx dX7_strung_2 fl_X7_68 ft_X7_18 h23 (Nat.le_of_ble_eq_true rfl) (fun M2 x2 q2 => ?_)
  have W2 : sm_W M2 0 c ln fg fm ow nm r1 r2 r3 fame cu it yr τ dc ws to gr sp pd hb := ⟨upd I 7 0, A, hm.o x2 q2, rfl, ha, hbb, ht, hdd, hh⟩
  have X2 : sm_ex M M2 sm_ml := x2.mono (by decide)
  clear q2 x2 hh hdd ht hbb ha h7 hm h23 h24 h25 h26 h27 h28 h29 h30 h31 h32 h33 h34 h35 h36 h37 h38 h39
  obtain ⟨I, A, hm, h7, ha, hbb, ht, hdd, hh⟩ := id W2
  obtain ⟨h23, h24, h25, h26, h27, h28, h29, h30, h31, h32, h33, h34, h35, h36, h37, h38, h39⟩ := id hm
  refine sg_aload_n dX7_strung_5 rfl ?_
  refine sg_V0 dX7_strung_6 cv_X7_158 h23 (w_string (fg := fg) (r4 := r4) hn hn60 hc hln hr3 hr4 W2) (Nat.le_of_ble_eq_true rfl) (Nat.le_of_ble_eq_true rfl) (Nat.le_of_ble_eq_true rfl) (Nat.le_of_ble_eq_true rfl) (fun r9 M6 hp => ?_)
  obtain ⟨rfl, x6, W6, f1, f2, f3, q37, q38, q39⟩ := hp
  clear h23 h24 h25 h26 h27 h28 h29 h30 h31 h32 h33 h34 h35 h36 h37 h38 h39
  obtain ⟨I6, A6, m6, -⟩ := id W6
  have h23 := m6.1
  refine sg_aload_n dX7_strung_9 rfl ?_
  refine sg_get dX7_strung_10 fl_X7_59 (by first | rfl | assumption) rfl ?_
  refine sg_iconst 0 dX7_strung_13 (by decide) ?_
  refine sg_ald (0) dX7_strung_14 (by first | rfl | assumption) (rfl) (by omega) (by decide) ?_
  refine sg_ireturn dX7_strung_15 rfl (Nat.le_of_ble_eq_true rfl) (Nat.le_of_ble_eq_true rfl) ?_
  exact ⟨X2.tr x6, W6, f1, f2, f3, rfl⟩
theorem m_strings {n : Nat} (hn : n = hb 0 + hb 1 + hb 2 + hb 3 + hb 4) (hn60 : n ≤ 60) (hc : c ≤ 40) (hln : ∀ t, t < c → ln t ≤ 80) (hr3 : ∀ j, j < 5 → 1 ≤ (r3 j).toInt) (hr4 : ∀ j, j < 5 → r4 j = nI (sm_cg fg ln (nI j) c)) (hW : sm_W M th c ln fg fm ow nm r1 r2 r3 fame cu it yr τ dc ws to gr sp pd hb) : sm_Ct l b D cA yX7_strings cX7_strings 1 (some .int) 3 0 0 [.ref 23] M (fun r M1 => sm_ex M M1 sm_ml ∧ sm_W M1 0 c ln fg fm ow nm r1 r2 r3 fame cu it yr τ dc ws to gr sp pd hb ∧ ∃ f1 f2 f3 : Nat → Int32, r = some (.int ((sm_mout (sm_wbf r1 r2 r3 r4 hb) n f1 f2 f3 n).2.1 0))) := by
  obtain ⟨I, A, hm, h7, ha, hbb, ht, hdd, hh⟩ := id hW
  obtain ⟨h23, h24, h25, h26, h27, h28, h29, h30, h31, h32, h33, h34, h35, h36, h37, h38, h39⟩ := id hm
  refine sm_enter (by decide +kernel) rfl (fun _ => Nat.le_of_ble_eq_true rfl) ?_
  refine sg_aload_n dX7_strings_0 rfl ?_
  refine sg_iconst 0 dX7_strings_1 (by decide) ?_
  refine sg_putx dX7_strings_2 fl_X7_68 ft_X7_18 h23 (Nat.le_of_ble_eq_true rfl) (fun M2 x2 q2 => ?_)
  have W2 : sm_W M2 0 c ln fg fm ow nm r1 r2 r3 fame cu it yr τ dc ws to gr sp pd hb := ⟨upd I 7 0, A, hm.o x2 q2, rfl, ha, hbb, ht, hdd, hh⟩
  have X2 : sm_ex M M2 sm_ml := x2.mono (by decide)
  clear q2 x2 hh hdd ht hbb ha h7 hm h23 h24 h25 h26 h27 h28 h29 h30 h31 h32 h33 h34 h35 h36 h37 h38 h39
  obtain ⟨I, A, hm, h7, ha, hbb, ht, hdd, hh⟩ := id W2
  obtain ⟨h23, h24, h25, h26, h27, h28, h29, h30, h31, h32, h33, h34, h35, h36, h37, h38, h39⟩ := id hm
  refine sg_aload_n dX7_strings_5 rfl ?_
  refine sg_V0 dX7_strings_6 cv_X7_158 h23 (w_string (fg := fg) (r4 := r4) hn hn60 hc hln hr3 hr4 W2) (Nat.le_of_ble_eq_true rfl) (Nat.le_of_ble_eq_true rfl) (Nat.le_of_ble_eq_true rfl) (Nat.le_of_ble_eq_true rfl) (fun r9 M6 hp => ?_)
  obtain ⟨rfl, x6, W6, f1, f2, f3, q37, q38, q39⟩ := hp
  clear h23 h24 h25 h26 h27 h28 h29 h30 h31 h32 h33 h34 h35 h36 h37 h38 h39
  obtain ⟨I6, A6, m6, -⟩ := id W6
  have h23 := m6.1
  refine sg_aload_n dX7_strings_9 rfl ?_
  refine sg_get dX7_strings_10 fl_X7_62 (by first | rfl | assumption) rfl ?_
  refine sg_iconst 0 dX7_strings_13 (by decide) ?_
  refine sg_ald (0) dX7_strings_14 (by first | rfl | assumption) (rfl) (by omega) (by decide) ?_
  refine sg_ireturn dX7_strings_15 rfl (Nat.le_of_ble_eq_true rfl) (Nat.le_of_ble_eq_true rfl) ?_
  exact ⟨X2.tr x6, W6, f1, f2, f3, rfl⟩
theorem lp_mpart {n : Nat} {i : Int32} {iN : Nat} {pn en : Nat → Nat} {fe : Nat → Int32} {Post : Option Value → sm_M → Prop} (hi : i = nI iN) (hn60 : n ≤ 60) (hpi : iN < pn 0) (hp60 : pn 0 ≤ 60) (hfe : ∀ p, p < n → fe p = nI (en p)) (hen : ∀ p, p < n → p < en p ∧ en p ≤ n ∧ pn p = pn (en p) + 1) (hpn : pn n = 0)
    (h39 : M[39]? = some (sm_i 61 fe)) {I : Nat → Int32} (h23 : M[23]? = some (sm_mo I)) (hP : Post (some (.int (nI (en (sm_wk en iN) - sm_wk en iN)))) M) :
    ∀ (r k : Nat), k + r = iN → sm_wk en k < n → pn (sm_wk en k) + k = pn 0 → sm_G l b D cA yX7_part cX7_part 4 (some .int) 3 0 0 Post 0 0 31 [some (.ref 23), some (.int i), some (.int (nI (sm_wk en k))), some (.int (nI k))] [] M := by
  subst hi
  intro r
  induction r with
  | zero =>
    intro k hk hw hpk
    have e : k = iN := by omega
    subst e
    obtain ⟨g1, g2, g3⟩ := hen _ hw
    refine sg_iload_n dX7_part_31 rfl ?_
    refine sg_iload_n dX7_part_32 rfl ?_
    refine sg_icmp_ge 49 dX7_part_33 (by decide) (fun c1 => ?_) (fun c1 => ?_)
    · refine sg_aload_n dX7_part_49 rfl ?_
      refine sg_get dX7_part_50 fl_X7_65 (by first | rfl | assumption) rfl ?_
      refine sg_iload_n dX7_part_53 rfl ?_
      refine sg_ald (sm_wk en k) dX7_part_54 (by first | rfl | assumption) (rfl) (by omega) (by decide) ?_
      refine sg_iload_n dX7_part_55 rfl ?_
      rw [hfe _ hw]
      refine sg_isub dX7_part_56 ?_
      rw [pk_sub (by omega)]
      refine sg_ireturn dX7_part_57 rfl (Nat.le_of_ble_eq_true rfl) (Nat.le_of_ble_eq_true rfl) ?_
      exact hP
    · exact absurd (nI_le (Nat.le_refl _) (by omega)) c1
  | succ r ih =>
    intro k hk hw hpk
    obtain ⟨g1, g2, g3⟩ := hen _ hw
    have hne : en (sm_wk en k) ≠ n := fun q => by
      rw [q, hpn] at g3
      omega
    refine sg_iload_n dX7_part_31 rfl ?_
    refine sg_iload_n dX7_part_32 rfl ?_
    refine sg_icmp_ge 49 dX7_part_33 (by decide) (fun c1 => ?_) (fun c1 => ?_)
    · exact absurd c1 (nI_ge (by omega) (by omega))
    · refine sg_aload_n dX7_part_36 rfl ?_
      refine sg_get dX7_part_37 fl_X7_65 (by first | rfl | assumption) rfl ?_
      refine sg_iload_n dX7_part_40 rfl ?_
      refine sg_ald (sm_wk en k) dX7_part_41 (by first | rfl | assumption) (rfl) (by omega) (by decide) ?_
      rw [hfe _ hw]
      refine sg_istore_n dX7_part_42 (by decide) ?_
      refine sg_iinc _ dX7_part_43 rfl (sm_inc k) (by decide) ?_
      refine sg_goto 31 dX7_part_46 (by decide) ?_
      exact ih (k + 1) (by omega) (by show en (sm_wk en k) < n; omega) (by show pn (en (sm_wk en k)) + (k + 1) = pn 0; omega)
theorem m_part {n : Nat} {pn en : Nat → Nat} (i : Int32) (hn : n = hb 0 + hb 1 + hb 2 + hb 3 + hb 4) (hn60 : n ≤ 60) (hc : c ≤ 40) (hln : ∀ t, t < c → ln t ≤ 80) (hr3 : ∀ j, j < 5 → 1 ≤ (r3 j).toInt) (hr4 : ∀ j, j < 5 → r4 j = nI (sm_cg fg ln (nI j) c)) (hp60 : pn 0 ≤ 60) (hdp : ∀ f1 f2 f3 : Nat → Int32, (sm_mout (sm_wbf r1 r2 r3 r4 hb) n f1 f2 f3 n).2.1 0 = nI (pn 0) ∧ ∀ p, p < n → (sm_mout (sm_wbf r1 r2 r3 r4 hb) n f1 f2 f3 n).2.2 p = nI (en p)) (hen : ∀ p, p < n → p < en p ∧ en p ≤ n ∧ pn p = pn (en p) + 1) (hpn : pn n = 0) (hW : sm_W M th c ln fg fm ow nm r1 r2 r3 fame cu it yr τ dc ws to gr sp pd hb) : sm_Ct l b D cA yX7_part cX7_part 4 (some .int) 3 0 0 [.ref 23, .int i] M (fun r M1 => r = some (.int (if 0 ≤ i.toInt ∧ i.toInt < pn 0 then nI (en (sm_wk en i.toInt.toNat) - sm_wk en i.toInt.toNat) else -1)) ∧ sm_ex M M1 sm_ml ∧ sm_W M1 0 c ln fg fm ow nm r1 r2 r3 fame cu it yr τ dc ws to gr sp pd hb) := by
  obtain ⟨I, A, hm, h7, ha, hbb, ht, hdd, hh⟩ := id hW
  obtain ⟨h23, h24, h25, h26, h27, h28, h29, h30, h31, h32, h33, h34, h35, h36, h37, h38, h39⟩ := id hm
  refine sm_enter (by decide +kernel) rfl (fun _ => Nat.le_of_ble_eq_true rfl) ?_
  refine sg_aload_n dX7_part_0 rfl ?_
  refine sg_iconst 0 dX7_part_1 (by decide) ?_
  refine sg_putx dX7_part_2 fl_X7_68 ft_X7_18 h23 (Nat.le_of_ble_eq_true rfl) (fun M2 x2 q2 => ?_)
  have W2 : sm_W M2 0 c ln fg fm ow nm r1 r2 r3 fame cu it yr τ dc ws to gr sp pd hb := ⟨upd I 7 0, A, hm.o x2 q2, rfl, ha, hbb, ht, hdd, hh⟩
  have X2 : sm_ex M M2 sm_ml := x2.mono (by decide)
  clear q2 x2 hh hdd ht hbb ha h7 hm h23 h24 h25 h26 h27 h28 h29 h30 h31 h32 h33 h34 h35 h36 h37 h38 h39
  obtain ⟨I, A, hm, h7, ha, hbb, ht, hdd, hh⟩ := id W2
  obtain ⟨h23, h24, h25, h26, h27, h28, h29, h30, h31, h32, h33, h34, h35, h36, h37, h38, h39⟩ := id hm
  refine sg_aload_n dX7_part_5 rfl ?_
  refine sg_V0 dX7_part_6 cv_X7_158 h23 (w_string (fg := fg) (r4 := r4) hn hn60 hc hln hr3 hr4 W2) (Nat.le_of_ble_eq_true rfl) (Nat.le_of_ble_eq_true rfl) (Nat.le_of_ble_eq_true rfl) (Nat.le_of_ble_eq_true rfl) (fun r9 M6 hp => ?_)
  obtain ⟨rfl, x6, W6, f1, f2, f3, q37, q38, q39⟩ := hp
  clear h23 h24 h25 h26 h27 h28 h29 h30 h31 h32 h33 h34 h35 h36 h37 h38 h39
  obtain ⟨I6, A6, m6, -⟩ := id W6
  have h23 := m6.1
  obtain ⟨d1, d2⟩ := hdp f1 f2 f3
  refine sg_iload_n dX7_part_9 rfl ?_
  refine sg_iconst 0 dX7_part_10 (by decide) ?_
  refine sg_aload_n dX7_part_11 rfl ?_
  refine sg_get dX7_part_12 fl_X7_62 (by first | rfl | assumption) rfl ?_
  refine sg_iconst 0 dX7_part_15 (by decide) ?_
  refine sg_ald (0) dX7_part_16 (by first | rfl | assumption) (rfl) (by omega) (by decide) ?_
  refine sg_iconst 1 dX7_part_17 (by decide) ?_
  refine sg_isub dX7_part_18 ?_
  rw [d1]
  refine sg_S3 dX7_part_19 cs_X7_74 (c_in _ _ _) (Nat.le_of_ble_eq_true rfl) (Nat.le_of_ble_eq_true rfl) (Nat.le_of_ble_eq_true rfl) (Nat.le_of_ble_eq_true rfl) (fun r M1 hp => ?_)
  obtain ⟨rfl, e9⟩ := hp; rw [e9]
  refine sg_bf_ne 27 dX7_part_22 (by decide) (fun c1 => ?_) (fun c1 => ?_)
  · rw [ti_0, sm_pred (by omega)] at c1
    have c1' : 0 ≤ i.toInt ∧ i.toInt < pn 0 := by omega
    rw [if_pos c1']
    have hn0 : 0 < n := by
      rcases Nat.eq_zero_or_pos n with q | q
      · rw [q] at hpn
        omega
      · exact q
    refine sg_iconst (nI 0) dX7_part_27 (by decide) ?_
    refine sg_istore_n dX7_part_28 (by decide) ?_
    refine sg_iconst (nI 0) dX7_part_29 (by decide) ?_
    refine sg_istore_n dX7_part_30 (by decide) ?_
    exact lp_mpart (n := n) (pn := pn) (en := en) (sm_toN c1').1 hn60 (sm_toN c1').2 hp60 d2 hen hpn q39 h23 ⟨rfl, X2.tr x6, W6⟩ i.toInt.toNat 0 (by omega) hn0 rfl
  · rw [ti_0, sm_pred (by omega)] at c1
    refine sg_iconst (-1) dX7_part_25 (by decide) ?_
    refine sg_ireturn dX7_part_26 rfl (Nat.le_of_ble_eq_true rfl) (Nat.le_of_ble_eq_true rfl) ?_
    exact ⟨by rw [if_neg (by omega)], X2.tr x6, W6⟩
end SM67
