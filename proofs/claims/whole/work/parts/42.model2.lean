/-! the reference: say, put, newString, hand, heaped, gradeAt -/
def sm_msay (wh kd nu yr : Int32) (e : Nat) (f : Nat → Int32) : Nat → Int32 := upd (upd (upd (upd f (4 * e) wh) (4 * e + 1) kd) (4 * e + 2) nu) (4 * e + 3) yr
section SM42
variable {l : Launch} {b : Nat} {D : va_G} {cA : Nat → ClassId} {M : sm_M} {I : Nat → Int32} {A : Nat → Nat → Int32}
theorem c_say {e : Nat} (wh kd nu : Int32) (he : e < 200) (hI : I 4 = nI e) (h : sm_mm M I A) : sm_Ct l b D cA yX7_say cX7_say 5 none 0 0 0 [.ref 23, .int wh, .int kd, .int nu] M (fun r M1 => r = none ∧ sm_ex M M1 [23, 32] ∧ sm_mm M1 (upd I 4 (nI (e + 1))) (sm_uA A 32 (sm_msay wh kd nu (I 5) e (A 32)))) := by
  obtain ⟨h23, h24, h25, h26, h27, h28, h29, h30, h31, h32, -⟩ := id h
  refine sm_enter (by decide +kernel) rfl (fun _ => Nat.le_of_ble_eq_true rfl) ?_
  refine sg_iconst 4 dX7_say_0 (by decide) ?_
  refine sg_aload_n dX7_say_1 rfl ?_
  refine sg_get dX7_say_2 fl_X7_78 (by first | rfl | assumption) rfl ?_
  refine sg_imul dX7_say_5 ?_
  rw [hI, show (4 : Int32) = nI 4 from by decide, pk_mul]
  refine sg_istore dX7_say_6 (by decide) ?_
  refine sg_aload_n dX7_say_8 rfl ?_
  refine sg_get dX7_say_9 fl_X7_44 (by first | rfl | assumption) rfl ?_
  refine sg_iload dX7_say_12 rfl ?_
  refine sg_iload_n dX7_say_14 rfl ?_
  refine sg_astx (4 * e) dX7_say_15 h32 rfl (by omega) (by decide) (fun M1 x1 g1 => ?_)
  have a23 := (x1.2 23 (by decide)).trans h23
  refine sg_aload_n dX7_say_16 rfl ?_
  refine sg_get dX7_say_17 fl_X7_44 (by first | rfl | assumption) rfl ?_
  refine sg_iload dX7_say_20 rfl ?_
  refine sg_iconst 1 dX7_say_22 (by decide) ?_
  refine sg_iadd dX7_say_23 ?_
  rw [nI_1]
  refine sg_iload_n dX7_say_24 rfl ?_
  refine sg_astx (4 * e + 1) dX7_say_25 g1 rfl (by omega) (by decide) (fun M2 x2 g2 => ?_)
  have b23 := (x2.2 23 (by decide)).trans a23
  refine sg_aload_n dX7_say_26 rfl ?_
  refine sg_get dX7_say_27 fl_X7_44 (by first | rfl | assumption) rfl ?_
  refine sg_iload dX7_say_30 rfl ?_
  refine sg_iconst 2 dX7_say_32 (by decide) ?_
  refine sg_iadd dX7_say_33 ?_
  rw [show (2 : Int32) = nI 2 from by decide, nI_add]
  refine sg_iload_n dX7_say_34 rfl ?_
  refine sg_astx (4 * e + 2) dX7_say_35 g2 rfl (by omega) (by decide) (fun M3 x3 g3 => ?_)
  have c23 := (x3.2 23 (by decide)).trans b23
  refine sg_aload_n dX7_say_36 rfl ?_
  refine sg_get dX7_say_37 fl_X7_44 (by first | rfl | assumption) rfl ?_
  refine sg_iload dX7_say_40 rfl ?_
  refine sg_iconst 3 dX7_say_42 (by decide) ?_
  refine sg_iadd dX7_say_43 ?_
  rw [show (3 : Int32) = nI 3 from by decide, nI_add]
  refine sg_aload_n dX7_say_44 rfl ?_
  refine sg_get dX7_say_45 fl_X7_81 (by first | rfl | assumption) rfl ?_
  refine sg_astx (4 * e + 3) dX7_say_48 g3 rfl (by omega) (by decide) (fun M4 x4 g4 => ?_)
  have xx := x1.tr (x2.tr (x3.tr x4))
  have hm := h.u32 xx g4
  have d23 := hm.1
  refine sg_aload_n dX7_say_49 rfl ?_
  refine sg_dup dX7_say_50 rfl ?_
  refine sg_get dX7_say_51 fl_X7_78 (by first | rfl | assumption) rfl ?_
  refine sg_iconst 1 dX7_say_54 (by decide) ?_
  refine sg_iadd dX7_say_55 ?_
  rw [hI, nI_1]
  refine sg_putx dX7_say_56 fl_X7_78 ft_X7_13 d23 (Nat.le_of_ble_eq_true rfl) (fun M5 x5 q5 => ?_)
  refine sg_return dX7_say_59 rfl (Nat.le_of_ble_eq_true rfl) (Nat.le_of_ble_eq_true rfl) ?_
  exact ⟨rfl, (xx.mono (by decide)).tr (x5.mono (by decide)), hm.o x5 q5⟩
theorem c_newString {c : Nat} (o : Int32) (hc : c < 40) (hI : I 0 = nI c) (h : sm_mm M I A) : sm_Ct l b D cA yX7_newString cX7_newString 2 (some .int) 0 0 0 [.ref 23, .int o] M (fun r M1 => r = some (.int (nI c)) ∧ sm_ex M M1 [23, 26, 27, 28] ∧ sm_mm M1 (upd I 0 (nI (c + 1))) (sm_uA (sm_uA (sm_uA A 26 (upd (A 26) c 0)) 27 (upd (A 27) c o)) 28 (upd (A 28) c 0))) := by
  obtain ⟨h23, h24, h25, h26, h27, h28, -⟩ := id h
  refine sm_enter (by decide +kernel) rfl (fun _ => Nat.le_of_ble_eq_true rfl) ?_
  refine sg_aload_n dX7_newString_0 rfl ?_
  refine sg_get dX7_newString_1 fl_X7_16 (by first | rfl | assumption) rfl ?_
  refine sg_aload_n dX7_newString_4 rfl ?_
  refine sg_get dX7_newString_5 fl_X7_71 (by first | rfl | assumption) rfl ?_
  refine sg_iconst 0 dX7_newString_8 (by decide) ?_
  refine sg_astx c dX7_newString_9 h26 hI hc (by decide) (fun M1 x1 g1 => ?_)
  have m1 := h.u26 x1 g1
  obtain ⟨h23, h24, h25, h26, h27, h28, -⟩ := id m1
  refine sg_aload_n dX7_newString_10 rfl ?_
  refine sg_get dX7_newString_11 fl_X7_19 (by first | rfl | assumption) rfl ?_
  refine sg_aload_n dX7_newString_14 rfl ?_
  refine sg_get dX7_newString_15 fl_X7_71 (by first | rfl | assumption) rfl ?_
  refine sg_iload_n dX7_newString_18 rfl ?_
  refine sg_astx c dX7_newString_19 h27 hI hc (by decide) (fun M2 x2 g2 => ?_)
  have m2 := m1.u27 x2 g2
  obtain ⟨h23, h24, h25, h26, h27, h28, -⟩ := id m2
  refine sg_aload_n dX7_newString_20 rfl ?_
  refine sg_get dX7_newString_21 fl_X7_22 (by first | rfl | assumption) rfl ?_
  refine sg_aload_n dX7_newString_24 rfl ?_
  refine sg_get dX7_newString_25 fl_X7_71 (by first | rfl | assumption) rfl ?_
  refine sg_iconst 0 dX7_newString_28 (by decide) ?_
  refine sg_astx c dX7_newString_29 h28 hI hc (by decide) (fun M3 x3 g3 => ?_)
  have m3 := m2.u28 x3 g3
  have d23 := m3.1
  refine sg_aload_n dX7_newString_30 rfl ?_
  refine sg_dup dX7_newString_31 rfl ?_
  refine sg_get dX7_newString_32 fl_X7_71 (by first | rfl | assumption) rfl ?_
  refine sg_iconst 1 dX7_newString_35 (by decide) ?_
  refine sg_iadd dX7_newString_36 ?_
  rw [hI, nI_1]
  refine sg_putx dX7_newString_37 fl_X7_71 ft_X7_5 d23 (Nat.le_of_ble_eq_true rfl) (fun M4 x4 q4 => ?_)
  refine sg_aload_n dX7_newString_40 rfl ?_
  refine sg_get dX7_newString_41 fl_X7_71 (by first | rfl | assumption) rfl ?_
  refine sg_iconst 1 dX7_newString_44 (by decide) ?_
  refine sg_isub dX7_newString_45 ?_
  rw [nI_pred]
  refine sg_ireturn dX7_newString_46 rfl (Nat.le_of_ble_eq_true rfl) (Nat.le_of_ble_eq_true rfl) ?_
  exact ⟨rfl, (x1.mono (by decide)).tr ((x2.mono (by decide)).tr ((x3.mono (by decide)).tr (x4.mono (by decide)))), m3.o x4 q4⟩
theorem c_hand {e s : Nat} {x : Int32} (o : Int32) (hx : x = nI s) (hs : s < 40) (he : A 28 s ≤ 0 ∨ e < 200) (hI : I 4 = nI e) (h : sm_mm M I A) : sm_Ct l b D cA yX7_hand cX7_hand 3 none 1 0 0 [.ref 23, .int x, .int o] M (fun r M1 => r = none ∧ sm_ex M M1 [23, 27, 32] ∧ sm_mm M1 (if A 28 s ≤ 0 then I else upd I 4 (nI (e + 1))) (if A 28 s ≤ 0 then sm_uA A 27 (upd (A 27) s o) else sm_uA (sm_uA A 27 (upd (A 27) s o)) 32 (sm_msay (A 28 s) 2 o (I 5) e (A 32)))) := by
  subst hx
  obtain ⟨h23, h24, h25, h26, h27, h28, -⟩ := id h
  refine sm_enter (by decide +kernel) rfl (fun _ => Nat.le_of_ble_eq_true rfl) ?_
  refine sg_aload_n dX7_hand_0 rfl ?_
  refine sg_get dX7_hand_1 fl_X7_19 (by first | rfl | assumption) rfl ?_
  refine sg_iload_n dX7_hand_4 rfl ?_
  refine sg_iload_n dX7_hand_5 rfl ?_
  refine sg_astx s dX7_hand_6 h27 rfl hs (by decide) (fun M1 x1 g1 => ?_)
  have m1 := h.u27 x1 g1
  have a23 := (x1.2 23 (by decide)).trans h23
  have a28 := (x1.2 28 (by decide)).trans h28
  refine sg_aload_n dX7_hand_7 rfl ?_
  refine sg_get dX7_hand_8 fl_X7_22 (by first | rfl | assumption) rfl ?_
  refine sg_iload_n dX7_hand_11 rfl ?_
  refine sg_ald (s) dX7_hand_12 (by first | rfl | assumption) (rfl) (hs) (by decide) ?_
  refine sg_if_le 28 dX7_hand_13 (by decide) (fun c => ?_) (fun c => ?_)
  · refine sg_return dX7_hand_28 rfl (Nat.le_of_ble_eq_true rfl) (Nat.le_of_ble_eq_true rfl) ?_
    exact ⟨rfl, x1.mono (by decide), by rw [if_pos c, if_pos c]; exact m1⟩
  · refine sg_aload_n dX7_hand_16 rfl ?_
    refine sg_aload_n dX7_hand_17 rfl ?_
    refine sg_get dX7_hand_18 fl_X7_22 (by first | rfl | assumption) rfl ?_
    refine sg_iload_n dX7_hand_21 rfl ?_
    refine sg_ald (s) dX7_hand_22 (by first | rfl | assumption) (rfl) (hs) (by decide) ?_
    refine sg_iconst 2 dX7_hand_23 (by decide) ?_
    refine sg_iload_n dX7_hand_24 rfl ?_
    refine sg_V3 dX7_hand_25 cv_X7_102 a23 (c_say (A 28 s) 2 o (he.elim (fun q => absurd q c) id) hI m1) (Nat.le_of_ble_eq_true rfl) (Nat.le_of_ble_eq_true rfl) (Nat.le_of_ble_eq_true rfl) (Nat.le_of_ble_eq_true rfl) (fun r9 M9 hp => ?_)
    obtain ⟨rfl, x9, m9⟩ := hp
    refine sg_return dX7_hand_28 rfl (Nat.le_of_ble_eq_true rfl) (Nat.le_of_ble_eq_true rfl) ?_
    exact ⟨rfl, (x1.mono (by decide)).tr (x9.mono (by decide)), by rw [if_neg c, if_neg c]; exact m9⟩
/-- put: k beads of one kind behind the n0 of string s -/
theorem lp_put {s n0 k : Nat} {g m : Int32} {Post : Option Value → sm_M → Prop} (hs : s < 40) (hk : n0 + k ≤ 80)
    (hP : ∀ M1 : sm_M, sm_ex M M1 [24, 25, 26] → sm_mm M1 I (sm_uA (sm_uA (sm_uA A 24 (fun j => if 80 * s + n0 ≤ j ∧ j < 80 * s + n0 + k then g else A 24 j)) 25 (fun j => if 80 * s + n0 ≤ j ∧ j < 80 * s + n0 + k then m else A 25 j)) 26 (upd (A 26) s (nI (n0 + k)))) → Post none M1) :
    ∀ (r t : Nat) (M1 : sm_M), t + r = k → sm_ex M M1 [24, 25, 26] → sm_mm M1 I (sm_uA (sm_uA (sm_uA A 24 (fun j => if 80 * s + n0 ≤ j ∧ j < 80 * s + n0 + t then g else A 24 j)) 25 (fun j => if 80 * s + n0 ≤ j ∧ j < 80 * s + n0 + t then m else A 25 j)) 26 (upd (A 26) s (nI (n0 + t)))) → sm_G l b D cA yX7_put cX7_put 6 none 0 0 0 Post 0 0 3 [some (.ref 23), some (.int (nI s)), some (.int g), some (.int m), some (.int (nI k)), some (.int (nI t))] [] M1 := by
  intro r
  induction r with
  | zero =>
    intro t M1 ht hx h
    have e : t = k := by omega
    subst e
    refine sg_iload dX7_put_3 rfl ?_
    refine sg_iload dX7_put_5 rfl ?_
    refine sg_icmp_ge 60 dX7_put_7 (by decide) (fun c => ?_) (fun c => ?_)
    · refine sg_return dX7_put_60 rfl (Nat.le_of_ble_eq_true rfl) (Nat.le_of_ble_eq_true rfl) ?_
      exact hP M1 hx h
    · exact absurd (nI_le (Nat.le_refl _) (by omega)) c
  | succ r ih =>
    intro t M1 ht hx h
    obtain ⟨h23, h24, h25, h26, h27, h28, h29, h30, h31, h32, h33, h34, h35, h36, h37, h38, h39⟩ := id h
    have e26 : ∀ B : Nat → Nat → Int32, sm_uA B 26 (upd (A 26) s (nI (n0 + t))) 26 s = nI (n0 + t) := fun B => by
      rw [sm_uAe, sm_upeq]
    refine sg_iload dX7_put_3 rfl ?_
    refine sg_iload dX7_put_5 rfl ?_
    refine sg_icmp_ge 60 dX7_put_7 (by decide) (fun c => ?_) (fun c => ?_)
    · exact absurd c (nI_ge (by omega) (by omega))
    · refine sg_aload_n dX7_put_10 rfl ?_
      refine sg_get dX7_put_11 fl_X7_9 (by first | rfl | assumption) rfl ?_
      refine sg_bipush 80 dX7_put_14 (by decide) ?_
      refine sg_iload_n dX7_put_16 rfl ?_
      refine sg_imul dX7_put_17 ?_
      refine sg_aload_n dX7_put_18 rfl ?_
      refine sg_get dX7_put_19 fl_X7_16 (by first | rfl | assumption) rfl ?_
      refine sg_iload_n dX7_put_22 rfl ?_
      refine sg_ald (s) dX7_put_23 (by first | rfl | assumption) (rfl) (hs) (by decide) ?_
      refine sg_iadd dX7_put_24 ?_
      rw [e26, sm_80]
      refine sg_iload_n dX7_put_25 rfl ?_
      refine sg_astx (80 * s + n0 + t) dX7_put_26 h24 (by rw [Nat.add_assoc]) (by omega) (by decide) (fun M2 x2 g2 => ?_)
      have a23 := (x2.2 23 (by decide)).trans h23
      have a25 := (x2.2 25 (by decide)).trans h25
      have a26 := (x2.2 26 (by decide)).trans h26
      refine sg_aload_n dX7_put_27 rfl ?_
      refine sg_get dX7_put_28 fl_X7_13 (by first | rfl | assumption) rfl ?_
      refine sg_bipush 80 dX7_put_31 (by decide) ?_
      refine sg_iload_n dX7_put_33 rfl ?_
      refine sg_imul dX7_put_34 ?_
      refine sg_aload_n dX7_put_35 rfl ?_
      refine sg_get dX7_put_36 fl_X7_16 (by first | rfl | assumption) rfl ?_
      refine sg_iload_n dX7_put_39 rfl ?_
      refine sg_ald (s) dX7_put_40 (by first | rfl | assumption) (rfl) (hs) (by decide) ?_
      refine sg_iadd dX7_put_41 ?_
      rw [e26, sm_80]
      refine sg_iload_n dX7_put_42 rfl ?_
      refine sg_astx (80 * s + n0 + t) dX7_put_43 a25 (by rw [Nat.add_assoc]) (by omega) (by decide) (fun M3 x3 g3 => ?_)
      have b23 := (x3.2 23 (by decide)).trans a23
      have b24 := (x3.2 24 (by decide)).trans g2
      have b26 := (x3.2 26 (by decide)).trans a26
      refine sg_aload_n dX7_put_44 rfl ?_
      refine sg_get dX7_put_45 fl_X7_16 (by first | rfl | assumption) rfl ?_
      refine sg_iload_n dX7_put_48 rfl ?_
      refine sg_dup2 dX7_put_49 rfl rfl ?_
      refine sg_ald (s) dX7_put_50 (by first | rfl | assumption) (rfl) (hs) (by decide) ?_
      refine sg_iconst 1 dX7_put_51 (by decide) ?_
      refine sg_iadd dX7_put_52 ?_
      rw [e26, nI_1]
      refine sg_astx s dX7_put_53 b26 rfl hs (by decide) (fun M4 x4 g4 => ?_)
      have c24 := (x4.2 24 (by decide)).trans b24
      have c25 := (x4.2 25 (by decide)).trans g3
      have xx := (x2.mono (ys := [24, 25, 26]) (by decide)).tr ((x3.mono (by decide)).tr (x4.mono (by decide)))
      rw [show sm_uA (sm_uA (sm_uA A 24 (fun j => if 80 * s + n0 ≤ j ∧ j < 80 * s + n0 + t then g else A 24 j)) 25 (fun j => if 80 * s + n0 ≤ j ∧ j < 80 * s + n0 + t then m else A 25 j)) 26 (upd (A 26) s (nI (n0 + t))) 24 = fun j => if 80 * s + n0 ≤ j ∧ j < 80 * s + n0 + t then g else A 24 j from rfl, sm_fill] at c24
      rw [show sm_uA (sm_uA (sm_uA A 24 (fun j => if 80 * s + n0 ≤ j ∧ j < 80 * s + n0 + t then g else A 24 j)) 25 (fun j => if 80 * s + n0 ≤ j ∧ j < 80 * s + n0 + t then m else A 25 j)) 26 (upd (A 26) s (nI (n0 + t))) 25 = fun j => if 80 * s + n0 ≤ j ∧ j < 80 * s + n0 + t then m else A 25 j from rfl, sm_fill] at c25
      rw [show sm_uA (sm_uA (sm_uA A 24 (fun j => if 80 * s + n0 ≤ j ∧ j < 80 * s + n0 + t then g else A 24 j)) 25 (fun j => if 80 * s + n0 ≤ j ∧ j < 80 * s + n0 + t then m else A 25 j)) 26 (upd (A 26) s (nI (n0 + t))) 26 = upd (A 26) s (nI (n0 + t)) from rfl, sm_updd] at g4
      refine sg_iinc _ dX7_put_54 rfl (sm_inc t) (by decide) ?_
      refine sg_goto 3 dX7_put_57 (by decide) ?_
      refine ih (t + 1) M4 (by omega) (hx.tr xx) ⟨(xx.2 23 (by decide)).trans h23, c24, c25, g4, (xx.2 27 (by decide)).trans h27, (xx.2 28 (by decide)).trans h28, (xx.2 29 (by decide)).trans h29, (xx.2 30 (by decide)).trans h30, (xx.2 31 (by decide)).trans h31, (xx.2 32 (by decide)).trans h32, (xx.2 33 (by decide)).trans h33, (xx.2 34 (by decide)).trans h34, (xx.2 35 (by decide)).trans h35, (xx.2 36 (by decide)).trans h36, (xx.2 37 (by decide)).trans h37, (xx.2 38 (by decide)).trans h38, (xx.2 39 (by decide)).trans h39⟩
theorem c_put {s n0 k : Nat} {x cnt : Int32} (g m : Int32) (hx : x = nI s) (hc : cnt = nI k) (hs : s < 40) (hk : n0 + k ≤ 80) (hA : A 26 s = nI n0) (h : sm_mm M I A) : sm_Ct l b D cA yX7_put cX7_put 6 none 0 0 0 [.ref 23, .int x, .int g, .int m, .int cnt] M (fun r M1 => r = none ∧ sm_ex M M1 [24, 25, 26] ∧ sm_mm M1 I (sm_uA (sm_uA (sm_uA A 24 (fun j => if 80 * s + n0 ≤ j ∧ j < 80 * s + n0 + k then g else A 24 j)) 25 (fun j => if 80 * s + n0 ≤ j ∧ j < 80 * s + n0 + k then m else A 25 j)) 26 (upd (A 26) s (nI (n0 + k))))) := by
  subst hx
  subst hc
  refine sm_enter (by decide +kernel) rfl (fun _ => Nat.le_of_ble_eq_true rfl) ?_
  refine sg_iconst (nI 0) dX7_put_0 (by decide) ?_
  refine sg_istore dX7_put_1 (by decide) ?_
  refine lp_put (M := M) hs hk (fun M1 h1 h2 => ⟨rfl, h1, h2⟩) k 0 M (by omega) sm_ex.rf ?_
  have e0 : ∀ (f : Nat → Int32) (v : Int32), (fun j => if 80 * s + n0 ≤ j ∧ j < 80 * s + n0 + 0 then v else f j) = f := fun f v => by
    funext j
    rw [if_neg (by omega)]
  have e1 : upd (A 26) s (nI (n0 + 0)) = A 26 := by
    funext j
    unfold upd
    by_cases hj : j = s
    · rw [if_pos hj, hj, hA]
      rfl
    · rw [if_neg hj]
  have e2 : ∀ (k : Nat), sm_uA A k (A k) = A := fun k => by
    funext j
    unfold sm_uA
    by_cases hj : j = k
    · rw [if_pos hj, hj]
    · rw [if_neg hj]
  rw [e0, e0, e1, e2, e2, e2]
  exact h
end SM42
