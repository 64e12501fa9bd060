/-! the reference: its cells; what it reads -/
abbrev sm_mo (I : Nat → Int32) : Option sm_C := sm_o 7 [.ref 24, .ref 25, .ref 26, .ref 27, .ref 28, .int (I 0), .ref 29, .ref 30, .ref 31, .int (I 1), .int (I 2), .int (I 3), .ref 32, .int (I 4), .int (I 5), .ref 33, .int (I 6), .ref 34, .int (I 7), .ref 35, .ref 36, .int (I 8), .ref 37, .ref 38, .ref 39]
/-- the reference at 23: numbers I (0 strings, 1 fame, 2 custom, 3 interest, 4 eventMany, 5 year, 6 debtMany, 7 thrown, 8 mineMany), rows A 24 .. A 39 -/
def sm_mm (M : sm_M) (I : Nat → Int32) (A : Nat → Nat → Int32) : Prop := M[23]? = some (sm_mo I) ∧ M[24]? = some (sm_i 3200 (A 24)) ∧ M[25]? = some (sm_i 3200 (A 25)) ∧ M[26]? = some (sm_i 40 (A 26)) ∧ M[27]? = some (sm_i 40 (A 27)) ∧ M[28]? = some (sm_i 40 (A 28)) ∧ M[29]? = some (sm_i 5 (A 29)) ∧ M[30]? = some (sm_i 5 (A 30)) ∧ M[31]? = some (sm_i 5 (A 31)) ∧ M[32]? = some (sm_i 800 (A 32)) ∧ M[33]? = some (sm_i 300 (A 33)) ∧ M[34]? = some (sm_i 5 (A 34)) ∧ M[35]? = some (sm_i 12 (A 35)) ∧ M[36]? = some (sm_i 12 (A 36)) ∧ M[37]? = some (sm_i 61 (A 37)) ∧ M[38]? = some (sm_i 61 (A 38)) ∧ M[39]? = some (sm_i 61 (A 39))
def sm_mleast (f : Nat → Int32) (a : Nat) : Nat → Int32
  | 0 => 5
  | k + 1 => if f (a + k) < sm_mleast f a k then f (a + k) else sm_mleast f a k
/-- how many of the n numbers from a on are g -/
def sm_cnt1 (f : Nat → Int32) (g : Int32) (a : Nat) : Nat → Nat
  | 0 => 0
  | k + 1 => sm_cnt1 f g a k + (if f (a + k) = g then 1 else 0)
def sm_cnt (f : Nat → Int32) (ln : Nat → Nat) (g : Int32) : Nat → Nat
  | 0 => 0
  | s + 1 => sm_cnt f ln g s + sm_cnt1 f g (80 * s) (ln s)
def sm_mrate (A : Nat → Nat → Int32) (n j : Nat) : Int32 := if 1 ≤ A 29 j - nI n / A 31 j then A 29 j - nI n / A 31 j else 1
def sm_mbw (A : Nat → Nat → Int32) (n j : Nat) (k : Int32) : Int32 := k * sm_mrate A n j + k / 10 * A 30 j
theorem sm_80 (s j : Nat) : (80 : Int32) * nI s + nI j = nI (80 * s + j) := by
  rw [show (80 : Int32) = nI 80 from by decide, pk_mul, nI_add]
theorem sm_pred {c : Nat} (h : c < 1000) : (nI c - 1).toInt = (c : Int) - 1 := by
  rw [show (1 : Int32) = nI 1 from by decide, pk_sub_toInt (by omega) (by omega)]
  omega
section SM40
variable {l : Launch} {b : Nat} {D : va_G} {cA : Nat → ClassId} {M : sm_M} {I : Nat → Int32} {A : Nat → Nat → Int32}
theorem c_mareBeads (g m n : Int32) : sm_Ct l b D cA yX7_areBeads cX7_areBeads 3 (some .boolean) 1 0 0 [.int g, .int m, .int n] M (fun r M1 => r = some (.int (if (0 ≤ g.toInt ∧ g.toInt < 5) ∧ (0 ≤ m.toInt ∧ m.toInt < 10) ∧ (1 ≤ n.toInt ∧ n.toInt ≤ 80) then 1 else 0)) ∧ M1 = M) := by
  refine sm_enter (by decide +kernel) rfl (fun _ => Nat.le_of_ble_eq_true rfl) ?_
  refine sg_iload_n dX7_areBeads_0 rfl ?_
  refine sg_iconst 0 dX7_areBeads_1 (by decide) ?_
  refine sg_iconst 4 dX7_areBeads_2 (by decide) ?_
  refine sg_S3 dX7_areBeads_3 cs_X7_74 (c_in _ _ _) (Nat.le_of_ble_eq_true rfl) (Nat.le_of_ble_eq_true rfl) (Nat.le_of_ble_eq_true rfl) (Nat.le_of_ble_eq_true rfl) (fun r M1 hp => ?_)
  obtain ⟨rfl, rfl⟩ := hp
  refine sg_bf_eq 33 dX7_areBeads_6 (by decide) (fun c => ?_) (fun c => ?_)
  · simp only [ti_0, ti_4] at c
    refine sg_iconst 0 dX7_areBeads_33 (by decide) ?_
    refine sg_zreturn dX7_areBeads_34 rfl (by first | decide | assumption) (Nat.le_of_ble_eq_true rfl) (Nat.le_of_ble_eq_true rfl) ?_
    exact ⟨by rw [if_neg (by omega)], rfl⟩
  · simp only [ti_0, ti_4] at c
    refine sg_iload_n dX7_areBeads_9 rfl ?_
    refine sg_iconst 0 dX7_areBeads_10 (by decide) ?_
    refine sg_bipush 9 dX7_areBeads_11 (by decide) ?_
    refine sg_S3 dX7_areBeads_13 cs_X7_74 (c_in _ _ _) (Nat.le_of_ble_eq_true rfl) (Nat.le_of_ble_eq_true rfl) (Nat.le_of_ble_eq_true rfl) (Nat.le_of_ble_eq_true rfl) (fun r M1 hp => ?_)
    obtain ⟨rfl, rfl⟩ := hp
    refine sg_bf_eq 33 dX7_areBeads_16 (by decide) (fun c2 => ?_) (fun c2 => ?_)
    · simp only [ti_0, ti_9] at c2
      refine sg_iconst 0 dX7_areBeads_33 (by decide) ?_
      refine sg_zreturn dX7_areBeads_34 rfl (by first | decide | assumption) (Nat.le_of_ble_eq_true rfl) (Nat.le_of_ble_eq_true rfl) ?_
      exact ⟨by rw [if_neg (by omega)], rfl⟩
    · simp only [ti_0, ti_9] at c2
      refine sg_iload_n dX7_areBeads_19 rfl ?_
      refine sg_iconst 1 dX7_areBeads_20 (by decide) ?_
      refine sg_bipush 80 dX7_areBeads_21 (by decide) ?_
      refine sg_S3 dX7_areBeads_23 cs_X7_74 (c_in _ _ _) (Nat.le_of_ble_eq_true rfl) (Nat.le_of_ble_eq_true rfl) (Nat.le_of_ble_eq_true rfl) (Nat.le_of_ble_eq_true rfl) (fun r M1 hp => ?_)
      obtain ⟨rfl, rfl⟩ := hp
      refine sg_bf_eq 33 dX7_areBeads_26 (by decide) (fun c3 => ?_) (fun c3 => ?_)
      · simp only [ti_1, ti_80] at c3
        refine sg_iconst 0 dX7_areBeads_33 (by decide) ?_
        refine sg_zreturn dX7_areBeads_34 rfl (by first | decide | assumption) (Nat.le_of_ble_eq_true rfl) (Nat.le_of_ble_eq_true rfl) ?_
        exact ⟨by rw [if_neg (by omega)], rfl⟩
      · simp only [ti_1, ti_80] at c3
        refine sg_iconst 1 dX7_areBeads_29 (by decide) ?_
        refine sg_goto 34 dX7_areBeads_30 (by decide) ?_
        refine sg_zreturn dX7_areBeads_34 rfl (by first | decide | assumption) (Nat.le_of_ble_eq_true rfl) (Nat.le_of_ble_eq_true rfl) ?_
        exact ⟨by rw [if_pos (by omega)], rfl⟩
theorem c_thrown (h : sm_mm M I A) : sm_Ct l b D cA yX7_thrown cX7_thrown 1 (some .int) 0 0 0 [.ref 23] M (fun r M1 => r = some (.int (I 7)) ∧ M1 = M) := by
  obtain ⟨h23, -⟩ := h
  refine sm_enter (by decide +kernel) rfl (fun _ => Nat.le_of_ble_eq_true rfl) ?_
  refine sg_aload_n dX7_thrown_0 rfl ?_
  refine sg_get dX7_thrown_1 fl_X7_68 (by first | rfl | assumption) rfl ?_
  refine sg_ireturn dX7_thrown_4 rfl (Nat.le_of_ble_eq_true rfl) (Nat.le_of_ble_eq_true rfl) ?_
  exact ⟨rfl, rfl⟩
theorem c_isThere {c : Nat} (s : Int32) (hc : c ≤ 40) (hI : I 0 = nI c) (h : sm_mm M I A) : sm_Ct l b D cA yX7_isThere cX7_isThere 2 (some .boolean) 1 0 0 [.ref 23, .int s] M (fun r M1 => r = some (.int (if (0 ≤ s.toInt ∧ s.toInt < c) ∧ 0 < (A 26 s.toInt.toNat).toInt then 1 else 0)) ∧ M1 = M) := by
  obtain ⟨h23, h24, h25, h26, -⟩ := h
  refine sm_enter (by decide +kernel) rfl (fun _ => Nat.le_of_ble_eq_true rfl) ?_
  refine sg_iload_n dX7_isThere_0 rfl ?_
  refine sg_iconst 0 dX7_isThere_1 (by decide) ?_
  refine sg_aload_n dX7_isThere_2 rfl ?_
  refine sg_get dX7_isThere_3 fl_X7_71 (by first | rfl | assumption) rfl ?_
  refine sg_iconst 1 dX7_isThere_6 (by decide) ?_
  refine sg_isub dX7_isThere_7 ?_
  refine sg_S3 dX7_isThere_8 cs_X7_74 (c_in _ _ _) (Nat.le_of_ble_eq_true rfl) (Nat.le_of_ble_eq_true rfl) (Nat.le_of_ble_eq_true rfl) (Nat.le_of_ble_eq_true rfl) (fun r M1 hp => ?_)
  obtain ⟨rfl, rfl⟩ := hp
  rw [hI]
  refine sg_bf_eq 27 dX7_isThere_11 (by decide) (fun c1 => ?_) (fun c1 => ?_)
  · rw [ti_0, sm_pred (by omega)] at c1
    refine sg_iconst 0 dX7_isThere_27 (by decide) ?_
    refine sg_zreturn dX7_isThere_28 rfl (by first | decide | assumption) (Nat.le_of_ble_eq_true rfl) (Nat.le_of_ble_eq_true rfl) ?_
    exact ⟨by rw [if_neg (by omega)], rfl⟩
  · rw [ti_0, sm_pred (by omega)] at c1
    refine sg_aload_n dX7_isThere_14 rfl ?_
    refine sg_get dX7_isThere_15 fl_X7_16 (by first | rfl | assumption) rfl ?_
    refine sg_iload_n dX7_isThere_18 rfl ?_
    refine sg_ald (s.toInt.toNat) dX7_isThere_19 (by first | rfl | assumption) (sm_asN c1.1) (by omega) (by decide) ?_
    refine sg_if_le 27 dX7_isThere_20 (by decide) (fun c2 => ?_) (fun c2 => ?_)
    · simp only [Int32.le_iff_toInt_le, ti_0] at c2
      refine sg_iconst 0 dX7_isThere_27 (by decide) ?_
      refine sg_zreturn dX7_isThere_28 rfl (by first | decide | assumption) (Nat.le_of_ble_eq_true rfl) (Nat.le_of_ble_eq_true rfl) ?_
      exact ⟨by rw [if_neg (by omega)], rfl⟩
    · simp only [Int32.le_iff_toInt_le, ti_0] at c2
      refine sg_iconst 1 dX7_isThere_23 (by decide) ?_
      refine sg_goto 28 dX7_isThere_24 (by decide) ?_
      refine sg_zreturn dX7_isThere_28 rfl (by first | decide | assumption) (Nat.le_of_ble_eq_true rfl) (Nat.le_of_ble_eq_true rfl) ?_
      exact ⟨by rw [if_pos (by omega)], rfl⟩
theorem c_mhasRoom {e : Nat} {x : Int32} (k : Nat) (hx : x = nI k) (hk : k ≤ 100) (he : e ≤ 200) (hI : I 4 = nI e) (h : sm_mm M I A) : sm_Ct l b D cA yX7_hasRoom cX7_hasRoom 2 (some .boolean) 0 0 0 [.ref 23, .int x] M (fun r M1 => r = some (.int (if e + k ≤ 200 then 1 else 0)) ∧ M1 = M) := by
  subst hx
  obtain ⟨h23, -⟩ := h
  refine sm_enter (by decide +kernel) rfl (fun _ => Nat.le_of_ble_eq_true rfl) ?_
  refine sg_aload_n dX7_hasRoom_0 rfl ?_
  refine sg_get dX7_hasRoom_1 fl_X7_78 (by first | rfl | assumption) rfl ?_
  refine sg_iload_n dX7_hasRoom_4 rfl ?_
  refine sg_iadd dX7_hasRoom_5 ?_
  rw [hI, nI_add]
  refine sg_sipush 200 dX7_hasRoom_6 (by decide) ?_
  refine sg_icmp_gt 16 dX7_hasRoom_9 (by decide) (fun c => ?_) (fun c => ?_)
  · rw [Int32.lt_iff_toInt_lt, nI_toInt (by omega), ti_200] at c
    refine sg_iconst 0 dX7_hasRoom_16 (by decide) ?_
    refine sg_zreturn dX7_hasRoom_17 rfl (by first | decide | assumption) (Nat.le_of_ble_eq_true rfl) (Nat.le_of_ble_eq_true rfl) ?_
    exact ⟨by rw [if_neg (by omega)], rfl⟩
  · rw [Int32.lt_iff_toInt_lt, nI_toInt (by omega), ti_200] at c
    refine sg_iconst 1 dX7_hasRoom_12 (by decide) ?_
    refine sg_goto 17 dX7_hasRoom_13 (by decide) ?_
    refine sg_zreturn dX7_hasRoom_17 rfl (by first | decide | assumption) (Nat.le_of_ble_eq_true rfl) (Nat.le_of_ble_eq_true rfl) ?_
    exact ⟨by rw [if_pos (by omega)], rfl⟩
/-- the first string of that name that isn't gone -/
def sm_who (A : Nat → Nat → Int32) (nm : Int32) : Nat → Nat → Int32
  | 0, _ => -1
  | r + 1, s => if ¬ nm ≤ 0 ∧ ¬ A 26 s ≤ 0 ∧ A 28 s = nm then nI s else sm_who A nm r (s + 1)
theorem lp_whose {c : Nat} {nm : Int32} {Post : Option Value → sm_M → Prop} (hc : c ≤ 40) (hI : I 0 = nI c) (h : sm_mm M I A) :
    ∀ (r s : Nat), s + r = c → Post (some (.int (sm_who A nm r s))) M → sm_G l b D cA yX7_whose cX7_whose 3 (some .int) 0 0 0 Post 0 0 2 [some (.ref 23), some (.int nm), some (.int (nI s))] [] M := by
  obtain ⟨h23, h24, h25, h26, h27, h28, -⟩ := h
  intro r
  induction r with
  | zero =>
    intro s hs hP
    have e : s = c := by omega
    subst e
    refine sg_iload_n dX7_whose_2 rfl ?_
    refine sg_aload_n dX7_whose_3 rfl ?_
    refine sg_get dX7_whose_4 fl_X7_71 (by first | rfl | assumption) rfl ?_
    rw [hI]
    refine sg_icmp_ge 41 dX7_whose_7 (by decide) (fun c1 => ?_) (fun c1 => ?_)
    · refine sg_iconst (-1) dX7_whose_41 (by decide) ?_
      refine sg_ireturn dX7_whose_42 rfl (Nat.le_of_ble_eq_true rfl) (Nat.le_of_ble_eq_true rfl) ?_
      exact hP
    · exact absurd (nI_le (Nat.le_refl _) (by omega)) c1
  | succ r ih =>
    intro s hs hP
    unfold sm_who at hP
    refine sg_iload_n dX7_whose_2 rfl ?_
    refine sg_aload_n dX7_whose_3 rfl ?_
    refine sg_get dX7_whose_4 fl_X7_71 (by first | rfl | assumption) rfl ?_
    rw [hI]
    refine sg_icmp_ge 41 dX7_whose_7 (by decide) (fun c1 => ?_) (fun c1 => ?_)
    · exact absurd c1 (nI_ge (by omega) (by omega))
    · refine sg_iload_n dX7_whose_10 rfl ?_
      refine sg_if_le 35 dX7_whose_11 (by decide) (fun c2 => ?_) (fun c2 => ?_)
      · rw [if_neg (fun q => q.1 c2)] at hP
        refine sg_iinc _ dX7_whose_35 rfl (sm_inc s) (by decide) ?_
        refine sg_goto 2 dX7_whose_38 (by decide) ?_
        exact ih (s + 1) (by omega) hP
      · refine sg_aload_n dX7_whose_14 rfl ?_
        refine sg_get dX7_whose_15 fl_X7_16 (by first | rfl | assumption) rfl ?_
        refine sg_iload_n dX7_whose_18 rfl ?_
        refine sg_ald (s) dX7_whose_19 (by first | rfl | assumption) (rfl) (by omega) (by decide) ?_
        refine sg_if_le 35 dX7_whose_20 (by decide) (fun c3 => ?_) (fun c3 => ?_)
        · rw [if_neg (fun q => q.2.1 c3)] at hP
          refine sg_iinc _ dX7_whose_35 rfl (sm_inc s) (by decide) ?_
          refine sg_goto 2 dX7_whose_38 (by decide) ?_
          exact ih (s + 1) (by omega) hP
        · refine sg_aload_n dX7_whose_23 rfl ?_
          refine sg_get dX7_whose_24 fl_X7_22 (by first | rfl | assumption) rfl ?_
          refine sg_iload_n dX7_whose_27 rfl ?_
          refine sg_ald (s) dX7_whose_28 (by first | rfl | assumption) (rfl) (by omega) (by decide) ?_
          refine sg_iload_n dX7_whose_29 rfl ?_
          refine sg_icmp_ne 35 dX7_whose_30 (by decide) (fun c4 => ?_) (fun c4 => ?_)
          · rw [if_neg (fun q => c4 q.2.2)] at hP
            refine sg_iinc _ dX7_whose_35 rfl (sm_inc s) (by decide) ?_
            refine sg_goto 2 dX7_whose_38 (by decide) ?_
            exact ih (s + 1) (by omega) hP
          · rw [if_pos ⟨c2, c3, c4⟩] at hP
            refine sg_iload_n dX7_whose_33 rfl ?_
            refine sg_ireturn dX7_whose_34 rfl (Nat.le_of_ble_eq_true rfl) (Nat.le_of_ble_eq_true rfl) ?_
            exact hP
theorem c_whose {c : Nat} (nm : Int32) (hc : c ≤ 40) (hI : I 0 = nI c) (h : sm_mm M I A) : sm_Ct l b D cA yX7_whose cX7_whose 3 (some .int) 0 0 0 [.ref 23, .int nm] M (fun r M1 => r = some (.int (sm_who A nm c 0)) ∧ M1 = M) := by
  refine sm_enter (by decide +kernel) rfl (fun _ => Nat.le_of_ble_eq_true rfl) ?_
  refine sg_iconst (nI 0) dX7_whose_0 (by decide) ?_
  refine sg_istore_n dX7_whose_1 (by decide) ?_
  exact lp_whose hc hI h c 0 (by omega) ⟨rfl, rfl⟩
theorem lp_leastOf {s a m : Nat} {Post : Option Value → sm_M → Prop} (hs : s < 40) (ha : a + m ≤ 80) (h : sm_mm M I A) (hP : Post (some (.int (sm_mleast (A 24) (80 * s + a) m))) M) :
    ∀ (r t : Nat), t + r = m → sm_G l b D cA yX7_leastOf cX7_leastOf 6 (some .int) 0 0 0 Post 0 0 6 [some (.ref 23), some (.int (nI s)), some (.int (nI a)), some (.int (nI (a + m))), some (.int (sm_mleast (A 24) (80 * s + a) t)), some (.int (nI (a + t)))] [] M := by
  obtain ⟨h23, h24, -⟩ := h
  intro r
  induction r with
  | zero =>
    intro t ht
    have e : t = m := by omega
    subst e
    refine sg_iload dX7_leastOf_6 rfl ?_
    refine sg_iload_n dX7_leastOf_8 rfl ?_
    refine sg_icmp_ge 54 dX7_leastOf_9 (by decide) (fun c1 => ?_) (fun c1 => ?_)
    · refine sg_iload dX7_leastOf_54 rfl ?_
      refine sg_ireturn dX7_leastOf_56 rfl (Nat.le_of_ble_eq_true rfl) (Nat.le_of_ble_eq_true rfl) ?_
      exact hP
    · exact absurd (nI_le (Nat.le_refl _) (by omega)) c1
  | succ r ih =>
    intro t ht
    have ih2 := ih (t + 1) (by omega)
    rw [show sm_mleast (A 24) (80 * s + a) (t + 1) = if A 24 (80 * s + a + t) < sm_mleast (A 24) (80 * s + a) t then A 24 (80 * s + a + t) else sm_mleast (A 24) (80 * s + a) t from rfl] at ih2
    have e80 : (80 : Int32) * nI s + nI (a + t) = nI (80 * s + a + t) := by
      rw [sm_80, Nat.add_assoc]
    refine sg_iload dX7_leastOf_6 rfl ?_
    refine sg_iload_n dX7_leastOf_8 rfl ?_
    refine sg_icmp_ge 54 dX7_leastOf_9 (by decide) (fun c1 => ?_) (fun c1 => ?_)
    · exact absurd c1 (nI_ge (by omega) (by omega))
    · refine sg_aload_n dX7_leastOf_12 rfl ?_
      refine sg_get dX7_leastOf_13 fl_X7_9 (by first | rfl | assumption) rfl ?_
      refine sg_bipush 80 dX7_leastOf_16 (by decide) ?_
      refine sg_iload_n dX7_leastOf_18 rfl ?_
      refine sg_imul dX7_leastOf_19 ?_
      refine sg_iload dX7_leastOf_20 rfl ?_
      refine sg_iadd dX7_leastOf_22 ?_
      refine sg_ald (80 * s + a + t) dX7_leastOf_23 (by first | rfl | assumption) (e80) (by omega) (by decide) ?_
      refine sg_iload dX7_leastOf_24 rfl ?_
      refine sg_icmp_ge 44 dX7_leastOf_26 (by decide) (fun c2 => ?_) (fun c2 => ?_)
      · rw [if_neg (Int32.not_lt.mpr c2)] at ih2
        refine sg_iload dX7_leastOf_44 rfl ?_
        refine sg_istore dX7_leastOf_46 (by decide) ?_
        refine sg_iinc _ dX7_leastOf_48 rfl (sm_inc (a + t)) (by decide) ?_
        refine sg_goto 6 dX7_leastOf_51 (by decide) ?_
        exact ih2
      · rw [if_pos (Int32.not_le.mp c2)] at ih2
        refine sg_aload_n dX7_leastOf_29 rfl ?_
        refine sg_get dX7_leastOf_30 fl_X7_9 (by first | rfl | assumption) rfl ?_
        refine sg_bipush 80 dX7_leastOf_33 (by decide) ?_
        refine sg_iload_n dX7_leastOf_35 rfl ?_
        refine sg_imul dX7_leastOf_36 ?_
        refine sg_iload dX7_leastOf_37 rfl ?_
        refine sg_iadd dX7_leastOf_39 ?_
        refine sg_ald (80 * s + a + t) dX7_leastOf_40 (by first | rfl | assumption) (e80) (by omega) (by decide) ?_
        refine sg_goto 46 dX7_leastOf_41 (by decide) ?_
        refine sg_istore dX7_leastOf_46 (by decide) ?_
        refine sg_iinc _ dX7_leastOf_48 rfl (sm_inc (a + t)) (by decide) ?_
        refine sg_goto 6 dX7_leastOf_51 (by decide) ?_
        exact ih2
theorem c_leastOf {s a m : Nat} {x i j : Int32} (hx : x = nI s) (hi : i = nI a) (hj : j = nI (a + m)) (hs : s < 40) (ha : a + m ≤ 80) (h : sm_mm M I A) : sm_Ct l b D cA yX7_leastOf cX7_leastOf 6 (some .int) 0 0 0 [.ref 23, .int x, .int i, .int j] M (fun r M1 => r = some (.int (sm_mleast (A 24) (80 * s + a) m)) ∧ M1 = M) := by
  subst hx
  subst hi
  subst hj
  refine sm_enter (by decide +kernel) rfl (fun _ => Nat.le_of_ble_eq_true rfl) ?_
  refine sg_iconst 5 dX7_leastOf_0 (by decide) ?_
  refine sg_istore dX7_leastOf_1 (by decide) ?_
  refine sg_iload_n dX7_leastOf_3 rfl ?_
  refine sg_istore dX7_leastOf_4 (by decide) ?_
  exact lp_leastOf hs ha h ⟨rfl, rfl⟩ m 0 (by omega)
theorem lp_rate1 {s n0 n : Nat} {g : Int32} {Post : Option Value → sm_M → Prop} (hs : s < 40) (hn : n ≤ 80) (hA : A 26 s = nI n) (h : sm_mm M I A)
    (hP : sm_G l b D cA yX7_rateOf cX7_rateOf 5 (some .int) 0 0 0 Post 0 0 51 [some (.ref 23), some (.int g), some (.int (nI (n0 + sm_cnt1 (A 24) g (80 * s) n))), some (.int (nI s)), some (.int (nI n))] [] M) :
    ∀ (r t : Nat), t + r = n → sm_G l b D cA yX7_rateOf cX7_rateOf 5 (some .int) 0 0 0 Post 0 0 15 [some (.ref 23), some (.int g), some (.int (nI (n0 + sm_cnt1 (A 24) g (80 * s) t))), some (.int (nI s)), some (.int (nI t))] [] M := by
  obtain ⟨h23, h24, h25, h26, -⟩ := h
  intro r
  induction r with
  | zero =>
    intro t ht
    have e : t = n := by omega
    subst e
    refine sg_iload dX7_rateOf_15 rfl ?_
    refine sg_aload_n dX7_rateOf_17 rfl ?_
    refine sg_get dX7_rateOf_18 fl_X7_16 (by first | rfl | assumption) rfl ?_
    refine sg_iload_n dX7_rateOf_21 rfl ?_
    refine sg_ald (s) dX7_rateOf_22 (by first | rfl | assumption) (rfl) (hs) (by decide) ?_
    rw [hA]
    refine sg_icmp_ge 51 dX7_rateOf_23 (by decide) (fun c1 => ?_) (fun c1 => ?_)
    · exact hP
    · exact absurd (nI_le (Nat.le_refl _) (by omega)) c1
  | succ r ih =>
    intro t ht
    have ih2 := ih (t + 1) (by omega)
    rw [show sm_cnt1 (A 24) g (80 * s) (t + 1) = sm_cnt1 (A 24) g (80 * s) t + (if A 24 (80 * s + t) = g then 1 else 0) from rfl] at ih2
    refine sg_iload dX7_rateOf_15 rfl ?_
    refine sg_aload_n dX7_rateOf_17 rfl ?_
    refine sg_get dX7_rateOf_18 fl_X7_16 (by first | rfl | assumption) rfl ?_
    refine sg_iload_n dX7_rateOf_21 rfl ?_
    refine sg_ald (s) dX7_rateOf_22 (by first | rfl | assumption) (rfl) (hs) (by decide) ?_
    rw [hA]
    refine sg_icmp_ge 51 dX7_rateOf_23 (by decide) (fun c1 => ?_) (fun c1 => ?_)
    · exact absurd c1 (nI_ge (by omega) (by omega))
    · refine sg_aload_n dX7_rateOf_26 rfl ?_
      refine sg_get dX7_rateOf_27 fl_X7_9 (by first | rfl | assumption) rfl ?_
      refine sg_bipush 80 dX7_rateOf_30 (by decide) ?_
      refine sg_iload_n dX7_rateOf_32 rfl ?_
      refine sg_imul dX7_rateOf_33 ?_
      refine sg_iload dX7_rateOf_34 rfl ?_
      refine sg_iadd dX7_rateOf_36 ?_
      refine sg_ald (80 * s + t) dX7_rateOf_37 (by first | rfl | assumption) (sm_80 s t) (by omega) (by decide) ?_
      refine sg_iload_n dX7_rateOf_38 rfl ?_
      refine sg_icmp_ne 45 dX7_rateOf_39 (by decide) (fun c2 => ?_) (fun c2 => ?_)
      · rw [if_neg c2] at ih2
        refine sg_iinc _ dX7_rateOf_45 rfl (sm_inc t) (by decide) ?_
        refine sg_goto 15 dX7_rateOf_48 (by decide) ?_
        exact ih2
      · rw [if_pos c2, ← Nat.add_assoc] at ih2
        refine sg_iinc _ dX7_rateOf_42 rfl (sm_inc _) (by decide) ?_
        refine sg_iinc _ dX7_rateOf_45 rfl (sm_inc t) (by decide) ?_
        refine sg_goto 15 dX7_rateOf_48 (by decide) ?_
        exact ih2
theorem lp_rate2 {c : Nat} {ln : Nat → Nat} {g : Int32} {Post : Option Value → sm_M → Prop} (hc : c ≤ 40) (hI : I 0 = nI c) (hA : ∀ s, s < c → A 26 s = nI (ln s) ∧ ln s ≤ 80) (h : sm_mm M I A)
    (hP : ∀ x : Option Value, sm_G l b D cA yX7_rateOf cX7_rateOf 5 (some .int) 0 0 0 Post 0 0 57 [some (.ref 23), some (.int g), some (.int (nI (sm_cnt (A 24) ln g c))), some (.int (nI c)), x] [] M) :
    ∀ (r s : Nat) (x : Option Value), s + r = c → sm_G l b D cA yX7_rateOf cX7_rateOf 5 (some .int) 0 0 0 Post 0 0 4 [some (.ref 23), some (.int g), some (.int (nI (sm_cnt (A 24) ln g s))), some (.int (nI s)), x] [] M := by
  have h23 := h.1
  intro r
  induction r with
  | zero =>
    intro s x hs
    have e : s = c := by omega
    subst e
    refine sg_iload_n dX7_rateOf_4 rfl ?_
    refine sg_aload_n dX7_rateOf_5 rfl ?_
    refine sg_get dX7_rateOf_6 fl_X7_71 (by first | rfl | assumption) rfl ?_
    rw [hI]
    refine sg_icmp_ge 57 dX7_rateOf_9 (by decide) (fun c1 => ?_) (fun c1 => ?_)
    · exact hP x
    · exact absurd (nI_le (Nat.le_refl _) (by omega)) c1
  | succ r ih =>
    intro s x hs
    refine sg_iload_n dX7_rateOf_4 rfl ?_
    refine sg_aload_n dX7_rateOf_5 rfl ?_
    refine sg_get dX7_rateOf_6 fl_X7_71 (by first | rfl | assumption) rfl ?_
    rw [hI]
    refine sg_icmp_ge 57 dX7_rateOf_9 (by decide) (fun c1 => ?_) (fun c1 => ?_)
    · exact absurd c1 (nI_ge (by omega) (by omega))
    · refine sg_iconst (nI 0) dX7_rateOf_12 (by decide) ?_
      refine sg_istore dX7_rateOf_13 (by decide) ?_
      refine lp_rate1 (n0 := sm_cnt (A 24) ln g s) (by omega) (hA s (by omega)).2 (hA s (by omega)).1 h ?_ (ln s) 0 (by omega)
      refine sg_iinc _ dX7_rateOf_51 rfl (sm_inc s) (by decide) ?_
      refine sg_goto 4 dX7_rateOf_54 (by decide) ?_
      exact ih (s + 1) _ (by omega)
theorem c_rateOf {c j : Nat} {ln : Nat → Nat} {g : Int32} (hg : g = nI j) (hj : j < 5) (hf : ¬ A 31 j = 0) (hc : c ≤ 40) (hI : I 0 = nI c) (hA : ∀ s, s < c → A 26 s = nI (ln s) ∧ ln s ≤ 80) (h : sm_mm M I A) : sm_Ct l b D cA yX7_rateOf cX7_rateOf 5 (some .int) 0 0 0 [.ref 23, .int g] M (fun r M1 => r = some (.int (sm_mrate A (sm_cnt (A 24) ln (nI j) c) j)) ∧ M1 = M) := by
  subst hg
  refine sm_enter (by decide +kernel) rfl (fun _ => Nat.le_of_ble_eq_true rfl) ?_
  refine sg_iconst (nI 0) dX7_rateOf_0 (by decide) ?_
  refine sg_istore_n dX7_rateOf_1 (by decide) ?_
  refine sg_iconst (nI 0) dX7_rateOf_2 (by decide) ?_
  refine sg_istore_n dX7_rateOf_3 (by decide) ?_
  refine lp_rate2 hc hI hA h (fun x => ?_) c 0 _ (by omega)
  obtain ⟨h23, h24, h25, h26, h27, h28, h29, h30, h31, -⟩ := h
  unfold sm_mrate
  refine sg_aload_n dX7_rateOf_57 rfl ?_
  refine sg_get dX7_rateOf_58 fl_X7_25 (by first | rfl | assumption) rfl ?_
  refine sg_iload_n dX7_rateOf_61 rfl ?_
  refine sg_ald (j) dX7_rateOf_62 (by first | rfl | assumption) (rfl) (hj) (by decide) ?_
  refine sg_iload_n dX7_rateOf_63 rfl ?_
  refine sg_aload_n dX7_rateOf_64 rfl ?_
  refine sg_get dX7_rateOf_65 fl_X7_31 (by first | rfl | assumption) rfl ?_
  refine sg_iload_n dX7_rateOf_68 rfl ?_
  refine sg_ald (j) dX7_rateOf_69 (by first | rfl | assumption) (rfl) (hj) (by decide) ?_
  refine sg_idiv dX7_rateOf_70 hf ?_
  refine sg_isub dX7_rateOf_71 ?_
  refine sg_istore_n dX7_rateOf_72 (by decide) ?_
  refine sg_iload_n dX7_rateOf_73 rfl ?_
  refine sg_iconst 1 dX7_rateOf_74 (by decide) ?_
  refine sg_icmp_ge 82 dX7_rateOf_75 (by decide) (fun c1 => ?_) (fun c1 => ?_)
  · refine sg_iload_n dX7_rateOf_82 rfl ?_
    refine sg_ireturn dX7_rateOf_83 rfl (Nat.le_of_ble_eq_true rfl) (Nat.le_of_ble_eq_true rfl) ?_
    exact ⟨by rw [if_pos c1], rfl⟩
  · refine sg_iconst 1 dX7_rateOf_78 (by decide) ?_
    refine sg_goto 83 dX7_rateOf_79 (by decide) ?_
    refine sg_ireturn dX7_rateOf_83 rfl (Nat.le_of_ble_eq_true rfl) (Nat.le_of_ble_eq_true rfl) ?_
    exact ⟨by rw [if_neg c1], rfl⟩
theorem c_beadsWorth {c j : Nat} {ln : Nat → Nat} {g : Int32} (k : Int32) (hg : g = nI j) (hj : j < 5) (hf : ¬ A 31 j = 0) (hc : c ≤ 40) (hI : I 0 = nI c) (hA : ∀ s, s < c → A 26 s = nI (ln s) ∧ ln s ≤ 80) (h : sm_mm M I A) : sm_Ct l b D cA yX7_beadsWorth cX7_beadsWorth 3 (some .int) 1 0 0 [.ref 23, .int k, .int g] M (fun r M1 => r = some (.int (sm_mbw A (sm_cnt (A 24) ln (nI j) c) j k)) ∧ M1 = M) := by
  obtain ⟨h23, h24, h25, h26, h27, h28, h29, h30, h31, -⟩ := id h
  refine sm_enter (by decide +kernel) rfl (fun _ => Nat.le_of_ble_eq_true rfl) ?_
  refine sg_iload_n dX7_beadsWorth_0 rfl ?_
  refine sg_aload_n dX7_beadsWorth_1 rfl ?_
  refine sg_iload_n dX7_beadsWorth_2 rfl ?_
  refine sg_V1 dX7_beadsWorth_3 cv_X7_113 h23 (c_rateOf hg hj hf hc hI hA h) (Nat.le_of_ble_eq_true rfl) (Nat.le_of_ble_eq_true rfl) (Nat.le_of_ble_eq_true rfl) (Nat.le_of_ble_eq_true rfl) (fun r M1 hp => ?_)
  obtain ⟨rfl, e9⟩ := hp; rw [e9]
  refine sg_imul dX7_beadsWorth_6 ?_
  refine sg_iload_n dX7_beadsWorth_7 rfl ?_
  refine sg_bipush 10 dX7_beadsWorth_8 (by decide) ?_
  refine sg_idiv dX7_beadsWorth_10 (by decide) ?_
  refine sg_aload_n dX7_beadsWorth_11 rfl ?_
  refine sg_get dX7_beadsWorth_12 fl_X7_28 (by first | rfl | assumption) rfl ?_
  refine sg_iload_n dX7_beadsWorth_15 rfl ?_
  refine sg_ald (j) dX7_beadsWorth_16 (by first | rfl | assumption) (hg) (hj) (by decide) ?_
  refine sg_imul dX7_beadsWorth_17 ?_
  refine sg_iadd dX7_beadsWorth_18 ?_
  refine sg_ireturn dX7_beadsWorth_19 rfl (Nat.le_of_ble_eq_true rfl) (Nat.le_of_ble_eq_true rfl) ?_
  exact ⟨rfl, rfl⟩
theorem c_worth {c s n j : Nat} {ln : Nat → Nat} {x : Int32} (hx : x = nI s) (hs : s < c) (hn : ln s = n) (hl : 0 < n → sm_mleast (A 24) (80 * s + 0) n = nI j ∧ j < 5 ∧ ¬ A 31 j = 0) (hc : c ≤ 40) (hI : I 0 = nI c) (hA : ∀ s, s < c → A 26 s = nI (ln s) ∧ ln s ≤ 80) (h : sm_mm M I A) : sm_Ct l b D cA yX7_worth cX7_worth 2 (some .int) 2 0 0 [.ref 23, .int x] M (fun r M1 => r = some (.int (if n = 0 then 0 else sm_mbw A (sm_cnt (A 24) ln (nI j) c) j (nI n) + (if A 28 s ≤ 0 then 0 else I 1))) ∧ M1 = M) := by
  subst hx
  subst hn
  obtain ⟨h23, h24, h25, h26, h27, h28, h29, h30, h31, -⟩ := id h
  have hA1 := hA s hs
  refine sm_enter (by decide +kernel) rfl (fun _ => Nat.le_of_ble_eq_true rfl) ?_
  refine sg_aload_n dX7_worth_0 rfl ?_
  refine sg_get dX7_worth_1 fl_X7_16 (by first | rfl | assumption) rfl ?_
  refine sg_iload_n dX7_worth_4 rfl ?_
  refine sg_ald (s) dX7_worth_5 (by first | rfl | assumption) (rfl) (by omega) (by decide) ?_
  rw [hA1.1]
  refine sg_if_ne 11 dX7_worth_6 (by decide) (fun c1 => ?_) (fun c1 => ?_)
  · have hn0 : 0 < ln s := by
      rcases Nat.eq_zero_or_pos (ln s) with e | e
      · rw [e] at c1
        exact absurd nI_0 c1
      · exact e
    rw [if_neg (show ¬ ln s = 0 by omega)]
    refine sg_aload_n dX7_worth_11 rfl ?_
    refine sg_aload_n dX7_worth_12 rfl ?_
    refine sg_get dX7_worth_13 fl_X7_16 (by first | rfl | assumption) rfl ?_
    refine sg_iload_n dX7_worth_16 rfl ?_
    refine sg_ald (s) dX7_worth_17 (by first | rfl | assumption) (rfl) (by omega) (by decide) ?_
    refine sg_aload_n dX7_worth_18 rfl ?_
    refine sg_iload_n dX7_worth_19 rfl ?_
    refine sg_iconst 0 dX7_worth_20 (by decide) ?_
    refine sg_aload_n dX7_worth_21 rfl ?_
    refine sg_get dX7_worth_22 fl_X7_16 (by first | rfl | assumption) rfl ?_
    refine sg_iload_n dX7_worth_25 rfl ?_
    refine sg_ald (s) dX7_worth_26 (by first | rfl | assumption) (rfl) (by omega) (by decide) ?_
    rw [hA1.1]
    refine sg_V3 dX7_worth_27 cv_X7_116 h23 (c_leastOf (s := s) (a := 0) (m := ln s) rfl nI_0.symm (by rw [Nat.zero_add]) (by omega) (by omega) h) (Nat.le_of_ble_eq_true rfl) (Nat.le_of_ble_eq_true rfl) (Nat.le_of_ble_eq_true rfl) (Nat.le_of_ble_eq_true rfl) (fun r9 M9 hp => ?_)
    obtain ⟨rfl, e9⟩ := hp
    rw [e9]
    refine sg_V2 dX7_worth_30 cv_X7_120 h23 (c_beadsWorth _ (hl hn0).1 (hl hn0).2.1 (hl hn0).2.2 hc hI hA h) (Nat.le_of_ble_eq_true rfl) (Nat.le_of_ble_eq_true rfl) (Nat.le_of_ble_eq_true rfl) (Nat.le_of_ble_eq_true rfl) (fun r9 M9 hp => ?_)
    obtain ⟨rfl, e9⟩ := hp
    rw [e9]
    refine sg_aload_n dX7_worth_33 rfl ?_
    refine sg_get dX7_worth_34 fl_X7_22 (by first | rfl | assumption) rfl ?_
    refine sg_iload_n dX7_worth_37 rfl ?_
    refine sg_ald (s) dX7_worth_38 (by first | rfl | assumption) (rfl) (by omega) (by decide) ?_
    refine sg_if_le 49 dX7_worth_39 (by decide) (fun c2 => ?_) (fun c2 => ?_)
    · rw [if_pos c2]
      refine sg_iconst 0 dX7_worth_49 (by decide) ?_
      refine sg_iadd dX7_worth_50 ?_
      refine sg_ireturn dX7_worth_51 rfl (Nat.le_of_ble_eq_true rfl) (Nat.le_of_ble_eq_true rfl) ?_
      exact ⟨rfl, rfl⟩
    · rw [if_neg c2]
      refine sg_aload_n dX7_worth_42 rfl ?_
      refine sg_get dX7_worth_43 fl_X7_34 (by first | rfl | assumption) rfl ?_
      refine sg_goto 50 dX7_worth_46 (by decide) ?_
      refine sg_iadd dX7_worth_50 ?_
      refine sg_ireturn dX7_worth_51 rfl (Nat.le_of_ble_eq_true rfl) (Nat.le_of_ble_eq_true rfl) ?_
      exact ⟨rfl, rfl⟩
  · have hn0 : ln s = 0 := by
      rcases Nat.eq_zero_or_pos (ln s) with e | e
      · exact e
      · exact absurd c1 (nI_ne0 e (by omega))
    rw [if_pos hn0]
    refine sg_iconst 0 dX7_worth_9 (by decide) ?_
    refine sg_ireturn dX7_worth_10 rfl (Nat.le_of_ble_eq_true rfl) (Nat.le_of_ble_eq_true rfl) ?_
    exact ⟨rfl, rfl⟩
theorem lp_makersOf {s n : Nat} {Post : Option Value → sm_M → Prop} (hs : s < 40) (hn : n ≤ 80) (hA : A 26 s = nI n) (h : sm_mm M I A) (hP : Post (some (.int (sm_bc (sm_seen (fun k => A 25 (80 * s + k)) n)))) M) :
    ∀ (r t : Nat), t + r = n → sm_G l b D cA yX7_makersOf cX7_makersOf 4 (some .int) 1 0 0 Post 0 0 4 [some (.ref 23), some (.int (nI s)), some (.int (sm_seen (fun k => A 25 (80 * s + k)) t)), some (.int (nI t))] [] M := by
  obtain ⟨h23, h24, h25, h26, -⟩ := h
  intro r
  induction r with
  | zero =>
    intro t ht
    have e : t = n := by omega
    subst e
    refine sg_iload_n dX7_makersOf_4 rfl ?_
    refine sg_aload_n dX7_makersOf_5 rfl ?_
    refine sg_get dX7_makersOf_6 fl_X7_16 (by first | rfl | assumption) rfl ?_
    refine sg_iload_n dX7_makersOf_9 rfl ?_
    refine sg_ald (s) dX7_makersOf_10 (by first | rfl | assumption) (rfl) (hs) (by decide) ?_
    rw [hA]
    refine sg_icmp_ge 36 dX7_makersOf_11 (by decide) (fun c => ?_) (fun c => ?_)
    · refine sg_iload_n dX7_makersOf_36 rfl ?_
      refine sg_S1 dX7_makersOf_37 cs_X7_124 (c_bitCount _) (Nat.le_of_ble_eq_true rfl) (Nat.le_of_ble_eq_true rfl) (Nat.le_of_ble_eq_true rfl) (Nat.le_of_ble_eq_true rfl) (fun r9 M9 hp => ?_)
      obtain ⟨rfl, e9⟩ := hp
      rw [e9]
      refine sg_ireturn dX7_makersOf_40 rfl (Nat.le_of_ble_eq_true rfl) (Nat.le_of_ble_eq_true rfl) ?_
      exact hP
    · exact absurd (nI_le (Nat.le_refl _) (by omega)) c
  | succ r ih =>
    intro t ht
    refine sg_iload_n dX7_makersOf_4 rfl ?_
    refine sg_aload_n dX7_makersOf_5 rfl ?_
    refine sg_get dX7_makersOf_6 fl_X7_16 (by first | rfl | assumption) rfl ?_
    refine sg_iload_n dX7_makersOf_9 rfl ?_
    refine sg_ald (s) dX7_makersOf_10 (by first | rfl | assumption) (rfl) (hs) (by decide) ?_
    rw [hA]
    refine sg_icmp_ge 36 dX7_makersOf_11 (by decide) (fun c => ?_) (fun c => ?_)
    · exact absurd c (nI_ge (by omega) (by omega))
    · refine sg_iload_n dX7_makersOf_14 rfl ?_
      refine sg_iconst 1 dX7_makersOf_15 (by decide) ?_
      refine sg_aload_n dX7_makersOf_16 rfl ?_
      refine sg_get dX7_makersOf_17 fl_X7_13 (by first | rfl | assumption) rfl ?_
      refine sg_bipush 80 dX7_makersOf_20 (by decide) ?_
      refine sg_iload_n dX7_makersOf_22 rfl ?_
      refine sg_imul dX7_makersOf_23 ?_
      refine sg_iload_n dX7_makersOf_24 rfl ?_
      refine sg_iadd dX7_makersOf_25 ?_
      refine sg_ald (80 * s + t) dX7_makersOf_26 (by first | rfl | assumption) (sm_80 s t) (by omega) (by decide) ?_
      refine sg_ishl dX7_makersOf_27 ?_
      refine sg_ior dX7_makersOf_28 ?_
      refine sg_istore_n dX7_makersOf_29 (by decide) ?_
      refine sg_iinc _ dX7_makersOf_30 rfl (sm_inc t) (by decide) ?_
      refine sg_goto 4 dX7_makersOf_33 (by decide) ?_
      exact ih (t + 1) (by omega)
theorem c_makersOf {s n : Nat} {x : Int32} (hx : x = nI s) (hs : s < 40) (hn : n ≤ 80) (hA : A 26 s = nI n) (h : sm_mm M I A) : sm_Ct l b D cA yX7_makersOf cX7_makersOf 4 (some .int) 1 0 0 [.ref 23, .int x] M (fun r M1 => r = some (.int (sm_bc (sm_seen (fun k => A 25 (80 * s + k)) n))) ∧ M1 = M) := by
  subst hx
  refine sm_enter (by decide +kernel) rfl (fun _ => Nat.le_of_ble_eq_true rfl) ?_
  refine sg_iconst 0 dX7_makersOf_0 (by decide) ?_
  refine sg_istore_n dX7_makersOf_1 (by decide) ?_
  refine sg_iconst 0 dX7_makersOf_2 (by decide) ?_
  refine sg_istore_n dX7_makersOf_3 (by decide) ?_
  exact lp_makersOf hs hn hA h ⟨rfl, rfl⟩ n 0 (by omega)
end SM40
