/-! a strand's methods -/
theorem sm_fill (n t : Nat) (f : Nat → Int32) (x : Int32) : upd (fun j => if n ≤ j ∧ j < n + t then x else f j) (n + t) x = fun j => if n ≤ j ∧ j < n + (t + 1) then x else f j := by
  funext j
  unfold upd
  by_cases h : j = n + t
  · rw [if_pos h, if_pos (by omega)]
  · rw [if_neg h]
    dsimp only
    by_cases h2 : n ≤ j ∧ j < n + t
    · rw [if_pos h2, if_pos (by omega)]
    · rw [if_neg h2, if_neg (by omega)]
theorem sm_n80 {x : Nat} (h : x < 80) : ¬ (80 : Int32) ≤ nI x := by
  intro c
  simp only [Int32.le_iff_toInt_le, ti_80] at c
  rw [nI_toInt (by omega)] at c
  omega
theorem sm_inc (t : Nat) : nI t + Int32.ofInt 1 = nI (t + 1) := nI_1 t
section SM21
variable {l : Launch} {b : Nat} {D : va_G} {cA : Nat → ClassId} {M : sm_M}
theorem c_gradeAt {q g m n : Nat} {fg fm : Nat → Int32} {ow nm : Int32} (i : Int32) (hn : n ≤ 80) (h : sm_st M q g m n fg fm ow nm) : sm_Ct l b D cA yX4_gradeAt cX4_gradeAt 2 (some .int) 1 0 0 [.ref q, .int i] M (fun r M1 => r = some (.int (if 0 ≤ i.toInt ∧ i.toInt < n then fg i.toInt.toNat else -1)) ∧ M1 = M) := by
  obtain ⟨hq, hg, hm⟩ := h
  refine sm_enter (by decide +kernel) rfl (fun _ => Nat.le_of_ble_eq_true rfl) ?_
  refine sg_aload_n dX4_gradeAt_0 rfl ?_
  refine sg_iload_n dX4_gradeAt_1 rfl ?_
  refine sg_V1 dX4_gradeAt_2 cv_X4_28 (by first | rfl | assumption) (c_has _ (by first | rfl | assumption)) (Nat.le_of_ble_eq_true rfl) (Nat.le_of_ble_eq_true rfl) (Nat.le_of_ble_eq_true rfl) (Nat.le_of_ble_eq_true rfl) (fun r M1 hp => ?_)
  obtain ⟨rfl, rfl⟩ := hp
  refine sg_bf_eq 17 dX4_gradeAt_5 (by decide) (fun c => ?_) (fun c => ?_)
  · rw [nI_toInt (by omega)] at c
    refine sg_iconst (-1) dX4_gradeAt_17 (by decide) ?_
    refine sg_ireturn dX4_gradeAt_18 rfl (Nat.le_of_ble_eq_true rfl) (Nat.le_of_ble_eq_true rfl) ?_
    exact ⟨by rw [if_neg (by omega)], rfl⟩
  · rw [nI_toInt (by omega)] at c
    refine sg_aload_n dX4_gradeAt_8 rfl ?_
    refine sg_get dX4_gradeAt_9 fl_X4_9 (by first | rfl | assumption) rfl ?_
    refine sg_iload_n dX4_gradeAt_12 rfl ?_
    refine sg_ald (i.toInt.toNat) dX4_gradeAt_13 (by first | rfl | assumption) (sm_asN c.1) (by omega) (by decide) ?_
    refine sg_goto 18 dX4_gradeAt_14 (by decide) ?_
    refine sg_ireturn dX4_gradeAt_18 rfl (Nat.le_of_ble_eq_true rfl) (Nat.le_of_ble_eq_true rfl) ?_
    exact ⟨by rw [if_pos ⟨c.1, c.2.1⟩], rfl⟩
theorem c_makerAt {q g m n : Nat} {fg fm : Nat → Int32} {ow nm : Int32} (i : Int32) (hn : n ≤ 80) (h : sm_st M q g m n fg fm ow nm) : sm_Ct l b D cA yX4_makerAt cX4_makerAt 2 (some .int) 1 0 0 [.ref q, .int i] M (fun r M1 => r = some (.int (if 0 ≤ i.toInt ∧ i.toInt < n then fm i.toInt.toNat else -1)) ∧ M1 = M) := by
  obtain ⟨hq, hg, hm⟩ := h
  refine sm_enter (by decide +kernel) rfl (fun _ => Nat.le_of_ble_eq_true rfl) ?_
  refine sg_aload_n dX4_makerAt_0 rfl ?_
  refine sg_iload_n dX4_makerAt_1 rfl ?_
  refine sg_V1 dX4_makerAt_2 cv_X4_28 (by first | rfl | assumption) (c_has _ (by first | rfl | assumption)) (Nat.le_of_ble_eq_true rfl) (Nat.le_of_ble_eq_true rfl) (Nat.le_of_ble_eq_true rfl) (Nat.le_of_ble_eq_true rfl) (fun r M1 hp => ?_)
  obtain ⟨rfl, rfl⟩ := hp
  refine sg_bf_eq 17 dX4_makerAt_5 (by decide) (fun c => ?_) (fun c => ?_)
  · rw [nI_toInt (by omega)] at c
    refine sg_iconst (-1) dX4_makerAt_17 (by decide) ?_
    refine sg_ireturn dX4_makerAt_18 rfl (Nat.le_of_ble_eq_true rfl) (Nat.le_of_ble_eq_true rfl) ?_
    exact ⟨by rw [if_neg (by omega)], rfl⟩
  · rw [nI_toInt (by omega)] at c
    refine sg_aload_n dX4_makerAt_8 rfl ?_
    refine sg_get dX4_makerAt_9 fl_X4_15 (by first | rfl | assumption) rfl ?_
    refine sg_iload_n dX4_makerAt_12 rfl ?_
    refine sg_ald (i.toInt.toNat) dX4_makerAt_13 (by first | rfl | assumption) (sm_asN c.1) (by omega) (by decide) ?_
    refine sg_goto 18 dX4_makerAt_14 (by decide) ?_
    refine sg_ireturn dX4_makerAt_18 rfl (Nat.le_of_ble_eq_true rfl) (Nat.le_of_ble_eq_true rfl) ?_
    exact ⟨by rw [if_pos ⟨c.1, c.2.1⟩], rfl⟩
/-- append: k beads of one kind behind the n that are there -/
theorem lp_append {q g m n k : Nat} {fg fm : Nat → Int32} {ow nm gr mk : Int32} {Post : Option Value → sm_M → Prop} (hk : n + k ≤ 80) (hgm : g ≠ m)
    (hP : ∀ M1 : sm_M, sm_ex M M1 [q, g, m] → sm_st M1 q g m (n + k) (fun j => if n ≤ j ∧ j < n + k then gr else fg j) (fun j => if n ≤ j ∧ j < n + k then mk else fm j) ow nm → Post none M1) :
    ∀ (r t : Nat) (M1 : sm_M), t + r = k → sm_ex M M1 [q, g, m] → sm_st M1 q g m (n + t) (fun j => if n ≤ j ∧ j < n + t then gr else fg j) (fun j => if n ≤ j ∧ j < n + t then mk else fm j) ow nm →
      sm_G l b D cA yX4_append cX4_append 5 none 0 0 0 Post 0 0 3 [some (.ref q), some (.int gr), some (.int mk), some (.int (nI k)), some (.int (nI t))] [] M1 := by
  intro r
  induction r with
  | zero =>
    intro t M1 ht hx hs
    have htk : t = k := by omega
    subst htk
    refine sg_iload dX4_append_3 rfl ?_
    refine sg_iload_n dX4_append_5 rfl ?_
    refine sg_icmp_ge 54 dX4_append_6 (by decide) (fun c => ?_) (fun c => ?_)
    · refine sg_return dX4_append_54 rfl (Nat.le_of_ble_eq_true rfl) (Nat.le_of_ble_eq_true rfl) ?_
      exact hP M1 hx hs
    · exact absurd (nI_le (Nat.le_refl t) (by omega)) c
  | succ r ih =>
    intro t M1 ht hx hs
    obtain ⟨hq, hg, hm⟩ := hs
    have hqg := sm_neoi hq hg
    have hqm := sm_neoi hq hm
    refine sg_iload dX4_append_3 rfl ?_
    refine sg_iload_n dX4_append_5 rfl ?_
    refine sg_icmp_ge 54 dX4_append_6 (by decide) (fun c => ?_) (fun c => ?_)
    · exact absurd c (nI_ge (by omega) (by omega))
    · refine sg_aload_n dX4_append_9 rfl ?_
      refine sg_get dX4_append_10 fl_X4_18 (by first | rfl | assumption) rfl ?_
      refine sg_bipush 80 dX4_append_13 (by decide) ?_
      refine sg_icmp_ge 54 dX4_append_15 (by decide) (fun c2 => ?_) (fun c2 => ?_)
      · exact absurd c2 (sm_n80 (by omega))
      · refine sg_aload_n dX4_append_18 rfl ?_
        refine sg_get dX4_append_19 fl_X4_9 (by first | rfl | assumption) rfl ?_
        refine sg_aload_n dX4_append_22 rfl ?_
        refine sg_get dX4_append_23 fl_X4_18 (by first | rfl | assumption) rfl ?_
        refine sg_iload_n dX4_append_26 rfl ?_
        refine sg_astx (n + t) dX4_append_27 hg rfl (by omega) (by decide) (fun M2 hx2 hg2 => ?_)
        have hq2 := (hx2.2 q (by simp [hqg])).trans hq
        have hm2 := (hx2.2 m (by simp [Ne.symm hgm])).trans hm
        refine sg_aload_n dX4_append_28 rfl ?_
        refine sg_get dX4_append_29 fl_X4_15 (by first | rfl | assumption) rfl ?_
        refine sg_aload_n dX4_append_32 rfl ?_
        refine sg_get dX4_append_33 fl_X4_18 (by first | rfl | assumption) rfl ?_
        refine sg_iload_n dX4_append_36 rfl ?_
        refine sg_astx (n + t) dX4_append_37 hm2 rfl (by omega) (by decide) (fun M3 hx3 hm3 => ?_)
        have hq3 := (hx3.2 q (by simp [hqm])).trans hq2
        have hg3 := (hx3.2 g (by simp [hgm])).trans hg2
        refine sg_aload_n dX4_append_38 rfl ?_
        refine sg_dup dX4_append_39 rfl ?_
        refine sg_get dX4_append_40 fl_X4_18 (by first | rfl | assumption) rfl ?_
        refine sg_iconst 1 dX4_append_43 (by decide) ?_
        refine sg_iadd dX4_append_44 ?_
        refine sg_putx dX4_append_45 fl_X4_18 ft_X4_2 hq3 (Nat.le_of_ble_eq_true rfl) (fun M4 hx4 hq4 => ?_)
        have hg4 := (hx4.2 g (by simp [Ne.symm hqg])).trans hg3
        have hm4 := (hx4.2 m (by simp [Ne.symm hqm])).trans hm3
        rw [sm_fill] at hg4 hm4
        rw [nI_1] at hq4
        refine sg_iinc _ dX4_append_48 rfl (sm_inc t) (by decide) ?_
        refine sg_goto 3 dX4_append_51 (by decide) ?_
        exact ih (t + 1) M4 (by omega) (hx.tr ((hx2.mono (by simp)).tr ((hx3.mono (by simp)).tr (hx4.mono (by simp))))) ⟨hq4, hg4, hm4⟩
theorem c_append {q g m n : Nat} {fg fm : Nat → Int32} {ow nm gr mk cnt : Int32} (k : Nat) (hc : cnt = nI k) (hk : n + k ≤ 80) (hgm : g ≠ m) (h : sm_st M q g m n fg fm ow nm) : sm_Ct l b D cA yX4_append cX4_append 5 none 0 0 0 [.ref q, .int gr, .int mk, .int cnt] M (fun r M1 => r = none ∧ sm_ex M M1 [q, g, m] ∧ sm_st M1 q g m (n + k) (fun j => if n ≤ j ∧ j < n + k then gr else fg j) (fun j => if n ≤ j ∧ j < n + k then mk else fm j) ow nm) := by
  subst hc
  refine sm_enter (by decide +kernel) rfl (fun _ => Nat.le_of_ble_eq_true rfl) ?_
  refine sg_iconst 0 dX4_append_0 (by decide) ?_
  refine sg_istore dX4_append_1 (by decide) ?_
  refine lp_append (M := M) hk hgm (fun M1 h1 h2 => ⟨rfl, h1, h2⟩) k 0 M (by omega) sm_ex.rf ?_
  have e : ∀ (f : Nat → Int32) (x : Int32), (fun j => if n ≤ j ∧ j < n + 0 then x else f j) = f := fun f x => by
    funext j
    rw [if_neg (by omega)]
  rw [e, e]
  exact h
/-- appendFrom: the beads from place a on of another strand -/
theorem lp_appendFrom {q g m n q2 g2 m2 n2 a : Nat} {fg fm fg2 fm2 : Nat → Int32} {ow nm ow2 nm2 : Int32} {Post : Option Value → sm_M → Prop} (ha : a ≤ n2) (hn2 : n2 ≤ 80) (hk : n + (n2 - a) ≤ 80) (hgm : g ≠ m) (hd : ∀ z ∈ [q, g, m], z ∉ [q2, g2, m2]) (h2 : sm_st M q2 g2 m2 n2 fg2 fm2 ow2 nm2)
    (hP : ∀ M1 : sm_M, sm_ex M M1 [q, g, m] → sm_st M1 q g m (n + (n2 - a)) (fun j => if n ≤ j ∧ j < n + (n2 - a) then fg2 (a + (j - n)) else fg j) (fun j => if n ≤ j ∧ j < n + (n2 - a) then fm2 (a + (j - n)) else fm j) ow nm → Post none M1) :
    ∀ (r t : Nat) (M1 : sm_M), a + t + r = n2 → sm_ex M M1 [q, g, m] → sm_st M1 q g m (n + t) (fun j => if n ≤ j ∧ j < n + t then fg2 (a + (j - n)) else fg j) (fun j => if n ≤ j ∧ j < n + t then fm2 (a + (j - n)) else fm j) ow nm →
      sm_G l b D cA yX4_appendFrom cX4_appendFrom 4 none 2 0 0 Post 0 0 2 [some (.ref q), some (.ref q2), some (.int (nI a)), some (.int (nI (a + t)))] [] M1 := by
  intro r
  induction r with
  | zero =>
    intro t M1 ht hx hs
    have e : t = n2 - a := by omega
    subst e
    have hs2 := h2.ex hx (fun z => hd _ z (by simp)) (fun z => hd _ z (by simp)) (fun z => hd _ z (by simp))
    obtain ⟨hq2, hg2, hm2⟩ := hs2
    refine sg_iload_n dX4_appendFrom_2 rfl ?_
    refine sg_aload_n dX4_appendFrom_3 rfl ?_
    refine sg_get dX4_appendFrom_4 fl_X4_18 (by first | rfl | assumption) rfl ?_
    refine sg_icmp_ge 31 dX4_appendFrom_7 (by decide) (fun c => ?_) (fun c => ?_)
    · refine sg_return dX4_appendFrom_31 rfl (Nat.le_of_ble_eq_true rfl) (Nat.le_of_ble_eq_true rfl) ?_
      exact hP M1 hx hs
    · exact absurd (nI_le (by omega) (by omega)) c
  | succ r ih =>
    intro t M1 ht hx hs
    have hs2 := h2.ex hx (fun z => hd _ z (by simp)) (fun z => hd _ z (by simp)) (fun z => hd _ z (by simp))
    obtain ⟨hq2, hg2, hm2⟩ := id hs2
    obtain ⟨hq, hg, hm⟩ := id hs
    have hi : (nI (a + t)).toInt = ((a + t : Nat) : Int) := nI_toInt (by omega)
    have hv : ∀ f : Nat → Int32, (if 0 ≤ (nI (a + t)).toInt ∧ (nI (a + t)).toInt < n2 then f (nI (a + t)).toInt.toNat else -1) = f (a + t) := fun f => by
      rw [hi, if_pos (by omega)]
      rfl
    refine sg_iload_n dX4_appendFrom_2 rfl ?_
    refine sg_aload_n dX4_appendFrom_3 rfl ?_
    refine sg_get dX4_appendFrom_4 fl_X4_18 (by first | rfl | assumption) rfl ?_
    refine sg_icmp_ge 31 dX4_appendFrom_7 (by decide) (fun c => ?_) (fun c => ?_)
    · exact absurd c (nI_ge (by omega) (by omega))
    · refine sg_aload_n dX4_appendFrom_10 rfl ?_
      refine sg_aload_n dX4_appendFrom_11 rfl ?_
      refine sg_iload_n dX4_appendFrom_12 rfl ?_
      refine sg_V1 dX4_appendFrom_13 cv_X4_32 hq2 (c_gradeAt _ hn2 hs2) (Nat.le_of_ble_eq_true rfl) (Nat.le_of_ble_eq_true rfl) (Nat.le_of_ble_eq_true rfl) (Nat.le_of_ble_eq_true rfl) (fun r9 M9 hp => ?_)
      obtain ⟨e1, e2⟩ := hp
      rw [hv] at e1
      subst e1
      rw [e2]
      refine sg_aload_n dX4_appendFrom_16 rfl ?_
      refine sg_iload_n dX4_appendFrom_17 rfl ?_
      refine sg_V1 dX4_appendFrom_18 cv_X4_36 hq2 (c_makerAt _ hn2 hs2) (Nat.le_of_ble_eq_true rfl) (Nat.le_of_ble_eq_true rfl) (Nat.le_of_ble_eq_true rfl) (Nat.le_of_ble_eq_true rfl) (fun r9 M9 hp => ?_)
      obtain ⟨e1, e2⟩ := hp
      rw [hv] at e1
      subst e1
      rw [e2]
      refine sg_iconst 1 dX4_appendFrom_21 (by decide) ?_
      refine sg_V3 dX4_appendFrom_22 cv_X4_39 hq (c_append 1 (by decide) (by omega) hgm hs) (Nat.le_of_ble_eq_true rfl) (Nat.le_of_ble_eq_true rfl) (Nat.le_of_ble_eq_true rfl) (Nat.le_of_ble_eq_true rfl) (fun r9 M9 hp => ?_)
      obtain ⟨rfl, hx9, hs9⟩ := hp
      refine sg_iinc _ dX4_appendFrom_25 rfl (sm_inc (a + t)) (by decide) ?_
      refine sg_goto 2 dX4_appendFrom_28 (by decide) ?_
      refine ih (t + 1) M9 (by omega) (hx.tr hx9) ?_
      have e : ∀ f2 f : Nat → Int32, (fun j => if n + t ≤ j ∧ j < n + t + 1 then f2 (a + t) else if n ≤ j ∧ j < n + t then f2 (a + (j - n)) else f j) = fun j => if n ≤ j ∧ j < n + (t + 1) then f2 (a + (j - n)) else f j := fun f2 f => by
        funext j
        by_cases h1 : n + t ≤ j ∧ j < n + t + 1
        · rw [if_pos h1, if_pos (by omega)]
          congr 1
          omega
        · rw [if_neg h1]
          by_cases h3 : n ≤ j ∧ j < n + t
          · rw [if_pos h3, if_pos (by omega)]
          · rw [if_neg h3, if_neg (by omega)]
      rw [e, e] at hs9
      exact hs9
theorem c_appendFrom {q g m n q2 g2 m2 n2 : Nat} {fg fm fg2 fm2 : Nat → Int32} {ow nm ow2 nm2 fr0 : Int32} (a : Nat) (hf : fr0 = nI a) (ha : a ≤ n2) (hn2 : n2 ≤ 80) (hk : n + (n2 - a) ≤ 80) (hgm : g ≠ m) (hd : ∀ z ∈ [q, g, m], z ∉ [q2, g2, m2]) (h : sm_st M q g m n fg fm ow nm) (h2 : sm_st M q2 g2 m2 n2 fg2 fm2 ow2 nm2) : sm_Ct l b D cA yX4_appendFrom cX4_appendFrom 4 none 2 0 0 [.ref q, .ref q2, .int fr0] M (fun r M1 => r = none ∧ sm_ex M M1 [q, g, m] ∧ sm_st M1 q g m (n + (n2 - a)) (fun j => if n ≤ j ∧ j < n + (n2 - a) then fg2 (a + (j - n)) else fg j) (fun j => if n ≤ j ∧ j < n + (n2 - a) then fm2 (a + (j - n)) else fm j) ow nm) := by
  subst hf
  refine sm_enter (by decide +kernel) rfl (fun _ => Nat.le_of_ble_eq_true rfl) ?_
  refine sg_iload_n dX4_appendFrom_0 rfl ?_
  refine sg_istore_n dX4_appendFrom_1 (by decide) ?_
  refine lp_appendFrom (M := M) ha hn2 hk hgm hd h2 (fun M1 h1 h2 => ⟨rfl, h1, h2⟩) (n2 - a) 0 M (by omega) sm_ex.rf ?_
  have e : ∀ (f2 f : Nat → Int32), (fun j => if n ≤ j ∧ j < n + 0 then f2 (a + (j - n)) else f j) = f := fun f2 f => by
    funext j
    rw [if_neg (by omega)]
  rw [e, e]
  exact h
end SM21
