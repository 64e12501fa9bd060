/-! the heap: its row, the plan, a part's length -/
def sm_go (fl : Nat → Nat) (sz : Nat) (i : Int32) : Nat → Nat → Nat → Nat
  | 0, _, p => p
  | r + 1, t, p => if nI t < i ∧ p < sz then sm_go fl sz i r (t + 1) (p + fl p) else p
section SM27
variable {l : Launch} {b : Nat} {D : va_G} {cA : Nat → ClassId} {M : sm_M}
theorem lp_lay {sz p0 g : Nat} {hb G : Nat → Nat} {fw fp ff : Nat → Int32} {Post : Option Value → sm_M → Prop} (hg : g < 5) (hs : p0 + hb g ≤ 60) (hG : ∀ p, p0 ≤ p → p < p0 + hb g → G p = g)
    (hP : ∀ (M1 : sm_M) (f : Nat → Int32), sm_ex M M1 [19] → sm_hp M1 sz (fun j => nI (hb j)) f fw fp ff → (∀ p, p < p0 + hb g → f p = nI (G p)) → sm_G l b D cA yX1_layRow cX1_layRow 4 none 0 0 0 Post 0 0 42 [some (.ref 17), some (.int (nI (p0 + hb g))), some (.int (nI g)), some (.int (nI (hb g)))] [] M1) :
    ∀ (r t : Nat) (M1 : sm_M) (f : Nat → Int32), t + r = hb g → sm_ex M M1 [19] → sm_hp M1 sz (fun j => nI (hb j)) f fw fp ff → (∀ p, p < p0 + t → f p = nI (G p)) → sm_G l b D cA yX1_layRow cX1_layRow 4 none 0 0 0 Post 0 0 10 [some (.ref 17), some (.int (nI (p0 + t))), some (.int (nI g)), some (.int (nI t))] [] M1 := by
  intro r
  induction r with
  | zero =>
    intro t M1 f ht hx h hf
    have e : t = hb g := by omega
    subst e
    obtain ⟨h17, h18, h19, h20, h21, h22⟩ := id h
    refine sg_iload_n dX1_layRow_10 rfl ?_
    refine sg_aload_n dX1_layRow_11 rfl ?_
    refine sg_get dX1_layRow_12 fl_X1_9 (by first | rfl | assumption) rfl ?_
    refine sg_iload_n dX1_layRow_15 rfl ?_
    refine sg_ald (g) dX1_layRow_16 (by first | rfl | assumption) (rfl) (hg) (by decide) ?_
    refine sg_icmp_ge 42 dX1_layRow_17 (by decide) (fun c => ?_) (fun c => ?_)
    · exact hP M1 f hx h hf
    · exact absurd (nI_le (Nat.le_refl _) (by omega)) c
  | succ r ih =>
    intro t M1 f ht hx h hf
    obtain ⟨h17, h18, h19, h20, h21, h22⟩ := id h
    refine sg_iload_n dX1_layRow_10 rfl ?_
    refine sg_aload_n dX1_layRow_11 rfl ?_
    refine sg_get dX1_layRow_12 fl_X1_9 (by first | rfl | assumption) rfl ?_
    refine sg_iload_n dX1_layRow_15 rfl ?_
    refine sg_ald (g) dX1_layRow_16 (by first | rfl | assumption) (rfl) (hg) (by decide) ?_
    refine sg_icmp_ge 42 dX1_layRow_17 (by decide) (fun c => ?_) (fun c => ?_)
    · exact absurd c (nI_ge (by omega) (by omega))
    · refine sg_iload_n dX1_layRow_20 rfl ?_
      refine sg_bipush 60 dX1_layRow_21 (by decide) ?_
      refine sg_icmp_ge 42 dX1_layRow_23 (by decide) (fun c => ?_) (fun c => ?_)
      · rw [Int32.le_iff_toInt_le, nI_toInt (by omega), ti_60] at c
        exact absurd c (by omega)
      · refine sg_aload_n dX1_layRow_26 rfl ?_
        refine sg_get dX1_layRow_27 fl_X1_19 (by first | rfl | assumption) rfl ?_
        refine sg_iload_n dX1_layRow_30 rfl ?_
        refine sg_iload_n dX1_layRow_31 rfl ?_
        refine sg_astx (p0 + t) dX1_layRow_32 h19 rfl (by omega) (by decide) (fun M2 x2 g2 => ?_)
        refine sg_iinc _ dX1_layRow_33 rfl (sm_inc (p0 + t)) (by decide) ?_
        refine sg_iinc _ dX1_layRow_36 rfl (sm_inc t) (by decide) ?_
        refine sg_goto 10 dX1_layRow_39 (by decide) ?_
        refine ih (t + 1) M2 _ (by omega) (hx.tr x2) ⟨(x2.2 17 (by decide)).trans h17, (x2.2 18 (by decide)).trans h18, g2, (x2.2 20 (by decide)).trans h20, (x2.2 21 (by decide)).trans h21, (x2.2 22 (by decide)).trans h22⟩ (fun p hp => ?_)
        by_cases hpe : p = p0 + t
        · subst hpe
          rw [sm_upeq, hG _ (by omega) (by omega)]
        · rw [sm_upne _ _ hpe]
          exact hf p (by omega)
theorem lay_one {sz p0 g : Nat} {hb G : Nat → Nat} {fw fp ff : Nat → Int32} {Post : Option Value → sm_M → Prop} (hg : g < 5) (hs : p0 + hb g ≤ 60) (hG : ∀ p, p0 ≤ p → p < p0 + hb g → G p = g)
    (hP : ∀ (M1 : sm_M) (f : Nat → Int32) (x : Option Value), sm_ex M M1 [19] → sm_hp M1 sz (fun j => nI (hb j)) f fw fp ff → (∀ p, p < p0 + hb g → f p = nI (G p)) → sm_G l b D cA yX1_layRow cX1_layRow 4 none 0 0 0 Post 0 0 4 [some (.ref 17), some (.int (nI (p0 + hb g))), some (.int (nI g + Int32.ofInt (-1))), x] [] M1)
    (M1 : sm_M) (f : Nat → Int32) (x : Option Value) (hx : sm_ex M M1 [19]) (h : sm_hp M1 sz (fun j => nI (hb j)) f fw fp ff) (hf : ∀ p, p < p0 → f p = nI (G p)) : sm_G l b D cA yX1_layRow cX1_layRow 4 none 0 0 0 Post 0 0 4 [some (.ref 17), some (.int (nI p0)), some (.int (nI g)), x] [] M1 := by
  refine sg_iload_n dX1_layRow_4 rfl ?_
  refine sg_if_lt 48 dX1_layRow_5 (by decide) (fun c => ?_) (fun c => ?_)
  · exact absurd c (nI_pos (by omega))
  · refine sg_iconst (nI 0) dX1_layRow_8 (by decide) ?_
    refine sg_istore_n dX1_layRow_9 (by decide) ?_
    refine lp_lay (M := M) (p0 := p0) (g := g) (G := G) hg hs hG (fun M2 f2 x2 h2 hf2 => ?_) (hb g) 0 M1 f (by omega) hx h hf
    refine sg_iinc _ dX1_layRow_42 rfl rfl (by decide) ?_
    refine sg_goto 4 dX1_layRow_45 (by decide) ?_
    exact hP M2 f2 _ x2 h2 hf2
theorem c_layRow {sz : Nat} {hb : Nat → Nat} {fgo fw fp ff : Nat → Int32} (hsz : sz = hb 0 + hb 1 + hb 2 + hb 3 + hb 4) (hs : sz ≤ 60) (h : sm_hp M sz (fun j => nI (hb j)) fgo fw fp ff) : sm_Ct l b D cA yX1_layRow cX1_layRow 4 none 0 0 0 [.ref 17] M (fun r M1 => r = none ∧ sm_ex M M1 [19] ∧ ∃ f : Nat → Int32, sm_hp M1 sz (fun j => nI (hb j)) f fw fp ff ∧ ∀ p, p < sz → f p = nI (sm_gr hb p)) := by
  refine sm_enter (by decide +kernel) rfl (fun _ => Nat.le_of_ble_eq_true rfl) ?_
  refine sg_iconst (nI 0) dX1_layRow_0 (by decide) ?_
  refine sg_istore_n dX1_layRow_1 (by decide) ?_
  refine sg_iconst (nI 4) dX1_layRow_2 (by decide) ?_
  refine sg_istore_n dX1_layRow_3 (by decide) ?_
  refine lay_one (M := M) (sz := sz) (p0 := 0) (g := 4) (hb := hb) (G := sm_gr hb) (fw := fw) (fp := fp) (ff := ff) (by decide) (by omega) (fun p h1 h2 => by unfold sm_gr; rw [if_pos (by omega)]) (fun M1 f1 x1 e1 h1 hf1 => ?_) M fgo _ sm_ex.rf h (fun p hp => absurd hp (by omega))
  rw [show nI 4 + Int32.ofInt (-1) = nI 3 from by decide]
  refine lay_one (M := M) (sz := sz) (p0 := 0 + hb 4) (g := 3) (hb := hb) (G := sm_gr hb) (fw := fw) (fp := fp) (ff := ff) (by decide) (by omega) (fun p h1 h2 => by unfold sm_gr; rw [if_neg (by omega), if_pos (by omega)]) (fun M1 f1 x1 e1 h1 hf1 => ?_) M1 f1 _ e1 h1 hf1
  rw [show nI 3 + Int32.ofInt (-1) = nI 2 from by decide]
  refine lay_one (M := M) (sz := sz) (p0 := 0 + hb 4 + hb 3) (g := 2) (hb := hb) (G := sm_gr hb) (fw := fw) (fp := fp) (ff := ff) (by decide) (by omega) (fun p h1 h2 => by unfold sm_gr; rw [if_neg (by omega), if_neg (by omega), if_pos (by omega)]) (fun M1 f1 x1 e1 h1 hf1 => ?_) M1 f1 _ e1 h1 hf1
  rw [show nI 2 + Int32.ofInt (-1) = nI 1 from by decide]
  refine lay_one (M := M) (sz := sz) (p0 := 0 + hb 4 + hb 3 + hb 2) (g := 1) (hb := hb) (G := sm_gr hb) (fw := fw) (fp := fp) (ff := ff) (by decide) (by omega) (fun p h1 h2 => by unfold sm_gr; rw [if_neg (by omega), if_neg (by omega), if_neg (by omega), if_pos (by omega)]) (fun M1 f1 x1 e1 h1 hf1 => ?_) M1 f1 _ e1 h1 hf1
  rw [show nI 1 + Int32.ofInt (-1) = nI 0 from by decide]
  refine lay_one (M := M) (sz := sz) (p0 := 0 + hb 4 + hb 3 + hb 2 + hb 1) (g := 0) (hb := hb) (G := sm_gr hb) (fw := fw) (fp := fp) (ff := ff) (by decide) (by omega) (fun p h1 h2 => by unfold sm_gr; rw [if_neg (by omega), if_neg (by omega), if_neg (by omega), if_neg (by omega)]) (fun M1 f1 x1 e1 h1 hf1 => ?_) M1 f1 _ e1 h1 hf1
  refine sg_iload_n dX1_layRow_4 rfl ?_
  refine sg_if_lt 48 dX1_layRow_5 (by decide) (fun c => ?_) (fun c => ?_)
  · refine sg_return dX1_layRow_48 rfl (Nat.le_of_ble_eq_true rfl) (Nat.le_of_ble_eq_true rfl) ?_
    exact ⟨rfl, e1, f1, h1, fun p hp => hf1 p (by omega)⟩
  · exact absurd (by decide) c
theorem sm_gr_lt (hb : Nat → Nat) (p : Nat) : sm_gr hb p < 5 := by
  unfold sm_gr
  repeat' split
  all_goals omega
/-- the plan: worth, parts and first length from each place on, as sm_out has them -/
theorem c_plan {sz : Nat} {hb : Nat → Nat} {fgo fw fp ff r1 r2 r3 r4 : Nat → Int32} {fame : Int32} (hsz : sz = hb 0 + hb 1 + hb 2 + hb 3 + hb 4) (hs : sz ≤ 60) (hr : sm_rates M r1 r2 r3 r4 fame) (h : sm_hp M sz (fun j => nI (hb j)) fgo fw fp ff) : sm_Ct l b D cA yX1_plan cX1_plan 4 none 4 0 0 [.ref 17, .ref 3] M (fun r M1 => r = none ∧ sm_ex M M1 [19, 20, 21, 22] ∧ ∃ f : Nat → Int32, sm_hp M1 sz (fun j => nI (hb j)) f (sm_out (fun a k => sm_wbl r1 r2 r3 r4 (sm_gr hb (a + k - 1)) (nI k)) sz fw fp ff sz).1 (sm_out (fun a k => sm_wbl r1 r2 r3 r4 (sm_gr hb (a + k - 1)) (nI k)) sz fw fp ff sz).2.1 (sm_out (fun a k => sm_wbl r1 r2 r3 r4 (sm_gr hb (a + k - 1)) (nI k)) sz fw fp ff sz).2.2) := by
  obtain ⟨h17, h18, h19, h20, h21, h22⟩ := id h
  refine sm_enter (by decide +kernel) rfl (fun _ => Nat.le_of_ble_eq_true rfl) ?_
  refine sg_aload_n dX1_plan_0 rfl ?_
  refine sg_V0 dX1_plan_1 cv_X1_35 h17 (c_layRow hsz hs h) (Nat.le_of_ble_eq_true rfl) (Nat.le_of_ble_eq_true rfl) (Nat.le_of_ble_eq_true rfl) (Nat.le_of_ble_eq_true rfl) (fun r9 M9 hp => ?_)
  obtain ⟨rfl, x9, f, h9, hf⟩ := hp
  have g17 := h9.1
  refine sg_aload_n dX1_plan_4 rfl ?_
  refine sg_aload_n dX1_plan_5 rfl ?_
  refine sg_get dX1_plan_6 fl_X1_15 (by first | rfl | assumption) rfl ?_
  refine sg_V1 dX1_plan_9 cv_X1_38 g17 (c_clearFrom sz rfl hs h9) (Nat.le_of_ble_eq_true rfl) (Nat.le_of_ble_eq_true rfl) (Nat.le_of_ble_eq_true rfl) (Nat.le_of_ble_eq_true rfl) (fun r8 M8 hp => ?_)
  obtain ⟨rfl, x8, h8⟩ := hp
  have k17 := h8.1
  refine sg_aload_n dX1_plan_12 rfl ?_
  refine sg_get dX1_plan_13 fl_X1_15 (by first | rfl | assumption) rfl ?_
  refine sg_iconst 1 dX1_plan_16 (by decide) ?_
  refine sg_isub dX1_plan_17 ?_
  refine sg_istore_n dX1_plan_18 (by decide) ?_
  exact lp_plan2 (M := M9) (G := sm_gr hb) (fw := fw) (fp := fp) (ff := ff) hs (fun p hp => ⟨sm_gr_lt hb p, hf p hp⟩) (hr.ex x9 (by decide)) (fun M1 hx1 h1 => ⟨rfl, (x9.mono (by decide)).tr (hx1.mono (by decide)), f, h1⟩) sz 0 _ M8 (by omega) x8 h8
theorem lp_lengthOfPart {sz : Nat} {fl : Nat → Nat} {fb fgo fw fp ff : Nat → Int32} {i : Int32} {Post : Option Value → sm_M → Prop} (hs : sz ≤ 60) (hfl : ∀ p, p < sz → ff p = nI (fl p) ∧ p + fl p ≤ sz) (h : sm_hp M sz fb fgo fw fp ff) :
    ∀ (r t p : Nat), t + r = 60 → p ≤ sz → (∀ x : Option Value, sm_G l b D cA yX1_lengthOfPart cX1_lengthOfPart 4 (some .int) 1 0 0 Post 0 0 38 [some (.ref 17), some (.int i), some (.int (nI (sm_go fl sz i r t p))), x] [] M) → sm_G l b D cA yX1_lengthOfPart cX1_lengthOfPart 4 (some .int) 1 0 0 Post 0 0 4 [some (.ref 17), some (.int i), some (.int (nI p)), some (.int (nI t))] [] M := by
  obtain ⟨h17, h18, h19, h20, h21, h22⟩ := id h
  intro r
  induction r with
  | zero =>
    intro t p ht hp hP
    have e : t = 60 := by omega
    subst e
    refine sg_iload_n dX1_lengthOfPart_4 rfl ?_
    refine sg_iload_n dX1_lengthOfPart_5 rfl ?_
    refine sg_icmp_ge 38 dX1_lengthOfPart_6 (by decide) (fun c => ?_) (fun c => ?_)
    · exact hP _
    · refine sg_iload_n dX1_lengthOfPart_9 rfl ?_
      refine sg_bipush 60 dX1_lengthOfPart_10 (by decide) ?_
      refine sg_icmp_ge 38 dX1_lengthOfPart_12 (by decide) (fun c => ?_) (fun c => ?_)
      · exact hP _
      · exact absurd (by decide) c
  | succ r ih =>
    intro t p ht hp hP
    unfold sm_go at hP
    refine sg_iload_n dX1_lengthOfPart_4 rfl ?_
    refine sg_iload_n dX1_lengthOfPart_5 rfl ?_
    refine sg_icmp_ge 38 dX1_lengthOfPart_6 (by decide) (fun c => ?_) (fun c => ?_)
    · rw [if_neg (fun q => absurd c (Int32.not_le.mpr q.1))] at hP
      exact hP _
    · refine sg_iload_n dX1_lengthOfPart_9 rfl ?_
      refine sg_bipush 60 dX1_lengthOfPart_10 (by decide) ?_
      refine sg_icmp_ge 38 dX1_lengthOfPart_12 (by decide) (fun c2 => ?_) (fun c2 => ?_)
      · rw [Int32.le_iff_toInt_le, nI_toInt (by omega), ti_60] at c2
        exact absurd c2 (by omega)
      · refine sg_iload_n dX1_lengthOfPart_15 rfl ?_
        refine sg_aload_n dX1_lengthOfPart_16 rfl ?_
        refine sg_get dX1_lengthOfPart_17 fl_X1_15 (by first | rfl | assumption) rfl ?_
        refine sg_icmp_ge 38 dX1_lengthOfPart_20 (by decide) (fun c3 => ?_) (fun c3 => ?_)
        · rw [Int32.le_iff_toInt_le, nI_toInt (by omega), nI_toInt (by omega)] at c3
          rw [if_neg (fun q => absurd q.2 (by omega))] at hP
          exact hP _
        · rw [Int32.le_iff_toInt_le, nI_toInt (by omega), nI_toInt (by omega)] at c3
          have hlt : p < sz := by omega
          rw [if_pos ⟨Int32.not_le.mp c, hlt⟩] at hP
          refine sg_iload_n dX1_lengthOfPart_23 rfl ?_
          refine sg_aload_n dX1_lengthOfPart_24 rfl ?_
          refine sg_get dX1_lengthOfPart_25 fl_X1_28 (by first | rfl | assumption) rfl ?_
          refine sg_iload_n dX1_lengthOfPart_28 rfl ?_
          refine sg_ald (p) dX1_lengthOfPart_29 (by first | rfl | assumption) (rfl) (by omega) (by decide) ?_
          refine sg_iadd dX1_lengthOfPart_30 ?_
          rw [(hfl p hlt).1, nI_add]
          refine sg_istore_n dX1_lengthOfPart_31 (by decide) ?_
          refine sg_iinc _ dX1_lengthOfPart_32 rfl (sm_inc t) (by decide) ?_
          refine sg_goto 4 dX1_lengthOfPart_35 (by decide) ?_
          exact ih (t + 1) (p + fl p) (by omega) (hfl p hlt).2 hP
theorem sm_go_le {sz : Nat} {fl : Nat → Nat} {i : Int32} (hfl : ∀ p, p < sz → p + fl p ≤ sz) : ∀ (r t p : Nat), p ≤ sz → sm_go fl sz i r t p ≤ sz
  | 0, _, _, h => h
  | r + 1, t, p, h => by
    unfold sm_go
    by_cases c : nI t < i ∧ p < sz
    · rw [if_pos c]
      exact sm_go_le hfl r (t + 1) (p + fl p) (hfl p c.2)
    · rw [if_neg c]
      exact h
theorem c_lengthOfPart {sz : Nat} {fl : Nat → Nat} {fb fgo fw fp ff : Nat → Int32} (i : Int32) (hs : sz ≤ 60) (hfl : ∀ p, p < sz → ff p = nI (fl p) ∧ p + fl p ≤ sz) (h : sm_hp M sz fb fgo fw fp ff) : sm_Ct l b D cA yX1_lengthOfPart cX1_lengthOfPart 4 (some .int) 1 0 0 [.ref 17, .int i] M (fun r M1 => r = some (.int (if ¬ i < 0 ∧ i < fp 0 ∧ sm_go fl sz i 60 0 0 < sz then nI (fl (sm_go fl sz i 60 0 0)) else -1)) ∧ M1 = M) := by
  obtain ⟨h17, h18, h19, h20, h21, h22⟩ := id h
  have hgo := sm_go_le (i := i) (fun p hp => (hfl p hp).2) 60 0 0 (Nat.zero_le sz)
  generalize hP0 : sm_go fl sz i 60 0 0 = P at hgo ⊢
  refine sm_enter (by decide +kernel) rfl (fun _ => Nat.le_of_ble_eq_true rfl) ?_
  refine sg_iconst (nI 0) dX1_lengthOfPart_0 (by decide) ?_
  refine sg_istore_n dX1_lengthOfPart_1 (by decide) ?_
  refine sg_iconst (nI 0) dX1_lengthOfPart_2 (by decide) ?_
  refine sg_istore_n dX1_lengthOfPart_3 (by decide) ?_
  refine lp_lengthOfPart hs hfl h 60 0 0 (by omega) (by omega) (fun x => ?_)
  rw [hP0]
  refine sg_iload_n dX1_lengthOfPart_38 rfl ?_
  refine sg_if_lt 67 dX1_lengthOfPart_39 (by decide) (fun c => ?_) (fun c => ?_)
  · refine sg_iconst (-1) dX1_lengthOfPart_67 (by decide) ?_
    refine sg_ireturn dX1_lengthOfPart_68 rfl (Nat.le_of_ble_eq_true rfl) (Nat.le_of_ble_eq_true rfl) ?_
    exact ⟨by rw [if_neg (fun q => q.1 c)], rfl⟩
  · refine sg_iload_n dX1_lengthOfPart_42 rfl ?_
    refine sg_aload_n dX1_lengthOfPart_43 rfl ?_
    refine sg_V0 dX1_lengthOfPart_44 cv_X1_52 h17 (c_bestParts h) (Nat.le_of_ble_eq_true rfl) (Nat.le_of_ble_eq_true rfl) (Nat.le_of_ble_eq_true rfl) (Nat.le_of_ble_eq_true rfl) (fun r9 M9 hp => ?_)
    obtain ⟨rfl, e9⟩ := hp
    rw [e9]
    refine sg_icmp_ge 67 dX1_lengthOfPart_47 (by decide) (fun c2 => ?_) (fun c2 => ?_)
    · refine sg_iconst (-1) dX1_lengthOfPart_67 (by decide) ?_
      refine sg_ireturn dX1_lengthOfPart_68 rfl (Nat.le_of_ble_eq_true rfl) (Nat.le_of_ble_eq_true rfl) ?_
      exact ⟨by rw [if_neg (fun q => absurd c2 (Int32.not_le.mpr q.2.1))], rfl⟩
    · refine sg_iload_n dX1_lengthOfPart_50 rfl ?_
      refine sg_aload_n dX1_lengthOfPart_51 rfl ?_
      refine sg_get dX1_lengthOfPart_52 fl_X1_15 (by first | rfl | assumption) rfl ?_
      refine sg_icmp_ge 67 dX1_lengthOfPart_55 (by decide) (fun c3 => ?_) (fun c3 => ?_)
      · rw [Int32.le_iff_toInt_le, nI_toInt (by omega), nI_toInt (by omega)] at c3
        refine sg_iconst (-1) dX1_lengthOfPart_67 (by decide) ?_
        refine sg_ireturn dX1_lengthOfPart_68 rfl (Nat.le_of_ble_eq_true rfl) (Nat.le_of_ble_eq_true rfl) ?_
        exact ⟨by rw [if_neg (fun q => absurd q.2.2 (by omega))], rfl⟩
      · rw [Int32.le_iff_toInt_le, nI_toInt (by omega), nI_toInt (by omega)] at c3
        refine sg_aload_n dX1_lengthOfPart_58 rfl ?_
        refine sg_get dX1_lengthOfPart_59 fl_X1_28 (by first | rfl | assumption) rfl ?_
        refine sg_iload_n dX1_lengthOfPart_62 rfl ?_
        refine sg_ald (P) dX1_lengthOfPart_63 (by first | rfl | assumption) (rfl) (by omega) (by decide) ?_
        refine sg_goto 68 dX1_lengthOfPart_64 (by decide) ?_
        refine sg_ireturn dX1_lengthOfPart_68 rfl (Nat.le_of_ble_eq_true rfl) (Nat.le_of_ble_eq_true rfl) ?_
        exact ⟨by rw [if_pos ⟨c, Int32.not_le.mp c2, by omega⟩, (hfl P (by omega)).1], rfl⟩
end SM27
