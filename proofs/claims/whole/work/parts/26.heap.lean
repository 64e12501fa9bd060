/-! the heap: how it is strung best, as the class has it -/
theorem sm_rates.ex {M M1 : sm_M} {fr fb ff fd : Nat → Int32} {fame : Int32} {zs : List Nat} (h : sm_rates M fr fb ff fd fame) (hx : sm_ex M M1 zs) (hz : ∀ z ∈ [3, 4, 5, 6, 7], z ∉ zs) : sm_rates M1 fr fb ff fd fame := by
  obtain ⟨h3, h4, h5, h6, h7⟩ := h
  exact ⟨(hx.2 3 (hz 3 (by decide))).trans h3, (hx.2 4 (hz 4 (by decide))).trans h4, (hx.2 5 (hz 5 (by decide))).trans h5, (hx.2 6 (hz 6 (by decide))).trans h6, (hx.2 7 (hz 7 (by decide))).trans h7⟩
/-- one more length tried for the first part -/
def sm_try (w : Int32) (fw fp : Nat → Int32) (a k : Nat) (c : Int32 × Int32 × Int32) : Int32 × Int32 × Int32 := if c.1 < w + fw (a + k) ∨ (w + fw (a + k) = c.1 ∧ 1 + fp (a + k) ≤ c.2.1) then (w + fw (a + k), 1 + fp (a + k), nI k) else c
def sm_inn (wb : Nat → Nat → Int32) (fw fp : Nat → Int32) (a : Nat) : Nat → Int32 × Int32 × Int32
  | 0 => (0, 0, 0)
  | k + 1 => sm_try (wb a (k + 1)) fw fp a (k + 1) (sm_inn wb fw fp a k)
/-- worth, parts, first length from every place on, after the last r places -/
def sm_out (wb : Nat → Nat → Int32) (sz : Nat) (fw fp ff : Nat → Int32) : Nat → (Nat → Int32) × (Nat → Int32) × (Nat → Int32)
  | 0 => (upd fw sz 0, upd fp sz 0, upd ff sz 0)
  | r + 1 => (upd (sm_out wb sz fw fp ff r).1 (sz - (r + 1)) (sm_inn wb (sm_out wb sz fw fp ff r).1 (sm_out wb sz fw fp ff r).2.1 (sz - (r + 1)) (r + 1)).1, upd (sm_out wb sz fw fp ff r).2.1 (sz - (r + 1)) (sm_inn wb (sm_out wb sz fw fp ff r).1 (sm_out wb sz fw fp ff r).2.1 (sz - (r + 1)) (r + 1)).2.1, upd (sm_out wb sz fw fp ff r).2.2 (sz - (r + 1)) (sm_inn wb (sm_out wb sz fw fp ff r).1 (sm_out wb sz fw fp ff r).2.1 (sz - (r + 1)) (r + 1)).2.2)
theorem sm_updd (f : Nat → Int32) (a : Nat) (x z : Int32) : upd (upd f a x) a z = upd f a z := by
  funext j
  unfold upd
  by_cases h : j = a
  · rw [if_pos h, if_pos h]
  · rw [if_neg h, if_neg h, if_neg h]
theorem sm_upne (f : Nat → Int32) {a j : Nat} (x : Int32) (h : j ≠ a) : upd f a x j = f j := by
  unfold upd
  rw [if_neg h]
theorem sm_upeq (f : Nat → Int32) (a : Nat) (x : Int32) : upd f a x a = x := by
  unfold upd
  rw [if_pos rfl]
/-- the grade at a place of the heap's row, best first -/
def sm_gr (hb : Nat → Nat) (p : Nat) : Nat := if p < hb 4 then 4 else if p < hb 4 + hb 3 then 3 else if p < hb 4 + hb 3 + hb 2 then 2 else if p < hb 4 + hb 3 + hb 2 + hb 1 then 1 else 0
section SM26
variable {l : Launch} {b : Nat} {D : va_G} {cA : Nat → ClassId} {M : sm_M}
theorem c_tryFirst {sz a k j : Nat} {fb fgo fw fp ff r1 r2 r3 r4 : Nat → Int32} {fame : Int32} {cw cp cf i x : Int32} (hi : i = nI a) (hx : x = nI k) (hk : 1 ≤ k) (hak : a + k ≤ sz) (hs : sz ≤ 60) (hj : j < 5) (hg : fgo (a + k - 1) = nI j) (hr : sm_rates M r1 r2 r3 r4 fame) (h : sm_hp M sz fb fgo (upd fw a cw) (upd fp a cp) (upd ff a cf)) : sm_Ct l b D cA yX1_tryFirst cX1_tryFirst 8 none 3 0 0 [.ref 17, .ref 3, .int i, .int x] M (fun r M1 => r = none ∧ sm_ex M M1 [20, 21, 22] ∧ sm_hp M1 sz fb fgo (upd fw a (sm_try (sm_wbl r1 r2 r3 r4 j (nI k)) fw fp a k (cw, cp, cf)).1) (upd fp a (sm_try (sm_wbl r1 r2 r3 r4 j (nI k)) fw fp a k (cw, cp, cf)).2.1) (upd ff a (sm_try (sm_wbl r1 r2 r3 r4 j (nI k)) fw fp a k (cw, cp, cf)).2.2)) := by
  subst hi
  subst hx
  obtain ⟨h17, h18, h19, h20, h21, h22⟩ := h
  have e1 : upd fw a cw (a + k) = fw (a + k) := sm_upne _ _ (by omega)
  have e2 : upd fp a cp (a + k) = fp (a + k) := sm_upne _ _ (by omega)
  unfold sm_try
  dsimp only
  refine sm_enter (by decide +kernel) rfl (fun _ => Nat.le_of_ble_eq_true rfl) ?_
  refine sg_iload_n dX1_tryFirst_0 rfl ?_
  refine sg_iload_n dX1_tryFirst_1 rfl ?_
  refine sg_iadd dX1_tryFirst_2 ?_
  rw [nI_add]
  refine sg_istore dX1_tryFirst_3 (by decide) ?_
  refine sg_iload_n dX1_tryFirst_5 rfl ?_
  refine sg_if_lt 30 dX1_tryFirst_6 (by decide) (fun c => ?_) (fun c => ?_)
  · exact absurd c (nI_pos (by omega))
  · refine sg_iload_n dX1_tryFirst_9 rfl ?_
    refine sg_iconst 1 dX1_tryFirst_10 (by decide) ?_
    refine sg_icmp_lt 30 dX1_tryFirst_11 (by decide) (fun c => ?_) (fun c => ?_)
    · rw [Int32.lt_iff_toInt_lt, nI_toInt (by omega), ti_1] at c
      exact absurd c (by omega)
    · refine sg_iload dX1_tryFirst_14 rfl ?_
      refine sg_aload_n dX1_tryFirst_16 rfl ?_
      refine sg_get dX1_tryFirst_17 fl_X1_15 (by first | rfl | assumption) rfl ?_
      refine sg_icmp_gt 30 dX1_tryFirst_20 (by decide) (fun c => ?_) (fun c => ?_)
      · rw [Int32.lt_iff_toInt_lt, nI_toInt (by omega), nI_toInt (by omega)] at c
        exact absurd c (by omega)
      · refine sg_iload dX1_tryFirst_23 rfl ?_
        refine sg_bipush 60 dX1_tryFirst_25 (by decide) ?_
        refine sg_icmp_le 31 dX1_tryFirst_27 (by decide) (fun c => ?_) (fun c => ?_)
        · refine sg_aload_n dX1_tryFirst_31 rfl ?_
          refine sg_aload_n dX1_tryFirst_32 rfl ?_
          refine sg_get dX1_tryFirst_33 fl_X1_19 (by first | rfl | assumption) rfl ?_
          refine sg_iload dX1_tryFirst_36 rfl ?_
          refine sg_iconst 1 dX1_tryFirst_38 (by decide) ?_
          refine sg_isub dX1_tryFirst_39 ?_
          rw [show nI (a + k) - 1 = nI (a + k - 1) from by rw [show a + k = (a + k - 1) + 1 from by omega]; exact nI_pred _]
          refine sg_ald (a + k - 1) dX1_tryFirst_40 h19 rfl (by omega) (by decide) ?_
          refine sg_iload_n dX1_tryFirst_41 rfl ?_
          refine sg_V2 dX1_tryFirst_42 cv_X1_46 hr.1 (c_worthByLength j _ hg hj hr) (Nat.le_of_ble_eq_true rfl) (Nat.le_of_ble_eq_true rfl) (Nat.le_of_ble_eq_true rfl) (Nat.le_of_ble_eq_true rfl) (fun r9 M9 hp => ?_)
          obtain ⟨rfl, e9⟩ := hp
          rw [e9]
          refine sg_aload_n dX1_tryFirst_45 rfl ?_
          refine sg_get dX1_tryFirst_46 fl_X1_22 (by first | rfl | assumption) rfl ?_
          refine sg_iload dX1_tryFirst_49 rfl ?_
          refine sg_ald (a + k) dX1_tryFirst_51 h20 rfl (by omega) (by decide) ?_
          rw [e1]
          refine sg_iadd dX1_tryFirst_52 ?_
          refine sg_istore dX1_tryFirst_53 (by decide) ?_
          refine sg_iconst 1 dX1_tryFirst_55 (by decide) ?_
          refine sg_aload_n dX1_tryFirst_56 rfl ?_
          refine sg_get dX1_tryFirst_57 fl_X1_25 (by first | rfl | assumption) rfl ?_
          refine sg_iload dX1_tryFirst_60 rfl ?_
          refine sg_ald (a + k) dX1_tryFirst_62 h21 rfl (by omega) (by decide) ?_
          rw [e2]
          refine sg_iadd dX1_tryFirst_63 ?_
          generalize hw : sm_wbl r1 r2 r3 r4 j (nI k) + fw (a + k) = w
          generalize hq : 1 + fp (a + k) = z
          refine sg_istore dX1_tryFirst_64 (by decide) ?_
          refine sg_iload dX1_tryFirst_66 rfl ?_
          refine sg_aload_n dX1_tryFirst_68 rfl ?_
          refine sg_get dX1_tryFirst_69 fl_X1_22 (by first | rfl | assumption) rfl ?_
          refine sg_iload_n dX1_tryFirst_72 rfl ?_
          refine sg_ald a dX1_tryFirst_73 h20 rfl (by omega) (by decide) ?_
          rw [sm_upeq]
          have fin : (cw < w ∨ (w = cw ∧ z ≤ cp)) → sm_G l b D cA yX1_tryFirst cX1_tryFirst 8 none 3 0 0 (fun r M1 => r = none ∧ sm_ex M M1 [20, 21, 22] ∧ sm_hp M1 sz fb fgo (upd fw a (if cw < w ∨ (w = cw ∧ z ≤ cp) then (w, z, nI k) else (cw, cp, cf)).1) (upd fp a (if cw < w ∨ (w = cw ∧ z ≤ cp) then (w, z, nI k) else (cw, cp, cf)).2.1) (upd ff a (if cw < w ∨ (w = cw ∧ z ≤ cp) then (w, z, nI k) else (cw, cp, cf)).2.2)) 0 0 99 [some (.ref 17), some (.ref 3), some (.int (nI a)), some (.int (nI k)), some (.int (nI (a + k))), some (.int w), some (.int z), none] [] M := fun hb => by
            rw [if_pos hb]
            refine sg_iconst 1 dX1_tryFirst_99 (by decide) ?_
            refine sg_goto 104 dX1_tryFirst_100 (by decide) ?_
            refine sg_istore dX1_tryFirst_104 (by decide) ?_
            refine sg_iload dX1_tryFirst_106 rfl ?_
            refine sg_if_eq 134 dX1_tryFirst_108 (by decide) (fun c => ?_) (fun c => ?_)
            · exact absurd c (by decide)
            · refine sg_aload_n dX1_tryFirst_111 rfl ?_
              refine sg_get dX1_tryFirst_112 fl_X1_22 (by first | rfl | assumption) rfl ?_
              refine sg_iload_n dX1_tryFirst_115 rfl ?_
              refine sg_iload dX1_tryFirst_116 rfl ?_
              refine sg_astx a dX1_tryFirst_118 h20 rfl (by omega) (by decide) (fun M1 x1 g1 => ?_)
              have a17 := (x1.2 17 (by decide)).trans h17
              have a21 := (x1.2 21 (by decide)).trans h21
              have a22 := (x1.2 22 (by decide)).trans h22
              refine sg_aload_n dX1_tryFirst_119 rfl ?_
              refine sg_get dX1_tryFirst_120 fl_X1_25 (by first | rfl | assumption) rfl ?_
              refine sg_iload_n dX1_tryFirst_123 rfl ?_
              refine sg_iload dX1_tryFirst_124 rfl ?_
              refine sg_astx a dX1_tryFirst_126 a21 rfl (by omega) (by decide) (fun M2 x2 g2 => ?_)
              have b17 := (x2.2 17 (by decide)).trans a17
              have b22 := (x2.2 22 (by decide)).trans a22
              refine sg_aload_n dX1_tryFirst_127 rfl ?_
              refine sg_get dX1_tryFirst_128 fl_X1_28 (by first | rfl | assumption) rfl ?_
              refine sg_iload_n dX1_tryFirst_131 rfl ?_
              refine sg_iload_n dX1_tryFirst_132 rfl ?_
              refine sg_astx a dX1_tryFirst_133 b22 rfl (by omega) (by decide) (fun M3 x3 g3 => ?_)
              rw [sm_updd] at g1 g2 g3
              have x := (x1.mono (ys := [20, 21, 22]) (by decide)).tr ((x2.mono (by decide)).tr (x3.mono (by decide)))
              refine sg_return dX1_tryFirst_134 rfl (Nat.le_of_ble_eq_true rfl) (Nat.le_of_ble_eq_true rfl) ?_
              exact ⟨rfl, x, (x.2 17 (by decide)).trans h17, (x.2 18 (by decide)).trans h18, (x.2 19 (by decide)).trans h19, (x3.2 20 (by decide)).trans ((x2.2 20 (by decide)).trans g1), (x3.2 21 (by decide)).trans g2, g3⟩
          have non : ¬ (cw < w ∨ (w = cw ∧ z ≤ cp)) → sm_G l b D cA yX1_tryFirst cX1_tryFirst 8 none 3 0 0 (fun r M1 => r = none ∧ sm_ex M M1 [20, 21, 22] ∧ sm_hp M1 sz fb fgo (upd fw a (if cw < w ∨ (w = cw ∧ z ≤ cp) then (w, z, nI k) else (cw, cp, cf)).1) (upd fp a (if cw < w ∨ (w = cw ∧ z ≤ cp) then (w, z, nI k) else (cw, cp, cf)).2.1) (upd ff a (if cw < w ∨ (w = cw ∧ z ≤ cp) then (w, z, nI k) else (cw, cp, cf)).2.2)) 0 0 103 [some (.ref 17), some (.ref 3), some (.int (nI a)), some (.int (nI k)), some (.int (nI (a + k))), some (.int w), some (.int z), none] [] M := fun hb => by
            rw [if_neg hb]
            refine sg_iconst 0 dX1_tryFirst_103 (by decide) ?_
            refine sg_istore dX1_tryFirst_104 (by decide) ?_
            refine sg_iload dX1_tryFirst_106 rfl ?_
            refine sg_if_eq 134 dX1_tryFirst_108 (by decide) (fun c => ?_) (fun c => ?_)
            · refine sg_return dX1_tryFirst_134 rfl (Nat.le_of_ble_eq_true rfl) (Nat.le_of_ble_eq_true rfl) ?_
              exact ⟨rfl, sm_ex.rf, h17, h18, h19, h20, h21, h22⟩
            · exact absurd rfl c
          refine sg_icmp_gt 99 dX1_tryFirst_74 (by decide) (fun c2 => ?_) (fun c2 => ?_)
          · exact fin (Or.inl c2)
          · refine sg_iload dX1_tryFirst_77 rfl ?_
            refine sg_aload_n dX1_tryFirst_79 rfl ?_
            refine sg_get dX1_tryFirst_80 fl_X1_22 (by first | rfl | assumption) rfl ?_
            refine sg_iload_n dX1_tryFirst_83 rfl ?_
            refine sg_ald a dX1_tryFirst_84 h20 rfl (by omega) (by decide) ?_
            rw [sm_upeq]
            refine sg_icmp_ne 103 dX1_tryFirst_85 (by decide) (fun c3 => ?_) (fun c3 => ?_)
            · exact non (fun q => q.elim c2 (fun q => c3 q.1))
            · refine sg_iload dX1_tryFirst_88 rfl ?_
              refine sg_aload_n dX1_tryFirst_90 rfl ?_
              refine sg_get dX1_tryFirst_91 fl_X1_25 (by first | rfl | assumption) rfl ?_
              refine sg_iload_n dX1_tryFirst_94 rfl ?_
              refine sg_ald a dX1_tryFirst_95 h21 rfl (by omega) (by decide) ?_
              rw [sm_upeq]
              refine sg_icmp_gt 103 dX1_tryFirst_96 (by decide) (fun c4 => ?_) (fun c4 => ?_)
              · exact non (fun q => q.elim c2 (fun q => absurd q.2 (Int32.not_le.mpr c4)))
              · exact fin (Or.inr ⟨c3, Int32.not_lt.mp c4⟩)
        · rw [Int32.le_iff_toInt_le, nI_toInt (by omega), ti_60] at c
          exact absurd (by omega) c
/-- the first part's lengths from t on, at place a -/
theorem lp_plan1 {sz a : Nat} {G : Nat → Nat} {fb fgo fw fp ff r1 r2 r3 r4 : Nat → Int32} {fame : Int32} {Post : Option Value → sm_M → Prop} (ha : a < sz) (hs : sz ≤ 60) (hG : ∀ p, p < sz → G p < 5 ∧ fgo p = nI (G p)) (hr : sm_rates M r1 r2 r3 r4 fame)
    (hP : ∀ M1 : sm_M, sm_ex M M1 [20, 21, 22] → sm_hp M1 sz fb fgo (upd fw a (sm_inn (fun a k => sm_wbl r1 r2 r3 r4 (G (a + k - 1)) (nI k)) fw fp a (sz - a)).1) (upd fp a (sm_inn (fun a k => sm_wbl r1 r2 r3 r4 (G (a + k - 1)) (nI k)) fw fp a (sz - a)).2.1) (upd ff a (sm_inn (fun a k => sm_wbl r1 r2 r3 r4 (G (a + k - 1)) (nI k)) fw fp a (sz - a)).2.2) → sm_G l b D cA yX1_plan cX1_plan 4 none 4 0 0 Post 0 0 59 [some (.ref 17), some (.ref 3), some (.int (nI a)), some (.int (nI (sz - a + 1)))] [] M1) :
    ∀ (r t : Nat) (M1 : sm_M), a + t + r = sz → sm_ex M M1 [20, 21, 22] → sm_hp M1 sz fb fgo (upd fw a (sm_inn (fun a k => sm_wbl r1 r2 r3 r4 (G (a + k - 1)) (nI k)) fw fp a t).1) (upd fp a (sm_inn (fun a k => sm_wbl r1 r2 r3 r4 (G (a + k - 1)) (nI k)) fw fp a t).2.1) (upd ff a (sm_inn (fun a k => sm_wbl r1 r2 r3 r4 (G (a + k - 1)) (nI k)) fw fp a t).2.2) →
      sm_G l b D cA yX1_plan cX1_plan 4 none 4 0 0 Post 0 0 30 [some (.ref 17), some (.ref 3), some (.int (nI a)), some (.int (nI (t + 1)))] [] M1 := by
  intro r
  induction r with
  | zero =>
    intro t M1 ht hx h
    have e : t = sz - a := by omega
    subst e
    obtain ⟨h17, h18, h19, h20, h21, h22⟩ := id h
    refine sg_iload_n dX1_plan_30 rfl ?_
    refine sg_bipush 80 dX1_plan_31 (by decide) ?_
    refine sg_icmp_gt 59 dX1_plan_33 (by decide) (fun c => ?_) (fun c => ?_)
    · rw [Int32.lt_iff_toInt_lt, nI_toInt (by omega), ti_80] at c
      exact absurd c (by omega)
    · refine sg_iload_n dX1_plan_36 rfl ?_
      refine sg_iload_n dX1_plan_37 rfl ?_
      refine sg_iadd dX1_plan_38 ?_
      refine sg_aload_n dX1_plan_39 rfl ?_
      refine sg_get dX1_plan_40 fl_X1_15 (by first | rfl | assumption) rfl ?_
      refine sg_icmp_gt 59 dX1_plan_43 (by decide) (fun c => ?_) (fun c => ?_)
      · exact hP M1 hx h
      · rw [nI_add] at c
        exact absurd (nI_lt (by omega) (by omega)) c
  | succ r ih =>
    intro t M1 ht hx h
    obtain ⟨h17, h18, h19, h20, h21, h22⟩ := id h
    refine sg_iload_n dX1_plan_30 rfl ?_
    refine sg_bipush 80 dX1_plan_31 (by decide) ?_
    refine sg_icmp_gt 59 dX1_plan_33 (by decide) (fun c => ?_) (fun c => ?_)
    · rw [Int32.lt_iff_toInt_lt, nI_toInt (by omega), ti_80] at c
      exact absurd c (by omega)
    · refine sg_iload_n dX1_plan_36 rfl ?_
      refine sg_iload_n dX1_plan_37 rfl ?_
      refine sg_iadd dX1_plan_38 ?_
      refine sg_aload_n dX1_plan_39 rfl ?_
      refine sg_get dX1_plan_40 fl_X1_15 (by first | rfl | assumption) rfl ?_
      refine sg_icmp_gt 59 dX1_plan_43 (by decide) (fun c => ?_) (fun c => ?_)
      · rw [nI_add] at c
        exact absurd c (nI_nlt (by omega) (by omega))
      · refine sg_aload_n dX1_plan_46 rfl ?_
        refine sg_aload_n dX1_plan_47 rfl ?_
        refine sg_iload_n dX1_plan_48 rfl ?_
        refine sg_iload_n dX1_plan_49 rfl ?_
        refine sg_V3 dX1_plan_50 cv_X1_42 h17 (c_tryFirst (a := a) (k := t + 1) (j := G (a + (t + 1) - 1)) rfl rfl (by omega) (by omega) hs (hG _ (by omega)).1 (hG _ (by omega)).2 (hr.ex hx (by decide)) h) (Nat.le_of_ble_eq_true rfl) (Nat.le_of_ble_eq_true rfl) (Nat.le_of_ble_eq_true rfl) (Nat.le_of_ble_eq_true rfl) (fun r9 M9 hp => ?_)
        obtain ⟨rfl, hx9, h9⟩ := hp
        refine sg_iinc _ dX1_plan_53 rfl (sm_inc (t + 1)) (by decide) ?_
        refine sg_goto 30 dX1_plan_56 (by decide) ?_
        exact ih (t + 1) M9 (by omega) (hx.tr hx9) h9
/-- from the end to the front: r places are done -/
theorem lp_plan2 {sz : Nat} {G : Nat → Nat} {fb fgo fw fp ff r1 r2 r3 r4 : Nat → Int32} {fame : Int32} {Post : Option Value → sm_M → Prop} (hs : sz ≤ 60) (hG : ∀ p, p < sz → G p < 5 ∧ fgo p = nI (G p)) (hr : sm_rates M r1 r2 r3 r4 fame)
    (hP : ∀ M1 : sm_M, sm_ex M M1 [20, 21, 22] → sm_hp M1 sz fb fgo (sm_out (fun a k => sm_wbl r1 r2 r3 r4 (G (a + k - 1)) (nI k)) sz fw fp ff sz).1 (sm_out (fun a k => sm_wbl r1 r2 r3 r4 (G (a + k - 1)) (nI k)) sz fw fp ff sz).2.1 (sm_out (fun a k => sm_wbl r1 r2 r3 r4 (G (a + k - 1)) (nI k)) sz fw fp ff sz).2.2 → Post none M1) :
    ∀ (q r : Nat) (x : Option Value) (M1 : sm_M), r + q = sz → sm_ex M M1 [20, 21, 22] → sm_hp M1 sz fb fgo (sm_out (fun a k => sm_wbl r1 r2 r3 r4 (G (a + k - 1)) (nI k)) sz fw fp ff r).1 (sm_out (fun a k => sm_wbl r1 r2 r3 r4 (G (a + k - 1)) (nI k)) sz fw fp ff r).2.1 (sm_out (fun a k => sm_wbl r1 r2 r3 r4 (G (a + k - 1)) (nI k)) sz fw fp ff r).2.2 →
      sm_G l b D cA yX1_plan cX1_plan 4 none 4 0 0 Post 0 0 19 [some (.ref 17), some (.ref 3), some (.int (nI q - 1)), x] [] M1 := by
  intro q
  induction q with
  | zero =>
    intro r x M1 hrq hx h
    have e : r = sz := by omega
    subst e
    refine sg_iload_n dX1_plan_19 rfl ?_
    refine sg_if_lt 65 dX1_plan_20 (by decide) (fun c => ?_) (fun c => ?_)
    · refine sg_return dX1_plan_65 rfl (Nat.le_of_ble_eq_true rfl) (Nat.le_of_ble_eq_true rfl) ?_
      exact hP M1 hx h
    · exact absurd (by rw [nI_0]; decide) c
  | succ q ih =>
    intro r x M1 hrq hx h
    have hq : q = sz - (r + 1) := by omega
    obtain ⟨h17, h18, h19, h20, h21, h22⟩ := id h
    rw [nI_pred]
    refine sg_iload_n dX1_plan_19 rfl ?_
    refine sg_if_lt 65 dX1_plan_20 (by decide) (fun c => ?_) (fun c => ?_)
    · exact absurd c (nI_pos (by omega))
    · refine sg_aload_n dX1_plan_23 rfl ?_
      refine sg_iload_n dX1_plan_24 rfl ?_
      refine sg_V1 dX1_plan_25 cv_X1_38 h17 (c_clearFrom q rfl (by omega) h) (Nat.le_of_ble_eq_true rfl) (Nat.le_of_ble_eq_true rfl) (Nat.le_of_ble_eq_true rfl) (Nat.le_of_ble_eq_true rfl) (fun r9 M9 hp => ?_)
      obtain ⟨rfl, hx9, h9⟩ := hp
      refine sg_iconst 1 dX1_plan_28 (by decide) ?_
      refine sg_istore_n dX1_plan_29 (by decide) ?_
      refine lp_plan1 (M := M) (G := G) (a := q) (by omega) hs hG hr (fun M2 hx2 h2 => ?_) (sz - q) 0 M9 (by omega) (hx.tr hx9) h9
      have e2 : sz - q = r + 1 := by omega
      rw [e2, hq] at h2
      refine sg_iinc _ dX1_plan_59 rfl (show nI q + Int32.ofInt (-1) = nI q - 1 from by rw [Int32.sub_eq_add_neg]; rfl) (by decide) ?_
      refine sg_goto 19 dX1_plan_62 (by decide) ?_
      exact ih (r + 1) _ M2 (by omega) hx2 h2
end SM26
