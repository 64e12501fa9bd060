/-! the reference: heaped, gradeAt, string(), worthOf, serving -/
def sm_mtry (w p : Int32) (j : Nat) (c : Int32 × Int32 × Int32) : Int32 × Int32 × Int32 := if w < c.1 ∨ (w = c.1 ∧ c.2.1 ≤ p) then c else (w, p, nI j)
def sm_minn (wb : Nat → Nat → Int32) (fw fp : Nat → Int32) (n i : Nat) (c0 : Int32 × Int32 × Int32) : Nat → Int32 × Int32 × Int32
  | 0 => c0
  | t + 1 => sm_mtry (wb i (n - t - i) + fw (n - t)) (1 + fp (n - t)) (n - t) (sm_minn wb fw fp n i c0 t)
def sm_mout (wb : Nat → Nat → Int32) (n : Nat) (fw fp fe : Nat → Int32) : Nat → (Nat → Int32) × (Nat → Int32) × (Nat → Int32)
  | 0 => (upd fw n 0, upd fp n 0, fe)
  | r + 1 => (upd (sm_mout wb n fw fp fe r).1 (n - (r + 1)) (sm_minn wb (sm_mout wb n fw fp fe r).1 (sm_mout wb n fw fp fe r).2.1 n (n - (r + 1)) (-1, (sm_mout wb n fw fp fe r).2.1 (n - (r + 1)), (sm_mout wb n fw fp fe r).2.2 (n - (r + 1))) (r + 1)).1, upd (sm_mout wb n fw fp fe r).2.1 (n - (r + 1)) (sm_minn wb (sm_mout wb n fw fp fe r).1 (sm_mout wb n fw fp fe r).2.1 n (n - (r + 1)) (-1, (sm_mout wb n fw fp fe r).2.1 (n - (r + 1)), (sm_mout wb n fw fp fe r).2.2 (n - (r + 1))) (r + 1)).2.1, upd (sm_mout wb n fw fp fe r).2.2 (n - (r + 1)) (sm_minn wb (sm_mout wb n fw fp fe r).1 (sm_mout wb n fw fp fe r).2.1 n (n - (r + 1)) (-1, (sm_mout wb n fw fp fe r).2.1 (n - (r + 1)), (sm_mout wb n fw fp fe r).2.2 (n - (r + 1))) (r + 1)).2.2)
theorem sm_upsame (f : Nat → Int32) (a : Nat) : upd f a (f a) = f := by
  funext j
  unfold upd
  by_cases h : j = a
  · rw [if_pos h, h]
  · rw [if_neg h]
/-- the rows of the plan -/
def sm_u3 (A : Nat → Nat → Int32) (F : (Nat → Int32) × (Nat → Int32) × (Nat → Int32)) : Nat → Nat → Int32 := sm_uA (sm_uA (sm_uA A 37 F.1) 38 F.2.1) 39 F.2.2
def sm_srv (w : Nat → Nat) (n : Nat) (sum : Int32) : Nat → Nat × Int32
  | 0 => (0, 0)
  | s + 1 => if nI (sm_ws w (s + 1) n) < sum ∨ (¬ (sm_srv w n sum s).1 = 0 ∧ ((sm_srv w n sum s).2 < nI (sm_ws w (s + 1) n) ∨ (nI (sm_ws w (s + 1) n) = (sm_srv w n sum s).2 ∧ sm_bc (nI (sm_srv w n sum s).1) ≤ sm_bc (nI (s + 1))))) then sm_srv w n sum s else (s + 1, nI (sm_ws w (s + 1) n))
theorem sm_srv_le (w : Nat → Nat) (n : Nat) (sum : Int32) : ∀ s, (sm_srv w n sum s).1 ≤ s
  | 0 => Nat.le_refl 0
  | s + 1 => by
    have ih := sm_srv_le w n sum s
    unfold sm_srv
    split
    · omega
    · exact Nat.le_refl _
section SM43
variable {l : Launch} {b : Nat} {D : va_G} {cA : Nat → ClassId} {M : sm_M} {I : Nat → Int32} {A : Nat → Nat → Int32}
theorem c_heaped {hb : Nat → Nat} (hA : ∀ j, j < 5 → A 34 j = nI (hb j)) (h : sm_mm M I A) : sm_Ct l b D cA yX7_heaped cX7_heaped 3 (some .int) 0 0 0 [.ref 23] M (fun r M1 => r = some (.int (nI (hb 0 + hb 1 + hb 2 + hb 3 + hb 4))) ∧ M1 = M) := by
  obtain ⟨h23, h24, h25, h26, h27, h28, h29, h30, h31, h32, h33, h34, -⟩ := h
  have e : (0 : Int32) + A 34 0 = nI (hb 0) := by rw [hA 0 (by decide)]; exact Int32.zero_add _
  refine sm_enter (by decide +kernel) rfl (fun _ => Nat.le_of_ble_eq_true rfl) ?_
  refine sg_iconst 0 dX7_heaped_0 (by decide) ?_
  refine sg_istore_n dX7_heaped_1 (by decide) ?_
  refine sg_iconst 0 dX7_heaped_2 (by decide) ?_
  refine sg_istore_n dX7_heaped_3 (by decide) ?_
  refine sg_iload_n dX7_heaped_4 rfl ?_
  refine sg_iconst 5 dX7_heaped_5 (by decide) ?_
  refine sg_icmp_ge 24 dX7_heaped_6 (by decide) (fun c => ?_) (fun c => ?_)
  · exact absurd c (by decide)
  · refine sg_iload_n dX7_heaped_9 rfl ?_
    refine sg_aload_n dX7_heaped_10 rfl ?_
    refine sg_get dX7_heaped_11 fl_X7_50 (by first | rfl | assumption) rfl ?_
    refine sg_iload_n dX7_heaped_14 rfl ?_
    refine sg_ald (0) dX7_heaped_15 (by first | rfl | assumption) (by decide) (by decide) (by decide) ?_
    refine sg_iadd dX7_heaped_16 ?_
    refine sg_istore_n dX7_heaped_17 (by decide) ?_
    refine sg_iinc _ dX7_heaped_18 rfl rfl (by decide) ?_
    refine sg_goto 4 dX7_heaped_21 (by decide) ?_
    refine sg_iload_n dX7_heaped_4 rfl ?_
    refine sg_iconst 5 dX7_heaped_5 (by decide) ?_
    refine sg_icmp_ge 24 dX7_heaped_6 (by decide) (fun c => ?_) (fun c => ?_)
    · exact absurd c (by decide)
    · refine sg_iload_n dX7_heaped_9 rfl ?_
      refine sg_aload_n dX7_heaped_10 rfl ?_
      refine sg_get dX7_heaped_11 fl_X7_50 (by first | rfl | assumption) rfl ?_
      refine sg_iload_n dX7_heaped_14 rfl ?_
      refine sg_ald (1) dX7_heaped_15 (by first | rfl | assumption) (by decide) (by decide) (by decide) ?_
      refine sg_iadd dX7_heaped_16 ?_
      refine sg_istore_n dX7_heaped_17 (by decide) ?_
      refine sg_iinc _ dX7_heaped_18 rfl rfl (by decide) ?_
      refine sg_goto 4 dX7_heaped_21 (by decide) ?_
      refine sg_iload_n dX7_heaped_4 rfl ?_
      refine sg_iconst 5 dX7_heaped_5 (by decide) ?_
      refine sg_icmp_ge 24 dX7_heaped_6 (by decide) (fun c => ?_) (fun c => ?_)
      · exact absurd c (by decide)
      · refine sg_iload_n dX7_heaped_9 rfl ?_
        refine sg_aload_n dX7_heaped_10 rfl ?_
        refine sg_get dX7_heaped_11 fl_X7_50 (by first | rfl | assumption) rfl ?_
        refine sg_iload_n dX7_heaped_14 rfl ?_
        refine sg_ald (2) dX7_heaped_15 (by first | rfl | assumption) (by decide) (by decide) (by decide) ?_
        refine sg_iadd dX7_heaped_16 ?_
        refine sg_istore_n dX7_heaped_17 (by decide) ?_
        refine sg_iinc _ dX7_heaped_18 rfl rfl (by decide) ?_
        refine sg_goto 4 dX7_heaped_21 (by decide) ?_
        refine sg_iload_n dX7_heaped_4 rfl ?_
        refine sg_iconst 5 dX7_heaped_5 (by decide) ?_
        refine sg_icmp_ge 24 dX7_heaped_6 (by decide) (fun c => ?_) (fun c => ?_)
        · exact absurd c (by decide)
        · refine sg_iload_n dX7_heaped_9 rfl ?_
          refine sg_aload_n dX7_heaped_10 rfl ?_
          refine sg_get dX7_heaped_11 fl_X7_50 (by first | rfl | assumption) rfl ?_
          refine sg_iload_n dX7_heaped_14 rfl ?_
          refine sg_ald (3) dX7_heaped_15 (by first | rfl | assumption) (by decide) (by decide) (by decide) ?_
          refine sg_iadd dX7_heaped_16 ?_
          refine sg_istore_n dX7_heaped_17 (by decide) ?_
          refine sg_iinc _ dX7_heaped_18 rfl rfl (by decide) ?_
          refine sg_goto 4 dX7_heaped_21 (by decide) ?_
          refine sg_iload_n dX7_heaped_4 rfl ?_
          refine sg_iconst 5 dX7_heaped_5 (by decide) ?_
          refine sg_icmp_ge 24 dX7_heaped_6 (by decide) (fun c => ?_) (fun c => ?_)
          · exact absurd c (by decide)
          · refine sg_iload_n dX7_heaped_9 rfl ?_
            refine sg_aload_n dX7_heaped_10 rfl ?_
            refine sg_get dX7_heaped_11 fl_X7_50 (by first | rfl | assumption) rfl ?_
            refine sg_iload_n dX7_heaped_14 rfl ?_
            refine sg_ald (4) dX7_heaped_15 (by first | rfl | assumption) (by decide) (by decide) (by decide) ?_
            refine sg_iadd dX7_heaped_16 ?_
            refine sg_istore_n dX7_heaped_17 (by decide) ?_
            refine sg_iinc _ dX7_heaped_18 rfl rfl (by decide) ?_
            refine sg_goto 4 dX7_heaped_21 (by decide) ?_
            refine sg_iload_n dX7_heaped_4 rfl ?_
            refine sg_iconst 5 dX7_heaped_5 (by decide) ?_
            refine sg_icmp_ge 24 dX7_heaped_6 (by decide) (fun c => ?_) (fun c => ?_)
            · refine sg_iload_n dX7_heaped_24 rfl ?_
              refine sg_ireturn dX7_heaped_25 rfl (Nat.le_of_ble_eq_true rfl) (Nat.le_of_ble_eq_true rfl) ?_
              exact ⟨by rw [e, hA 1 (by decide), hA 2 (by decide), hA 3 (by decide), hA 4 (by decide), nI_add, nI_add, nI_add, nI_add], rfl⟩
            · exact absurd (by decide) c
theorem ga_one {lf gg : Nat} {k : Int32} {hb : Nat → Nat} {Post : Option Value → sm_M → Prop} (hg : gg < 5) (hlf : lf ≤ 60) (hb60 : hb gg ≤ 60) (hA : ∀ j, j < 5 → A 34 j = nI (hb j)) (h : sm_mm M I A) (h1 : lf < hb gg → Post (some (.int (nI gg))) M)
    (h2 : hb gg ≤ lf → sm_G l b D cA yX7_gradeAt cX7_gradeAt 4 (some .int) 0 0 0 Post 0 0 4 [some (.ref 23), some (.int k), some (.int (nI (lf - hb gg))), some (.int (nI gg + Int32.ofInt (-1)))] [] M) : sm_G l b D cA yX7_gradeAt cX7_gradeAt 4 (some .int) 0 0 0 Post 0 0 4 [some (.ref 23), some (.int k), some (.int (nI lf)), some (.int (nI gg))] [] M := by
  obtain ⟨h23, h24, h25, h26, h27, h28, h29, h30, h31, h32, h33, h34, -⟩ := h
  refine sg_iload_n dX7_gradeAt_4 rfl ?_
  refine sg_aload_n dX7_gradeAt_5 rfl ?_
  refine sg_get dX7_gradeAt_6 fl_X7_50 (by first | rfl | assumption) rfl ?_
  refine sg_iload_n dX7_gradeAt_9 rfl ?_
  refine sg_ald (gg) dX7_gradeAt_10 (by first | rfl | assumption) (rfl) (hg) (by decide) ?_
  rw [hA gg hg]
  refine sg_icmp_lt 29 dX7_gradeAt_11 (by decide) (fun c => ?_) (fun c => ?_)
  · rw [nI_ltI (by omega) (by omega)] at c
    refine sg_iload_n dX7_gradeAt_29 rfl ?_
    refine sg_ireturn dX7_gradeAt_30 rfl (Nat.le_of_ble_eq_true rfl) (Nat.le_of_ble_eq_true rfl) ?_
    exact h1 c
  · rw [nI_ltI (by omega) (by omega)] at c
    refine sg_iload_n dX7_gradeAt_14 rfl ?_
    refine sg_aload_n dX7_gradeAt_15 rfl ?_
    refine sg_get dX7_gradeAt_16 fl_X7_50 (by first | rfl | assumption) rfl ?_
    refine sg_iload_n dX7_gradeAt_19 rfl ?_
    refine sg_ald (gg) dX7_gradeAt_20 (by first | rfl | assumption) (rfl) (hg) (by decide) ?_
    refine sg_isub dX7_gradeAt_21 ?_
    rw [hA gg hg, pk_sub (by omega)]
    refine sg_istore_n dX7_gradeAt_22 (by decide) ?_
    refine sg_iinc _ dX7_gradeAt_23 rfl rfl (by decide) ?_
    refine sg_goto 4 dX7_gradeAt_26 (by decide) ?_
    exact h2 (by omega)
theorem c_mgradeAt {p : Nat} {k : Int32} {hb : Nat → Nat} (hk : k = nI p) (hs : hb 0 + hb 1 + hb 2 + hb 3 + hb 4 ≤ 60) (hp : p < hb 0 + hb 1 + hb 2 + hb 3 + hb 4) (hA : ∀ j, j < 5 → A 34 j = nI (hb j)) (h : sm_mm M I A) : sm_Ct l b D cA yX7_gradeAt cX7_gradeAt 4 (some .int) 0 0 0 [.ref 23, .int k] M (fun r M1 => r = some (.int (nI (sm_gr hb p))) ∧ M1 = M) := by
  subst hk
  unfold sm_gr
  refine sm_enter (by decide +kernel) rfl (fun _ => Nat.le_of_ble_eq_true rfl) ?_
  refine sg_iload_n dX7_gradeAt_0 rfl ?_
  refine sg_istore_n dX7_gradeAt_1 (by decide) ?_
  refine sg_iconst (nI 4) dX7_gradeAt_2 (by decide) ?_
  refine sg_istore_n dX7_gradeAt_3 (by decide) ?_
  refine ga_one (gg := 4) (hb := hb) (by decide) (by omega) (by omega) hA h (fun q => ⟨by rw [if_pos (by omega)], rfl⟩) (fun q4 => ?_)
  rw [show nI 4 + Int32.ofInt (-1) = nI 3 from by decide]
  refine ga_one (gg := 3) (hb := hb) (by decide) (by omega) (by omega) hA h (fun q => ⟨by rw [if_neg (by omega), if_pos (by omega)], rfl⟩) (fun q3 => ?_)
  rw [show nI 3 + Int32.ofInt (-1) = nI 2 from by decide]
  refine ga_one (gg := 2) (hb := hb) (by decide) (by omega) (by omega) hA h (fun q => ⟨by rw [if_neg (by omega), if_neg (by omega), if_pos (by omega)], rfl⟩) (fun q2 => ?_)
  rw [show nI 2 + Int32.ofInt (-1) = nI 1 from by decide]
  refine ga_one (gg := 1) (hb := hb) (by decide) (by omega) (by omega) hA h (fun q => ⟨by rw [if_neg (by omega), if_neg (by omega), if_neg (by omega), if_pos (by omega)], rfl⟩) (fun q1 => ?_)
  rw [show nI 1 + Int32.ofInt (-1) = nI 0 from by decide]
  refine ga_one (gg := 0) (hb := hb) (by decide) (by omega) (by omega) hA h (fun q => ⟨by rw [if_neg (by omega), if_neg (by omega), if_neg (by omega), if_neg (by omega)], rfl⟩) (fun q0 => ?_)
  exact absurd hp (by omega)
theorem lp_mworthOf {n s : Nat} {w : Nat → Nat} {Post : Option Value → sm_M → Prop} (hn : n ≤ 12) (hs : s < 4096) (hI : I 8 = nI n) (hw : ∀ k, k < n → A 36 k = nI (w k)) (h : sm_mm M I A) (hP : Post (some (.int (nI (sm_ws w s n)))) M) :
    ∀ (r k : Nat), k + r = n → sm_G l b D cA yX7_worthOf cX7_worthOf 4 (some .int) 0 0 0 Post 0 0 4 [some (.ref 23), some (.int (nI s)), some (.int (nI (sm_ws w s k))), some (.int (nI k))] [] M := by
  obtain ⟨h23, h24, h25, h26, h27, h28, h29, h30, h31, h32, h33, h34, h35, h36, -⟩ := h
  intro r
  induction r with
  | zero =>
    intro k hk
    have e : k = n := by omega
    subst e
    refine sg_iload_n dX7_worthOf_4 rfl ?_
    refine sg_aload_n dX7_worthOf_5 rfl ?_
    refine sg_get dX7_worthOf_6 fl_X7_135 (by first | rfl | assumption) rfl ?_
    rw [hI]
    refine sg_icmp_ge 36 dX7_worthOf_9 (by decide) (fun c => ?_) (fun c => ?_)
    · refine sg_iload_n dX7_worthOf_36 rfl ?_
      refine sg_ireturn dX7_worthOf_37 rfl (Nat.le_of_ble_eq_true rfl) (Nat.le_of_ble_eq_true rfl) ?_
      exact hP
    · exact absurd (nI_le (Nat.le_refl _) (by omega)) c
  | succ r ih =>
    intro k hk
    have ih2 := ih (k + 1) (by omega)
    rw [show sm_ws w s (k + 1) = sm_ws w s k + (if s.testBit k then w k else 0) from rfl] at ih2
    refine sg_iload_n dX7_worthOf_4 rfl ?_
    refine sg_aload_n dX7_worthOf_5 rfl ?_
    refine sg_get dX7_worthOf_6 fl_X7_135 (by first | rfl | assumption) rfl ?_
    rw [hI]
    refine sg_icmp_ge 36 dX7_worthOf_9 (by decide) (fun c => ?_) (fun c => ?_)
    · exact absurd c (nI_ge (by omega) (by omega))
    · refine sg_iload_n dX7_worthOf_12 rfl ?_
      refine sg_iload_n dX7_worthOf_13 rfl ?_
      refine sg_ishr dX7_worthOf_14 ?_
      refine sg_iconst 1 dX7_worthOf_15 (by decide) ?_
      refine sg_iand dX7_worthOf_16 ?_
      rw [sm_bit (by omega) (by omega)]
      refine sg_iconst 1 dX7_worthOf_17 (by decide) ?_
      cases hb : s.testBit k with
      | true =>
        rw [hb, if_pos rfl] at ih2
        rw [if_pos rfl]
        refine sg_icmp_ne 30 dX7_worthOf_18 (by decide) (fun c2 => ?_) (fun c2 => ?_)
        · exact absurd rfl c2
        · refine sg_iload_n dX7_worthOf_21 rfl ?_
          refine sg_aload_n dX7_worthOf_22 rfl ?_
          refine sg_get dX7_worthOf_23 fl_X7_56 (by first | rfl | assumption) rfl ?_
          refine sg_iload_n dX7_worthOf_26 rfl ?_
          refine sg_ald (k) dX7_worthOf_27 (by first | rfl | assumption) (rfl) (by omega) (by decide) ?_
          refine sg_iadd dX7_worthOf_28 ?_
          rw [hw k (by omega), nI_add]
          refine sg_istore_n dX7_worthOf_29 (by decide) ?_
          refine sg_iinc _ dX7_worthOf_30 rfl (sm_inc k) (by decide) ?_
          refine sg_goto 4 dX7_worthOf_33 (by decide) ?_
          exact ih2
      | false =>
        rw [hb, if_neg (by decide)] at ih2
        rw [if_neg (by decide)]
        refine sg_icmp_ne 30 dX7_worthOf_18 (by decide) (fun c2 => ?_) (fun c2 => ?_)
        · refine sg_iinc _ dX7_worthOf_30 rfl (sm_inc k) (by decide) ?_
          refine sg_goto 4 dX7_worthOf_33 (by decide) ?_
          exact ih2
        · exact absurd c2 (by decide)
theorem c_mworthOf {n s : Nat} {x : Int32} {w : Nat → Nat} (hx : x = nI s) (hn : n ≤ 12) (hs : s < 4096) (hI : I 8 = nI n) (hw : ∀ k, k < n → A 36 k = nI (w k)) (h : sm_mm M I A) : sm_Ct l b D cA yX7_worthOf cX7_worthOf 4 (some .int) 0 0 0 [.ref 23, .int x] M (fun r M1 => r = some (.int (nI (sm_ws w s n))) ∧ M1 = M) := by
  subst hx
  refine sm_enter (by decide +kernel) rfl (fun _ => Nat.le_of_ble_eq_true rfl) ?_
  refine sg_iconst (nI 0) dX7_worthOf_0 (by decide) ?_
  refine sg_istore_n dX7_worthOf_1 (by decide) ?_
  refine sg_iconst (nI 0) dX7_worthOf_2 (by decide) ?_
  refine sg_istore_n dX7_worthOf_3 (by decide) ?_
  exact lp_mworthOf hn hs hI hw h ⟨rfl, rfl⟩ n 0 (by omega)
theorem lp_serving {n : Nat} {sum : Int32} {w : Nat → Nat} {Post : Option Value → sm_M → Prop} (hn : n ≤ 12) (hI : I 8 = nI n) (hw : ∀ k, k < n → A 36 k = nI (w k)) (h : sm_mm M I A) (hP : Post (some (.int (nI (sm_srv w n sum (2 ^ n - 1)).1))) M) :
    ∀ (r s : Nat) (x : Option Value), s + 1 + r = 2 ^ n → sm_G l b D cA yX7_serving cX7_serving 6 (some .int) 1 0 0 Post 0 0 7 [some (.ref 23), some (.int sum), some (.int (nI (sm_srv w n sum s).1)), some (.int (sm_srv w n sum s).2), some (.int (nI (s + 1))), x] [] M := by
  have h12 : 2 ^ n ≤ 2 ^ 12 := Nat.pow_le_pow_right (by decide) hn
  have h23 := h.1
  intro r
  induction r with
  | zero =>
    intro s x hs
    have e : s = 2 ^ n - 1 := by omega
    refine sg_iload dX7_serving_7 rfl ?_
    refine sg_iconst 1 dX7_serving_9 (by decide) ?_
    refine sg_aload_n dX7_serving_10 rfl ?_
    refine sg_get dX7_serving_11 fl_X7_135 (by first | rfl | assumption) rfl ?_
    refine sg_ishl dX7_serving_14 ?_
    rw [hI, sm_shl n (by omega)]
    refine sg_icmp_ge 75 dX7_serving_15 (by decide) (fun c => ?_) (fun c => ?_)
    · refine sg_iload_n dX7_serving_75 rfl ?_
      refine sg_ireturn dX7_serving_76 rfl (Nat.le_of_ble_eq_true rfl) (Nat.le_of_ble_eq_true rfl) ?_
      rw [e]
      exact hP
    · exact absurd (nI_le (by omega) (by omega)) c
  | succ r ih =>
    intro s x hs
    have hle := sm_srv_le w n sum s
    have ih2 := ih (s + 1)
    unfold sm_srv at ih2
    refine sg_iload dX7_serving_7 rfl ?_
    refine sg_iconst 1 dX7_serving_9 (by decide) ?_
    refine sg_aload_n dX7_serving_10 rfl ?_
    refine sg_get dX7_serving_11 fl_X7_135 (by first | rfl | assumption) rfl ?_
    refine sg_ishl dX7_serving_14 ?_
    rw [hI, sm_shl n (by omega)]
    refine sg_icmp_ge 75 dX7_serving_15 (by decide) (fun c => ?_) (fun c => ?_)
    · exact absurd c (nI_ge (by omega) (by omega))
    · refine sg_aload_n dX7_serving_18 rfl ?_
      refine sg_iload dX7_serving_19 rfl ?_
      refine sg_V1 dX7_serving_21 cv_X7_138 h23 (c_mworthOf rfl hn (by omega) hI hw h) (Nat.le_of_ble_eq_true rfl) (Nat.le_of_ble_eq_true rfl) (Nat.le_of_ble_eq_true rfl) (Nat.le_of_ble_eq_true rfl) (fun r9 M9 hp => ?_)
      obtain ⟨rfl, e9⟩ := hp
      rw [e9]
      refine sg_istore dX7_serving_24 (by decide) ?_
      refine sg_iload dX7_serving_26 rfl ?_
      refine sg_iload_n dX7_serving_28 rfl ?_
      refine sg_icmp_lt 69 dX7_serving_29 (by decide) (fun c1 => ?_) (fun c1 => ?_)
      · rw [if_pos (Or.inl c1)] at ih2
        refine sg_iinc _ dX7_serving_69 rfl (sm_inc (s + 1)) (by decide) ?_
        refine sg_goto 7 dX7_serving_72 (by decide) ?_
        exact ih2 _ (by omega)
      · refine sg_iload_n dX7_serving_32 rfl ?_
        refine sg_if_eq 63 dX7_serving_33 (by decide) (fun c2 => ?_) (fun c2 => ?_)
        · have hz : (sm_srv w n sum s).1 = 0 := by
            rcases Nat.eq_zero_or_pos (sm_srv w n sum s).1 with q | q
            · exact q
            · exact absurd c2 (nI_ne0 q (by omega))
          rw [if_neg (fun q => q.elim c1 (fun q => q.1 hz))] at ih2
          refine sg_iload dX7_serving_63 rfl ?_
          refine sg_istore_n dX7_serving_65 (by decide) ?_
          refine sg_iload dX7_serving_66 rfl ?_
          refine sg_istore_n dX7_serving_68 (by decide) ?_
          refine sg_iinc _ dX7_serving_69 rfl (sm_inc (s + 1)) (by decide) ?_
          refine sg_goto 7 dX7_serving_72 (by decide) ?_
          exact ih2 _ (by omega)
        · have hz : ¬ (sm_srv w n sum s).1 = 0 := fun q => c2 (by rw [q]; exact nI_0)
          refine sg_iload dX7_serving_36 rfl ?_
          refine sg_iload_n dX7_serving_38 rfl ?_
          refine sg_icmp_gt 69 dX7_serving_39 (by decide) (fun c3 => ?_) (fun c3 => ?_)
          · rw [if_pos (Or.inr ⟨hz, Or.inl c3⟩)] at ih2
            refine sg_iinc _ dX7_serving_69 rfl (sm_inc (s + 1)) (by decide) ?_
            refine sg_goto 7 dX7_serving_72 (by decide) ?_
            exact ih2 _ (by omega)
          · refine sg_iload dX7_serving_42 rfl ?_
            refine sg_iload_n dX7_serving_44 rfl ?_
            refine sg_icmp_ne 63 dX7_serving_45 (by decide) (fun c4 => ?_) (fun c4 => ?_)
            · rw [if_neg (fun q => q.elim c1 (fun q => q.2.elim c3 (fun q => c4 q.1)))] at ih2
              refine sg_iload dX7_serving_63 rfl ?_
              refine sg_istore_n dX7_serving_65 (by decide) ?_
              refine sg_iload dX7_serving_66 rfl ?_
              refine sg_istore_n dX7_serving_68 (by decide) ?_
              refine sg_iinc _ dX7_serving_69 rfl (sm_inc (s + 1)) (by decide) ?_
              refine sg_goto 7 dX7_serving_72 (by decide) ?_
              exact ih2 _ (by omega)
            · refine sg_iload dX7_serving_48 rfl ?_
              refine sg_S1 dX7_serving_50 cs_X7_124 (c_bitCount _) (Nat.le_of_ble_eq_true rfl) (Nat.le_of_ble_eq_true rfl) (Nat.le_of_ble_eq_true rfl) (Nat.le_of_ble_eq_true rfl) (fun r9 M9 hp => ?_)
              obtain ⟨rfl, e9⟩ := hp
              rw [e9]
              refine sg_iload_n dX7_serving_53 rfl ?_
              refine sg_S1 dX7_serving_54 cs_X7_124 (c_bitCount _) (Nat.le_of_ble_eq_true rfl) (Nat.le_of_ble_eq_true rfl) (Nat.le_of_ble_eq_true rfl) (Nat.le_of_ble_eq_true rfl) (fun r9 M9 hp => ?_)
              obtain ⟨rfl, e9⟩ := hp
              rw [e9]
              refine sg_icmp_lt 63 dX7_serving_57 (by decide) (fun c5 => ?_) (fun c5 => ?_)
              · rw [if_neg (fun q => q.elim c1 (fun q => q.2.elim c3 (fun q => absurd q.2 (Int32.not_le.mpr c5))))] at ih2
                refine sg_iload dX7_serving_63 rfl ?_
                refine sg_istore_n dX7_serving_65 (by decide) ?_
                refine sg_iload dX7_serving_66 rfl ?_
                refine sg_istore_n dX7_serving_68 (by decide) ?_
                refine sg_iinc _ dX7_serving_69 rfl (sm_inc (s + 1)) (by decide) ?_
                refine sg_goto 7 dX7_serving_72 (by decide) ?_
                exact ih2 _ (by omega)
              · rw [if_pos (Or.inr ⟨hz, Or.inr ⟨c4, Int32.not_lt.mp c5⟩⟩)] at ih2
                refine sg_goto 69 dX7_serving_60 (by decide) ?_
                refine sg_iinc _ dX7_serving_69 rfl (sm_inc (s + 1)) (by decide) ?_
                refine sg_goto 7 dX7_serving_72 (by decide) ?_
                exact ih2 _ (by omega)
theorem c_serving {n : Nat} {w : Nat → Nat} (sum : Int32) (hn : n ≤ 12) (hI : I 8 = nI n) (hw : ∀ k, k < n → A 36 k = nI (w k)) (h : sm_mm M I A) : sm_Ct l b D cA yX7_serving cX7_serving 6 (some .int) 1 0 0 [.ref 23, .int sum] M (fun r M1 => r = some (.int (nI (sm_srv w n sum (2 ^ n - 1)).1)) ∧ M1 = M) := by
  have hp2 : 0 < 2 ^ n := Nat.two_pow_pos n
  refine sm_enter (by decide +kernel) rfl (fun _ => Nat.le_of_ble_eq_true rfl) ?_
  refine sg_iconst (nI 0) dX7_serving_0 (by decide) ?_
  refine sg_istore_n dX7_serving_1 (by decide) ?_
  refine sg_iconst 0 dX7_serving_2 (by decide) ?_
  refine sg_istore_n dX7_serving_3 (by decide) ?_
  refine sg_iconst (nI 1) dX7_serving_4 (by decide) ?_
  refine sg_istore dX7_serving_5 (by decide) ?_
  exact lp_serving hn hI hw h ⟨rfl, rfl⟩ (2 ^ n - 1) 0 _ (by omega)
end SM43
