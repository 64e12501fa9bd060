/-! the reference: string(), gather -/
theorem sm_u3s (A : Nat → Nat → Int32) (F : (Nat → Int32) × (Nat → Int32) × (Nat → Int32)) (x y z : Nat → Int32) : sm_uA (sm_uA (sm_uA (sm_u3 A F) 37 x) 38 y) 39 z = sm_u3 A (x, y, z) := by
  funext j
  unfold sm_u3 sm_uA
  by_cases h1 : j = 39 <;> by_cases h2 : j = 38 <;> by_cases h3 : j = 37 <;> simp [h1, h2, h3]
theorem sm_u37 (A : Nat → Nat → Int32) (F : (Nat → Int32) × (Nat → Int32) × (Nat → Int32)) (x : Nat → Int32) : sm_uA (sm_u3 A F) 37 x = sm_u3 A (x, F.2.1, F.2.2) := by
  funext j
  unfold sm_u3 sm_uA
  by_cases h3 : j = 37
  · rw [if_pos h3, if_neg (by omega), if_neg (by omega), if_pos h3]
  · rw [if_neg h3]
    by_cases h1 : j = 39
    · rw [if_pos h1, if_pos h1]
    · rw [if_neg h1, if_neg h1]
      by_cases h2 : j = 38
      · rw [if_pos h2, if_pos h2]
      · rw [if_neg h2, if_neg h2, if_neg h3, if_neg h3]
theorem sm_u38 (A : Nat → Nat → Int32) (F : (Nat → Int32) × (Nat → Int32) × (Nat → Int32)) (x : Nat → Int32) : sm_uA (sm_u3 A F) 38 x = sm_u3 A (F.1, x, F.2.2) := by
  funext j
  unfold sm_u3 sm_uA
  by_cases h3 : j = 38
  · rw [if_pos h3, if_neg (by omega), if_pos h3]
  · rw [if_neg h3]
    by_cases h1 : j = 39
    · rw [if_pos h1, if_pos h1]
    · rw [if_neg h1, if_neg h1, if_neg h3, if_neg h3]
theorem sm_u30 (A : Nat → Nat → Int32) : sm_u3 A (A 37, A 38, A 39) = A := by
  funext j
  unfold sm_u3 sm_uA
  by_cases h1 : j = 39
  · rw [if_pos h1, h1]
  · rw [if_neg h1]
    by_cases h2 : j = 38
    · rw [if_pos h2, h2]
    · rw [if_neg h2]
      by_cases h3 : j = 37
      · rw [if_pos h3, h3]
      · rw [if_neg h3]
/-- worth of k beads from place i of the heap's row, as the reference has it -/
def sm_mwb (A : Nat → Nat → Int32) (ln hb : Nat → Nat) (c i k : Nat) : Int32 := sm_mbw A (sm_cnt (A 24) ln (nI (sm_gr hb (i + k - 1))) c) (sm_gr hb (i + k - 1)) (nI k)
section SM44
variable {l : Launch} {b : Nat} {D : va_G} {cA : Nat → ClassId} {M : sm_M} {I : Nat → Int32} {A : Nat → Nat → Int32}
theorem lp_str1 {c n i : Nat} {ln hb : Nat → Nat} {F : (Nat → Int32) × (Nat → Int32) × (Nat → Int32)} {Post : Option Value → sm_M → Prop} (hn : n = hb 0 + hb 1 + hb 2 + hb 3 + hb 4) (hn60 : n ≤ 60) (hi : i < n) (hA34 : ∀ j, j < 5 → A 34 j = nI (hb j)) (hf : ∀ j, j < 5 → ¬ A 31 j = 0) (hc : c ≤ 40) (hI : I 0 = nI c) (hA : ∀ s, s < c → A 26 s = nI (ln s) ∧ ln s ≤ 80)
    (hP : ∀ (M1 : sm_M) (x y : Option Value), sm_ex M M1 [37, 38, 39] → sm_mm M1 I (sm_u3 A (upd F.1 i (sm_minn (sm_mwb A ln hb c) F.1 F.2.1 n i (-1, F.2.1 i, F.2.2 i) (n - i)).1, upd F.2.1 i (sm_minn (sm_mwb A ln hb c) F.1 F.2.1 n i (-1, F.2.1 i, F.2.2 i) (n - i)).2.1, upd F.2.2 i (sm_minn (sm_mwb A ln hb c) F.1 F.2.1 n i (-1, F.2.1 i, F.2.2 i) (n - i)).2.2)) → sm_G l b D cA yX7_string_ cX7_string_ 6 none 2 0 0 Post 0 0 139 [some (.ref 23), some (.int (nI n)), some (.int (nI i)), some (.int (nI i)), x, y] [] M1) :
    ∀ (r t : Nat) (M1 : sm_M) (x y : Option Value), i + t + r = n → sm_ex M M1 [37, 38, 39] → sm_mm M1 I (sm_u3 A (upd F.1 i (sm_minn (sm_mwb A ln hb c) F.1 F.2.1 n i (-1, F.2.1 i, F.2.2 i) t).1, upd F.2.1 i (sm_minn (sm_mwb A ln hb c) F.1 F.2.1 n i (-1, F.2.1 i, F.2.2 i) t).2.1, upd F.2.2 i (sm_minn (sm_mwb A ln hb c) F.1 F.2.1 n i (-1, F.2.1 i, F.2.2 i) t).2.2)) → sm_G l b D cA yX7_string_ cX7_string_ 6 none 2 0 0 Post 0 0 36 [some (.ref 23), some (.int (nI n)), some (.int (nI i)), some (.int (nI (n - t))), x, y] [] M1 := by
  intro r
  induction r with
  | zero =>
    intro t M1 x y ht hx h
    have e : t = n - i := by omega
    subst e
    have hni : n - (n - i) = i := by omega
    rw [hni]
    refine sg_iload_n dX7_string__36 rfl ?_
    refine sg_iload_n dX7_string__37 rfl ?_
    refine sg_icmp_le 139 dX7_string__38 (by decide) (fun c1 => ?_) (fun c1 => ?_)
    · exact hP M1 x y hx h
    · exact absurd (nI_le (Nat.le_refl _) (by omega)) c1
  | succ r ih =>
    intro t M1 x y ht hx h
    have ih2 := ih (t + 1)
    rw [show sm_minn (sm_mwb A ln hb c) F.1 F.2.1 n i (-1, F.2.1 i, F.2.2 i) (t + 1) = sm_mtry (sm_mwb A ln hb c i (n - t - i) + F.1 (n - t)) (1 + F.2.1 (n - t)) (n - t) (sm_minn (sm_mwb A ln hb c) F.1 F.2.1 n i (-1, F.2.1 i, F.2.2 i) t) from rfl] at ih2
    generalize sm_minn (sm_mwb A ln hb c) F.1 F.2.1 n i (-1, F.2.1 i, F.2.2 i) t = cu at ih2 h
    obtain ⟨cw, cp, ce⟩ := cu
    unfold sm_mtry at ih2
    dsimp only at ih2 h
    obtain ⟨h23, h24, h25, h26, h27, h28, h29, h30, h31, h32, h33, h34, h35, h36, h37, h38, h39⟩ := id h
    have e1 : upd F.1 i cw (n - t) = F.1 (n - t) := sm_upne _ _ (by omega)
    have e2 : upd F.2.1 i cp (n - t) = F.2.1 (n - t) := sm_upne _ _ (by omega)
    have eg : i + (n - t - i) - 1 = n - t - 1 := by omega
    refine sg_iload_n dX7_string__36 rfl ?_
    refine sg_iload_n dX7_string__37 rfl ?_
    refine sg_icmp_le 139 dX7_string__38 (by decide) (fun c1 => ?_) (fun c1 => ?_)
    · exact absurd c1 (nI_ge (by omega) (by omega))
    · refine sg_aload_n dX7_string__41 rfl ?_
      refine sg_iload_n dX7_string__42 rfl ?_
      refine sg_iload_n dX7_string__43 rfl ?_
      refine sg_isub dX7_string__44 ?_
      rw [pk_sub (by omega)]
      refine sg_aload_n dX7_string__45 rfl ?_
      refine sg_iload_n dX7_string__46 rfl ?_
      refine sg_iconst 1 dX7_string__47 (by decide) ?_
      refine sg_isub dX7_string__48 ?_
      rw [show nI (n - t) - 1 = nI (n - t - 1) from by rw [show (1 : Int32) = nI 1 from by decide, pk_sub (by omega)]]
      refine sg_V1 dX7_string__49 cv_X7_155 h23 (c_mgradeAt (A := sm_u3 A (upd F.1 i cw, upd F.2.1 i cp, upd F.2.2 i ce)) (hb := hb) rfl (by omega) (by omega) hA34 h) (Nat.le_of_ble_eq_true rfl) (Nat.le_of_ble_eq_true rfl) (Nat.le_of_ble_eq_true rfl) (Nat.le_of_ble_eq_true rfl) (fun r9 M9 hp => ?_)
      obtain ⟨rfl, e9⟩ := hp
      rw [e9]
      refine sg_V2 dX7_string__52 cv_X7_120 h23 (c_beadsWorth (A := sm_u3 A (upd F.1 i cw, upd F.2.1 i cp, upd F.2.2 i ce)) _ rfl (sm_gr_lt hb _) (hf _ (sm_gr_lt hb _)) hc hI hA h) (Nat.le_of_ble_eq_true rfl) (Nat.le_of_ble_eq_true rfl) (Nat.le_of_ble_eq_true rfl) (Nat.le_of_ble_eq_true rfl) (fun r9 M9 hp => ?_)
      obtain ⟨e8, e9⟩ := hp
      have e8 : r9 = some (.int (sm_mwb A ln hb c i (n - t - i))) := by
        rw [e8]
        unfold sm_mwb
        rw [eg]
        rfl
      subst e8
      rw [e9]
      refine sg_aload_n dX7_string__55 rfl ?_
      refine sg_get dX7_string__56 fl_X7_59 (by first | rfl | assumption) rfl ?_
      refine sg_iload_n dX7_string__59 rfl ?_
      refine sg_ald (n - t) dX7_string__60 h37 rfl (by omega) (by decide) ?_
      rw [show sm_u3 A (upd F.1 i cw, upd F.2.1 i cp, upd F.2.2 i ce) 37 = upd F.1 i cw from rfl, e1]
      refine sg_iadd dX7_string__61 ?_
      generalize sm_mwb A ln hb c i (n - t - i) + F.1 (n - t) = w at ih2 ⊢
      refine sg_istore dX7_string__62 (by decide) ?_
      refine sg_iconst 1 dX7_string__64 (by decide) ?_
      refine sg_aload_n dX7_string__65 rfl ?_
      refine sg_get dX7_string__66 fl_X7_62 (by first | rfl | assumption) rfl ?_
      refine sg_iload_n dX7_string__69 rfl ?_
      refine sg_ald (n - t) dX7_string__70 h38 rfl (by omega) (by decide) ?_
      rw [show sm_u3 A (upd F.1 i cw, upd F.2.1 i cp, upd F.2.2 i ce) 38 = upd F.2.1 i cp from rfl, e2]
      refine sg_iadd dX7_string__71 ?_
      generalize 1 + F.2.1 (n - t) = p at ih2 ⊢
      have hdec : nI (n - t) + Int32.ofInt (-1) = nI (n - (t + 1)) := by
        rw [show n - t = (n - (t + 1)) + 1 from by omega]
        exact pk_m1 _
      have skip : (w < cw ∨ (w = cw ∧ cp ≤ p)) → sm_G l b D cA yX7_string_ cX7_string_ 6 none 2 0 0 Post 0 0 133 [some (.ref 23), some (.int (nI n)), some (.int (nI i)), some (.int (nI (n - t))), some (.int w), some (.int p)] [] M1 := fun hs => by
        rw [if_pos hs] at ih2
        refine sg_iinc _ dX7_string__133 rfl hdec (by decide) ?_
        refine sg_goto 36 dX7_string__136 (by decide) ?_
        exact ih2 M1 _ _ (by omega) hx h
      have take : ¬ (w < cw ∨ (w = cw ∧ cp ≤ p)) → sm_G l b D cA yX7_string_ cX7_string_ 6 none 2 0 0 Post 0 0 110 [some (.ref 23), some (.int (nI n)), some (.int (nI i)), some (.int (nI (n - t))), some (.int w), some (.int p)] [] M1 := fun hs => by
        rw [if_neg hs] at ih2
        refine sg_aload_n dX7_string__110 rfl ?_
        refine sg_get dX7_string__111 fl_X7_59 (by first | rfl | assumption) rfl ?_
        refine sg_iload_n dX7_string__114 rfl ?_
        refine sg_iload dX7_string__115 rfl ?_
        refine sg_astx i dX7_string__117 h37 rfl (by omega) (by decide) (fun M2 x2 g2 => ?_)
        have m2 := h.u37 x2 g2
        have a23 := m2.1
        have a38 := (x2.2 38 (by decide)).trans h38
        refine sg_aload_n dX7_string__118 rfl ?_
        refine sg_get dX7_string__119 fl_X7_62 (by first | rfl | assumption) rfl ?_
        refine sg_iload_n dX7_string__122 rfl ?_
        refine sg_iload dX7_string__123 rfl ?_
        refine sg_astx i dX7_string__125 a38 rfl (by omega) (by decide) (fun M3 x3 g3 => ?_)
        have m3 := m2.u38 x3 g3
        have b23 := m3.1
        have b39 := (x3.2 39 (by decide)).trans ((x2.2 39 (by decide)).trans h39)
        refine sg_aload_n dX7_string__126 rfl ?_
        refine sg_get dX7_string__127 fl_X7_65 (by first | rfl | assumption) rfl ?_
        refine sg_iload_n dX7_string__130 rfl ?_
        refine sg_iload_n dX7_string__131 rfl ?_
        refine sg_astx i dX7_string__132 b39 rfl (by omega) (by decide) (fun M4 x4 g4 => ?_)
        have m4 := m3.u39 x4 g4
        rw [sm_u3s, show sm_u3 A (upd F.1 i cw, upd F.2.1 i cp, upd F.2.2 i ce) 37 = upd F.1 i cw from rfl, show sm_u3 A (upd F.1 i cw, upd F.2.1 i cp, upd F.2.2 i ce) 38 = upd F.2.1 i cp from rfl, show sm_u3 A (upd F.1 i cw, upd F.2.1 i cp, upd F.2.2 i ce) 39 = upd F.2.2 i ce from rfl, sm_updd, sm_updd, sm_updd] at m4
        refine sg_iinc _ dX7_string__133 rfl hdec (by decide) ?_
        refine sg_goto 36 dX7_string__136 (by decide) ?_
        exact ih2 M4 _ _ (by omega) (hx.tr ((x2.mono (by decide)).tr ((x3.mono (by decide)).tr (x4.mono (by decide))))) m4
      refine sg_istore dX7_string__72 (by decide) ?_
      refine sg_iload dX7_string__74 rfl ?_
      refine sg_aload_n dX7_string__76 rfl ?_
      refine sg_get dX7_string__77 fl_X7_59 (by first | rfl | assumption) rfl ?_
      refine sg_iload_n dX7_string__80 rfl ?_
      refine sg_ald i dX7_string__81 h37 rfl (by omega) (by decide) ?_
      rw [show sm_u3 A (upd F.1 i cw, upd F.2.1 i cp, upd F.2.2 i ce) 37 = upd F.1 i cw from rfl, sm_upeq]
      refine sg_icmp_lt 133 dX7_string__82 (by decide) (fun c2 => ?_) (fun c2 => ?_)
      · exact skip (Or.inl c2)
      · refine sg_iload dX7_string__85 rfl ?_
        refine sg_aload_n dX7_string__87 rfl ?_
        refine sg_get dX7_string__88 fl_X7_59 (by first | rfl | assumption) rfl ?_
        refine sg_iload_n dX7_string__91 rfl ?_
        refine sg_ald i dX7_string__92 h37 rfl (by omega) (by decide) ?_
        rw [show sm_u3 A (upd F.1 i cw, upd F.2.1 i cp, upd F.2.2 i ce) 37 = upd F.1 i cw from rfl, sm_upeq]
        refine sg_icmp_ne 110 dX7_string__93 (by decide) (fun c3 => ?_) (fun c3 => ?_)
        · exact take (fun q => q.elim c2 (fun q => c3 q.1))
        · refine sg_iload dX7_string__96 rfl ?_
          refine sg_aload_n dX7_string__98 rfl ?_
          refine sg_get dX7_string__99 fl_X7_62 (by first | rfl | assumption) rfl ?_
          refine sg_iload_n dX7_string__102 rfl ?_
          refine sg_ald i dX7_string__103 h38 rfl (by omega) (by decide) ?_
          rw [show sm_u3 A (upd F.1 i cw, upd F.2.1 i cp, upd F.2.2 i ce) 38 = upd F.2.1 i cp from rfl, sm_upeq]
          refine sg_icmp_lt 110 dX7_string__104 (by decide) (fun c4 => ?_) (fun c4 => ?_)
          · exact take (fun q => q.elim c2 (fun q => absurd q.2 (Int32.not_le.mpr c4)))
          · refine sg_goto 133 dX7_string__107 (by decide) ?_
            exact skip (Or.inr ⟨c3, Int32.not_lt.mp c4⟩)
theorem lp_str2 {c n : Nat} {ln hb : Nat → Nat} {fw fp fe : Nat → Int32} {Post : Option Value → sm_M → Prop} (hn : n = hb 0 + hb 1 + hb 2 + hb 3 + hb 4) (hn60 : n ≤ 60) (hA34 : ∀ j, j < 5 → A 34 j = nI (hb j)) (hf : ∀ j, j < 5 → ¬ A 31 j = 0) (hc : c ≤ 40) (hI : I 0 = nI c) (hA : ∀ s, s < c → A 26 s = nI (ln s) ∧ ln s ≤ 80)
    (hP : ∀ M1 : sm_M, sm_ex M M1 [37, 38, 39] → sm_mm M1 I (sm_u3 A (sm_mout (sm_mwb A ln hb c) n fw fp fe n)) → Post none M1) :
    ∀ (q r : Nat) (M1 : sm_M) (x y z : Option Value), r + q = n → sm_ex M M1 [37, 38, 39] → sm_mm M1 I (sm_u3 A (sm_mout (sm_mwb A ln hb c) n fw fp fe r)) → sm_G l b D cA yX7_string_ cX7_string_ 6 none 2 0 0 Post 0 0 23 [some (.ref 23), some (.int (nI n)), some (.int (nI q - 1)), x, y, z] [] M1 := by
  intro q
  induction q with
  | zero =>
    intro r M1 x y z hr hx h
    have e : r = n := by omega
    subst e
    refine sg_iload_n dX7_string__23 rfl ?_
    refine sg_if_lt 145 dX7_string__24 (by decide) (fun c1 => ?_) (fun c1 => ?_)
    · refine sg_return dX7_string__145 rfl (Nat.le_of_ble_eq_true rfl) (Nat.le_of_ble_eq_true rfl) ?_
      exact hP M1 hx h
    · exact absurd (by rw [nI_0]; decide) c1
  | succ q ih =>
    intro r M1 x y z hr hx h
    have hq : q = n - (r + 1) := by omega
    obtain ⟨h23, h24, h25, h26, h27, h28, h29, h30, h31, h32, h33, h34, h35, h36, h37, h38, h39⟩ := id h
    rw [nI_pred]
    refine sg_iload_n dX7_string__23 rfl ?_
    refine sg_if_lt 145 dX7_string__24 (by decide) (fun c1 => ?_) (fun c1 => ?_)
    · exact absurd c1 (nI_pos (by omega))
    · refine sg_aload_n dX7_string__27 rfl ?_
      refine sg_get dX7_string__28 fl_X7_59 (by first | rfl | assumption) rfl ?_
      refine sg_iload_n dX7_string__31 rfl ?_
      refine sg_iconst (-1) dX7_string__32 (by decide) ?_
      refine sg_astx q dX7_string__33 h37 rfl (by omega) (by decide) (fun M2 x2 g2 => ?_)
      have m2 := h.u37 x2 g2
      rw [sm_u37] at m2
      refine sg_iload_n dX7_string__34 rfl ?_
      refine sg_istore_n dX7_string__35 (by decide) ?_
      refine lp_str1 (M := M) (F := sm_mout (sm_mwb A ln hb c) n fw fp fe r) (i := q) (ln := ln) (hb := hb) (c := c) hn hn60 (by omega) hA34 hf hc hI hA (fun M3 x3 y3 e3 m3 => ?_) (n - q) 0 M2 _ _ (by omega) (hx.tr (x2.mono (by decide))) ?_
      · have e2 : n - q = r + 1 := by omega
        rw [e2, hq] at m3
        refine sg_iinc _ dX7_string__139 rfl (show nI q + Int32.ofInt (-1) = nI q - 1 from by rw [Int32.sub_eq_add_neg]; rfl) (by decide) ?_
        refine sg_goto 23 dX7_string__142 (by decide) ?_
        exact ih (r + 1) M3 _ _ _ (by omega) e3 m3
      · show sm_mm M2 I (sm_u3 A (upd (sm_mout (sm_mwb A ln hb c) n fw fp fe r).1 q (-1), upd (sm_mout (sm_mwb A ln hb c) n fw fp fe r).2.1 q ((sm_mout (sm_mwb A ln hb c) n fw fp fe r).2.1 q), upd (sm_mout (sm_mwb A ln hb c) n fw fp fe r).2.2 q ((sm_mout (sm_mwb A ln hb c) n fw fp fe r).2.2 q)))
        rw [sm_upsame, sm_upsame]
        exact m2
theorem c_mstring {c n : Nat} {ln hb : Nat → Nat} (hn : n = hb 0 + hb 1 + hb 2 + hb 3 + hb 4) (hn60 : n ≤ 60) (hA34 : ∀ j, j < 5 → A 34 j = nI (hb j)) (hf : ∀ j, j < 5 → ¬ A 31 j = 0) (hc : c ≤ 40) (hI : I 0 = nI c) (hA : ∀ s, s < c → A 26 s = nI (ln s) ∧ ln s ≤ 80) (h : sm_mm M I A) : sm_Ct l b D cA yX7_string_ cX7_string_ 6 none 2 0 0 [.ref 23] M (fun r M1 => r = none ∧ sm_ex M M1 [37, 38, 39] ∧ sm_mm M1 I (sm_u3 A (sm_mout (sm_mwb A ln hb c) n (A 37) (A 38) (A 39) n))) := by
  obtain ⟨h23, h24, h25, h26, h27, h28, h29, h30, h31, h32, h33, h34, h35, h36, h37, h38, h39⟩ := id h
  refine sm_enter (by decide +kernel) rfl (fun _ => Nat.le_of_ble_eq_true rfl) ?_
  refine sg_aload_n dX7_string__0 rfl ?_
  refine sg_V0 dX7_string__1 cv_X7_151 h23 (c_heaped (hb := hb) hA34 h) (Nat.le_of_ble_eq_true rfl) (Nat.le_of_ble_eq_true rfl) (Nat.le_of_ble_eq_true rfl) (Nat.le_of_ble_eq_true rfl) (fun r9 M9 hp => ?_)
  obtain ⟨rfl, e9⟩ := hp
  rw [e9, ← hn]
  refine sg_istore_n dX7_string__4 (by decide) ?_
  refine sg_aload_n dX7_string__5 rfl ?_
  refine sg_get dX7_string__6 fl_X7_59 (by first | rfl | assumption) rfl ?_
  refine sg_iload_n dX7_string__9 rfl ?_
  refine sg_iconst 0 dX7_string__10 (by decide) ?_
  refine sg_astx n dX7_string__11 h37 rfl (by omega) (by decide) (fun M2 x2 g2 => ?_)
  have m2 := h.u37 x2 g2
  have a23 := m2.1
  have a38 := (x2.2 38 (by decide)).trans h38
  refine sg_aload_n dX7_string__12 rfl ?_
  refine sg_get dX7_string__13 fl_X7_62 (by first | rfl | assumption) rfl ?_
  refine sg_iload_n dX7_string__16 rfl ?_
  refine sg_iconst 0 dX7_string__17 (by decide) ?_
  refine sg_astx n dX7_string__18 a38 rfl (by omega) (by decide) (fun M3 x3 g3 => ?_)
  have m3 := m2.u38 x3 g3
  refine sg_iload_n dX7_string__19 rfl ?_
  refine sg_iconst 1 dX7_string__20 (by decide) ?_
  refine sg_isub dX7_string__21 ?_
  refine sg_istore_n dX7_string__22 (by decide) ?_
  refine lp_str2 (M := M) (fw := A 37) (fp := A 38) (fe := A 39) (ln := ln) (hb := hb) (c := c) hn hn60 hA34 hf hc hI hA (fun M1 h1 h2 => ⟨rfl, h1, h2⟩) n 0 M3 _ _ _ (by omega) ((x2.mono (by decide)).tr (x3.mono (by decide))) ?_
  have e : sm_u3 A (sm_mout (sm_mwb A ln hb c) n (A 37) (A 38) (A 39) 0) = sm_uA (sm_uA A 37 (upd (A 37) n 0)) 38 (upd (A 38) n 0) := by
    conv => rhs; rw [← sm_u30 A, sm_u37, sm_u38]
    rfl
  rw [e]
  exact m3
end SM44
