/-! the purse: choose -/
/-- the sum of w over the bits of s below n -/
def sm_ws (w : Nat → Nat) (s : Nat) : Nat → Nat
  | 0 => 0
  | k + 1 => sm_ws w s k + (if s.testBit k then w k else 0)
def sm_pre (w : Nat → Nat) : Nat → Nat
  | 0 => 0
  | k + 1 => sm_pre w k + w k
theorem sm_odd : ∀ s : Nat, 0 < s → ∃ t m, s = 2 ^ t * (2 * m + 1) := by
  intro s
  induction s using Nat.strongRecOn with
  | ind s ih =>
    intro h
    by_cases h2 : s % 2 = 1
    · exact ⟨0, s / 2, by omega⟩
    · obtain ⟨t, m, e⟩ := ih (s / 2) (by omega) (by omega)
      refine ⟨t + 1, m, ?_⟩
      rw [Nat.pow_succ, Nat.mul_comm (2 ^ t) 2, Nat.mul_assoc, ← e]
      omega
theorem sm_bits {s t m : Nat} (e : s = 2 ^ t * (2 * m + 1)) (k : Nat) : s.testBit k = (if k < t then false else if k = t then true else m.testBit (k - t - 1)) ∧ (s - 1).testBit k = (if k < t then true else if k = t then false else m.testBit (k - t - 1)) := by
  have hp : 0 < 2 ^ t := Nat.two_pow_pos t
  have e1 : s = 2 ^ t * (2 * m + 1) + 0 := by omega
  have e2 : s - 1 = 2 ^ t * (2 * m) + (2 ^ t - 1) := by
    rw [e, Nat.mul_add, Nat.mul_one]
    omega
  have o1 : ∀ j, (2 * m + 1).testBit (j + 1) = m.testBit j := fun j => by
    rw [Nat.testBit_add_one]
    congr 1
    omega
  have o2 : ∀ j, (2 * m).testBit (j + 1) = m.testBit j := fun j => by
    rw [Nat.testBit_add_one]
    congr 1
    omega
  rw [e2, e1, Nat.testBit_two_pow_mul_add _ hp, Nat.testBit_two_pow_mul_add _ (show 2 ^ t - 1 < 2 ^ t by omega)]
  by_cases h : k < t
  · rw [if_pos h, if_pos h, if_pos h, if_pos h, Nat.testBit_two_pow_sub_one]
    exact ⟨by simp, by simp [h]⟩
  · rw [if_neg h, if_neg h, if_neg h, if_neg h]
    by_cases h2 : k = t
    · rw [if_pos h2, if_pos h2, h2, Nat.sub_self, Nat.testBit_zero, Nat.testBit_zero]
      exact ⟨by simp, by simp⟩
    · rw [if_neg h2, if_neg h2]
      have hk : k - t = (k - t - 1) + 1 := by omega
      rw [hk, o1, o2]
      exact ⟨rfl, rfl⟩
theorem sm_ws_step (w : Nat → Nat) {s t m : Nat} (e : s = 2 ^ t * (2 * m + 1)) : ∀ k, (k ≤ t → sm_ws w s k = 0 ∧ sm_ws w (s - 1) k = sm_pre w k) ∧ (t < k → sm_ws w s k + sm_pre w t = sm_ws w (s - 1) k + w t ∧ sm_pre w t ≤ sm_ws w (s - 1) k)
  | 0 => ⟨fun _ => ⟨rfl, rfl⟩, fun h => absurd h (by omega)⟩
  | k + 1 => by
    obtain ⟨i1, i2⟩ := sm_ws_step w e k
    obtain ⟨b1, b2⟩ := sm_bits e k
    refine ⟨fun h => ?_, fun h => ?_⟩
    · obtain ⟨j1, j2⟩ := i1 (by omega)
      rw [if_pos (by omega)] at b1 b2
      simp [sm_ws, sm_pre, b1, b2, j1, j2]
    · by_cases hk : k = t
      · obtain ⟨j1, j2⟩ := i1 (by omega)
        rw [if_neg (by omega), if_pos hk] at b1 b2
        subst hk
        simp [sm_ws, b1, b2, j1, j2]
        omega
      · obtain ⟨j1, j2⟩ := i2 (by omega)
        rw [if_neg (by omega), if_neg hk] at b1 b2
        simp only [sm_ws, b1, b2]
        omega
theorem sm_pre_mono (w : Nat → Nat) {a b : Nat} (h : a ≤ b) : sm_pre w a ≤ sm_pre w b := by
  induction b with
  | zero => rw [show a = 0 by omega]; exact Nat.le_refl _
  | succ b ih =>
    by_cases hb : a = b + 1
    · rw [hb]; exact Nat.le_refl _
    · exact Nat.le_trans (ih (by omega)) (by show _ ≤ sm_pre w b + w b; omega)
theorem sm_pre1 : ∀ k, sm_pre (fun _ => 1) k = k
  | 0 => rfl
  | k + 1 => by
    show sm_pre (fun _ => 1) k + 1 = k + 1
    rw [sm_pre1 k]
theorem sm_smod : ∀ j, j < 13 → ((nI j &&& 31).toBitVec.smod 32).toNat = j := by decide +kernel
theorem sm_shl : ∀ n, n < 13 → (1 : Int32) <<< (nI n &&& 31) = nI (2 ^ n) := by decide +kernel
theorem sm_bit {s j : Nat} (hs : s < 2 ^ 31) (hj : j < 13) : (nI s >>> (nI j &&& 31)) &&& 1 = if s.testBit j then 1 else 0 := by
  have h2 : s / 2 ^ j ≤ s := Nat.div_le_self _ _
  rw [pk_shrN hs _ j (sm_smod j hj), pk_andN (by omega) 1 (by decide), Nat.testBit_eq_decide_div_mod_eq]
  rcases Nat.mod_two_eq_zero_or_one (s / 2 ^ j) with h | h
  · rw [show (2 : Nat) ^ 1 = 2 from rfl, h]
    decide
  · rw [show (2 : Nat) ^ 1 = 2 from rfl, h]
    decide
/-- the set chosen among the first s -/
def sm_pick (w : Nat → Nat) (n : Nat) (sum : Int32) : Nat → Int32 × Int32 × Int32
  | 0 => (0, 0, -1)
  | s + 1 => if sum ≤ nI (sm_ws w (s + 1) n) ∧ ((sm_pick w n sum s).2.2 = -1 ∨ nI (sm_ws w (s + 1) n) < (sm_pick w n sum s).2.2 ∨ (nI (sm_ws w (s + 1) n) = (sm_pick w n sum s).2.2 ∧ nI (sm_ws (fun _ => 1) (s + 1) n) < (sm_pick w n sum s).2.1)) then (nI (s + 1), nI (sm_ws (fun _ => 1) (s + 1) n), nI (sm_ws w (s + 1) n)) else sm_pick w n sum s
section SM28
variable {l : Launch} {b : Nat} {D : va_G} {cA : Nat → ClassId} {M : sm_M}
theorem lp_ch1 {n t s A B : Nat} {tot ch cs cw sum : Int32} {fn : Nat → Int32} {w : Nat → Nat} {Post : Option Value → sm_M → Prop} (hn : n ≤ 12) (ht : t < n) (hs : s < 2 ^ 12) (hz : ∀ k, k < t → s.testBit k = false) (h1 : s.testBit t = true) (hA : sm_pre w t ≤ A) (hB : t ≤ B) {fw : Nat → Int32} (hw : ∀ k, k < n → fw k = nI (w k)) (h : sm_pu M n tot ch cs cw fn fw)
    (hP : sm_G l b D cA yX2_choose cX2_choose 6 none 1 0 0 Post 0 0 60 [some (.ref 13), some (.int sum), some (.int (nI (A - sm_pre w t))), some (.int (nI (B - t))), some (.int (nI s)), some (.int (nI t))] [] M) :
    ∀ (r j : Nat), j + r = t → sm_G l b D cA yX2_choose cX2_choose 6 none 1 0 0 Post 0 0 21 [some (.ref 13), some (.int sum), some (.int (nI (A - sm_pre w j))), some (.int (nI (B - j))), some (.int (nI s)), some (.int (nI j))] [] M := by
  obtain ⟨h13, h14, h15⟩ := id h
  intro r
  induction r with
  | zero =>
    intro j hj
    have e : j = t := by omega
    subst e
    refine sg_iload dX2_choose_21 rfl ?_
    refine sg_aload_n dX2_choose_23 rfl ?_
    refine sg_get dX2_choose_24 fl_X2_18 (by first | rfl | assumption) rfl ?_
    refine sg_iconst 1 dX2_choose_27 (by decide) ?_
    refine sg_isub dX2_choose_28 ?_
    refine sg_icmp_ge 60 dX2_choose_29 (by decide) (fun c => ?_) (fun c => ?_)
    · exact hP
    · refine sg_iload dX2_choose_32 rfl ?_
      refine sg_iload dX2_choose_34 rfl ?_
      refine sg_ishr dX2_choose_36 ?_
      refine sg_iconst 1 dX2_choose_37 (by decide) ?_
      refine sg_iand dX2_choose_38 ?_
      rw [sm_bit (by omega) (by omega), h1, if_pos rfl]
      refine sg_if_ne 60 dX2_choose_39 (by decide) (fun c2 => ?_) (fun c2 => ?_)
      · exact hP
      · exact absurd c2 (by decide)
  | succ r ih =>
    intro j hj
    have hpm := sm_pre_mono w (show j + 1 ≤ t by omega)
    have hps : sm_pre w (j + 1) = sm_pre w j + w j := rfl
    refine sg_iload dX2_choose_21 rfl ?_
    refine sg_aload_n dX2_choose_23 rfl ?_
    refine sg_get dX2_choose_24 fl_X2_18 (by first | rfl | assumption) rfl ?_
    refine sg_iconst 1 dX2_choose_27 (by decide) ?_
    refine sg_isub dX2_choose_28 ?_
    refine sg_icmp_ge 60 dX2_choose_29 (by decide) (fun c => ?_) (fun c => ?_)
    · rw [show (1 : Int32) = nI 1 from by decide, pk_sub (by omega)] at c
      exact absurd c (nI_ge (by omega) (by omega))
    · refine sg_iload dX2_choose_32 rfl ?_
      refine sg_iload dX2_choose_34 rfl ?_
      refine sg_ishr dX2_choose_36 ?_
      refine sg_iconst 1 dX2_choose_37 (by decide) ?_
      refine sg_iand dX2_choose_38 ?_
      rw [sm_bit (by omega) (by omega), hz j (by omega), if_neg (by decide)]
      refine sg_if_ne 60 dX2_choose_39 (by decide) (fun c2 => ?_) (fun c2 => ?_)
      · exact absurd rfl c2
      · refine sg_iload_n dX2_choose_42 rfl ?_
        refine sg_aload_n dX2_choose_43 rfl ?_
        refine sg_iload dX2_choose_44 rfl ?_
        refine sg_V1 dX2_choose_46 cv_X2_34 h13 (c_worthAt j rfl (by omega) hn h) (Nat.le_of_ble_eq_true rfl) (Nat.le_of_ble_eq_true rfl) (Nat.le_of_ble_eq_true rfl) (Nat.le_of_ble_eq_true rfl) (fun r9 M9 hp => ?_)
        obtain ⟨rfl, e9⟩ := hp
        rw [e9]
        refine sg_isub dX2_choose_49 ?_
        rw [hw j (by omega), pk_sub (by omega), show A - sm_pre w j - w j = A - sm_pre w (j + 1) from by omega]
        refine sg_istore_n dX2_choose_50 (by decide) ?_
        refine sg_iinc _ dX2_choose_51 rfl (show nI (B - j) + Int32.ofInt (-1) = nI (B - (j + 1)) from by rw [show B - j = (B - (j + 1)) + 1 from by omega]; exact pk_m1 _) (by decide) ?_
        refine sg_iinc _ dX2_choose_54 rfl (sm_inc j) (by decide) ?_
        refine sg_goto 21 dX2_choose_57 (by decide) ?_
        exact ih (j + 1) (by omega)
theorem lp_ch2 {n : Nat} {tot sum : Int32} {fn fw : Nat → Int32} {w : Nat → Nat} {Post : Option Value → sm_M → Prop} (hn : n ≤ 12) (hw : ∀ k, k < n → fw k = nI (w k))
    (hP : ∀ M1 : sm_M, sm_ex M M1 [13] → sm_pu M1 n tot (sm_pick w n sum (2 ^ n - 1)).1 (sm_pick w n sum (2 ^ n - 1)).2.1 (sm_pick w n sum (2 ^ n - 1)).2.2 fn fw → Post none M1) :
    ∀ (r s : Nat) (x : Option Value) (M1 : sm_M), s + 1 + r = 2 ^ n → sm_ex M M1 [13] → sm_pu M1 n tot (sm_pick w n sum s).1 (sm_pick w n sum s).2.1 (sm_pick w n sum s).2.2 fn fw → sm_G l b D cA yX2_choose cX2_choose 6 none 1 0 0 Post 0 0 7 [some (.ref 13), some (.int sum), some (.int (nI (sm_ws w s n))), some (.int (nI (sm_ws (fun _ => 1) s n))), some (.int (nI (s + 1))), x] [] M1 := by
  have h12 : 2 ^ n ≤ 2 ^ 12 := Nat.pow_le_pow_right (by decide) hn
  intro r
  induction r with
  | zero =>
    intro s x M1 hs hx h
    have e : s = 2 ^ n - 1 := by omega
    obtain ⟨h13, h14, h15⟩ := id h
    refine sg_iload dX2_choose_7 rfl ?_
    refine sg_iconst 1 dX2_choose_9 (by decide) ?_
    refine sg_aload_n dX2_choose_10 rfl ?_
    refine sg_get dX2_choose_11 fl_X2_18 (by first | rfl | assumption) rfl ?_
    refine sg_ishl dX2_choose_14 ?_
    rw [sm_shl n (by omega)]
    refine sg_icmp_ge 108 dX2_choose_15 (by decide) (fun c => ?_) (fun c => ?_)
    · refine sg_return dX2_choose_108 rfl (Nat.le_of_ble_eq_true rfl) (Nat.le_of_ble_eq_true rfl) ?_
      rw [e] at h
      exact hP M1 hx h
    · exact absurd (nI_le (by omega) (by omega)) c
  | succ r ih =>
    intro s x M1 hs hx h
    obtain ⟨h13, h14, h15⟩ := id h
    obtain ⟨t, m, e⟩ := sm_odd (s + 1) (by omega)
    have htn : t < n := by
      rcases Nat.lt_or_ge t n with q | q
      · exact q
      · have h1 : 2 ^ n ≤ 2 ^ t := Nat.pow_le_pow_right (by decide) q
        have h2 : 2 ^ t * 1 ≤ 2 ^ t * (2 * m + 1) := Nat.mul_le_mul_left _ (by omega)
        omega
    obtain ⟨w1, w2⟩ := (sm_ws_step w e n).2 htn
    obtain ⟨c1, c2⟩ := (sm_ws_step (fun _ => 1) e n).2 htn
    rw [sm_pre1] at c1 c2
    simp only [Nat.add_sub_cancel] at w1 w2 c1 c2
    have ih2 := ih (s + 1)
    unfold sm_pick at ih2
    refine sg_iload dX2_choose_7 rfl ?_
    refine sg_iconst 1 dX2_choose_9 (by decide) ?_
    refine sg_aload_n dX2_choose_10 rfl ?_
    refine sg_get dX2_choose_11 fl_X2_18 (by first | rfl | assumption) rfl ?_
    refine sg_ishl dX2_choose_14 ?_
    rw [sm_shl n (by omega)]
    refine sg_icmp_ge 108 dX2_choose_15 (by decide) (fun c => ?_) (fun c => ?_)
    · exact absurd c (nI_ge (by omega) (by omega))
    · refine sg_iconst (nI 0) dX2_choose_18 (by decide) ?_
      refine sg_istore dX2_choose_19 (by decide) ?_
      refine lp_ch1 (A := sm_ws w s n) (B := sm_ws (fun _ => 1) s n) (t := t) hn htn (by omega) (fun k hk => ?_) ?_ w2 c2 hw h ?_ t 0 (by omega)
      · rw [(sm_bits e k).1, if_pos hk]
      · rw [(sm_bits e t).1, if_neg (by omega), if_pos rfl]
      · refine sg_iload_n dX2_choose_60 rfl ?_
        refine sg_aload_n dX2_choose_61 rfl ?_
        refine sg_iload dX2_choose_62 rfl ?_
        refine sg_V1 dX2_choose_64 cv_X2_34 h13 (c_worthAt t rfl htn hn h) (Nat.le_of_ble_eq_true rfl) (Nat.le_of_ble_eq_true rfl) (Nat.le_of_ble_eq_true rfl) (Nat.le_of_ble_eq_true rfl) (fun r9 M9 hp => ?_)
        obtain ⟨rfl, e9⟩ := hp
        rw [e9]
        refine sg_iadd dX2_choose_67 ?_
        rw [hw t htn, nI_add, show sm_ws w s n - sm_pre w t + w t = sm_ws w (s + 1) n from by omega]
        refine sg_istore_n dX2_choose_68 (by decide) ?_
        refine sg_iinc (nI (sm_ws (fun _ => 1) (s + 1) n)) dX2_choose_69 rfl (by rw [show sm_ws (fun _ => 1) (s + 1) n = sm_ws (fun _ => 1) s n - t + 1 from by omega]; exact sm_inc _) (by decide) ?_
        refine sg_iload_n dX2_choose_72 rfl ?_
        refine sg_iload_n dX2_choose_73 rfl ?_
        refine sg_icmp_lt 102 dX2_choose_74 (by decide) (fun c3 => ?_) (fun c3 => ?_)
        · rw [if_neg (fun q => absurd q.1 (Int32.not_le.mpr c3))] at ih2
          refine sg_iinc _ dX2_choose_102 rfl (sm_inc (s + 1)) (by decide) ?_
          refine sg_goto 7 dX2_choose_105 (by decide) ?_
          exact ih2 _ M1 (by omega) hx h
        · refine sg_aload_n dX2_choose_77 rfl ?_
          refine sg_iload_n dX2_choose_78 rfl ?_
          refine sg_iload_n dX2_choose_79 rfl ?_
          refine sg_V2 dX2_choose_80 cv_X2_38 h13 (c_isBetter _ _ h) (Nat.le_of_ble_eq_true rfl) (Nat.le_of_ble_eq_true rfl) (Nat.le_of_ble_eq_true rfl) (Nat.le_of_ble_eq_true rfl) (fun r9 M9 hp => ?_)
          obtain ⟨⟨z, rfl, hz⟩, e9⟩ := hp
          unfold sm_bet at hz
          rw [e9]
          refine sg_if_eq 102 dX2_choose_83 (by decide) (fun c4 => ?_) (fun c4 => ?_)
          · rw [if_neg (fun q => hz.mp c4 q.2)] at ih2
            refine sg_iinc _ dX2_choose_102 rfl (sm_inc (s + 1)) (by decide) ?_
            refine sg_goto 7 dX2_choose_105 (by decide) ?_
            exact ih2 _ M1 (by omega) hx h
          · have hbet := Decidable.not_not.mp (fun q => c4 (hz.mpr q))
            rw [if_pos ⟨Int32.not_lt.mp c3, hbet⟩] at ih2
            refine sg_aload_n dX2_choose_86 rfl ?_
            refine sg_iload dX2_choose_87 rfl ?_
            refine sg_putx dX2_choose_89 fl_X2_25 ft_X2_4 h13 (Nat.le_of_ble_eq_true rfl) (fun M2 x2 q2 => ?_)
            refine sg_aload_n dX2_choose_92 rfl ?_
            refine sg_iload_n dX2_choose_93 rfl ?_
            refine sg_putx dX2_choose_94 fl_X2_28 ft_X2_5 q2 (Nat.le_of_ble_eq_true rfl) (fun M3 x3 q3 => ?_)
            refine sg_aload_n dX2_choose_97 rfl ?_
            refine sg_iload_n dX2_choose_98 rfl ?_
            refine sg_putx dX2_choose_99 fl_X2_31 ft_X2_6 q3 (Nat.le_of_ble_eq_true rfl) (fun M4 x4 q4 => ?_)
            have xx := x2.tr (x3.tr x4)
            refine sg_iinc _ dX2_choose_102 rfl (sm_inc (s + 1)) (by decide) ?_
            refine sg_goto 7 dX2_choose_105 (by decide) ?_
            exact ih2 _ M4 (by omega) (hx.tr xx) ⟨q4, (xx.2 14 (by decide)).trans h14, (xx.2 15 (by decide)).trans h15⟩
theorem sm_ws0 (w : Nat → Nat) : ∀ n, sm_ws w 0 n = 0
  | 0 => rfl
  | n + 1 => by
    show sm_ws w 0 n + _ = 0
    rw [sm_ws0 w n, Nat.zero_testBit, if_neg (by decide)]
theorem c_choose {n : Nat} {tot : Int32} {fn fw : Nat → Int32} {w : Nat → Nat} (sum : Int32) (hn : n ≤ 12) (hw : ∀ k, k < n → fw k = nI (w k)) (h : sm_pu M n tot 0 0 (-1) fn fw) : sm_Ct l b D cA yX2_choose cX2_choose 6 none 1 0 0 [.ref 13, .int sum] M (fun r M1 => r = none ∧ sm_ex M M1 [13] ∧ sm_pu M1 n tot (sm_pick w n sum (2 ^ n - 1)).1 (sm_pick w n sum (2 ^ n - 1)).2.1 (sm_pick w n sum (2 ^ n - 1)).2.2 fn fw) := by
  have hp2 : 0 < 2 ^ n := Nat.two_pow_pos n
  refine sm_enter (by decide +kernel) rfl (fun _ => Nat.le_of_ble_eq_true rfl) ?_
  refine sg_iconst (nI 0) dX2_choose_0 (by decide) ?_
  refine sg_istore_n dX2_choose_1 (by decide) ?_
  refine sg_iconst (nI 0) dX2_choose_2 (by decide) ?_
  refine sg_istore_n dX2_choose_3 (by decide) ?_
  refine sg_iconst (nI 1) dX2_choose_4 (by decide) ?_
  refine sg_istore dX2_choose_5 (by decide) ?_
  have h9 := lp_ch2 (l := l) (b := b) (D := D) (cA := cA) (M := M) (tot := tot) (sum := sum) (fn := fn) (fw := fw) (w := w) (Post := fun r M1 => r = none ∧ sm_ex M M1 [13] ∧ sm_pu M1 n tot (sm_pick w n sum (2 ^ n - 1)).1 (sm_pick w n sum (2 ^ n - 1)).2.1 (sm_pick w n sum (2 ^ n - 1)).2.2 fn fw) hn hw (fun M1 h1 h2 => ⟨rfl, h1, h2⟩) (2 ^ n - 1) 0 none M (by omega) sm_ex.rf h
  rw [sm_ws0, sm_ws0] at h9
  exact h9
end SM28
