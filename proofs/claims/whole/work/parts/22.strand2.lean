/-! a strand's methods, on: exchange, reverse, the least grade, makers, the tally, the constructor -/
def sm_least (f : Nat → Int32) (a : Nat) : Nat → Int32
  | 0 => -1
  | k + 1 => if sm_least f a k = -1 ∨ f (a + k) < sm_least f a k then f (a + k) else sm_least f a k
def sm_seen (f : Nat → Int32) : Nat → Int32
  | 0 => 0
  | k + 1 => sm_seen f k ||| ((1 : Int32) <<< (f k &&& 31))
/-- one more for the maker of bead k, if its grade is below -/
def sm_tal1 (fg fm : Nat → Int32) (gr : Int32) (k : Nat) (f : Nat → Int32) : Nat → Int32 := if fg k < gr ∧ 0 ≤ (fm k).toInt ∧ (fm k).toInt < 10 then upd f (fm k).toInt.toNat (f (fm k).toInt.toNat + 1) else f
def sm_tal (fg fm : Nat → Int32) (gr : Int32) (f : Nat → Int32) : Nat → Nat → Int32
  | 0 => f
  | k + 1 => sm_tal1 fg fm gr k (sm_tal fg fm gr f k)
def sm_bc1 (i : Int32) : Int32 := i - ((i.toUInt32 >>> ((1 : Int32).toUInt32 &&& Int32.toUInt32 31)).toInt32 &&& 1431655765)
def sm_bc2 (i : Int32) : Int32 := (i &&& 858993459) + ((i.toUInt32 >>> ((2 : Int32).toUInt32 &&& Int32.toUInt32 31)).toInt32 &&& 858993459)
def sm_bc3 (i : Int32) : Int32 := (i + (i.toUInt32 >>> ((4 : Int32).toUInt32 &&& Int32.toUInt32 31)).toInt32) &&& 252645135
def sm_bc4 (i : Int32) : Int32 := i + (i.toUInt32 >>> ((8 : Int32).toUInt32 &&& Int32.toUInt32 31)).toInt32
def sm_bc5 (i : Int32) : Int32 := i + (i.toUInt32 >>> ((16 : Int32).toUInt32 &&& Int32.toUInt32 31)).toInt32
/-- Integer.bitCount, as its code has it -/
def sm_bc (i : Int32) : Int32 := sm_bc5 (sm_bc4 (sm_bc3 (sm_bc2 (sm_bc1 i)))) &&& 63
section SM22
variable {l : Launch} {b : Nat} {D : va_G} {cA : Nat → ClassId} {M : sm_M}
theorem c_bitCount (i : Int32) : sm_Ct l b D cA yJ6_bitCount_0f7a4 cJ6_bitCount_0f7a4 1 (some .int) 0 0 0 [.int i] M (fun r M1 => r = some (.int (sm_bc i)) ∧ M1 = M) := by
  refine sm_enter (by decide +kernel) rfl (fun _ => Nat.le_of_ble_eq_true rfl) ?_
  refine sg_iload_n dJ6_bitCount_0f7a4_0 rfl ?_
  refine sg_iload_n dJ6_bitCount_0f7a4_1 rfl ?_
  refine sg_iconst 1 dJ6_bitCount_0f7a4_2 (by decide) ?_
  refine sg_iushr dJ6_bitCount_0f7a4_3 ?_
  refine sg_ldcw _ dJ6_bitCount_0f7a4_4 kc_J6_265 ?_
  refine sg_iand dJ6_bitCount_0f7a4_7 ?_
  refine sg_isub dJ6_bitCount_0f7a4_8 ?_
  refine sg_istore_n dJ6_bitCount_0f7a4_9 (by decide) ?_
  refine sg_iload_n dJ6_bitCount_0f7a4_10 rfl ?_
  refine sg_ldcw _ dJ6_bitCount_0f7a4_11 kc_J6_266 ?_
  refine sg_iand dJ6_bitCount_0f7a4_14 ?_
  refine sg_iload_n dJ6_bitCount_0f7a4_15 rfl ?_
  refine sg_iconst 2 dJ6_bitCount_0f7a4_16 (by decide) ?_
  refine sg_iushr dJ6_bitCount_0f7a4_17 ?_
  refine sg_ldcw _ dJ6_bitCount_0f7a4_18 kc_J6_266 ?_
  refine sg_iand dJ6_bitCount_0f7a4_21 ?_
  refine sg_iadd dJ6_bitCount_0f7a4_22 ?_
  refine sg_istore_n dJ6_bitCount_0f7a4_23 (by decide) ?_
  refine sg_iload_n dJ6_bitCount_0f7a4_24 rfl ?_
  refine sg_iload_n dJ6_bitCount_0f7a4_25 rfl ?_
  refine sg_iconst 4 dJ6_bitCount_0f7a4_26 (by decide) ?_
  refine sg_iushr dJ6_bitCount_0f7a4_27 ?_
  refine sg_iadd dJ6_bitCount_0f7a4_28 ?_
  refine sg_ldcw _ dJ6_bitCount_0f7a4_29 kc_J6_267 ?_
  refine sg_iand dJ6_bitCount_0f7a4_32 ?_
  refine sg_istore_n dJ6_bitCount_0f7a4_33 (by decide) ?_
  refine sg_iload_n dJ6_bitCount_0f7a4_34 rfl ?_
  refine sg_iload_n dJ6_bitCount_0f7a4_35 rfl ?_
  refine sg_bipush 8 dJ6_bitCount_0f7a4_36 (by decide) ?_
  refine sg_iushr dJ6_bitCount_0f7a4_38 ?_
  refine sg_iadd dJ6_bitCount_0f7a4_39 ?_
  refine sg_istore_n dJ6_bitCount_0f7a4_40 (by decide) ?_
  refine sg_iload_n dJ6_bitCount_0f7a4_41 rfl ?_
  refine sg_iload_n dJ6_bitCount_0f7a4_42 rfl ?_
  refine sg_bipush 16 dJ6_bitCount_0f7a4_43 (by decide) ?_
  refine sg_iushr dJ6_bitCount_0f7a4_45 ?_
  refine sg_iadd dJ6_bitCount_0f7a4_46 ?_
  refine sg_istore_n dJ6_bitCount_0f7a4_47 (by decide) ?_
  refine sg_iload_n dJ6_bitCount_0f7a4_48 rfl ?_
  refine sg_bipush 63 dJ6_bitCount_0f7a4_49 (by decide) ?_
  refine sg_iand dJ6_bitCount_0f7a4_51 ?_
  refine sg_ireturn dJ6_bitCount_0f7a4_52 rfl (Nat.le_of_ble_eq_true rfl) (Nat.le_of_ble_eq_true rfl) ?_
  exact ⟨rfl, rfl⟩
theorem c_exchange {q g m n x z : Nat} {fg fm : Nat → Int32} {ow nm i j : Int32} (hi : i = nI x) (hj : j = nI z) (hn : n ≤ 80) (hx : x < n) (hz : z < n) (hgm : g ≠ m) (h : sm_st M q g m n fg fm ow nm) : sm_Ct l b D cA yX4_exchange cX4_exchange 5 none 1 0 0 [.ref q, .int i, .int j] M (fun r M1 => r = none ∧ sm_ex M M1 [q, g, m] ∧ sm_st M1 q g m n (upd (upd fg x (fg z)) z (fg x)) (upd (upd fm x (fm z)) z (fm x)) ow nm) := by
  subst hi
  subst hj
  obtain ⟨hq, hg, hm⟩ := h
  have hqg := sm_neoi hq hg
  have hqm := sm_neoi hq hm
  refine sm_enter (by decide +kernel) rfl (fun _ => Nat.le_of_ble_eq_true rfl) ?_
  refine sg_aload_n dX4_exchange_0 rfl ?_
  refine sg_iload_n dX4_exchange_1 rfl ?_
  refine sg_V1 dX4_exchange_2 cv_X4_28 (by first | rfl | assumption) (c_has _ (by first | rfl | assumption)) (Nat.le_of_ble_eq_true rfl) (Nat.le_of_ble_eq_true rfl) (Nat.le_of_ble_eq_true rfl) (Nat.le_of_ble_eq_true rfl) (fun r M1 hp => ?_)
  obtain ⟨rfl, rfl⟩ := hp
  refine sg_bf_eq 16 dX4_exchange_5 (by decide) (fun c => ?_) (fun c => ?_)
  · rw [nI_toInt (by omega), nI_toInt (by omega)] at c
    exact absurd (by omega) c
  · refine sg_aload_n dX4_exchange_8 rfl ?_
    refine sg_iload_n dX4_exchange_9 rfl ?_
    refine sg_V1 dX4_exchange_10 cv_X4_28 (by first | rfl | assumption) (c_has _ (by first | rfl | assumption)) (Nat.le_of_ble_eq_true rfl) (Nat.le_of_ble_eq_true rfl) (Nat.le_of_ble_eq_true rfl) (Nat.le_of_ble_eq_true rfl) (fun r M1 hp => ?_)
    obtain ⟨rfl, rfl⟩ := hp
    refine sg_bf_ne 17 dX4_exchange_13 (by decide) (fun c2 => ?_) (fun c2 => ?_)
    · refine sg_aload_n dX4_exchange_17 rfl ?_
      refine sg_get dX4_exchange_18 fl_X4_9 (by first | rfl | assumption) rfl ?_
      refine sg_iload_n dX4_exchange_21 rfl ?_
      refine sg_ald (x) dX4_exchange_22 (by first | rfl | assumption) (rfl) (by omega) (by decide) ?_
      refine sg_istore_n dX4_exchange_23 (by decide) ?_
      refine sg_aload_n dX4_exchange_24 rfl ?_
      refine sg_get dX4_exchange_25 fl_X4_15 (by first | rfl | assumption) rfl ?_
      refine sg_iload_n dX4_exchange_28 rfl ?_
      refine sg_ald (x) dX4_exchange_29 (by first | rfl | assumption) (rfl) (by omega) (by decide) ?_
      refine sg_istore dX4_exchange_30 (by decide) ?_
      refine sg_aload_n dX4_exchange_32 rfl ?_
      refine sg_get dX4_exchange_33 fl_X4_9 (by first | rfl | assumption) rfl ?_
      refine sg_iload_n dX4_exchange_36 rfl ?_
      refine sg_aload_n dX4_exchange_37 rfl ?_
      refine sg_get dX4_exchange_38 fl_X4_9 (by first | rfl | assumption) rfl ?_
      refine sg_iload_n dX4_exchange_41 rfl ?_
      refine sg_ald (z) dX4_exchange_42 (by first | rfl | assumption) (rfl) (by omega) (by decide) ?_
      refine sg_astx x dX4_exchange_43 hg rfl (by omega) (by decide) (fun M2 hx2 hg2 => ?_)
      have hq2 := (hx2.2 q (by simp [hqg])).trans hq
      have hm2 := (hx2.2 m (by simp [Ne.symm hgm])).trans hm
      refine sg_aload_n dX4_exchange_44 rfl ?_
      refine sg_get dX4_exchange_45 fl_X4_15 (by first | rfl | assumption) rfl ?_
      refine sg_iload_n dX4_exchange_48 rfl ?_
      refine sg_aload_n dX4_exchange_49 rfl ?_
      refine sg_get dX4_exchange_50 fl_X4_15 (by first | rfl | assumption) rfl ?_
      refine sg_iload_n dX4_exchange_53 rfl ?_
      refine sg_ald (z) dX4_exchange_54 (by first | rfl | assumption) (rfl) (by omega) (by decide) ?_
      refine sg_astx x dX4_exchange_55 hm2 rfl (by omega) (by decide) (fun M3 hx3 hm3 => ?_)
      have hq3 := (hx3.2 q (by simp [hqm])).trans hq2
      have hg3 := (hx3.2 g (by simp [hgm])).trans hg2
      refine sg_aload_n dX4_exchange_56 rfl ?_
      refine sg_get dX4_exchange_57 fl_X4_9 (by first | rfl | assumption) rfl ?_
      refine sg_iload_n dX4_exchange_60 rfl ?_
      refine sg_iload_n dX4_exchange_61 rfl ?_
      refine sg_astx z dX4_exchange_62 hg3 rfl (by omega) (by decide) (fun M4 hx4 hg4 => ?_)
      have hq4 := (hx4.2 q (by simp [hqg])).trans hq3
      have hm4 := (hx4.2 m (by simp [Ne.symm hgm])).trans hm3
      refine sg_aload_n dX4_exchange_63 rfl ?_
      refine sg_get dX4_exchange_64 fl_X4_15 (by first | rfl | assumption) rfl ?_
      refine sg_iload_n dX4_exchange_67 rfl ?_
      refine sg_iload dX4_exchange_68 rfl ?_
      refine sg_astx z dX4_exchange_70 hm4 rfl (by omega) (by decide) (fun M5 hx5 hm5 => ?_)
      have hq5 := (hx5.2 q (by simp [hqm])).trans hq4
      have hg5 := (hx5.2 g (by simp [hgm])).trans hg4
      refine sg_return dX4_exchange_71 rfl (Nat.le_of_ble_eq_true rfl) (Nat.le_of_ble_eq_true rfl) ?_
      exact ⟨rfl, (hx2.mono (by simp)).tr ((hx3.mono (by simp)).tr ((hx4.mono (by simp)).tr (hx5.mono (by simp)))), hq5, hg5, hm5⟩
    · rw [nI_toInt (by omega), nI_toInt (by omega)] at c2
      exact absurd (by omega) c2
/-- reverse, after t exchanges -/
def sm_rv (f : Nat → Int32) (n t : Nat) : Nat → Int32 := fun j => if j < t ∨ (n - t ≤ j ∧ j < n) then f (n - 1 - j) else f j
theorem sm_rv0 (f : Nat → Int32) (n : Nat) : sm_rv f n 0 = f := by
  funext j
  unfold sm_rv
  rw [if_neg (by omega)]
theorem sm_rvs (f : Nat → Int32) {n t : Nat} (h : 2 * t + 1 < n) : upd (upd (sm_rv f n t) t (sm_rv f n t (n - 1 - t))) (n - 1 - t) (sm_rv f n t t) = sm_rv f n (t + 1) := by
  funext j
  unfold upd sm_rv
  by_cases h1 : j = n - 1 - t
  · rw [if_pos h1, if_neg (by omega), if_pos (by omega)]
    congr 1
    omega
  · rw [if_neg h1]
    by_cases h2 : j = t
    · rw [if_pos h2, if_neg (by omega), if_pos (by omega)]
      congr 1
      omega
    · rw [if_neg h2]
      by_cases h3 : j < t ∨ (n - t ≤ j ∧ j < n)
      · rw [if_pos h3, if_pos (by omega)]
      · rw [if_neg h3, if_neg (by omega)]
theorem sm_rve (f : Nat → Int32) {n t : Nat} (h : n ≤ 2 * t + 1) (h2 : 2 * t ≤ n) : sm_rv f n t = fun j => if j < n then f (n - 1 - j) else f j := by
  funext j
  unfold sm_rv
  by_cases h3 : j < t ∨ (n - t ≤ j ∧ j < n)
  · rw [if_pos h3, if_pos (by omega)]
  · rw [if_neg h3]
    by_cases h4 : j < n
    · rw [if_pos h4]
      congr 1
      omega
    · rw [if_neg h4]
theorem lp_reverse {q g m n : Nat} {fg fm : Nat → Int32} {ow nm : Int32} {Post : Option Value → sm_M → Prop} (hn : n ≤ 80) (h1 : 1 ≤ n) (hgm : g ≠ m)
    (hP : ∀ M1 : sm_M, sm_ex M M1 [q, g, m] → sm_st M1 q g m n (fun j => if j < n then fg (n - 1 - j) else fg j) (fun j => if j < n then fm (n - 1 - j) else fm j) ow nm → Post none M1) :
    ∀ (r t : Nat) (M1 : sm_M), n ≤ 2 * t + 1 + r → 2 * t ≤ n → sm_ex M M1 [q, g, m] → sm_st M1 q g m n (sm_rv fg n t) (sm_rv fm n t) ow nm →
      sm_G l b D cA yX4_reverse cX4_reverse 3 none 2 0 0 Post 0 0 9 [some (.ref q), some (.int (nI t)), some (.int (nI n - 1 - nI t))] [] M1 := by
  intro r
  induction r with
  | zero =>
    intro t M1 ht h2 hx hs
    have hhi : (nI n - 1 - nI t).toInt = (n : Int) - 1 - t := by
      rw [show (1 : Int32) = nI 1 from by decide, pk_sub h1, pk_sub_toInt (by omega) (by omega)]
      omega
    rw [sm_rve fg ht h2, sm_rve fm ht h2] at hs
    refine sg_iload_n dX4_reverse_9 rfl ?_
    refine sg_iload_n dX4_reverse_10 rfl ?_
    refine sg_icmp_ge 37 dX4_reverse_11 (by decide) (fun c => ?_) (fun c => ?_)
    · refine sg_return dX4_reverse_37 rfl (Nat.le_of_ble_eq_true rfl) (Nat.le_of_ble_eq_true rfl) ?_
      exact hP M1 hx hs
    · rw [Int32.le_iff_toInt_le, hhi, nI_toInt (by omega)] at c
      exact absurd (by omega) c
  | succ r ih =>
    intro t M1 ht h2 hx hs
    have hhi : (nI n - 1 - nI t).toInt = (n : Int) - 1 - t := by
      rw [show (1 : Int32) = nI 1 from by decide, pk_sub h1, pk_sub_toInt (by omega) (by omega)]
      omega
    obtain ⟨hq, hg, hm⟩ := id hs
    refine sg_iload_n dX4_reverse_9 rfl ?_
    refine sg_iload_n dX4_reverse_10 rfl ?_
    refine sg_icmp_ge 37 dX4_reverse_11 (by decide) (fun c => ?_) (fun c => ?_)
    · rw [Int32.le_iff_toInt_le, hhi, nI_toInt (by omega)] at c
      rw [sm_rve fg (by omega) h2, sm_rve fm (by omega) h2] at hs
      refine sg_return dX4_reverse_37 rfl (Nat.le_of_ble_eq_true rfl) (Nat.le_of_ble_eq_true rfl) ?_
      exact hP M1 hx hs
    · rw [Int32.le_iff_toInt_le, hhi, nI_toInt (by omega)] at c
      have hhN : nI n - 1 - nI t = nI (n - 1 - t) := by
        rw [show (1 : Int32) = nI 1 from by decide, pk_sub h1, pk_sub (by omega)]
      refine sg_aload_n dX4_reverse_14 rfl ?_
      refine sg_iload_n dX4_reverse_15 rfl ?_
      refine sg_V1 dX4_reverse_16 cv_X4_28 (by first | rfl | assumption) (c_has _ (by first | rfl | assumption)) (Nat.le_of_ble_eq_true rfl) (Nat.le_of_ble_eq_true rfl) (Nat.le_of_ble_eq_true rfl) (Nat.le_of_ble_eq_true rfl) (fun r M1 hp => ?_)
      obtain ⟨rfl, rfl⟩ := hp
      refine sg_bf_eq 37 dX4_reverse_19 (by decide) (fun c2 => ?_) (fun c2 => ?_)
      · rw [hhi, nI_toInt (by omega)] at c2
        exact absurd (by omega) c2
      · refine sg_aload_n dX4_reverse_22 rfl ?_
        refine sg_iload_n dX4_reverse_23 rfl ?_
        refine sg_iload_n dX4_reverse_24 rfl ?_
        refine sg_V2 dX4_reverse_25 cv_X4_43 hq (c_exchange (x := t) (z := n - 1 - t) rfl hhN hn (by omega) (by omega) hgm hs) (Nat.le_of_ble_eq_true rfl) (Nat.le_of_ble_eq_true rfl) (Nat.le_of_ble_eq_true rfl) (Nat.le_of_ble_eq_true rfl) (fun r9 M9 hp => ?_)
        obtain ⟨rfl, hx9, hs9⟩ := hp
        rw [sm_rvs fg (by omega), sm_rvs fm (by omega)] at hs9
        refine sg_iinc _ dX4_reverse_28 rfl (sm_inc t) (by decide) ?_
        refine sg_iinc _ dX4_reverse_31 rfl (show nI n - 1 - nI t + Int32.ofInt (-1) = nI n - 1 - nI (t + 1) from by rw [nI_succ, hhN]; refine Int32.toInt_inj.mp ?_; rw [← nI_succ, show (1 : Int32) = nI 1 from by decide, pk_sub h1, pk_sub (by omega), show Int32.ofInt (-1) = (-1 : Int32) from by decide, show n - 1 - t = (n - 1 - (t + 1)) + 1 from by omega, pk_m1]) (by decide) ?_
        refine sg_goto 9 dX4_reverse_34 (by decide) ?_
        exact ih (t + 1) M9 (by omega) (by omega) (hx.tr hx9) hs9
theorem c_reverse {q g m n : Nat} {fg fm : Nat → Int32} {ow nm : Int32} (hn : n ≤ 80) (h1 : 1 ≤ n) (hgm : g ≠ m) (h : sm_st M q g m n fg fm ow nm) : sm_Ct l b D cA yX4_reverse cX4_reverse 3 none 2 0 0 [.ref q] M (fun r M1 => r = none ∧ sm_ex M M1 [q, g, m] ∧ sm_st M1 q g m n (fun j => if j < n then fg (n - 1 - j) else fg j) (fun j => if j < n then fm (n - 1 - j) else fm j) ow nm) := by
  obtain ⟨hq, hg, hm⟩ := id h
  refine sm_enter (by decide +kernel) rfl (fun _ => Nat.le_of_ble_eq_true rfl) ?_
  refine sg_iconst 0 dX4_reverse_0 (by decide) ?_
  refine sg_istore_n dX4_reverse_1 (by decide) ?_
  refine sg_aload_n dX4_reverse_2 rfl ?_
  refine sg_get dX4_reverse_3 fl_X4_18 (by first | rfl | assumption) rfl ?_
  refine sg_iconst 1 dX4_reverse_6 (by decide) ?_
  refine sg_isub dX4_reverse_7 ?_
  refine sg_istore_n dX4_reverse_8 (by decide) ?_
  have h9 := lp_reverse (l := l) (b := b) (D := D) (cA := cA) (M := M) (Post := fun r M1 => r = none ∧ sm_ex M M1 [q, g, m] ∧ sm_st M1 q g m n (fun j => if j < n then fg (n - 1 - j) else fg j) (fun j => if j < n then fm (n - 1 - j) else fm j) ow nm) hn h1 hgm (fun M1 h1 h2 => ⟨rfl, h1, h2⟩) n 0 M (by omega) (by omega) sm_ex.rf (by rw [sm_rv0, sm_rv0]; exact h)
  rw [show nI n - 1 - nI 0 = nI n - 1 from by rw [nI_0]; exact Int32.sub_zero _] at h9
  exact h9
theorem lp_least {q g m n a k : Nat} {fg fm : Nat → Int32} {ow nm : Int32} {Post : Option Value → sm_M → Prop} (hn : n ≤ 80) (hk : a + k ≤ n) (h : sm_st M q g m n fg fm ow nm) (hP : Post (some (.int (sm_least fg a k))) M) :
    ∀ (r t : Nat), t + r = k → sm_G l b D cA yX4_leastGradeWithin cX4_leastGradeWithin 5 (some .int) 1 0 0 Post 0 0 5 [some (.ref q), some (.int (nI a)), some (.int (nI k)), some (.int (sm_least fg a t)), some (.int (nI (a + t)))] [] M := by
  obtain ⟨hq, hg, hm⟩ := h
  intro r
  induction r with
  | zero =>
    intro t ht
    have e : t = k := by omega
    subst e
    refine sg_iload dX4_leastGradeWithin_5 rfl ?_
    refine sg_iload_n dX4_leastGradeWithin_7 rfl ?_
    refine sg_iload_n dX4_leastGradeWithin_8 rfl ?_
    refine sg_iadd dX4_leastGradeWithin_9 ?_
    refine sg_icmp_ge 52 dX4_leastGradeWithin_10 (by decide) (fun c => ?_) (fun c => ?_)
    · refine sg_iload_n dX4_leastGradeWithin_52 rfl ?_
      refine sg_ireturn dX4_leastGradeWithin_53 rfl (Nat.le_of_ble_eq_true rfl) (Nat.le_of_ble_eq_true rfl) ?_
      exact hP
    · rw [nI_add] at c
      exact absurd (nI_le (by omega) (by omega)) c
  | succ r ih =>
    intro t ht
    have hstep : sm_least fg a (t + 1) = if sm_least fg a t = -1 ∨ fg (a + t) < sm_least fg a t then fg (a + t) else sm_least fg a t := rfl
    have ih2 := ih (t + 1) (by omega)
    rw [hstep] at ih2
    refine sg_iload dX4_leastGradeWithin_5 rfl ?_
    refine sg_iload_n dX4_leastGradeWithin_7 rfl ?_
    refine sg_iload_n dX4_leastGradeWithin_8 rfl ?_
    refine sg_iadd dX4_leastGradeWithin_9 ?_
    refine sg_icmp_ge 52 dX4_leastGradeWithin_10 (by decide) (fun c => ?_) (fun c => ?_)
    · rw [nI_add] at c
      exact absurd c (nI_ge (by omega) (by omega))
    · refine sg_aload_n dX4_leastGradeWithin_13 rfl ?_
      refine sg_iload dX4_leastGradeWithin_14 rfl ?_
      refine sg_V1 dX4_leastGradeWithin_16 cv_X4_28 (by first | rfl | assumption) (c_has _ (by first | rfl | assumption)) (Nat.le_of_ble_eq_true rfl) (Nat.le_of_ble_eq_true rfl) (Nat.le_of_ble_eq_true rfl) (Nat.le_of_ble_eq_true rfl) (fun r M1 hp => ?_)
      obtain ⟨rfl, rfl⟩ := hp
      refine sg_bf_eq 52 dX4_leastGradeWithin_19 (by decide) (fun c2 => ?_) (fun c2 => ?_)
      · rw [nI_toInt (by omega), nI_toInt (by omega)] at c2
        exact absurd (by omega) c2
      · refine sg_iload_n dX4_leastGradeWithin_22 rfl ?_
        refine sg_iconst (-1) dX4_leastGradeWithin_23 (by decide) ?_
        refine sg_icmp_eq 38 dX4_leastGradeWithin_24 (by decide) (fun c3 => ?_) (fun c3 => ?_)
        · rw [if_pos (Or.inl c3)] at ih2
          refine sg_aload_n dX4_leastGradeWithin_38 rfl ?_
          refine sg_get dX4_leastGradeWithin_39 fl_X4_9 (by first | rfl | assumption) rfl ?_
          refine sg_iload dX4_leastGradeWithin_42 rfl ?_
          refine sg_ald (a + t) dX4_leastGradeWithin_44 (by first | rfl | assumption) (rfl) (by omega) (by decide) ?_
          refine sg_istore_n dX4_leastGradeWithin_45 (by decide) ?_
          refine sg_iinc _ dX4_leastGradeWithin_46 rfl (sm_inc (a + t)) (by decide) ?_
          refine sg_goto 5 dX4_leastGradeWithin_49 (by decide) ?_
          exact ih2
        · refine sg_aload_n dX4_leastGradeWithin_27 rfl ?_
          refine sg_get dX4_leastGradeWithin_28 fl_X4_9 (by first | rfl | assumption) rfl ?_
          refine sg_iload dX4_leastGradeWithin_31 rfl ?_
          refine sg_ald (a + t) dX4_leastGradeWithin_33 (by first | rfl | assumption) (rfl) (by omega) (by decide) ?_
          refine sg_iload_n dX4_leastGradeWithin_34 rfl ?_
          refine sg_icmp_ge 46 dX4_leastGradeWithin_35 (by decide) (fun c4 => ?_) (fun c4 => ?_)
          · rw [if_neg (fun h => h.elim c3 (fun h => absurd c4 (Int32.not_le.mpr h)))] at ih2
            refine sg_iinc _ dX4_leastGradeWithin_46 rfl (sm_inc (a + t)) (by decide) ?_
            refine sg_goto 5 dX4_leastGradeWithin_49 (by decide) ?_
            exact ih2
          · rw [if_pos (Or.inr (Int32.not_le.mp c4))] at ih2
            refine sg_aload_n dX4_leastGradeWithin_38 rfl ?_
            refine sg_get dX4_leastGradeWithin_39 fl_X4_9 (by first | rfl | assumption) rfl ?_
            refine sg_iload dX4_leastGradeWithin_42 rfl ?_
            refine sg_ald (a + t) dX4_leastGradeWithin_44 (by first | rfl | assumption) (rfl) (by omega) (by decide) ?_
            refine sg_istore_n dX4_leastGradeWithin_45 (by decide) ?_
            refine sg_iinc _ dX4_leastGradeWithin_46 rfl (sm_inc (a + t)) (by decide) ?_
            refine sg_goto 5 dX4_leastGradeWithin_49 (by decide) ?_
            exact ih2
theorem c_leastGradeWithin {q g m n a k : Nat} {fg fm : Nat → Int32} {ow nm i c : Int32} (hi : i = nI a) (hc : c = nI k) (hn : n ≤ 80) (hk : a + k ≤ n) (h : sm_st M q g m n fg fm ow nm) : sm_Ct l b D cA yX4_leastGradeWithin cX4_leastGradeWithin 5 (some .int) 1 0 0 [.ref q, .int i, .int c] M (fun r M1 => r = some (.int (sm_least fg a k)) ∧ M1 = M) := by
  subst hi
  subst hc
  refine sm_enter (by decide +kernel) rfl (fun _ => Nat.le_of_ble_eq_true rfl) ?_
  refine sg_iconst (-1) dX4_leastGradeWithin_0 (by decide) ?_
  refine sg_istore_n dX4_leastGradeWithin_1 (by decide) ?_
  refine sg_iload_n dX4_leastGradeWithin_2 rfl ?_
  refine sg_istore dX4_leastGradeWithin_3 (by decide) ?_
  exact lp_least hn hk h ⟨rfl, rfl⟩ k 0 (by omega)
theorem c_leastGrade {q g m n : Nat} {fg fm : Nat → Int32} {ow nm : Int32} (hn : n ≤ 80) (h : sm_st M q g m n fg fm ow nm) : sm_Ct l b D cA yX4_leastGrade cX4_leastGrade 1 (some .int) 2 0 0 [.ref q] M (fun r M1 => r = some (.int (sm_least fg 0 n)) ∧ M1 = M) := by
  obtain ⟨hq, hg, hm⟩ := id h
  refine sm_enter (by decide +kernel) rfl (fun _ => Nat.le_of_ble_eq_true rfl) ?_
  refine sg_aload_n dX4_leastGrade_0 rfl ?_
  refine sg_iconst 0 dX4_leastGrade_1 (by decide) ?_
  refine sg_aload_n dX4_leastGrade_2 rfl ?_
  refine sg_get dX4_leastGrade_3 fl_X4_18 (by first | rfl | assumption) rfl ?_
  refine sg_V2 dX4_leastGrade_6 cv_X4_47 hq (c_leastGradeWithin (a := 0) (k := n) nI_0.symm rfl hn (by omega) h) (Nat.le_of_ble_eq_true rfl) (Nat.le_of_ble_eq_true rfl) (Nat.le_of_ble_eq_true rfl) (Nat.le_of_ble_eq_true rfl) (fun r9 M9 hp => ?_)
  obtain ⟨rfl, e9⟩ := hp
  refine sg_ireturn dX4_leastGrade_9 rfl (Nat.le_of_ble_eq_true rfl) (Nat.le_of_ble_eq_true rfl) ?_
  exact ⟨rfl, e9⟩
end SM22
