/-! ShellMoney: payments, the tally, debts -/
def sm_filN (ln : Nat → Nat) (ow : Nat → Int32) (o : Int32) (v : Nat → Nat) : Nat → Nat → Nat
  | 0 => fun _ => 0
  | k + 1 => if 0 < ln k ∧ ow k = o then (fun j => if j = sm_own ln ow o k then v k else sm_filN ln ow o v k j) else sm_filN ln ow o v k
theorem sm_fil_N (ln : Nat → Nat) (ow : Nat → Int32) (o : Int32) {v : Nat → Int32} {u : Nat → Nat} (f : Nat → Int32) : ∀ k, (∀ i, i < k → v i = nI (u i)) → ∀ j, j < sm_own ln ow o k → sm_fil ln ow o v f k j = nI (sm_filN ln ow o u k j)
  | 0, _, j, hj => absurd hj (Nat.not_lt_zero j)
  | k + 1, hv, j, hj => by
    have ih := sm_fil_N ln ow o f k (fun i hi => hv i (by omega))
    rw [show sm_own ln ow o (k + 1) = sm_own ln ow o k + (if 0 < ln k ∧ ow k = o then 1 else 0) from rfl] at hj
    unfold sm_fil sm_filN
    by_cases h : 0 < ln k ∧ ow k = o
    · rw [if_pos h] at hj
      rw [if_pos h, if_pos h]
      unfold upd
      by_cases e : j = sm_own ln ow o k
      · rw [if_pos e, if_pos e]
        exact hv k (by omega)
      · rw [if_neg e, if_neg e]
        exact ih j (by omega)
    · rw [if_neg h] at hj
      rw [if_neg h, if_neg h]
      exact ih j hj
def sm_paid (pd : Nat → Int32) : Nat → Nat
  | 0 => 0
  | k + 1 => sm_paid pd k + (if pd k = -1 then 0 else 1)
/-- the debts: number k's object at did k -/
def sm_D (M : sm_M) (dc : Nat) (da : Nat → Option Nat) (did : Nat → Nat) (ws to gr sp pd : Nat → Int32) : Prop := ∀ k, k < dc → da k = some (did k) ∧ M[did k]? = some (sm_o 0 [.int (ws k), .int (to k), .int (gr k), .int (sp k), .int (pd k)]) ∧ 41 ≤ did k
theorem sm_D.ex {M M1 : sm_M} {dc : Nat} {da : Nat → Option Nat} {did : Nat → Nat} {ws to gr sp pd : Nat → Int32} {zs : List Nat} (h : sm_D M dc da did ws to gr sp pd) (hx : sm_ex M M1 zs) (hz : ∀ k, k < dc → did k ∉ zs) : sm_D M1 dc da did ws to gr sp pd := fun k hk => by
  obtain ⟨a, e, q⟩ := h k hk
  exact ⟨a, (hx.2 _ (hz k hk)).trans e, q⟩
section SM51
variable {l : Launch} {b : Nat} {D : va_G} {cA : Nat → ClassId} {M : sm_M}
variable {c dc : Nat} {cu it yr fame : Int32} {sa da : Nat → Option Nat} {sid ln js did : Nat → Nat} {fg fm : Nat → Nat → Int32} {ow nm : Nat → Int32} {r1 r2 r3 r4 ws to gr sp pd : Nat → Int32}
theorem c_choosePayment {n : Nat} {tot ch cs cw : Int32} {f0 g0 : Nat → Int32} {u : Nat → Nat} (o sum : Int32) (hc : c ≤ 40) (hX : sm_X M c dc cu it yr sa da) (hS : sm_S M c sa sid ln fg fm ow nm) (hr : sm_rates M r1 r2 r3 r4 fame) (hj : ∀ k, k < c → 0 < ln k → sm_least (fg k) 0 (ln k) = nI (js k) ∧ js k < 5) (hw : ∀ i, i < c → sm_wv r1 r2 r3 r4 fame ln js nm i = nI (u i)) (hn : n ≤ 12) (hu : sm_pu M n tot ch cs cw f0 g0) : sm_Ct l b D cA yX6_choosePayment cX6_choosePayment 3 (some .int) 5 0 0 [.ref 0, .int o, .int sum] M (fun r M1 => sm_ex M M1 [13, 14, 15] ∧ (∃ (n : Nat) (tot ch cs cw : Int32) (f g : Nat → Int32), n ≤ 12 ∧ sm_pu M1 n tot ch cs cw f g) ∧ (¬ ((0 ≤ o.toInt ∧ o.toInt < 10) ∧ (1 ≤ sum.toInt ∧ sum.toInt ≤ 1000000) ∧ sm_own ln ow o c ≤ 12) → r = some (.int (-1))) ∧ (((0 ≤ o.toInt ∧ o.toInt < 10) ∧ (1 ≤ sum.toInt ∧ sum.toInt ≤ 1000000) ∧ sm_own ln ow o c ≤ 12) → (sm_tot ln ow o (sm_wv r1 r2 r3 r4 fame ln js nm) c < sum → r = some (.int (-2))) ∧ (¬ sm_tot ln ow o (sm_wv r1 r2 r3 r4 fame ln js nm) c < sum → r = some (.int (sm_pick (sm_filN ln ow o u c) (sm_own ln ow o c) sum (2 ^ sm_own ln ow o c - 1)).2.2) ∧ sm_pu M1 (sm_own ln ow o c) (sm_tot ln ow o (sm_wv r1 r2 r3 r4 fame ln js nm) c) (sm_pick (sm_filN ln ow o u c) (sm_own ln ow o c) sum (2 ^ sm_own ln ow o c - 1)).1 (sm_pick (sm_filN ln ow o u c) (sm_own ln ow o c) sum (2 ^ sm_own ln ow o c - 1)).2.1 (sm_pick (sm_filN ln ow o u c) (sm_own ln ow o c) sum (2 ^ sm_own ln ow o c - 1)).2.2 (sm_fil ln ow o (fun k => nI k) f0 c) (sm_fil ln ow o (sm_wv r1 r2 r3 r4 fame ln js nm) g0 c)))) := by
  have h0 := hX.1
  refine sm_enter (by decide +kernel) rfl (fun _ => Nat.le_of_ble_eq_true rfl) ?_
  refine sg_iload_n dX6_choosePayment_0 rfl ?_
  refine sg_S1 dX6_choosePayment_1 cs_X6_69 (c_isOwner _) (Nat.le_of_ble_eq_true rfl) (Nat.le_of_ble_eq_true rfl) (Nat.le_of_ble_eq_true rfl) (Nat.le_of_ble_eq_true rfl) (fun r M1 hp => ?_)
  obtain ⟨rfl, rfl⟩ := hp
  refine sg_bf_eq 27 dX6_choosePayment_4 (by decide) (fun c1 => ?_) (fun c1 => ?_)
  · refine sg_iconst (-1) dX6_choosePayment_27 (by decide) ?_
    refine sg_ireturn dX6_choosePayment_28 rfl (Nat.le_of_ble_eq_true rfl) (Nat.le_of_ble_eq_true rfl) ?_
    exact ⟨sm_ex.rf, ⟨_, _, _, _, _, _, _, hn, hu⟩, fun _ => rfl, fun q => absurd q.1 c1⟩
  · refine sg_iload_n dX6_choosePayment_7 rfl ?_
    refine sg_iconst 1 dX6_choosePayment_8 (by decide) ?_
    refine sg_icmp_lt 27 dX6_choosePayment_9 (by decide) (fun c2 => ?_) (fun c2 => ?_)
    · simp only [Int32.lt_iff_toInt_lt, ti_1] at c2
      refine sg_iconst (-1) dX6_choosePayment_27 (by decide) ?_
      refine sg_ireturn dX6_choosePayment_28 rfl (Nat.le_of_ble_eq_true rfl) (Nat.le_of_ble_eq_true rfl) ?_
      exact ⟨sm_ex.rf, ⟨_, _, _, _, _, _, _, hn, hu⟩, fun _ => rfl, fun q => by omega⟩
    · simp only [Int32.lt_iff_toInt_lt, ti_1] at c2
      refine sg_iload_n dX6_choosePayment_12 rfl ?_
      refine sg_ldcw _ dX6_choosePayment_13 kc_X6_284 ?_
      refine sg_icmp_gt 27 dX6_choosePayment_16 (by decide) (fun c3 => ?_) (fun c3 => ?_)
      · simp only [Int32.lt_iff_toInt_lt, ti_1000000] at c3
        refine sg_iconst (-1) dX6_choosePayment_27 (by decide) ?_
        refine sg_ireturn dX6_choosePayment_28 rfl (Nat.le_of_ble_eq_true rfl) (Nat.le_of_ble_eq_true rfl) ?_
        exact ⟨sm_ex.rf, ⟨_, _, _, _, _, _, _, hn, hu⟩, fun _ => rfl, fun q => by omega⟩
      · simp only [Int32.lt_iff_toInt_lt, ti_1000000] at c3
        refine sg_aload_n dX6_choosePayment_19 rfl ?_
        refine sg_iload_n dX6_choosePayment_20 rfl ?_
        refine sg_V1 dX6_choosePayment_21 cv_X6_285 h0 (c_fillPurse o hc hX hS hr hj hu) (Nat.le_of_ble_eq_true rfl) (Nat.le_of_ble_eq_true rfl) (Nat.le_of_ble_eq_true rfl) (Nat.le_of_ble_eq_true rfl) (fun r9 M9 hp => ?_)
        obtain ⟨rfl, x9, p1, n9, t9, f9, g9, hn9, u9⟩ := hp
        refine sg_bf_ne 29 dX6_choosePayment_24 (by decide) (fun c4 => ?_) (fun c4 => ?_)
        · have hu1 := p1 c4
          have X1 := hX.ex x9 (by decide)
          have k0 := X1.1
          have k13 := hu1.1
          refine sg_aload_n dX6_choosePayment_29 rfl ?_
          refine sg_get dX6_choosePayment_30 fl_X6_40 (by first | rfl | assumption) rfl ?_
          refine sg_get dX6_choosePayment_33 fl_X6_288 (by first | rfl | assumption) rfl ?_
          refine sg_iload_n dX6_choosePayment_36 rfl ?_
          refine sg_icmp_ge 43 dX6_choosePayment_37 (by decide) (fun c5 => ?_) (fun c5 => ?_)
          · refine sg_aload_n dX6_choosePayment_43 rfl ?_
            refine sg_get dX6_choosePayment_44 fl_X6_40 (by first | rfl | assumption) rfl ?_
            refine sg_iload_n dX6_choosePayment_47 rfl ?_
            refine sg_V1 dX6_choosePayment_48 cv_X6_291 k13 (c_choose (w := sm_filN ln ow o u c) sum c4 (fun k hk => sm_fil_N ln ow o g0 c hw k hk) hu1) (Nat.le_of_ble_eq_true rfl) (Nat.le_of_ble_eq_true rfl) (Nat.le_of_ble_eq_true rfl) (Nat.le_of_ble_eq_true rfl) (fun r8 M8 hp => ?_)
            obtain ⟨rfl, x8, u8⟩ := hp
            have X8 := X1.ex x8 (by decide)
            have z0 := X8.1
            have z13 := u8.1
            refine sg_aload_n dX6_choosePayment_51 rfl ?_
            refine sg_get dX6_choosePayment_52 fl_X6_40 (by first | rfl | assumption) rfl ?_
            refine sg_get dX6_choosePayment_55 fl_X6_294 (by first | rfl | assumption) rfl ?_
            refine sg_ireturn dX6_choosePayment_58 rfl (Nat.le_of_ble_eq_true rfl) (Nat.le_of_ble_eq_true rfl) ?_
            exact ⟨x9.tr (x8.mono (by decide)), ⟨_, _, _, _, _, _, _, c4, u8⟩, fun q => absurd ⟨c1, ⟨by omega, by omega⟩, c4⟩ q, fun _ => ⟨fun q => absurd c5 (Int32.not_le.mpr q), fun _ => ⟨rfl, u8⟩⟩⟩
          · refine sg_bipush (-2) dX6_choosePayment_40 (by decide) ?_
            refine sg_ireturn dX6_choosePayment_42 rfl (Nat.le_of_ble_eq_true rfl) (Nat.le_of_ble_eq_true rfl) ?_
            exact ⟨x9, ⟨_, _, _, _, _, _, _, c4, hu1⟩, fun q => absurd ⟨c1, ⟨by omega, by omega⟩, c4⟩ q, fun _ => ⟨fun _ => rfl, fun q => absurd (Int32.not_le.mp c5) q⟩⟩
        · refine sg_iconst (-1) dX6_choosePayment_27 (by decide) ?_
          refine sg_ireturn dX6_choosePayment_28 rfl (Nat.le_of_ble_eq_true rfl) (Nat.le_of_ble_eq_true rfl) ?_
          exact ⟨x9, ⟨_, _, _, _, _, _, _, hn9, u9⟩, fun _ => rfl, fun q => absurd q.2.2 c4⟩
theorem lp_paidCount {Post : Option Value → sm_M → Prop} (hc : dc ≤ 60) (hX : sm_X M c dc cu it yr sa da) (hD : sm_D M dc da did ws to gr sp pd) (hP : Post (some (.int (nI (sm_paid pd dc)))) M) :
    ∀ (r k : Nat) (w : Option Value), k + r = dc → sm_G l b D cA yX6_paidCount cX6_paidCount 4 (some .int) 1 0 0 Post 0 0 4 [some (.ref 0), some (.int (nI (sm_paid pd k))), some (.int (nI k)), w] [] M := by
  have h0 := hX.1
  intro r
  induction r with
  | zero =>
    intro k w hk
    have e : k = dc := by omega
    subst e
    refine sg_iload_n dX6_paidCount_4 rfl ?_
    refine sg_aload_n dX6_paidCount_5 rfl ?_
    refine sg_get dX6_paidCount_6 fl_X6_50 (by first | rfl | assumption) rfl ?_
    refine sg_icmp_ge 38 dX6_paidCount_9 (by decide) (fun c1 => ?_) (fun c1 => ?_)
    · refine sg_iload_n dX6_paidCount_38 rfl ?_
      refine sg_ireturn dX6_paidCount_39 rfl (Nat.le_of_ble_eq_true rfl) (Nat.le_of_ble_eq_true rfl) ?_
      exact hP
    · exact absurd (nI_le (Nat.le_refl _) (by omega)) c1
  | succ r ih =>
    intro k w hk
    obtain ⟨hda, hq, h41⟩ := hD k (by omega)
    have ih2 := ih (k + 1)
    rw [show sm_paid pd (k + 1) = sm_paid pd k + (if pd k = -1 then 0 else 1) from rfl] at ih2
    refine sg_iload_n dX6_paidCount_4 rfl ?_
    refine sg_aload_n dX6_paidCount_5 rfl ?_
    refine sg_get dX6_paidCount_6 fl_X6_50 (by first | rfl | assumption) rfl ?_
    refine sg_icmp_ge 38 dX6_paidCount_9 (by decide) (fun c1 => ?_) (fun c1 => ?_)
    · exact absurd c1 (nI_ge (by omega) (by omega))
    · refine sg_aload_n dX6_paidCount_12 rfl ?_
      refine sg_iload_n dX6_paidCount_13 rfl ?_
      refine sg_V1 dX6_paidCount_14 cv_X6_220 h0 (c_debtAt_y k rfl (by omega) hc hda hX) (Nat.le_of_ble_eq_true rfl) (Nat.le_of_ble_eq_true rfl) (Nat.le_of_ble_eq_true rfl) (Nat.le_of_ble_eq_true rfl) (fun r9 M9 hp => ?_)
      obtain ⟨rfl, e9⟩ := hp
      rw [e9]
      refine sg_astore_n dX6_paidCount_17 (by decide) ?_
      refine sg_aload_n dX6_paidCount_18 rfl ?_
      refine sg_ifnull dX6_paidCount_19 ?_
      refine sg_aload_n dX6_paidCount_22 rfl ?_
      refine sg_V0 dX6_paidCount_23 cv_X6_224 hq (c_isPaid hq) (Nat.le_of_ble_eq_true rfl) (Nat.le_of_ble_eq_true rfl) (Nat.le_of_ble_eq_true rfl) (Nat.le_of_ble_eq_true rfl) (fun r9 M9 hp => ?_)
      obtain ⟨rfl, e9⟩ := hp
      rw [e9]
      by_cases hz : pd k = -1
      · rw [if_pos hz] at ih2 ⊢
        refine sg_if_eq 32 dX6_paidCount_26 (by decide) (fun c2 => ?_) (fun c2 => ?_)
        · refine sg_iinc _ dX6_paidCount_32 rfl (sm_inc k) (by decide) ?_
          refine sg_goto 4 dX6_paidCount_35 (by decide) ?_
          exact ih2 _ (by omega)
        · exact absurd rfl c2
      · rw [if_neg hz] at ih2 ⊢
        refine sg_if_eq 32 dX6_paidCount_26 (by decide) (fun c2 => ?_) (fun c2 => ?_)
        · exact absurd c2 (by decide)
        · refine sg_iinc _ dX6_paidCount_29 rfl (sm_inc _) (by decide) ?_
          refine sg_iinc _ dX6_paidCount_32 rfl (sm_inc k) (by decide) ?_
          refine sg_goto 4 dX6_paidCount_35 (by decide) ?_
          exact ih2 _ (by omega)
theorem c_paidCount (hc : dc ≤ 60) (hX : sm_X M c dc cu it yr sa da) (hD : sm_D M dc da did ws to gr sp pd) : sm_Ct l b D cA yX6_paidCount cX6_paidCount 4 (some .int) 1 0 0 [.ref 0] M (fun r M1 => r = some (.int (nI (sm_paid pd dc))) ∧ M1 = M) := by
  refine sm_enter (by decide +kernel) rfl (fun _ => Nat.le_of_ble_eq_true rfl) ?_
  refine sg_iconst (nI 0) dX6_paidCount_0 (by decide) ?_
  refine sg_istore_n dX6_paidCount_1 (by decide) ?_
  refine sg_iconst (nI 0) dX6_paidCount_2 (by decide) ?_
  refine sg_istore_n dX6_paidCount_3 (by decide) ?_
  exact lp_paidCount hc hX hD ⟨rfl, rfl⟩ dc 0 _ (by omega)
/-- the row that is counted in begins with zeros -/
theorem lp_tal0 {f : Nat → Int32} {gr : Int32} {Post : Option Value → sm_M → Prop} (hX : sm_X M c dc cu it yr sa da)
    (hP : ∀ (M1 : sm_M) (w : Option Value) (g : Nat → Int32), sm_ex M M1 [2] → M1[2]? = some (sm_i 10 g) → (∀ j, j < 10 → g j = 0) → sm_G l b D cA yX6_tallyMakersBelow cX6_tallyMakersBelow 4 none 3 0 0 Post 0 0 21 [some (.ref 0), some (.int gr), some (.int (nI 10)), w] [] M1) :
    ∀ (r t : Nat) (w : Option Value) (M1 : sm_M) (g : Nat → Int32), t + r = 10 → sm_ex M M1 [2] → M1[2]? = some (sm_i 10 g) → (∀ j, j < t → g j = 0) → sm_G l b D cA yX6_tallyMakersBelow cX6_tallyMakersBelow 4 none 3 0 0 Post 0 0 2 [some (.ref 0), some (.int gr), some (.int (nI t)), w] [] M1 := by
  intro r
  induction r with
  | zero =>
    intro t w M1 g ht hx hg hz
    have e : t = 10 := by omega
    subst e
    refine sg_iload_n dX6_tallyMakersBelow_2 rfl ?_
    refine sg_bipush 10 dX6_tallyMakersBelow_3 (by decide) ?_
    refine sg_icmp_ge 21 dX6_tallyMakersBelow_5 (by decide) (fun c1 => ?_) (fun c1 => ?_)
    · exact hP M1 w g hx hg hz
    · exact absurd (by decide) c1
  | succ r ih =>
    intro t w M1 g ht hx hg hz
    have h0 := (hX.ex hx (by decide)).1
    refine sg_iload_n dX6_tallyMakersBelow_2 rfl ?_
    refine sg_bipush 10 dX6_tallyMakersBelow_3 (by decide) ?_
    refine sg_icmp_ge 21 dX6_tallyMakersBelow_5 (by decide) (fun c1 => ?_) (fun c1 => ?_)
    · rw [Int32.le_iff_toInt_le, nI_toInt (by omega), ti_10] at c1
      exact absurd c1 (by omega)
    · refine sg_aload_n dX6_tallyMakersBelow_8 rfl ?_
      refine sg_get dX6_tallyMakersBelow_9 fl_X6_19 (by first | rfl | assumption) rfl ?_
      refine sg_iload_n dX6_tallyMakersBelow_12 rfl ?_
      refine sg_iconst 0 dX6_tallyMakersBelow_13 (by decide) ?_
      refine sg_astx t dX6_tallyMakersBelow_14 hg rfl (by omega) (by decide) (fun M2 x2 g2 => ?_)
      refine sg_iinc _ dX6_tallyMakersBelow_15 rfl (sm_inc t) (by decide) ?_
      refine sg_goto 2 dX6_tallyMakersBelow_18 (by decide) ?_
      refine ih (t + 1) _ M2 _ (by omega) (hx.tr x2) g2 (fun j hj => ?_)
      by_cases e : j = t
      · rw [e, sm_upeq]
      · rw [sm_upne _ _ e]
        exact hz j (by omega)
theorem lp_tal1 {g0 : Nat → Int32} {gr : Int32} {Post : Option Value → sm_M → Prop} (hc : c ≤ 40) (hX : sm_X M c dc cu it yr sa da) (hS : sm_S M c sa sid ln fg fm ow nm)
    (hP : ∀ M1 : sm_M, sm_ex M M1 [2] → M1[2]? = some (sm_i 10 (sm_tall fg fm ln gr g0 c)) → Post none M1) :
    ∀ (r k : Nat) (w : Option Value) (M1 : sm_M), k + r = c → sm_ex M M1 [2] → M1[2]? = some (sm_i 10 (sm_tall fg fm ln gr g0 k)) → sm_G l b D cA yX6_tallyMakersBelow cX6_tallyMakersBelow 4 none 3 0 0 Post 0 0 23 [some (.ref 0), some (.int gr), some (.int (nI k)), w] [] M1 := by
  intro r
  induction r with
  | zero =>
    intro k w M1 hk hx hg
    have e : k = c := by omega
    subst e
    have h0 := (hX.ex hx (by decide)).1
    refine sg_iload_n dX6_tallyMakersBelow_23 rfl ?_
    refine sg_aload_n dX6_tallyMakersBelow_24 rfl ?_
    refine sg_get dX6_tallyMakersBelow_25 fl_X6_15 (by first | rfl | assumption) rfl ?_
    refine sg_icmp_ge 56 dX6_tallyMakersBelow_28 (by decide) (fun c1 => ?_) (fun c1 => ?_)
    · refine sg_return dX6_tallyMakersBelow_56 rfl (Nat.le_of_ble_eq_true rfl) (Nat.le_of_ble_eq_true rfl) ?_
      exact hP M1 hx hg
    · exact absurd (nI_le (Nat.le_refl _) (by omega)) c1
  | succ r ih =>
    intro k w M1 hk hx hg
    have X1 := hX.ex hx (by decide)
    have h0 := X1.1
    obtain ⟨hsa, hst, hl80, h41⟩ := (hS.ex hx (by decide)) k (by omega)
    have hq := hst.1
    refine sg_iload_n dX6_tallyMakersBelow_23 rfl ?_
    refine sg_aload_n dX6_tallyMakersBelow_24 rfl ?_
    refine sg_get dX6_tallyMakersBelow_25 fl_X6_15 (by first | rfl | assumption) rfl ?_
    refine sg_icmp_ge 56 dX6_tallyMakersBelow_28 (by decide) (fun c1 => ?_) (fun c1 => ?_)
    · exact absurd c1 (nI_ge (by omega) (by omega))
    · refine sg_aload_n dX6_tallyMakersBelow_31 rfl ?_
      refine sg_iload_n dX6_tallyMakersBelow_32 rfl ?_
      refine sg_V1 dX6_tallyMakersBelow_33 cv_X6_143 h0 (c_strandAt_y k rfl (by omega) hc hsa X1) (Nat.le_of_ble_eq_true rfl) (Nat.le_of_ble_eq_true rfl) (Nat.le_of_ble_eq_true rfl) (Nat.le_of_ble_eq_true rfl) (fun r9 M9 hp => ?_)
      obtain ⟨rfl, e9⟩ := hp
      rw [e9]
      refine sg_astore_n dX6_tallyMakersBelow_36 (by decide) ?_
      refine sg_aload_n dX6_tallyMakersBelow_37 rfl ?_
      refine sg_ifnull dX6_tallyMakersBelow_38 ?_
      refine sg_aload_n dX6_tallyMakersBelow_41 rfl ?_
      refine sg_iload_n dX6_tallyMakersBelow_42 rfl ?_
      refine sg_aload_n dX6_tallyMakersBelow_43 rfl ?_
      refine sg_get dX6_tallyMakersBelow_44 fl_X6_19 (by first | rfl | assumption) rfl ?_
      refine sg_V2 dX6_tallyMakersBelow_47 cv_X6_275 hq (c_tally gr hl80 hst (by simp only [List.mem_cons, List.not_mem_nil, or_false]; omega) hg) (Nat.le_of_ble_eq_true rfl) (Nat.le_of_ble_eq_true rfl) (Nat.le_of_ble_eq_true rfl) (Nat.le_of_ble_eq_true rfl) (fun r9 M9 hp => ?_)
      obtain ⟨rfl, x9, g9⟩ := hp
      refine sg_iinc _ dX6_tallyMakersBelow_50 rfl (sm_inc k) (by decide) ?_
      refine sg_goto 23 dX6_tallyMakersBelow_53 (by decide) ?_
      exact ih (k + 1) _ M9 (by omega) (hx.tr x9) g9
theorem c_tallyAll {f : Nat → Int32} (gr : Int32) (hc : c ≤ 40) (hX : sm_X M c dc cu it yr sa da) (hS : sm_S M c sa sid ln fg fm ow nm) (hf : M[2]? = some (sm_i 10 f)) : sm_Ct l b D cA yX6_tallyMakersBelow cX6_tallyMakersBelow 4 none 3 0 0 [.ref 0, .int gr] M (fun r M1 => r = none ∧ sm_ex M M1 [2] ∧ ∃ g : Nat → Int32, (∀ j, j < 10 → g j = 0) ∧ M1[2]? = some (sm_i 10 (sm_tall fg fm ln gr g c))) := by
  refine sm_enter (by decide +kernel) rfl (fun _ => Nat.le_of_ble_eq_true rfl) ?_
  refine sg_iconst (nI 0) dX6_tallyMakersBelow_0 (by decide) ?_
  refine sg_istore_n dX6_tallyMakersBelow_1 (by decide) ?_
  refine lp_tal0 (M := M) (f := f) hX (fun M1 w g x1 g1 z1 => ?_) 10 0 _ M f (by omega) sm_ex.rf hf (fun j hj => absurd hj (Nat.not_lt_zero j))
  refine sg_iconst (nI 0) dX6_tallyMakersBelow_21 (by decide) ?_
  refine sg_istore_n dX6_tallyMakersBelow_22 (by decide) ?_
  exact lp_tal1 (M := M1) (g0 := g) hc (hX.ex x1 (by decide)) (hS.ex x1 (by decide)) (fun M2 x2 g2 => ⟨rfl, x1.tr x2, g, z1, g2⟩) c 0 w M1 (by omega) sm_ex.rf g1
/-- the first of the makers with most beads -/
def sm_blm (f : Nat → Int32) : Nat → Int32 × Int32
  | 0 => (-1, 0)
  | k + 1 => if f k ≤ (sm_blm f k).2 then sm_blm f k else (nI k, f k)
theorem lp_blame {f : Nat → Int32} {gr : Int32} {Post : Option Value → sm_M → Prop} (hX : sm_X M c dc cu it yr sa da) (hf : M[2]? = some (sm_i 10 f)) (hP : Post (some (.int (sm_blm f 10).1)) M) :
    ∀ (r t : Nat), t + r = 10 → sm_G l b D cA yX6_blame cX6_blame 5 (some .int) 4 0 0 Post 0 0 21 [some (.ref 0), some (.int gr), some (.int (sm_blm f t).1), some (.int (sm_blm f t).2), some (.int (nI t))] [] M := by
  have h0 := hX.1
  intro r
  induction r with
  | zero =>
    intro t ht
    have e : t = 10 := by omega
    subst e
    refine sg_iload dX6_blame_21 rfl ?_
    refine sg_bipush 10 dX6_blame_23 (by decide) ?_
    refine sg_icmp_ge 56 dX6_blame_25 (by decide) (fun c1 => ?_) (fun c1 => ?_)
    · refine sg_iload_n dX6_blame_56 rfl ?_
      refine sg_ireturn dX6_blame_57 rfl (Nat.le_of_ble_eq_true rfl) (Nat.le_of_ble_eq_true rfl) ?_
      exact hP
    · exact absurd (by decide) c1
  | succ r ih =>
    intro t ht
    have ih2 := ih (t + 1) (by omega)
    rw [show sm_blm f (t + 1) = if f t ≤ (sm_blm f t).2 then sm_blm f t else (nI t, f t) from rfl] at ih2
    refine sg_iload dX6_blame_21 rfl ?_
    refine sg_bipush 10 dX6_blame_23 (by decide) ?_
    refine sg_icmp_ge 56 dX6_blame_25 (by decide) (fun c1 => ?_) (fun c1 => ?_)
    · rw [Int32.le_iff_toInt_le, nI_toInt (by omega), ti_10] at c1
      exact absurd c1 (by omega)
    · refine sg_aload_n dX6_blame_28 rfl ?_
      refine sg_get dX6_blame_29 fl_X6_19 (by first | rfl | assumption) rfl ?_
      refine sg_iload dX6_blame_32 rfl ?_
      refine sg_ald (t) dX6_blame_34 (by first | rfl | assumption) (rfl) (by omega) (by decide) ?_
      refine sg_iload_n dX6_blame_35 rfl ?_
      refine sg_icmp_le 50 dX6_blame_36 (by decide) (fun c2 => ?_) (fun c2 => ?_)
      · rw [if_pos c2] at ih2
        refine sg_iinc _ dX6_blame_50 rfl (sm_inc t) (by decide) ?_
        refine sg_goto 21 dX6_blame_53 (by decide) ?_
        exact ih2
      · rw [if_neg c2] at ih2
        refine sg_aload_n dX6_blame_39 rfl ?_
        refine sg_get dX6_blame_40 fl_X6_19 (by first | rfl | assumption) rfl ?_
        refine sg_iload dX6_blame_43 rfl ?_
        refine sg_ald (t) dX6_blame_45 (by first | rfl | assumption) (rfl) (by omega) (by decide) ?_
        refine sg_istore_n dX6_blame_46 (by decide) ?_
        refine sg_iload dX6_blame_47 rfl ?_
        refine sg_istore_n dX6_blame_49 (by decide) ?_
        refine sg_iinc _ dX6_blame_50 rfl (sm_inc t) (by decide) ?_
        refine sg_goto 21 dX6_blame_53 (by decide) ?_
        exact ih2
theorem c_blame {f : Nat → Int32} (gr : Int32) (hc : c ≤ 40) (hX : sm_X M c dc cu it yr sa da) (hS : sm_S M c sa sid ln fg fm ow nm) (hf : M[2]? = some (sm_i 10 f)) : sm_Ct l b D cA yX6_blame cX6_blame 5 (some .int) 4 0 0 [.ref 0, .int gr] M (fun r M1 => sm_ex M M1 [2] ∧ (∃ f2 : Nat → Int32, M1[2]? = some (sm_i 10 f2)) ∧ (¬ (0 ≤ gr.toInt ∧ gr.toInt < 5) → r = some (.int (-1))) ∧ ((0 ≤ gr.toInt ∧ gr.toInt < 5) → ∃ g : Nat → Int32, (∀ j, j < 10 → g j = 0) ∧ r = some (.int (sm_blm (sm_tall fg fm ln gr g c) 10).1))) := by
  have h0 := hX.1
  refine sm_enter (by decide +kernel) rfl (fun _ => Nat.le_of_ble_eq_true rfl) ?_
  refine sg_iload_n dX6_blame_0 rfl ?_
  refine sg_S1 dX6_blame_1 cs_X6_197 (c_isGrade _) (Nat.le_of_ble_eq_true rfl) (Nat.le_of_ble_eq_true rfl) (Nat.le_of_ble_eq_true rfl) (Nat.le_of_ble_eq_true rfl) (fun r M1 hp => ?_)
  obtain ⟨rfl, rfl⟩ := hp
  refine sg_bf_ne 9 dX6_blame_4 (by decide) (fun c1 => ?_) (fun c1 => ?_)
  · refine sg_aload_n dX6_blame_9 rfl ?_
    refine sg_iload_n dX6_blame_10 rfl ?_
    refine sg_V1 dX6_blame_11 cv_X6_206 h0 (c_tallyAll gr hc hX hS hf) (Nat.le_of_ble_eq_true rfl) (Nat.le_of_ble_eq_true rfl) (Nat.le_of_ble_eq_true rfl) (Nat.le_of_ble_eq_true rfl) (fun r9 M9 hp => ?_)
    obtain ⟨rfl, x9, g, z9, g9⟩ := hp
    refine sg_iconst (-1) dX6_blame_14 (by decide) ?_
    refine sg_istore_n dX6_blame_15 (by decide) ?_
    refine sg_iconst 0 dX6_blame_16 (by decide) ?_
    refine sg_istore_n dX6_blame_17 (by decide) ?_
    refine sg_iconst (nI 0) dX6_blame_18 (by decide) ?_
    refine sg_istore dX6_blame_19 (by decide) ?_
    exact lp_blame (M := M9) (hX.ex x9 (by decide)) g9 ⟨x9, ⟨_, g9⟩, fun q => absurd c1 q, fun _ => ⟨g, z9, rfl⟩⟩ 10 0 (by omega)
  · refine sg_iconst (-1) dX6_blame_7 (by decide) ?_
    refine sg_ireturn dX6_blame_8 rfl (Nat.le_of_ble_eq_true rfl) (Nat.le_of_ble_eq_true rfl) ?_
    exact ⟨sm_ex.rf, ⟨_, hf⟩, fun _ => rfl, fun q => absurd q c1⟩
end SM51
