/-! ShellMoney: loops over the strands -/
/-- the strands: number k's object at sid k, its rows behind it -/
def sm_S (M : sm_M) (c : Nat) (sa : Nat → Option Nat) (sid ln : Nat → Nat) (fg fm : Nat → Nat → Int32) (ow nm : Nat → Int32) : Prop := ∀ k, k < c → sa k = some (sid k) ∧ sm_st M (sid k) (sid k + 1) (sid k + 2) (ln k) (fg k) (fm k) (ow k) (nm k) ∧ ln k ≤ 80 ∧ 41 ≤ sid k
theorem sm_S.ex {M M1 : sm_M} {c : Nat} {sa : Nat → Option Nat} {sid ln : Nat → Nat} {fg fm : Nat → Nat → Int32} {ow nm : Nat → Int32} {zs : List Nat} (h : sm_S M c sa sid ln fg fm ow nm) (hx : sm_ex M M1 zs) (hz : ∀ z ∈ zs, z < 41) : sm_S M1 c sa sid ln fg fm ow nm := fun k hk => by
  obtain ⟨a, st, n, q⟩ := h k hk
  exact ⟨a, st.ex hx (fun z => absurd (hz _ z) (by omega)) (fun z => absurd (hz _ z) (by omega)) (fun z => absurd (hz _ z) (by omega)), n, q⟩
def sm_nmd (nm : Nat → Int32) (x : Int32) : Nat → Nat → Int32
  | 0, _ => -1
  | r + 1, k => if nm k = x then nI k else sm_nmd nm x r (k + 1)
def sm_gone (ln : Nat → Nat) : Nat → Nat
  | 0 => 0
  | k + 1 => sm_gone ln k + (if ln k = 0 then 1 else 0)
def sm_rsum (ow : Nat → Int32) (o : Int32) (wv : Nat → Int32) : Nat → Int32
  | 0 => 0
  | k + 1 => if ow k = o then sm_rsum ow o wv k + wv k else sm_rsum ow o wv k
/-- a strand's worth in the class -/
def sm_wv (r1 r2 r3 r4 : Nat → Int32) (fame : Int32) (ln js : Nat → Nat) (nm : Nat → Int32) (k : Nat) : Int32 := if ln k = 0 then 0 else sm_wbl r1 r2 r3 r4 (js k) (nI (ln k)) + (if nm k = 0 then 0 else fame)
def sm_tall (fg fm : Nat → Nat → Int32) (ln : Nat → Nat) (gr : Int32) (f : Nat → Int32) : Nat → Nat → Int32
  | 0 => f
  | k + 1 => sm_tal (fg k) (fm k) gr (sm_tall fg fm ln gr f k) (ln k)
def sm_own (ln : Nat → Nat) (ow : Nat → Int32) (o : Int32) : Nat → Nat
  | 0 => 0
  | k + 1 => sm_own ln ow o k + (if 0 < ln k ∧ ow k = o then 1 else 0)
def sm_tot (ln : Nat → Nat) (ow : Nat → Int32) (o : Int32) (wv : Nat → Int32) : Nat → Int32
  | 0 => 0
  | k + 1 => if 0 < ln k ∧ ow k = o then sm_tot ln ow o wv k + wv k else sm_tot ln ow o wv k
/-- what is written for the living strands of an owner, one behind another -/
def sm_fil (ln : Nat → Nat) (ow : Nat → Int32) (o : Int32) (v : Nat → Int32) (f : Nat → Int32) : Nat → Nat → Int32
  | 0 => f
  | k + 1 => if 0 < ln k ∧ ow k = o then upd (sm_fil ln ow o v f k) (sm_own ln ow o k) (v k) else sm_fil ln ow o v f k
theorem sm_own_mono (ln : Nat → Nat) (ow : Nat → Int32) (o : Int32) {a b : Nat} (h : a ≤ b) : sm_own ln ow o a ≤ sm_own ln ow o b := by
  induction b with
  | zero => rw [show a = 0 by omega]; exact Nat.le_refl _
  | succ b ih =>
    by_cases hb : a = b + 1
    · rw [hb]; exact Nat.le_refl _
    · exact Nat.le_trans (ih (by omega)) (Nat.le_add_right _ _)
section SM50
variable {l : Launch} {b : Nat} {D : va_G} {cA : Nat → ClassId} {M : sm_M}
variable {c dc : Nat} {cu it yr fame : Int32} {sa da : Nat → Option Nat} {sid ln js : Nat → Nat} {fg fm : Nat → Nat → Int32} {ow nm : Nat → Int32} {r1 r2 r3 r4 : Nat → Int32}
theorem lp_named {x : Int32} {Post : Option Value → sm_M → Prop} (hc : c ≤ 40) (hX : sm_X M c dc cu it yr sa da) (hS : sm_S M c sa sid ln fg fm ow nm) :
    ∀ (r k : Nat) (w : Option Value), k + r = c → Post (some (.int (sm_nmd nm x r k))) M → sm_G l b D cA yX6_named cX6_named 4 (some .int) 1 0 0 Post 0 0 11 [some (.ref 0), some (.int x), some (.int (nI k)), w] [] M := by
  have h0 := hX.1
  intro r
  induction r with
  | zero =>
    intro k w hk hP
    have e : k = c := by omega
    subst e
    refine sg_iload_n dX6_named_11 rfl ?_
    refine sg_aload_n dX6_named_12 rfl ?_
    refine sg_get dX6_named_13 fl_X6_15 (by first | rfl | assumption) rfl ?_
    refine sg_icmp_ge 45 dX6_named_16 (by decide) (fun c1 => ?_) (fun c1 => ?_)
    · refine sg_iconst (-1) dX6_named_45 (by decide) ?_
      refine sg_ireturn dX6_named_46 rfl (Nat.le_of_ble_eq_true rfl) (Nat.le_of_ble_eq_true rfl) ?_
      exact hP
    · exact absurd (nI_le (Nat.le_refl _) (by omega)) c1
  | succ r ih =>
    intro k w hk hP
    obtain ⟨hsa, ⟨hq, hg, hm⟩, hl80, h41⟩ := hS k (by omega)
    unfold sm_nmd at hP
    refine sg_iload_n dX6_named_11 rfl ?_
    refine sg_aload_n dX6_named_12 rfl ?_
    refine sg_get dX6_named_13 fl_X6_15 (by first | rfl | assumption) rfl ?_
    refine sg_icmp_ge 45 dX6_named_16 (by decide) (fun c1 => ?_) (fun c1 => ?_)
    · exact absurd c1 (nI_ge (by omega) (by omega))
    · refine sg_aload_n dX6_named_19 rfl ?_
      refine sg_iload_n dX6_named_20 rfl ?_
      refine sg_V1 dX6_named_21 cv_X6_143 h0 (c_strandAt_y k rfl (by omega) hc hsa hX) (Nat.le_of_ble_eq_true rfl) (Nat.le_of_ble_eq_true rfl) (Nat.le_of_ble_eq_true rfl) (Nat.le_of_ble_eq_true rfl) (fun r9 M9 hp => ?_)
      obtain ⟨rfl, e9⟩ := hp
      rw [e9]
      refine sg_astore_n dX6_named_24 (by decide) ?_
      refine sg_aload_n dX6_named_25 rfl ?_
      refine sg_ifnull dX6_named_26 ?_
      refine sg_aload_n dX6_named_29 rfl ?_
      refine sg_get dX6_named_30 fl_X6_112 (by first | rfl | assumption) rfl ?_
      refine sg_iload_n dX6_named_33 rfl ?_
      refine sg_icmp_ne 39 dX6_named_34 (by decide) (fun c2 => ?_) (fun c2 => ?_)
      · rw [if_neg c2] at hP
        refine sg_iinc _ dX6_named_39 rfl (sm_inc k) (by decide) ?_
        refine sg_goto 11 dX6_named_42 (by decide) ?_
        exact ih (k + 1) _ (by omega) hP
      · rw [if_pos c2] at hP
        refine sg_iload_n dX6_named_37 rfl ?_
        refine sg_ireturn dX6_named_38 rfl (Nat.le_of_ble_eq_true rfl) (Nat.le_of_ble_eq_true rfl) ?_
        exact hP
theorem c_named (x : Int32) (hc : c ≤ 40) (hX : sm_X M c dc cu it yr sa da) (hS : sm_S M c sa sid ln fg fm ow nm) : sm_Ct l b D cA yX6_named cX6_named 4 (some .int) 1 0 0 [.ref 0, .int x] M (fun r M1 => r = some (.int (if 0 < x.toInt ∧ x.toInt ≤ 99 then sm_nmd nm x c 0 else -1)) ∧ M1 = M) := by
  refine sm_enter (by decide +kernel) rfl (fun _ => Nat.le_of_ble_eq_true rfl) ?_
  refine sg_iload_n dX6_named_0 rfl ?_
  refine sg_S1 dX6_named_1 cs_X6_125 (c_isName _) (Nat.le_of_ble_eq_true rfl) (Nat.le_of_ble_eq_true rfl) (Nat.le_of_ble_eq_true rfl) (Nat.le_of_ble_eq_true rfl) (fun r M1 hp => ?_)
  obtain ⟨rfl, rfl⟩ := hp
  refine sg_bf_ne 9 dX6_named_4 (by decide) (fun c1 => ?_) (fun c1 => ?_)
  · rw [if_pos c1]
    refine sg_iconst (nI 0) dX6_named_9 (by decide) ?_
    refine sg_istore_n dX6_named_10 (by decide) ?_
    exact lp_named hc hX hS c 0 _ (by omega) ⟨rfl, rfl⟩
  · rw [if_neg c1]
    refine sg_iconst (-1) dX6_named_7 (by decide) ?_
    refine sg_ireturn dX6_named_8 rfl (Nat.le_of_ble_eq_true rfl) (Nat.le_of_ble_eq_true rfl) ?_
    exact ⟨rfl, rfl⟩
theorem lp_goneCount {Post : Option Value → sm_M → Prop} (hc : c ≤ 40) (hX : sm_X M c dc cu it yr sa da) (hS : sm_S M c sa sid ln fg fm ow nm) (hP : Post (some (.int (nI (sm_gone ln c)))) M) :
    ∀ (r k : Nat), k + r = c → sm_G l b D cA yX6_goneCount cX6_goneCount 3 (some .int) 2 0 0 Post 0 0 4 [some (.ref 0), some (.int (nI (sm_gone ln k))), some (.int (nI k))] [] M := by
  have h0 := hX.1
  intro r
  induction r with
  | zero =>
    intro k hk
    have e : k = c := by omega
    subst e
    refine sg_iload_n dX6_goneCount_4 rfl ?_
    refine sg_aload_n dX6_goneCount_5 rfl ?_
    refine sg_get dX6_goneCount_6 fl_X6_15 (by first | rfl | assumption) rfl ?_
    refine sg_icmp_ge 29 dX6_goneCount_9 (by decide) (fun c1 => ?_) (fun c1 => ?_)
    · refine sg_iload_n dX6_goneCount_29 rfl ?_
      refine sg_ireturn dX6_goneCount_30 rfl (Nat.le_of_ble_eq_true rfl) (Nat.le_of_ble_eq_true rfl) ?_
      exact hP
    · exact absurd (nI_le (Nat.le_refl _) (by omega)) c1
  | succ r ih =>
    intro k hk
    obtain ⟨hsa, ⟨hq, hg, hm⟩, hl80, h41⟩ := hS k (by omega)
    have ih2 := ih (k + 1) (by omega)
    rw [show sm_gone ln (k + 1) = sm_gone ln k + (if ln k = 0 then 1 else 0) from rfl] at ih2
    refine sg_iload_n dX6_goneCount_4 rfl ?_
    refine sg_aload_n dX6_goneCount_5 rfl ?_
    refine sg_get dX6_goneCount_6 fl_X6_15 (by first | rfl | assumption) rfl ?_
    refine sg_icmp_ge 29 dX6_goneCount_9 (by decide) (fun c1 => ?_) (fun c1 => ?_)
    · exact absurd c1 (nI_ge (by omega) (by omega))
    · by_cases hz : ln k = 0
      · rw [if_pos hz] at ih2
        rw [hz] at hq
        refine sg_aload_n dX6_goneCount_12 rfl ?_
        refine sg_iload_n dX6_goneCount_13 rfl ?_
        refine sg_V1 dX6_goneCount_14 cv_X6_92 h0 (c_living_n2 k rfl (by omega) hc hsa hq hX) (Nat.le_of_ble_eq_true rfl) (Nat.le_of_ble_eq_true rfl) (Nat.le_of_ble_eq_true rfl) (Nat.le_of_ble_eq_true rfl) (fun r9 M9 hp => ?_)
        obtain ⟨rfl, e9⟩ := hp
        rw [e9]
        refine sg_ifnonnullN dX6_goneCount_17 ?_
        refine sg_iinc _ dX6_goneCount_20 rfl (sm_inc _) (by decide) ?_
        refine sg_iinc _ dX6_goneCount_23 rfl (sm_inc k) (by decide) ?_
        refine sg_goto 4 dX6_goneCount_26 (by decide) ?_
        exact ih2
      · rw [if_neg hz] at ih2
        refine sg_aload_n dX6_goneCount_12 rfl ?_
        refine sg_iload_n dX6_goneCount_13 rfl ?_
        refine sg_V1 dX6_goneCount_14 cv_X6_92 h0 (c_living_y k rfl (by omega) hc hsa hq (by omega) hl80 hX) (Nat.le_of_ble_eq_true rfl) (Nat.le_of_ble_eq_true rfl) (Nat.le_of_ble_eq_true rfl) (Nat.le_of_ble_eq_true rfl) (fun r9 M9 hp => ?_)
        obtain ⟨rfl, e9⟩ := hp
        rw [e9]
        refine sg_ifnonnull 23 dX6_goneCount_17 (by decide) ?_
        refine sg_iinc _ dX6_goneCount_23 rfl (sm_inc k) (by decide) ?_
        refine sg_goto 4 dX6_goneCount_26 (by decide) ?_
        exact ih2
theorem c_goneCount (hc : c ≤ 40) (hX : sm_X M c dc cu it yr sa da) (hS : sm_S M c sa sid ln fg fm ow nm) : sm_Ct l b D cA yX6_goneCount cX6_goneCount 3 (some .int) 2 0 0 [.ref 0] M (fun r M1 => r = some (.int (nI (sm_gone ln c))) ∧ M1 = M) := by
  refine sm_enter (by decide +kernel) rfl (fun _ => Nat.le_of_ble_eq_true rfl) ?_
  refine sg_iconst (nI 0) dX6_goneCount_0 (by decide) ?_
  refine sg_istore_n dX6_goneCount_1 (by decide) ?_
  refine sg_iconst (nI 0) dX6_goneCount_2 (by decide) ?_
  refine sg_istore_n dX6_goneCount_3 (by decide) ?_
  exact lp_goneCount hc hX hS ⟨rfl, rfl⟩ c 0 (by omega)
theorem lp_rich {o : Int32} {Post : Option Value → sm_M → Prop} (hc : c ≤ 40) (hX : sm_X M c dc cu it yr sa da) (hS : sm_S M c sa sid ln fg fm ow nm) (hr : sm_rates M r1 r2 r3 r4 fame) (hj : ∀ k, k < c → 0 < ln k → sm_least (fg k) 0 (ln k) = nI (js k) ∧ js k < 5) (hP : Post (some (.int (sm_rsum ow o (sm_wv r1 r2 r3 r4 fame ln js nm) c))) M) :
    ∀ (r k : Nat) (w : Option Value), k + r = c → sm_G l b D cA yX6_rich cX6_rich 5 (some .int) 4 0 0 Post 0 0 13 [some (.ref 0), some (.int o), some (.int (sm_rsum ow o (sm_wv r1 r2 r3 r4 fame ln js nm) k)), some (.int (nI k)), w] [] M := by
  have h0 := hX.1
  intro r
  induction r with
  | zero =>
    intro k w hk
    have e : k = c := by omega
    subst e
    refine sg_iload_n dX6_rich_13 rfl ?_
    refine sg_aload_n dX6_rich_14 rfl ?_
    refine sg_get dX6_rich_15 fl_X6_15 (by first | rfl | assumption) rfl ?_
    refine sg_icmp_ge 57 dX6_rich_18 (by decide) (fun c1 => ?_) (fun c1 => ?_)
    · refine sg_iload_n dX6_rich_57 rfl ?_
      refine sg_ireturn dX6_rich_58 rfl (Nat.le_of_ble_eq_true rfl) (Nat.le_of_ble_eq_true rfl) ?_
      exact hP
    · exact absurd (nI_le (Nat.le_refl _) (by omega)) c1
  | succ r ih =>
    intro k w hk
    obtain ⟨hsa, hst, hl80, h41⟩ := hS k (by omega)
    obtain ⟨hq, hg, hm⟩ := id hst
    have ih2 := ih (k + 1)
    rw [show sm_rsum ow o (sm_wv r1 r2 r3 r4 fame ln js nm) (k + 1) = if ow k = o then sm_rsum ow o (sm_wv r1 r2 r3 r4 fame ln js nm) k + sm_wv r1 r2 r3 r4 fame ln js nm k else sm_rsum ow o (sm_wv r1 r2 r3 r4 fame ln js nm) k from rfl] at ih2
    refine sg_iload_n dX6_rich_13 rfl ?_
    refine sg_aload_n dX6_rich_14 rfl ?_
    refine sg_get dX6_rich_15 fl_X6_15 (by first | rfl | assumption) rfl ?_
    refine sg_icmp_ge 57 dX6_rich_18 (by decide) (fun c1 => ?_) (fun c1 => ?_)
    · exact absurd c1 (nI_ge (by omega) (by omega))
    · refine sg_aload_n dX6_rich_21 rfl ?_
      refine sg_iload_n dX6_rich_22 rfl ?_
      refine sg_V1 dX6_rich_23 cv_X6_143 h0 (c_strandAt_y k rfl (by omega) hc hsa hX) (Nat.le_of_ble_eq_true rfl) (Nat.le_of_ble_eq_true rfl) (Nat.le_of_ble_eq_true rfl) (Nat.le_of_ble_eq_true rfl) (fun r9 M9 hp => ?_)
      obtain ⟨rfl, e9⟩ := hp
      rw [e9]
      refine sg_astore dX6_rich_26 (by decide) ?_
      refine sg_aload dX6_rich_28 rfl ?_
      refine sg_ifnull dX6_rich_30 ?_
      refine sg_aload dX6_rich_33 rfl ?_
      refine sg_get dX6_rich_35 fl_X6_105 (by first | rfl | assumption) rfl ?_
      refine sg_iload_n dX6_rich_38 rfl ?_
      refine sg_icmp_ne 51 dX6_rich_39 (by decide) (fun c2 => ?_) (fun c2 => ?_)
      · rw [if_neg c2] at ih2
        refine sg_iinc _ dX6_rich_51 rfl (sm_inc k) (by decide) ?_
        refine sg_goto 13 dX6_rich_54 (by decide) ?_
        exact ih2 _ (by omega)
      · rw [if_pos c2] at ih2
        refine sg_iload_n dX6_rich_42 rfl ?_
        refine sg_aload_n dX6_rich_43 rfl ?_
        refine sg_aload dX6_rich_44 rfl ?_
        refine sg_V1 dX6_rich_46 cv_X6_153 h0 (c_worthOf hl80 (hj k (by omega)) hst hr hX) (Nat.le_of_ble_eq_true rfl) (Nat.le_of_ble_eq_true rfl) (Nat.le_of_ble_eq_true rfl) (Nat.le_of_ble_eq_true rfl) (fun r9 M9 hp => ?_)
        obtain ⟨rfl, e9⟩ := hp
        rw [e9]
        refine sg_iadd dX6_rich_49 ?_
        refine sg_istore_n dX6_rich_50 (by decide) ?_
        refine sg_iinc _ dX6_rich_51 rfl (sm_inc k) (by decide) ?_
        refine sg_goto 13 dX6_rich_54 (by decide) ?_
        exact ih2 _ (by omega)
theorem c_rich (o : Int32) (hc : c ≤ 40) (hX : sm_X M c dc cu it yr sa da) (hS : sm_S M c sa sid ln fg fm ow nm) (hr : sm_rates M r1 r2 r3 r4 fame) (hj : ∀ k, k < c → 0 < ln k → sm_least (fg k) 0 (ln k) = nI (js k) ∧ js k < 5) : sm_Ct l b D cA yX6_rich cX6_rich 5 (some .int) 4 0 0 [.ref 0, .int o] M (fun r M1 => r = some (.int (if 0 ≤ o.toInt ∧ o.toInt < 10 then sm_rsum ow o (sm_wv r1 r2 r3 r4 fame ln js nm) c else -1)) ∧ M1 = M) := by
  refine sm_enter (by decide +kernel) rfl (fun _ => Nat.le_of_ble_eq_true rfl) ?_
  refine sg_iload_n dX6_rich_0 rfl ?_
  refine sg_S1 dX6_rich_1 cs_X6_69 (c_isOwner _) (Nat.le_of_ble_eq_true rfl) (Nat.le_of_ble_eq_true rfl) (Nat.le_of_ble_eq_true rfl) (Nat.le_of_ble_eq_true rfl) (fun r M1 hp => ?_)
  obtain ⟨rfl, rfl⟩ := hp
  refine sg_bf_ne 9 dX6_rich_4 (by decide) (fun c1 => ?_) (fun c1 => ?_)
  · rw [if_pos c1]
    refine sg_iconst 0 dX6_rich_9 (by decide) ?_
    refine sg_istore_n dX6_rich_10 (by decide) ?_
    refine sg_iconst (nI 0) dX6_rich_11 (by decide) ?_
    refine sg_istore_n dX6_rich_12 (by decide) ?_
    exact lp_rich hc hX hS hr hj ⟨rfl, rfl⟩ c 0 _ (by omega)
  · rw [if_neg c1]
    refine sg_iconst (-1) dX6_rich_7 (by decide) ?_
    refine sg_ireturn dX6_rich_8 rfl (Nat.le_of_ble_eq_true rfl) (Nat.le_of_ble_eq_true rfl) ?_
    exact ⟨rfl, rfl⟩
theorem lp_fillPurse {o : Int32} {f0 g0 : Nat → Int32} {Post : Option Value → sm_M → Prop} (hc : c ≤ 40) (hX : sm_X M c dc cu it yr sa da) (hS : sm_S M c sa sid ln fg fm ow nm) (hr : sm_rates M r1 r2 r3 r4 fame) (hj : ∀ k, k < c → 0 < ln k → sm_least (fg k) 0 (ln k) = nI (js k) ∧ js k < 5)
    (hP1 : sm_own ln ow o c ≤ 12 → ∀ M1 : sm_M, sm_ex M M1 [13, 14, 15] → sm_pu M1 (sm_own ln ow o c) (sm_tot ln ow o (sm_wv r1 r2 r3 r4 fame ln js nm) c) 0 0 (-1) (sm_fil ln ow o (fun k => nI k) f0 c) (sm_fil ln ow o (sm_wv r1 r2 r3 r4 fame ln js nm) g0 c) → Post (some (.int 1)) M1)
    (hP0 : 12 < sm_own ln ow o c → ∀ (M1 : sm_M) (n : Nat) (tot : Int32) (f g : Nat → Int32), n ≤ 12 → sm_ex M M1 [13, 14, 15] → sm_pu M1 n tot 0 0 (-1) f g → Post (some (.int 0)) M1) :
    ∀ (r k : Nat) (w : Option Value) (M1 : sm_M), k + r = c → sm_own ln ow o k ≤ 12 → sm_ex M M1 [13, 14, 15] → sm_pu M1 (sm_own ln ow o k) (sm_tot ln ow o (sm_wv r1 r2 r3 r4 fame ln js nm) k) 0 0 (-1) (sm_fil ln ow o (fun k => nI k) f0 k) (sm_fil ln ow o (sm_wv r1 r2 r3 r4 fame ln js nm) g0 k) → sm_G l b D cA yX6_fillPurse cX6_fillPurse 4 (some .boolean) 4 0 0 Post 0 0 9 [some (.ref 0), some (.int o), some (.int (nI k)), w] [] M1 := by
  intro r
  induction r with
  | zero =>
    intro k w M1 hk h12 hx hu
    have e : k = c := by omega
    subst e
    have X1 := hX.ex hx (by decide)
    have h0 := X1.1
    refine sg_iload_n dX6_fillPurse_9 rfl ?_
    refine sg_aload_n dX6_fillPurse_10 rfl ?_
    refine sg_get dX6_fillPurse_11 fl_X6_15 (by first | rfl | assumption) rfl ?_
    refine sg_icmp_ge 59 dX6_fillPurse_14 (by decide) (fun c1 => ?_) (fun c1 => ?_)
    · refine sg_iconst 1 dX6_fillPurse_59 (by decide) ?_
      refine sg_zreturn dX6_fillPurse_60 rfl (by first | decide | assumption) (Nat.le_of_ble_eq_true rfl) (Nat.le_of_ble_eq_true rfl) ?_
      exact hP1 h12 M1 hx hu
    · exact absurd (nI_le (Nat.le_refl _) (by omega)) c1
  | succ r ih =>
    intro k w M1 hk h12 hx hu
    have X1 := hX.ex hx (by decide)
    have R1 := hr.ex hx (by decide)
    have h0 := X1.1
    have h13 := hu.1
    obtain ⟨hsa, hst, hl80, h41⟩ := (hS.ex hx (by decide)) k (by omega)
    obtain ⟨hq, hg, hm⟩ := id hst
    have ih2 := fun w M2 => ih (k + 1) w M2 (by omega)
    rw [show sm_own ln ow o (k + 1) = sm_own ln ow o k + (if 0 < ln k ∧ ow k = o then 1 else 0) from rfl, show sm_tot ln ow o (sm_wv r1 r2 r3 r4 fame ln js nm) (k + 1) = (if 0 < ln k ∧ ow k = o then sm_tot ln ow o (sm_wv r1 r2 r3 r4 fame ln js nm) k + sm_wv r1 r2 r3 r4 fame ln js nm k else sm_tot ln ow o (sm_wv r1 r2 r3 r4 fame ln js nm) k) from rfl, show ∀ v f, sm_fil ln ow o v f (k + 1) = (if 0 < ln k ∧ ow k = o then upd (sm_fil ln ow o v f k) (sm_own ln ow o k) (v k) else sm_fil ln ow o v f k) from fun _ _ => rfl, show ∀ v f, sm_fil ln ow o v f (k + 1) = (if 0 < ln k ∧ ow k = o then upd (sm_fil ln ow o v f k) (sm_own ln ow o k) (v k) else sm_fil ln ow o v f k) from fun _ _ => rfl] at ih2
    refine sg_iload_n dX6_fillPurse_9 rfl ?_
    refine sg_aload_n dX6_fillPurse_10 rfl ?_
    refine sg_get dX6_fillPurse_11 fl_X6_15 (by first | rfl | assumption) rfl ?_
    refine sg_icmp_ge 59 dX6_fillPurse_14 (by decide) (fun c1 => ?_) (fun c1 => ?_)
    · exact absurd c1 (nI_ge (by omega) (by omega))
    · by_cases hz : ln k = 0
      · rw [if_neg (fun q => absurd q.1 (by omega)), if_neg (fun q => absurd q.1 (by omega)), if_neg (fun q => absurd q.1 (by omega)), if_neg (fun q => absurd q.1 (by omega))] at ih2
        rw [hz] at hq
        refine sg_aload_n dX6_fillPurse_17 rfl ?_
        refine sg_iload_n dX6_fillPurse_18 rfl ?_
        refine sg_V1 dX6_fillPurse_19 cv_X6_92 h0 (c_living_n2 k rfl (by omega) hc hsa hq X1) (Nat.le_of_ble_eq_true rfl) (Nat.le_of_ble_eq_true rfl) (Nat.le_of_ble_eq_true rfl) (Nat.le_of_ble_eq_true rfl) (fun r9 M9 hp => ?_)
        obtain ⟨rfl, e9⟩ := hp
        rw [e9]
        refine sg_astore_nN dX6_fillPurse_22 (by decide) ?_
        refine sg_aload_nN dX6_fillPurse_23 rfl ?_
        refine sg_ifnullN 53 dX6_fillPurse_24 (by decide) ?_
        refine sg_iinc _ dX6_fillPurse_53 rfl (sm_inc k) (by decide) ?_
        refine sg_goto 9 dX6_fillPurse_56 (by decide) ?_
        exact ih2 _ M1 h12 hx hu
      · refine sg_aload_n dX6_fillPurse_17 rfl ?_
        refine sg_iload_n dX6_fillPurse_18 rfl ?_
        refine sg_V1 dX6_fillPurse_19 cv_X6_92 h0 (c_living_y k rfl (by omega) hc hsa hq (by omega) hl80 X1) (Nat.le_of_ble_eq_true rfl) (Nat.le_of_ble_eq_true rfl) (Nat.le_of_ble_eq_true rfl) (Nat.le_of_ble_eq_true rfl) (fun r9 M9 hp => ?_)
        obtain ⟨rfl, e9⟩ := hp
        rw [e9]
        refine sg_astore_n dX6_fillPurse_22 (by decide) ?_
        refine sg_aload_n dX6_fillPurse_23 rfl ?_
        refine sg_ifnull dX6_fillPurse_24 ?_
        refine sg_aload_n dX6_fillPurse_27 rfl ?_
        refine sg_get dX6_fillPurse_28 fl_X6_105 (by first | rfl | assumption) rfl ?_
        refine sg_iload_n dX6_fillPurse_31 rfl ?_
        refine sg_icmp_ne 53 dX6_fillPurse_32 (by decide) (fun c2 => ?_) (fun c2 => ?_)
        · rw [if_neg (fun q => c2 q.2), if_neg (fun q => c2 q.2), if_neg (fun q => c2 q.2), if_neg (fun q => c2 q.2)] at ih2
          refine sg_iinc _ dX6_fillPurse_53 rfl (sm_inc k) (by decide) ?_
          refine sg_goto 9 dX6_fillPurse_56 (by decide) ?_
          exact ih2 _ M1 h12 hx hu
        · have hyes : 0 < ln k ∧ ow k = o := ⟨by omega, c2⟩
          rw [if_pos hyes, if_pos hyes, if_pos hyes, if_pos hyes] at ih2
          refine sg_aload_n dX6_fillPurse_35 rfl ?_
          refine sg_get dX6_fillPurse_36 fl_X6_40 (by first | rfl | assumption) rfl ?_
          refine sg_iload_n dX6_fillPurse_39 rfl ?_
          refine sg_aload_n dX6_fillPurse_40 rfl ?_
          refine sg_aload_n dX6_fillPurse_41 rfl ?_
          refine sg_V1 dX6_fillPurse_42 cv_X6_153 h0 (c_worthOf hl80 (hj k (by omega)) hst R1 X1) (Nat.le_of_ble_eq_true rfl) (Nat.le_of_ble_eq_true rfl) (Nat.le_of_ble_eq_true rfl) (Nat.le_of_ble_eq_true rfl) (fun r9 M9 hp => ?_)
          obtain ⟨rfl, e9⟩ := hp
          rw [e9]
          refine sg_V2 dX6_fillPurse_45 cv_X6_300 h13 (c_purse_put _ _ h12 hu) (Nat.le_of_ble_eq_true rfl) (Nat.le_of_ble_eq_true rfl) (Nat.le_of_ble_eq_true rfl) (Nat.le_of_ble_eq_true rfl) (fun r9 M9 hp => ?_)
          obtain ⟨rfl, p1, p2⟩ := hp
          refine sg_bf_ne 53 dX6_fillPurse_48 (by decide) (fun c3 => ?_) (fun c3 => ?_)
          · obtain ⟨x9, u9⟩ := p1 c3
            refine sg_iinc _ dX6_fillPurse_53 rfl (sm_inc k) (by decide) ?_
            refine sg_goto 9 dX6_fillPurse_56 (by decide) ?_
            exact ih2 _ M9 (by omega) (hx.tr x9) u9
          · have e9 := p2 c3
            rw [e9]
            refine sg_iconst 0 dX6_fillPurse_51 (by decide) ?_
            refine sg_zreturn dX6_fillPurse_52 rfl (by first | decide | assumption) (Nat.le_of_ble_eq_true rfl) (Nat.le_of_ble_eq_true rfl) ?_
            refine hP0 ?_ M1 _ _ _ _ h12 hx hu
            have hm1 := sm_own_mono ln ow o (show k + 1 ≤ c by omega)
            rw [show sm_own ln ow o (k + 1) = sm_own ln ow o k + (if 0 < ln k ∧ ow k = o then 1 else 0) from rfl, if_pos hyes] at hm1
            omega
theorem c_fillPurse {n : Nat} {tot ch cs cw : Int32} {f0 g0 : Nat → Int32} (o : Int32) (hc : c ≤ 40) (hX : sm_X M c dc cu it yr sa da) (hS : sm_S M c sa sid ln fg fm ow nm) (hr : sm_rates M r1 r2 r3 r4 fame) (hj : ∀ k, k < c → 0 < ln k → sm_least (fg k) 0 (ln k) = nI (js k) ∧ js k < 5) (hu : sm_pu M n tot ch cs cw f0 g0) : sm_Ct l b D cA yX6_fillPurse cX6_fillPurse 4 (some .boolean) 4 0 0 [.ref 0, .int o] M (fun r M1 => r = some (.int (if sm_own ln ow o c ≤ 12 then 1 else 0)) ∧ sm_ex M M1 [13, 14, 15] ∧ (sm_own ln ow o c ≤ 12 → sm_pu M1 (sm_own ln ow o c) (sm_tot ln ow o (sm_wv r1 r2 r3 r4 fame ln js nm) c) 0 0 (-1) (sm_fil ln ow o (fun k => nI k) f0 c) (sm_fil ln ow o (sm_wv r1 r2 r3 r4 fame ln js nm) g0 c)) ∧ ∃ (n : Nat) (tot : Int32) (f g : Nat → Int32), n ≤ 12 ∧ sm_pu M1 n tot 0 0 (-1) f g) := by
  have h0 := hX.1
  have h13 := hu.1
  refine sm_enter (by decide +kernel) rfl (fun _ => Nat.le_of_ble_eq_true rfl) ?_
  refine sg_aload_n dX6_fillPurse_0 rfl ?_
  refine sg_get dX6_fillPurse_1 fl_X6_40 (by first | rfl | assumption) rfl ?_
  refine sg_V0 dX6_fillPurse_4 cv_X6_297 h13 (c_clear hu) (Nat.le_of_ble_eq_true rfl) (Nat.le_of_ble_eq_true rfl) (Nat.le_of_ble_eq_true rfl) (Nat.le_of_ble_eq_true rfl) (fun r9 M9 hp => ?_)
  obtain ⟨rfl, x9, u9⟩ := hp
  refine sg_iconst (nI 0) dX6_fillPurse_7 (by decide) ?_
  refine sg_istore_n dX6_fillPurse_8 (by decide) ?_
  have x9' := x9.mono (ys := [13, 14, 15]) (by decide)
  refine lp_fillPurse (M := M) (f0 := f0) (g0 := g0) hc hX hS hr hj (fun h12 M1 x1 u1 => ⟨by rw [if_pos h12], x1, fun _ => u1, _, _, _, _, h12, u1⟩) (fun h12 M1 n1 t1 f1 g1 hn1 x1 u1 => ⟨by rw [if_neg (by omega)], x1, fun q => absurd q (by omega), _, _, _, _, hn1, u1⟩) c 0 _ M9 (by omega) (show (0 : Nat) ≤ 12 by decide) x9' u9
end SM50
