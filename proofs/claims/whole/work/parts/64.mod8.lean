/-! the reference: turn, of, drawn, cheat, rich, tale -/
theorem sm_swp {a f : Nat → Int32} {s n t u k : Nat} (h : ∀ k, k < n → a (80 * s + k) = f k) (ht : t < n) (hu : u < n) (hk : k < n) : upd (upd a (80 * s + t) (a (80 * s + u))) (80 * s + u) (a (80 * s + t)) (80 * s + k) = upd (upd f t (f u)) u (f t) k := by
  unfold upd
  by_cases e : k = u
  · rw [if_pos (by omega), if_pos e]
    exact h t ht
  · rw [if_neg (by omega), if_neg e]
    by_cases e2 : k = t
    · rw [if_pos (by omega), if_pos e2]
      exact h u hu
    · rw [if_neg (by omega), if_neg e2]
      exact h k hk
abbrev sm_tv (τ : sm_T5) (w z : Int32) : Int32 := if 0 ≤ z.toInt ∧ z.toInt < τ.1 then (if w = 0 then τ.2.2.1 z.toInt.toNat else if w = 1 then τ.2.2.2.1 z.toInt.toNat else if w = 2 then τ.2.2.2.2 z.toInt.toNat else -1) else -1
theorem sm_tv_m1 (τ : sm_T5) (w : Int32) : sm_tv τ w (-1) = -1 := by
  unfold sm_tv
  rw [if_neg (by rw [ti_m1]; omega)]
theorem sm_tv_w {τ : sm_T5} {w : Int32} (h : ¬ (0 ≤ w.toInt ∧ w.toInt ≤ 2)) (z : Int32) : sm_tv τ w z = -1 := by
  unfold sm_tv
  rw [if_neg (c := w = 0) (fun q => h (by rw [q, ti_0]; omega)), if_neg (c := w = 1) (fun q => h (by rw [q, ti_1]; omega)), if_neg (c := w = 2) (fun q => h (by rw [q, ti_2]; omega))]
  split <;> rfl
theorem sm_pl_neg {f : Nat → Int32} {x i : Int32} (hi : i.toInt < 0) : ∀ r p b, b + r < 2 ^ 31 → sm_pl f x i r p (nI b) = -1
  | 0, _, _, _ => rfl
  | r + 1, p, b, h => by
    have hb : ¬ nI b = i := fun q => by
      rw [← q, nI_toInt (by omega)] at hi
      omega
    unfold sm_pl
    rw [if_neg hb, nI_1, sm_pl_neg hi r (p + 1) (b + 1) (by omega), sm_pl_neg hi r (p + 1) b (by omega)]
    split <;> rfl
theorem sm_pl_no {f : Nat → Int32} {x i : Int32} : ∀ r p bf, (∀ q, q < p + r → ¬ f q = x) → sm_pl f x i r p bf = -1
  | 0, _, _, _ => rfl
  | r + 1, p, bf, h => by
    unfold sm_pl
    rw [if_neg (h p (by omega))]
    exact sm_pl_no r (p + 1) bf (fun q hq => h q (by omega))
theorem sm_pl_x {τ : sm_T5} {x i w : Int32} (hev : ∀ e, e < τ.1 → 0 < (τ.2.1 e).toInt ∧ (τ.2.1 e).toInt ≤ 99) : (if 0 < x.toInt ∧ x.toInt ≤ 99 then sm_tv τ w (sm_pl τ.2.1 x i τ.1 0 0) else -1) = sm_tv τ w (sm_pl τ.2.1 x i τ.1 0 0) := by
  by_cases q : 0 < x.toInt ∧ x.toInt ≤ 99
  · rw [if_pos q]
  · rw [if_neg q, sm_pl_no τ.1 0 0 (fun e he z => q (by rw [← z]; exact hev e (by omega))), sm_tv_m1]
theorem sm_left (i bf : Int32) : i - bf + Int32.ofInt (-1) = i - (bf + 1) := by
  rw [show Int32.ofInt (-1) = (-1 : Int32) from by decide]
  grind
theorem sm_left0 (i bf : Int32) : i - bf = 0 ↔ bf = i := by
  constructor
  · intro h
    have : i = (i - bf) + bf := by grind
    rw [this, h]
    grind
  · intro h
    rw [h]
    grind
section SM64
variable {l : Launch} {b : Nat} {D : va_G} {cA : Nat → ClassId} {M : sm_M}
variable {th : Int32} {c dc : Nat} {ln hb : Nat → Nat} {fg fm : Nat → Nat → Int32} {ow nm r1 r2 r3 r4 ws to gr sp pd : Nat → Int32} {fame cu it yr : Int32} {τ : sm_T5}
theorem lp_mcheat {s : Nat} {x g : Int32} {Post : Option Value → sm_M → Prop} (hx : x = nI s) (hs : s < c) (hc : c ≤ 40) (hl80 : ln s ≤ 80) (hW : sm_W M 0 c ln fg fm ow nm r1 r2 r3 fame cu it yr τ dc ws to gr sp pd hb) :
    ∀ (r t : Nat), t + r = ln s → Post (some (.int (sm_cht (fg s) g r t))) M → sm_G l b D cA yX7_cheat cX7_cheat 4 (some .int) 2 0 0 Post 0 0 17 [some (.ref 23), some (.int x), some (.int g), some (.int (nI t))] [] M := by
  subst hx
  obtain ⟨I, A, hm, h7, ha, hbb, ht, hdd, hh⟩ := id hW
  obtain ⟨h23, h24, h25, h26, h27, h28, h29, h30, h31, h32, h33, h34, h35, h36, h37, h38, h39⟩ := id hm
  obtain ⟨b26, b27, b28, bN⟩ := ha.2 s hs
  intro r
  induction r with
  | zero =>
    intro t ht2 hP
    have e : t = ln s := by omega
    subst e
    refine sg_iload_n dX7_cheat_17 rfl ?_
    refine sg_aload_n dX7_cheat_18 rfl ?_
    refine sg_get dX7_cheat_19 fl_X7_16 (by first | rfl | assumption) rfl ?_
    refine sg_iload_n dX7_cheat_22 rfl ?_
    refine sg_ald (s) dX7_cheat_23 (by first | rfl | assumption) (rfl) (by omega) (by decide) ?_
    rw [b26]
    refine sg_icmp_ge 50 dX7_cheat_24 (by decide) (fun c1 => ?_) (fun c1 => ?_)
    · refine sg_iconst (-1) dX7_cheat_50 (by decide) ?_
      refine sg_ireturn dX7_cheat_51 rfl (Nat.le_of_ble_eq_true rfl) (Nat.le_of_ble_eq_true rfl) ?_
      exact hP
    · exact absurd (nI_le (Nat.le_refl _) (by omega)) c1
  | succ r ih =>
    intro t ht2 hP
    unfold sm_cht at hP
    obtain ⟨bg, bm⟩ := bN t (by omega)
    refine sg_iload_n dX7_cheat_17 rfl ?_
    refine sg_aload_n dX7_cheat_18 rfl ?_
    refine sg_get dX7_cheat_19 fl_X7_16 (by first | rfl | assumption) rfl ?_
    refine sg_iload_n dX7_cheat_22 rfl ?_
    refine sg_ald (s) dX7_cheat_23 (by first | rfl | assumption) (rfl) (by omega) (by decide) ?_
    rw [b26]
    refine sg_icmp_ge 50 dX7_cheat_24 (by decide) (fun c1 => ?_) (fun c1 => ?_)
    · exact absurd c1 (nI_ge (by omega) (by omega))
    · refine sg_aload_n dX7_cheat_27 rfl ?_
      refine sg_get dX7_cheat_28 fl_X7_9 (by first | rfl | assumption) rfl ?_
      refine sg_bipush 80 dX7_cheat_31 (by decide) ?_
      refine sg_iload_n dX7_cheat_33 rfl ?_
      refine sg_imul dX7_cheat_34 ?_
      refine sg_iload_n dX7_cheat_35 rfl ?_
      refine sg_iadd dX7_cheat_36 ?_
      rw [sm_80]
      refine sg_ald (80 * s + t) dX7_cheat_37 (by first | rfl | assumption) (rfl) (by omega) (by decide) ?_
      refine sg_iload_n dX7_cheat_38 rfl ?_
      rw [bg]
      refine sg_icmp_ge 44 dX7_cheat_39 (by decide) (fun c2 => ?_) (fun c2 => ?_)
      · rw [if_pos c2] at hP
        refine sg_iinc _ dX7_cheat_44 rfl (sm_inc t) (by decide) ?_
        refine sg_goto 17 dX7_cheat_47 (by decide) ?_
        exact ih (t + 1) (by omega) hP
      · rw [if_neg c2] at hP
        refine sg_iload_n dX7_cheat_42 rfl ?_
        refine sg_ireturn dX7_cheat_43 rfl (Nat.le_of_ble_eq_true rfl) (Nat.le_of_ble_eq_true rfl) ?_
        exact hP
theorem m_cheat (i g : Int32) (hc : c ≤ 40) (hln : ∀ t, t < c → ln t ≤ 80) (hW : sm_W M th c ln fg fm ow nm r1 r2 r3 fame cu it yr τ dc ws to gr sp pd hb) : sm_Ct l b D cA yX7_cheat cX7_cheat 4 (some .int) 2 0 0 [.ref 23, .int i, .int g] M (fun r M1 => r = some (.int (if 0 ≤ i.toInt ∧ i.toInt < c then sm_cht (fg i.toInt.toNat) g (ln i.toInt.toNat) 0 else -1)) ∧ sm_ex M M1 sm_ml ∧ sm_W M1 0 c ln fg fm ow nm r1 r2 r3 fame cu it yr τ dc ws to gr sp pd hb) := by
  obtain ⟨I, A, hm, h7, ha, hbb, ht, hdd, hh⟩ := id hW
  obtain ⟨h23, h24, h25, h26, h27, h28, h29, h30, h31, h32, h33, h34, h35, h36, h37, h38, h39⟩ := id hm
  refine sm_enter (by decide +kernel) rfl (fun _ => Nat.le_of_ble_eq_true rfl) ?_
  refine sg_aload_n dX7_cheat_0 rfl ?_
  refine sg_iconst 0 dX7_cheat_1 (by decide) ?_
  refine sg_putx dX7_cheat_2 fl_X7_68 ft_X7_18 h23 (Nat.le_of_ble_eq_true rfl) (fun M2 x2 q2 => ?_)
  have W2 : sm_W M2 0 c ln fg fm ow nm r1 r2 r3 fame cu it yr τ dc ws to gr sp pd hb := ⟨upd I 7 0, A, hm.o x2 q2, rfl, ha, hbb, ht, hdd, hh⟩
  have X2 : sm_ex M M2 sm_ml := x2.mono (by decide)
  clear q2 x2 hh hdd ht hbb ha h7 hm h23 h24 h25 h26 h27 h28 h29 h30 h31 h32 h33 h34 h35 h36 h37 h38 h39
  obtain ⟨I, A, hm, h7, ha, hbb, ht, hdd, hh⟩ := id W2
  obtain ⟨h23, h24, h25, h26, h27, h28, h29, h30, h31, h32, h33, h34, h35, h36, h37, h38, h39⟩ := id hm
  refine sg_aload_n dX7_cheat_5 rfl ?_
  refine sg_iload_n dX7_cheat_6 rfl ?_
  refine sg_V1 dX7_cheat_7 cv_X7_95 h23 (w_isThere i hc hln W2) (Nat.le_of_ble_eq_true rfl) (Nat.le_of_ble_eq_true rfl) (Nat.le_of_ble_eq_true rfl) (Nat.le_of_ble_eq_true rfl) (fun r M1 hp => ?_)
  obtain ⟨rfl, e9⟩ := hp; rw [e9]
  refine sg_bf_ne 15 dX7_cheat_10 (by decide) (fun c1 => ?_) (fun c1 => ?_)
  · have hi := (sm_toN c1.1).2
    rw [if_pos c1.1]
    refine sg_iconst (nI 0) dX7_cheat_15 (by decide) ?_
    refine sg_istore_n dX7_cheat_16 (by decide) ?_
    exact lp_mcheat (sm_toN c1.1).1 hi hc (hln _ hi) W2 (ln i.toInt.toNat) 0 (by omega) ⟨rfl, X2, W2⟩
  · refine sg_iconst (-1) dX7_cheat_13 (by decide) ?_
    refine sg_ireturn dX7_cheat_14 rfl (Nat.le_of_ble_eq_true rfl) (Nat.le_of_ble_eq_true rfl) ?_
    refine ⟨?_, X2, W2⟩
    by_cases q : 0 ≤ i.toInt ∧ i.toInt < c
    · have z0 : ln i.toInt.toNat = 0 := Nat.eq_zero_of_not_pos (fun z => c1 ⟨q, z⟩)
      rw [if_pos q, z0]
      rfl
    · rw [if_neg q]
theorem lp_mrich {o : Int32} {Post : Option Value → sm_M → Prop} (hc : c ≤ 40) (hln : ∀ t, t < c → ln t ≤ 80) (hnm : ∀ t, t < c → 0 ≤ (nm t).toInt) (hgr : ∀ s, s < c → ∀ k, k < ln s → 0 ≤ (fg s k).toInt ∧ (fg s k).toInt < 5) (hr3 : ∀ j, j < 5 → 1 ≤ (r3 j).toInt) (hr4 : ∀ j, j < 5 → r4 j = nI (sm_cg fg ln (nI j) c)) (hW : sm_W M 0 c ln fg fm ow nm r1 r2 r3 fame cu it yr τ dc ws to gr sp pd hb) (hP : Post (some (.int (sm_rsum ow o (sm_wv r1 r2 r3 r4 fame ln (sm_js fg ln) nm) c))) M) :
    ∀ (r k : Nat), k + r = c → sm_G l b D cA yX7_rich cX7_rich 4 (some .int) 3 0 0 Post 0 0 21 [some (.ref 23), some (.int o), some (.int (sm_rsum ow o (sm_wv r1 r2 r3 r4 fame ln (sm_js fg ln) nm) k)), some (.int (nI k))] [] M := by
  obtain ⟨I, A, hm, h7, ha, hbb, ht, hdd, hh⟩ := id hW
  obtain ⟨h23, h24, h25, h26, h27, h28, h29, h30, h31, h32, h33, h34, h35, h36, h37, h38, h39⟩ := id hm
  intro r
  induction r with
  | zero =>
    intro k hk
    have e : k = c := by omega
    subst e
    refine sg_iload_n dX7_rich_21 rfl ?_
    refine sg_aload_n dX7_rich_22 rfl ?_
    refine sg_get dX7_rich_23 fl_X7_71 (by first | rfl | assumption) rfl ?_
    rw [ha.1]
    refine sg_icmp_ge 53 dX7_rich_26 (by decide) (fun c1 => ?_) (fun c1 => ?_)
    · refine sg_iload_n dX7_rich_53 rfl ?_
      refine sg_ireturn dX7_rich_54 rfl (Nat.le_of_ble_eq_true rfl) (Nat.le_of_ble_eq_true rfl) ?_
      exact hP
    · exact absurd (nI_le (Nat.le_refl _) (by omega)) c1
  | succ r ih =>
    intro k hk
    have ih2 := ih (k + 1)
    rw [show sm_rsum ow o (sm_wv r1 r2 r3 r4 fame ln (sm_js fg ln) nm) (k + 1) = if ow k = o then sm_rsum ow o (sm_wv r1 r2 r3 r4 fame ln (sm_js fg ln) nm) k + sm_wv r1 r2 r3 r4 fame ln (sm_js fg ln) nm k else sm_rsum ow o (sm_wv r1 r2 r3 r4 fame ln (sm_js fg ln) nm) k from rfl] at ih2
    refine sg_iload_n dX7_rich_21 rfl ?_
    refine sg_aload_n dX7_rich_22 rfl ?_
    refine sg_get dX7_rich_23 fl_X7_71 (by first | rfl | assumption) rfl ?_
    rw [ha.1]
    refine sg_icmp_ge 53 dX7_rich_26 (by decide) (fun c1 => ?_) (fun c1 => ?_)
    · exact absurd c1 (nI_ge (by omega) (by omega))
    · refine sg_aload_n dX7_rich_29 rfl ?_
      refine sg_get dX7_rich_30 fl_X7_19 (by first | rfl | assumption) rfl ?_
      refine sg_iload_n dX7_rich_33 rfl ?_
      refine sg_ald (k) dX7_rich_34 (by first | rfl | assumption) (rfl) (by omega) (by decide) ?_
      refine sg_iload_n dX7_rich_35 rfl ?_
      rw [(ha.2 k (by omega)).2.1]
      refine sg_icmp_ne 47 dX7_rich_36 (by decide) (fun c2 => ?_) (fun c2 => ?_)
      · rw [if_neg c2] at ih2
        refine sg_iinc _ dX7_rich_47 rfl (sm_inc k) (by decide) ?_
        refine sg_goto 21 dX7_rich_50 (by decide) ?_
        exact ih2 (by omega)
      · rw [if_pos c2] at ih2
        refine sg_iload_n dX7_rich_39 rfl ?_
        refine sg_aload_n dX7_rich_40 rfl ?_
        refine sg_iload_n dX7_rich_41 rfl ?_
        refine sg_V1 dX7_rich_42 cv_X7_129 h23 (w_worth (fg := fg) (r4 := r4) rfl (by omega) hc hln hnm hgr hr3 hr4 hW) (Nat.le_of_ble_eq_true rfl) (Nat.le_of_ble_eq_true rfl) (Nat.le_of_ble_eq_true rfl) (Nat.le_of_ble_eq_true rfl) (fun r9 M9 hp => ?_)
        obtain ⟨rfl, e9⟩ := hp
        rw [e9]
        refine sg_iadd dX7_rich_45 ?_
        refine sg_istore_n dX7_rich_46 (by decide) ?_
        refine sg_iinc _ dX7_rich_47 rfl (sm_inc k) (by decide) ?_
        refine sg_goto 21 dX7_rich_50 (by decide) ?_
        exact ih2 (by omega)
theorem m_rich (o : Int32) (hc : c ≤ 40) (hln : ∀ t, t < c → ln t ≤ 80) (hnm : ∀ t, t < c → 0 ≤ (nm t).toInt) (hgr : ∀ s, s < c → ∀ k, k < ln s → 0 ≤ (fg s k).toInt ∧ (fg s k).toInt < 5) (hr3 : ∀ j, j < 5 → 1 ≤ (r3 j).toInt) (hr4 : ∀ j, j < 5 → r4 j = nI (sm_cg fg ln (nI j) c)) (hW : sm_W M th c ln fg fm ow nm r1 r2 r3 fame cu it yr τ dc ws to gr sp pd hb) : sm_Ct l b D cA yX7_rich cX7_rich 4 (some .int) 3 0 0 [.ref 23, .int o] M (fun r M1 => r = some (.int (if 0 ≤ o.toInt ∧ o.toInt < 10 then sm_rsum ow o (sm_wv r1 r2 r3 r4 fame ln (sm_js fg ln) nm) c else -1)) ∧ sm_ex M M1 sm_ml ∧ sm_W M1 0 c ln fg fm ow nm r1 r2 r3 fame cu it yr τ dc ws to gr sp pd hb) := by
  obtain ⟨I, A, hm, h7, ha, hbb, ht, hdd, hh⟩ := id hW
  obtain ⟨h23, h24, h25, h26, h27, h28, h29, h30, h31, h32, h33, h34, h35, h36, h37, h38, h39⟩ := id hm
  refine sm_enter (by decide +kernel) rfl (fun _ => Nat.le_of_ble_eq_true rfl) ?_
  refine sg_aload_n dX7_rich_0 rfl ?_
  refine sg_iconst 0 dX7_rich_1 (by decide) ?_
  refine sg_putx dX7_rich_2 fl_X7_68 ft_X7_18 h23 (Nat.le_of_ble_eq_true rfl) (fun M2 x2 q2 => ?_)
  have W2 : sm_W M2 0 c ln fg fm ow nm r1 r2 r3 fame cu it yr τ dc ws to gr sp pd hb := ⟨upd I 7 0, A, hm.o x2 q2, rfl, ha, hbb, ht, hdd, hh⟩
  have X2 : sm_ex M M2 sm_ml := x2.mono (by decide)
  clear q2 x2 hh hdd ht hbb ha h7 hm h23 h24 h25 h26 h27 h28 h29 h30 h31 h32 h33 h34 h35 h36 h37 h38 h39
  obtain ⟨I, A, hm, h7, ha, hbb, ht, hdd, hh⟩ := id W2
  obtain ⟨h23, h24, h25, h26, h27, h28, h29, h30, h31, h32, h33, h34, h35, h36, h37, h38, h39⟩ := id hm
  refine sg_iload_n dX7_rich_5 rfl ?_
  refine sg_iconst 0 dX7_rich_6 (by decide) ?_
  refine sg_bipush 9 dX7_rich_7 (by decide) ?_
  refine sg_S3 dX7_rich_9 cs_X7_74 (c_in _ _ _) (Nat.le_of_ble_eq_true rfl) (Nat.le_of_ble_eq_true rfl) (Nat.le_of_ble_eq_true rfl) (Nat.le_of_ble_eq_true rfl) (fun r M1 hp => ?_)
  obtain ⟨rfl, e9⟩ := hp; rw [e9]
  refine sg_bf_ne 17 dX7_rich_12 (by decide) (fun c1 => ?_) (fun c1 => ?_)
  · rw [ti_0, ti_9] at c1
    rw [if_pos (by omega)]
    refine sg_iconst 0 dX7_rich_17 (by decide) ?_
    refine sg_istore_n dX7_rich_18 (by decide) ?_
    refine sg_iconst (nI 0) dX7_rich_19 (by decide) ?_
    refine sg_istore_n dX7_rich_20 (by decide) ?_
    exact lp_mrich hc hln hnm hgr hr3 hr4 W2 ⟨rfl, X2, W2⟩ c 0 (by omega)
  · rw [ti_0, ti_9] at c1
    refine sg_iconst (-1) dX7_rich_15 (by decide) ?_
    refine sg_ireturn dX7_rich_16 rfl (Nat.le_of_ble_eq_true rfl) (Nat.le_of_ble_eq_true rfl) ?_
    exact ⟨by rw [if_neg (by omega)], X2, W2⟩
theorem m_drawn (i j n : Int32) (hc : c ≤ 40) (hln : ∀ t, t < c → ln t ≤ 80) (hgr : ∀ s, s < c → ∀ k, k < ln s → 0 ≤ (fg s k).toInt ∧ (fg s k).toInt < 5) (hW : sm_W M th c ln fg fm ow nm r1 r2 r3 fame cu it yr τ dc ws to gr sp pd hb) : sm_Ct l b D cA yX7_drawn cX7_drawn 4 (some .int) 2 0 0 [.ref 23, .int i, .int j, .int n] M (fun r M1 => r = some (.int (if (0 ≤ i.toInt ∧ i.toInt < c) ∧ 0 ≤ j.toInt ∧ 1 ≤ n.toInt ∧ j.toInt + n.toInt ≤ ln i.toInt.toNat then sm_least (fg i.toInt.toNat) j.toInt.toNat n.toInt.toNat else -1)) ∧ sm_ex M M1 sm_ml ∧ sm_W M1 0 c ln fg fm ow nm r1 r2 r3 fame cu it yr τ dc ws to gr sp pd hb) := by
  obtain ⟨I, A, hm, h7, ha, hbb, ht, hdd, hh⟩ := id hW
  obtain ⟨h23, h24, h25, h26, h27, h28, h29, h30, h31, h32, h33, h34, h35, h36, h37, h38, h39⟩ := id hm
  refine sm_enter (by decide +kernel) rfl (fun _ => Nat.le_of_ble_eq_true rfl) ?_
  refine sg_aload_n dX7_drawn_0 rfl ?_
  refine sg_iconst 0 dX7_drawn_1 (by decide) ?_
  refine sg_putx dX7_drawn_2 fl_X7_68 ft_X7_18 h23 (Nat.le_of_ble_eq_true rfl) (fun M2 x2 q2 => ?_)
  have W2 : sm_W M2 0 c ln fg fm ow nm r1 r2 r3 fame cu it yr τ dc ws to gr sp pd hb := ⟨upd I 7 0, A, hm.o x2 q2, rfl, ha, hbb, ht, hdd, hh⟩
  have X2 : sm_ex M M2 sm_ml := x2.mono (by decide)
  clear q2 x2 hh hdd ht hbb ha h7 hm h23 h24 h25 h26 h27 h28 h29 h30 h31 h32 h33 h34 h35 h36 h37 h38 h39
  obtain ⟨I, A, hm, h7, ha, hbb, ht, hdd, hh⟩ := id W2
  obtain ⟨h23, h24, h25, h26, h27, h28, h29, h30, h31, h32, h33, h34, h35, h36, h37, h38, h39⟩ := id hm
  refine sg_aload_n dX7_drawn_5 rfl ?_
  refine sg_iload_n dX7_drawn_6 rfl ?_
  refine sg_V1 dX7_drawn_7 cv_X7_95 h23 (w_isThere i hc hln W2) (Nat.le_of_ble_eq_true rfl) (Nat.le_of_ble_eq_true rfl) (Nat.le_of_ble_eq_true rfl) (Nat.le_of_ble_eq_true rfl) (fun r M1 hp => ?_)
  obtain ⟨rfl, e9⟩ := hp; rw [e9]
  refine sg_bf_eq 44 dX7_drawn_10 (by decide) (fun c1 => ?_) (fun c1 => ?_)
  · refine sg_iconst (-1) dX7_drawn_44 (by decide) ?_
    refine sg_ireturn dX7_drawn_45 rfl (Nat.le_of_ble_eq_true rfl) (Nat.le_of_ble_eq_true rfl) ?_
    exact ⟨by rw [if_neg (fun q => c1 ⟨q.1, by omega⟩)], X2, W2⟩
  · have hi := (sm_toN c1.1).2
    have h80 := hln _ hi
    obtain ⟨b26, b27, b28, bN⟩ := ha.2 _ hi
    refine sg_iload_n dX7_drawn_13 rfl ?_
    refine sg_if_lt 44 dX7_drawn_14 (by decide) (fun c2 => ?_) (fun c2 => ?_)
    · rw [Int32.lt_iff_toInt_lt, ti_0] at c2
      refine sg_iconst (-1) dX7_drawn_44 (by decide) ?_
      refine sg_ireturn dX7_drawn_45 rfl (Nat.le_of_ble_eq_true rfl) (Nat.le_of_ble_eq_true rfl) ?_
      exact ⟨by rw [if_neg (by omega)], X2, W2⟩
    · rw [Int32.lt_iff_toInt_lt, ti_0] at c2
      refine sg_iload_n dX7_drawn_17 rfl ?_
      refine sg_iconst 1 dX7_drawn_18 (by decide) ?_
      refine sg_icmp_lt 44 dX7_drawn_19 (by decide) (fun c3 => ?_) (fun c3 => ?_)
      · rw [Int32.lt_iff_toInt_lt, ti_1] at c3
        refine sg_iconst (-1) dX7_drawn_44 (by decide) ?_
        refine sg_ireturn dX7_drawn_45 rfl (Nat.le_of_ble_eq_true rfl) (Nat.le_of_ble_eq_true rfl) ?_
        exact ⟨by rw [if_neg (by omega)], X2, W2⟩
      · rw [Int32.lt_iff_toInt_lt, ti_1] at c3
        refine sg_iload_n dX7_drawn_22 rfl ?_
        refine sg_aload_n dX7_drawn_23 rfl ?_
        refine sg_get dX7_drawn_24 fl_X7_16 (by first | rfl | assumption) rfl ?_
        refine sg_iload_n dX7_drawn_27 rfl ?_
        refine sg_ald (i.toInt.toNat) dX7_drawn_28 (by first | rfl | assumption) ((sm_toN c1.1).1) (by omega) (by decide) ?_
        rw [b26]
        refine sg_icmp_gt 44 dX7_drawn_29 (by decide) (fun c4 => ?_) (fun c4 => ?_)
        · rw [Int32.lt_iff_toInt_lt, nI_toInt (by omega)] at c4
          refine sg_iconst (-1) dX7_drawn_44 (by decide) ?_
          refine sg_ireturn dX7_drawn_45 rfl (Nat.le_of_ble_eq_true rfl) (Nat.le_of_ble_eq_true rfl) ?_
          exact ⟨by rw [if_neg (by omega)], X2, W2⟩
        · rw [Int32.lt_iff_toInt_lt, nI_toInt (by omega)] at c4
          have hni : n = nI n.toInt.toNat := sm_asN (by omega)
          have hji : j = nI j.toInt.toNat := sm_asN (by omega)
          have hsub : (nI (ln i.toInt.toNat) - n).toInt = (ln i.toInt.toNat : Int) - n.toInt := by
            rw [hni, pk_sub_toInt (by omega) (by omega), nI_toInt (by omega)]
          refine sg_iload_n dX7_drawn_32 rfl ?_
          refine sg_aload_n dX7_drawn_33 rfl ?_
          refine sg_get dX7_drawn_34 fl_X7_16 (by first | rfl | assumption) rfl ?_
          refine sg_iload_n dX7_drawn_37 rfl ?_
          refine sg_ald (i.toInt.toNat) dX7_drawn_38 (by first | rfl | assumption) ((sm_toN c1.1).1) (by omega) (by decide) ?_
          refine sg_iload_n dX7_drawn_39 rfl ?_
          refine sg_isub dX7_drawn_40 ?_
          rw [b26]
          refine sg_icmp_le 46 dX7_drawn_41 (by decide) (fun c5 => ?_) (fun c5 => ?_)
          · rw [Int32.le_iff_toInt_le, hsub] at c5
            have hsum : j + n = nI (j.toInt.toNat + n.toInt.toNat) := by
              rw [← nI_add, ← hji, ← hni]
            have key : sm_mleast (A 24) (80 * i.toInt.toNat + j.toInt.toNat) n.toInt.toNat = sm_least (fg i.toInt.toNat) j.toInt.toNat n.toInt.toNat := by
              rw [(sm_least_ok (f := fg i.toInt.toNat) (a := j.toInt.toNat) n.toInt.toNat (fun t ht => hgr _ hi _ (by omega)) (by omega)).1]
              exact sm_mleast_sh _ (fun k hk => by rw [Nat.add_assoc]; exact (bN _ (by omega)).1)
            refine sg_aload_n dX7_drawn_46 rfl ?_
            refine sg_iload_n dX7_drawn_47 rfl ?_
            refine sg_iload_n dX7_drawn_48 rfl ?_
            refine sg_iload_n dX7_drawn_49 rfl ?_
            refine sg_iload_n dX7_drawn_50 rfl ?_
            refine sg_iadd dX7_drawn_51 ?_
            refine sg_V3 dX7_drawn_52 cv_X7_116 h23 (c_leastOf (sm_toN c1.1).1 hji hsum (by omega) (by omega) hm) (Nat.le_of_ble_eq_true rfl) (Nat.le_of_ble_eq_true rfl) (Nat.le_of_ble_eq_true rfl) (Nat.le_of_ble_eq_true rfl) (fun r9 M9 hp => ?_)
            obtain ⟨rfl, e9⟩ := hp
            rw [e9]
            refine sg_ireturn dX7_drawn_55 rfl (Nat.le_of_ble_eq_true rfl) (Nat.le_of_ble_eq_true rfl) ?_
            exact ⟨by rw [if_pos ⟨c1.1, by omega, by omega, by omega⟩, key], X2, W2⟩
          · rw [Int32.le_iff_toInt_le, hsub] at c5
            refine sg_iconst (-1) dX7_drawn_44 (by decide) ?_
            refine sg_ireturn dX7_drawn_45 rfl (Nat.le_of_ble_eq_true rfl) (Nat.le_of_ble_eq_true rfl) ?_
            exact ⟨by rw [if_neg (by omega)], X2, W2⟩
theorem lp_mtale {x i w : Int32} {Post : Option Value → sm_M → Prop} (hw : 0 ≤ w.toInt ∧ w.toInt ≤ 2) (hz : τ.1 ≤ 200) (hW : sm_W M 0 c ln fg fm ow nm r1 r2 r3 fame cu it yr τ dc ws to gr sp pd hb) :
    ∀ (r e : Nat) (bf : Int32), e + r = τ.1 → Post (some (.int (sm_tv τ w (sm_pl τ.2.1 x i r e bf)))) M → sm_G l b D cA yX7_tale cX7_tale 6 (some .int) 1 0 0 Post 0 0 26 [some (.ref 23), some (.int x), some (.int i), some (.int w), some (.int (i - bf)), some (.int (nI e))] [] M := by
  obtain ⟨I, A, hm, h7, ha, hbb, ht, hdd, hh⟩ := id hW
  obtain ⟨h23, h24, h25, h26, h27, h28, h29, h30, h31, h32, h33, h34, h35, h36, h37, h38, h39⟩ := id hm
  intro r
  induction r with
  | zero =>
    intro e bf he hP
    have ee : e = τ.1 := by omega
    subst ee
    rw [show sm_pl τ.2.1 x i 0 τ.1 bf = -1 from rfl, sm_tv_m1] at hP
    refine sg_iload dX7_tale_26 rfl ?_
    refine sg_aload_n dX7_tale_28 rfl ?_
    refine sg_get dX7_tale_29 fl_X7_78 (by first | rfl | assumption) rfl ?_
    rw [ht.1]
    refine sg_icmp_ge 79 dX7_tale_32 (by decide) (fun c1 => ?_) (fun c1 => ?_)
    · refine sg_iconst (-1) dX7_tale_79 (by decide) ?_
      refine sg_ireturn dX7_tale_80 rfl (Nat.le_of_ble_eq_true rfl) (Nat.le_of_ble_eq_true rfl) ?_
      exact hP
    · exact absurd (nI_le (Nat.le_refl _) (by omega)) c1
  | succ r ih =>
    intro e bf he hP
    obtain ⟨t0, t1, t2, t3⟩ := ht.2 e (by omega)
    unfold sm_pl at hP
    have h4 : (4 : Int32) * nI e = nI (4 * e) := by
      rw [show (4 : Int32) = nI 4 from by decide, pk_mul]
    refine sg_iload dX7_tale_26 rfl ?_
    refine sg_aload_n dX7_tale_28 rfl ?_
    refine sg_get dX7_tale_29 fl_X7_78 (by first | rfl | assumption) rfl ?_
    rw [ht.1]
    refine sg_icmp_ge 79 dX7_tale_32 (by decide) (fun c1 => ?_) (fun c1 => ?_)
    · exact absurd c1 (nI_ge (by omega) (by omega))
    · refine sg_aload_n dX7_tale_35 rfl ?_
      refine sg_get dX7_tale_36 fl_X7_44 (by first | rfl | assumption) rfl ?_
      refine sg_iconst 4 dX7_tale_39 (by decide) ?_
      refine sg_iload dX7_tale_40 rfl ?_
      refine sg_imul dX7_tale_42 ?_
      refine sg_ald (4 * e) dX7_tale_43 (by first | rfl | assumption) (h4) (by omega) (by decide) ?_
      refine sg_iload_n dX7_tale_44 rfl ?_
      rw [t0]
      refine sg_icmp_eq 51 dX7_tale_45 (by decide) (fun c2 => ?_) (fun c2 => ?_)
      · rw [if_pos c2] at hP
        refine sg_iload dX7_tale_51 rfl ?_
        refine sg_if_ne 70 dX7_tale_53 (by decide) (fun c3 => ?_) (fun c3 => ?_)
        · rw [sm_left0] at c3
          rw [if_neg c3] at hP
          refine sg_iinc _ dX7_tale_70 rfl (sm_left i bf) (by decide) ?_
          refine sg_iinc _ dX7_tale_73 rfl (sm_inc e) (by decide) ?_
          refine sg_goto 26 dX7_tale_76 (by decide) ?_
          exact ih (e + 1) (bf + 1) (by omega) hP
        · rw [sm_left0] at c3
          rw [if_pos c3] at hP
          have hw' := sm_asN hw.1
          have hidx : (4 : Int32) * nI e + 1 + w = nI (4 * e + 1 + w.toInt.toNat) := by
            rw [h4, ← nI_add, ← nI_add, ← hw']
            rfl
          refine sg_aload_n dX7_tale_56 rfl ?_
          refine sg_get dX7_tale_57 fl_X7_44 (by first | rfl | assumption) rfl ?_
          refine sg_iconst 4 dX7_tale_60 (by decide) ?_
          refine sg_iload dX7_tale_61 rfl ?_
          refine sg_imul dX7_tale_63 ?_
          refine sg_iconst 1 dX7_tale_64 (by decide) ?_
          refine sg_iadd dX7_tale_65 ?_
          refine sg_iload_n dX7_tale_66 rfl ?_
          refine sg_iadd dX7_tale_67 ?_
          refine sg_ald (4 * e + 1 + w.toInt.toNat) dX7_tale_68 (by first | rfl | assumption) (hidx) (by omega) (by decide) ?_
          have key : A 32 (4 * e + 1 + w.toInt.toNat) = sm_tv τ w (nI e) := by
            unfold sm_tv
            rw [nI_toInt (by omega), if_pos (by omega), show ((e : Int)).toNat = e from by omega]
            by_cases w0 : w = 0
            · rw [if_pos w0, w0]
              exact t1
            · rw [if_neg w0]
              by_cases w1 : w = 1
              · rw [if_pos w1, w1]
                exact t2
              · rw [if_neg w1]
                have w2 : w = 2 := by
                  rw [← Int32.toInt_inj] at w0 w1 ⊢
                  rw [ti_0] at w0
                  rw [ti_1] at w1
                  rw [ti_2]
                  omega
                rw [if_pos w2, w2]
                exact t3
          rw [key]
          refine sg_ireturn dX7_tale_69 rfl (Nat.le_of_ble_eq_true rfl) (Nat.le_of_ble_eq_true rfl) ?_
          exact hP
      · rw [if_neg c2] at hP
        refine sg_goto 73 dX7_tale_48 (by decide) ?_
        refine sg_iinc _ dX7_tale_73 rfl (sm_inc e) (by decide) ?_
        refine sg_goto 26 dX7_tale_76 (by decide) ?_
        exact ih (e + 1) bf (by omega) hP
theorem m_tale (x i w : Int32) (hz : τ.1 ≤ 200) (hev : ∀ e, e < τ.1 → 0 < (τ.2.1 e).toInt ∧ (τ.2.1 e).toInt ≤ 99) (hW : sm_W M th c ln fg fm ow nm r1 r2 r3 fame cu it yr τ dc ws to gr sp pd hb) : sm_Ct l b D cA yX7_tale cX7_tale 6 (some .int) 1 0 0 [.ref 23, .int x, .int i, .int w] M (fun r M1 => r = some (.int (if 0 < x.toInt ∧ x.toInt ≤ 99 then sm_tv τ w (sm_pl τ.2.1 x i τ.1 0 0) else -1)) ∧ sm_ex M M1 sm_ml ∧ sm_W M1 0 c ln fg fm ow nm r1 r2 r3 fame cu it yr τ dc ws to gr sp pd hb) := by
  rw [sm_pl_x hev]
  obtain ⟨I, A, hm, h7, ha, hbb, ht, hdd, hh⟩ := id hW
  obtain ⟨h23, h24, h25, h26, h27, h28, h29, h30, h31, h32, h33, h34, h35, h36, h37, h38, h39⟩ := id hm
  refine sm_enter (by decide +kernel) rfl (fun _ => Nat.le_of_ble_eq_true rfl) ?_
  refine sg_aload_n dX7_tale_0 rfl ?_
  refine sg_iconst 0 dX7_tale_1 (by decide) ?_
  refine sg_putx dX7_tale_2 fl_X7_68 ft_X7_18 h23 (Nat.le_of_ble_eq_true rfl) (fun M2 x2 q2 => ?_)
  have W2 : sm_W M2 0 c ln fg fm ow nm r1 r2 r3 fame cu it yr τ dc ws to gr sp pd hb := ⟨upd I 7 0, A, hm.o x2 q2, rfl, ha, hbb, ht, hdd, hh⟩
  have X2 : sm_ex M M2 sm_ml := x2.mono (by decide)
  clear q2 x2 hh hdd ht hbb ha h7 hm h23 h24 h25 h26 h27 h28 h29 h30 h31 h32 h33 h34 h35 h36 h37 h38 h39
  obtain ⟨I, A, hm, h7, ha, hbb, ht, hdd, hh⟩ := id W2
  obtain ⟨h23, h24, h25, h26, h27, h28, h29, h30, h31, h32, h33, h34, h35, h36, h37, h38, h39⟩ := id hm
  refine sg_iload_n dX7_tale_5 rfl ?_
  refine sg_if_lt 18 dX7_tale_6 (by decide) (fun c1 => ?_) (fun c1 => ?_)
  · rw [Int32.lt_iff_toInt_lt, ti_0] at c1
    refine sg_iconst (-1) dX7_tale_18 (by decide) ?_
    refine sg_ireturn dX7_tale_19 rfl (Nat.le_of_ble_eq_true rfl) (Nat.le_of_ble_eq_true rfl) ?_
    refine ⟨?_, X2, W2⟩
    have := sm_pl_neg (f := τ.2.1) (x := x) c1 τ.1 0 0 (by omega)
    rw [show sm_pl τ.2.1 x i τ.1 0 0 = -1 from this, sm_tv_m1]
  · refine sg_iload_n dX7_tale_9 rfl ?_
    refine sg_iconst 0 dX7_tale_10 (by decide) ?_
    refine sg_iconst 2 dX7_tale_11 (by decide) ?_
    refine sg_S3 dX7_tale_12 cs_X7_74 (c_in _ _ _) (Nat.le_of_ble_eq_true rfl) (Nat.le_of_ble_eq_true rfl) (Nat.le_of_ble_eq_true rfl) (Nat.le_of_ble_eq_true rfl) (fun r M1 hp => ?_)
    obtain ⟨rfl, e9⟩ := hp; rw [e9]
    refine sg_bf_ne 20 dX7_tale_15 (by decide) (fun c2 => ?_) (fun c2 => ?_)
    · rw [ti_0, ti_2] at c2
      refine sg_iload_n dX7_tale_20 rfl ?_
      refine sg_eqL (show i = i - 0 from by grind) ?_
      refine sg_istore dX7_tale_21 (by decide) ?_
      refine sg_iconst (nI 0) dX7_tale_23 (by decide) ?_
      refine sg_istore dX7_tale_24 (by decide) ?_
      exact lp_mtale c2 hz W2 τ.1 0 0 (by omega) ⟨rfl, X2, W2⟩
    · rw [ti_0, ti_2] at c2
      refine sg_iconst (-1) dX7_tale_18 (by decide) ?_
      refine sg_ireturn dX7_tale_19 rfl (Nat.le_of_ble_eq_true rfl) (Nat.le_of_ble_eq_true rfl) ?_
      exact ⟨by rw [sm_tv_w c2], X2, W2⟩
theorem lp_mturn {s : Nat} {x : Int32} {Post : Option Value → sm_M → Prop} (hx : x = nI s) (hs : s < c) (hc : c ≤ 40) (hln : ∀ t, t < c → ln t ≤ 80)
    (hP : ∀ M1 : sm_M, sm_ex M M1 sm_ml → sm_W M1 0 c ln (va_up fg s (fun j => if j < ln s then fg s (ln s - 1 - j) else fg s j)) (va_up fm s (fun j => if j < ln s then fm s (ln s - 1 - j) else fm s j)) ow nm r1 r2 r3 fame cu it yr τ dc ws to gr sp pd hb → Post (some (.int 1)) M1) :
    ∀ (r t : Nat) (M1 : sm_M) (x3 x4 x5 x6 : Option Value), t + r = ln s / 2 → sm_ex M M1 sm_ml → sm_W M1 0 c ln (va_up fg s (sm_rv (fg s) (ln s) t)) (va_up fm s (sm_rv (fm s) (ln s) t)) ow nm r1 r2 r3 fame cu it yr τ dc ws to gr sp pd hb → sm_G l b D cA yX7_turn cX7_turn 7 (some .boolean) 2 0 0 Post 0 0 17 [some (.ref 23), some (.int x), some (.int (nI t)), x3, x4, x5, x6] [] M1 := by
  subst hx
  have h80 := hln s hs
  intro r
  induction r with
  | zero =>
    intro t M1 x3 x4 x5 x6 hk hx hW
    have hW' := hW
    rw [sm_rve _ (by omega) (by omega), sm_rve _ (by omega) (by omega)] at hW'
    obtain ⟨I, A, hm, h7, ha, hbb, ht, hdd, hh⟩ := id hW
    obtain ⟨h23, h24, h25, h26, h27, h28, h29, h30, h31, h32, h33, h34, h35, h36, h37, h38, h39⟩ := id hm
    obtain ⟨b26, b27, b28, bN⟩ := ha.2 s hs
    refine sg_iload_n dX7_turn_17 rfl ?_
    refine sg_aload_n dX7_turn_18 rfl ?_
    refine sg_get dX7_turn_19 fl_X7_16 (by first | rfl | assumption) rfl ?_
    refine sg_iload_n dX7_turn_22 rfl ?_
    refine sg_ald (s) dX7_turn_23 (by first | rfl | assumption) (rfl) (by omega) (by decide) ?_
    refine sg_iconst 2 dX7_turn_24 (by decide) ?_
    refine sg_idiv dX7_turn_25 (by decide) ?_
    rw [b26, show (2 : Int32) = nI 2 from by decide, pk_div (by omega) (by omega) (by omega)]
    refine sg_icmp_ge 119 dX7_turn_26 (by decide) (fun c1 => ?_) (fun c1 => ?_)
    · refine sg_iconst 1 dX7_turn_119 (by decide) ?_
      refine sg_zreturn dX7_turn_120 rfl (by first | decide | assumption) (Nat.le_of_ble_eq_true rfl) (Nat.le_of_ble_eq_true rfl) ?_
      exact hP M1 hx hW'
    · exact absurd (nI_le (by omega) (by omega)) c1
  | succ r ih =>
    intro t M1 x3 x4 x5 x6 hk hx hW
    obtain ⟨I, A, hm, h7, ha, hbb, ht, hdd, hh⟩ := id hW
    obtain ⟨h23, h24, h25, h26, h27, h28, h29, h30, h31, h32, h33, h34, h35, h36, h37, h38, h39⟩ := id hm
    obtain ⟨b26, b27, b28, bN⟩ := ha.2 s hs
    rw [va_up_self, va_up_self] at bN
    have hyy : nI (80 * s + ln s) - 1 - nI t = nI (80 * s + (ln s - 1 - t)) := by
      rw [show (1 : Int32) = nI 1 from by decide, pk_sub (by omega), pk_sub (by omega), show 80 * s + ln s - 1 - t = 80 * s + (ln s - 1 - t) from by omega]
    refine sg_iload_n dX7_turn_17 rfl ?_
    refine sg_aload_n dX7_turn_18 rfl ?_
    refine sg_get dX7_turn_19 fl_X7_16 (by first | rfl | assumption) rfl ?_
    refine sg_iload_n dX7_turn_22 rfl ?_
    refine sg_ald (s) dX7_turn_23 (by first | rfl | assumption) (rfl) (by omega) (by decide) ?_
    refine sg_iconst 2 dX7_turn_24 (by decide) ?_
    refine sg_idiv dX7_turn_25 (by decide) ?_
    rw [b26, show (2 : Int32) = nI 2 from by decide, pk_div (by omega) (by omega) (by omega)]
    refine sg_icmp_ge 119 dX7_turn_26 (by decide) (fun c1 => ?_) (fun c1 => ?_)
    · exact absurd c1 (nI_ge (by omega) (by omega))
    · refine sg_bipush 80 dX7_turn_29 (by decide) ?_
      refine sg_iload_n dX7_turn_31 rfl ?_
      refine sg_imul dX7_turn_32 ?_
      refine sg_iload_n dX7_turn_33 rfl ?_
      refine sg_iadd dX7_turn_34 ?_
      rw [sm_80]
      refine sg_istore_n dX7_turn_35 (by decide) ?_
      refine sg_bipush 80 dX7_turn_36 (by decide) ?_
      refine sg_iload_n dX7_turn_38 rfl ?_
      refine sg_imul dX7_turn_39 ?_
      refine sg_aload_n dX7_turn_40 rfl ?_
      refine sg_get dX7_turn_41 fl_X7_16 (by first | rfl | assumption) rfl ?_
      refine sg_iload_n dX7_turn_44 rfl ?_
      refine sg_ald (s) dX7_turn_45 (by first | rfl | assumption) (rfl) (by omega) (by decide) ?_
      refine sg_iadd dX7_turn_46 ?_
      rw [b26, sm_80]
      refine sg_iconst 1 dX7_turn_47 (by decide) ?_
      refine sg_isub dX7_turn_48 ?_
      refine sg_iload_n dX7_turn_49 rfl ?_
      refine sg_isub dX7_turn_50 ?_
      rw [hyy]
      refine sg_istore dX7_turn_51 (by decide) ?_
      refine sg_aload_n dX7_turn_53 rfl ?_
      refine sg_get dX7_turn_54 fl_X7_9 (by first | rfl | assumption) rfl ?_
      refine sg_iload_n dX7_turn_57 rfl ?_
      refine sg_ald (80 * s + t) dX7_turn_58 (by first | rfl | assumption) (rfl) (by omega) (by decide) ?_
      refine sg_istore dX7_turn_59 (by decide) ?_
      refine sg_aload_n dX7_turn_61 rfl ?_
      refine sg_get dX7_turn_62 fl_X7_13 (by first | rfl | assumption) rfl ?_
      refine sg_iload_n dX7_turn_65 rfl ?_
      refine sg_ald (80 * s + t) dX7_turn_66 (by first | rfl | assumption) (rfl) (by omega) (by decide) ?_
      refine sg_istore dX7_turn_67 (by decide) ?_
      refine sg_aload_n dX7_turn_69 rfl ?_
      refine sg_get dX7_turn_70 fl_X7_9 (by first | rfl | assumption) rfl ?_
      refine sg_iload_n dX7_turn_73 rfl ?_
      refine sg_aload_n dX7_turn_74 rfl ?_
      refine sg_get dX7_turn_75 fl_X7_9 (by first | rfl | assumption) rfl ?_
      refine sg_iload dX7_turn_78 rfl ?_
      refine sg_ald (80 * s + (ln s - 1 - t)) dX7_turn_80 (by first | rfl | assumption) (rfl) (by omega) (by decide) ?_
      refine sg_astx (80 * s + t) dX7_turn_81 h24 rfl (by omega) (by decide) (fun M2 y2 g2 => ?_)
      have a23 := (y2.2 23 (by decide)).trans h23
      have a25 := (y2.2 25 (by decide)).trans h25
      refine sg_aload_n dX7_turn_82 rfl ?_
      refine sg_get dX7_turn_83 fl_X7_13 (by first | rfl | assumption) rfl ?_
      refine sg_iload_n dX7_turn_86 rfl ?_
      refine sg_aload_n dX7_turn_87 rfl ?_
      refine sg_get dX7_turn_88 fl_X7_13 (by first | rfl | assumption) rfl ?_
      refine sg_iload dX7_turn_91 rfl ?_
      refine sg_ald (80 * s + (ln s - 1 - t)) dX7_turn_93 (by first | rfl | assumption) (rfl) (by omega) (by decide) ?_
      refine sg_astx (80 * s + t) dX7_turn_94 a25 rfl (by omega) (by decide) (fun M3 y3 g3 => ?_)
      have b23 := (y3.2 23 (by decide)).trans a23
      have b24 := (y3.2 24 (by decide)).trans g2
      refine sg_aload_n dX7_turn_95 rfl ?_
      refine sg_get dX7_turn_96 fl_X7_9 (by first | rfl | assumption) rfl ?_
      refine sg_iload dX7_turn_99 rfl ?_
      refine sg_iload dX7_turn_101 rfl ?_
      refine sg_astx (80 * s + (ln s - 1 - t)) dX7_turn_103 b24 rfl (by omega) (by decide) (fun M4 y4 g4 => ?_)
      have d23 := (y4.2 23 (by decide)).trans b23
      have d25 := (y4.2 25 (by decide)).trans g3
      refine sg_aload_n dX7_turn_104 rfl ?_
      refine sg_get dX7_turn_105 fl_X7_13 (by first | rfl | assumption) rfl ?_
      refine sg_iload dX7_turn_108 rfl ?_
      refine sg_iload dX7_turn_110 rfl ?_
      refine sg_astx (80 * s + (ln s - 1 - t)) dX7_turn_112 d25 rfl (by omega) (by decide) (fun M5 y5 g5 => ?_)
      refine sg_iinc _ dX7_turn_113 rfl (sm_inc t) (by decide) ?_
      refine sg_goto 17 dX7_turn_116 (by decide) ?_
      refine ih (t + 1) M5 _ _ _ _ (by omega) (hx.tr ((y2.mono (by decide)).tr ((y3.mono (by decide)).tr ((y4.mono (by decide)).tr (y5.mono (by decide)))))) ⟨I, _, (((hm.u24 y2 g2).u25 y3 g3).u24 y4 g4).u25 y5 g5, h7, ?_, hbb, ht, hdd, hh⟩
      have hra : ∀ A1 : Nat → Nat → Int32, A1 24 = upd (upd (A 24) (80 * s + t) (A 24 (80 * s + (ln s - 1 - t)))) (80 * s + (ln s - 1 - t)) (A 24 (80 * s + t)) → A1 25 = upd (upd (A 25) (80 * s + t) (A 25 (80 * s + (ln s - 1 - t)))) (80 * s + (ln s - 1 - t)) (A 25 (80 * s + t)) → A1 26 = A 26 → A1 27 = A 27 → A1 28 = A 28 → sm_Ra I A1 c ln (va_up fg s (sm_rv (fg s) (ln s) (t + 1))) (va_up fm s (sm_rv (fm s) (ln s) (t + 1))) ow nm := fun A1 e24 e25 e26 e27 e28 => by
        have := ha.up (I1 := I) (A1 := A1) (c1 := c) (s := s) (n := ln s) (g1 := sm_rv (fg s) (ln s) (t + 1)) (m1 := sm_rv (fm s) (ln s) (t + 1)) (o := ow s) (a := nm s) hln ha.1 (fun t h1 _ => h1) (by rw [e26]; exact b26) (by rw [e27]; exact b27) (by rw [e28]; exact b28) (fun t ht => ⟨by rw [e26], by rw [e27], by rw [e28]⟩) (fun j hj => by
          rw [e24, e25]
          unfold upd
          rw [if_neg (by omega), if_neg (by omega), if_neg (by omega), if_neg (by omega)]
          exact ⟨rfl, rfl⟩) (fun k hk => by
          rw [e24, e25, ← sm_rvs (fg s) (by omega), ← sm_rvs (fm s) (by omega)]
          exact ⟨sm_swp (fun k hk => (bN k hk).1) (by omega) (by omega) hk, sm_swp (fun k hk => (bN k hk).2) (by omega) (by omega) hk⟩)
        rw [va_up_id, va_up_id, va_up_id, va_up_up, va_up_up] at this
        exact this
      exact hra _ rfl rfl rfl rfl rfl
theorem m_turn (i : Int32) (hc : c ≤ 40) (hln : ∀ t, t < c → ln t ≤ 80) (hW : sm_W M th c ln fg fm ow nm r1 r2 r3 fame cu it yr τ dc ws to gr sp pd hb) : sm_Ct l b D cA yX7_turn cX7_turn 7 (some .boolean) 2 0 0 [.ref 23, .int i] M (fun r M1 => sm_ex M M1 sm_ml ∧ (((0 ≤ i.toInt ∧ i.toInt < c) ∧ 0 < ln i.toInt.toNat) → r = some (.int 1) ∧ sm_W M1 0 c ln (va_up fg i.toInt.toNat (fun j => if j < ln i.toInt.toNat then fg i.toInt.toNat (ln i.toInt.toNat - 1 - j) else fg i.toInt.toNat j)) (va_up fm i.toInt.toNat (fun j => if j < ln i.toInt.toNat then fm i.toInt.toNat (ln i.toInt.toNat - 1 - j) else fm i.toInt.toNat j)) ow nm r1 r2 r3 fame cu it yr τ dc ws to gr sp pd hb) ∧ (¬ ((0 ≤ i.toInt ∧ i.toInt < c) ∧ 0 < ln i.toInt.toNat) → r = some (.int 0) ∧ sm_W M1 0 c ln fg fm ow nm r1 r2 r3 fame cu it yr τ dc ws to gr sp pd hb)) := by
  obtain ⟨I, A, hm, h7, ha, hbb, ht, hdd, hh⟩ := id hW
  obtain ⟨h23, h24, h25, h26, h27, h28, h29, h30, h31, h32, h33, h34, h35, h36, h37, h38, h39⟩ := id hm
  refine sm_enter (by decide +kernel) rfl (fun _ => Nat.le_of_ble_eq_true rfl) ?_
  refine sg_aload_n dX7_turn_0 rfl ?_
  refine sg_iconst 0 dX7_turn_1 (by decide) ?_
  refine sg_putx dX7_turn_2 fl_X7_68 ft_X7_18 h23 (Nat.le_of_ble_eq_true rfl) (fun M2 x2 q2 => ?_)
  have W2 : sm_W M2 0 c ln fg fm ow nm r1 r2 r3 fame cu it yr τ dc ws to gr sp pd hb := ⟨upd I 7 0, A, hm.o x2 q2, rfl, ha, hbb, ht, hdd, hh⟩
  have X2 : sm_ex M M2 sm_ml := x2.mono (by decide)
  clear q2 x2 hh hdd ht hbb ha h7 hm h23 h24 h25 h26 h27 h28 h29 h30 h31 h32 h33 h34 h35 h36 h37 h38 h39
  obtain ⟨I, A, hm, h7, ha, hbb, ht, hdd, hh⟩ := id W2
  obtain ⟨h23, h24, h25, h26, h27, h28, h29, h30, h31, h32, h33, h34, h35, h36, h37, h38, h39⟩ := id hm
  refine sg_aload_n dX7_turn_5 rfl ?_
  refine sg_iload_n dX7_turn_6 rfl ?_
  refine sg_V1 dX7_turn_7 cv_X7_95 h23 (w_isThere i hc hln W2) (Nat.le_of_ble_eq_true rfl) (Nat.le_of_ble_eq_true rfl) (Nat.le_of_ble_eq_true rfl) (Nat.le_of_ble_eq_true rfl) (fun r M1 hp => ?_)
  obtain ⟨rfl, e9⟩ := hp; rw [e9]
  refine sg_bf_ne 15 dX7_turn_10 (by decide) (fun c1 => ?_) (fun c1 => ?_)
  · have hi := (sm_toN c1.1).2
    refine sg_iconst (nI 0) dX7_turn_15 (by decide) ?_
    refine sg_istore_n dX7_turn_16 (by decide) ?_
    refine lp_mturn (M := M2) (fg := fg) (fm := fm) (sm_toN c1.1).1 hi hc hln (fun M1 x1 W1 => ⟨X2.tr x1, fun _ => ⟨rfl, W1⟩, fun q => absurd c1 q⟩) (ln i.toInt.toNat / 2) 0 M2 _ _ _ _ (by omega) sm_ex.rf ?_
    rw [sm_rv0, sm_rv0, va_up_id, va_up_id]
    exact W2
  · refine sg_iconst 0 dX7_turn_13 (by decide) ?_
    refine sg_zreturn dX7_turn_14 rfl (by first | decide | assumption) (Nat.le_of_ble_eq_true rfl) (Nat.le_of_ble_eq_true rfl) ?_
    exact ⟨X2, fun q => absurd q c1, fun _ => ⟨rfl, W2⟩⟩
theorem m_of (i w : Int32) (hc : c ≤ 40) (hln : ∀ t, t < c → ln t ≤ 80) (hnm : ∀ t, t < c → 0 ≤ (nm t).toInt) (hgr : ∀ s, s < c → ∀ k, k < ln s → 0 ≤ (fg s k).toInt ∧ (fg s k).toInt < 5) (hr3 : ∀ j, j < 5 → 1 ≤ (r3 j).toInt) (hr4 : ∀ j, j < 5 → r4 j = nI (sm_cg fg ln (nI j) c)) (hW : sm_W M th c ln fg fm ow nm r1 r2 r3 fame cu it yr τ dc ws to gr sp pd hb) : sm_Ct l b D cA yX7_of cX7_of 3 (some .int) 3 0 0 [.ref 23, .int i, .int w] M (fun r M1 => sm_ex M M1 sm_ml ∧ (((0 ≤ i.toInt ∧ i.toInt < c) ∧ (0 ≤ w.toInt ∧ w.toInt ≤ 6)) → r = some (.int (sm_ofv r1 r2 r3 r4 fame ln (sm_js fg ln) fg fm ow nm i.toInt.toNat w)) ∧ sm_W M1 0 c ln fg fm ow nm r1 r2 r3 fame cu it yr τ dc ws to gr sp pd hb) ∧ (¬ ((0 ≤ i.toInt ∧ i.toInt < c) ∧ (0 ≤ w.toInt ∧ w.toInt ≤ 6)) → r = some (.int 0) ∧ sm_W M1 1 c ln fg fm ow nm r1 r2 r3 fame cu it yr τ dc ws to gr sp pd hb)) := by
  obtain ⟨I, A, hm, h7, ha, hbb, ht, hdd, hh⟩ := id hW
  obtain ⟨h23, h24, h25, h26, h27, h28, h29, h30, h31, h32, h33, h34, h35, h36, h37, h38, h39⟩ := id hm
  refine sm_enter (by decide +kernel) rfl (fun _ => Nat.le_of_ble_eq_true rfl) ?_
  refine sg_aload_n dX7_of_0 rfl ?_
  refine sg_iconst 0 dX7_of_1 (by decide) ?_
  refine sg_putx dX7_of_2 fl_X7_68 ft_X7_18 h23 (Nat.le_of_ble_eq_true rfl) (fun M2 x2 q2 => ?_)
  have W2 : sm_W M2 0 c ln fg fm ow nm r1 r2 r3 fame cu it yr τ dc ws to gr sp pd hb := ⟨upd I 7 0, A, hm.o x2 q2, rfl, ha, hbb, ht, hdd, hh⟩
  have X2 : sm_ex M M2 sm_ml := x2.mono (by decide)
  clear q2 x2 hh hdd ht hbb ha h7 hm h23 h24 h25 h26 h27 h28 h29 h30 h31 h32 h33 h34 h35 h36 h37 h38 h39
  obtain ⟨I, A, hm, h7, ha, hbb, ht, hdd, hh⟩ := id W2
  obtain ⟨h23, h24, h25, h26, h27, h28, h29, h30, h31, h32, h33, h34, h35, h36, h37, h38, h39⟩ := id hm
  have hbad : ∀ (Post : Option Value → sm_M → Prop), (∀ M1 : sm_M, sm_ex M2 M1 sm_ml → sm_W M1 1 c ln fg fm ow nm r1 r2 r3 fame cu it yr τ dc ws to gr sp pd hb → Post (some (.int 0)) M1) → sm_G l b D cA yX7_of cX7_of 3 (some .int) 3 0 0 Post 0 0 29 [some (.ref 23), some (.int i), some (.int w)] [] M2 := fun Post hP => by
    refine sg_aload_n dX7_of_29 rfl ?_
    refine sg_iconst 1 dX7_of_30 (by decide) ?_
    refine sg_putx dX7_of_31 fl_X7_68 ft_X7_18 h23 (Nat.le_of_ble_eq_true rfl) (fun M3 x3 q3 => ?_)
    refine sg_iconst 0 dX7_of_34 (by decide) ?_
    refine sg_ireturn dX7_of_35 rfl (Nat.le_of_ble_eq_true rfl) (Nat.le_of_ble_eq_true rfl) ?_
    exact hP M3 (x3.mono (by decide)) ⟨upd I 7 1, A, hm.o x3 q3, rfl, ha, hbb, ht, hdd, hh⟩
  refine sg_iload_n dX7_of_5 rfl ?_
  refine sg_iconst 0 dX7_of_6 (by decide) ?_
  refine sg_aload_n dX7_of_7 rfl ?_
  refine sg_get dX7_of_8 fl_X7_71 (by first | rfl | assumption) rfl ?_
  refine sg_iconst 1 dX7_of_11 (by decide) ?_
  refine sg_isub dX7_of_12 ?_
  refine sg_S3 dX7_of_13 cs_X7_74 (c_in _ _ _) (Nat.le_of_ble_eq_true rfl) (Nat.le_of_ble_eq_true rfl) (Nat.le_of_ble_eq_true rfl) (Nat.le_of_ble_eq_true rfl) (fun r M1 hp => ?_)
  obtain ⟨rfl, e9⟩ := hp; rw [e9]
  rw [ha.1]
  refine sg_bf_eq 29 dX7_of_16 (by decide) (fun c1 => ?_) (fun c1 => ?_)
  · rw [ti_0, sm_pred (by omega)] at c1
    exact hbad _ (fun M1 x1 W1 => ⟨X2.tr x1, fun q => absurd q (by omega), fun _ => ⟨rfl, W1⟩⟩)
  · rw [ti_0, sm_pred (by omega)] at c1
    have c1' : 0 ≤ i.toInt ∧ i.toInt < c := by omega
    refine sg_iload_n dX7_of_19 rfl ?_
    refine sg_iconst 0 dX7_of_20 (by decide) ?_
    refine sg_bipush 6 dX7_of_21 (by decide) ?_
    refine sg_S3 dX7_of_23 cs_X7_74 (c_in _ _ _) (Nat.le_of_ble_eq_true rfl) (Nat.le_of_ble_eq_true rfl) (Nat.le_of_ble_eq_true rfl) (Nat.le_of_ble_eq_true rfl) (fun r M1 hp => ?_)
    obtain ⟨rfl, e9⟩ := hp; rw [e9]
    refine sg_bf_ne 36 dX7_of_26 (by decide) (fun c2 => ?_) (fun c2 => ?_)
    · rw [ti_0, ti_6] at c2
      have hi := (sm_toN c1').2
      have hii := (sm_toN c1').1
      have h80 := hln _ hi
      obtain ⟨b26, b27, b28, bN⟩ := ha.2 _ hi
      unfold sm_ofv
      have hok : ∀ (v z : Int32), v = z → sm_ex M M2 sm_ml ∧ (((0 ≤ i.toInt ∧ i.toInt < c) ∧ (0 ≤ w.toInt ∧ w.toInt ≤ 6)) → some (Value.int v) = some (.int z) ∧ sm_W M2 0 c ln fg fm ow nm r1 r2 r3 fame cu it yr τ dc ws to gr sp pd hb) ∧ (¬ ((0 ≤ i.toInt ∧ i.toInt < c) ∧ (0 ≤ w.toInt ∧ w.toInt ≤ 6)) → some (Value.int v) = some (.int 0) ∧ sm_W M2 1 c ln fg fm ow nm r1 r2 r3 fame cu it yr τ dc ws to gr sp pd hb) := fun v z e => ⟨X2, fun _ => ⟨by rw [e], W2⟩, fun q => absurd ⟨c1', c2⟩ q⟩
      refine sg_iload_n dX7_of_36 rfl ?_
      by_cases w0 : w = 0
      · subst w0
        rw [if_pos rfl]
        refine sg_tableIn (off := 39) 76 dX7_of_37 (by decide) (by decide) (by decide +kernel) (by decide) ?_
        refine sg_aload_n dX7_of_76 rfl ?_
        refine sg_get dX7_of_77 fl_X7_16 (by first | rfl | assumption) rfl ?_
        refine sg_iload_n dX7_of_80 rfl ?_
        refine sg_ald (i.toInt.toNat) dX7_of_81 (by first | rfl | assumption) (hii) (by omega) (by decide) ?_
        refine sg_ireturn dX7_of_82 rfl (Nat.le_of_ble_eq_true rfl) (Nat.le_of_ble_eq_true rfl) ?_
        exact hok _ _ b26
      · rw [if_neg w0]
        by_cases w1 : w = 1
        · subst w1
          rw [if_pos rfl]
          refine sg_tableIn (off := 46) 83 dX7_of_37 (by decide) (by decide) (by decide +kernel) (by decide) ?_
          refine sg_aload_n dX7_of_83 rfl ?_
          refine sg_get dX7_of_84 fl_X7_19 (by first | rfl | assumption) rfl ?_
          refine sg_iload_n dX7_of_87 rfl ?_
          refine sg_ald (i.toInt.toNat) dX7_of_88 (by first | rfl | assumption) (hii) (by omega) (by decide) ?_
          refine sg_ireturn dX7_of_89 rfl (Nat.le_of_ble_eq_true rfl) (Nat.le_of_ble_eq_true rfl) ?_
          exact hok _ _ b27
        · rw [if_neg w1]
          by_cases w2 : w = 2
          · subst w2
            rw [if_pos rfl]
            refine sg_tableIn (off := 53) 90 dX7_of_37 (by decide) (by decide) (by decide +kernel) (by decide) ?_
            refine sg_aload_n dX7_of_90 rfl ?_
            refine sg_get dX7_of_91 fl_X7_22 (by first | rfl | assumption) rfl ?_
            refine sg_iload_n dX7_of_94 rfl ?_
            refine sg_ald (i.toInt.toNat) dX7_of_95 (by first | rfl | assumption) (hii) (by omega) (by decide) ?_
            refine sg_ireturn dX7_of_96 rfl (Nat.le_of_ble_eq_true rfl) (Nat.le_of_ble_eq_true rfl) ?_
            exact hok _ _ b28
          · rw [if_neg w2]
            by_cases w3 : w = 3
            · subst w3
              rw [if_pos rfl]
              refine sg_tableIn (off := 60) 97 dX7_of_37 (by decide) (by decide) (by decide +kernel) (by decide) ?_
              refine sg_aload_n dX7_of_97 rfl ?_
              refine sg_get dX7_of_98 fl_X7_16 (by first | rfl | assumption) rfl ?_
              refine sg_iload_n dX7_of_101 rfl ?_
              refine sg_ald (i.toInt.toNat) dX7_of_102 (by first | rfl | assumption) (hii) (by omega) (by decide) ?_
              rw [b26]
              refine sg_if_ne 110 dX7_of_103 (by decide) (fun c3 => ?_) (fun c3 => ?_)
              · have hl0 : 0 < ln i.toInt.toNat := Nat.pos_of_ne_zero (fun q => c3 (by rw [q]; rfl))
                refine sg_aload_n dX7_of_110 rfl ?_
                refine sg_iload_n dX7_of_111 rfl ?_
                refine sg_iconst 0 dX7_of_112 (by decide) ?_
                refine sg_aload_n dX7_of_113 rfl ?_
                refine sg_get dX7_of_114 fl_X7_16 (by first | rfl | assumption) rfl ?_
                refine sg_iload_n dX7_of_117 rfl ?_
                refine sg_ald (i.toInt.toNat) dX7_of_118 (by first | rfl | assumption) (hii) (by omega) (by decide) ?_
                refine sg_V3 dX7_of_119 cv_X7_116 h23 (c_leastOf (a := 0) (m := ln i.toInt.toNat) hii rfl (by rw [b26, Nat.zero_add]) (by omega) (by omega) hm) (Nat.le_of_ble_eq_true rfl) (Nat.le_of_ble_eq_true rfl) (Nat.le_of_ble_eq_true rfl) (Nat.le_of_ble_eq_true rfl) (fun r9 M9 hp => ?_)
                obtain ⟨rfl, e9⟩ := hp
                rw [e9]
                refine sg_ireturn dX7_of_122 rfl (Nat.le_of_ble_eq_true rfl) (Nat.le_of_ble_eq_true rfl) ?_
                refine hok _ _ ?_
                rw [(sm_least_ok (f := fg i.toInt.toNat) (a := 0) (ln i.toInt.toNat) (fun t ht => by rw [Nat.zero_add]; exact hgr _ hi t ht) hl0).1]
                exact sm_mleast_sh _ (fun k hk => by rw [Nat.zero_add]; exact (bN k hk).1)
              · have hl0 : ln i.toInt.toNat = 0 := by
                  rw [← Int32.toInt_inj, nI_toInt (by omega), ti_0] at c3
                  omega
                refine sg_iconst (-1) dX7_of_106 (by decide) ?_
                refine sg_goto 122 dX7_of_107 (by decide) ?_
                refine sg_ireturn dX7_of_122 rfl (Nat.le_of_ble_eq_true rfl) (Nat.le_of_ble_eq_true rfl) ?_
                refine hok _ _ ?_
                rw [hl0]
                rfl
            · rw [if_neg w3]
              by_cases w4 : w = 4
              · subst w4
                rw [if_pos rfl]
                refine sg_tableIn (off := 86) 123 dX7_of_37 (by decide) (by decide) (by decide +kernel) (by decide) ?_
                refine sg_aload_n dX7_of_123 rfl ?_
                refine sg_iload_n dX7_of_124 rfl ?_
                refine sg_V1 dX7_of_125 cv_X7_129 h23 (w_worth (fg := fg) (r4 := r4) hii hi hc hln hnm hgr hr3 hr4 W2) (Nat.le_of_ble_eq_true rfl) (Nat.le_of_ble_eq_true rfl) (Nat.le_of_ble_eq_true rfl) (Nat.le_of_ble_eq_true rfl) (fun r9 M9 hp => ?_)
                obtain ⟨rfl, e9⟩ := hp
                rw [e9]
                refine sg_ireturn dX7_of_128 rfl (Nat.le_of_ble_eq_true rfl) (Nat.le_of_ble_eq_true rfl) ?_
                exact hok _ _ rfl
              · rw [if_neg w4]
                by_cases w5 : w = 5
                · subst w5
                  rw [if_pos rfl]
                  refine sg_tableIn (off := 92) 129 dX7_of_37 (by decide) (by decide) (by decide +kernel) (by decide) ?_
                  refine sg_aload_n dX7_of_129 rfl ?_
                  refine sg_get dX7_of_130 fl_X7_16 (by first | rfl | assumption) rfl ?_
                  refine sg_iload_n dX7_of_133 rfl ?_
                  refine sg_ald (i.toInt.toNat) dX7_of_134 (by first | rfl | assumption) (hii) (by omega) (by decide) ?_
                  refine sg_bipush 10 dX7_of_135 (by decide) ?_
                  refine sg_idiv dX7_of_137 (by decide) ?_
                  rw [b26]
                  refine sg_ireturn dX7_of_138 rfl (Nat.le_of_ble_eq_true rfl) (Nat.le_of_ble_eq_true rfl) ?_
                  exact hok _ _ rfl
                · rw [if_neg w5]
                  rw [← Int32.toInt_inj, ti_0] at w0
                  rw [← Int32.toInt_inj, ti_1] at w1
                  rw [← Int32.toInt_inj, ti_2] at w2
                  rw [← Int32.toInt_inj, ti_3] at w3
                  rw [← Int32.toInt_inj, ti_4] at w4
                  rw [← Int32.toInt_inj, ti_5] at w5
                  refine sg_tableOut 139 dX7_of_37 (by omega) (by decide) ?_
                  refine sg_aload_n dX7_of_139 rfl ?_
                  refine sg_iload_n dX7_of_140 rfl ?_
                  refine sg_V1 dX7_of_141 cv_X7_132 h23 (c_makersOf hii (by omega) h80 b26 hm) (Nat.le_of_ble_eq_true rfl) (Nat.le_of_ble_eq_true rfl) (Nat.le_of_ble_eq_true rfl) (Nat.le_of_ble_eq_true rfl) (fun r9 M9 hp => ?_)
                  obtain ⟨rfl, e9⟩ := hp
                  rw [e9]
                  refine sg_ireturn dX7_of_144 rfl (Nat.le_of_ble_eq_true rfl) (Nat.le_of_ble_eq_true rfl) ?_
                  refine hok _ _ ?_
                  rw [sm_seen_sh _ (fun k hk => (bN k hk).2)]
    · rw [ti_0, ti_6] at c2
      exact hbad _ (fun M1 x1 W1 => ⟨X2.tr x1, fun q => absurd q.2 c2, fun _ => ⟨rfl, W1⟩⟩)
end SM64
