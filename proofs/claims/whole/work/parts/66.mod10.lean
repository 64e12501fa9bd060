/-! the reference: blame, gather, serves, pay -/
def sm_bk1 (g m : Nat → Int32) (gr mk : Int32) : Nat → Nat
  | 0 => 0
  | k + 1 => sm_bk1 g m gr mk k + (if m k = mk ∧ ¬ gr ≤ g k then 1 else 0)
def sm_bk (fg fm : Nat → Nat → Int32) (ln : Nat → Nat) (gr mk : Int32) : Nat → Nat
  | 0 => 0
  | s + 1 => sm_bk fg fm ln gr mk s + sm_bk1 (fg s) (fm s) gr mk (ln s)
theorem sm_mm.uniq {M : sm_M} {I J : Nat → Int32} {A B : Nat → Nat → Int32} (h : sm_mm M I A) (h2 : sm_mm M J B) : I 8 = J 8 ∧ A 35 = B 35 ∧ A 36 = B 36 := by
  obtain ⟨a23, a24, a25, a26, a27, a28, a29, a30, a31, a32, a33, a34, a35, a36, -⟩ := h
  obtain ⟨b23, b24, b25, b26, b27, b28, b29, b30, b31, b32, b33, b34, b35, b36, -⟩ := h2
  rw [a23] at b23
  rw [a35] at b35
  rw [a36] at b36
  injection b23 with b23
  injection b23 with b23
  injection b23 with b23
  injection b23 with b23
  injection b23 with b23
  injection b23 with _ b23
  injection b35 with b35
  injection b35 with b35
  injection b35 with b35
  injection b35 with _ b35
  injection b36 with b36
  injection b36 with b36
  injection b36 with b36
  injection b36 with _ b36
  refine ⟨?_, b35, b36⟩
  simp only [List.cons.injEq, Value.int.injEq, and_true, true_and] at b23
  exact b23.2.2.2.2.2.2.2.2
/-- the purse of the reference: numbers and worths -/
def sm_pq (M : sm_M) (n : Nat) (num w : Nat → Nat) : Prop := ∃ (I : Nat → Int32) (A : Nat → Nat → Int32), sm_mm M I A ∧ I 8 = nI n ∧ ∀ j, j < n → A 35 j = nI (num j) ∧ A 36 j = nI (w j)
theorem sm_pq.at {M : sm_M} {n : Nat} {num w : Nat → Nat} {I : Nat → Int32} {A : Nat → Nat → Int32} (h : sm_pq M n num w) (hm : sm_mm M I A) : I 8 = nI n ∧ ∀ j, j < n → A 35 j = nI (num j) ∧ A 36 j = nI (w j) := by
  obtain ⟨J, B, hB, h8, hr⟩ := h
  obtain ⟨e8, e35, e36⟩ := hm.uniq hB
  rw [e8, e35, e36]
  exact ⟨h8, hr⟩
theorem sm_g3 (A : Nat → Nat → Int32) (f g f2 g2 : Nat → Int32) : sm_uA (sm_uA (sm_uA (sm_uA A 35 f) 36 g) 35 f2) 36 g2 = sm_uA (sm_uA A 35 f2) 36 g2 := by
  funext j
  unfold sm_uA
  by_cases e : j = 36
  · rw [if_pos e, if_pos e]
  · rw [if_neg e, if_neg e]
    by_cases e2 : j = 35
    · rw [if_pos e2, if_neg e, if_pos e2]
    · rw [if_neg e2, if_neg e, if_neg e2, if_neg e2]
theorem sm_upup (I : Nat → Int32) (k : Nat) (x y : Int32) : upd (upd I k x) k y = upd I k y := by
  funext j
  unfold upd
  by_cases e : j = k
  · rw [if_pos e, if_pos e]
  · rw [if_neg e, if_neg e, if_neg e]
abbrev sm_S1 (ln : Nat → Nat) (ow : Nat → Int32) (o : Int32) (u : Nat → Nat) (c : Nat) (sum : Int32) : Nat := (sm_srv (sm_filN ln ow o u c) (sm_own ln ow o c) sum (2 ^ sm_own ln ow o c - 1)).1
section SM66
variable {l : Launch} {b : Nat} {D : va_G} {cA : Nat → ClassId} {M : sm_M}
variable {th : Int32} {c dc : Nat} {ln hb : Nat → Nat} {fg fm : Nat → Nat → Int32} {ow nm r1 r2 r3 r4 ws to gr sp pd : Nat → Int32} {fame cu it yr : Int32} {τ : sm_T5}
theorem lp_bl1 {s m n0 : Nat} {g fo mo : Int32} {Post : Option Value → sm_M → Prop} (hs : s < c) (hc : c ≤ 40) (hl80 : ln s ≤ 80) (hW : sm_W M 0 c ln fg fm ow nm r1 r2 r3 fame cu it yr τ dc ws to gr sp pd hb)
    (hP : sm_G l b D cA yX7_blame cX7_blame 8 (some .int) 1 0 0 Post 0 0 104 [some (.ref 23), some (.int g), some (.int fo), some (.int mo), some (.int (nI m)), some (.int (nI (n0 + sm_bk1 (fg s) (fm s) g (nI m) (ln s)))), some (.int (nI s)), some (.int (nI (ln s)))] [] M) :
    ∀ (r k : Nat), k + r = ln s → sm_G l b D cA yX7_blame cX7_blame 8 (some .int) 1 0 0 Post 0 0 48 [some (.ref 23), some (.int g), some (.int fo), some (.int mo), some (.int (nI m)), some (.int (nI (n0 + sm_bk1 (fg s) (fm s) g (nI m) k))), some (.int (nI s)), some (.int (nI k))] [] M := by
  obtain ⟨I, A, hm, h7, ha, hbb, ht, hdd, hh⟩ := id hW
  obtain ⟨h23, h24, h25, h26, h27, h28, h29, h30, h31, h32, h33, h34, h35, h36, h37, h38, h39⟩ := id hm
  obtain ⟨b26, b27, b28, bN⟩ := ha.2 s hs
  intro r
  induction r with
  | zero =>
    intro k hk
    have e : k = ln s := by omega
    rw [e]
    refine sg_iload dX7_blame_48 rfl ?_
    refine sg_aload_n dX7_blame_50 rfl ?_
    refine sg_get dX7_blame_51 fl_X7_16 (by first | rfl | assumption) rfl ?_
    refine sg_iload dX7_blame_54 rfl ?_
    refine sg_ald (s) dX7_blame_56 (by first | rfl | assumption) (rfl) (by omega) (by decide) ?_
    rw [b26]
    refine sg_icmp_ge 104 dX7_blame_57 (by decide) (fun c1 => ?_) (fun c1 => ?_)
    · exact hP
    · exact absurd (nI_le (Nat.le_refl _) (by omega)) c1
  | succ r ih =>
    intro k hk
    obtain ⟨bg, bm⟩ := bN k (by omega)
    have ih2 := ih (k + 1) (by omega)
    rw [show sm_bk1 (fg s) (fm s) g (nI m) (k + 1) = sm_bk1 (fg s) (fm s) g (nI m) k + (if fm s k = nI m ∧ ¬ g ≤ fg s k then 1 else 0) from rfl] at ih2
    refine sg_iload dX7_blame_48 rfl ?_
    refine sg_aload_n dX7_blame_50 rfl ?_
    refine sg_get dX7_blame_51 fl_X7_16 (by first | rfl | assumption) rfl ?_
    refine sg_iload dX7_blame_54 rfl ?_
    refine sg_ald (s) dX7_blame_56 (by first | rfl | assumption) (rfl) (by omega) (by decide) ?_
    rw [b26]
    refine sg_icmp_ge 104 dX7_blame_57 (by decide) (fun c1 => ?_) (fun c1 => ?_)
    · exact absurd c1 (nI_ge (by omega) (by omega))
    · refine sg_aload_n dX7_blame_60 rfl ?_
      refine sg_get dX7_blame_61 fl_X7_13 (by first | rfl | assumption) rfl ?_
      refine sg_bipush 80 dX7_blame_64 (by decide) ?_
      refine sg_iload dX7_blame_66 rfl ?_
      refine sg_imul dX7_blame_68 ?_
      refine sg_iload dX7_blame_69 rfl ?_
      refine sg_iadd dX7_blame_71 ?_
      refine sg_ald (80 * s + k) dX7_blame_72 (by first | rfl | assumption) (sm_80 s k) (by omega) (by decide) ?_
      refine sg_iload dX7_blame_73 rfl ?_
      rw [bm]
      refine sg_icmp_ne 98 dX7_blame_75 (by decide) (fun c2 => ?_) (fun c2 => ?_)
      · rw [if_neg (fun q => c2 q.1)] at ih2
        refine sg_iinc _ dX7_blame_98 rfl (sm_inc k) (by decide) ?_
        refine sg_goto 48 dX7_blame_101 (by decide) ?_
        exact ih2
      · refine sg_aload_n dX7_blame_78 rfl ?_
        refine sg_get dX7_blame_79 fl_X7_9 (by first | rfl | assumption) rfl ?_
        refine sg_bipush 80 dX7_blame_82 (by decide) ?_
        refine sg_iload dX7_blame_84 rfl ?_
        refine sg_imul dX7_blame_86 ?_
        refine sg_iload dX7_blame_87 rfl ?_
        refine sg_iadd dX7_blame_89 ?_
        refine sg_ald (80 * s + k) dX7_blame_90 (by first | rfl | assumption) (sm_80 s k) (by omega) (by decide) ?_
        refine sg_iload_n dX7_blame_91 rfl ?_
        rw [bg]
        refine sg_icmp_ge 98 dX7_blame_92 (by decide) (fun c3 => ?_) (fun c3 => ?_)
        · rw [if_neg (fun q => q.2 c3)] at ih2
          refine sg_iinc _ dX7_blame_98 rfl (sm_inc k) (by decide) ?_
          refine sg_goto 48 dX7_blame_101 (by decide) ?_
          exact ih2
        · rw [if_pos ⟨c2, c3⟩, ← Nat.add_assoc] at ih2
          refine sg_iinc _ dX7_blame_95 rfl (sm_inc _) (by decide) ?_
          refine sg_iinc _ dX7_blame_98 rfl (sm_inc k) (by decide) ?_
          refine sg_goto 48 dX7_blame_101 (by decide) ?_
          exact ih2
theorem lp_bl2 {m : Nat} {g fo mo : Int32} {Post : Option Value → sm_M → Prop} (hc : c ≤ 40) (hln : ∀ t, t < c → ln t ≤ 80) (hW : sm_W M 0 c ln fg fm ow nm r1 r2 r3 fame cu it yr τ dc ws to gr sp pd hb)
    (hP : ∀ x7 : Option Value, sm_G l b D cA yX7_blame cX7_blame 8 (some .int) 1 0 0 Post 0 0 110 [some (.ref 23), some (.int g), some (.int fo), some (.int mo), some (.int (nI m)), some (.int (nI (sm_bk fg fm ln g (nI m) c))), some (.int (nI c)), x7] [] M) :
    ∀ (r s : Nat) (x7 : Option Value), s + r = c → sm_G l b D cA yX7_blame cX7_blame 8 (some .int) 1 0 0 Post 0 0 36 [some (.ref 23), some (.int g), some (.int fo), some (.int mo), some (.int (nI m)), some (.int (nI (sm_bk fg fm ln g (nI m) s))), some (.int (nI s)), x7] [] M := by
  obtain ⟨I, A, hm, h7, ha, hbb, ht, hdd, hh⟩ := id hW
  obtain ⟨h23, h24, h25, h26, h27, h28, h29, h30, h31, h32, h33, h34, h35, h36, h37, h38, h39⟩ := id hm
  intro r
  induction r with
  | zero =>
    intro s x7 hs
    have e : s = c := by omega
    rw [e]
    refine sg_iload dX7_blame_36 rfl ?_
    refine sg_aload_n dX7_blame_38 rfl ?_
    refine sg_get dX7_blame_39 fl_X7_71 (by first | rfl | assumption) rfl ?_
    rw [ha.1]
    refine sg_icmp_ge 110 dX7_blame_42 (by decide) (fun c1 => ?_) (fun c1 => ?_)
    · exact hP _
    · exact absurd (nI_le (Nat.le_refl _) (by omega)) c1
  | succ r ih =>
    intro s x7 hs
    refine sg_iload dX7_blame_36 rfl ?_
    refine sg_aload_n dX7_blame_38 rfl ?_
    refine sg_get dX7_blame_39 fl_X7_71 (by first | rfl | assumption) rfl ?_
    rw [ha.1]
    refine sg_icmp_ge 110 dX7_blame_42 (by decide) (fun c1 => ?_) (fun c1 => ?_)
    · exact absurd c1 (nI_ge (by omega) (by omega))
    · refine sg_iconst (nI 0) dX7_blame_45 (by decide) ?_
      refine sg_istore dX7_blame_46 (by decide) ?_
      refine lp_bl1 (n0 := sm_bk fg fm ln g (nI m) s) (by omega) hc (hln s (by omega)) hW ?_ (ln s) 0 (by omega)
      refine sg_iinc _ dX7_blame_104 rfl (sm_inc s) (by decide) ?_
      refine sg_goto 36 dX7_blame_107 (by decide) ?_
      exact ih (s + 1) _ (by omega)
theorem lp_bl3 {g : Int32} {Post : Option Value → sm_M → Prop} (hc : c ≤ 40) (hln : ∀ t, t < c → ln t ≤ 80) (hW : sm_W M 0 c ln fg fm ow nm r1 r2 r3 fame cu it yr τ dc ws to gr sp pd hb)
    (hP : Post (some (.int (sm_blm (fun j => nI (sm_bk fg fm ln g (nI j) c)) 10).1)) M) :
    ∀ (r m : Nat) (x5 x6 x7 : Option Value), m + r = 10 → sm_G l b D cA yX7_blame cX7_blame 8 (some .int) 1 0 0 Post 0 0 23 [some (.ref 23), some (.int g), some (.int (sm_blm (fun j => nI (sm_bk fg fm ln g (nI j) c)) m).1), some (.int (sm_blm (fun j => nI (sm_bk fg fm ln g (nI j) c)) m).2), some (.int (nI m)), x5, x6, x7] [] M := by
  intro r
  induction r with
  | zero =>
    intro m x5 x6 x7 hs
    have e : m = 10 := by omega
    rw [e]
    refine sg_iload dX7_blame_23 rfl ?_
    refine sg_bipush 10 dX7_blame_25 (by decide) ?_
    refine sg_icmp_ge 131 dX7_blame_27 (by decide) (fun c1 => ?_) (fun c1 => ?_)
    · refine sg_iload_n dX7_blame_131 rfl ?_
      refine sg_ireturn dX7_blame_132 rfl (Nat.le_of_ble_eq_true rfl) (Nat.le_of_ble_eq_true rfl) ?_
      exact hP
    · exact absurd (by decide) c1
  | succ r ih =>
    intro m x5 x6 x7 hs
    have ih2 := ih (m + 1)
    rw [show sm_blm (fun j => nI (sm_bk fg fm ln g (nI j) c)) (m + 1) = if nI (sm_bk fg fm ln g (nI m) c) ≤ (sm_blm (fun j => nI (sm_bk fg fm ln g (nI j) c)) m).2 then sm_blm (fun j => nI (sm_bk fg fm ln g (nI j) c)) m else (nI m, nI (sm_bk fg fm ln g (nI m) c)) from rfl] at ih2
    refine sg_iload dX7_blame_23 rfl ?_
    refine sg_bipush 10 dX7_blame_25 (by decide) ?_
    refine sg_icmp_ge 131 dX7_blame_27 (by decide) (fun c1 => ?_) (fun c1 => ?_)
    · rw [Int32.le_iff_toInt_le, ti_10, nI_toInt (by omega)] at c1
      exact absurd c1 (by omega)
    · refine sg_iconst 0 dX7_blame_30 (by decide) ?_
      refine sg_istore dX7_blame_31 (by decide) ?_
      refine sg_iconst (nI 0) dX7_blame_33 (by decide) ?_
      refine sg_istore dX7_blame_34 (by decide) ?_
      refine lp_bl2 hc hln hW (fun x7 => ?_) c 0 _ (by omega)
      refine sg_iload dX7_blame_110 rfl ?_
      refine sg_iload_n dX7_blame_112 rfl ?_
      refine sg_icmp_gt 119 dX7_blame_113 (by decide) (fun c2 => ?_) (fun c2 => ?_)
      · rw [if_neg (Int32.not_le.mpr c2)] at ih2
        refine sg_iload dX7_blame_119 rfl ?_
        refine sg_istore_n dX7_blame_121 (by decide) ?_
        refine sg_iload dX7_blame_122 rfl ?_
        refine sg_istore_n dX7_blame_124 (by decide) ?_
        refine sg_iinc _ dX7_blame_125 rfl (sm_inc m) (by decide) ?_
        refine sg_goto 23 dX7_blame_128 (by decide) ?_
        exact ih2 _ _ _ (by omega)
      · rw [if_pos (Int32.not_lt.mp c2)] at ih2
        refine sg_goto 125 dX7_blame_116 (by decide) ?_
        refine sg_iinc _ dX7_blame_125 rfl (sm_inc m) (by decide) ?_
        refine sg_goto 23 dX7_blame_128 (by decide) ?_
        exact ih2 _ _ _ (by omega)
theorem m_blame (g : Int32) (hc : c ≤ 40) (hln : ∀ t, t < c → ln t ≤ 80) (hW : sm_W M th c ln fg fm ow nm r1 r2 r3 fame cu it yr τ dc ws to gr sp pd hb) : sm_Ct l b D cA yX7_blame cX7_blame 8 (some .int) 1 0 0 [.ref 23, .int g] M (fun r M1 => r = some (.int (if 0 ≤ g.toInt ∧ g.toInt < 5 then (sm_blm (fun j => nI (sm_bk fg fm ln g (nI j) c)) 10).1 else -1)) ∧ sm_ex M M1 sm_ml ∧ sm_W M1 0 c ln fg fm ow nm r1 r2 r3 fame cu it yr τ dc ws to gr sp pd hb) := by
  obtain ⟨I, A, hm, h7, ha, hbb, ht, hdd, hh⟩ := id hW
  obtain ⟨h23, h24, h25, h26, h27, h28, h29, h30, h31, h32, h33, h34, h35, h36, h37, h38, h39⟩ := id hm
  refine sm_enter (by decide +kernel) rfl (fun _ => Nat.le_of_ble_eq_true rfl) ?_
  refine sg_aload_n dX7_blame_0 rfl ?_
  refine sg_iconst 0 dX7_blame_1 (by decide) ?_
  refine sg_putx dX7_blame_2 fl_X7_68 ft_X7_18 h23 (Nat.le_of_ble_eq_true rfl) (fun M2 x2 q2 => ?_)
  have W2 : sm_W M2 0 c ln fg fm ow nm r1 r2 r3 fame cu it yr τ dc ws to gr sp pd hb := ⟨upd I 7 0, A, hm.o x2 q2, rfl, ha, hbb, ht, hdd, hh⟩
  have X2 : sm_ex M M2 sm_ml := x2.mono (by decide)
  clear q2 x2 hh hdd ht hbb ha h7 hm h23 h24 h25 h26 h27 h28 h29 h30 h31 h32 h33 h34 h35 h36 h37 h38 h39
  obtain ⟨I, A, hm, h7, ha, hbb, ht, hdd, hh⟩ := id W2
  obtain ⟨h23, h24, h25, h26, h27, h28, h29, h30, h31, h32, h33, h34, h35, h36, h37, h38, h39⟩ := id hm
  refine sg_iload_n dX7_blame_5 rfl ?_
  refine sg_iconst 0 dX7_blame_6 (by decide) ?_
  refine sg_iconst 4 dX7_blame_7 (by decide) ?_
  refine sg_S3 dX7_blame_8 cs_X7_74 (c_in _ _ _) (Nat.le_of_ble_eq_true rfl) (Nat.le_of_ble_eq_true rfl) (Nat.le_of_ble_eq_true rfl) (Nat.le_of_ble_eq_true rfl) (fun r M1 hp => ?_)
  obtain ⟨rfl, e9⟩ := hp; rw [e9]
  refine sg_bf_ne 16 dX7_blame_11 (by decide) (fun c1 => ?_) (fun c1 => ?_)
  · rw [ti_0, ti_4] at c1
    rw [if_pos (by omega)]
    refine sg_iconst (-1) dX7_blame_16 (by decide) ?_
    refine sg_istore_n dX7_blame_17 (by decide) ?_
    refine sg_iconst 0 dX7_blame_18 (by decide) ?_
    refine sg_istore_n dX7_blame_19 (by decide) ?_
    refine sg_iconst (nI 0) dX7_blame_20 (by decide) ?_
    refine sg_istore dX7_blame_21 (by decide) ?_
    exact lp_bl3 hc hln W2 ⟨rfl, X2, W2⟩ 10 0 _ _ _ (by omega)
  · rw [ti_0, ti_4] at c1
    refine sg_iconst (-1) dX7_blame_14 (by decide) ?_
    refine sg_ireturn dX7_blame_15 rfl (Nat.le_of_ble_eq_true rfl) (Nat.le_of_ble_eq_true rfl) ?_
    exact ⟨by rw [if_neg (by omega)], X2, W2⟩
theorem lp_gather {o : Int32} {I : Nat → Int32} {A : Nat → Nat → Int32} {Post : Option Value → sm_M → Prop} (hc : c ≤ 40) (hln : ∀ t, t < c → ln t ≤ 80) (hnm : ∀ t, t < c → 0 ≤ (nm t).toInt) (hgr : ∀ s, s < c → ∀ k, k < ln s → 0 ≤ (fg s k).toInt ∧ (fg s k).toInt < 5) (hr3 : ∀ j, j < 5 → 1 ≤ (r3 j).toInt) (hr4 : ∀ j, j < 5 → r4 j = nI (sm_cg fg ln (nI j) c))
    (h7 : I 7 = th) (ha : sm_Ra I A c ln fg fm ow nm) (hbb : sm_Rb I A r1 r2 r3 fame cu it yr) (ht : sm_Rt I A τ) (hdd : sm_Rd I A dc ws to gr sp pd) (hh : sm_Rh A hb)
    (hP1 : ∀ M1 : sm_M, sm_ex M M1 sm_ml → sm_own ln ow o c ≤ 12 → sm_mm M1 (upd I 8 (nI (sm_own ln ow o c))) (sm_uA (sm_uA A 35 (sm_fil ln ow o (fun k => nI k) (A 35) c)) 36 (sm_fil ln ow o (sm_wv r1 r2 r3 r4 fame ln (sm_js fg ln) nm) (A 36) c)) → Post (some (.int 1)) M1)
    (hP0 : ∀ (M1 : sm_M) (J : Int32) (f g : Nat → Int32), sm_ex M M1 sm_ml → ¬ sm_own ln ow o c ≤ 12 → sm_mm M1 (upd I 8 J) (sm_uA (sm_uA A 35 f) 36 g) → Post (some (.int 0)) M1) :
    ∀ (r k : Nat) (M1 : sm_M), k + r = c → sm_own ln ow o k ≤ 12 → sm_ex M M1 sm_ml → sm_mm M1 (upd I 8 (nI (sm_own ln ow o k))) (sm_uA (sm_uA A 35 (sm_fil ln ow o (fun k => nI k) (A 35) k)) 36 (sm_fil ln ow o (sm_wv r1 r2 r3 r4 fame ln (sm_js fg ln) nm) (A 36) k)) → sm_G l b D cA yX7_gather cX7_gather 3 (some .boolean) 3 0 0 Post 0 0 7 [some (.ref 23), some (.int o), some (.int (nI k))] [] M1 := by
  intro r
  induction r with
  | zero =>
    intro k M1 hk ho hx hm1
    have e : k = c := by omega
    subst e
    have h23 := hm1.1
    refine sg_iload_n dX7_gather_7 rfl ?_
    refine sg_aload_n dX7_gather_8 rfl ?_
    refine sg_get dX7_gather_9 fl_X7_71 (by first | rfl | assumption) rfl ?_
    rw [show upd I 8 (nI (sm_own ln ow o k)) 0 = nI k from ha.1]
    refine sg_icmp_ge 88 dX7_gather_12 (by decide) (fun c1 => ?_) (fun c1 => ?_)
    · refine sg_iconst 1 dX7_gather_88 (by decide) ?_
      refine sg_zreturn dX7_gather_89 rfl (by first | decide | assumption) (Nat.le_of_ble_eq_true rfl) (Nat.le_of_ble_eq_true rfl) ?_
      exact hP1 M1 hx ho hm1
    · exact absurd (nI_le (Nat.le_refl _) (by omega)) c1
  | succ r ih =>
    intro k M1 hk ho hx hm1
    have h80 := hln k (by omega)
    have hs1 : sm_own ln ow o (k + 1) = sm_own ln ow o k + (if 0 < ln k ∧ ow k = o then 1 else 0) := rfl
    have ih2 := ih (k + 1)
    have hmn := sm_own_mono ln ow o (show k + 1 ≤ c by omega)
    have hf1 : ∀ (v f : Nat → Int32), sm_fil ln ow o v f (k + 1) = if 0 < ln k ∧ ow k = o then upd (sm_fil ln ow o v f k) (sm_own ln ow o k) (v k) else sm_fil ln ow o v f k := fun _ _ => rfl
    rw [hf1, hf1, hs1] at ih2
    obtain ⟨I1, e1⟩ : ∃ I1, I1 = upd I 8 (nI (sm_own ln ow o k)) := ⟨_, rfl⟩
    obtain ⟨A1, eA⟩ : ∃ A1, A1 = sm_uA (sm_uA A 35 (sm_fil ln ow o (fun k => nI k) (A 35) k)) 36 (sm_fil ln ow o (sm_wv r1 r2 r3 r4 fame ln (sm_js fg ln) nm) (A 36) k) := ⟨_, rfl⟩
    have hm1' := hm1
    rw [← e1, ← eA] at hm1
    have ha1 : sm_Ra I1 A1 c ln fg fm ow nm := by rw [e1, eA]; exact ha
    have hb1 : sm_Rb I1 A1 r1 r2 r3 fame cu it yr := by rw [e1, eA]; exact hbb
    have ht1 : sm_Rt I1 A1 τ := by rw [e1, eA]; exact ht
    have hd1 : sm_Rd I1 A1 dc ws to gr sp pd := by rw [e1, eA]; exact hdd
    have hh1 : sm_Rh A1 hb := by rw [eA]; exact hh
    have i7 : I1 7 = th := by rw [e1]; exact h7
    have i8 : I1 8 = nI (sm_own ln ow o k) := by rw [e1]; rfl
    obtain ⟨h23, h24, h25, h26, h27, h28, h29, h30, h31, h32, h33, h34, h35, h36, h37, h38, h39⟩ := id hm1
    obtain ⟨b26, b27, b28, bN⟩ := ha1.2 k (by omega)
    refine sg_iload_n dX7_gather_7 rfl ?_
    refine sg_aload_n dX7_gather_8 rfl ?_
    refine sg_get dX7_gather_9 fl_X7_71 (by first | rfl | assumption) rfl ?_
    rw [ha1.1]
    refine sg_icmp_ge 88 dX7_gather_12 (by decide) (fun c1 => ?_) (fun c1 => ?_)
    · exact absurd c1 (nI_ge (by omega) (by omega))
    · refine sg_aload_n dX7_gather_15 rfl ?_
      refine sg_get dX7_gather_16 fl_X7_16 (by first | rfl | assumption) rfl ?_
      refine sg_iload_n dX7_gather_19 rfl ?_
      refine sg_ald (k) dX7_gather_20 (by first | rfl | assumption) (rfl) (by omega) (by decide) ?_
      rw [b26]
      refine sg_if_eq 82 dX7_gather_21 (by decide) (fun c2 => ?_) (fun c2 => ?_)
      · rw [← Int32.toInt_inj, nI_toInt (by omega), ti_0] at c2
        rw [if_neg (show ¬ (0 < ln k ∧ ow k = o) from fun q => by omega), if_neg (show ¬ (0 < ln k ∧ ow k = o) from fun q => by omega), if_neg (show ¬ (0 < ln k ∧ ow k = o) from fun q => by omega)] at ih2
        refine sg_iinc _ dX7_gather_82 rfl (sm_inc k) (by decide) ?_
        refine sg_goto 7 dX7_gather_85 (by decide) ?_
        exact ih2 M1 (by omega) ho hx hm1'
      · have c2' : 0 < ln k := Nat.pos_of_ne_zero (fun q => c2 (by rw [q]; rfl))
        refine sg_aload_n dX7_gather_24 rfl ?_
        refine sg_get dX7_gather_25 fl_X7_19 (by first | rfl | assumption) rfl ?_
        refine sg_iload_n dX7_gather_28 rfl ?_
        refine sg_ald (k) dX7_gather_29 (by first | rfl | assumption) (rfl) (by omega) (by decide) ?_
        refine sg_iload_n dX7_gather_30 rfl ?_
        rw [b27]
        refine sg_icmp_eq 37 dX7_gather_31 (by decide) (fun c3 => ?_) (fun c3 => ?_)
        · rw [if_pos ⟨c2', c3⟩, if_pos ⟨c2', c3⟩, if_pos ⟨c2', c3⟩] at ih2
          rw [if_pos ⟨c2', c3⟩] at hs1
          refine sg_aload_n dX7_gather_37 rfl ?_
          refine sg_get dX7_gather_38 fl_X7_135 (by first | rfl | assumption) rfl ?_
          refine sg_bipush 12 dX7_gather_41 (by decide) ?_
          rw [i8]
          refine sg_icmp_ne 48 dX7_gather_43 (by decide) (fun c4 => ?_) (fun c4 => ?_)
          · rw [← Int32.toInt_inj, nI_toInt (by omega), ti_12] at c4
            refine sg_aload_n dX7_gather_48 rfl ?_
            refine sg_get dX7_gather_49 fl_X7_53 (by first | rfl | assumption) rfl ?_
            refine sg_aload_n dX7_gather_52 rfl ?_
            refine sg_get dX7_gather_53 fl_X7_135 (by first | rfl | assumption) rfl ?_
            refine sg_iload_n dX7_gather_56 rfl ?_
            rw [i8]
            refine sg_astx (sm_own ln ow o k) dX7_gather_57 h35 rfl (by omega) (by decide) (fun M2 x2 g2 => ?_)
            have m2 := hm1.u35 x2 g2
            have W2 := (⟨I1, _, m2, i7, ha1, hb1, ht1, hd1, hh1⟩ : sm_W M2 th c ln fg fm ow nm r1 r2 r3 fame cu it yr τ dc ws to gr sp pd hb)
            have a23 := (x2.2 23 (by decide)).trans h23
            have a36 := (x2.2 36 (by decide)).trans h36
            refine sg_aload_n dX7_gather_58 rfl ?_
            refine sg_get dX7_gather_59 fl_X7_56 (by first | rfl | assumption) rfl ?_
            refine sg_aload_n dX7_gather_62 rfl ?_
            refine sg_get dX7_gather_63 fl_X7_135 (by first | rfl | assumption) rfl ?_
            refine sg_aload_n dX7_gather_66 rfl ?_
            refine sg_iload_n dX7_gather_67 rfl ?_
            rw [i8]
            refine sg_V1 dX7_gather_68 cv_X7_129 a23 (w_worth (fg := fg) (r4 := r4) rfl (by omega) hc hln hnm hgr hr3 hr4 W2) (Nat.le_of_ble_eq_true rfl) (Nat.le_of_ble_eq_true rfl) (Nat.le_of_ble_eq_true rfl) (Nat.le_of_ble_eq_true rfl) (fun r9 M9 hp => ?_)
            obtain ⟨rfl, e9⟩ := hp
            rw [e9]
            refine sg_astx (sm_own ln ow o k) dX7_gather_71 a36 rfl (by omega) (by decide) (fun M3 x3 g3 => ?_)
            have m3 := m2.u36 x3 g3
            have b23 := (x3.2 23 (by decide)).trans a23
            refine sg_aload_n dX7_gather_72 rfl ?_
            refine sg_dup dX7_gather_73 rfl ?_
            refine sg_get dX7_gather_74 fl_X7_135 (by first | rfl | assumption) rfl ?_
            refine sg_iconst 1 dX7_gather_77 (by decide) ?_
            refine sg_iadd dX7_gather_78 ?_
            rw [i8]
            refine sg_putx dX7_gather_79 fl_X7_135 ft_X7_21 b23 (Nat.le_of_ble_eq_true rfl) (fun M4 x4 q4 => ?_)
            have m4 : sm_mm M4 (upd I1 8 (nI (sm_own ln ow o k) + 1)) _ := m3.o x4 q4
            rw [nI_1, e1, eA, sm_upup, sm_g3] at m4
            refine sg_iinc _ dX7_gather_82 rfl (sm_inc k) (by decide) ?_
            refine sg_goto 7 dX7_gather_85 (by decide) ?_
            exact ih2 M4 (by omega) (by omega) (hx.tr ((x2.mono (by decide)).tr ((x3.mono (by decide)).tr (x4.mono (by decide))))) m4
          · rw [← Int32.toInt_inj, nI_toInt (by omega), ti_12] at c4
            refine sg_iconst 0 dX7_gather_46 (by decide) ?_
            refine sg_zreturn dX7_gather_47 rfl (by first | decide | assumption) (Nat.le_of_ble_eq_true rfl) (Nat.le_of_ble_eq_true rfl) ?_
            exact hP0 M1 _ _ _ hx (by omega) hm1'
        · rw [if_neg (show ¬ (0 < ln k ∧ ow k = o) from fun q => c3 q.2), if_neg (show ¬ (0 < ln k ∧ ow k = o) from fun q => c3 q.2), if_neg (show ¬ (0 < ln k ∧ ow k = o) from fun q => c3 q.2)] at ih2
          refine sg_goto 82 dX7_gather_34 (by decide) ?_
          refine sg_iinc _ dX7_gather_82 rfl (sm_inc k) (by decide) ?_
          refine sg_goto 7 dX7_gather_85 (by decide) ?_
          exact ih2 M1 (by omega) ho hx hm1'
theorem w_gather {u : Nat → Nat} (o : Int32) (hc : c ≤ 40) (hln : ∀ t, t < c → ln t ≤ 80) (hnm : ∀ t, t < c → 0 ≤ (nm t).toInt) (hgr : ∀ s, s < c → ∀ k, k < ln s → 0 ≤ (fg s k).toInt ∧ (fg s k).toInt < 5) (hr3 : ∀ j, j < 5 → 1 ≤ (r3 j).toInt) (hr4 : ∀ j, j < 5 → r4 j = nI (sm_cg fg ln (nI j) c)) (hw : ∀ i, i < c → sm_wv r1 r2 r3 r4 fame ln (sm_js fg ln) nm i = nI (u i)) (hW : sm_W M th c ln fg fm ow nm r1 r2 r3 fame cu it yr τ dc ws to gr sp pd hb) : sm_Ct l b D cA yX7_gather cX7_gather 3 (some .boolean) 3 0 0 [.ref 23, .int o] M (fun r M1 => r = some (.int (if sm_own ln ow o c ≤ 12 then 1 else 0)) ∧ sm_ex M M1 sm_ml ∧ sm_W M1 th c ln fg fm ow nm r1 r2 r3 fame cu it yr τ dc ws to gr sp pd hb ∧ (sm_own ln ow o c ≤ 12 → sm_pq M1 (sm_own ln ow o c) (sm_filN ln ow o (fun i => i) c) (sm_filN ln ow o u c))) := by
  obtain ⟨I, A, hm, h7, ha, hbb, ht, hdd, hh⟩ := id hW
  obtain ⟨h23, h24, h25, h26, h27, h28, h29, h30, h31, h32, h33, h34, h35, h36, h37, h38, h39⟩ := id hm
  refine sm_enter (by decide +kernel) rfl (fun _ => Nat.le_of_ble_eq_true rfl) ?_
  refine sg_aload_n dX7_gather_0 rfl ?_
  refine sg_iconst 0 dX7_gather_1 (by decide) ?_
  refine sg_putx dX7_gather_2 fl_X7_135 ft_X7_21 h23 (Nat.le_of_ble_eq_true rfl) (fun M2 x2 q2 => ?_)
  refine sg_iconst (nI 0) dX7_gather_5 (by decide) ?_
  refine sg_istore_n dX7_gather_6 (by decide) ?_
  refine lp_gather (M := M) (r4 := r4) hc hln hnm hgr hr3 hr4 h7 ha hbb ht hdd hh (fun M1 x1 ho m1 => ⟨by rw [if_pos ho], x1, ⟨_, _, m1, h7, ha, hbb, ht, hdd, hh⟩, fun _ => ⟨_, _, m1, rfl, fun j hj => ⟨sm_fil_N ln ow o (A 35) c (fun i _ => rfl) j hj, sm_fil_N ln ow o (A 36) c hw j hj⟩⟩⟩) (fun M1 J f g x1 ho m1 => ⟨by rw [if_neg ho], x1, ⟨_, _, m1, h7, ha, hbb, ht, hdd, hh⟩, fun q => absurd q ho⟩) c 0 M2 (by omega) (by show 0 ≤ 12; omega) (x2.mono (by decide)) ?_
  have m2 : sm_mm M2 (upd I 8 0) A := hm.o x2 q2
  have e : sm_uA (sm_uA A 35 (A 35)) 36 (A 36) = A := by
    funext j
    unfold sm_uA
    by_cases z : j = 36
    · rw [if_pos z, z]
    · rw [if_neg z]
      by_cases z2 : j = 35
      · rw [if_pos z2, z2]
      · rw [if_neg z2]
  show sm_mm M2 (upd I 8 (nI 0)) (sm_uA (sm_uA A 35 (A 35)) 36 (A 36))
  rw [e]
  exact m2
theorem m_serves {u : Nat → Nat} (o sum : Int32) (hc : c ≤ 40) (hln : ∀ t, t < c → ln t ≤ 80) (hnm : ∀ t, t < c → 0 ≤ (nm t).toInt) (hgr : ∀ s, s < c → ∀ k, k < ln s → 0 ≤ (fg s k).toInt ∧ (fg s k).toInt < 5) (hr3 : ∀ j, j < 5 → 1 ≤ (r3 j).toInt) (hr4 : ∀ j, j < 5 → r4 j = nI (sm_cg fg ln (nI j) c)) (hw : ∀ i, i < c → sm_wv r1 r2 r3 r4 fame ln (sm_js fg ln) nm i = nI (u i)) (hW : sm_W M th c ln fg fm ow nm r1 r2 r3 fame cu it yr τ dc ws to gr sp pd hb) : sm_Ct l b D cA yX7_serves cX7_serves 4 (some .int) 4 0 0 [.ref 23, .int o, .int sum] M (fun r M1 => sm_ex M M1 sm_ml ∧ sm_W M1 0 c ln fg fm ow nm r1 r2 r3 fame cu it yr τ dc ws to gr sp pd hb ∧ (¬ ((0 ≤ o.toInt ∧ o.toInt < 10) ∧ (1 ≤ sum.toInt ∧ sum.toInt ≤ 1000000) ∧ sm_own ln ow o c ≤ 12) → r = some (.int (-1))) ∧ (((0 ≤ o.toInt ∧ o.toInt < 10) ∧ (1 ≤ sum.toInt ∧ sum.toInt ≤ 1000000) ∧ sm_own ln ow o c ≤ 12) → (sm_S1 ln ow o u c sum = 0 → r = some (.int (-2))) ∧ (¬ sm_S1 ln ow o u c sum = 0 → r = some (.int (nI (sm_ws (sm_filN ln ow o u c) (sm_S1 ln ow o u c sum) (sm_own ln ow o c))))))) := by
  have hle := sm_srv_le (sm_filN ln ow o u c) (sm_own ln ow o c) sum (2 ^ sm_own ln ow o c - 1)
  obtain ⟨I, A, hm, h7, ha, hbb, ht, hdd, hh⟩ := id hW
  obtain ⟨h23, h24, h25, h26, h27, h28, h29, h30, h31, h32, h33, h34, h35, h36, h37, h38, h39⟩ := id hm
  refine sm_enter (by decide +kernel) rfl (fun _ => Nat.le_of_ble_eq_true rfl) ?_
  refine sg_aload_n dX7_serves_0 rfl ?_
  refine sg_iconst 0 dX7_serves_1 (by decide) ?_
  refine sg_putx dX7_serves_2 fl_X7_68 ft_X7_18 h23 (Nat.le_of_ble_eq_true rfl) (fun M2 x2 q2 => ?_)
  have W2 : sm_W M2 0 c ln fg fm ow nm r1 r2 r3 fame cu it yr τ dc ws to gr sp pd hb := ⟨upd I 7 0, A, hm.o x2 q2, rfl, ha, hbb, ht, hdd, hh⟩
  have X2 : sm_ex M M2 sm_ml := x2.mono (by decide)
  clear q2 x2 hh hdd ht hbb ha h7 hm h23 h24 h25 h26 h27 h28 h29 h30 h31 h32 h33 h34 h35 h36 h37 h38 h39
  obtain ⟨I, A, hm, h7, ha, hbb, ht, hdd, hh⟩ := id W2
  obtain ⟨h23, h24, h25, h26, h27, h28, h29, h30, h31, h32, h33, h34, h35, h36, h37, h38, h39⟩ := id hm
  refine sg_iload_n dX7_serves_5 rfl ?_
  refine sg_iconst 0 dX7_serves_6 (by decide) ?_
  refine sg_bipush 9 dX7_serves_7 (by decide) ?_
  refine sg_S3 dX7_serves_9 cs_X7_74 (c_in _ _ _) (Nat.le_of_ble_eq_true rfl) (Nat.le_of_ble_eq_true rfl) (Nat.le_of_ble_eq_true rfl) (Nat.le_of_ble_eq_true rfl) (fun r M1 hp => ?_)
  obtain ⟨rfl, e9⟩ := hp; rw [e9]
  refine sg_bf_eq 33 dX7_serves_12 (by decide) (fun c1 => ?_) (fun c1 => ?_)
  · rw [ti_0, ti_9] at c1
    refine sg_iconst (-1) dX7_serves_33 (by decide) ?_
    refine sg_ireturn dX7_serves_34 rfl (Nat.le_of_ble_eq_true rfl) (Nat.le_of_ble_eq_true rfl) ?_
    exact ⟨X2, W2, fun _ => rfl, fun q => absurd q.1 (by omega)⟩
  · rw [ti_0, ti_9] at c1
    refine sg_iload_n dX7_serves_15 rfl ?_
    refine sg_iconst 1 dX7_serves_16 (by decide) ?_
    refine sg_ldc _ dX7_serves_17 kc_X7_141 ?_
    refine sg_S3 dX7_serves_19 cs_X7_74 (c_in _ _ _) (Nat.le_of_ble_eq_true rfl) (Nat.le_of_ble_eq_true rfl) (Nat.le_of_ble_eq_true rfl) (Nat.le_of_ble_eq_true rfl) (fun r M1 hp => ?_)
    obtain ⟨rfl, e9⟩ := hp; rw [e9]
    refine sg_bf_eq 33 dX7_serves_22 (by decide) (fun c2 => ?_) (fun c2 => ?_)
    · rw [ti_1, ti_1000000] at c2
      refine sg_iconst (-1) dX7_serves_33 (by decide) ?_
      refine sg_ireturn dX7_serves_34 rfl (Nat.le_of_ble_eq_true rfl) (Nat.le_of_ble_eq_true rfl) ?_
      exact ⟨X2, W2, fun _ => rfl, fun q => absurd q.2.1 c2⟩
    · rw [ti_1, ti_1000000] at c2
      refine sg_aload_n dX7_serves_25 rfl ?_
      refine sg_iload_n dX7_serves_26 rfl ?_
      refine sg_V1 dX7_serves_27 cv_X7_142 h23 (w_gather (fg := fg) (r4 := r4) o hc hln hnm hgr hr3 hr4 hw W2) (Nat.le_of_ble_eq_true rfl) (Nat.le_of_ble_eq_true rfl) (Nat.le_of_ble_eq_true rfl) (Nat.le_of_ble_eq_true rfl) (fun r9 M6 hp => ?_)
      obtain ⟨rfl, x6, W6, q6⟩ := hp
      refine sg_bf_ne 35 dX7_serves_30 (by decide) (fun c3 => ?_) (fun c3 => ?_)
      · have h12 : 2 ^ sm_own ln ow o c ≤ 2 ^ 12 := Nat.pow_le_pow_right (by decide) c3
        clear h23 h24 h25 h26 h27 h28 h29 h30 h31 h32 h33 h34 h35 h36 h37 h38 h39
        obtain ⟨I, A, hm, h7, ha, hbb, ht, hdd, hh⟩ := id W6
        have h23 := hm.1
        obtain ⟨i8, hrow⟩ := (q6 c3).at hm
        refine sg_aload_n dX7_serves_35 rfl ?_
        refine sg_iload_n dX7_serves_36 rfl ?_
        refine sg_V1 dX7_serves_37 cv_X7_145 h23 (c_serving sum c3 i8 (fun k hk => (hrow k hk).2) hm) (Nat.le_of_ble_eq_true rfl) (Nat.le_of_ble_eq_true rfl) (Nat.le_of_ble_eq_true rfl) (Nat.le_of_ble_eq_true rfl) (fun r9 M9 hp => ?_)
        obtain ⟨rfl, e9⟩ := hp
        rw [e9]
        refine sg_istore_n dX7_serves_40 (by decide) ?_
        refine sg_iload_n dX7_serves_41 rfl ?_
        refine sg_if_ne 50 dX7_serves_42 (by decide) (fun c4 => ?_) (fun c4 => ?_)
        · have c4' : ¬ sm_S1 ln ow o u c sum = 0 := fun q => c4 (congrArg nI q)
          refine sg_aload_n dX7_serves_50 rfl ?_
          refine sg_iload_n dX7_serves_51 rfl ?_
          refine sg_V1 dX7_serves_52 cv_X7_138 h23 (c_mworthOf rfl c3 (by omega) i8 (fun k hk => (hrow k hk).2) hm) (Nat.le_of_ble_eq_true rfl) (Nat.le_of_ble_eq_true rfl) (Nat.le_of_ble_eq_true rfl) (Nat.le_of_ble_eq_true rfl) (fun r9 M9 hp => ?_)
          obtain ⟨rfl, e9⟩ := hp
          rw [e9]
          refine sg_ireturn dX7_serves_55 rfl (Nat.le_of_ble_eq_true rfl) (Nat.le_of_ble_eq_true rfl) ?_
          exact ⟨X2.tr x6, W6, fun q => absurd ⟨by omega, c2, c3⟩ q, fun _ => ⟨fun q => absurd q c4', fun _ => rfl⟩⟩
        · have c4' : sm_S1 ln ow o u c sum = 0 := by
            rcases Nat.eq_zero_or_pos (sm_S1 ln ow o u c sum) with q | q
            · exact q
            · exact absurd c4 (nI_ne0 q (by omega))
          refine sg_bipush (-2) dX7_serves_45 (by decide) ?_
          refine sg_goto 55 dX7_serves_47 (by decide) ?_
          refine sg_ireturn dX7_serves_55 rfl (Nat.le_of_ble_eq_true rfl) (Nat.le_of_ble_eq_true rfl) ?_
          exact ⟨X2.tr x6, W6, fun q => absurd ⟨by omega, c2, c3⟩ q, fun _ => ⟨fun _ => rfl, fun q => absurd c4' q⟩⟩
      · refine sg_iconst (-1) dX7_serves_33 (by decide) ?_
        refine sg_ireturn dX7_serves_34 rfl (Nat.le_of_ble_eq_true rfl) (Nat.le_of_ble_eq_true rfl) ?_
        exact ⟨X2.tr x6, W6, fun _ => rfl, fun q => absurd q.2.2 c3⟩
theorem w_hand2 {s n : Nat} {num w : Nat → Nat} {x : Int32} (o : Int32) (hx : x = nI s) (hs : s < c) (hc : c ≤ 40) (hn : 0 ≤ (nm s).toInt) (he : nm s = 0 ∨ τ.1 < 200) (hln : ∀ t, t < c → ln t ≤ 80) (hq : sm_pq M n num w) (hW : sm_W M th c ln fg fm ow nm r1 r2 r3 fame cu it yr τ dc ws to gr sp pd hb) : sm_Ct l b D cA yX7_hand cX7_hand 3 none 1 0 0 [.ref 23, .int x, .int o] M (fun r M1 => r = none ∧ sm_ex M M1 sm_ml ∧ sm_pq M1 n num w ∧ sm_W M1 th c ln fg fm (va_up ow s o) nm r1 r2 r3 fame cu it yr (sm_sayIf (nm s) 2 o yr τ) dc ws to gr sp pd hb) := by
  obtain ⟨I, A, hm, h7, ha, hbb, ht, hdd, hh⟩ := id hW
  obtain ⟨h23, h24, h25, h26, h27, h28, h29, h30, h31, h32, h33, h34, h35, h36, h37, h38, h39⟩ := id hm
  obtain ⟨i8, hrow⟩ := hq.at hm
  obtain ⟨b26, b27, b28, bN⟩ := ha.2 s hs
  have h5 := hbb.2.2.2.1
  have hz := sm_nmz hn
  refine sm_Ct.post (c_hand (l := l) (b := b) (D := D) (cA := cA) o hx (by omega) (by rw [b28, hz]; exact he) ht.1 hm) (fun r M1 hp => ?_)
  obtain ⟨e, x, mm⟩ := hp
  rw [b28, h5] at mm
  have hR : ∀ (I1 : Nat → Int32) (A1 : Nat → Nat → Int32), I1 0 = I 0 → A1 24 = A 24 → A1 25 = A 25 → A1 26 = A 26 → A1 27 = upd (A 27) s o → A1 28 = A 28 → sm_Ra I1 A1 c ln fg fm (va_up ow s o) nm := fun I1 A1 e0 e24 e25 e26 e27 e28 => by
    have := ha.up (I1 := I1) (A1 := A1) (c1 := c) (s := s) (n := ln s) (g1 := fg s) (m1 := fm s) (o := o) (a := nm s) hln (e0.trans ha.1) (fun t h1 _ => h1) (by rw [e26]; exact b26) (by rw [e27]; exact sm_upeq _ _ _) (by rw [e28]; exact b28) (fun t ht => ⟨by rw [e26], by rw [e27]; exact sm_upne _ _ ht, by rw [e28]⟩) (fun j _ => ⟨by rw [e24], by rw [e25]⟩) (fun k hk => by rw [e24, e25]; exact bN k hk)
    rw [va_up_id, va_up_id, va_up_id, va_up_id] at this
    exact this
  by_cases q : nm s = 0
  · rw [if_pos (hz.mpr q), if_pos (hz.mpr q)] at mm
    unfold sm_sayIf
    rw [if_pos q]
    exact ⟨e, x.mono (by decide), ⟨_, _, mm, i8, hrow⟩, _, _, mm, h7, hR _ _ rfl rfl rfl rfl rfl rfl, hbb, ht, hdd, hh⟩
  · rw [if_neg (fun z => q (hz.mp z)), if_neg (fun z => q (hz.mp z))] at mm
    unfold sm_sayIf
    rw [if_neg q]
    exact ⟨e, x.mono (by decide), ⟨_, _, mm, i8, hrow⟩, _, _, mm, h7, hR _ _ rfl rfl rfl rfl rfl rfl, hbb, ht.say rfl rfl, hdd, hh⟩
theorem lp_mneed {s n : Nat} {num w : Nat → Nat} {o tt sum : Int32} {Post : Option Value → sm_M → Prop} (hc : c ≤ 40) (hn : n ≤ 12) (hs : s < 4096) (hnum : ∀ j, j < n → num j < c) (hnm : ∀ t, t < c → 0 ≤ (nm t).toInt) (hq : sm_pq M n num w) (hW : sm_W M 0 c ln fg fm ow nm r1 r2 r3 fame cu it yr τ dc ws to gr sp pd hb)
    (hP : sm_G l b D cA yX7_pay cX7_pay 7 (some .int) 4 0 0 Post 0 0 115 [some (.ref 23), some (.int o), some (.int tt), some (.int sum), some (.int (nI s)), some (.int (nI (sm_need s num nm n))), some (.int (nI n))] [] M) :
    ∀ (r k : Nat), k + r = n → sm_G l b D cA yX7_pay cX7_pay 7 (some .int) 4 0 0 Post 0 0 71 [some (.ref 23), some (.int o), some (.int tt), some (.int sum), some (.int (nI s)), some (.int (nI (sm_need s num nm k))), some (.int (nI k))] [] M := by
  obtain ⟨I, A, hm, h7, ha, hbb, ht, hdd, hh⟩ := id hW
  obtain ⟨h23, h24, h25, h26, h27, h28, h29, h30, h31, h32, h33, h34, h35, h36, h37, h38, h39⟩ := id hm
  obtain ⟨i8, hrow⟩ := hq.at hm
  intro r
  induction r with
  | zero =>
    intro k hk
    have e : k = n := by omega
    subst e
    refine sg_iload dX7_pay_71 rfl ?_
    refine sg_aload_n dX7_pay_73 rfl ?_
    refine sg_get dX7_pay_74 fl_X7_135 (by first | rfl | assumption) rfl ?_
    rw [i8]
    refine sg_icmp_ge 115 dX7_pay_77 (by decide) (fun c1 => ?_) (fun c1 => ?_)
    · exact hP
    · exact absurd (nI_le (Nat.le_refl _) (by omega)) c1
  | succ r ih =>
    intro k hk
    have ih2 := ih (k + 1) (by omega)
    rw [show sm_need s num nm (k + 1) = sm_need s num nm k + (if s.testBit k then (if nm (num k) = 0 then 0 else 1) else 0) from rfl] at ih2
    have hk1 := hnum k (by omega)
    have r1' := (hrow k (by omega)).1
    refine sg_iload dX7_pay_71 rfl ?_
    refine sg_aload_n dX7_pay_73 rfl ?_
    refine sg_get dX7_pay_74 fl_X7_135 (by first | rfl | assumption) rfl ?_
    rw [i8]
    refine sg_icmp_ge 115 dX7_pay_77 (by decide) (fun c1 => ?_) (fun c1 => ?_)
    · exact absurd c1 (nI_ge (by omega) (by omega))
    · refine sg_iload dX7_pay_80 rfl ?_
      refine sg_iload dX7_pay_82 rfl ?_
      refine sg_ishr dX7_pay_84 ?_
      refine sg_iconst 1 dX7_pay_85 (by decide) ?_
      refine sg_iand dX7_pay_86 ?_
      rw [sm_bit (by omega) (by omega)]
      refine sg_iconst 1 dX7_pay_87 (by decide) ?_
      cases hbt : s.testBit k with
      | true =>
        rw [hbt, if_pos rfl] at ih2
        rw [if_pos rfl]
        refine sg_icmp_ne 109 dX7_pay_88 (by decide) (fun c2 => ?_) (fun c2 => ?_)
        · exact absurd rfl c2
        · refine sg_aload_n dX7_pay_91 rfl ?_
          refine sg_get dX7_pay_92 fl_X7_22 (by first | rfl | assumption) rfl ?_
          refine sg_aload_n dX7_pay_95 rfl ?_
          refine sg_get dX7_pay_96 fl_X7_53 (by first | rfl | assumption) rfl ?_
          refine sg_iload dX7_pay_99 rfl ?_
          refine sg_ald (k) dX7_pay_101 (by first | rfl | assumption) (rfl) (by omega) (by decide) ?_
          rw [r1']
          refine sg_ald (num k) dX7_pay_102 (by first | rfl | assumption) (rfl) (by omega) (by decide) ?_
          rw [(ha.2 _ hk1).2.2.1]
          refine sg_if_le 109 dX7_pay_103 (by decide) (fun c3 => ?_) (fun c3 => ?_)
          · rw [if_pos ((sm_nmz (hnm _ hk1)).mp c3)] at ih2
            refine sg_iinc _ dX7_pay_109 rfl (sm_inc k) (by decide) ?_
            refine sg_goto 71 dX7_pay_112 (by decide) ?_
            exact ih2
          · rw [if_neg (fun q => c3 ((sm_nmz (hnm _ hk1)).mpr q))] at ih2
            refine sg_iinc _ dX7_pay_106 rfl (sm_inc _) (by decide) ?_
            refine sg_iinc _ dX7_pay_109 rfl (sm_inc k) (by decide) ?_
            refine sg_goto 71 dX7_pay_112 (by decide) ?_
            exact ih2
      | false =>
        rw [hbt, if_neg (by decide)] at ih2
        rw [if_neg (by decide)]
        refine sg_icmp_ne 109 dX7_pay_88 (by decide) (fun c2 => ?_) (fun c2 => ?_)
        · refine sg_iinc _ dX7_pay_109 rfl (sm_inc k) (by decide) ?_
          refine sg_goto 71 dX7_pay_112 (by decide) ?_
          exact ih2
        · exact absurd c2 (by decide)
theorem lp_mhand {s n : Nat} {num w : Nat → Nat} {o tt sum : Int32} {x5 : Option Value} {Post : Option Value → sm_M → Prop} (hc : c ≤ 40) (hn : n ≤ 12) (hs : s < 4096) (hln : ∀ t, t < c → ln t ≤ 80) (hnum : ∀ j, j < n → num j < c) (hnm : ∀ t, t < c → 0 ≤ (nm t).toInt) (hz : τ.1 + sm_need s num nm n ≤ 200)
    (hP : ∀ M1 : sm_M, sm_ex M M1 sm_ml → sm_pq M1 n num w → sm_W M1 0 c ln fg fm (sm_hoO s num tt ow n) nm r1 r2 r3 fame cu it yr (sm_hoT s num nm tt yr τ n) dc ws to gr sp pd hb → sm_G l b D cA yX7_pay cX7_pay 7 (some .int) 4 0 0 Post 0 0 167 [some (.ref 23), some (.int o), some (.int tt), some (.int sum), some (.int (nI s)), x5, some (.int (nI n))] [] M1) :
    ∀ (r k : Nat) (M1 : sm_M), k + r = n → sm_ex M M1 sm_ml → sm_pq M1 n num w → sm_W M1 0 c ln fg fm (sm_hoO s num tt ow k) nm r1 r2 r3 fame cu it yr (sm_hoT s num nm tt yr τ k) dc ws to gr sp pd hb → sm_G l b D cA yX7_pay cX7_pay 7 (some .int) 4 0 0 Post 0 0 129 [some (.ref 23), some (.int o), some (.int tt), some (.int sum), some (.int (nI s)), x5, some (.int (nI k))] [] M1 := by
  intro r
  induction r with
  | zero =>
    intro k M1 hk hx hq hW
    have e : k = n := by omega
    subst e
    obtain ⟨I, A, hm, h7, ha, hbb, ht, hdd, hh⟩ := id hW
    obtain ⟨h23, h24, h25, h26, h27, h28, h29, h30, h31, h32, h33, h34, h35, h36, h37, h38, h39⟩ := id hm
    obtain ⟨i8, hrow⟩ := hq.at hm
    refine sg_iload dX7_pay_129 rfl ?_
    refine sg_aload_n dX7_pay_131 rfl ?_
    refine sg_get dX7_pay_132 fl_X7_135 (by first | rfl | assumption) rfl ?_
    rw [i8]
    refine sg_icmp_ge 167 dX7_pay_135 (by decide) (fun c1 => ?_) (fun c1 => ?_)
    · exact hP M1 hx hq hW
    · exact absurd (nI_le (Nat.le_refl _) (by omega)) c1
  | succ r ih =>
    intro k M1 hk hx hq hW
    obtain ⟨I, A, hm, h7, ha, hbb, ht, hdd, hh⟩ := id hW
    obtain ⟨h23, h24, h25, h26, h27, h28, h29, h30, h31, h32, h33, h34, h35, h36, h37, h38, h39⟩ := id hm
    obtain ⟨i8, hrow⟩ := hq.at hm
    have ih2 := ih (k + 1)
    unfold sm_hoO sm_hoT at ih2
    have hk1 := hnum k (by omega)
    have r1' := (hrow k (by omega)).1
    have hlen := sm_hoT_len s num nm tt yr τ k
    have hneed : sm_need s num nm (k + 1) ≤ sm_need s num nm n := sm_need_mono s num nm (by omega)
    rw [show sm_need s num nm (k + 1) = sm_need s num nm k + (if s.testBit k then (if nm (num k) = 0 then 0 else 1) else 0) from rfl] at hneed
    refine sg_iload dX7_pay_129 rfl ?_
    refine sg_aload_n dX7_pay_131 rfl ?_
    refine sg_get dX7_pay_132 fl_X7_135 (by first | rfl | assumption) rfl ?_
    rw [i8]
    refine sg_icmp_ge 167 dX7_pay_135 (by decide) (fun c1 => ?_) (fun c1 => ?_)
    · exact absurd c1 (nI_ge (by omega) (by omega))
    · refine sg_iload dX7_pay_138 rfl ?_
      refine sg_iload dX7_pay_140 rfl ?_
      refine sg_ishr dX7_pay_142 ?_
      refine sg_iconst 1 dX7_pay_143 (by decide) ?_
      refine sg_iand dX7_pay_144 ?_
      rw [sm_bit (by omega) (by omega)]
      refine sg_iconst 1 dX7_pay_145 (by decide) ?_
      cases hbt : s.testBit k with
      | true =>
        rw [hbt, if_pos rfl] at hneed
        rw [hbt, if_pos rfl, if_pos rfl] at ih2
        rw [if_pos rfl]
        refine sg_icmp_ne 161 dX7_pay_146 (by decide) (fun c2 => ?_) (fun c2 => ?_)
        · exact absurd rfl c2
        · refine sg_aload_n dX7_pay_149 rfl ?_
          refine sg_aload_n dX7_pay_150 rfl ?_
          refine sg_get dX7_pay_151 fl_X7_53 (by first | rfl | assumption) rfl ?_
          refine sg_iload dX7_pay_154 rfl ?_
          refine sg_ald (k) dX7_pay_156 (by first | rfl | assumption) (rfl) (by omega) (by decide) ?_
          refine sg_iload_n dX7_pay_157 rfl ?_
          rw [r1']
          refine sg_V2 dX7_pay_158 cv_X7_109 h23 (w_hand2 tt rfl hk1 hc (hnm _ hk1) ?_ hln hq hW) (Nat.le_of_ble_eq_true rfl) (Nat.le_of_ble_eq_true rfl) (Nat.le_of_ble_eq_true rfl) (Nat.le_of_ble_eq_true rfl) (fun r9 M6 hp => ?_)
          · by_cases e : nm (num k) = 0
            · exact Or.inl e
            · rw [if_neg e] at hneed
              exact Or.inr (by omega)
          · obtain ⟨rfl, x6, q6, W6⟩ := hp
            refine sg_iinc _ dX7_pay_161 rfl (sm_inc k) (by decide) ?_
            refine sg_goto 129 dX7_pay_164 (by decide) ?_
            exact ih2 M6 (by omega) (hx.tr x6) q6 W6
      | false =>
        rw [hbt, if_neg (by decide), if_neg (by decide)] at ih2
        rw [if_neg (by decide)]
        refine sg_icmp_ne 161 dX7_pay_146 (by decide) (fun c2 => ?_) (fun c2 => ?_)
        · refine sg_iinc _ dX7_pay_161 rfl (sm_inc k) (by decide) ?_
          refine sg_goto 129 dX7_pay_164 (by decide) ?_
          exact ih2 M1 (by omega) hx hq hW
        · exact absurd c2 (by decide)
theorem m_pay {u : Nat → Nat} (o tt sum : Int32) (hc : c ≤ 40) (hln : ∀ t, t < c → ln t ≤ 80) (hnm : ∀ t, t < c → 0 ≤ (nm t).toInt) (hgr : ∀ s, s < c → ∀ k, k < ln s → 0 ≤ (fg s k).toInt ∧ (fg s k).toInt < 5) (hr3 : ∀ j, j < 5 → 1 ≤ (r3 j).toInt) (hr4 : ∀ j, j < 5 → r4 j = nI (sm_cg fg ln (nI j) c)) (hw : ∀ i, i < c → sm_wv r1 r2 r3 r4 fame ln (sm_js fg ln) nm i = nI (u i)) (hz : τ.1 ≤ 200) (hW : sm_W M th c ln fg fm ow nm r1 r2 r3 fame cu it yr τ dc ws to gr sp pd hb) : sm_Ct l b D cA yX7_pay cX7_pay 7 (some .int) 4 0 0 [.ref 23, .int o, .int tt, .int sum] M (fun r M1 => sm_ex M M1 sm_ml ∧ (¬ sm_payb c ln ow o tt sum → r = some (.int (-1)) ∧ sm_W M1 0 c ln fg fm ow nm r1 r2 r3 fame cu it yr τ dc ws to gr sp pd hb) ∧ (sm_payb c ln ow o tt sum → (sm_S1 ln ow o u c sum = 0 → r = some (.int (-2)) ∧ sm_W M1 0 c ln fg fm ow nm r1 r2 r3 fame cu it yr τ dc ws to gr sp pd hb) ∧ (¬ sm_S1 ln ow o u c sum = 0 → (¬ τ.1 + sm_need (sm_S1 ln ow o u c sum) (sm_filN ln ow o (fun i => i) c) nm (sm_own ln ow o c) ≤ 200 → r = some (.int (-1)) ∧ sm_W M1 0 c ln fg fm ow nm r1 r2 r3 fame cu it yr τ dc ws to gr sp pd hb) ∧ (τ.1 + sm_need (sm_S1 ln ow o u c sum) (sm_filN ln ow o (fun i => i) c) nm (sm_own ln ow o c) ≤ 200 → r = some (.int (nI (sm_ws (sm_filN ln ow o u c) (sm_S1 ln ow o u c sum) (sm_own ln ow o c)) - sum)) ∧ sm_W M1 0 c ln fg fm (sm_hoO (sm_S1 ln ow o u c sum) (sm_filN ln ow o (fun i => i) c) tt ow (sm_own ln ow o c)) nm r1 r2 r3 fame cu it yr (sm_hoT (sm_S1 ln ow o u c sum) (sm_filN ln ow o (fun i => i) c) nm tt yr τ (sm_own ln ow o c)) dc ws to gr sp pd hb)))) := by
  have hle := sm_srv_le (sm_filN ln ow o u c) (sm_own ln ow o c) sum (2 ^ sm_own ln ow o c - 1)
  obtain ⟨I, A, hm, h7, ha, hbb, ht, hdd, hh⟩ := id hW
  obtain ⟨h23, h24, h25, h26, h27, h28, h29, h30, h31, h32, h33, h34, h35, h36, h37, h38, h39⟩ := id hm
  refine sm_enter (by decide +kernel) rfl (fun _ => Nat.le_of_ble_eq_true rfl) ?_
  refine sg_aload_n dX7_pay_0 rfl ?_
  refine sg_iconst 0 dX7_pay_1 (by decide) ?_
  refine sg_putx dX7_pay_2 fl_X7_68 ft_X7_18 h23 (Nat.le_of_ble_eq_true rfl) (fun M2 x2 q2 => ?_)
  have W2 : sm_W M2 0 c ln fg fm ow nm r1 r2 r3 fame cu it yr τ dc ws to gr sp pd hb := ⟨upd I 7 0, A, hm.o x2 q2, rfl, ha, hbb, ht, hdd, hh⟩
  have X2 : sm_ex M M2 sm_ml := x2.mono (by decide)
  clear q2 x2 hh hdd ht hbb ha h7 hm h23 h24 h25 h26 h27 h28 h29 h30 h31 h32 h33 h34 h35 h36 h37 h38 h39
  obtain ⟨I, A, hm, h7, ha, hbb, ht, hdd, hh⟩ := id W2
  obtain ⟨h23, h24, h25, h26, h27, h28, h29, h30, h31, h32, h33, h34, h35, h36, h37, h38, h39⟩ := id hm
  refine sg_iload_n dX7_pay_5 rfl ?_
  refine sg_iconst 0 dX7_pay_6 (by decide) ?_
  refine sg_bipush 9 dX7_pay_7 (by decide) ?_
  refine sg_S3 dX7_pay_9 cs_X7_74 (c_in _ _ _) (Nat.le_of_ble_eq_true rfl) (Nat.le_of_ble_eq_true rfl) (Nat.le_of_ble_eq_true rfl) (Nat.le_of_ble_eq_true rfl) (fun r M1 hp => ?_)
  obtain ⟨rfl, e9⟩ := hp; rw [e9]
  refine sg_bf_eq 48 dX7_pay_12 (by decide) (fun c1 => ?_) (fun c1 => ?_)
  · rw [ti_0, ti_9] at c1
    refine sg_iconst (-1) dX7_pay_48 (by decide) ?_
    refine sg_ireturn dX7_pay_49 rfl (Nat.le_of_ble_eq_true rfl) (Nat.le_of_ble_eq_true rfl) ?_
    exact ⟨X2, fun _ => ⟨rfl, W2⟩, fun q => absurd q.2.2.1 (by omega)⟩
  · rw [ti_0, ti_9] at c1
    refine sg_iload_n dX7_pay_15 rfl ?_
    refine sg_iconst 0 dX7_pay_16 (by decide) ?_
    refine sg_bipush 9 dX7_pay_17 (by decide) ?_
    refine sg_S3 dX7_pay_19 cs_X7_74 (c_in _ _ _) (Nat.le_of_ble_eq_true rfl) (Nat.le_of_ble_eq_true rfl) (Nat.le_of_ble_eq_true rfl) (Nat.le_of_ble_eq_true rfl) (fun r M1 hp => ?_)
    obtain ⟨rfl, e9⟩ := hp; rw [e9]
    refine sg_bf_eq 48 dX7_pay_22 (by decide) (fun c2 => ?_) (fun c2 => ?_)
    · rw [ti_0, ti_9] at c2
      refine sg_iconst (-1) dX7_pay_48 (by decide) ?_
      refine sg_ireturn dX7_pay_49 rfl (Nat.le_of_ble_eq_true rfl) (Nat.le_of_ble_eq_true rfl) ?_
      exact ⟨X2, fun _ => ⟨rfl, W2⟩, fun q => absurd q.1 (by omega)⟩
    · rw [ti_0, ti_9] at c2
      refine sg_iload_n dX7_pay_25 rfl ?_
      refine sg_iload_n dX7_pay_26 rfl ?_
      refine sg_icmp_eq 48 dX7_pay_27 (by decide) (fun c3 => ?_) (fun c3 => ?_)
      · refine sg_iconst (-1) dX7_pay_48 (by decide) ?_
        refine sg_ireturn dX7_pay_49 rfl (Nat.le_of_ble_eq_true rfl) (Nat.le_of_ble_eq_true rfl) ?_
        exact ⟨X2, fun _ => ⟨rfl, W2⟩, fun q => absurd c3 q.2.1⟩
      · refine sg_iload_n dX7_pay_30 rfl ?_
        refine sg_iconst 1 dX7_pay_31 (by decide) ?_
        refine sg_ldc _ dX7_pay_32 kc_X7_141 ?_
        refine sg_S3 dX7_pay_34 cs_X7_74 (c_in _ _ _) (Nat.le_of_ble_eq_true rfl) (Nat.le_of_ble_eq_true rfl) (Nat.le_of_ble_eq_true rfl) (Nat.le_of_ble_eq_true rfl) (fun r M1 hp => ?_)
        obtain ⟨rfl, e9⟩ := hp; rw [e9]
        refine sg_bf_eq 48 dX7_pay_37 (by decide) (fun c4 => ?_) (fun c4 => ?_)
        · rw [ti_1, ti_1000000] at c4
          refine sg_iconst (-1) dX7_pay_48 (by decide) ?_
          refine sg_ireturn dX7_pay_49 rfl (Nat.le_of_ble_eq_true rfl) (Nat.le_of_ble_eq_true rfl) ?_
          exact ⟨X2, fun _ => ⟨rfl, W2⟩, fun q => absurd q.2.2.2.1 c4⟩
        · rw [ti_1, ti_1000000] at c4
          refine sg_aload_n dX7_pay_40 rfl ?_
          refine sg_iload_n dX7_pay_41 rfl ?_
          refine sg_V1 dX7_pay_42 cv_X7_142 h23 (w_gather (fg := fg) (r4 := r4) o hc hln hnm hgr hr3 hr4 hw W2) (Nat.le_of_ble_eq_true rfl) (Nat.le_of_ble_eq_true rfl) (Nat.le_of_ble_eq_true rfl) (Nat.le_of_ble_eq_true rfl) (fun r9 M6 hp => ?_)
          obtain ⟨rfl, x6, W6, q6⟩ := hp
          refine sg_bf_ne 50 dX7_pay_45 (by decide) (fun c5 => ?_) (fun c5 => ?_)
          · have hpb : sm_payb c ln ow o tt sum := ⟨by omega, c3, by omega, c4, c5⟩
            have h12 : 2 ^ sm_own ln ow o c ≤ 2 ^ 12 := Nat.pow_le_pow_right (by decide) c5
            clear h23 h24 h25 h26 h27 h28 h29 h30 h31 h32 h33 h34 h35 h36 h37 h38 h39
            obtain ⟨I, A, hm, h7, ha, hbb, ht, hdd, hh⟩ := id W6
            have h23 := hm.1
            obtain ⟨i8, hrow⟩ := (q6 c5).at hm
            have hnum : ∀ j, j < sm_own ln ow o c → sm_filN ln ow o (fun i => i) c j < c := sm_filN_lt ln ow o c
            refine sg_aload_n dX7_pay_50 rfl ?_
            refine sg_iload_n dX7_pay_51 rfl ?_
            refine sg_V1 dX7_pay_52 cv_X7_145 h23 (c_serving sum c5 i8 (fun k hk => (hrow k hk).2) hm) (Nat.le_of_ble_eq_true rfl) (Nat.le_of_ble_eq_true rfl) (Nat.le_of_ble_eq_true rfl) (Nat.le_of_ble_eq_true rfl) (fun r9 M9 hp => ?_)
            obtain ⟨rfl, e9⟩ := hp
            rw [e9]
            refine sg_istore dX7_pay_55 (by decide) ?_
            refine sg_iload dX7_pay_57 rfl ?_
            refine sg_if_ne 65 dX7_pay_59 (by decide) (fun c6 => ?_) (fun c6 => ?_)
            · have c6' : ¬ sm_S1 ln ow o u c sum = 0 := fun q => c6 (congrArg nI q)
              refine sg_iconst (nI 0) dX7_pay_65 (by decide) ?_
              refine sg_istore dX7_pay_66 (by decide) ?_
              refine sg_iconst (nI 0) dX7_pay_68 (by decide) ?_
              refine sg_istore dX7_pay_69 (by decide) ?_
              refine lp_mneed hc c5 (by omega) hnum hnm (q6 c5) W6 ?_ (sm_own ln ow o c) 0 (by omega)
              refine sg_aload_n dX7_pay_115 rfl ?_
              refine sg_iload dX7_pay_116 rfl ?_
              refine sg_V1 dX7_pay_118 cv_X7_99 h23 (w_hasRoom _ rfl (Nat.le_trans (sm_need_le (sm_S1 ln ow o u c sum) (sm_filN ln ow o (fun i => i) c) nm (sm_own ln ow o c)) (by omega)) hz W6) (Nat.le_of_ble_eq_true rfl) (Nat.le_of_ble_eq_true rfl) (Nat.le_of_ble_eq_true rfl) (Nat.le_of_ble_eq_true rfl) (fun r9 M9 hp => ?_)
              obtain ⟨rfl, e9⟩ := hp
              rw [e9]
              refine sg_bf_ne 126 dX7_pay_121 (by decide) (fun c7 => ?_) (fun c7 => ?_)
              · refine sg_iconst (nI 0) dX7_pay_126 (by decide) ?_
                refine sg_istore dX7_pay_127 (by decide) ?_
                refine lp_mhand (M := M6) hc c5 (by omega) hln hnum hnm c7 (fun M7 x7 q7 W7 => ?_) (sm_own ln ow o c) 0 M6 (by omega) sm_ex.rf (q6 c5) W6
                clear h23
                obtain ⟨I, A, hm, h7, ha, hbb, ht, hdd, hh⟩ := id W7
                have h23 := hm.1
                obtain ⟨i8, hrow⟩ := q7.at hm
                refine sg_aload_n dX7_pay_167 rfl ?_
                refine sg_iload dX7_pay_168 rfl ?_
                refine sg_V1 dX7_pay_170 cv_X7_138 h23 (c_mworthOf rfl c5 (by omega) i8 (fun k hk => (hrow k hk).2) hm) (Nat.le_of_ble_eq_true rfl) (Nat.le_of_ble_eq_true rfl) (Nat.le_of_ble_eq_true rfl) (Nat.le_of_ble_eq_true rfl) (fun r9 M9 hp => ?_)
                obtain ⟨rfl, e9⟩ := hp
                rw [e9]
                refine sg_iload_n dX7_pay_173 rfl ?_
                refine sg_isub dX7_pay_174 ?_
                refine sg_ireturn dX7_pay_175 rfl (Nat.le_of_ble_eq_true rfl) (Nat.le_of_ble_eq_true rfl) ?_
                exact ⟨X2.tr (x6.tr x7), fun q => absurd hpb q, fun _ => ⟨fun q => absurd q c6', fun _ => ⟨fun q => absurd c7 q, fun _ => ⟨rfl, W7⟩⟩⟩⟩
              · refine sg_iconst (-1) dX7_pay_124 (by decide) ?_
                refine sg_ireturn dX7_pay_125 rfl (Nat.le_of_ble_eq_true rfl) (Nat.le_of_ble_eq_true rfl) ?_
                exact ⟨X2.tr x6, fun q => absurd hpb q, fun _ => ⟨fun q => absurd q c6', fun _ => ⟨fun _ => ⟨rfl, W6⟩, fun q => absurd q c7⟩⟩⟩
            · have c6' : sm_S1 ln ow o u c sum = 0 := by
                rcases Nat.eq_zero_or_pos (sm_S1 ln ow o u c sum) with q | q
                · exact q
                · exact absurd c6 (nI_ne0 q (by omega))
              refine sg_bipush (-2) dX7_pay_62 (by decide) ?_
              refine sg_ireturn dX7_pay_64 rfl (Nat.le_of_ble_eq_true rfl) (Nat.le_of_ble_eq_true rfl) ?_
              exact ⟨X2.tr x6, fun q => absurd hpb q, fun _ => ⟨fun _ => ⟨rfl, W6⟩, fun q => absurd c6' q⟩⟩
          · refine sg_iconst (-1) dX7_pay_48 (by decide) ?_
            refine sg_ireturn dX7_pay_49 rfl (Nat.le_of_ble_eq_true rfl) (Nat.le_of_ble_eq_true rfl) ?_
            exact ⟨X2.tr x6, fun _ => ⟨rfl, W6⟩, fun q => absurd q.2.2.2.2 c5⟩
end SM66
