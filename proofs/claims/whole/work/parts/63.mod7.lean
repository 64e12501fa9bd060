/-! pure rows: counts, least grades, rates; the reference's turn, name, bead, named, rate, of, rich, drawn, cheat -/
def sm_cg (fg : Nat → Nat → Int32) (ln : Nat → Nat) (g : Int32) : Nat → Nat
  | 0 => 0
  | s + 1 => sm_cg fg ln g s + sm_cnt1 (fg s) g 0 (ln s)
theorem sm_cnt1_sh {f h : Nat → Int32} {g : Int32} {a b : Nat} : ∀ n, (∀ k, k < n → f (a + k) = h (b + k)) → sm_cnt1 f g a n = sm_cnt1 h g b n
  | 0, _ => rfl
  | n + 1, e => by
    unfold sm_cnt1
    rw [sm_cnt1_sh n (fun k hk => e k (by omega)), e n (by omega)]
theorem sm_cnt_cg {f : Nat → Int32} {fg : Nat → Nat → Int32} {ln : Nat → Nat} {g : Int32} : ∀ c, (∀ s, s < c → ∀ k, k < ln s → f (80 * s + k) = fg s k) → sm_cnt f ln g c = sm_cg fg ln g c
  | 0, _ => rfl
  | c + 1, e => by
    unfold sm_cnt sm_cg
    rw [sm_cnt_cg c (fun s hs => e s (by omega)), sm_cnt1_sh (h := fg c) (b := 0) (ln c) (fun k hk => by rw [Nat.zero_add]; exact e c (by omega) k hk)]
theorem sm_mleast_sh {f h : Nat → Int32} {a b : Nat} : ∀ n, (∀ k, k < n → f (a + k) = h (b + k)) → sm_mleast f a n = sm_mleast h b n
  | 0, _ => rfl
  | n + 1, e => by
    unfold sm_mleast
    rw [sm_mleast_sh n (fun k hk => e k (by omega)), e n (by omega)]
theorem sm_seen_sh {f h : Nat → Int32} : ∀ n, (∀ k, k < n → f k = h k) → sm_seen f n = sm_seen h n
  | 0, _ => rfl
  | n + 1, e => by
    unfold sm_seen
    rw [sm_seen_sh n (fun k hk => e k (by omega)), e n (by omega)]
theorem sm_least_ok {f : Nat → Int32} {a : Nat} : ∀ k, (∀ t, t < k → 0 ≤ (f (a + t)).toInt ∧ (f (a + t)).toInt < 5) → 0 < k → sm_least f a k = sm_mleast f a k ∧ 0 ≤ (sm_least f a k).toInt ∧ (sm_least f a k).toInt < 5
  | 0, _, h0 => absurd h0 (Nat.lt_irrefl 0)
  | k + 1, h, _ => by
    have hk := h k (by omega)
    rcases Nat.eq_zero_or_pos k with e | e
    · subst e
      have h1 : sm_least f a (0 + 1) = f (a + 0) := by
        unfold sm_least
        rw [if_pos (Or.inl (show sm_least f a 0 = -1 from rfl))]
      have h2 : sm_mleast f a (0 + 1) = f (a + 0) := by
        unfold sm_mleast
        rw [if_pos]
        show f (a + 0) < (5 : Int32)
        rw [Int32.lt_iff_toInt_lt, ti_5]
        exact hk.2
      rw [h1, h2]
      exact ⟨rfl, hk⟩
    · obtain ⟨e1, e2, e3⟩ := sm_least_ok k (fun t ht => h t (by omega)) e
      unfold sm_least sm_mleast
      have hn : ¬ sm_least f a k = -1 := fun q => by
        rw [q] at e2
        exact absurd e2 (by decide)
      rw [← e1]
      by_cases q : f (a + k) < sm_least f a k
      · rw [if_pos (Or.inr q), if_pos q]
        exact ⟨rfl, hk⟩
      · rw [if_neg (fun z => z.elim hn q), if_neg q]
        exact ⟨rfl, e2, e3⟩
theorem sm_mrate_eq {A : Nat → Nat → Int32} {r1 r3 r4 : Nat → Int32} {n j : Nat} (h29 : A 29 j = r1 j) (h31 : A 31 j = r3 j) (h3 : 1 ≤ (r3 j).toInt) (h4 : r4 j = nI n) : sm_mrate A n j = sm_rate r1 r3 r4 j := by
  unfold sm_mrate sm_rate
  rw [h29, h31, h4]
  rw [if_neg (show ¬ r3 j ≤ 0 by rw [Int32.le_iff_toInt_le, ti_0]; omega)]
  generalize r1 j - nI n / r3 j = x
  by_cases e : 1 < x
  · rw [if_pos e, if_pos (by rw [Int32.le_iff_toInt_le]; rw [Int32.lt_iff_toInt_lt] at e; omega)]
  · rw [if_neg e]
    by_cases q : (1 : Int32) ≤ x
    · rw [if_pos q]
      rw [Int32.le_iff_toInt_le] at q
      rw [Int32.lt_iff_toInt_lt] at e
      exact Int32.toInt_inj.mp (by omega)
    · rw [if_neg q]
/-- the least grade's number -/
abbrev sm_js (fg : Nat → Nat → Int32) (ln : Nat → Nat) (k : Nat) : Nat := (sm_least (fg k) 0 (ln k)).toInt.toNat
theorem sm_js_ok {fg : Nat → Nat → Int32} {ln : Nat → Nat} {c : Nat} (hgr : ∀ s, s < c → ∀ k, k < ln s → 0 ≤ (fg s k).toInt ∧ (fg s k).toInt < 5) : ∀ k, k < c → 0 < ln k → sm_least (fg k) 0 (ln k) = nI (sm_js fg ln k) ∧ sm_js fg ln k < 5 := fun k hk h0 => by
  obtain ⟨e1, e2, e3⟩ := sm_least_ok (f := fg k) (a := 0) (ln k) (fun t ht => by rw [Nat.zero_add]; exact hgr k hk t ht) h0
  exact ⟨sm_asN e2, show (sm_least (fg k) 0 (ln k)).toInt.toNat < 5 by omega⟩
/-- the name's bearer, in both -/
theorem sm_who_nmd {A : Nat → Nat → Int32} {nm : Nat → Int32} {ln : Nat → Nat} {x : Int32} {c : Nat} (h : ∀ s, s < c → A 26 s = nI (ln s) ∧ A 28 s = nm s ∧ ln s ≤ 80 ∧ (0 ≤ (nm s).toInt ∧ (nm s).toInt ≤ 99) ∧ (ln s = 0 → nm s = 0)) : ∀ r s, s + r = c → sm_who A x r s = if 0 < x.toInt ∧ x.toInt ≤ 99 then sm_nmd nm x r s else -1
  | 0, s, _ => by
    unfold sm_who sm_nmd
    split <;> rfl
  | r + 1, s, hs => by
    have ih := sm_who_nmd (x := x) h r (s + 1) (by omega)
    obtain ⟨e26, e28, h80, hn, hg⟩ := h s (by omega)
    unfold sm_who sm_nmd
    rw [e26, e28, ih]
    simp only [Int32.le_iff_toInt_le, ti_0, nI_toInt (show ln s < 2 ^ 31 by omega)]
    by_cases q : 0 < x.toInt ∧ x.toInt ≤ 99
    · rw [if_pos q, if_pos q]
      by_cases e : nm s = x
      · have hl : 0 < ln s := by
          rcases Nat.eq_zero_or_pos (ln s) with z | z
          · have := hg z
            rw [← e, this, ti_0] at q
            omega
          · exact z
        rw [if_pos ⟨by omega, by omega, e⟩, if_pos e]
      · rw [if_neg (fun z => e z.2.2), if_neg e]
    · rw [if_neg q, if_neg q]
      rw [if_neg]
      rintro ⟨z1, z2, z3⟩
      rw [← z3] at q z1
      omega
section SM63
variable {l : Launch} {b : Nat} {D : va_G} {cA : Nat → ClassId} {M : sm_M}
variable {th : Int32} {c dc : Nat} {ln hb : Nat → Nat} {fg fm : Nat → Nat → Int32} {ow nm r1 r2 r3 r4 ws to gr sp pd : Nat → Int32} {fame cu it yr : Int32} {τ : sm_T5}
theorem w_rateOf {g : Int32} (j : Nat) (hg : g = nI j) (hj : j < 5) (hc : c ≤ 40) (hln : ∀ t, t < c → ln t ≤ 80) (hr3 : ∀ j, j < 5 → 1 ≤ (r3 j).toInt) (hr4 : ∀ j, j < 5 → r4 j = nI (sm_cg fg ln (nI j) c)) (hW : sm_W M th c ln fg fm ow nm r1 r2 r3 fame cu it yr τ dc ws to gr sp pd hb) : sm_Ct l b D cA yX7_rateOf cX7_rateOf 5 (some .int) 0 0 0 [.ref 23, .int g] M (fun r M1 => r = some (.int (sm_rate r1 r3 r4 j)) ∧ M1 = M) := by
  obtain ⟨I, A, hm, h7, ha, hbb, ht, hdd, hh⟩ := id hW
  obtain ⟨h23, h24, h25, h26, h27, h28, h29, h30, h31, h32, h33, h34, h35, h36, h37, h38, h39⟩ := id hm
  obtain ⟨b29, b30, b31⟩ := hbb.2.2.2.2 j hj
  have h3 := hr3 j hj
  refine sm_Ct.post (c_rateOf (ln := ln) hg hj (by rw [b31]; intro q; rw [q] at h3; exact absurd h3 (by decide)) hc ha.1 (fun s hs => ⟨(ha.2 s hs).1, hln s hs⟩) hm) (fun r M1 hp => ?_)
  rw [sm_cnt_cg (fg := fg) c (fun s hs k hk => ((ha.2 s hs).2.2.2 k hk).1), sm_mrate_eq b29 b31 h3 (hr4 j hj)] at hp
  exact hp
theorem w_worth {s : Nat} {x : Int32} (hx : x = nI s) (hs : s < c) (hc : c ≤ 40) (hln : ∀ t, t < c → ln t ≤ 80) (hnm : ∀ t, t < c → 0 ≤ (nm t).toInt) (hgr : ∀ s, s < c → ∀ k, k < ln s → 0 ≤ (fg s k).toInt ∧ (fg s k).toInt < 5) (hr3 : ∀ j, j < 5 → 1 ≤ (r3 j).toInt) (hr4 : ∀ j, j < 5 → r4 j = nI (sm_cg fg ln (nI j) c)) (hW : sm_W M th c ln fg fm ow nm r1 r2 r3 fame cu it yr τ dc ws to gr sp pd hb) : sm_Ct l b D cA yX7_worth cX7_worth 2 (some .int) 2 0 0 [.ref 23, .int x] M (fun r M1 => r = some (.int (sm_wv r1 r2 r3 r4 fame ln (sm_js fg ln) nm s)) ∧ M1 = M) := by
  obtain ⟨I, A, hm, h7, ha, hbb, ht, hdd, hh⟩ := id hW
  obtain ⟨h23, h24, h25, h26, h27, h28, h29, h30, h31, h32, h33, h34, h35, h36, h37, h38, h39⟩ := id hm
  obtain ⟨b26, b27, b28, bN⟩ := ha.2 s hs
  have hj := sm_js_ok hgr s hs
  refine sm_Ct.post (c_worth (ln := ln) (j := sm_js fg ln s) hx hs rfl (fun h0 => ?_) hc ha.1 (fun s hs => ⟨(ha.2 s hs).1, hln s hs⟩) hm) (fun r M1 hp => ?_)
  · obtain ⟨e1, e2⟩ := hj h0
    have h3 := hr3 _ e2
    obtain ⟨b29, b30, b31⟩ := hbb.2.2.2.2 _ e2
    refine ⟨?_, e2, by rw [b31]; intro q; rw [q] at h3; exact absurd h3 (by decide)⟩
    rw [← e1, (sm_least_ok (f := fg s) (a := 0) (ln s) (fun t ht => by rw [Nat.zero_add]; exact hgr s hs t ht) h0).1]
    exact sm_mleast_sh (ln s) (fun k hk => by rw [Nat.zero_add]; exact (bN k hk).1)
  · unfold sm_wv
    by_cases h0 : ln s = 0
    · rw [if_pos h0] at hp ⊢
      exact hp
    · rw [if_neg h0] at hp ⊢
      obtain ⟨e1, e2⟩ := hj (by omega)
      obtain ⟨b29, b30, b31⟩ := hbb.2.2.2.2 _ e2
      unfold sm_mbw at hp
      rw [sm_cnt_cg (fg := fg) c (fun s hs k hk => ((ha.2 s hs).2.2.2 k hk).1), sm_mrate_eq b29 b31 (hr3 _ e2) (hr4 _ e2), b30, b28, hbb.1, sm_need1 (hnm s hs)] at hp
      exact hp
theorem m_rate (g : Int32) (hc : c ≤ 40) (hln : ∀ t, t < c → ln t ≤ 80) (hr3 : ∀ j, j < 5 → 1 ≤ (r3 j).toInt) (hr4 : ∀ j, j < 5 → r4 j = nI (sm_cg fg ln (nI j) c)) (hW : sm_W M th c ln fg fm ow nm r1 r2 r3 fame cu it yr τ dc ws to gr sp pd hb) : sm_Ct l b D cA yX7_rate cX7_rate 2 (some .int) 1 0 0 [.ref 23, .int g] M (fun r M1 => r = some (.int (if 0 ≤ g.toInt ∧ g.toInt < 5 then sm_rate r1 r3 r4 g.toInt.toNat else -1)) ∧ sm_ex M M1 sm_ml ∧ sm_W M1 0 c ln fg fm ow nm r1 r2 r3 fame cu it yr τ dc ws to gr sp pd hb) := by
  obtain ⟨I, A, hm, h7, ha, hbb, ht, hdd, hh⟩ := id hW
  obtain ⟨h23, h24, h25, h26, h27, h28, h29, h30, h31, h32, h33, h34, h35, h36, h37, h38, h39⟩ := id hm
  refine sm_enter (by decide +kernel) rfl (fun _ => Nat.le_of_ble_eq_true rfl) ?_
  refine sg_aload_n dX7_rate_0 rfl ?_
  refine sg_iconst 0 dX7_rate_1 (by decide) ?_
  refine sg_putx dX7_rate_2 fl_X7_68 ft_X7_18 h23 (Nat.le_of_ble_eq_true rfl) (fun M2 x2 q2 => ?_)
  have W2 : sm_W M2 0 c ln fg fm ow nm r1 r2 r3 fame cu it yr τ dc ws to gr sp pd hb := ⟨upd I 7 0, A, hm.o x2 q2, rfl, ha, hbb, ht, hdd, hh⟩
  have X2 : sm_ex M M2 sm_ml := x2.mono (by decide)
  clear q2 x2 hh hdd ht hbb ha h7 hm h23 h24 h25 h26 h27 h28 h29 h30 h31 h32 h33 h34 h35 h36 h37 h38 h39
  obtain ⟨I, A, hm, h7, ha, hbb, ht, hdd, hh⟩ := id W2
  obtain ⟨h23, h24, h25, h26, h27, h28, h29, h30, h31, h32, h33, h34, h35, h36, h37, h38, h39⟩ := id hm
  refine sg_iload_n dX7_rate_5 rfl ?_
  refine sg_iconst 0 dX7_rate_6 (by decide) ?_
  refine sg_iconst 4 dX7_rate_7 (by decide) ?_
  refine sg_S3 dX7_rate_8 cs_X7_74 (c_in _ _ _) (Nat.le_of_ble_eq_true rfl) (Nat.le_of_ble_eq_true rfl) (Nat.le_of_ble_eq_true rfl) (Nat.le_of_ble_eq_true rfl) (fun r M1 hp => ?_)
  obtain ⟨rfl, e9⟩ := hp; rw [e9]
  refine sg_bf_eq 22 dX7_rate_11 (by decide) (fun c1 => ?_) (fun c1 => ?_)
  · rw [ti_0, ti_4] at c1
    refine sg_iconst (-1) dX7_rate_22 (by decide) ?_
    refine sg_ireturn dX7_rate_23 rfl (Nat.le_of_ble_eq_true rfl) (Nat.le_of_ble_eq_true rfl) ?_
    exact ⟨by rw [if_neg (by omega)], X2, W2⟩
  · rw [ti_0, ti_4] at c1
    have c1' : 0 ≤ g.toInt ∧ g.toInt < (5 : Nat) := by omega
    refine sg_aload_n dX7_rate_14 rfl ?_
    refine sg_iload_n dX7_rate_15 rfl ?_
    refine sg_V1 dX7_rate_16 cv_X7_113 h23 (w_rateOf _ (sm_toN c1').1 (sm_toN c1').2 hc hln hr3 hr4 W2) (Nat.le_of_ble_eq_true rfl) (Nat.le_of_ble_eq_true rfl) (Nat.le_of_ble_eq_true rfl) (Nat.le_of_ble_eq_true rfl) (fun r9 M9 hp => ?_)
    obtain ⟨rfl, e9⟩ := hp
    rw [e9]
    refine sg_goto 23 dX7_rate_19 (by decide) ?_
    refine sg_ireturn dX7_rate_23 rfl (Nat.le_of_ble_eq_true rfl) (Nat.le_of_ble_eq_true rfl) ?_
    exact ⟨by rw [if_pos (by omega)], X2, W2⟩
theorem m_named (x : Int32) (hc : c ≤ 40) (hln : ∀ t, t < c → ln t ≤ 80) (hn0 : ∀ t, t < c → (0 ≤ (nm t).toInt ∧ (nm t).toInt ≤ 99) ∧ (ln t = 0 → nm t = 0)) (hW : sm_W M th c ln fg fm ow nm r1 r2 r3 fame cu it yr τ dc ws to gr sp pd hb) : sm_Ct l b D cA yX7_named cX7_named 2 (some .int) 1 0 0 [.ref 23, .int x] M (fun r M1 => r = some (.int (if 0 < x.toInt ∧ x.toInt ≤ 99 then sm_nmd nm x c 0 else -1)) ∧ sm_ex M M1 sm_ml ∧ sm_W M1 0 c ln fg fm ow nm r1 r2 r3 fame cu it yr τ dc ws to gr sp pd hb) := by
  obtain ⟨I, A, hm, h7, ha, hbb, ht, hdd, hh⟩ := id hW
  obtain ⟨h23, h24, h25, h26, h27, h28, h29, h30, h31, h32, h33, h34, h35, h36, h37, h38, h39⟩ := id hm
  refine sm_enter (by decide +kernel) rfl (fun _ => Nat.le_of_ble_eq_true rfl) ?_
  refine sg_aload_n dX7_named_0 rfl ?_
  refine sg_iconst 0 dX7_named_1 (by decide) ?_
  refine sg_putx dX7_named_2 fl_X7_68 ft_X7_18 h23 (Nat.le_of_ble_eq_true rfl) (fun M2 x2 q2 => ?_)
  have W2 : sm_W M2 0 c ln fg fm ow nm r1 r2 r3 fame cu it yr τ dc ws to gr sp pd hb := ⟨upd I 7 0, A, hm.o x2 q2, rfl, ha, hbb, ht, hdd, hh⟩
  have X2 : sm_ex M M2 sm_ml := x2.mono (by decide)
  clear q2 x2 hh hdd ht hbb ha h7 hm h23 h24 h25 h26 h27 h28 h29 h30 h31 h32 h33 h34 h35 h36 h37 h38 h39
  obtain ⟨I, A, hm, h7, ha, hbb, ht, hdd, hh⟩ := id W2
  obtain ⟨h23, h24, h25, h26, h27, h28, h29, h30, h31, h32, h33, h34, h35, h36, h37, h38, h39⟩ := id hm
  have key := sm_who_nmd (A := A) (x := x) (fun s hs => ⟨(ha.2 s hs).1, (ha.2 s hs).2.2.1, hln s hs, hn0 s hs⟩) c 0 (by omega)
  refine sg_aload_n dX7_named_5 rfl ?_
  refine sg_iload_n dX7_named_6 rfl ?_
  refine sg_V1 dX7_named_7 cv_X7_106 h23 (c_whose x hc ha.1 hm) (Nat.le_of_ble_eq_true rfl) (Nat.le_of_ble_eq_true rfl) (Nat.le_of_ble_eq_true rfl) (Nat.le_of_ble_eq_true rfl) (fun r9 M9 hp => ?_)
  obtain ⟨rfl, e9⟩ := hp
  rw [e9, key]
  refine sg_ireturn dX7_named_10 rfl (Nat.le_of_ble_eq_true rfl) (Nat.le_of_ble_eq_true rfl) ?_
  exact ⟨rfl, X2, W2⟩
theorem m_name (i x : Int32) (hc : c ≤ 40) (hln : ∀ t, t < c → ln t ≤ 80) (hn0 : ∀ t, t < c → (0 ≤ (nm t).toInt ∧ (nm t).toInt ≤ 99) ∧ (ln t = 0 → nm t = 0)) (hz : τ.1 ≤ 200) (hW : sm_W M th c ln fg fm ow nm r1 r2 r3 fame cu it yr τ dc ws to gr sp pd hb) : sm_Ct l b D cA yX7_name cX7_name 3 (some .boolean) 2 0 0 [.ref 23, .int i, .int x] M (fun r M1 => sm_ex M M1 sm_ml ∧ ((((0 ≤ i.toInt ∧ i.toInt < c) ∧ 0 < ln i.toInt.toNat) ∧ (0 < x.toInt ∧ x.toInt ≤ 99) ∧ sm_nmd nm x c 0 = -1 ∧ τ.1 + ((if nm i.toInt.toNat = 0 then 0 else 1) + 1) ≤ 200) → r = some (.int 1) ∧ sm_W M1 0 c ln fg fm ow (va_up nm i.toInt.toNat x) r1 r2 r3 fame cu it yr (sm_say x 1 (ow i.toInt.toNat) yr (sm_sayIf (nm i.toInt.toNat) 5 0 yr τ)) dc ws to gr sp pd hb) ∧ (¬ (((0 ≤ i.toInt ∧ i.toInt < c) ∧ 0 < ln i.toInt.toNat) ∧ (0 < x.toInt ∧ x.toInt ≤ 99) ∧ sm_nmd nm x c 0 = -1 ∧ τ.1 + ((if nm i.toInt.toNat = 0 then 0 else 1) + 1) ≤ 200) → r = some (.int 0) ∧ sm_W M1 0 c ln fg fm ow nm r1 r2 r3 fame cu it yr τ dc ws to gr sp pd hb)) := by
  obtain ⟨I, A, hm, h7, ha, hbb, ht, hdd, hh⟩ := id hW
  obtain ⟨h23, h24, h25, h26, h27, h28, h29, h30, h31, h32, h33, h34, h35, h36, h37, h38, h39⟩ := id hm
  refine sm_enter (by decide +kernel) rfl (fun _ => Nat.le_of_ble_eq_true rfl) ?_
  refine sg_aload_n dX7_name_0 rfl ?_
  refine sg_iconst 0 dX7_name_1 (by decide) ?_
  refine sg_putx dX7_name_2 fl_X7_68 ft_X7_18 h23 (Nat.le_of_ble_eq_true rfl) (fun M2 x2 q2 => ?_)
  have W2 : sm_W M2 0 c ln fg fm ow nm r1 r2 r3 fame cu it yr τ dc ws to gr sp pd hb := ⟨upd I 7 0, A, hm.o x2 q2, rfl, ha, hbb, ht, hdd, hh⟩
  have X2 : sm_ex M M2 sm_ml := x2.mono (by decide)
  clear q2 x2 hh hdd ht hbb ha h7 hm h23 h24 h25 h26 h27 h28 h29 h30 h31 h32 h33 h34 h35 h36 h37 h38 h39
  obtain ⟨I, A, hm, h7, ha, hbb, ht, hdd, hh⟩ := id W2
  obtain ⟨h23, h24, h25, h26, h27, h28, h29, h30, h31, h32, h33, h34, h35, h36, h37, h38, h39⟩ := id hm
  refine sg_aload_n dX7_name_5 rfl ?_
  refine sg_iload_n dX7_name_6 rfl ?_
  refine sg_V1 dX7_name_7 cv_X7_95 h23 (w_isThere i hc hln W2) (Nat.le_of_ble_eq_true rfl) (Nat.le_of_ble_eq_true rfl) (Nat.le_of_ble_eq_true rfl) (Nat.le_of_ble_eq_true rfl) (fun r M1 hp => ?_)
  obtain ⟨rfl, e9⟩ := hp; rw [e9]
  refine sg_bf_eq 53 dX7_name_10 (by decide) (fun c1 => ?_) (fun c1 => ?_)
  · refine sg_iconst 0 dX7_name_53 (by decide) ?_
    refine sg_zreturn dX7_name_54 rfl (by first | decide | assumption) (Nat.le_of_ble_eq_true rfl) (Nat.le_of_ble_eq_true rfl) ?_
    exact ⟨X2, fun q => absurd q.1 c1, fun _ => ⟨rfl, W2⟩⟩
  · have hi := (sm_toN c1.1).2
    have ni := (hn0 _ hi).1.1
    obtain ⟨b26, b27, b28, bN⟩ := ha.2 _ hi
    refine sg_iload_n dX7_name_13 rfl ?_
    refine sg_iconst 1 dX7_name_14 (by decide) ?_
    refine sg_bipush 99 dX7_name_15 (by decide) ?_
    refine sg_S3 dX7_name_17 cs_X7_74 (c_in _ _ _) (Nat.le_of_ble_eq_true rfl) (Nat.le_of_ble_eq_true rfl) (Nat.le_of_ble_eq_true rfl) (Nat.le_of_ble_eq_true rfl) (fun r M1 hp => ?_)
    obtain ⟨rfl, e9⟩ := hp; rw [e9]
    refine sg_bf_eq 53 dX7_name_20 (by decide) (fun c2 => ?_) (fun c2 => ?_)
    · rw [ti_1, ti_99] at c2
      refine sg_iconst 0 dX7_name_53 (by decide) ?_
      refine sg_zreturn dX7_name_54 rfl (by first | decide | assumption) (Nat.le_of_ble_eq_true rfl) (Nat.le_of_ble_eq_true rfl) ?_
      exact ⟨X2, fun q => absurd q.2.1 (by omega), fun _ => ⟨rfl, W2⟩⟩
    · rw [ti_1, ti_99] at c2
      have c2' : 0 < x.toInt ∧ x.toInt ≤ 99 := by omega
      have key := sm_who_nmd (A := A) (x := x) (fun s hs => ⟨(ha.2 s hs).1, (ha.2 s hs).2.2.1, hln s hs, hn0 s hs⟩) c 0 (by omega)
      rw [if_pos c2'] at key
      refine sg_aload_n dX7_name_23 rfl ?_
      refine sg_iload_n dX7_name_24 rfl ?_
      refine sg_V1 dX7_name_25 cv_X7_106 h23 (c_whose x hc ha.1 hm) (Nat.le_of_ble_eq_true rfl) (Nat.le_of_ble_eq_true rfl) (Nat.le_of_ble_eq_true rfl) (Nat.le_of_ble_eq_true rfl) (fun r9 M9 hp => ?_)
      obtain ⟨rfl, e9⟩ := hp
      rw [e9, key]
      refine sg_iconst (-1) dX7_name_28 (by decide) ?_
      refine sg_icmp_ne 53 dX7_name_29 (by decide) (fun c3 => ?_) (fun c3 => ?_)
      · refine sg_iconst 0 dX7_name_53 (by decide) ?_
        refine sg_zreturn dX7_name_54 rfl (by first | decide | assumption) (Nat.le_of_ble_eq_true rfl) (Nat.le_of_ble_eq_true rfl) ?_
        exact ⟨X2, fun q => absurd q.2.2.1 c3, fun _ => ⟨rfl, W2⟩⟩
      · refine sg_aload_n dX7_name_32 rfl ?_
        refine sg_aload_n dX7_name_33 rfl ?_
        refine sg_get dX7_name_34 fl_X7_22 (by first | rfl | assumption) rfl ?_
        refine sg_iload_n dX7_name_37 rfl ?_
        refine sg_ald (i.toInt.toNat) dX7_name_38 (by first | rfl | assumption) ((sm_toN c1.1).1) (by omega) (by decide) ?_
        rw [b28]
        -- the end, from a state whose string still bears its old name
        have hend : ∀ (M3 : sm_M) (t3 : sm_T5) (Post : Option Value → sm_M → Prop), t3.1 < 200 → sm_W M3 0 c ln fg fm ow nm r1 r2 r3 fame cu it yr (t3) dc ws to gr sp pd hb → (∀ M1 : sm_M, sm_ex M3 M1 sm_ml → sm_W M1 0 c ln fg fm ow (va_up nm i.toInt.toNat x) r1 r2 r3 fame cu it yr (sm_say x 1 (ow i.toInt.toNat) yr t3) dc ws to gr sp pd hb → Post (some (.int 1)) M1) → sm_G l b D cA yX7_name cX7_name 3 (some .boolean) 2 0 0 Post 0 0 76 [some (.ref 23), some (.int i), some (.int x)] [] M3 := fun M3 t3 Post h3 W3 hP => by
          obtain ⟨I, A, hm, h7, ha, hbb, ht, hdd, hh⟩ := id W3
          obtain ⟨h23, h24, h25, h26, h27, h28, h29, h30, h31, h32, h33, h34, h35, h36, h37, h38, h39⟩ := id hm
          obtain ⟨b26, b27, b28, bN⟩ := ha.2 _ hi
          refine sg_aload_n dX7_name_76 rfl ?_
          refine sg_get dX7_name_77 fl_X7_22 (by first | rfl | assumption) rfl ?_
          refine sg_iload_n dX7_name_80 rfl ?_
          refine sg_iload_n dX7_name_81 rfl ?_
          refine sg_astx i.toInt.toNat dX7_name_82 h28 (sm_toN c1.1).1 (by omega) (by decide) (fun M4 x4 g4 => ?_)
          have W4 := (⟨I, _, hm.u28 x4 g4, h7, ha.nam x, hbb, ht, hdd, hh⟩ : sm_W M4 0 c ln fg fm ow (va_up nm i.toInt.toNat x) r1 r2 r3 fame cu it yr (t3) dc ws to gr sp pd hb)
          have i27 := (x4.2 27 (by decide)).trans h27
          have i23 := (x4.2 23 (by decide)).trans h23
          refine sg_aload_n dX7_name_83 rfl ?_
          refine sg_iload_n dX7_name_84 rfl ?_
          refine sg_iconst 1 dX7_name_85 (by decide) ?_
          refine sg_aload_n dX7_name_86 rfl ?_
          refine sg_get dX7_name_87 fl_X7_19 (by first | rfl | assumption) rfl ?_
          refine sg_iload_n dX7_name_90 rfl ?_
          refine sg_ald (i.toInt.toNat) dX7_name_91 (by first | rfl | assumption) ((sm_toN c1.1).1) (by omega) (by decide) ?_
          rw [b27]
          refine sg_V3 dX7_name_92 cv_X7_102 i23 (w_say x 1 (ow i.toInt.toNat) h3 W4) (Nat.le_of_ble_eq_true rfl) (Nat.le_of_ble_eq_true rfl) (Nat.le_of_ble_eq_true rfl) (Nat.le_of_ble_eq_true rfl) (fun r9 M6 hp => ?_)
          obtain ⟨rfl, x6, W6⟩ := hp
          refine sg_iconst 1 dX7_name_95 (by decide) ?_
          refine sg_zreturn dX7_name_96 rfl (by first | decide | assumption) (Nat.le_of_ble_eq_true rfl) (Nat.le_of_ble_eq_true rfl) ?_
          exact hP M6 ((x4.mono (by decide)).tr x6) W6
        refine sg_if_le 46 dX7_name_39 (by decide) (fun c4 => ?_) (fun c4 => ?_)
        · have c4' := (sm_nmz ni).mp c4
          rw [if_pos c4']
          refine sg_iconst 1 dX7_name_46 (by decide) ?_
          refine sg_V1 dX7_name_47 cv_X7_99 h23 (w_hasRoom 1 rfl (by omega) hz W2) (Nat.le_of_ble_eq_true rfl) (Nat.le_of_ble_eq_true rfl) (Nat.le_of_ble_eq_true rfl) (Nat.le_of_ble_eq_true rfl) (fun r9 M9 hp => ?_)
          obtain ⟨rfl, e9⟩ := hp
          rw [e9]
          refine sg_bf_ne 55 dX7_name_50 (by decide) (fun c5 => ?_) (fun c5 => ?_)
          · refine sg_aload_n dX7_name_55 rfl ?_
            refine sg_get dX7_name_56 fl_X7_22 (by first | rfl | assumption) rfl ?_
            refine sg_iload_n dX7_name_59 rfl ?_
            refine sg_ald (i.toInt.toNat) dX7_name_60 (by first | rfl | assumption) ((sm_toN c1.1).1) (by omega) (by decide) ?_
            rw [b28]
            refine sg_if_le 76 dX7_name_61 (by decide) (fun c6 => ?_) (fun c6 => ?_)
            · unfold sm_sayIf
              rw [if_pos c4']
              exact hend M2 τ _ (by omega) W2 (fun M1 x1 W1 => ⟨X2.tr x1, fun _ => ⟨rfl, W1⟩, fun q => absurd ⟨c1, c2', c3, by omega⟩ q⟩)
            · exact absurd c4 c6
          · refine sg_iconst 0 dX7_name_53 (by decide) ?_
            refine sg_zreturn dX7_name_54 rfl (by first | decide | assumption) (Nat.le_of_ble_eq_true rfl) (Nat.le_of_ble_eq_true rfl) ?_
            exact ⟨X2, fun q => absurd q.2.2.2 (by omega), fun _ => ⟨rfl, W2⟩⟩
        · have c4' : ¬ nm i.toInt.toNat = 0 := fun q => c4 ((sm_nmz ni).mpr q)
          rw [if_neg c4']
          refine sg_iconst 2 dX7_name_42 (by decide) ?_
          refine sg_goto 47 dX7_name_43 (by decide) ?_
          refine sg_V1 dX7_name_47 cv_X7_99 h23 (w_hasRoom 2 rfl (by omega) hz W2) (Nat.le_of_ble_eq_true rfl) (Nat.le_of_ble_eq_true rfl) (Nat.le_of_ble_eq_true rfl) (Nat.le_of_ble_eq_true rfl) (fun r9 M9 hp => ?_)
          obtain ⟨rfl, e9⟩ := hp
          rw [e9]
          refine sg_bf_ne 55 dX7_name_50 (by decide) (fun c5 => ?_) (fun c5 => ?_)
          · refine sg_aload_n dX7_name_55 rfl ?_
            refine sg_get dX7_name_56 fl_X7_22 (by first | rfl | assumption) rfl ?_
            refine sg_iload_n dX7_name_59 rfl ?_
            refine sg_ald (i.toInt.toNat) dX7_name_60 (by first | rfl | assumption) ((sm_toN c1.1).1) (by omega) (by decide) ?_
            rw [b28]
            refine sg_if_le 76 dX7_name_61 (by decide) (fun c6 => ?_) (fun c6 => ?_)
            · exact absurd c6 c4
            · refine sg_aload_n dX7_name_64 rfl ?_
              refine sg_aload_n dX7_name_65 rfl ?_
              refine sg_get dX7_name_66 fl_X7_22 (by first | rfl | assumption) rfl ?_
              refine sg_iload_n dX7_name_69 rfl ?_
              refine sg_ald (i.toInt.toNat) dX7_name_70 (by first | rfl | assumption) ((sm_toN c1.1).1) (by omega) (by decide) ?_
              refine sg_iconst 5 dX7_name_71 (by decide) ?_
              refine sg_iconst 0 dX7_name_72 (by decide) ?_
              rw [b28]
              refine sg_V3 dX7_name_73 cv_X7_102 h23 (w_say (nm i.toInt.toNat) 5 0 (by omega) W2) (Nat.le_of_ble_eq_true rfl) (Nat.le_of_ble_eq_true rfl) (Nat.le_of_ble_eq_true rfl) (Nat.le_of_ble_eq_true rfl) (fun r9 M6 hp => ?_)
              obtain ⟨rfl, x6, W6⟩ := hp
              unfold sm_sayIf
              rw [if_neg c4']
              exact hend M6 _ _ (by show τ.1 + 1 < 200; omega) W6 (fun M1 x1 W1 => ⟨X2.tr (x6.tr x1), fun _ => ⟨rfl, W1⟩, fun q => absurd ⟨c1, c2', c3, by omega⟩ q⟩)
          · refine sg_iconst 0 dX7_name_53 (by decide) ?_
            refine sg_zreturn dX7_name_54 rfl (by first | decide | assumption) (Nat.le_of_ble_eq_true rfl) (Nat.le_of_ble_eq_true rfl) ?_
            exact ⟨X2, fun q => absurd q.2.2.2 (by omega), fun _ => ⟨rfl, W2⟩⟩
theorem m_bead (i j w : Int32) (hc : c ≤ 40) (hln : ∀ t, t < c → ln t ≤ 80) (hW : sm_W M th c ln fg fm ow nm r1 r2 r3 fame cu it yr τ dc ws to gr sp pd hb) : sm_Ct l b D cA yX7_bead cX7_bead 4 (some .int) 1 0 0 [.ref 23, .int i, .int j, .int w] M (fun r M1 => r = some (.int (if 0 ≤ i.toInt ∧ i.toInt < c then (if w = 0 then (if 0 ≤ j.toInt ∧ j.toInt < ln i.toInt.toNat then fg i.toInt.toNat j.toInt.toNat else -1) else if w = 1 then (if 0 ≤ j.toInt ∧ j.toInt < ln i.toInt.toNat then fm i.toInt.toNat j.toInt.toNat else -1) else -1) else -1)) ∧ sm_ex M M1 sm_ml ∧ sm_W M1 0 c ln fg fm ow nm r1 r2 r3 fame cu it yr τ dc ws to gr sp pd hb) := by
  obtain ⟨I, A, hm, h7, ha, hbb, ht, hdd, hh⟩ := id hW
  obtain ⟨h23, h24, h25, h26, h27, h28, h29, h30, h31, h32, h33, h34, h35, h36, h37, h38, h39⟩ := id hm
  refine sm_enter (by decide +kernel) rfl (fun _ => Nat.le_of_ble_eq_true rfl) ?_
  refine sg_aload_n dX7_bead_0 rfl ?_
  refine sg_iconst 0 dX7_bead_1 (by decide) ?_
  refine sg_putx dX7_bead_2 fl_X7_68 ft_X7_18 h23 (Nat.le_of_ble_eq_true rfl) (fun M2 x2 q2 => ?_)
  have W2 : sm_W M2 0 c ln fg fm ow nm r1 r2 r3 fame cu it yr τ dc ws to gr sp pd hb := ⟨upd I 7 0, A, hm.o x2 q2, rfl, ha, hbb, ht, hdd, hh⟩
  have X2 : sm_ex M M2 sm_ml := x2.mono (by decide)
  clear q2 x2 hh hdd ht hbb ha h7 hm h23 h24 h25 h26 h27 h28 h29 h30 h31 h32 h33 h34 h35 h36 h37 h38 h39
  obtain ⟨I, A, hm, h7, ha, hbb, ht, hdd, hh⟩ := id W2
  obtain ⟨h23, h24, h25, h26, h27, h28, h29, h30, h31, h32, h33, h34, h35, h36, h37, h38, h39⟩ := id hm
  refine sg_iload_n dX7_bead_5 rfl ?_
  refine sg_iconst 0 dX7_bead_6 (by decide) ?_
  refine sg_aload_n dX7_bead_7 rfl ?_
  refine sg_get dX7_bead_8 fl_X7_71 (by first | rfl | assumption) rfl ?_
  refine sg_iconst 1 dX7_bead_11 (by decide) ?_
  refine sg_isub dX7_bead_12 ?_
  refine sg_S3 dX7_bead_13 cs_X7_74 (c_in _ _ _) (Nat.le_of_ble_eq_true rfl) (Nat.le_of_ble_eq_true rfl) (Nat.le_of_ble_eq_true rfl) (Nat.le_of_ble_eq_true rfl) (fun r M1 hp => ?_)
  obtain ⟨rfl, e9⟩ := hp; rw [e9]
  rw [ha.1]
  refine sg_bf_eq 44 dX7_bead_16 (by decide) (fun c1 => ?_) (fun c1 => ?_)
  · rw [ti_0, sm_pred (by omega)] at c1
    refine sg_iconst (-1) dX7_bead_44 (by decide) ?_
    refine sg_ireturn dX7_bead_45 rfl (Nat.le_of_ble_eq_true rfl) (Nat.le_of_ble_eq_true rfl) ?_
    exact ⟨by rw [if_neg (by omega)], X2, W2⟩
  · rw [ti_0, sm_pred (by omega)] at c1
    have c1' : 0 ≤ i.toInt ∧ i.toInt < c := by omega
    have hi := (sm_toN c1').2
    have h80 := hln _ hi
    obtain ⟨b26, b27, b28, bN⟩ := ha.2 _ hi
    rw [if_pos c1']
    refine sg_iload_n dX7_bead_19 rfl ?_
    refine sg_iconst 0 dX7_bead_20 (by decide) ?_
    refine sg_aload_n dX7_bead_21 rfl ?_
    refine sg_get dX7_bead_22 fl_X7_16 (by first | rfl | assumption) rfl ?_
    refine sg_iload_n dX7_bead_25 rfl ?_
    refine sg_ald (i.toInt.toNat) dX7_bead_26 (by first | rfl | assumption) ((sm_toN c1').1) (by omega) (by decide) ?_
    refine sg_iconst 1 dX7_bead_27 (by decide) ?_
    refine sg_isub dX7_bead_28 ?_
    rw [b26]
    refine sg_S3 dX7_bead_29 cs_X7_74 (c_in _ _ _) (Nat.le_of_ble_eq_true rfl) (Nat.le_of_ble_eq_true rfl) (Nat.le_of_ble_eq_true rfl) (Nat.le_of_ble_eq_true rfl) (fun r M1 hp => ?_)
    obtain ⟨rfl, e9⟩ := hp; rw [e9]
    refine sg_bf_eq 44 dX7_bead_32 (by decide) (fun c2 => ?_) (fun c2 => ?_)
    · rw [ti_0, sm_pred (by omega)] at c2
      rw [if_neg (c := 0 ≤ j.toInt ∧ j.toInt < ln i.toInt.toNat) (by omega), if_neg (c := 0 ≤ j.toInt ∧ j.toInt < ln i.toInt.toNat) (by omega)]
      refine sg_iconst (-1) dX7_bead_44 (by decide) ?_
      refine sg_ireturn dX7_bead_45 rfl (Nat.le_of_ble_eq_true rfl) (Nat.le_of_ble_eq_true rfl) ?_
      exact ⟨by split <;> (try split) <;> rfl, X2, W2⟩
    · rw [ti_0, sm_pred (by omega)] at c2
      have c2' : 0 ≤ j.toInt ∧ j.toInt < ln i.toInt.toNat := by omega
      have hj := (sm_toN c2').2
      have hjn := (sm_toN c2').1
      obtain ⟨bg, bm⟩ := bN _ hj
      rw [if_pos c2', if_pos c2']
      have hij : (80 : Int32) * i + j = nI (80 * i.toInt.toNat + j.toInt.toNat) := by
        rw [← sm_80, ← hjn, ← (sm_toN c1').1]
      refine sg_iload_n dX7_bead_35 rfl ?_
      refine sg_iconst 0 dX7_bead_36 (by decide) ?_
      refine sg_iconst 1 dX7_bead_37 (by decide) ?_
      refine sg_S3 dX7_bead_38 cs_X7_74 (c_in _ _ _) (Nat.le_of_ble_eq_true rfl) (Nat.le_of_ble_eq_true rfl) (Nat.le_of_ble_eq_true rfl) (Nat.le_of_ble_eq_true rfl) (fun r M1 hp => ?_)
      obtain ⟨rfl, e9⟩ := hp; rw [e9]
      refine sg_bf_ne 46 dX7_bead_41 (by decide) (fun c3 => ?_) (fun c3 => ?_)
      · rw [ti_0, ti_1] at c3
        refine sg_iload_n dX7_bead_46 rfl ?_
        refine sg_if_ne 64 dX7_bead_47 (by decide) (fun c4 => ?_) (fun c4 => ?_)
        · have w1 : w = 1 := by
            rw [← Int32.toInt_inj, ti_0] at c4
            rw [← Int32.toInt_inj, ti_1]
            omega
          refine sg_aload_n dX7_bead_64 rfl ?_
          refine sg_get dX7_bead_65 fl_X7_13 (by first | rfl | assumption) rfl ?_
          refine sg_bipush 80 dX7_bead_68 (by decide) ?_
          refine sg_iload_n dX7_bead_70 rfl ?_
          refine sg_imul dX7_bead_71 ?_
          refine sg_iload_n dX7_bead_72 rfl ?_
          refine sg_iadd dX7_bead_73 ?_
          refine sg_ald (80 * i.toInt.toNat + j.toInt.toNat) dX7_bead_74 (by first | rfl | assumption) (hij) (by omega) (by decide) ?_
          rw [bm]
          refine sg_ireturn dX7_bead_75 rfl (Nat.le_of_ble_eq_true rfl) (Nat.le_of_ble_eq_true rfl) ?_
          exact ⟨by rw [if_neg c4, if_pos w1], X2, W2⟩
        · refine sg_aload_n dX7_bead_50 rfl ?_
          refine sg_get dX7_bead_51 fl_X7_9 (by first | rfl | assumption) rfl ?_
          refine sg_bipush 80 dX7_bead_54 (by decide) ?_
          refine sg_iload_n dX7_bead_56 rfl ?_
          refine sg_imul dX7_bead_57 ?_
          refine sg_iload_n dX7_bead_58 rfl ?_
          refine sg_iadd dX7_bead_59 ?_
          refine sg_ald (80 * i.toInt.toNat + j.toInt.toNat) dX7_bead_60 (by first | rfl | assumption) (hij) (by omega) (by decide) ?_
          refine sg_goto 75 dX7_bead_61 (by decide) ?_
          rw [bg]
          refine sg_ireturn dX7_bead_75 rfl (Nat.le_of_ble_eq_true rfl) (Nat.le_of_ble_eq_true rfl) ?_
          exact ⟨by rw [if_pos c4], X2, W2⟩
      · rw [ti_0, ti_1] at c3
        refine sg_iconst (-1) dX7_bead_44 (by decide) ?_
        refine sg_ireturn dX7_bead_45 rfl (Nat.le_of_ble_eq_true rfl) (Nat.le_of_ble_eq_true rfl) ?_
        refine ⟨?_, X2, W2⟩
        rw [if_neg (fun q => by rw [q, ti_0] at c3; omega), if_neg (fun q => by rw [q, ti_1] at c3; omega)]
end SM63
