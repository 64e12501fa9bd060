/-! the reference's public methods: string, add, cut -/
theorem va_up_up {α : Type} (f : Nat → α) (k : Nat) (x z : α) : va_up (va_up f k x) k z = va_up f k z := by
  funext j
  unfold va_up
  by_cases h : j = k
  · rw [if_pos h, if_pos h]
  · rw [if_neg h, if_neg h, if_neg h]
theorem sm_W.ra {M : sm_M} {th : Int32} {c dc : Nat} {ln hb ln2 : Nat → Nat} {fg fm fg2 fm2 : Nat → Nat → Int32} {ow nm r1 r2 r3 ws to gr sp pd ow2 nm2 : Nat → Int32} {fame cu it yr : Int32} {τ : sm_T5} (h : sm_W M th c ln fg fm ow nm r1 r2 r3 fame cu it yr τ dc ws to gr sp pd hb) (e : ∀ s, s < c → ln s = ln2 s ∧ ow s = ow2 s ∧ nm s = nm2 s ∧ ∀ k, k < ln s → fg s k = fg2 s k ∧ fm s k = fm2 s k) : sm_W M th c (ln2) (fg2) (fm2) (ow2) (nm2) r1 r2 r3 fame cu it yr τ dc ws to gr sp pd hb := by
  obtain ⟨I, A, hm, h7, ha, hbb, ht, hdd, hh⟩ := h
  exact ⟨I, A, hm, h7, ha.ext e, hbb, ht, hdd, hh⟩
theorem sm_Ra.len {I : Nat → Int32} {A : Nat → Nat → Int32} {c s n : Nat} {ln : Nat → Nat} {fg fm : Nat → Nat → Int32} {ow nm : Nat → Int32} {v : Int32} (h : sm_Ra I A c ln fg fm ow nm) (hv : v = nI n) (hn : n ≤ ln s) : sm_Ra I (sm_uA A 26 (upd (A 26) s v)) c (va_up ln s n) fg fm ow nm := ⟨h.1, fun t ht => by
  obtain ⟨b26, b27, b28, bN⟩ := h.2 t ht
  refine ⟨?_, b27, b28, fun k hk => bN k ?_⟩
  · show upd (A 26) s v t = nI (va_up ln s n t)
    by_cases e : t = s
    · rw [e, sm_upeq, va_up_self]
      exact hv
    · rw [sm_upne _ _ e, va_up_ne _ _ e]
      exact b26
  · by_cases e : t = s
    · rw [e, va_up_self] at hk
      rw [e]
      omega
    · rw [va_up_ne _ _ e] at hk
      exact hk⟩
theorem sm_Ra.nam {I : Nat → Int32} {A : Nat → Nat → Int32} {c s : Nat} {ln : Nat → Nat} {fg fm : Nat → Nat → Int32} {ow nm : Nat → Int32} (a : Int32) (h : sm_Ra I A c ln fg fm ow nm) : sm_Ra I (sm_uA A 28 (upd (A 28) s a)) c ln fg fm ow (va_up nm s a) := ⟨h.1, fun t ht => by
  obtain ⟨b26, b27, b28, bN⟩ := h.2 t ht
  refine ⟨b26, b27, ?_, bN⟩
  show upd (A 28) s a t = va_up nm s a t
  by_cases e : t = s
  · rw [e, sm_upeq, va_up_self]
  · rw [sm_upne _ _ e, va_up_ne _ _ e]
    exact b28⟩
theorem sm_hl1 {c s n : Nat} {ln : Nat → Nat} (h : ∀ t, t < c → ln t ≤ 80) (hn : n ≤ 80) : ∀ t, t < c → va_up ln s n t ≤ 80 := fun t ht => by
  unfold va_up
  by_cases e : t = s
  · rw [if_pos e]
    exact hn
  · rw [if_neg e]
    exact h t ht
theorem sm_hl2 {c n : Nat} {ln : Nat → Nat} (h : ∀ t, t < c → ln t ≤ 80) (hn : n ≤ 80) : ∀ t, t < c + 1 → va_up ln c n t ≤ 80 := fun t ht => by
  unfold va_up
  by_cases e : t = c
  · rw [if_pos e]
    exact hn
  · rw [if_neg e]
    exact h t (by omega)
theorem sg_eqL {l : Launch} {b : Nat} {D : va_G} {cA : Nat → ClassId} {y : MethodName} {cc : ByteArray} {nL : Nat} {ret : Option FieldType} {fr mc ms : Nat} {Post : Option Value → sm_M → Prop} {k n pc : Nat} {L : List (Option Value)} {st : List Value} {M : sm_M} {u v : Int32} (e : u = v) (h : sm_G l b D cA y cc nL ret fr mc ms Post k n pc L (.int v :: st) M) : sm_G l b D cA y cc nL ret fr mc ms Post k n pc L (.int u :: st) M := e ▸ h
section SM61
variable {l : Launch} {b : Nat} {D : va_G} {cA : Nat → ClassId} {M : sm_M}
variable {th : Int32} {c dc : Nat} {ln hb : Nat → Nat} {fg fm : Nat → Nat → Int32} {ow nm r1 r2 r3 ws to gr sp pd : Nat → Int32} {fame cu it yr : Int32} {τ : sm_T5}
theorem m_string (o g m n : Int32) (hc : c ≤ 40) (hln : ∀ t, t < c → ln t ≤ 80) (hW : sm_W M th c ln fg fm ow nm r1 r2 r3 fame cu it yr τ dc ws to gr sp pd hb) : sm_Ct l b D cA yX7_string cX7_string 6 (some .int) 2 0 0 [.ref 23, .int o, .int g, .int m, .int n] M (fun r M1 => sm_ex M M1 sm_ml ∧ (((0 ≤ o.toInt ∧ o.toInt < 10) ∧ sm_bok g m n ∧ c < 40) → r = some (.int (nI c)) ∧ sm_W M1 0 (c + 1) (va_up ln c n.toInt.toNat) (va_up fg c (fun j => if 0 ≤ j ∧ j < 0 + n.toInt.toNat then g else 0)) (va_up fm c (fun j => if 0 ≤ j ∧ j < 0 + n.toInt.toNat then m else 0)) (va_up ow c o) (va_up nm c 0) r1 r2 r3 fame cu it yr τ dc ws to gr sp pd hb) ∧ (¬ ((0 ≤ o.toInt ∧ o.toInt < 10) ∧ sm_bok g m n ∧ c < 40) → r = some (.int (-1)) ∧ sm_W M1 0 c ln fg fm ow nm r1 r2 r3 fame cu it yr τ dc ws to gr sp pd hb)) := by
  obtain ⟨I, A, hm, h7, ha, hbb, ht, hdd, hh⟩ := id hW
  obtain ⟨h23, h24, h25, h26, h27, h28, h29, h30, h31, h32, h33, h34, h35, h36, h37, h38, h39⟩ := id hm
  refine sm_enter (by decide +kernel) rfl (fun _ => Nat.le_of_ble_eq_true rfl) ?_
  refine sg_aload_n dX7_string_0 rfl ?_
  refine sg_iconst 0 dX7_string_1 (by decide) ?_
  refine sg_putx dX7_string_2 fl_X7_68 ft_X7_18 h23 (Nat.le_of_ble_eq_true rfl) (fun M2 x2 q2 => ?_)
  have W2 : sm_W M2 0 c ln fg fm ow nm r1 r2 r3 fame cu it yr τ dc ws to gr sp pd hb := ⟨upd I 7 0, A, hm.o x2 q2, rfl, ha, hbb, ht, hdd, hh⟩
  have X2 : sm_ex M M2 sm_ml := x2.mono (by decide)
  clear q2 x2 hh hdd ht hbb ha h7 hm h23 h24 h25 h26 h27 h28 h29 h30 h31 h32 h33 h34 h35 h36 h37 h38 h39
  obtain ⟨I, A, hm, h7, ha, hbb, ht, hdd, hh⟩ := id W2
  obtain ⟨h23, h24, h25, h26, h27, h28, h29, h30, h31, h32, h33, h34, h35, h36, h37, h38, h39⟩ := id hm
  refine sg_iload_n dX7_string_5 rfl ?_
  refine sg_iconst 0 dX7_string_6 (by decide) ?_
  refine sg_bipush 9 dX7_string_7 (by decide) ?_
  refine sg_S3 dX7_string_9 cs_X7_74 (c_in _ _ _) (Nat.le_of_ble_eq_true rfl) (Nat.le_of_ble_eq_true rfl) (Nat.le_of_ble_eq_true rfl) (Nat.le_of_ble_eq_true rfl) (fun r M1 hp => ?_)
  obtain ⟨rfl, e9⟩ := hp; rw [e9]
  refine sg_bf_eq 34 dX7_string_12 (by decide) (fun c1 => ?_) (fun c1 => ?_)
  · rw [ti_0, ti_9] at c1
    refine sg_iconst (-1) dX7_string_34 (by decide) ?_
    refine sg_ireturn dX7_string_35 rfl (Nat.le_of_ble_eq_true rfl) (Nat.le_of_ble_eq_true rfl) ?_
    exact ⟨X2, fun q => absurd q.1 (by omega), fun _ => ⟨rfl, W2⟩⟩
  · rw [ti_0, ti_9] at c1
    refine sg_iload_n dX7_string_15 rfl ?_
    refine sg_iload_n dX7_string_16 rfl ?_
    refine sg_iload dX7_string_17 rfl ?_
    refine sg_S3 dX7_string_19 cs_X7_84 (c_mareBeads _ _ _) (Nat.le_of_ble_eq_true rfl) (Nat.le_of_ble_eq_true rfl) (Nat.le_of_ble_eq_true rfl) (Nat.le_of_ble_eq_true rfl) (fun r M1 hp => ?_)
    obtain ⟨rfl, e9⟩ := hp; rw [e9]
    refine sg_bf_eq 34 dX7_string_22 (by decide) (fun c2 => ?_) (fun c2 => ?_)
    · refine sg_iconst (-1) dX7_string_34 (by decide) ?_
      refine sg_ireturn dX7_string_35 rfl (Nat.le_of_ble_eq_true rfl) (Nat.le_of_ble_eq_true rfl) ?_
      exact ⟨X2, fun q => absurd q.2.1 c2, fun _ => ⟨rfl, W2⟩⟩
    · have hnn : n = nI n.toInt.toNat := sm_asN (by omega)
      refine sg_aload_n dX7_string_25 rfl ?_
      refine sg_get dX7_string_26 fl_X7_71 (by first | rfl | assumption) rfl ?_
      refine sg_bipush 40 dX7_string_29 (by decide) ?_
      rw [ha.1]
      refine sg_icmp_ne 36 dX7_string_31 (by decide) (fun c3 => ?_) (fun c3 => ?_)
      · rw [← Int32.toInt_inj, nI_toInt (by omega), ti_40] at c3
        refine sg_aload_n dX7_string_36 rfl ?_
        refine sg_iload_n dX7_string_37 rfl ?_
        refine sg_V1 dX7_string_38 cv_X7_87 h23 (w_new o (by omega) hln W2) (Nat.le_of_ble_eq_true rfl) (Nat.le_of_ble_eq_true rfl) (Nat.le_of_ble_eq_true rfl) (Nat.le_of_ble_eq_true rfl) (fun r9 M3 hp => ?_)
        obtain ⟨rfl, x3, W3⟩ := hp
        obtain ⟨I, A, hm, h7, ha, hbb, ht, hdd, hh⟩ := id W3
        obtain ⟨h23, h24, h25, h26, h27, h28, h29, h30, h31, h32, h33, h34, h35, h36, h37, h38, h39⟩ := id hm
        refine sg_istore dX7_string_41 (by decide) ?_
        refine sg_aload_n dX7_string_43 rfl ?_
        refine sg_iload dX7_string_44 rfl ?_
        refine sg_iload_n dX7_string_46 rfl ?_
        refine sg_iload_n dX7_string_47 rfl ?_
        refine sg_iload dX7_string_48 rfl ?_
        refine sg_V4 dX7_string_50 cv_X7_91 h23 (w_put (k := n.toInt.toNat) g m rfl hnn (Nat.lt_succ_self c) (by omega) (by rw [va_up_self]; omega) (sm_hl2 hln (by omega)) W3) (Nat.le_of_ble_eq_true rfl) (Nat.le_of_ble_eq_true rfl) (Nat.le_of_ble_eq_true rfl) (Nat.le_of_ble_eq_true rfl) (fun r9 M4 hp => ?_)
        obtain ⟨rfl, x4, W4⟩ := hp
        simp only [va_up_self, va_up_up] at W4
        refine sg_iload dX7_string_53 rfl ?_
        refine sg_ireturn dX7_string_55 rfl (Nat.le_of_ble_eq_true rfl) (Nat.le_of_ble_eq_true rfl) ?_
        refine ⟨X2.tr (x3.tr x4), fun _ => ⟨rfl, W4.ra (fun s hs => ?_)⟩, fun q => absurd ⟨by omega, c2, by omega⟩ q⟩
        by_cases e : s = c
        · subst e
          simp only [va_up_self]
          exact ⟨by omega, trivial, trivial, fun k hk => ⟨by rw [if_pos (by omega), if_pos (by omega)], by rw [if_pos (by omega), if_pos (by omega)]⟩⟩
        · simp only [va_up_ne _ _ e]
          exact ⟨trivial, trivial, trivial, fun k hk => ⟨trivial, trivial⟩⟩
      · rw [← Int32.toInt_inj, nI_toInt (by omega), ti_40] at c3
        refine sg_iconst (-1) dX7_string_34 (by decide) ?_
        refine sg_ireturn dX7_string_35 rfl (Nat.le_of_ble_eq_true rfl) (Nat.le_of_ble_eq_true rfl) ?_
        exact ⟨X2, fun q => absurd q.2.2 (by omega), fun _ => ⟨rfl, W2⟩⟩
theorem m_add (i g m n : Int32) (hc : c ≤ 40) (hln : ∀ t, t < c → ln t ≤ 80) (hW : sm_W M th c ln fg fm ow nm r1 r2 r3 fame cu it yr τ dc ws to gr sp pd hb) : sm_Ct l b D cA yX7_add cX7_add 5 (some .int) 2 0 0 [.ref 23, .int i, .int g, .int m, .int n] M (fun r M1 => sm_ex M M1 sm_ml ∧ ((sm_lvg c ln i ∧ sm_bok g m n ∧ (ln i.toInt.toNat : Int) + n.toInt ≤ 80) → r = some (.int (nI (ln i.toInt.toNat + n.toInt.toNat))) ∧ sm_W M1 0 c (va_up ln i.toInt.toNat (ln i.toInt.toNat + n.toInt.toNat)) (va_up fg i.toInt.toNat (fun j => if ln i.toInt.toNat ≤ j ∧ j < ln i.toInt.toNat + n.toInt.toNat then g else fg i.toInt.toNat j)) (va_up fm i.toInt.toNat (fun j => if ln i.toInt.toNat ≤ j ∧ j < ln i.toInt.toNat + n.toInt.toNat then m else fm i.toInt.toNat j)) ow nm r1 r2 r3 fame cu it yr τ dc ws to gr sp pd hb) ∧ (¬ (sm_lvg c ln i ∧ sm_bok g m n ∧ (ln i.toInt.toNat : Int) + n.toInt ≤ 80) → r = some (.int (-1)) ∧ sm_W M1 0 c ln fg fm ow nm r1 r2 r3 fame cu it yr τ dc ws to gr sp pd hb)) := by
  obtain ⟨I, A, hm, h7, ha, hbb, ht, hdd, hh⟩ := id hW
  obtain ⟨h23, h24, h25, h26, h27, h28, h29, h30, h31, h32, h33, h34, h35, h36, h37, h38, h39⟩ := id hm
  refine sm_enter (by decide +kernel) rfl (fun _ => Nat.le_of_ble_eq_true rfl) ?_
  refine sg_aload_n dX7_add_0 rfl ?_
  refine sg_iconst 0 dX7_add_1 (by decide) ?_
  refine sg_putx dX7_add_2 fl_X7_68 ft_X7_18 h23 (Nat.le_of_ble_eq_true rfl) (fun M2 x2 q2 => ?_)
  have W2 : sm_W M2 0 c ln fg fm ow nm r1 r2 r3 fame cu it yr τ dc ws to gr sp pd hb := ⟨upd I 7 0, A, hm.o x2 q2, rfl, ha, hbb, ht, hdd, hh⟩
  have X2 : sm_ex M M2 sm_ml := x2.mono (by decide)
  clear q2 x2 hh hdd ht hbb ha h7 hm h23 h24 h25 h26 h27 h28 h29 h30 h31 h32 h33 h34 h35 h36 h37 h38 h39
  obtain ⟨I, A, hm, h7, ha, hbb, ht, hdd, hh⟩ := id W2
  obtain ⟨h23, h24, h25, h26, h27, h28, h29, h30, h31, h32, h33, h34, h35, h36, h37, h38, h39⟩ := id hm
  refine sg_aload_n dX7_add_5 rfl ?_
  refine sg_iload_n dX7_add_6 rfl ?_
  refine sg_V1 dX7_add_7 cv_X7_95 h23 (w_isThere i hc hln W2) (Nat.le_of_ble_eq_true rfl) (Nat.le_of_ble_eq_true rfl) (Nat.le_of_ble_eq_true rfl) (Nat.le_of_ble_eq_true rfl) (fun r M1 hp => ?_)
  obtain ⟨rfl, e9⟩ := hp; rw [e9]
  refine sg_bf_eq 37 dX7_add_10 (by decide) (fun c1 => ?_) (fun c1 => ?_)
  · refine sg_iconst (-1) dX7_add_37 (by decide) ?_
    refine sg_ireturn dX7_add_38 rfl (Nat.le_of_ble_eq_true rfl) (Nat.le_of_ble_eq_true rfl) ?_
    exact ⟨X2, fun q => absurd q.1 c1, fun _ => ⟨rfl, W2⟩⟩
  · refine sg_iload_n dX7_add_13 rfl ?_
    refine sg_iload_n dX7_add_14 rfl ?_
    refine sg_iload dX7_add_15 rfl ?_
    refine sg_S3 dX7_add_17 cs_X7_84 (c_mareBeads _ _ _) (Nat.le_of_ble_eq_true rfl) (Nat.le_of_ble_eq_true rfl) (Nat.le_of_ble_eq_true rfl) (Nat.le_of_ble_eq_true rfl) (fun r M1 hp => ?_)
    obtain ⟨rfl, e9⟩ := hp; rw [e9]
    refine sg_bf_eq 37 dX7_add_20 (by decide) (fun c2 => ?_) (fun c2 => ?_)
    · refine sg_iconst (-1) dX7_add_37 (by decide) ?_
      refine sg_ireturn dX7_add_38 rfl (Nat.le_of_ble_eq_true rfl) (Nat.le_of_ble_eq_true rfl) ?_
      exact ⟨X2, fun q => absurd q.2.1 c2, fun _ => ⟨rfl, W2⟩⟩
    · have hnn : n = nI n.toInt.toNat := sm_asN (by omega)
      have hk := (sm_toN c1.1).2
      have h80 := hln _ hk
      obtain ⟨b26, b27, b28, bN⟩ := ha.2 _ hk
      have hsum : nI (ln i.toInt.toNat) + n = nI (ln i.toInt.toNat + n.toInt.toNat) := by
        rw [← nI_add, ← hnn]
      refine sg_aload_n dX7_add_23 rfl ?_
      refine sg_get dX7_add_24 fl_X7_16 (by first | rfl | assumption) rfl ?_
      refine sg_iload_n dX7_add_27 rfl ?_
      refine sg_ald (i.toInt.toNat) dX7_add_28 (by first | rfl | assumption) ((sm_toN c1.1).1) (by omega) (by decide) ?_
      refine sg_iload dX7_add_29 rfl ?_
      refine sg_iadd dX7_add_31 ?_
      rw [b26, hsum]
      refine sg_bipush 80 dX7_add_32 (by decide) ?_
      refine sg_icmp_le 39 dX7_add_34 (by decide) (fun c3 => ?_) (fun c3 => ?_)
      · rw [Int32.le_iff_toInt_le, nI_toInt (by omega), ti_80] at c3
        refine sg_aload_n dX7_add_39 rfl ?_
        refine sg_iload_n dX7_add_40 rfl ?_
        refine sg_iload_n dX7_add_41 rfl ?_
        refine sg_iload_n dX7_add_42 rfl ?_
        refine sg_iload dX7_add_43 rfl ?_
        refine sg_V4 dX7_add_45 cv_X7_91 h23 (w_put g m (sm_toN c1.1).1 hnn hk hc (by omega) hln W2) (Nat.le_of_ble_eq_true rfl) (Nat.le_of_ble_eq_true rfl) (Nat.le_of_ble_eq_true rfl) (Nat.le_of_ble_eq_true rfl) (fun r9 M4 hp => ?_)
        obtain ⟨rfl, x4, W4⟩ := hp
        obtain ⟨I, A, hm, h7, ha, hbb, ht, hdd, hh⟩ := id W4
        obtain ⟨h23, h24, h25, h26, h27, h28, h29, h30, h31, h32, h33, h34, h35, h36, h37, h38, h39⟩ := id hm
        obtain ⟨b26, b27, b28, bN⟩ := ha.2 _ hk
        rw [va_up_self] at b26
        refine sg_aload_n dX7_add_48 rfl ?_
        refine sg_get dX7_add_49 fl_X7_16 (by first | rfl | assumption) rfl ?_
        refine sg_iload_n dX7_add_52 rfl ?_
        refine sg_ald (i.toInt.toNat) dX7_add_53 (by first | rfl | assumption) ((sm_toN c1.1).1) (by omega) (by decide) ?_
        rw [b26]
        refine sg_ireturn dX7_add_54 rfl (Nat.le_of_ble_eq_true rfl) (Nat.le_of_ble_eq_true rfl) ?_
        exact ⟨X2.tr x4, fun _ => ⟨rfl, W4⟩, fun q => absurd ⟨c1, c2, by omega⟩ q⟩
      · rw [Int32.le_iff_toInt_le, nI_toInt (by omega), ti_80] at c3
        refine sg_iconst (-1) dX7_add_37 (by decide) ?_
        refine sg_ireturn dX7_add_38 rfl (Nat.le_of_ble_eq_true rfl) (Nat.le_of_ble_eq_true rfl) ?_
        exact ⟨X2, fun q => absurd q.2.2 (by omega), fun _ => ⟨rfl, W2⟩⟩
theorem sm_put1 {g : Int32} {f h : Nat → Int32} {n : Nat} (e1 : h n = g) : ∀ j, j < n + 1 → (if n ≤ j ∧ j < n + 1 then g else h j) = h j := fun j hj => by
  by_cases q : n ≤ j
  · rw [if_pos ⟨q, hj⟩, show j = n from by omega, e1]
  · rw [if_neg (fun z => q z.1)]
theorem lp_mcut {s i : Nat} {ii ss : Int32} {Post : Option Value → sm_M → Prop} (hii : ii = nI i) (hss : ss = nI s) (hs : s < c) (hc : c < 40) (hi : i ≤ ln s) (hln : ∀ t, t < c → ln t ≤ 80)
    (hP : ∀ M1 : sm_M, sm_ex M M1 sm_ml → sm_W M1 0 (c + 1) (va_up ln c (ln s - i)) (va_up fg c (fun t => if 0 ≤ t ∧ t < 0 + (ln s - i) then fg s (i + (t - 0)) else 0)) (va_up fm c (fun t => if 0 ≤ t ∧ t < 0 + (ln s - i) then fm s (i + (t - 0)) else 0)) (va_up ow c (ow s)) (va_up nm c 0) r1 r2 r3 fame cu it yr τ dc ws to gr sp pd hb → sm_G l b D cA yX7_cut cX7_cut 6 (some .int) 2 0 0 Post 0 0 118 [some (.ref 23), some (.int ss), some (.int ii), some (.int (nI c)), some (.int (nI (ln s))), none] [] M1) :
    ∀ (r k : Nat) (M1 : sm_M), k + r = ln s → i ≤ k → sm_ex M M1 sm_ml → sm_W M1 0 (c + 1) (va_up ln c (k - i)) (va_up fg c (fun t => if 0 ≤ t ∧ t < 0 + (ln s - i) then fg s (i + (t - 0)) else 0)) (va_up fm c (fun t => if 0 ≤ t ∧ t < 0 + (ln s - i) then fm s (i + (t - 0)) else 0)) (va_up ow c (ow s)) (va_up nm c 0) r1 r2 r3 fame cu it yr τ dc ws to gr sp pd hb → sm_G l b D cA yX7_cut cX7_cut 6 (some .int) 2 0 0 Post 0 0 71 [some (.ref 23), some (.int ss), some (.int ii), some (.int (nI c)), some (.int (nI k)), none] [] M1 := by
  subst hss
  have h80 := hln s hs
  have hne : s ≠ c := by omega
  intro r
  induction r with
  | zero =>
    intro k M1 hk hik hx hW
    have e : k = ln s := by omega
    subst e
    obtain ⟨I, A, hm, h7, ha, hbb, ht, hdd, hh⟩ := id hW
    obtain ⟨h23, h24, h25, h26, h27, h28, h29, h30, h31, h32, h33, h34, h35, h36, h37, h38, h39⟩ := id hm
    obtain ⟨b26, b27, b28, bN⟩ := ha.2 s (by omega)
    rw [va_up_ne _ _ hne] at b26
    refine sg_iload dX7_cut_71 rfl ?_
    refine sg_aload_n dX7_cut_73 rfl ?_
    refine sg_get dX7_cut_74 fl_X7_16 (by first | rfl | assumption) rfl ?_
    refine sg_iload_n dX7_cut_77 rfl ?_
    refine sg_ald (s) dX7_cut_78 (by first | rfl | assumption) (rfl) (by omega) (by decide) ?_
    rw [b26]
    refine sg_icmp_ge 118 dX7_cut_79 (by decide) (fun c1 => ?_) (fun c1 => ?_)
    · exact hP M1 hx hW
    · exact absurd (nI_le (Nat.le_refl _) (by omega)) c1
  | succ r ih =>
    intro k M1 hk hik hx hW
    obtain ⟨I, A, hm, h7, ha, hbb, ht, hdd, hh⟩ := id hW
    obtain ⟨h23, h24, h25, h26, h27, h28, h29, h30, h31, h32, h33, h34, h35, h36, h37, h38, h39⟩ := id hm
    obtain ⟨b26, b27, b28, bN⟩ := ha.2 s (by omega)
    rw [va_up_ne _ _ hne] at b26
    rw [va_up_ne _ _ hne, va_up_ne _ _ hne, va_up_ne _ _ hne] at bN
    obtain ⟨bg, bm⟩ := bN k (by omega)
    refine sg_iload dX7_cut_71 rfl ?_
    refine sg_aload_n dX7_cut_73 rfl ?_
    refine sg_get dX7_cut_74 fl_X7_16 (by first | rfl | assumption) rfl ?_
    refine sg_iload_n dX7_cut_77 rfl ?_
    refine sg_ald (s) dX7_cut_78 (by first | rfl | assumption) (rfl) (by omega) (by decide) ?_
    rw [b26]
    refine sg_icmp_ge 118 dX7_cut_79 (by decide) (fun c1 => ?_) (fun c1 => ?_)
    · exact absurd c1 (nI_ge (by omega) (by omega))
    · refine sg_aload_n dX7_cut_82 rfl ?_
      refine sg_iload_n dX7_cut_83 rfl ?_
      refine sg_aload_n dX7_cut_84 rfl ?_
      refine sg_get dX7_cut_85 fl_X7_9 (by first | rfl | assumption) rfl ?_
      refine sg_bipush 80 dX7_cut_88 (by decide) ?_
      refine sg_iload_n dX7_cut_90 rfl ?_
      refine sg_imul dX7_cut_91 ?_
      refine sg_iload dX7_cut_92 rfl ?_
      refine sg_iadd dX7_cut_94 ?_
      rw [sm_80]
      refine sg_ald (80 * s + k) dX7_cut_95 (by first | rfl | assumption) (rfl) (by omega) (by decide) ?_
      refine sg_aload_n dX7_cut_96 rfl ?_
      refine sg_get dX7_cut_97 fl_X7_13 (by first | rfl | assumption) rfl ?_
      refine sg_bipush 80 dX7_cut_100 (by decide) ?_
      refine sg_iload_n dX7_cut_102 rfl ?_
      refine sg_imul dX7_cut_103 ?_
      refine sg_iload dX7_cut_104 rfl ?_
      refine sg_iadd dX7_cut_106 ?_
      rw [sm_80]
      refine sg_ald (80 * s + k) dX7_cut_107 (by first | rfl | assumption) (rfl) (by omega) (by decide) ?_
      refine sg_iconst 1 dX7_cut_108 (by decide) ?_
      rw [bg, bm]
      refine sg_V4 dX7_cut_109 cv_X7_91 h23 (w_put (k := 1) (fg s k) (fm s k) rfl rfl (Nat.lt_succ_self c) (by omega) (by rw [va_up_self]; omega) (sm_hl2 hln (by omega)) hW) (Nat.le_of_ble_eq_true rfl) (Nat.le_of_ble_eq_true rfl) (Nat.le_of_ble_eq_true rfl) (Nat.le_of_ble_eq_true rfl) (fun r9 M4 hp => ?_)
      obtain ⟨rfl, x4, W4⟩ := hp
      simp only [va_up_self, va_up_up] at W4
      refine sg_iinc _ dX7_cut_112 rfl (sm_inc k) (by decide) ?_
      refine sg_goto 71 dX7_cut_115 (by decide) ?_
      refine ih (k + 1) M4 (by omega) (by omega) (hx.tr x4) (W4.ra (fun t ht => ?_))
      by_cases e : t = c
      · subst e
        simp only [va_up_self]
        refine ⟨by omega, trivial, trivial, fun j hj => ?_⟩
        by_cases q : k - i ≤ j
        · have hji : i + j = k := by omega
          exact ⟨by rw [if_pos ⟨q, hj⟩, if_pos (by omega), Nat.sub_zero, hji], by rw [if_pos ⟨q, hj⟩, if_pos (by omega), Nat.sub_zero, hji]⟩
        · exact ⟨by rw [if_neg (fun z => q z.1)], by rw [if_neg (fun z => q z.1)]⟩
      · simp only [va_up_ne _ _ e]
        exact ⟨trivial, trivial, trivial, fun k hk => ⟨trivial, trivial⟩⟩
theorem lp_mcut2 {s i : Nat} {ii ss : Int32} {x : Option Value} {Post : Option Value → sm_M → Prop} (hii : ii = nI i) (hss : ss = nI s) (hs : s < c) (hc : c < 40) (h1 : 1 ≤ i) (hi : i < ln s) (hln : ∀ t, t < c → ln t ≤ 80) (hnm : ∀ t, t < c → 0 ≤ (nm t).toInt) (hz : τ.1 + (if nm s = 0 then 0 else 1) ≤ 200) (hW : sm_W M 0 (c + 1) (va_up ln c (ln s - i)) (va_up fg c (fun t => if 0 ≤ t ∧ t < 0 + (ln s - i) then fg s (i + (t - 0)) else 0)) (va_up fm c (fun t => if 0 ≤ t ∧ t < 0 + (ln s - i) then fm s (i + (t - 0)) else 0)) (va_up ow c (ow s)) (va_up nm c 0) r1 r2 r3 fame cu it yr τ dc ws to gr sp pd hb)
    (hP : ∀ M1 : sm_M, sm_ex M M1 sm_ml → sm_W M1 0 (c + 1) (va_up (va_up ln s i) c (ln s - i)) (va_up fg c (fun t => if 0 ≤ t ∧ t < 0 + (ln s - i) then fg s (i + (t - 0)) else 0)) (va_up fm c (fun t => if 0 ≤ t ∧ t < 0 + (ln s - i) then fm s (i + (t - 0)) else 0)) (va_up ow c (ow s)) (va_up (va_up nm s (if nm s = 0 ∨ cu = 0 ∨ i < ln s - i then 0 else nm s)) c (if ¬ nm s = 0 ∧ ¬ cu = 0 ∧ i < ln s - i then nm s else 0)) r1 r2 r3 fame cu it yr (if nm s = 0 then τ else if cu = 0 then sm_say (nm s) 5 0 yr τ else sm_say (nm s) 3 (nI (if i < ln s - i then ln s - i else i)) yr τ) dc ws to gr sp pd hb → Post (some (.int (nI c))) M1) : sm_G l b D cA yX7_cut cX7_cut 6 (some .int) 2 0 0 Post 0 0 118 [some (.ref 23), some (.int ss), some (.int ii), some (.int (nI c)), x, none] [] M := by
  subst hss
  subst hii
  have h80 := hln s hs
  have hne : s ≠ c := by omega
  have hne' : c ≠ s := by omega
  obtain ⟨I, A, hm, h7, ha, hbb, ht, hdd, hh⟩ := id hW
  obtain ⟨h23, h24, h25, h26, h27, h28, h29, h30, h31, h32, h33, h34, h35, h36, h37, h38, h39⟩ := id hm
  refine sg_aload_n dX7_cut_118 rfl ?_
  refine sg_get dX7_cut_119 fl_X7_16 (by first | rfl | assumption) rfl ?_
  refine sg_iload_n dX7_cut_122 rfl ?_
  refine sg_iload_n dX7_cut_123 rfl ?_
  refine sg_astx s dX7_cut_124 h26 rfl (by omega) (by decide) (fun M3 x3 g3 => ?_)
  have W3 := (⟨I, _, hm.u26 x3 g3, h7, ha.len rfl (by rw [va_up_ne _ _ hne]; omega), hbb, ht, hdd, hh⟩ : sm_W M3 0 (c + 1) (va_up (va_up ln c (ln s - i)) s i) (va_up fg c (fun t => if 0 ≤ t ∧ t < 0 + (ln s - i) then fg s (i + (t - 0)) else 0)) (va_up fm c (fun t => if 0 ≤ t ∧ t < 0 + (ln s - i) then fm s (i + (t - 0)) else 0)) (va_up ow c (ow s)) (va_up nm c 0) r1 r2 r3 fame cu it yr τ dc ws to gr sp pd hb)
  have X3 : sm_ex M M3 sm_ml := x3.mono (by decide)
  clear hh hdd ht hbb ha h7 hm g3 x3 hW h23 h24 h25 h26 h27 h28 h29 h30 h31 h32 h33 h34 h35 h36 h37 h38 h39
  have hlc : ∀ t, t < c + 1 → va_up (va_up ln c (ln s - i)) s i t ≤ 80 := sm_hl1 (sm_hl2 hln (by omega)) (by omega)
  -- from any names that agree, the end
  have hE : ∀ (M1 : sm_M) (nm2 : Nat → Int32) (t2 : sm_T5), sm_ex M M1 sm_ml → (∀ t, t < c + 1 → nm2 t = va_up (va_up nm s (if nm s = 0 ∨ cu = 0 ∨ i < ln s - i then 0 else nm s)) c (if ¬ nm s = 0 ∧ ¬ cu = 0 ∧ i < ln s - i then nm s else 0) t) → t2 = (if nm s = 0 then τ else if cu = 0 then sm_say (nm s) 5 0 yr τ else sm_say (nm s) 3 (nI (if i < ln s - i then ln s - i else i)) yr τ) → sm_W M1 0 (c + 1) (va_up (va_up ln c (ln s - i)) s i) (va_up fg c (fun t => if 0 ≤ t ∧ t < 0 + (ln s - i) then fg s (i + (t - 0)) else 0)) (va_up fm c (fun t => if 0 ≤ t ∧ t < 0 + (ln s - i) then fm s (i + (t - 0)) else 0)) (va_up ow c (ow s)) (nm2) r1 r2 r3 fame cu it yr (t2) dc ws to gr sp pd hb → Post (some (.int (nI c))) M1 := fun M1 nm2 t2 hx hn ht2 w => by
    subst ht2
    refine hP M1 hx (w.ra (fun t ht => ⟨?_, rfl, hn t ht, fun _ _ => ⟨rfl, rfl⟩⟩))
    by_cases e : t = c
    · rw [e, va_up_ne _ _ hne', va_up_self, va_up_self]
    · rw [va_up_ne _ (ln s - i) e]
      by_cases e2 : t = s
      · rw [e2, va_up_self, va_up_self]
      · rw [va_up_ne _ _ e2, va_up_ne _ _ e2, va_up_ne _ _ e]
  obtain ⟨I, A, hm, h7, ha, hbb, ht, hdd, hh⟩ := id W3
  obtain ⟨h23, h24, h25, h26, h27, h28, h29, h30, h31, h32, h33, h34, h35, h36, h37, h38, h39⟩ := id hm
  obtain ⟨b26, b27, b28, bN⟩ := ha.2 s (by omega)
  rw [va_up_ne _ _ hne] at b28
  refine sg_aload_n dX7_cut_125 rfl ?_
  refine sg_get dX7_cut_126 fl_X7_22 (by first | rfl | assumption) rfl ?_
  refine sg_iload_n dX7_cut_129 rfl ?_
  refine sg_ald (s) dX7_cut_130 (by first | rfl | assumption) (rfl) (by omega) (by decide) ?_
  rw [b28]
  refine sg_istore dX7_cut_131 (by decide) ?_
  refine sg_iload dX7_cut_133 rfl ?_
  refine sg_if_ne 140 dX7_cut_135 (by decide) (fun c1 => ?_) (fun c1 => ?_)
  · rw [if_neg c1] at hz
    refine sg_aload_n dX7_cut_140 rfl ?_
    refine sg_get dX7_cut_141 fl_X7_22 (by first | rfl | assumption) rfl ?_
    refine sg_iload_n dX7_cut_144 rfl ?_
    refine sg_iconst 0 dX7_cut_145 (by decide) ?_
    refine sg_astx s dX7_cut_146 h28 rfl (by omega) (by decide) (fun M4 x4 g4 => ?_)
    have W4 := (⟨I, _, hm.u28 x4 g4, h7, ha.nam 0, hbb, ht, hdd, hh⟩ : sm_W M4 0 (c + 1) (va_up (va_up ln c (ln s - i)) s i) (va_up fg c (fun t => if 0 ≤ t ∧ t < 0 + (ln s - i) then fg s (i + (t - 0)) else 0)) (va_up fm c (fun t => if 0 ≤ t ∧ t < 0 + (ln s - i) then fm s (i + (t - 0)) else 0)) (va_up ow c (ow s)) (va_up (va_up nm c 0) s 0) r1 r2 r3 fame cu it yr τ dc ws to gr sp pd hb)
    have X4 : sm_ex M M4 sm_ml := X3.tr (x4.mono (by decide))
    clear hh hdd ht hbb ha h7 hm g4 x4 h23 h24 h25 h26 h27 h28 h29 h30 h31 h32 h33 h34 h35 h36 h37 h38 h39
    obtain ⟨I, A, hm, h7, ha, hbb, ht, hdd, hh⟩ := id W4
    obtain ⟨h23, h24, h25, h26, h27, h28, h29, h30, h31, h32, h33, h34, h35, h36, h37, h38, h39⟩ := id hm
    refine sg_aload_n dX7_cut_147 rfl ?_
    refine sg_get dX7_cut_148 fl_X7_38 (by first | rfl | assumption) rfl ?_
    rw [hbb.2.1]
    refine sg_if_ne 164 dX7_cut_151 (by decide) (fun c2 => ?_) (fun c2 => ?_)
    · obtain ⟨b26, b27, b28, bN⟩ := ha.2 s (by omega)
      obtain ⟨d26, d27, d28, dN⟩ := ha.2 c (by omega)
      rw [va_up_self] at b26
      rw [va_up_ne _ _ hne', va_up_self] at d26
      refine sg_aload_n dX7_cut_164 rfl ?_
      refine sg_get dX7_cut_165 fl_X7_16 (by first | rfl | assumption) rfl ?_
      refine sg_iload_n dX7_cut_168 rfl ?_
      refine sg_ald (c) dX7_cut_169 (by first | rfl | assumption) (rfl) (by omega) (by decide) ?_
      refine sg_aload_n dX7_cut_170 rfl ?_
      refine sg_get dX7_cut_171 fl_X7_16 (by first | rfl | assumption) rfl ?_
      refine sg_iload_n dX7_cut_174 rfl ?_
      refine sg_ald (s) dX7_cut_175 (by first | rfl | assumption) (rfl) (by omega) (by decide) ?_
      rw [b26, d26]
      refine sg_icmp_le 183 dX7_cut_176 (by decide) (fun c3 => ?_) (fun c3 => ?_)
      · rw [Int32.le_iff_toInt_le, nI_toInt (by omega), nI_toInt (by omega)] at c3
        refine sg_iload_n dX7_cut_183 rfl ?_
        refine sg_istore dX7_cut_184 (by decide) ?_
        refine sg_aload_n dX7_cut_186 rfl ?_
        refine sg_get dX7_cut_187 fl_X7_22 (by first | rfl | assumption) rfl ?_
        refine sg_iload dX7_cut_190 rfl ?_
        refine sg_iload dX7_cut_192 rfl ?_
        refine sg_astx s dX7_cut_194 h28 rfl (by omega) (by decide) (fun M5 x5 g5 => ?_)
        have W5 := (⟨I, _, hm.u28 x5 g5, h7, ha.nam (nm s), hbb, ht, hdd, hh⟩ : sm_W M5 0 (c + 1) (va_up (va_up ln c (ln s - i)) s i) (va_up fg c (fun t => if 0 ≤ t ∧ t < 0 + (ln s - i) then fg s (i + (t - 0)) else 0)) (va_up fm c (fun t => if 0 ≤ t ∧ t < 0 + (ln s - i) then fm s (i + (t - 0)) else 0)) (va_up ow c (ow s)) (va_up (va_up (va_up nm c 0) s 0) s (nm s)) r1 r2 r3 fame cu it yr τ dc ws to gr sp pd hb)
        have X5 : sm_ex M M5 sm_ml := X4.tr (x5.mono (by decide))
        have i26 := (x5.2 26 (by decide)).trans h26
        obtain ⟨I, A, hm, h7, ha, hbb, ht, hdd, hh⟩ := id W5
        obtain ⟨h23, h24, h25, h26, h27, h28, h29, h30, h31, h32, h33, h34, h35, h36, h37, h38, h39⟩ := id hm
        obtain ⟨b26, b27, b28, bN⟩ := ha.2 s (by omega)
        rw [va_up_self] at b26
        refine sg_aload_n dX7_cut_195 rfl ?_
        refine sg_iload dX7_cut_196 rfl ?_
        refine sg_iconst 3 dX7_cut_198 (by decide) ?_
        refine sg_aload_n dX7_cut_199 rfl ?_
        refine sg_get dX7_cut_200 fl_X7_16 (by first | rfl | assumption) rfl ?_
        refine sg_iload dX7_cut_203 rfl ?_
        refine sg_ald (s) dX7_cut_205 (by first | rfl | assumption) (rfl) (by omega) (by decide) ?_
        rw [b26]
        refine sg_V3 dX7_cut_206 cv_X7_102 h23 (w_say (nm s) 3 (nI i) (by omega) W5) (Nat.le_of_ble_eq_true rfl) (Nat.le_of_ble_eq_true rfl) (Nat.le_of_ble_eq_true rfl) (Nat.le_of_ble_eq_true rfl) (fun r9 M6 hp => ?_)
        obtain ⟨rfl, x6, W6⟩ := hp
        refine sg_iload_n dX7_cut_209 rfl ?_
        refine sg_ireturn dX7_cut_210 rfl (Nat.le_of_ble_eq_true rfl) (Nat.le_of_ble_eq_true rfl) ?_
        refine hE M6 _ _ (X5.tr x6) (fun t ht => ?_) ?_ W6
        · by_cases e : t = c
          · rw [e, va_up_self, va_up_ne _ _ hne', va_up_ne _ _ hne', va_up_self, if_neg (fun q => by omega)]
          · rw [va_up_ne _ (if ¬ nm s = 0 ∧ ¬ cu = 0 ∧ i < ln s - i then nm s else 0) e]
            by_cases e2 : t = s
            · rw [e2, va_up_self, va_up_self, if_neg (fun q => by rcases q with q | q | q; exact c1 q; exact c2 q; omega)]
            · rw [va_up_ne _ _ e2, va_up_ne _ _ e2, va_up_ne _ _ e2, va_up_ne _ _ e]
        · rw [if_neg c1, if_neg c2, if_neg (by omega)]
      · rw [Int32.le_iff_toInt_le, nI_toInt (by omega), nI_toInt (by omega)] at c3
        refine sg_iload_n dX7_cut_179 rfl ?_
        refine sg_goto 184 dX7_cut_180 (by decide) ?_
        refine sg_istore dX7_cut_184 (by decide) ?_
        refine sg_aload_n dX7_cut_186 rfl ?_
        refine sg_get dX7_cut_187 fl_X7_22 (by first | rfl | assumption) rfl ?_
        refine sg_iload dX7_cut_190 rfl ?_
        refine sg_iload dX7_cut_192 rfl ?_
        refine sg_astx c dX7_cut_194 h28 rfl (by omega) (by decide) (fun M5 x5 g5 => ?_)
        have W5 := (⟨I, _, hm.u28 x5 g5, h7, ha.nam (nm s), hbb, ht, hdd, hh⟩ : sm_W M5 0 (c + 1) (va_up (va_up ln c (ln s - i)) s i) (va_up fg c (fun t => if 0 ≤ t ∧ t < 0 + (ln s - i) then fg s (i + (t - 0)) else 0)) (va_up fm c (fun t => if 0 ≤ t ∧ t < 0 + (ln s - i) then fm s (i + (t - 0)) else 0)) (va_up ow c (ow s)) (va_up (va_up (va_up nm c 0) s 0) c (nm s)) r1 r2 r3 fame cu it yr τ dc ws to gr sp pd hb)
        have X5 : sm_ex M M5 sm_ml := X4.tr (x5.mono (by decide))
        obtain ⟨I, A, hm, h7, ha, hbb, ht, hdd, hh⟩ := id W5
        obtain ⟨h23, h24, h25, h26, h27, h28, h29, h30, h31, h32, h33, h34, h35, h36, h37, h38, h39⟩ := id hm
        obtain ⟨d26, d27, d28, dN⟩ := ha.2 c (by omega)
        rw [va_up_ne _ _ hne', va_up_self] at d26
        refine sg_aload_n dX7_cut_195 rfl ?_
        refine sg_iload dX7_cut_196 rfl ?_
        refine sg_iconst 3 dX7_cut_198 (by decide) ?_
        refine sg_aload_n dX7_cut_199 rfl ?_
        refine sg_get dX7_cut_200 fl_X7_16 (by first | rfl | assumption) rfl ?_
        refine sg_iload dX7_cut_203 rfl ?_
        refine sg_ald (c) dX7_cut_205 (by first | rfl | assumption) (rfl) (by omega) (by decide) ?_
        rw [d26]
        refine sg_V3 dX7_cut_206 cv_X7_102 h23 (w_say (nm s) 3 (nI (ln s - i)) (by omega) W5) (Nat.le_of_ble_eq_true rfl) (Nat.le_of_ble_eq_true rfl) (Nat.le_of_ble_eq_true rfl) (Nat.le_of_ble_eq_true rfl) (fun r9 M6 hp => ?_)
        obtain ⟨rfl, x6, W6⟩ := hp
        refine sg_iload_n dX7_cut_209 rfl ?_
        refine sg_ireturn dX7_cut_210 rfl (Nat.le_of_ble_eq_true rfl) (Nat.le_of_ble_eq_true rfl) ?_
        refine hE M6 _ _ (X5.tr x6) (fun t ht => ?_) ?_ W6
        · by_cases e : t = c
          · rw [e, va_up_self, va_up_self, if_pos ⟨c1, c2, by omega⟩]
          · rw [va_up_ne _ (if ¬ nm s = 0 ∧ ¬ cu = 0 ∧ i < ln s - i then nm s else 0) e, va_up_ne _ (nm s) e]
            by_cases e2 : t = s
            · rw [e2, va_up_self, va_up_self, if_pos (Or.inr (Or.inr (by omega)))]
            · rw [va_up_ne _ _ e2, va_up_ne _ _ e2, va_up_ne _ _ e]
        · rw [if_neg c1, if_neg c2, if_pos (by omega)]
    · have c2' : cu = 0 := c2
      refine sg_aload_n dX7_cut_154 rfl ?_
      refine sg_iload dX7_cut_155 rfl ?_
      refine sg_iconst 5 dX7_cut_157 (by decide) ?_
      refine sg_iconst 0 dX7_cut_158 (by decide) ?_
      refine sg_V3 dX7_cut_159 cv_X7_102 h23 (w_say (nm s) 5 0 (by omega) W4) (Nat.le_of_ble_eq_true rfl) (Nat.le_of_ble_eq_true rfl) (Nat.le_of_ble_eq_true rfl) (Nat.le_of_ble_eq_true rfl) (fun r9 M6 hp => ?_)
      obtain ⟨rfl, x6, W6⟩ := hp
      refine sg_iload_n dX7_cut_162 rfl ?_
      refine sg_ireturn dX7_cut_163 rfl (Nat.le_of_ble_eq_true rfl) (Nat.le_of_ble_eq_true rfl) ?_
      refine hE M6 _ _ (X4.tr x6) (fun t ht => ?_) ?_ W6
      · by_cases e : t = c
        · rw [e, va_up_self, va_up_ne _ _ hne', va_up_self, if_neg (fun q => q.2.1 c2')]
        · rw [va_up_ne _ (if ¬ nm s = 0 ∧ ¬ cu = 0 ∧ i < ln s - i then nm s else 0) e]
          by_cases e2 : t = s
          · rw [e2, va_up_self, va_up_self, if_pos (Or.inr (Or.inl c2'))]
          · rw [va_up_ne _ _ e2, va_up_ne _ _ e2, va_up_ne _ _ e]
      · rw [if_neg c1, if_pos c2']
  · have c1' : nm s = 0 := c1
    refine sg_iload_n dX7_cut_138 rfl ?_
    refine sg_ireturn dX7_cut_139 rfl (Nat.le_of_ble_eq_true rfl) (Nat.le_of_ble_eq_true rfl) ?_
    refine hE M3 _ _ X3 (fun t ht => ?_) ?_ W3
    · by_cases e : t = c
      · rw [e, va_up_self, va_up_self, if_neg (fun q => q.1 c1')]
      · rw [va_up_ne _ _ e, va_up_ne _ _ e]
        by_cases e2 : t = s
        · rw [e2, va_up_self, if_pos (Or.inl c1'), c1']
        · rw [va_up_ne _ _ e2]
    · rw [if_pos c1']
theorem m_cut (i j : Int32) (hc : c ≤ 40) (hln : ∀ t, t < c → ln t ≤ 80) (hnm : ∀ t, t < c → 0 ≤ (nm t).toInt) (hz : τ.1 ≤ 200) (hW : sm_W M th c ln fg fm ow nm r1 r2 r3 fame cu it yr τ dc ws to gr sp pd hb) : sm_Ct l b D cA yX7_cut cX7_cut 6 (some .int) 2 0 0 [.ref 23, .int i, .int j] M (fun r M1 => sm_ex M M1 sm_ml ∧ (sm_cutc c ln nm τ i j → r = some (.int (nI c)) ∧ sm_W M1 0 (c + 1) (va_up (va_up ln i.toInt.toNat j.toInt.toNat) c (ln i.toInt.toNat - j.toInt.toNat)) (va_up fg c (fun t => if 0 ≤ t ∧ t < 0 + (ln i.toInt.toNat - j.toInt.toNat) then fg i.toInt.toNat (j.toInt.toNat + (t - 0)) else 0)) (va_up fm c (fun t => if 0 ≤ t ∧ t < 0 + (ln i.toInt.toNat - j.toInt.toNat) then fm i.toInt.toNat (j.toInt.toNat + (t - 0)) else 0)) (va_up ow c (ow i.toInt.toNat)) (va_up (va_up nm i.toInt.toNat (if nm i.toInt.toNat = 0 ∨ cu = 0 ∨ j.toInt.toNat < ln i.toInt.toNat - j.toInt.toNat then 0 else nm i.toInt.toNat)) c (if ¬ nm i.toInt.toNat = 0 ∧ ¬ cu = 0 ∧ j.toInt.toNat < ln i.toInt.toNat - j.toInt.toNat then nm i.toInt.toNat else 0)) r1 r2 r3 fame cu it yr (if nm i.toInt.toNat = 0 then τ else if cu = 0 then sm_say (nm i.toInt.toNat) 5 0 yr τ else sm_say (nm i.toInt.toNat) 3 (nI (if j.toInt.toNat < ln i.toInt.toNat - j.toInt.toNat then ln i.toInt.toNat - j.toInt.toNat else j.toInt.toNat)) yr τ) dc ws to gr sp pd hb) ∧ (¬ sm_cutc c ln nm τ i j → r = some (.int (-1)) ∧ sm_W M1 0 c ln fg fm ow nm r1 r2 r3 fame cu it yr τ dc ws to gr sp pd hb)) := by
  obtain ⟨I, A, hm, h7, ha, hbb, ht, hdd, hh⟩ := id hW
  obtain ⟨h23, h24, h25, h26, h27, h28, h29, h30, h31, h32, h33, h34, h35, h36, h37, h38, h39⟩ := id hm
  refine sm_enter (by decide +kernel) rfl (fun _ => Nat.le_of_ble_eq_true rfl) ?_
  refine sg_aload_n dX7_cut_0 rfl ?_
  refine sg_iconst 0 dX7_cut_1 (by decide) ?_
  refine sg_putx dX7_cut_2 fl_X7_68 ft_X7_18 h23 (Nat.le_of_ble_eq_true rfl) (fun M2 x2 q2 => ?_)
  have W2 : sm_W M2 0 c ln fg fm ow nm r1 r2 r3 fame cu it yr τ dc ws to gr sp pd hb := ⟨upd I 7 0, A, hm.o x2 q2, rfl, ha, hbb, ht, hdd, hh⟩
  have X2 : sm_ex M M2 sm_ml := x2.mono (by decide)
  clear q2 x2 hh hdd ht hbb ha h7 hm h23 h24 h25 h26 h27 h28 h29 h30 h31 h32 h33 h34 h35 h36 h37 h38 h39
  obtain ⟨I, A, hm, h7, ha, hbb, ht, hdd, hh⟩ := id W2
  obtain ⟨h23, h24, h25, h26, h27, h28, h29, h30, h31, h32, h33, h34, h35, h36, h37, h38, h39⟩ := id hm
  refine sg_aload_n dX7_cut_5 rfl ?_
  refine sg_iload_n dX7_cut_6 rfl ?_
  refine sg_V1 dX7_cut_7 cv_X7_95 h23 (w_isThere i hc hln W2) (Nat.le_of_ble_eq_true rfl) (Nat.le_of_ble_eq_true rfl) (Nat.le_of_ble_eq_true rfl) (Nat.le_of_ble_eq_true rfl) (fun r M1 hp => ?_)
  obtain ⟨rfl, e9⟩ := hp; rw [e9]
  refine sg_bf_eq 55 dX7_cut_10 (by decide) (fun c1 => ?_) (fun c1 => ?_)
  · refine sg_iconst (-1) dX7_cut_55 (by decide) ?_
    refine sg_ireturn dX7_cut_56 rfl (Nat.le_of_ble_eq_true rfl) (Nat.le_of_ble_eq_true rfl) ?_
    exact ⟨X2, fun q => absurd q.1 c1, fun _ => ⟨rfl, W2⟩⟩
  · have hk := (sm_toN c1.1).2
    have h80 := hln _ hk
    obtain ⟨b26, b27, b28, bN⟩ := ha.2 _ hk
    have hnz := sm_nmz (hnm _ hk)
    refine sg_iload_n dX7_cut_13 rfl ?_
    refine sg_iconst 1 dX7_cut_14 (by decide) ?_
    refine sg_aload_n dX7_cut_15 rfl ?_
    refine sg_get dX7_cut_16 fl_X7_16 (by first | rfl | assumption) rfl ?_
    refine sg_iload_n dX7_cut_19 rfl ?_
    refine sg_ald (i.toInt.toNat) dX7_cut_20 (by first | rfl | assumption) ((sm_toN c1.1).1) (by omega) (by decide) ?_
    refine sg_iconst 1 dX7_cut_21 (by decide) ?_
    refine sg_isub dX7_cut_22 ?_
    rw [b26]
    refine sg_S3 dX7_cut_23 cs_X7_74 (c_in _ _ _) (Nat.le_of_ble_eq_true rfl) (Nat.le_of_ble_eq_true rfl) (Nat.le_of_ble_eq_true rfl) (Nat.le_of_ble_eq_true rfl) (fun r M1 hp => ?_)
    obtain ⟨rfl, e9⟩ := hp; rw [e9]
    refine sg_bf_eq 55 dX7_cut_26 (by decide) (fun c2 => ?_) (fun c2 => ?_)
    · rw [ti_1, sm_pred (by omega)] at c2
      refine sg_iconst (-1) dX7_cut_55 (by decide) ?_
      refine sg_ireturn dX7_cut_56 rfl (Nat.le_of_ble_eq_true rfl) (Nat.le_of_ble_eq_true rfl) ?_
      exact ⟨X2, fun q => absurd q.2.1 (by omega), fun _ => ⟨rfl, W2⟩⟩
    · rw [ti_1, sm_pred (by omega)] at c2
      have hjn : j = nI j.toInt.toNat := sm_asN (by omega)
      refine sg_aload_n dX7_cut_29 rfl ?_
      refine sg_get dX7_cut_30 fl_X7_71 (by first | rfl | assumption) rfl ?_
      refine sg_bipush 40 dX7_cut_33 (by decide) ?_
      rw [ha.1]
      refine sg_icmp_eq 55 dX7_cut_35 (by decide) (fun c3 => ?_) (fun c3 => ?_)
      · rw [← Int32.toInt_inj, nI_toInt (by omega), ti_40] at c3
        refine sg_iconst (-1) dX7_cut_55 (by decide) ?_
        refine sg_ireturn dX7_cut_56 rfl (Nat.le_of_ble_eq_true rfl) (Nat.le_of_ble_eq_true rfl) ?_
        exact ⟨X2, fun q => absurd q.2.2.1 (by omega), fun _ => ⟨rfl, W2⟩⟩
      · rw [← Int32.toInt_inj, nI_toInt (by omega), ti_40] at c3
        have hrest : ∀ Post : Option Value → sm_M → Prop, τ.1 + (if nm i.toInt.toNat = 0 then 0 else 1) ≤ 200 → (∀ M1 : sm_M, sm_ex M2 M1 sm_ml → sm_W M1 0 (c + 1) (va_up (va_up ln i.toInt.toNat j.toInt.toNat) c (ln i.toInt.toNat - j.toInt.toNat)) (va_up fg c (fun t => if 0 ≤ t ∧ t < 0 + (ln i.toInt.toNat - j.toInt.toNat) then fg i.toInt.toNat (j.toInt.toNat + (t - 0)) else 0)) (va_up fm c (fun t => if 0 ≤ t ∧ t < 0 + (ln i.toInt.toNat - j.toInt.toNat) then fm i.toInt.toNat (j.toInt.toNat + (t - 0)) else 0)) (va_up ow c (ow i.toInt.toNat)) (va_up (va_up nm i.toInt.toNat (if nm i.toInt.toNat = 0 ∨ cu = 0 ∨ j.toInt.toNat < ln i.toInt.toNat - j.toInt.toNat then 0 else nm i.toInt.toNat)) c (if ¬ nm i.toInt.toNat = 0 ∧ ¬ cu = 0 ∧ j.toInt.toNat < ln i.toInt.toNat - j.toInt.toNat then nm i.toInt.toNat else 0)) r1 r2 r3 fame cu it yr (if nm i.toInt.toNat = 0 then τ else if cu = 0 then sm_say (nm i.toInt.toNat) 5 0 yr τ else sm_say (nm i.toInt.toNat) 3 (nI (if j.toInt.toNat < ln i.toInt.toNat - j.toInt.toNat then ln i.toInt.toNat - j.toInt.toNat else j.toInt.toNat)) yr τ) dc ws to gr sp pd hb → Post (some (.int (nI c))) M1) → sm_G l b D cA yX7_cut cX7_cut 6 (some .int) 2 0 0 Post 0 0 57 [some (.ref 23), some (.int i), some (.int j), none, none, none] [] M2 := fun Post hroom hP => by
          refine sg_aload_n dX7_cut_57 rfl ?_
          refine sg_aload_n dX7_cut_58 rfl ?_
          refine sg_get dX7_cut_59 fl_X7_19 (by first | rfl | assumption) rfl ?_
          refine sg_iload_n dX7_cut_62 rfl ?_
          refine sg_ald (i.toInt.toNat) dX7_cut_63 (by first | rfl | assumption) ((sm_toN c1.1).1) (by omega) (by decide) ?_
          rw [b27]
          refine sg_V1 dX7_cut_64 cv_X7_87 h23 (w_new (ow i.toInt.toNat) (by omega) hln W2) (Nat.le_of_ble_eq_true rfl) (Nat.le_of_ble_eq_true rfl) (Nat.le_of_ble_eq_true rfl) (Nat.le_of_ble_eq_true rfl) (fun r9 M3 hp => ?_)
          obtain ⟨rfl, x3, W3⟩ := hp
          refine sg_istore_n dX7_cut_67 (by decide) ?_
          refine sg_iload_n dX7_cut_68 rfl ?_
          refine sg_eqL (v := nI j.toInt.toNat) hjn ?_
          refine sg_istore dX7_cut_69 (by decide) ?_
          refine lp_mcut (M := M2) hjn (sm_toN c1.1).1 hk (by omega) (by omega) hln (fun M4 x4 W4 => lp_mcut2 hjn (sm_toN c1.1).1 hk (by omega) (by omega) (by omega) hln hnm hroom W4 (fun M5 x5 W5 => hP M5 (x4.tr x5) W5)) (ln i.toInt.toNat - j.toInt.toNat) j.toInt.toNat M3 (by omega) (Nat.le_refl _) x3 (W3.ra (fun t ht => ?_))
          by_cases e : t = c
          · subst e
            simp only [va_up_self]
            exact ⟨by omega, trivial, trivial, fun k hk => absurd hk (Nat.not_lt_zero k)⟩
          · simp only [va_up_ne _ _ e]
            exact ⟨trivial, trivial, trivial, fun k hk => ⟨trivial, trivial⟩⟩
        refine sg_aload_n dX7_cut_38 rfl ?_
        refine sg_get dX7_cut_39 fl_X7_22 (by first | rfl | assumption) rfl ?_
        refine sg_iload_n dX7_cut_42 rfl ?_
        refine sg_ald (i.toInt.toNat) dX7_cut_43 (by first | rfl | assumption) ((sm_toN c1.1).1) (by omega) (by decide) ?_
        rw [b28]
        refine sg_if_le 57 dX7_cut_44 (by decide) (fun c4 => ?_) (fun c4 => ?_)
        · have c4' := hnz.mp c4
          refine hrest _ (by rw [if_pos c4']; exact hz) (fun M1 x1 W1 => ⟨X2.tr x1, fun _ => ⟨rfl, W1⟩, fun q => absurd ⟨c1, by omega, by omega, by rw [if_pos c4']; exact hz⟩ q⟩)
        · have c4' : ¬ nm i.toInt.toNat = 0 := fun q => c4 (hnz.mpr q)
          refine sg_aload_n dX7_cut_47 rfl ?_
          refine sg_iconst 1 dX7_cut_48 (by decide) ?_
          refine sg_V1 dX7_cut_49 cv_X7_99 h23 (w_hasRoom 1 rfl (by omega) hz W2) (Nat.le_of_ble_eq_true rfl) (Nat.le_of_ble_eq_true rfl) (Nat.le_of_ble_eq_true rfl) (Nat.le_of_ble_eq_true rfl) (fun r9 M9 hp => ?_)
          obtain ⟨rfl, e9⟩ := hp
          rw [e9]
          refine sg_bf_ne 57 dX7_cut_52 (by decide) (fun c5 => ?_) (fun c5 => ?_)
          · refine hrest _ (by rw [if_neg c4']; exact c5) (fun M1 x1 W1 => ⟨X2.tr x1, fun _ => ⟨rfl, W1⟩, fun q => absurd ⟨c1, by omega, by omega, by rw [if_neg c4']; exact c5⟩ q⟩)
          · refine sg_iconst (-1) dX7_cut_55 (by decide) ?_
            refine sg_ireturn dX7_cut_56 rfl (Nat.le_of_ble_eq_true rfl) (Nat.le_of_ble_eq_true rfl) ?_
            exact ⟨X2, fun q => absurd q.2.2.2 (by rw [if_neg c4']; exact c5), fun _ => ⟨rfl, W2⟩⟩
end SM61
