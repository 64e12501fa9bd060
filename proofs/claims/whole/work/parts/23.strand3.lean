/-! a strand: makers, the tally, the constructor -/
section SM23
variable {l : Launch} {b : Nat} {D : va_G} {cA : Nat → ClassId} {M : sm_M}
theorem sm_at1 {n t : Nat} (hn : n ≤ 80) (ht : t < n) (f : Nat → Int32) : (if 0 ≤ (nI t).toInt ∧ (nI t).toInt < n then f (nI t).toInt.toNat else -1) = f t := by
  have hi : (nI t).toInt = (t : Int) := nI_toInt (by omega)
  rw [hi, if_pos (by omega)]
  rfl
theorem lp_makerCount {q g m n : Nat} {fg fm : Nat → Int32} {ow nm : Int32} {Post : Option Value → sm_M → Prop} (hn : n ≤ 80) (h : sm_st M q g m n fg fm ow nm) (hP : Post (some (.int (sm_bc (sm_seen fm n)))) M) :
    ∀ (r t : Nat), t + r = n → sm_G l b D cA yX4_makerCount cX4_makerCount 3 (some .int) 2 0 0 Post 0 0 4 [some (.ref q), some (.int (sm_seen fm t)), some (.int (nI t))] [] M := by
  obtain ⟨hq, hg, hm⟩ := id h
  intro r
  induction r with
  | zero =>
    intro t ht
    have e : t = n := by omega
    subst e
    refine sg_iload_n dX4_makerCount_4 rfl ?_
    refine sg_aload_n dX4_makerCount_5 rfl ?_
    refine sg_get dX4_makerCount_6 fl_X4_18 (by first | rfl | assumption) rfl ?_
    refine sg_icmp_ge 28 dX4_makerCount_9 (by decide) (fun c => ?_) (fun c => ?_)
    · refine sg_iload_n dX4_makerCount_28 rfl ?_
      refine sg_S1 dX4_makerCount_29 cs_X4_51 (c_bitCount _) (Nat.le_of_ble_eq_true rfl) (Nat.le_of_ble_eq_true rfl) (Nat.le_of_ble_eq_true rfl) (Nat.le_of_ble_eq_true rfl) (fun r9 M9 hp => ?_)
      obtain ⟨rfl, e9⟩ := hp
      rw [e9]
      refine sg_ireturn dX4_makerCount_32 rfl (Nat.le_of_ble_eq_true rfl) (Nat.le_of_ble_eq_true rfl) ?_
      exact hP
    · exact absurd (nI_le (Nat.le_refl _) (by omega)) c
  | succ r ih =>
    intro t ht
    refine sg_iload_n dX4_makerCount_4 rfl ?_
    refine sg_aload_n dX4_makerCount_5 rfl ?_
    refine sg_get dX4_makerCount_6 fl_X4_18 (by first | rfl | assumption) rfl ?_
    refine sg_icmp_ge 28 dX4_makerCount_9 (by decide) (fun c => ?_) (fun c => ?_)
    · exact absurd c (nI_ge (by omega) (by omega))
    · refine sg_iload_n dX4_makerCount_12 rfl ?_
      refine sg_iconst 1 dX4_makerCount_13 (by decide) ?_
      refine sg_aload_n dX4_makerCount_14 rfl ?_
      refine sg_iload_n dX4_makerCount_15 rfl ?_
      refine sg_V1 dX4_makerCount_16 cv_X4_36 hq (c_makerAt _ hn h) (Nat.le_of_ble_eq_true rfl) (Nat.le_of_ble_eq_true rfl) (Nat.le_of_ble_eq_true rfl) (Nat.le_of_ble_eq_true rfl) (fun r9 M9 hp => ?_)
      obtain ⟨e1, e2⟩ := hp
      rw [sm_at1 hn (by omega)] at e1
      subst e1
      rw [e2]
      refine sg_ishl dX4_makerCount_19 ?_
      refine sg_ior dX4_makerCount_20 ?_
      refine sg_istore_n dX4_makerCount_21 (by decide) ?_
      refine sg_iinc _ dX4_makerCount_22 rfl (sm_inc t) (by decide) ?_
      refine sg_goto 4 dX4_makerCount_25 (by decide) ?_
      exact ih (t + 1) (by omega)
theorem c_makerCount {q g m n : Nat} {fg fm : Nat → Int32} {ow nm : Int32} (hn : n ≤ 80) (h : sm_st M q g m n fg fm ow nm) : sm_Ct l b D cA yX4_makerCount cX4_makerCount 3 (some .int) 2 0 0 [.ref q] M (fun r M1 => r = some (.int (sm_bc (sm_seen fm n))) ∧ M1 = M) := by
  refine sm_enter (by decide +kernel) rfl (fun _ => Nat.le_of_ble_eq_true rfl) ?_
  refine sg_iconst 0 dX4_makerCount_0 (by decide) ?_
  refine sg_istore_n dX4_makerCount_1 (by decide) ?_
  refine sg_iconst 0 dX4_makerCount_2 (by decide) ?_
  refine sg_istore_n dX4_makerCount_3 (by decide) ?_
  exact lp_makerCount hn h ⟨rfl, rfl⟩ n 0 (by omega)
theorem lp_tally {q g m n w : Nat} {fg fm f : Nat → Int32} {ow nm gr : Int32} {Post : Option Value → sm_M → Prop} (hn : n ≤ 80) (h : sm_st M q g m n fg fm ow nm) (hw : w ∉ [q, g, m])
    (hP : ∀ M1 : sm_M, sm_ex M M1 [w] → M1[w]? = some (sm_i 10 (sm_tal fg fm gr f n)) → Post none M1) :
    ∀ (r t : Nat) (L4 : Option Value) (M1 : sm_M), t + r = n → sm_ex M M1 [w] → M1[w]? = some (sm_i 10 (sm_tal fg fm gr f t)) → sm_G l b D cA yX4_tallyMakersBelow cX4_tallyMakersBelow 5 none 2 0 0 Post 0 0 2 [some (.ref q), some (.int gr), some (.ref w), some (.int (nI t)), L4] [] M1 := by
  intro r
  induction r with
  | zero =>
    intro t L4 M1 ht hx hf
    have e : t = n := by omega
    subst e
    obtain ⟨hq, hg, hm⟩ := h.ex hx (fun z => hw (by simp [List.mem_singleton.mp z])) (fun z => hw (by simp [List.mem_singleton.mp z])) (fun z => hw (by simp [List.mem_singleton.mp z]))
    refine sg_iload_n dX4_tallyMakersBelow_2 rfl ?_
    refine sg_aload_n dX4_tallyMakersBelow_3 rfl ?_
    refine sg_get dX4_tallyMakersBelow_4 fl_X4_18 (by first | rfl | assumption) rfl ?_
    refine sg_icmp_ge 52 dX4_tallyMakersBelow_7 (by decide) (fun c => ?_) (fun c => ?_)
    · refine sg_return dX4_tallyMakersBelow_52 rfl (Nat.le_of_ble_eq_true rfl) (Nat.le_of_ble_eq_true rfl) ?_
      exact hP M1 hx hf
    · exact absurd (nI_le (Nat.le_refl _) (by omega)) c
  | succ r ih =>
    intro t L4 M1 ht hx hf
    have hs := h.ex hx (fun z => hw (by simp [List.mem_singleton.mp z])) (fun z => hw (by simp [List.mem_singleton.mp z])) (fun z => hw (by simp [List.mem_singleton.mp z]))
    obtain ⟨hq, hg, hm⟩ := id hs
    have hstep : sm_tal fg fm gr f (t + 1) = sm_tal1 fg fm gr t (sm_tal fg fm gr f t) := rfl
    have ih2 := ih (t + 1) (some (.int (fm t)))
    rw [hstep] at ih2
    unfold sm_tal1 at ih2
    refine sg_iload_n dX4_tallyMakersBelow_2 rfl ?_
    refine sg_aload_n dX4_tallyMakersBelow_3 rfl ?_
    refine sg_get dX4_tallyMakersBelow_4 fl_X4_18 (by first | rfl | assumption) rfl ?_
    refine sg_icmp_ge 52 dX4_tallyMakersBelow_7 (by decide) (fun c => ?_) (fun c => ?_)
    · exact absurd c (nI_ge (by omega) (by omega))
    · refine sg_aload_n dX4_tallyMakersBelow_10 rfl ?_
      refine sg_iload_n dX4_tallyMakersBelow_11 rfl ?_
      refine sg_V1 dX4_tallyMakersBelow_12 cv_X4_36 hq (c_makerAt _ hn hs) (Nat.le_of_ble_eq_true rfl) (Nat.le_of_ble_eq_true rfl) (Nat.le_of_ble_eq_true rfl) (Nat.le_of_ble_eq_true rfl) (fun r9 M9 hp => ?_)
      obtain ⟨e1, e2⟩ := hp
      rw [sm_at1 hn (by omega)] at e1
      subst e1
      rw [e2]
      refine sg_istore dX4_tallyMakersBelow_15 (by decide) ?_
      refine sg_aload_n dX4_tallyMakersBelow_17 rfl ?_
      refine sg_iload_n dX4_tallyMakersBelow_18 rfl ?_
      refine sg_V1 dX4_tallyMakersBelow_19 cv_X4_32 hq (c_gradeAt _ hn hs) (Nat.le_of_ble_eq_true rfl) (Nat.le_of_ble_eq_true rfl) (Nat.le_of_ble_eq_true rfl) (Nat.le_of_ble_eq_true rfl) (fun r9 M9 hp => ?_)
      obtain ⟨e1, e2⟩ := hp
      rw [sm_at1 hn (by omega)] at e1
      subst e1
      rw [e2]
      refine sg_iload_n dX4_tallyMakersBelow_22 rfl ?_
      refine sg_icmp_ge 46 dX4_tallyMakersBelow_23 (by decide) (fun c2 => ?_) (fun c2 => ?_)
      · rw [if_neg (fun h => absurd c2 (Int32.not_le.mpr h.1))] at ih2
        refine sg_iinc _ dX4_tallyMakersBelow_46 rfl (sm_inc t) (by decide) ?_
        refine sg_goto 2 dX4_tallyMakersBelow_49 (by decide) ?_
        exact ih2 M1 (by omega) hx hf
      · refine sg_iload dX4_tallyMakersBelow_26 rfl ?_
        refine sg_if_lt 46 dX4_tallyMakersBelow_28 (by decide) (fun c3 => ?_) (fun c3 => ?_)
        · simp only [Int32.lt_iff_toInt_lt, ti_0] at c3
          rw [if_neg (by omega)] at ih2
          refine sg_iinc _ dX4_tallyMakersBelow_46 rfl (sm_inc t) (by decide) ?_
          refine sg_goto 2 dX4_tallyMakersBelow_49 (by decide) ?_
          exact ih2 M1 (by omega) hx hf
        · simp only [Int32.lt_iff_toInt_lt, ti_0] at c3
          refine sg_iload dX4_tallyMakersBelow_31 rfl ?_
          refine sg_aload_n dX4_tallyMakersBelow_33 rfl ?_
          refine sg_alen dX4_tallyMakersBelow_34 (by first | rfl | assumption) ?_
          refine sg_icmp_ge 46 dX4_tallyMakersBelow_35 (by decide) (fun c4 => ?_) (fun c4 => ?_)
          · rw [Int32.le_iff_toInt_le, nI_toInt (by decide)] at c4
            rw [if_neg (by omega)] at ih2
            refine sg_iinc _ dX4_tallyMakersBelow_46 rfl (sm_inc t) (by decide) ?_
            refine sg_goto 2 dX4_tallyMakersBelow_49 (by decide) ?_
            exact ih2 M1 (by omega) hx hf
          · rw [Int32.le_iff_toInt_le, nI_toInt (by decide)] at c4
            rw [if_pos ⟨Int32.not_le.mp c2, by omega, by omega⟩] at ih2
            refine sg_aload_n dX4_tallyMakersBelow_38 rfl ?_
            refine sg_iload dX4_tallyMakersBelow_39 rfl ?_
            refine sg_dup2 dX4_tallyMakersBelow_41 rfl rfl ?_
            refine sg_ald ((fm t).toInt.toNat) dX4_tallyMakersBelow_42 (by first | rfl | assumption) (sm_asN (by omega)) (by omega) (by decide) ?_
            refine sg_iconst 1 dX4_tallyMakersBelow_43 (by decide) ?_
            refine sg_iadd dX4_tallyMakersBelow_44 ?_
            refine sg_astx (fm t).toInt.toNat dX4_tallyMakersBelow_45 hf (sm_asN (by omega)) (by omega) (by decide) (fun M2 hx2 hf2 => ?_)
            refine sg_iinc _ dX4_tallyMakersBelow_46 rfl (sm_inc t) (by decide) ?_
            refine sg_goto 2 dX4_tallyMakersBelow_49 (by decide) ?_
            exact ih2 M2 (by omega) (hx.tr hx2) hf2
theorem c_tally {q g m n w : Nat} {fg fm f : Nat → Int32} {ow nm : Int32} (gr : Int32) (hn : n ≤ 80) (h : sm_st M q g m n fg fm ow nm) (hw : w ∉ [q, g, m]) (hf : M[w]? = some (sm_i 10 f)) : sm_Ct l b D cA yX4_tallyMakersBelow cX4_tallyMakersBelow 5 none 2 0 0 [.ref q, .int gr, .ref w] M (fun r M1 => r = none ∧ sm_ex M M1 [w] ∧ M1[w]? = some (sm_i 10 (sm_tal fg fm gr f n))) := by
  refine sm_enter (by decide +kernel) rfl (fun _ => Nat.le_of_ble_eq_true rfl) ?_
  refine sg_iconst 0 dX4_tallyMakersBelow_0 (by decide) ?_
  refine sg_istore_n dX4_tallyMakersBelow_1 (by decide) ?_
  exact lp_tally (M := M) hn h hw (fun M1 h1 h2 => ⟨rfl, h1, h2⟩) n 0 _ M (by omega) sm_ex.rf hf
/-- what was there stays but at zs; more may have come -/
def sm_gx (M M1 : sm_M) (zs : List Nat) : Prop := M.length ≤ M1.length ∧ ∀ z, z < M.length → z ∉ zs → M1[z]? = M[z]?
theorem sm_ex.gx {M M1 : sm_M} {zs : List Nat} (h : sm_ex M M1 zs) : sm_gx M M1 zs := ⟨Nat.le_of_eq h.1.symm, fun z _ hz => h.2 z hz⟩
theorem sm_gx.tr {M M1 M2 : sm_M} {zs : List Nat} (h1 : sm_gx M M1 zs) (h2 : sm_gx M1 M2 zs) : sm_gx M M2 zs := ⟨Nat.le_trans h1.1 h2.1, fun z hl hz => (h2.2 z (Nat.lt_of_lt_of_le hl h1.1) hz).trans (h1.2 z hl hz)⟩
theorem sm_gx.mono {M M1 : sm_M} {zs ys : List Nat} (h : sm_gx M M1 zs) (hs : ∀ z ∈ zs, z ∈ ys) : sm_gx M M1 ys := ⟨h.1, fun z hl hz => h.2 z hl (fun q => hz (hs z q))⟩
theorem sm_gx.at {M M1 : sm_M} {zs : List Nat} {z : Nat} {x : Option sm_C} (h : sm_gx M M1 zs) (hz : M[z]? = some x) (hn : z ∉ zs) : M1[z]? = some x := (h.2 z (List.getElem?_eq_some_iff.mp hz).1 hn).trans hz
theorem sm_gx.push {M : sm_M} {x : Option sm_C} : sm_gx M (M ++ [x]) [] := ⟨by simp, fun z hl _ => List.getElem?_append_left hl⟩
theorem sm_push_at {M : sm_M} {x : Option sm_C} : (M ++ [x])[M.length]? = some x := by simp
section SMN
variable {y : MethodName} {cc : ByteArray} {nL : Nat} {ret : Option FieldType} {fr mc ms : Nat} {Post : Option Value → sm_M → Prop} {k n pc : Nat} {L : List (Option Value)} {st : List Value}
theorem sg_newax {i : Int32} (N : Nat) (hd : decode cc pc = .ok (.newarray .int, 2)) (ha : Cond.arrayClass .int ∈ sm_tb) (hi : i = nI N) (hN : N < 100000) (hk1 : k + 1 ≤ mc) (hn1 : n + N ≤ ms) (h : ∀ M1 : sm_M, M1.length = M.length + 1 → sm_gx M M1 [] → M1[M.length]? = some (sm_i N (fun _ => 0)) → sm_G l b D cA y cc nL ret fr mc ms Post (k + 1) (n + N) (pc + 2) L (.ref M.length :: st) M1) : sm_G l b D cA y cc nL ret fr mc ms Post k n pc L (.int i :: st) M := sg_newa N hd ha hi hN hk1 hn1 (h _ (by simp) sm_gx.push sm_push_at)
theorem sg_putFrx {idx ci kk q N v : Nat} {C : String} {T : u_T} {fs : List Value} {ty : FieldType} (hd : decode cc pc = .ok (.putfield idx, 3)) (hf : sm_FL y.cls idx ci kk C T N) (ht : sm_FT kk ty true T N) (hn : ∀ a : Nat, narrow ty (.ref a) = .ref a ∧ fits ty (.ref a) = true) (hfl : Cond.fieldLink y.cls idx C (T kk).2.1 (T kk).2.2.1 ∈ sm_tb) (hdc : C = y.cls) (hnm0 : y.name = "<init>") (hM : M[q]? = some (sm_o ci fs)) (hl : kk < fs.length) (h : ∀ M1 : sm_M, sm_ex M M1 [q] → M1[q]? = some (sm_o ci (fs.set kk (.ref v))) → sm_G l b D cA y cc nL ret fr mc ms Post k n (pc + 3) L st M1) : sm_G l b D cA y cc nL ret fr mc ms Post k n pc L (.ref v :: .ref q :: st) M := sg_putFr hd hf ht hn hfl hdc hnm0 hM hl (h _ sm_ex.set (sm_gs hM))
end SMN
/-- Strand(owner): two new rows of 80; the object at q was made before -/
theorem c_Strand {q : Nat} (ow : Int32) (hq : M[q]? = some (sm_o 4 [.null, .null, .int 0, .int 0, .int 0])) : sm_Ct l b D cA yX4_init cX4_init 2 none 1 2 160 [.ref q, .int ow] M (fun r M1 => r = none ∧ M1.length = M.length + 2 ∧ sm_gx M M1 [q] ∧ sm_st M1 q M.length (M.length + 1) 0 (fun _ => 0) (fun _ => 0) ow 0) := by
  have hlt : q < M.length := (List.getElem?_eq_some_iff.mp hq).1
  refine sm_enter (by decide +kernel) rfl (fun _ => Nat.le_of_ble_eq_true rfl) ?_
  refine sg_aload_n dX4_init_0 rfl ?_
  refine sg_objInit dX4_init_1 oi_X4 oi_m oi_c (Nat.le_of_ble_eq_true rfl) (Nat.le_of_ble_eq_true rfl) ?_
  refine sg_aload_n dX4_init_4 rfl ?_
  refine sg_bipush 80 dX4_init_5 (by decide) ?_
  refine sg_newax 80 dX4_init_7 arr_i (by decide) (by decide) (Nat.le_of_ble_eq_true rfl) (Nat.le_of_ble_eq_true rfl) (fun M1 l1 x1 g1 => ?_)
  have q1 := x1.at hq (by simp)
  refine sg_putFrx dX4_init_9 fl_X4_9 ft_X4_0 (fun _ => ⟨rfl, rfl⟩) fi_X4_9 rfl rfl q1 (Nat.le_of_ble_eq_true rfl) (fun M2 x2 q2 => ?_)
  have g2 := (x2.2 M.length (by simp; omega)).trans g1
  have l2 := x2.1.trans l1
  refine sg_aload_n dX4_init_12 rfl ?_
  refine sg_bipush 80 dX4_init_13 (by decide) ?_
  refine sg_newax 80 dX4_init_15 arr_i (by decide) (by decide) (Nat.le_of_ble_eq_true rfl) (Nat.le_of_ble_eq_true rfl) (fun M3 l3 x3 m3 => ?_)
  have q3 := x3.at q2 (by simp)
  have g3 := x3.at g2 (by simp)
  rw [l2] at m3 ⊢
  refine sg_putFrx dX4_init_17 fl_X4_15 ft_X4_1 (fun _ => ⟨rfl, rfl⟩) fi_X4_15 rfl rfl q3 (Nat.le_of_ble_eq_true rfl) (fun M4 x4 q4 => ?_)
  have g4 := (x4.2 M.length (by simp; omega)).trans g3
  have m4 := (x4.2 (M.length + 1) (by simp; omega)).trans m3
  refine sg_aload_n dX4_init_20 rfl ?_
  refine sg_iconst 0 dX4_init_21 (by decide) ?_
  refine sg_putx dX4_init_22 fl_X4_18 ft_X4_2 q4 (Nat.le_of_ble_eq_true rfl) (fun M5 x5 q5 => ?_)
  refine sg_aload_n dX4_init_25 rfl ?_
  refine sg_iconst 0 dX4_init_26 (by decide) ?_
  refine sg_putx dX4_init_27 fl_X4_22 ft_X4_4 q5 (Nat.le_of_ble_eq_true rfl) (fun M6 x6 q6 => ?_)
  refine sg_aload_n dX4_init_30 rfl ?_
  refine sg_iload_n dX4_init_31 rfl ?_
  refine sg_putx dX4_init_32 fl_X4_25 ft_X4_3 q6 (Nat.le_of_ble_eq_true rfl) (fun M7 x7 q7 => ?_)
  have x47 := (x5.tr x6).tr x7
  refine sg_return dX4_init_35 rfl (Nat.le_of_ble_eq_true rfl) (Nat.le_of_ble_eq_true rfl) ?_
  refine ⟨rfl, by rw [x47.1, x4.1, l3, l2], ?_, q7, (x47.2 _ (by simp; omega)).trans g4, (x47.2 _ (by simp; omega)).trans m4⟩
  exact (x1.mono (by simp)).tr ((x2.gx.mono (by simp)).tr ((x3.mono (by simp)).tr ((x4.gx.mono (by simp)).tr (x47.gx.mono (by simp)))))
end SM23
