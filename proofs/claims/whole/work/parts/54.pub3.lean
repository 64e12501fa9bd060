/-! ShellMoney: string, cut, join -/
theorem sm_X.gx {M M1 : sm_M} {c dc : Nat} {cu it yr : Int32} {sa da : Nat → Option Nat} {zs : List Nat} (h : sm_X M c dc cu it yr sa da) (hx : sm_gx M M1 zs) (hz : ∀ z ∈ [0, 1, 16], z ∉ zs) : sm_X M1 c dc cu it yr sa da := ⟨hx.at h.1 (hz 0 (by decide)), hx.at h.2.1 (hz 1 (by decide)), hx.at h.2.2 (hz 16 (by decide))⟩
theorem sm_rates.gx {M M1 : sm_M} {fr fb ff fd : Nat → Int32} {fame : Int32} {zs : List Nat} (h : sm_rates M fr fb ff fd fame) (hx : sm_gx M M1 zs) (hz : ∀ z ∈ [3, 4, 5, 6, 7], z ∉ zs) : sm_rates M1 fr fb ff fd fame := by
  obtain ⟨h3, h4, h5, h6, h7⟩ := h
  exact ⟨hx.at h3 (hz 3 (by decide)), hx.at h4 (hz 4 (by decide)), hx.at h5 (hz 5 (by decide)), hx.at h6 (hz 6 (by decide)), hx.at h7 (hz 7 (by decide))⟩
theorem sm_t5.gx {M M1 : sm_M} {τ : sm_T5} {zs : List Nat} (h : sm_t5 M τ) (hx : sm_gx M M1 zs) (hz : ∀ z ∈ [8, 9, 10, 11, 12], z ∉ zs) : sm_t5 M1 τ := ⟨hx.at h.1 (hz 8 (by decide)), hx.at h.2.1 (hz 9 (by decide)), hx.at h.2.2.1 (hz 10 (by decide)), hx.at h.2.2.2.1 (hz 11 (by decide)), hx.at h.2.2.2.2 (hz 12 (by decide))⟩
theorem sm_st.gx {M M1 : sm_M} {q g m c : Nat} {fg fm : Nat → Int32} {ow nm : Int32} {zs : List Nat} (h : sm_st M q g m c fg fm ow nm) (hx : sm_gx M M1 zs) (h1 : q ∉ zs) (h2 : g ∉ zs) (h3 : m ∉ zs) : sm_st M1 q g m c fg fm ow nm := ⟨hx.at h.1 h1, hx.at h.2.1 h2, hx.at h.2.2 h3⟩
theorem sm_nin1 {a x : Nat} (h : a ≠ x) : a ∉ [x] := fun e => h (List.mem_singleton.mp e)
section SM54
variable {l : Launch} {b : Nat} {D : va_G} {cA : Nat → ClassId} {M : sm_M}
variable {c dc : Nat} {cu it yr fame : Int32} {sa da : Nat → Option Nat} {sid ln js did hb : Nat → Nat} {fg fm : Nat → Nat → Int32} {ow nm : Nat → Int32} {r1 r2 r3 r4 : Nat → Int32} {τ : sm_T5}
theorem sg_newx {y : MethodName} {cc : ByteArray} {nL : Nat} {ret : Option FieldType} {fr mc ms : Nat} {Post : Option Value → sm_M → Prop} {k n pc : Nat} {L : List (Option Value)} {st : List Value} {idx ci N : Nat} {C : String} {T : u_T} {fs : List Value} {ty : Nat → FieldType} (hd : decode cc pc = .ok (.new idx, 3)) (hc : vwCl[ci]? = some (C, T, N)) (hin : ∀ w ∈ u_ws C T N, w ∈ sm_tb) (hty : ∀ k, k < N → parseFieldDescriptor (T k).2.2.1 = some (ty k)) (hcl : Cond.classLink y.cls idx C ∈ sm_tb) (hinst : Cond.instantiable C N ∈ sm_tb) (hini : Cond.initialized C ∈ sm_tb) (hfs : ∀ b : Nat, ∀ j, j < N → defaultValue (ty j) = vp_V (fs.map (sm_s b)) j) (hk1 : k + 1 ≤ mc) (hn1 : n + N ≤ ms) (h : ∀ M1 : sm_M, M1.length = M.length + 1 → sm_gx M M1 [] → M1[M.length]? = some (sm_o ci fs) → sm_G l b D cA y cc nL ret fr mc ms Post (k + 1) (n + N) (pc + 3) L (.ref M.length :: st) M1) : sm_G l b D cA y cc nL ret fr mc ms Post k n pc L st M := sg_new hd hc hin hty hcl hinst hini hfs hk1 hn1 (h _ (by simp) sm_gx.push sm_push_at)
theorem sm_dfS : ∀ b : Nat, ∀ j, j < 5 → defaultValue (tyX4 j) = vp_V (([.null, .null, .int 0, .int 0, .int 0] : List Value).map (sm_s b)) j := fun b j hj => by
  rcases (show j = 0 ∨ j = 1 ∨ j = 2 ∨ j = 3 ∨ j = 4 by omega) with rfl | rfl | rfl | rfl | rfl <;> rfl
theorem c_string (o g m n : Int32) (h41 : 41 ≤ M.length) (hc : c ≤ 40) (hX : sm_X M c dc cu it yr sa da) (hr : sm_rates M r1 r2 r3 r4 fame) : sm_Ct l b D cA yX6_string cX6_string 6 (some .int) 2 3 165 [.ref 0, .int o, .int g, .int m, .int n] M (fun r M1 => (((0 ≤ o.toInt ∧ o.toInt < 10) ∧ sm_bok g m n ∧ c < 40) → r = some (.int (nI c)) ∧ M1.length = M.length + 3 ∧ sm_gx M M1 [0, 1, 7] ∧ sm_X M1 (c + 1) dc cu it yr (va_up sa c (some M.length)) da ∧ sm_st M1 M.length (M.length + 1) (M.length + 2) n.toInt.toNat (fun j => if 0 ≤ j ∧ j < 0 + n.toInt.toNat then g else 0) (fun j => if 0 ≤ j ∧ j < 0 + n.toInt.toNat then m else 0) o 0 ∧ sm_rates M1 r1 r2 r3 (upd r4 g.toInt.toNat (r4 g.toInt.toNat + n)) fame) ∧ (¬ ((0 ≤ o.toInt ∧ o.toInt < 10) ∧ sm_bok g m n ∧ c < 40) → r = some (.int (-1)) ∧ M1 = M)) := by
  have h0 := hX.1
  refine sm_enter (by decide +kernel) rfl (fun _ => Nat.le_of_ble_eq_true rfl) ?_
  refine sg_iload_n dX6_string_0 rfl ?_
  refine sg_S1 dX6_string_1 cs_X6_69 (c_isOwner _) (Nat.le_of_ble_eq_true rfl) (Nat.le_of_ble_eq_true rfl) (Nat.le_of_ble_eq_true rfl) (Nat.le_of_ble_eq_true rfl) (fun r M1 hp => ?_)
  obtain ⟨rfl, e9⟩ := hp; rw [e9]
  refine sg_bf_eq 26 dX6_string_4 (by decide) (fun c1 => ?_) (fun c1 => ?_)
  · refine sg_iconst (-1) dX6_string_26 (by decide) ?_
    refine sg_ireturn dX6_string_27 rfl (Nat.le_of_ble_eq_true rfl) (Nat.le_of_ble_eq_true rfl) ?_
    exact ⟨fun q => absurd q.1 c1, fun _ => ⟨rfl, rfl⟩⟩
  · refine sg_iload_n dX6_string_7 rfl ?_
    refine sg_iload_n dX6_string_8 rfl ?_
    refine sg_iload dX6_string_9 rfl ?_
    refine sg_S3 dX6_string_11 cs_X6_73 (c_areBeads _ _ _) (Nat.le_of_ble_eq_true rfl) (Nat.le_of_ble_eq_true rfl) (Nat.le_of_ble_eq_true rfl) (Nat.le_of_ble_eq_true rfl) (fun r M1 hp => ?_)
    obtain ⟨rfl, e9⟩ := hp; rw [e9]
    refine sg_bf_eq 26 dX6_string_14 (by decide) (fun c2 => ?_) (fun c2 => ?_)
    · refine sg_iconst (-1) dX6_string_26 (by decide) ?_
      refine sg_ireturn dX6_string_27 rfl (Nat.le_of_ble_eq_true rfl) (Nat.le_of_ble_eq_true rfl) ?_
      exact ⟨fun q => absurd q.2.1 c2, fun _ => ⟨rfl, rfl⟩⟩
    · refine sg_aload_n dX6_string_17 rfl ?_
      refine sg_get dX6_string_18 fl_X6_15 (by first | rfl | assumption) rfl ?_
      refine sg_bipush 40 dX6_string_21 (by decide) ?_
      refine sg_icmp_lt 28 dX6_string_23 (by decide) (fun c3 => ?_) (fun c3 => ?_)
      · rw [Int32.lt_iff_toInt_lt, nI_toInt (by omega), ti_40] at c3
        have hnn : n = nI n.toInt.toNat := sm_asN (by omega)
        refine sg_newx (fs := [.null, .null, .int 0, .int 0, .int 0]) dX6_string_28 (ci := 4) rfl inTX4 tyX4_ok cl_X6_9 it_X4 id_X4 sm_dfS (Nat.le_of_ble_eq_true rfl) (Nat.le_of_ble_eq_true rfl) (fun M1 l1 x1 q1 => ?_)
        refine sg_dup dX6_string_31 rfl ?_
        refine sg_iload_n dX6_string_32 rfl ?_
        refine sg_I1 dX6_string_33 ci_X6_77 (c_Strand o q1) (Nat.le_of_ble_eq_true rfl) (Nat.le_of_ble_eq_true rfl) (Nat.le_of_ble_eq_true rfl) (Nat.le_of_ble_eq_true rfl) (fun r9 M2 hp => ?_)
        obtain ⟨rfl, l2, x2, s2⟩ := hp
        rw [l1] at l2 s2
        have q2 := s2.1
        refine sg_astore dX6_string_36 (by decide) ?_
        refine sg_aload dX6_string_38 rfl ?_
        refine sg_iload_n dX6_string_40 rfl ?_
        refine sg_iload_n dX6_string_41 rfl ?_
        refine sg_iload dX6_string_42 rfl ?_
        refine sg_V3 dX6_string_44 cv_X6_80 q2 (c_append n.toInt.toNat hnn (by omega) (by omega) s2) (Nat.le_of_ble_eq_true rfl) (Nat.le_of_ble_eq_true rfl) (Nat.le_of_ble_eq_true rfl) (Nat.le_of_ble_eq_true rfl) (fun r9 M3 hp => ?_)
        obtain ⟨rfl, x3, s3⟩ := hp
        have y3 : sm_gx M M3 [M.length, M.length + 1, M.length + 2] := (x1.mono (by simp)).tr ((x2.mono (by simp)).tr x3.gx)
        have R3 := hr.gx y3 (fun z hz e => by
          simp only [List.mem_cons, List.not_mem_nil, or_false] at hz e
          omega)
        have X3 := hX.gx y3 (fun z hz e => by
          simp only [List.mem_cons, List.not_mem_nil, or_false] at hz e
          omega)
        have k0 := X3.1
        have k3 := R3.1
        refine sg_aload_n dX6_string_47 rfl ?_
        refine sg_get dX6_string_48 fl_X6_26 (by first | rfl | assumption) rfl ?_
        refine sg_iload_n dX6_string_51 rfl ?_
        refine sg_iload dX6_string_52 rfl ?_
        refine sg_V2 dX6_string_54 cv_X6_84 k3 (c_flowIn g.toInt.toNat n (sm_toN (c := 5) c2.1).1 (sm_toN (c := 5) c2.1).2 R3) (Nat.le_of_ble_eq_true rfl) (Nat.le_of_ble_eq_true rfl) (Nat.le_of_ble_eq_true rfl) (Nat.le_of_ble_eq_true rfl) (fun r9 M4 hp => ?_)
        obtain ⟨rfl, e4⟩ := hp
        have x4 : sm_ex M3 M4 [7] := by
          rw [e4]
          exact sm_ex.set
        have g7 : M4[7]? = some (sm_i 5 (upd r4 g.toInt.toNat (r4 g.toInt.toNat + n))) := by
          rw [e4]
          exact sm_gs R3.2.2.2.2
        clear e4
        have s4 := s3.ex x4 (sm_nin1 (by omega)) (sm_nin1 (by omega)) (sm_nin1 (by omega))
        have q4 := s4.1
        have X4 := X3.ex x4 (by decide)
        have z0 := X4.1
        have R4 : sm_rates M4 r1 r2 r3 (upd r4 g.toInt.toNat (r4 g.toInt.toNat + n)) fame := ⟨(x4.2 3 (by decide)).trans R3.1, (x4.2 4 (by decide)).trans R3.2.1, (x4.2 5 (by decide)).trans R3.2.2.1, (x4.2 6 (by decide)).trans R3.2.2.2.1, g7⟩
        refine sg_aload_n dX6_string_57 rfl ?_
        refine sg_aload dX6_string_58 rfl ?_
        refine sg_V1 dX6_string_60 cv_X6_88 z0 (c_keepStrand (by omega) q4 X4) (Nat.le_of_ble_eq_true rfl) (Nat.le_of_ble_eq_true rfl) (Nat.le_of_ble_eq_true rfl) (Nat.le_of_ble_eq_true rfl) (fun r9 M5 hp => ?_)
        obtain ⟨rfl, x5, X5⟩ := hp
        have s5 := s4.ex x5 (fun e => by simp only [List.mem_cons, List.not_mem_nil, or_false] at e; omega) (fun e => by simp only [List.mem_cons, List.not_mem_nil, or_false] at e; omega) (fun e => by simp only [List.mem_cons, List.not_mem_nil, or_false] at e; omega)
        rw [Nat.zero_add] at s5
        refine sg_ireturn dX6_string_63 rfl (Nat.le_of_ble_eq_true rfl) (Nat.le_of_ble_eq_true rfl) ?_
        refine ⟨fun _ => ⟨rfl, by rw [x5.1, x4.1, x3.1, l2], ?_, X5, ?_, R4.ex x5 (by decide)⟩, fun q => absurd ⟨c1, c2, by omega⟩ q⟩
        · refine ⟨by rw [x5.1, x4.1, x3.1, l2]; omega, fun z hz hn => ?_⟩
          simp only [List.mem_cons, List.not_mem_nil, or_false, not_or] at hn
          rw [x5.2 z (by simp only [List.mem_cons, List.not_mem_nil, or_false]; omega), x4.2 z (sm_nin1 (by omega))]
          exact y3.2 z hz (by simp only [List.mem_cons, List.not_mem_nil, or_false]; omega)
        · rw [Nat.zero_add]
          exact s5
      · rw [Int32.lt_iff_toInt_lt, nI_toInt (by omega), ti_40] at c3
        refine sg_iconst (-1) dX6_string_26 (by decide) ?_
        refine sg_ireturn dX6_string_27 rfl (Nat.le_of_ble_eq_true rfl) (Nat.le_of_ble_eq_true rfl) ?_
        exact ⟨fun q => absurd q.2.2 (by omega), fun _ => ⟨rfl, rfl⟩⟩
end SM54
