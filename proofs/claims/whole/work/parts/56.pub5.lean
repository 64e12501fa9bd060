/-! ShellMoney: set, the chosen ones, pay, serves -/
theorem va_up_id {α : Type} (f : Nat → α) (k : Nat) : va_up f k (f k) = f := by
  funext j
  unfold va_up
  by_cases h : j = k
  · rw [if_pos h, h]
  · rw [if_neg h]
/-- one strand is changed, the others stay -/
theorem sm_S.up {M M1 : sm_M} {c p n : Nat} {sa : Nat → Option Nat} {sid ln : Nat → Nat} {fg fm : Nat → Nat → Int32} {ow nm : Nat → Int32} {zs : List Nat} {g1 m1 : Nat → Int32} {o a : Int32} (h : sm_S M c sa sid ln fg fm ow nm) (hsp : ∀ j k, j < c → k < c → j ≠ k → sid j + 3 ≤ sid k ∨ sid k + 3 ≤ sid j) (hp : p < c) (hx : sm_ex M M1 zs) (hz : ∀ z ∈ zs, z < 41 ∨ (sid p ≤ z ∧ z ≤ sid p + 2)) (hs : sm_st M1 (sid p) (sid p + 1) (sid p + 2) n g1 m1 o a) (hn : n ≤ 80) : sm_S M1 c sa sid (va_up ln p n) (va_up fg p g1) (va_up fm p m1) (va_up ow p o) (va_up nm p a) := fun k hk => by
  by_cases e : k = p
  · subst e
    rw [va_up_self, va_up_self, va_up_self, va_up_self, va_up_self]
    exact ⟨(h k hk).1, hs, hn, (h k hk).2.2.2⟩
  · rw [va_up_ne _ _ e, va_up_ne _ _ e, va_up_ne _ _ e, va_up_ne _ _ e, va_up_ne _ _ e]
    obtain ⟨a1, s1, n1, q1⟩ := h k hk
    have h2 := hsp k p hk hp e
    exact ⟨a1, s1.ex hx (fun q => by have := hz _ q; omega) (fun q => by have := hz _ q; omega) (fun q => by have := hz _ q; omega), n1, q1⟩
/-- how many of the chosen strands are named -/
def sm_need (s : Nat) (num : Nat → Nat) (nm : Nat → Int32) : Nat → Nat
  | 0 => 0
  | k + 1 => sm_need s num nm k + (if s.testBit k then (if nm (num k) = 0 then 0 else 1) else 0)
def sm_hoO (s : Nat) (num : Nat → Nat) (to : Int32) (ow : Nat → Int32) : Nat → Nat → Int32
  | 0 => ow
  | k + 1 => if s.testBit k then va_up (sm_hoO s num to ow k) (num k) to else sm_hoO s num to ow k
def sm_hoT (s : Nat) (num : Nat → Nat) (nm : Nat → Int32) (to yr : Int32) (τ : sm_T5) : Nat → sm_T5
  | 0 => τ
  | k + 1 => if s.testBit k then sm_sayIf (nm (num k)) 2 to yr (sm_hoT s num nm to yr τ k) else sm_hoT s num nm to yr τ k
theorem sm_need_le (s : Nat) (num : Nat → Nat) (nm : Nat → Int32) : ∀ k, sm_need s num nm k ≤ k
  | 0 => Nat.le_refl 0
  | k + 1 => by
    have ih := sm_need_le s num nm k
    unfold sm_need
    split
    · split <;> omega
    · omega
theorem sm_need_mono (s : Nat) (num : Nat → Nat) (nm : Nat → Int32) {a b : Nat} (h : a ≤ b) : sm_need s num nm a ≤ sm_need s num nm b := by
  induction b with
  | zero => rw [Nat.le_zero.mp h]; exact Nat.le_refl _
  | succ b ih =>
    rcases Nat.lt_or_ge b a with e | e
    · rw [show a = b + 1 from by omega]
      exact Nat.le_refl _
    · have := ih e
      rw [show sm_need s num nm (b + 1) = sm_need s num nm b + (if s.testBit b then (if nm (num b) = 0 then 0 else 1) else 0) from rfl]
      omega
theorem sm_hoT_len (s : Nat) (num : Nat → Nat) (nm : Nat → Int32) (to yr : Int32) (τ : sm_T5) : ∀ k, (sm_hoT s num nm to yr τ k).1 = τ.1 + sm_need s num nm k
  | 0 => rfl
  | k + 1 => by
    have ih := sm_hoT_len s num nm to yr τ k
    unfold sm_hoT sm_need sm_sayIf
    by_cases h : s.testBit k
    · rw [if_pos h, if_pos h]
      by_cases e : nm (num k) = 0
      · rw [if_pos e, if_pos e]
        exact ih
      · rw [if_neg e, if_neg e]
        show (sm_hoT s num nm to yr τ k).1 + 1 = _
        omega
    · rw [if_neg h, if_neg h]
      exact ih
theorem sm_filN_lt (ln : Nat → Nat) (ow : Nat → Int32) (o : Int32) : ∀ k j, j < sm_own ln ow o k → sm_filN ln ow o (fun i => i) k j < k
  | 0, j, hj => absurd hj (Nat.not_lt_zero j)
  | k + 1, j, hj => by
    have ih := sm_filN_lt ln ow o k
    rw [show sm_own ln ow o (k + 1) = sm_own ln ow o k + (if 0 < ln k ∧ ow k = o then 1 else 0) from rfl] at hj
    unfold sm_filN
    by_cases h : 0 < ln k ∧ ow k = o
    · rw [if_pos h] at hj
      rw [if_pos h]
      by_cases e : j = sm_own ln ow o k
      · rw [if_pos e]
        omega
      · rw [if_neg e]
        have := ih j (by omega)
        omega
    · rw [if_neg h] at hj
      rw [if_neg h]
      have := ih j hj
      omega
/-- the strands' objects and the cells ys alone are changed -/
def sm_exS (M M1 : sm_M) (c : Nat) (sid : Nat → Nat) (ys : List Nat) : Prop := M1.length = M.length ∧ ∀ z, z ∉ ys → (∀ k, k < c → z ≠ sid k) → M1[z]? = M[z]?
section SM56
variable {l : Launch} {b : Nat} {D : va_G} {cA : Nat → ClassId} {M : sm_M}
variable {c dc : Nat} {cu it yr fame : Int32} {sa da : Nat → Option Nat} {sid ln js did hb : Nat → Nat} {fg fm : Nat → Nat → Int32} {ow nm : Nat → Int32} {r1 r2 r3 r4 : Nat → Int32} {τ : sm_T5}
theorem c_set0 (g v : Int32) (hX : sm_X M c dc cu it yr sa da) (hr : sm_rates M r1 r2 r3 r4 fame) : sm_Ct l b D cA yX6_set cX6_set 4 (some .int) 1 0 0 [.ref 0, .int 0, .int g, .int v] M (fun r M1 => (((0 ≤ g.toInt ∧ g.toInt < 5) ∧ 1 ≤ v.toInt ∧ v.toInt ≤ 100) → r = some (.int (r1 g.toInt.toNat)) ∧ M1 = M.set 4 (sm_i 5 (upd r1 g.toInt.toNat v))) ∧ (¬ ((0 ≤ g.toInt ∧ g.toInt < 5) ∧ 1 ≤ v.toInt ∧ v.toInt ≤ 100) → r = some (.int (-1)) ∧ M1 = M)) := by
  have h0 := hX.1
  have h3 := hr.1
  have hq := hr.2.1
  refine sm_enter (by decide +kernel) rfl (fun _ => Nat.le_of_ble_eq_true rfl) ?_
  refine sg_iload_n dX6_set_0 rfl ?_
  refine sg_tableIn (off := 39) 40 dX6_set_1 (by decide) (by decide) (by decide +kernel) (by decide) ?_
  refine sg_aload_n dX6_set_40 rfl ?_
  refine sg_get dX6_set_41 fl_X6_26 (by first | rfl | assumption) rfl ?_
  refine sg_get dX6_set_44 fl_X6_175 (by first | rfl | assumption) rfl ?_
  refine sg_iload_n dX6_set_47 rfl ?_
  refine sg_iload_n dX6_set_48 rfl ?_
  refine sg_iconst 1 dX6_set_49 (by decide) ?_
  refine sg_bipush 100 dX6_set_50 (by decide) ?_
  refine sg_S5 dX6_set_52 cs_X6_178 (c_replaced g v 1 100 hq) (Nat.le_of_ble_eq_true rfl) (Nat.le_of_ble_eq_true rfl) (Nat.le_of_ble_eq_true rfl) (Nat.le_of_ble_eq_true rfl) (fun r9 M9 hp => ?_)
  simp only [ti_1, ti_100] at hp
  by_cases h : (0 ≤ g.toInt ∧ g.toInt < 5) ∧ 1 ≤ v.toInt ∧ v.toInt ≤ 100
  · obtain ⟨rfl, e9⟩ := hp.1 h
    refine sg_ireturn dX6_set_55 rfl (Nat.le_of_ble_eq_true rfl) (Nat.le_of_ble_eq_true rfl) ?_
    exact ⟨fun _ => ⟨rfl, e9⟩, fun q => absurd h q⟩
  · obtain ⟨rfl, e9⟩ := hp.2 h
    refine sg_ireturn dX6_set_55 rfl (Nat.le_of_ble_eq_true rfl) (Nat.le_of_ble_eq_true rfl) ?_
    exact ⟨fun q => absurd q h, fun _ => ⟨rfl, e9⟩⟩
theorem c_set1 (g v : Int32) (hX : sm_X M c dc cu it yr sa da) (hr : sm_rates M r1 r2 r3 r4 fame) : sm_Ct l b D cA yX6_set cX6_set 4 (some .int) 1 0 0 [.ref 0, .int 1, .int g, .int v] M (fun r M1 => (((0 ≤ g.toInt ∧ g.toInt < 5) ∧ 0 ≤ v.toInt ∧ v.toInt ≤ 500) → r = some (.int (r2 g.toInt.toNat)) ∧ M1 = M.set 5 (sm_i 5 (upd r2 g.toInt.toNat v))) ∧ (¬ ((0 ≤ g.toInt ∧ g.toInt < 5) ∧ 0 ≤ v.toInt ∧ v.toInt ≤ 500) → r = some (.int (-1)) ∧ M1 = M)) := by
  have h0 := hX.1
  have h3 := hr.1
  have hq := hr.2.2.1
  refine sm_enter (by decide +kernel) rfl (fun _ => Nat.le_of_ble_eq_true rfl) ?_
  refine sg_iload_n dX6_set_0 rfl ?_
  refine sg_tableIn (off := 55) 56 dX6_set_1 (by decide) (by decide) (by decide +kernel) (by decide) ?_
  refine sg_aload_n dX6_set_56 rfl ?_
  refine sg_get dX6_set_57 fl_X6_26 (by first | rfl | assumption) rfl ?_
  refine sg_get dX6_set_60 fl_X6_182 (by first | rfl | assumption) rfl ?_
  refine sg_iload_n dX6_set_63 rfl ?_
  refine sg_iload_n dX6_set_64 rfl ?_
  refine sg_iconst 0 dX6_set_65 (by decide) ?_
  refine sg_sipush 500 dX6_set_66 (by decide) ?_
  refine sg_S5 dX6_set_69 cs_X6_178 (c_replaced g v 0 500 hq) (Nat.le_of_ble_eq_true rfl) (Nat.le_of_ble_eq_true rfl) (Nat.le_of_ble_eq_true rfl) (Nat.le_of_ble_eq_true rfl) (fun r9 M9 hp => ?_)
  simp only [ti_0, ti_500] at hp
  by_cases h : (0 ≤ g.toInt ∧ g.toInt < 5) ∧ 0 ≤ v.toInt ∧ v.toInt ≤ 500
  · obtain ⟨rfl, e9⟩ := hp.1 h
    refine sg_ireturn dX6_set_72 rfl (Nat.le_of_ble_eq_true rfl) (Nat.le_of_ble_eq_true rfl) ?_
    exact ⟨fun _ => ⟨rfl, e9⟩, fun q => absurd h q⟩
  · obtain ⟨rfl, e9⟩ := hp.2 h
    refine sg_ireturn dX6_set_72 rfl (Nat.le_of_ble_eq_true rfl) (Nat.le_of_ble_eq_true rfl) ?_
    exact ⟨fun q => absurd q h, fun _ => ⟨rfl, e9⟩⟩
theorem c_set2 (g v : Int32) (hX : sm_X M c dc cu it yr sa da) (hr : sm_rates M r1 r2 r3 r4 fame) : sm_Ct l b D cA yX6_set cX6_set 4 (some .int) 1 0 0 [.ref 0, .int 2, .int g, .int v] M (fun r M1 => (((0 ≤ g.toInt ∧ g.toInt < 5) ∧ 1 ≤ v.toInt ∧ v.toInt ≤ 1000) → r = some (.int (r3 g.toInt.toNat)) ∧ M1 = M.set 6 (sm_i 5 (upd r3 g.toInt.toNat v))) ∧ (¬ ((0 ≤ g.toInt ∧ g.toInt < 5) ∧ 1 ≤ v.toInt ∧ v.toInt ≤ 1000) → r = some (.int (-1)) ∧ M1 = M)) := by
  have h0 := hX.1
  have h3 := hr.1
  have hq := hr.2.2.2.1
  refine sm_enter (by decide +kernel) rfl (fun _ => Nat.le_of_ble_eq_true rfl) ?_
  refine sg_iload_n dX6_set_0 rfl ?_
  refine sg_tableIn (off := 72) 73 dX6_set_1 (by decide) (by decide) (by decide +kernel) (by decide) ?_
  refine sg_aload_n dX6_set_73 rfl ?_
  refine sg_get dX6_set_74 fl_X6_26 (by first | rfl | assumption) rfl ?_
  refine sg_get dX6_set_77 fl_X6_185 (by first | rfl | assumption) rfl ?_
  refine sg_iload_n dX6_set_80 rfl ?_
  refine sg_iload_n dX6_set_81 rfl ?_
  refine sg_iconst 1 dX6_set_82 (by decide) ?_
  refine sg_sipush 1000 dX6_set_83 (by decide) ?_
  refine sg_S5 dX6_set_86 cs_X6_178 (c_replaced g v 1 1000 hq) (Nat.le_of_ble_eq_true rfl) (Nat.le_of_ble_eq_true rfl) (Nat.le_of_ble_eq_true rfl) (Nat.le_of_ble_eq_true rfl) (fun r9 M9 hp => ?_)
  simp only [ti_1, ti_1000] at hp
  by_cases h : (0 ≤ g.toInt ∧ g.toInt < 5) ∧ 1 ≤ v.toInt ∧ v.toInt ≤ 1000
  · obtain ⟨rfl, e9⟩ := hp.1 h
    refine sg_ireturn dX6_set_89 rfl (Nat.le_of_ble_eq_true rfl) (Nat.le_of_ble_eq_true rfl) ?_
    exact ⟨fun _ => ⟨rfl, e9⟩, fun q => absurd h q⟩
  · obtain ⟨rfl, e9⟩ := hp.2 h
    refine sg_ireturn dX6_set_89 rfl (Nat.le_of_ble_eq_true rfl) (Nat.le_of_ble_eq_true rfl) ?_
    exact ⟨fun q => absurd q h, fun _ => ⟨rfl, e9⟩⟩
theorem c_set3 (g v : Int32) (hX : sm_X M c dc cu it yr sa da) (hr : sm_rates M r1 r2 r3 r4 fame) : sm_Ct l b D cA yX6_set cX6_set 4 (some .int) 1 0 0 [.ref 0, .int 3, .int g, .int v] M (fun r M1 => ((0 ≤ v.toInt ∧ v.toInt ≤ 500) → r = some (.int fame) ∧ sm_ex M M1 [3] ∧ sm_rates M1 r1 r2 r3 r4 v) ∧ (¬ (0 ≤ v.toInt ∧ v.toInt ≤ 500) → r = some (.int (-1)) ∧ M1 = M)) := by
  have h0 := hX.1
  refine sm_enter (by decide +kernel) rfl (fun _ => Nat.le_of_ble_eq_true rfl) ?_
  refine sg_iload_n dX6_set_0 rfl ?_
  refine sg_tableIn (off := 89) 90 dX6_set_1 (by decide) (by decide) (by decide +kernel) (by decide) ?_
  refine sg_aload_n dX6_set_90 rfl ?_
  refine sg_iload_n dX6_set_91 rfl ?_
  refine sg_V1 dX6_set_92 cv_X6_188 h0 (c_replacedFame v hr hX) (Nat.le_of_ble_eq_true rfl) (Nat.le_of_ble_eq_true rfl) (Nat.le_of_ble_eq_true rfl) (Nat.le_of_ble_eq_true rfl) (fun r9 M9 hp => ?_)
  by_cases h : 0 ≤ v.toInt ∧ v.toInt ≤ 500
  · obtain ⟨rfl, e9⟩ := hp.1 h
    refine sg_ireturn dX6_set_95 rfl (Nat.le_of_ble_eq_true rfl) (Nat.le_of_ble_eq_true rfl) ?_
    exact ⟨fun _ => ⟨rfl, e9⟩, fun q => absurd h q⟩
  · obtain ⟨rfl, e9⟩ := hp.2 h
    refine sg_ireturn dX6_set_95 rfl (Nat.le_of_ble_eq_true rfl) (Nat.le_of_ble_eq_true rfl) ?_
    exact ⟨fun q => absurd q h, fun _ => ⟨rfl, e9⟩⟩
theorem c_set4 (g v : Int32) (hX : sm_X M c dc cu it yr sa da) : sm_Ct l b D cA yX6_set cX6_set 4 (some .int) 1 0 0 [.ref 0, .int 4, .int g, .int v] M (fun r M1 => ((0 ≤ v.toInt ∧ v.toInt ≤ 1) → r = some (.int cu) ∧ sm_ex M M1 [0] ∧ sm_X M1 c dc v it yr sa da) ∧ (¬ (0 ≤ v.toInt ∧ v.toInt ≤ 1) → r = some (.int (-1)) ∧ M1 = M)) := by
  have h0 := hX.1
  refine sm_enter (by decide +kernel) rfl (fun _ => Nat.le_of_ble_eq_true rfl) ?_
  refine sg_iload_n dX6_set_0 rfl ?_
  refine sg_tableIn (off := 95) 96 dX6_set_1 (by decide) (by decide) (by decide +kernel) (by decide) ?_
  refine sg_aload_n dX6_set_96 rfl ?_
  refine sg_iload_n dX6_set_97 rfl ?_
  refine sg_V1 dX6_set_98 cv_X6_191 h0 (c_replacedCustom v hX) (Nat.le_of_ble_eq_true rfl) (Nat.le_of_ble_eq_true rfl) (Nat.le_of_ble_eq_true rfl) (Nat.le_of_ble_eq_true rfl) (fun r9 M9 hp => ?_)
  by_cases h : 0 ≤ v.toInt ∧ v.toInt ≤ 1
  · obtain ⟨rfl, e9⟩ := hp.1 h
    refine sg_ireturn dX6_set_101 rfl (Nat.le_of_ble_eq_true rfl) (Nat.le_of_ble_eq_true rfl) ?_
    exact ⟨fun _ => ⟨rfl, e9⟩, fun q => absurd h q⟩
  · obtain ⟨rfl, e9⟩ := hp.2 h
    refine sg_ireturn dX6_set_101 rfl (Nat.le_of_ble_eq_true rfl) (Nat.le_of_ble_eq_true rfl) ?_
    exact ⟨fun q => absurd q h, fun _ => ⟨rfl, e9⟩⟩
theorem c_set5 (g v : Int32) (hX : sm_X M c dc cu it yr sa da) : sm_Ct l b D cA yX6_set cX6_set 4 (some .int) 1 0 0 [.ref 0, .int 5, .int g, .int v] M (fun r M1 => ((0 ≤ v.toInt ∧ v.toInt ≤ 50) → r = some (.int it) ∧ sm_ex M M1 [0] ∧ sm_X M1 c dc cu v yr sa da) ∧ (¬ (0 ≤ v.toInt ∧ v.toInt ≤ 50) → r = some (.int (-1)) ∧ M1 = M)) := by
  have h0 := hX.1
  refine sm_enter (by decide +kernel) rfl (fun _ => Nat.le_of_ble_eq_true rfl) ?_
  refine sg_iload_n dX6_set_0 rfl ?_
  refine sg_tableIn (off := 101) 102 dX6_set_1 (by decide) (by decide) (by decide +kernel) (by decide) ?_
  refine sg_aload_n dX6_set_102 rfl ?_
  refine sg_iload_n dX6_set_103 rfl ?_
  refine sg_V1 dX6_set_104 cv_X6_194 h0 (c_replacedInterest v hX) (Nat.le_of_ble_eq_true rfl) (Nat.le_of_ble_eq_true rfl) (Nat.le_of_ble_eq_true rfl) (Nat.le_of_ble_eq_true rfl) (fun r9 M9 hp => ?_)
  by_cases h : 0 ≤ v.toInt ∧ v.toInt ≤ 50
  · obtain ⟨rfl, e9⟩ := hp.1 h
    refine sg_ireturn dX6_set_107 rfl (Nat.le_of_ble_eq_true rfl) (Nat.le_of_ble_eq_true rfl) ?_
    exact ⟨fun _ => ⟨rfl, e9⟩, fun q => absurd h q⟩
  · obtain ⟨rfl, e9⟩ := hp.2 h
    refine sg_ireturn dX6_set_107 rfl (Nat.le_of_ble_eq_true rfl) (Nat.le_of_ble_eq_true rfl) ?_
    exact ⟨fun q => absurd q h, fun _ => ⟨rfl, e9⟩⟩
theorem c_setx (w g v : Int32) (hw : w.toInt < 0 ∨ 5 < w.toInt) : sm_Ct l b D cA yX6_set cX6_set 4 (some .int) 1 0 0 [.ref 0, .int w, .int g, .int v] M (fun r M1 => r = some (.int (-1)) ∧ M1 = M) := by
  refine sm_enter (by decide +kernel) rfl (fun _ => Nat.le_of_ble_eq_true rfl) ?_
  refine sg_iload_n dX6_set_0 rfl ?_
  refine sg_tableOut 108 dX6_set_1 (hw) (by decide) ?_
  refine sg_iconst (-1) dX6_set_108 (by decide) ?_
  refine sg_ireturn dX6_set_109 rfl (Nat.le_of_ble_eq_true rfl) (Nat.le_of_ble_eq_true rfl) ?_
  exact ⟨rfl, rfl⟩
theorem lp_chosenNames {n s : Nat} {num : Nat → Nat} {tot cs cw : Int32} {fn fw : Nat → Int32} {Post : Option Value → sm_M → Prop} (hc : c ≤ 40) (hn : n ≤ 12) (hs : s < 4096) (hX : sm_X M c dc cu it yr sa da) (hS : sm_S M c sa sid ln fg fm ow nm) (hnum : ∀ k, k < n → fn k = nI (num k) ∧ num k < c) (hu : sm_pu M n tot (nI s) cs cw fn fw) (hP : Post (some (.int (nI (sm_need s num nm n)))) M) :
    ∀ (r t : Nat) (x : Option Value), t + r = n → sm_G l b D cA yX6_chosenNames cX6_chosenNames 4 (some .int) 1 0 0 Post 0 0 4 [some (.ref 0), some (.int (nI (sm_need s num nm t))), some (.int (nI t)), x] [] M := by
  have h0 := hX.1
  have h13 := hu.1
  intro r
  induction r with
  | zero =>
    intro t x ht
    have e : t = n := by omega
    subst e
    refine sg_iload_n dX6_chosenNames_4 rfl ?_
    refine sg_aload_n dX6_chosenNames_5 rfl ?_
    refine sg_get dX6_chosenNames_6 fl_X6_40 (by first | rfl | assumption) rfl ?_
    refine sg_get dX6_chosenNames_9 fl_X6_301 (by first | rfl | assumption) rfl ?_
    refine sg_icmp_ge 45 dX6_chosenNames_12 (by decide) (fun c1 => ?_) (fun c1 => ?_)
    · refine sg_iload_n dX6_chosenNames_45 rfl ?_
      refine sg_ireturn dX6_chosenNames_46 rfl (Nat.le_of_ble_eq_true rfl) (Nat.le_of_ble_eq_true rfl) ?_
      exact hP
    · exact absurd (nI_le (Nat.le_refl _) (by omega)) c1
  | succ r ih =>
    intro t x ht
    have ih2 := ih (t + 1)
    rw [show sm_need s num nm (t + 1) = sm_need s num nm t + (if s.testBit t then (if nm (num t) = 0 then 0 else 1) else 0) from rfl] at ih2
    obtain ⟨hf, hm⟩ := hnum t (by omega)
    refine sg_iload_n dX6_chosenNames_4 rfl ?_
    refine sg_aload_n dX6_chosenNames_5 rfl ?_
    refine sg_get dX6_chosenNames_6 fl_X6_40 (by first | rfl | assumption) rfl ?_
    refine sg_get dX6_chosenNames_9 fl_X6_301 (by first | rfl | assumption) rfl ?_
    refine sg_icmp_ge 45 dX6_chosenNames_12 (by decide) (fun c1 => ?_) (fun c1 => ?_)
    · exact absurd c1 (nI_ge (by omega) (by omega))
    · refine sg_aload_n dX6_chosenNames_15 rfl ?_
      refine sg_aload_n dX6_chosenNames_16 rfl ?_
      refine sg_get dX6_chosenNames_17 fl_X6_40 (by first | rfl | assumption) rfl ?_
      refine sg_iload_n dX6_chosenNames_20 rfl ?_
      refine sg_V1 dX6_chosenNames_21 cv_X6_302 h13 (c_chosenAt t rfl (by omega) hn hu) (Nat.le_of_ble_eq_true rfl) (Nat.le_of_ble_eq_true rfl) (Nat.le_of_ble_eq_true rfl) (Nat.le_of_ble_eq_true rfl) (fun r9 M9 hp => ?_)
      obtain ⟨rfl, e9⟩ := hp
      rw [e9]
      rw [sm_bit (by omega) (by omega)]
      by_cases hb : s.testBit t
      · rw [if_pos hb] at ih2 ⊢
        rw [if_pos rfl]
        obtain ⟨hsa, hst, hl80, h41⟩ := hS (num t) hm
        have hq := hst.1
        refine sg_V1 dX6_chosenNames_24 cv_X6_143 h0 (c_strandAt_y (num t) hf hm hc hsa hX) (Nat.le_of_ble_eq_true rfl) (Nat.le_of_ble_eq_true rfl) (Nat.le_of_ble_eq_true rfl) (Nat.le_of_ble_eq_true rfl) (fun r9 M9 hp => ?_)
        obtain ⟨rfl, e9⟩ := hp
        rw [e9]
        refine sg_astore_n dX6_chosenNames_27 (by decide) ?_
        refine sg_aload_n dX6_chosenNames_28 rfl ?_
        refine sg_ifnull dX6_chosenNames_29 ?_
        refine sg_iload_n dX6_chosenNames_32 rfl ?_
        refine sg_aload_n dX6_chosenNames_33 rfl ?_
        refine sg_S1 dX6_chosenNames_34 cs_X6_99 (c_nameCount hq) (Nat.le_of_ble_eq_true rfl) (Nat.le_of_ble_eq_true rfl) (Nat.le_of_ble_eq_true rfl) (Nat.le_of_ble_eq_true rfl) (fun r9 M9 hp => ?_)
        obtain ⟨rfl, e9⟩ := hp
        rw [e9]
        refine sg_iadd dX6_chosenNames_37 ?_
        rw [nI_add]
        refine sg_istore_n dX6_chosenNames_38 (by decide) ?_
        refine sg_iinc _ dX6_chosenNames_39 rfl (sm_inc t) (by decide) ?_
        refine sg_goto 4 dX6_chosenNames_42 (by decide) ?_
        exact ih2 _ (by omega)
      · rw [if_neg hb] at ih2 ⊢
        rw [if_neg (by decide)]
        refine sg_V1 dX6_chosenNames_24 cv_X6_143 h0 (c_strandAt_n hc (by rw [show (-1 : Int32).toInt = -1 from by decide]; omega) hX) (Nat.le_of_ble_eq_true rfl) (Nat.le_of_ble_eq_true rfl) (Nat.le_of_ble_eq_true rfl) (Nat.le_of_ble_eq_true rfl) (fun r9 M9 hp => ?_)
        obtain ⟨rfl, e9⟩ := hp
        rw [e9]
        refine sg_astore_nN dX6_chosenNames_27 (by decide) ?_
        refine sg_aload_nN dX6_chosenNames_28 rfl ?_
        refine sg_ifnullN 39 dX6_chosenNames_29 (by decide) ?_
        refine sg_iinc _ dX6_chosenNames_39 rfl (sm_inc t) (by decide) ?_
        refine sg_goto 4 dX6_chosenNames_42 (by decide) ?_
        exact ih2 _ (by omega)
theorem c_chosenNames {n s : Nat} {num : Nat → Nat} {tot cs cw : Int32} {fn fw : Nat → Int32} (hc : c ≤ 40) (hn : n ≤ 12) (hs : s < 4096) (hX : sm_X M c dc cu it yr sa da) (hS : sm_S M c sa sid ln fg fm ow nm) (hnum : ∀ k, k < n → fn k = nI (num k) ∧ num k < c) (hu : sm_pu M n tot (nI s) cs cw fn fw) : sm_Ct l b D cA yX6_chosenNames cX6_chosenNames 4 (some .int) 1 0 0 [.ref 0] M (fun r M1 => r = some (.int (nI (sm_need s num nm n))) ∧ M1 = M) := by
  refine sm_enter (by decide +kernel) rfl (fun _ => Nat.le_of_ble_eq_true rfl) ?_
  refine sg_iconst (nI 0) dX6_chosenNames_0 (by decide) ?_
  refine sg_istore_n dX6_chosenNames_1 (by decide) ?_
  refine sg_iconst (nI 0) dX6_chosenNames_2 (by decide) ?_
  refine sg_istore_n dX6_chosenNames_3 (by decide) ?_
  exact lp_chosenNames hc hn hs hX hS hnum hu ⟨rfl, rfl⟩ n 0 _ (by omega)
theorem lp_handOverChosen {n s : Nat} {num : Nat → Nat} {to tot cs cw : Int32} {fn fw : Nat → Int32} {Post : Option Value → sm_M → Prop} (hc : c ≤ 40) (hn : n ≤ 12) (hs : s < 4096) (hsp : ∀ j k, j < c → k < c → j ≠ k → sid j + 3 ≤ sid k ∨ sid k + 3 ≤ sid j) (hz : τ.1 + sm_need s num nm n ≤ 200) (hnum : ∀ k, k < n → fn k = nI (num k) ∧ num k < c)
    (hP : ∀ M1 : sm_M, sm_exS M M1 c sid [8, 9, 10, 11, 12] → sm_X M1 c dc cu it yr sa da → sm_S M1 c sa sid ln fg fm (sm_hoO s num to ow n) nm → sm_t5 M1 (sm_hoT s num nm to yr τ n) → sm_pu M1 n tot (nI s) cs cw fn fw → Post none M1) :
    ∀ (r t : Nat) (x : Option Value) (M1 : sm_M), t + r = n → sm_exS M M1 c sid [8, 9, 10, 11, 12] → sm_X M1 c dc cu it yr sa da → sm_S M1 c sa sid ln fg fm (sm_hoO s num to ow t) nm → sm_t5 M1 (sm_hoT s num nm to yr τ t) → sm_pu M1 n tot (nI s) cs cw fn fw → sm_G l b D cA yX6_handOverChosen cX6_handOverChosen 4 none 2 0 0 Post 0 0 2 [some (.ref 0), some (.int to), some (.int (nI t)), x] [] M1 := by
  intro r
  induction r with
  | zero =>
    intro t x M1 ht hE hX hS hT hu
    have h0 := hX.1
    have h13 := hu.1
    have e : t = n := by omega
    subst e
    refine sg_iload_n dX6_handOverChosen_2 rfl ?_
    refine sg_aload_n dX6_handOverChosen_3 rfl ?_
    refine sg_get dX6_handOverChosen_4 fl_X6_40 (by first | rfl | assumption) rfl ?_
    refine sg_get dX6_handOverChosen_7 fl_X6_301 (by first | rfl | assumption) rfl ?_
    refine sg_icmp_ge 42 dX6_handOverChosen_10 (by decide) (fun c1 => ?_) (fun c1 => ?_)
    · refine sg_return dX6_handOverChosen_42 rfl (Nat.le_of_ble_eq_true rfl) (Nat.le_of_ble_eq_true rfl) ?_
      exact hP M1 hE hX hS hT hu
    · exact absurd (nI_le (Nat.le_refl _) (by omega)) c1
  | succ r ih =>
    intro t x M1 ht hE hX hS hT hu
    have h0 := hX.1
    have h13 := hu.1
    have ih2 := ih (t + 1)
    rw [show sm_hoO s num to ow (t + 1) = if s.testBit t then va_up (sm_hoO s num to ow t) (num t) to else sm_hoO s num to ow t from rfl, show sm_hoT s num nm to yr τ (t + 1) = if s.testBit t then sm_sayIf (nm (num t)) 2 to yr (sm_hoT s num nm to yr τ t) else sm_hoT s num nm to yr τ t from rfl] at ih2
    obtain ⟨hf, hm⟩ := hnum t (by omega)
    refine sg_iload_n dX6_handOverChosen_2 rfl ?_
    refine sg_aload_n dX6_handOverChosen_3 rfl ?_
    refine sg_get dX6_handOverChosen_4 fl_X6_40 (by first | rfl | assumption) rfl ?_
    refine sg_get dX6_handOverChosen_7 fl_X6_301 (by first | rfl | assumption) rfl ?_
    refine sg_icmp_ge 42 dX6_handOverChosen_10 (by decide) (fun c1 => ?_) (fun c1 => ?_)
    · exact absurd c1 (nI_ge (by omega) (by omega))
    · refine sg_aload_n dX6_handOverChosen_13 rfl ?_
      refine sg_aload_n dX6_handOverChosen_14 rfl ?_
      refine sg_get dX6_handOverChosen_15 fl_X6_40 (by first | rfl | assumption) rfl ?_
      refine sg_iload_n dX6_handOverChosen_18 rfl ?_
      refine sg_V1 dX6_handOverChosen_19 cv_X6_302 h13 (c_chosenAt t rfl (by omega) hn hu) (Nat.le_of_ble_eq_true rfl) (Nat.le_of_ble_eq_true rfl) (Nat.le_of_ble_eq_true rfl) (Nat.le_of_ble_eq_true rfl) (fun r9 M9 hp => ?_)
      obtain ⟨rfl, e9⟩ := hp
      rw [e9]
      rw [sm_bit (by omega) (by omega)]
      by_cases hb : s.testBit t
      · rw [if_pos hb, if_pos hb] at ih2
        rw [if_pos hb]
        rw [if_pos rfl]
        obtain ⟨hsa, hst, hl80, h41⟩ := hS (num t) hm
        have hq := hst.1
        refine sg_V1 dX6_handOverChosen_22 cv_X6_143 h0 (c_strandAt_y (num t) hf hm hc hsa hX) (Nat.le_of_ble_eq_true rfl) (Nat.le_of_ble_eq_true rfl) (Nat.le_of_ble_eq_true rfl) (Nat.le_of_ble_eq_true rfl) (fun r9 M9 hp => ?_)
        obtain ⟨rfl, e9⟩ := hp
        rw [e9]
        refine sg_astore_n dX6_handOverChosen_25 (by decide) ?_
        refine sg_aload_n dX6_handOverChosen_26 rfl ?_
        refine sg_ifnull dX6_handOverChosen_27 ?_
        have hroom : nm (num t) = 0 ∨ (sm_hoT s num nm to yr τ t).1 < 200 := by
          by_cases e : nm (num t) = 0
          · exact Or.inl e
          · have h1 := sm_hoT_len s num nm to yr τ t
            have h2 := sm_need_mono s num nm (show t + 1 ≤ n by omega)
            rw [show sm_need s num nm (t + 1) = sm_need s num nm t + (if s.testBit t then (if nm (num t) = 0 then 0 else 1) else 0) from rfl, if_pos hb, if_neg e] at h2
            exact Or.inr (by omega)
        refine sg_aload_n dX6_handOverChosen_30 rfl ?_
        refine sg_aload_n dX6_handOverChosen_31 rfl ?_
        refine sg_iload_n dX6_handOverChosen_32 rfl ?_
        refine sg_V2 dX6_handOverChosen_33 cv_X6_140 h0 (c_handOver to h41 hq hT hroom hX) (Nat.le_of_ble_eq_true rfl) (Nat.le_of_ble_eq_true rfl) (Nat.le_of_ble_eq_true rfl) (Nat.le_of_ble_eq_true rfl) (fun r9 M9 hp => ?_)
        obtain ⟨rfl, x9, q9, t9⟩ := hp
        have X9 := hX.ex x9 (fun z hz e => by simp only [List.mem_cons, List.not_mem_nil, or_false] at hz e; omega)
        have s9 : sm_st M9 (sid (num t)) (sid (num t) + 1) (sid (num t) + 2) (ln (num t)) (fg (num t)) (fm (num t)) to (nm (num t)) := ⟨q9, (x9.2 _ (fun e => by simp only [List.mem_cons, List.not_mem_nil, or_false] at e; omega)).trans hst.2.1, (x9.2 _ (fun e => by simp only [List.mem_cons, List.not_mem_nil, or_false] at e; omega)).trans hst.2.2⟩
        have S9 := hS.up hsp hm x9 (fun z hz => by simp only [List.mem_cons, List.not_mem_nil, or_false] at hz; omega) s9 hl80
        rw [va_up_id, va_up_id, va_up_id, va_up_id] at S9
        have u9 : sm_pu M9 n tot (nI s) cs cw fn fw := ⟨(x9.2 13 (fun e => by simp only [List.mem_cons, List.not_mem_nil, or_false] at e; omega)).trans hu.1, (x9.2 14 (fun e => by simp only [List.mem_cons, List.not_mem_nil, or_false] at e; omega)).trans hu.2.1, (x9.2 15 (fun e => by simp only [List.mem_cons, List.not_mem_nil, or_false] at e; omega)).trans hu.2.2⟩
        have E9 : sm_exS M M9 c sid [8, 9, 10, 11, 12] := ⟨x9.1.trans hE.1, fun z h1 h2 => (x9.2 z (fun e => by
          rcases List.mem_cons.mp e with e | e
          · exact h2 _ hm e
          · exact h1 e)).trans (hE.2 z h1 h2)⟩
        refine sg_iinc _ dX6_handOverChosen_36 rfl (sm_inc t) (by decide) ?_
        refine sg_goto 2 dX6_handOverChosen_39 (by decide) ?_
        exact ih2 _ M9 (by omega) E9 X9 S9 t9 u9
      · rw [if_neg hb, if_neg hb] at ih2
        rw [if_neg hb]
        rw [if_neg (by decide)]
        refine sg_V1 dX6_handOverChosen_22 cv_X6_143 h0 (c_strandAt_n hc (by rw [show (-1 : Int32).toInt = -1 from by decide]; omega) hX) (Nat.le_of_ble_eq_true rfl) (Nat.le_of_ble_eq_true rfl) (Nat.le_of_ble_eq_true rfl) (Nat.le_of_ble_eq_true rfl) (fun r9 M9 hp => ?_)
        obtain ⟨rfl, e9⟩ := hp
        rw [e9]
        refine sg_astore_nN dX6_handOverChosen_25 (by decide) ?_
        refine sg_aload_nN dX6_handOverChosen_26 rfl ?_
        refine sg_ifnullN 36 dX6_handOverChosen_27 (by decide) ?_
        refine sg_iinc _ dX6_handOverChosen_36 rfl (sm_inc t) (by decide) ?_
        refine sg_goto 2 dX6_handOverChosen_39 (by decide) ?_
        exact ih2 _ M1 (by omega) hE hX hS hT hu
theorem c_handOverChosen {n s : Nat} {num : Nat → Nat} {tot cs cw : Int32} {fn fw : Nat → Int32} (to : Int32) (hc : c ≤ 40) (hn : n ≤ 12) (hs : s < 4096) (hsp : ∀ j k, j < c → k < c → j ≠ k → sid j + 3 ≤ sid k ∨ sid k + 3 ≤ sid j) (hz : τ.1 + sm_need s num nm n ≤ 200) (hnum : ∀ k, k < n → fn k = nI (num k) ∧ num k < c) (hX : sm_X M c dc cu it yr sa da) (hS : sm_S M c sa sid ln fg fm ow nm) (ht : sm_t5 M τ) (hu : sm_pu M n tot (nI s) cs cw fn fw) : sm_Ct l b D cA yX6_handOverChosen cX6_handOverChosen 4 none 2 0 0 [.ref 0, .int to] M (fun r M1 => r = none ∧ sm_exS M M1 c sid [8, 9, 10, 11, 12] ∧ sm_X M1 c dc cu it yr sa da ∧ sm_S M1 c sa sid ln fg fm (sm_hoO s num to ow n) nm ∧ sm_t5 M1 (sm_hoT s num nm to yr τ n) ∧ sm_pu M1 n tot (nI s) cs cw fn fw) := by
  refine sm_enter (by decide +kernel) rfl (fun _ => Nat.le_of_ble_eq_true rfl) ?_
  refine sg_iconst (nI 0) dX6_handOverChosen_0 (by decide) ?_
  refine sg_istore_n dX6_handOverChosen_1 (by decide) ?_
  exact lp_handOverChosen hc hn hs hsp hz hnum (fun M1 a1 a2 a3 a4 a5 => ⟨rfl, a1, a2, a3, a4, a5⟩) n 0 _ M (by omega) ⟨rfl, fun _ _ _ => rfl⟩ hX hS ht hu
theorem c_serves {n : Nat} {tot ch cs cw : Int32} {f0 g0 : Nat → Int32} {u : Nat → Nat} (o sum : Int32) (hc : c ≤ 40) (hX : sm_X M c dc cu it yr sa da) (hS : sm_S M c sa sid ln fg fm ow nm) (hr : sm_rates M r1 r2 r3 r4 fame) (hj : ∀ k, k < c → 0 < ln k → sm_least (fg k) 0 (ln k) = nI (js k) ∧ js k < 5) (hw : ∀ i, i < c → sm_wv r1 r2 r3 r4 fame ln js nm i = nI (u i)) (hn : n ≤ 12) (hu : sm_pu M n tot ch cs cw f0 g0) : sm_Ct l b D cA yX6_serves cX6_serves 3 (some .int) 6 0 0 [.ref 0, .int o, .int sum] M (fun r M1 => sm_ex M M1 [13, 14, 15] ∧ (∃ (n : Nat) (tot ch cs cw : Int32) (f g : Nat → Int32), n ≤ 12 ∧ sm_pu M1 n tot ch cs cw f g) ∧ (¬ ((0 ≤ o.toInt ∧ o.toInt < 10) ∧ (1 ≤ sum.toInt ∧ sum.toInt ≤ 1000000) ∧ sm_own ln ow o c ≤ 12) → r = some (.int (-1))) ∧ (((0 ≤ o.toInt ∧ o.toInt < 10) ∧ (1 ≤ sum.toInt ∧ sum.toInt ≤ 1000000) ∧ sm_own ln ow o c ≤ 12) → (sm_tot ln ow o (sm_wv r1 r2 r3 r4 fame ln js nm) c < sum → r = some (.int (-2))) ∧ (¬ sm_tot ln ow o (sm_wv r1 r2 r3 r4 fame ln js nm) c < sum → r = some (.int (sm_pick (sm_filN ln ow o u c) (sm_own ln ow o c) sum (2 ^ sm_own ln ow o c - 1)).2.2)))) := by
  have h0 := hX.1
  refine sm_enter (by decide +kernel) rfl (fun _ => Nat.le_of_ble_eq_true rfl) ?_
  refine sg_aload_n dX6_serves_0 rfl ?_
  refine sg_iload_n dX6_serves_1 rfl ?_
  refine sg_iload_n dX6_serves_2 rfl ?_
  refine sg_V2 dX6_serves_3 cv_X6_209 h0 (c_choosePayment o sum hc hX hS hr hj hw hn hu) (Nat.le_of_ble_eq_true rfl) (Nat.le_of_ble_eq_true rfl) (Nat.le_of_ble_eq_true rfl) (Nat.le_of_ble_eq_true rfl) (fun r9 M9 hp => ?_)
  obtain ⟨x9, P9, n9, y9⟩ := hp
  by_cases h : (0 ≤ o.toInt ∧ o.toInt < 10) ∧ (1 ≤ sum.toInt ∧ sum.toInt ≤ 1000000) ∧ sm_own ln ow o c ≤ 12
  · by_cases h2 : sm_tot ln ow o (sm_wv r1 r2 r3 r4 fame ln js nm) c < sum
    · obtain rfl := (y9 h).1 h2
      refine sg_ireturn dX6_serves_6 rfl (Nat.le_of_ble_eq_true rfl) (Nat.le_of_ble_eq_true rfl) ?_
      exact ⟨x9, P9, fun q => absurd h q, fun _ => ⟨fun _ => rfl, fun q => absurd h2 q⟩⟩
    · obtain ⟨rfl, _⟩ := (y9 h).2 h2
      refine sg_ireturn dX6_serves_6 rfl (Nat.le_of_ble_eq_true rfl) (Nat.le_of_ble_eq_true rfl) ?_
      exact ⟨x9, P9, fun q => absurd h q, fun _ => ⟨fun q => absurd q h2, fun _ => rfl⟩⟩
  · obtain rfl := n9 h
    refine sg_ireturn dX6_serves_6 rfl (Nat.le_of_ble_eq_true rfl) (Nat.le_of_ble_eq_true rfl) ?_
    exact ⟨x9, P9, fun _ => rfl, fun q => absurd q h⟩
/-- what pay asks -/
abbrev sm_payb (c : Nat) (ln : Nat → Nat) (ow : Nat → Int32) (o to sum : Int32) : Prop := (0 ≤ to.toInt ∧ to.toInt < 10) ∧ ¬ o = to ∧ (0 ≤ o.toInt ∧ o.toInt < 10) ∧ (1 ≤ sum.toInt ∧ sum.toInt ≤ 1000000) ∧ sm_own ln ow o c ≤ 12
theorem c_pay {n s v : Nat} {tot ch cs cw : Int32} {f0 g0 : Nat → Int32} {u : Nat → Nat} (o to sum : Int32) (hc : c ≤ 40) (hX : sm_X M c dc cu it yr sa da) (hS : sm_S M c sa sid ln fg fm ow nm) (hsp : ∀ j k, j < c → k < c → j ≠ k → sid j + 3 ≤ sid k ∨ sid k + 3 ≤ sid j) (hr : sm_rates M r1 r2 r3 r4 fame) (ht : sm_t5 M τ) (hz : τ.1 ≤ 200) (hj : ∀ k, k < c → 0 < ln k → sm_least (fg k) 0 (ln k) = nI (js k) ∧ js k < 5) (hw : ∀ i, i < c → sm_wv r1 r2 r3 r4 fame ln js nm i = nI (u i)) (hn : n ≤ 12) (hu : sm_pu M n tot ch cs cw f0 g0) (hpk : sm_payb c ln ow o to sum → ¬ sm_tot ln ow o (sm_wv r1 r2 r3 r4 fame ln js nm) c < sum → (sm_pick (sm_filN ln ow o u c) (sm_own ln ow o c) sum (2 ^ sm_own ln ow o c - 1)).1 = nI s ∧ (sm_pick (sm_filN ln ow o u c) (sm_own ln ow o c) sum (2 ^ sm_own ln ow o c - 1)).2.2 = nI v ∧ s < 4096 ∧ v < 2 ^ 31) : sm_Ct l b D cA yX6_pay cX6_pay 5 (some .int) 6 0 0 [.ref 0, .int o, .int to, .int sum] M (fun r M1 => (∃ (n : Nat) (tot ch cs cw : Int32) (f g : Nat → Int32), n ≤ 12 ∧ sm_pu M1 n tot ch cs cw f g) ∧ (¬ sm_payb c ln ow o to sum → r = some (.int (-1)) ∧ sm_ex M M1 [13, 14, 15]) ∧ (sm_payb c ln ow o to sum → (sm_tot ln ow o (sm_wv r1 r2 r3 r4 fame ln js nm) c < sum → r = some (.int (-2)) ∧ sm_ex M M1 [13, 14, 15]) ∧ (¬ sm_tot ln ow o (sm_wv r1 r2 r3 r4 fame ln js nm) c < sum → (¬ τ.1 + sm_need s (sm_filN ln ow o (fun i => i) c) nm (sm_own ln ow o c) ≤ 200 → r = some (.int (-1)) ∧ sm_ex M M1 [13, 14, 15]) ∧ (τ.1 + sm_need s (sm_filN ln ow o (fun i => i) c) nm (sm_own ln ow o c) ≤ 200 → r = some (.int (nI v - sum)) ∧ sm_exS M M1 c sid [8, 9, 10, 11, 12, 13, 14, 15] ∧ sm_X M1 c dc cu it yr sa da ∧ sm_S M1 c sa sid ln fg fm (sm_hoO s (sm_filN ln ow o (fun i => i) c) to ow (sm_own ln ow o c)) nm ∧ sm_t5 M1 (sm_hoT s (sm_filN ln ow o (fun i => i) c) nm to yr τ (sm_own ln ow o c)))))) := by
  have h0 := hX.1
  refine sm_enter (by decide +kernel) rfl (fun _ => Nat.le_of_ble_eq_true rfl) ?_
  refine sg_iload_n dX6_pay_0 rfl ?_
  refine sg_S1 dX6_pay_1 cs_X6_69 (c_isOwner _) (Nat.le_of_ble_eq_true rfl) (Nat.le_of_ble_eq_true rfl) (Nat.le_of_ble_eq_true rfl) (Nat.le_of_ble_eq_true rfl) (fun r M1 hp => ?_)
  obtain ⟨rfl, e9⟩ := hp; rw [e9]
  refine sg_bf_eq 12 dX6_pay_4 (by decide) (fun c1 => ?_) (fun c1 => ?_)
  · refine sg_iconst (-1) dX6_pay_12 (by decide) ?_
    refine sg_ireturn dX6_pay_13 rfl (Nat.le_of_ble_eq_true rfl) (Nat.le_of_ble_eq_true rfl) ?_
    exact ⟨⟨_, _, _, _, _, _, _, hn, hu⟩, fun _ => ⟨rfl, sm_ex.rf⟩, fun q => absurd q.1 c1⟩
  · refine sg_iload_n dX6_pay_7 rfl ?_
    refine sg_iload_n dX6_pay_8 rfl ?_
    refine sg_icmp_ne 14 dX6_pay_9 (by decide) (fun c2 => ?_) (fun c2 => ?_)
    · refine sg_aload_n dX6_pay_14 rfl ?_
      refine sg_iload_n dX6_pay_15 rfl ?_
      refine sg_iload_n dX6_pay_16 rfl ?_
      refine sg_V2 dX6_pay_17 cv_X6_209 h0 (c_choosePayment o sum hc hX hS hr hj hw hn hu) (Nat.le_of_ble_eq_true rfl) (Nat.le_of_ble_eq_true rfl) (Nat.le_of_ble_eq_true rfl) (Nat.le_of_ble_eq_true rfl) (fun r9 M9 hp => ?_)
      obtain ⟨x9, P9, n9, y9⟩ := hp
      by_cases h : (0 ≤ o.toInt ∧ o.toInt < 10) ∧ (1 ≤ sum.toInt ∧ sum.toInt ≤ 1000000) ∧ sm_own ln ow o c ≤ 12
      · have hb : sm_payb c ln ow o to sum := ⟨c1, c2, h⟩
        by_cases h2 : sm_tot ln ow o (sm_wv r1 r2 r3 r4 fame ln js nm) c < sum
        · obtain rfl := (y9 h).1 h2
          refine sg_istore dX6_pay_20 (by decide) ?_
          refine sg_iload dX6_pay_22 rfl ?_
          refine sg_if_ge 30 dX6_pay_24 (by decide) (fun c3 => ?_) (fun c3 => ?_)
          · exact absurd c3 (by decide)
          · refine sg_iload dX6_pay_27 rfl ?_
            refine sg_ireturn dX6_pay_29 rfl (Nat.le_of_ble_eq_true rfl) (Nat.le_of_ble_eq_true rfl) ?_
            exact ⟨P9, fun q => absurd hb q, fun _ => ⟨fun _ => ⟨rfl, x9⟩, fun q => absurd h2 q⟩⟩
        · obtain ⟨rfl, u9⟩ := (y9 h).2 h2
          obtain ⟨p1, p2, p3, p4⟩ := hpk hb h2
          rw [p2]
          rw [p1] at u9
          have X9 := hX.ex x9 (by decide)
          have S9 := hS.ex x9 (by decide)
          have T9 := ht.ex x9 (by decide)
          have hnum : ∀ k, k < sm_own ln ow o c → sm_fil ln ow o (fun k => nI k) f0 c k = nI (sm_filN ln ow o (fun i => i) c k) ∧ sm_filN ln ow o (fun i => i) c k < c := fun k hk => ⟨sm_fil_N ln ow o f0 c (fun _ _ => rfl) k hk, sm_filN_lt ln ow o c k hk⟩
          have k0 := X9.1
          have k8 := T9.1
          refine sg_istore dX6_pay_20 (by decide) ?_
          refine sg_iload dX6_pay_22 rfl ?_
          refine sg_if_ge 30 dX6_pay_24 (by decide) (fun c3 => ?_) (fun c3 => ?_)
          · refine sg_aload_n dX6_pay_30 rfl ?_
            refine sg_get dX6_pay_31 fl_X6_33 (by first | rfl | assumption) rfl ?_
            refine sg_aload_n dX6_pay_34 rfl ?_
            refine sg_V0 dX6_pay_35 cv_X6_212 k0 (c_chosenNames hc h.2.2 p3 X9 S9 hnum u9) (Nat.le_of_ble_eq_true rfl) (Nat.le_of_ble_eq_true rfl) (Nat.le_of_ble_eq_true rfl) (Nat.le_of_ble_eq_true rfl) (fun r9 M8 hp => ?_)
            obtain ⟨rfl, e9⟩ := hp
            rw [e9]
            refine sg_V1 dX6_pay_38 cv_X6_102 k8 (c_hasRoom _ rfl (by have := sm_need_le s (sm_filN ln ow o (fun i => i) c) nm (sm_own ln ow o c); omega) hz T9) (Nat.le_of_ble_eq_true rfl) (Nat.le_of_ble_eq_true rfl) (Nat.le_of_ble_eq_true rfl) (Nat.le_of_ble_eq_true rfl) (fun r9 M8 hp => ?_)
            obtain ⟨rfl, e9⟩ := hp
            rw [e9]
            refine sg_bf_ne 46 dX6_pay_41 (by decide) (fun c4 => ?_) (fun c4 => ?_)
            · refine sg_aload_n dX6_pay_46 rfl ?_
              refine sg_iload_n dX6_pay_47 rfl ?_
              refine sg_V1 dX6_pay_48 cv_X6_215 k0 (c_handOverChosen to hc h.2.2 p3 hsp c4 hnum X9 S9 T9 u9) (Nat.le_of_ble_eq_true rfl) (Nat.le_of_ble_eq_true rfl) (Nat.le_of_ble_eq_true rfl) (Nat.le_of_ble_eq_true rfl) (fun r9 M7 hp => ?_)
              obtain ⟨rfl, x7, X7, S7, T7, u7⟩ := hp
              refine sg_iload dX6_pay_51 rfl ?_
              refine sg_iload_n dX6_pay_53 rfl ?_
              refine sg_isub dX6_pay_54 ?_
              refine sg_ireturn dX6_pay_55 rfl (Nat.le_of_ble_eq_true rfl) (Nat.le_of_ble_eq_true rfl) ?_
              refine ⟨⟨_, _, _, _, _, _, _, h.2.2, u7⟩, fun q => absurd hb q, fun _ => ⟨fun q => absurd q h2, fun _ => ⟨fun q => absurd c4 q, fun _ => ⟨rfl, ⟨x7.1.trans x9.1, fun z h1 h2 => (x7.2 z (fun e => h1 (by simp only [List.mem_cons, List.not_mem_nil, or_false] at e ⊢; omega)) h2).trans (x9.2 z (fun e => h1 (by simp only [List.mem_cons, List.not_mem_nil, or_false] at e ⊢; omega)))⟩, X7, S7, T7⟩⟩⟩⟩
            · refine sg_iconst (-1) dX6_pay_44 (by decide) ?_
              refine sg_ireturn dX6_pay_45 rfl (Nat.le_of_ble_eq_true rfl) (Nat.le_of_ble_eq_true rfl) ?_
              exact ⟨P9, fun q => absurd hb q, fun _ => ⟨fun q => absurd q h2, fun _ => ⟨fun _ => ⟨rfl, x9⟩, fun q => absurd q c4⟩⟩⟩
          · rw [Int32.le_iff_toInt_le, nI_toInt p4, ti_0] at c3
            exact absurd c3 (by omega)
      · obtain rfl := n9 h
        refine sg_istore dX6_pay_20 (by decide) ?_
        refine sg_iload dX6_pay_22 rfl ?_
        refine sg_if_ge 30 dX6_pay_24 (by decide) (fun c3 => ?_) (fun c3 => ?_)
        · exact absurd c3 (by decide)
        · refine sg_iload dX6_pay_27 rfl ?_
          refine sg_ireturn dX6_pay_29 rfl (Nat.le_of_ble_eq_true rfl) (Nat.le_of_ble_eq_true rfl) ?_
          exact ⟨P9, fun _ => ⟨rfl, x9⟩, fun q => absurd q.2.2 h⟩
    · refine sg_iconst (-1) dX6_pay_12 (by decide) ?_
      refine sg_ireturn dX6_pay_13 rfl (Nat.le_of_ble_eq_true rfl) (Nat.le_of_ble_eq_true rfl) ?_
      exact ⟨⟨_, _, _, _, _, _, _, hn, hu⟩, fun _ => ⟨rfl, sm_ex.rf⟩, fun q => absurd c2 q.2.1⟩
end SM56
