/-! the reference's public methods: join, turn, name, give, bead, named -/
section SM62
variable {l : Launch} {b : Nat} {D : va_G} {cA : Nat → ClassId} {M : sm_M}
variable {th : Int32} {c dc : Nat} {ln hb : Nat → Nat} {fg fm : Nat → Nat → Int32} {ow nm r1 r2 r3 ws to gr sp pd : Nat → Int32} {fame cu it yr : Int32} {τ : sm_T5}
theorem mj_D {i j : Nat} {x y : Int32} {x3 x4 : Option Value} {Post : Option Value → sm_M → Prop} (hx : x = nI i) (hy : y = nI j) (hi : i < c) (hj : j < c) (hc : c ≤ 40) (hW : sm_W M 0 c ln fg fm ow nm r1 r2 r3 fame cu it yr τ dc ws to gr sp pd hb)
    (hP : ∀ M1 : sm_M, sm_ex M M1 sm_ml → sm_W M1 0 c ln fg fm ow (va_up nm j 0) r1 r2 r3 fame cu it yr τ dc ws to gr sp pd hb → Post (some (.int (nI (ln i)))) M1) : sm_G l b D cA yX7_join cX7_join 5 (some .int) 2 0 0 Post 0 0 235 [some (.ref 23), some (.int x), some (.int y), x3, x4] [] M := by
  subst hx
  subst hy
  obtain ⟨I, A, hm, h7, ha, hbb, ht, hdd, hh⟩ := id hW
  obtain ⟨h23, h24, h25, h26, h27, h28, h29, h30, h31, h32, h33, h34, h35, h36, h37, h38, h39⟩ := id hm
  obtain ⟨b26, b27, b28, bN⟩ := ha.2 i hi
  refine sg_aload_n dX7_join_235 rfl ?_
  refine sg_get dX7_join_236 fl_X7_22 (by first | rfl | assumption) rfl ?_
  refine sg_iload_n dX7_join_239 rfl ?_
  refine sg_iconst 0 dX7_join_240 (by decide) ?_
  refine sg_astx j dX7_join_241 h28 rfl (by omega) (by decide) (fun M3 x3 g3 => ?_)
  have i23 := (x3.2 23 (by decide)).trans h23
  have i26 := (x3.2 26 (by decide)).trans h26
  refine sg_aload_n dX7_join_242 rfl ?_
  refine sg_get dX7_join_243 fl_X7_16 (by first | rfl | assumption) rfl ?_
  refine sg_iload_n dX7_join_246 rfl ?_
  refine sg_ald (i) dX7_join_247 (by first | rfl | assumption) (rfl) (by omega) (by decide) ?_
  rw [b26]
  refine sg_ireturn dX7_join_248 rfl (Nat.le_of_ble_eq_true rfl) (Nat.le_of_ble_eq_true rfl) ?_
  exact hP M3 (x3.mono (by decide)) ⟨I, _, hm.u28 x3 g3, h7, ha.nam 0, hbb, ht, hdd, hh⟩
theorem mj_C {i j : Nat} {x y : Int32} {x3 x4 : Option Value} {Post : Option Value → sm_M → Prop} (hx : x = nI i) (hy : y = nI j) (hi : i < c) (hj : j < c) (hc : c ≤ 40) (hn : 0 ≤ (nm i).toInt) (hz : nm i = 0 ∨ τ.1 < 200) (hW : sm_W M 0 c ln fg fm ow nm r1 r2 r3 fame cu it yr τ dc ws to gr sp pd hb)
    (hP : ∀ M1 : sm_M, sm_ex M M1 sm_ml → sm_W M1 0 c ln fg fm ow (va_up nm j 0) r1 r2 r3 fame cu it yr (sm_sayIf (nm i) 4 (nI (ln i)) yr τ) dc ws to gr sp pd hb → Post (some (.int (nI (ln i)))) M1) : sm_G l b D cA yX7_join cX7_join 5 (some .int) 2 0 0 Post 0 0 209 [some (.ref 23), some (.int x), some (.int y), x3, x4] [] M := by
  subst hx
  subst hy
  obtain ⟨I, A, hm, h7, ha, hbb, ht, hdd, hh⟩ := id hW
  obtain ⟨h23, h24, h25, h26, h27, h28, h29, h30, h31, h32, h33, h34, h35, h36, h37, h38, h39⟩ := id hm
  obtain ⟨b26, b27, b28, bN⟩ := ha.2 i hi
  unfold sm_sayIf at hP
  refine sg_aload_n dX7_join_209 rfl ?_
  refine sg_get dX7_join_210 fl_X7_22 (by first | rfl | assumption) rfl ?_
  refine sg_iload_n dX7_join_213 rfl ?_
  refine sg_ald (i) dX7_join_214 (by first | rfl | assumption) (rfl) (by omega) (by decide) ?_
  rw [b28]
  refine sg_if_le 235 dX7_join_215 (by decide) (fun c1 => ?_) (fun c1 => ?_)
  · rw [if_pos ((sm_nmz hn).mp c1)] at hP
    exact mj_D rfl rfl hi hj hc hW hP
  · have c1' : ¬ nm i = 0 := fun q => c1 ((sm_nmz hn).mpr q)
    rw [if_neg c1'] at hP
    refine sg_aload_n dX7_join_218 rfl ?_
    refine sg_aload_n dX7_join_219 rfl ?_
    refine sg_get dX7_join_220 fl_X7_22 (by first | rfl | assumption) rfl ?_
    refine sg_iload_n dX7_join_223 rfl ?_
    refine sg_ald (i) dX7_join_224 (by first | rfl | assumption) (rfl) (by omega) (by decide) ?_
    refine sg_iconst 4 dX7_join_225 (by decide) ?_
    refine sg_aload_n dX7_join_226 rfl ?_
    refine sg_get dX7_join_227 fl_X7_16 (by first | rfl | assumption) rfl ?_
    refine sg_iload_n dX7_join_230 rfl ?_
    refine sg_ald (i) dX7_join_231 (by first | rfl | assumption) (rfl) (by omega) (by decide) ?_
    rw [b28, b26]
    refine sg_V3 dX7_join_232 cv_X7_102 h23 (w_say (nm i) 4 (nI (ln i)) (hz.elim (fun q => absurd q c1') id) hW) (Nat.le_of_ble_eq_true rfl) (Nat.le_of_ble_eq_true rfl) (Nat.le_of_ble_eq_true rfl) (Nat.le_of_ble_eq_true rfl) (fun r9 M6 hp => ?_)
    obtain ⟨rfl, x6, W6⟩ := hp
    exact mj_D rfl rfl hi hj hc W6 (fun M1 q w => hP M1 (x6.tr q) w)
theorem mj_B {i j : Nat} {x y : Int32} {x3 x4 : Option Value} {Post : Option Value → sm_M → Prop} (hx : x = nI i) (hy : y = nI j) (hi : i < c) (hj : j < c) (hc : c ≤ 40) (hn : 0 ≤ (nm i).toInt) (hn2 : 0 ≤ (nm j).toInt) (hz : (if nm i = 0 then nm j else nm i) = 0 ∨ τ.1 < 200) (hW : sm_W M 0 c ln fg fm ow nm r1 r2 r3 fame cu it yr τ dc ws to gr sp pd hb)
    (hP : ∀ M1 : sm_M, sm_ex M M1 sm_ml → sm_W M1 0 c ln fg fm ow (va_up (va_up nm i (if nm i = 0 then nm j else nm i)) j 0) r1 r2 r3 fame cu it yr (sm_sayIf (if nm i = 0 then nm j else nm i) 4 (nI (ln i)) yr τ) dc ws to gr sp pd hb → Post (some (.int (nI (ln i)))) M1) : sm_G l b D cA yX7_join cX7_join 5 (some .int) 2 0 0 Post 0 0 188 [some (.ref 23), some (.int x), some (.int y), x3, x4] [] M := by
  subst hx
  subst hy
  obtain ⟨I, A, hm, h7, ha, hbb, ht, hdd, hh⟩ := id hW
  obtain ⟨h23, h24, h25, h26, h27, h28, h29, h30, h31, h32, h33, h34, h35, h36, h37, h38, h39⟩ := id hm
  obtain ⟨b26, b27, b28, bN⟩ := ha.2 i hi
  obtain ⟨d26, d27, d28, dN⟩ := ha.2 j hj
  refine sg_aload_n dX7_join_188 rfl ?_
  refine sg_get dX7_join_189 fl_X7_22 (by first | rfl | assumption) rfl ?_
  refine sg_iload_n dX7_join_192 rfl ?_
  refine sg_ald (i) dX7_join_193 (by first | rfl | assumption) (rfl) (by omega) (by decide) ?_
  rw [b28]
  refine sg_if_ne 209 dX7_join_194 (by decide) (fun c1 => ?_) (fun c1 => ?_)
  · rw [if_neg c1] at hP hz
    rw [va_up_id] at hP
    exact mj_C rfl rfl hi hj hc hn hz hW hP
  · rw [if_pos c1] at hP hz
    refine sg_aload_n dX7_join_197 rfl ?_
    refine sg_get dX7_join_198 fl_X7_22 (by first | rfl | assumption) rfl ?_
    refine sg_iload_n dX7_join_201 rfl ?_
    refine sg_aload_n dX7_join_202 rfl ?_
    refine sg_get dX7_join_203 fl_X7_22 (by first | rfl | assumption) rfl ?_
    refine sg_iload_n dX7_join_206 rfl ?_
    refine sg_ald (j) dX7_join_207 (by first | rfl | assumption) (rfl) (by omega) (by decide) ?_
    rw [d28]
    refine sg_astx i dX7_join_208 h28 rfl (by omega) (by decide) (fun M3 x3 g3 => ?_)
    have W3 := (⟨I, _, hm.u28 x3 g3, h7, ha.nam (nm j), hbb, ht, hdd, hh⟩ : sm_W M3 0 c ln fg fm ow (va_up nm i (nm j)) r1 r2 r3 fame cu it yr τ dc ws to gr sp pd hb)
    refine mj_C rfl rfl hi hj hc (by rw [va_up_self]; exact hn2) (by rw [va_up_self]; exact hz) W3 (fun M1 q w => ?_)
    rw [va_up_self] at w
    exact hP M1 ((x3.mono (by decide)).tr q) w
theorem mj_A {i j : Nat} {x y : Int32} {x3 x4 : Option Value} {Post : Option Value → sm_M → Prop} (hx : x = nI i) (hy : y = nI j) (hi : i < c) (hj : j < c) (hc : c ≤ 40) (hn : 0 ≤ (nm i).toInt) (hn2 : 0 ≤ (nm j).toInt) (hz : τ.1 + ((if nm i = 0 then 0 else 1) + (if nm j = 0 then 0 else 1)) ≤ 200) (hW : sm_W M 0 c ln fg fm ow nm r1 r2 r3 fame cu it yr τ dc ws to gr sp pd hb)
    (hP : ∀ M1 : sm_M, sm_ex M M1 sm_ml → sm_W M1 0 c ln fg fm ow (va_up (va_up nm i (if nm i = 0 then nm j else nm i)) j 0) r1 r2 r3 fame cu it yr (sm_sayIf (if nm i = 0 then nm j else nm i) 4 (nI (ln i)) yr (if nm i = 0 then τ else sm_sayIf (nm j) 5 0 yr τ)) dc ws to gr sp pd hb → Post (some (.int (nI (ln i)))) M1) : sm_G l b D cA yX7_join cX7_join 5 (some .int) 2 0 0 Post 0 0 158 [some (.ref 23), some (.int x), some (.int y), x3, x4] [] M := by
  subst hx
  subst hy
  obtain ⟨I, A, hm, h7, ha, hbb, ht, hdd, hh⟩ := id hW
  obtain ⟨h23, h24, h25, h26, h27, h28, h29, h30, h31, h32, h33, h34, h35, h36, h37, h38, h39⟩ := id hm
  obtain ⟨b26, b27, b28, bN⟩ := ha.2 i hi
  obtain ⟨d26, d27, d28, dN⟩ := ha.2 j hj
  refine sg_aload_n dX7_join_158 rfl ?_
  refine sg_get dX7_join_159 fl_X7_22 (by first | rfl | assumption) rfl ?_
  refine sg_iload_n dX7_join_162 rfl ?_
  refine sg_ald (i) dX7_join_163 (by first | rfl | assumption) (rfl) (by omega) (by decide) ?_
  rw [b28]
  refine sg_if_le 188 dX7_join_164 (by decide) (fun c1 => ?_) (fun c1 => ?_)
  · have c1' := (sm_nmz hn).mp c1
    rw [if_pos c1'] at hP
    rw [if_pos c1'] at hP
    rw [if_pos c1'] at hz
    refine mj_B rfl rfl hi hj hc hn hn2 ?_ hW (fun M1 q w => hP M1 q (by rw [if_pos c1'] at w; exact w))
    rw [if_pos c1']
    by_cases e : nm j = 0
    · exact Or.inl e
    · rw [if_neg e] at hz
      exact Or.inr (by omega)
  · have c1' : ¬ nm i = 0 := fun q => c1 ((sm_nmz hn).mpr q)
    rw [if_neg c1'] at hP
    rw [if_neg c1'] at hP
    rw [if_neg c1'] at hz
    unfold sm_sayIf at hP
    rw [if_neg c1'] at hP
    refine sg_aload_n dX7_join_167 rfl ?_
    refine sg_get dX7_join_168 fl_X7_22 (by first | rfl | assumption) rfl ?_
    refine sg_iload_n dX7_join_171 rfl ?_
    refine sg_ald (j) dX7_join_172 (by first | rfl | assumption) (rfl) (by omega) (by decide) ?_
    rw [d28]
    refine sg_if_le 188 dX7_join_173 (by decide) (fun c2 => ?_) (fun c2 => ?_)
    · have c2' := (sm_nmz hn2).mp c2
      rw [if_pos c2'] at hP
      refine mj_B rfl rfl hi hj hc hn hn2 (Or.inr (by omega)) hW (fun M1 q w => hP M1 q ?_)
      unfold sm_sayIf at w
      rw [if_neg c1'] at w
      rw [if_neg c1'] at w
      exact w
    · have c2' : ¬ nm j = 0 := fun q => c2 ((sm_nmz hn2).mpr q)
      rw [if_neg c2'] at hP hz
      refine sg_aload_n dX7_join_176 rfl ?_
      refine sg_aload_n dX7_join_177 rfl ?_
      refine sg_get dX7_join_178 fl_X7_22 (by first | rfl | assumption) rfl ?_
      refine sg_iload_n dX7_join_181 rfl ?_
      refine sg_ald (j) dX7_join_182 (by first | rfl | assumption) (rfl) (by omega) (by decide) ?_
      refine sg_iconst 5 dX7_join_183 (by decide) ?_
      refine sg_iconst 0 dX7_join_184 (by decide) ?_
      rw [d28]
      refine sg_V3 dX7_join_185 cv_X7_102 h23 (w_say (nm j) 5 0 (by omega) hW) (Nat.le_of_ble_eq_true rfl) (Nat.le_of_ble_eq_true rfl) (Nat.le_of_ble_eq_true rfl) (Nat.le_of_ble_eq_true rfl) (fun r9 M6 hp => ?_)
      obtain ⟨rfl, x6, W6⟩ := hp
      refine mj_B rfl rfl hi hj hc hn hn2 (Or.inr (by show τ.1 + 1 < 200; omega)) W6 (fun M1 q w => hP M1 (x6.tr q) ?_)
      unfold sm_sayIf at w
      rw [if_neg c1'] at w
      rw [if_neg c1'] at w
      exact w
theorem lp_mjoin {i j : Nat} {x y : Int32} {x3 : Option Value} {Post : Option Value → sm_M → Prop} (hx : x = nI i) (hy : y = nI j) (hi : i < c) (hj : j < c) (hij : i ≠ j) (hc : c ≤ 40) (hs : ln i + ln j ≤ 80) (hln : ∀ t, t < c → ln t ≤ 80)
    (hP : ∀ (M1 : sm_M) (x4 : Option Value), sm_ex M M1 sm_ml → sm_W M1 0 c (va_up ln i (ln i + ln j)) (va_up fg i (fun t => if ln i ≤ t ∧ t < ln i + (ln j - 0) then fg j (0 + (t - ln i)) else fg i t)) (va_up fm i (fun t => if ln i ≤ t ∧ t < ln i + (ln j - 0) then fm j (0 + (t - ln i)) else fm i t)) ow nm r1 r2 r3 fame cu it yr τ dc ws to gr sp pd hb → sm_G l b D cA yX7_join cX7_join 5 (some .int) 2 0 0 Post 0 0 151 [some (.ref 23), some (.int x), some (.int y), x3, x4] [] M1) :
    ∀ (r k : Nat) (M1 : sm_M), k + r = ln j → sm_ex M M1 sm_ml → sm_W M1 0 c (va_up ln i (ln i + k)) (va_up fg i (fun t => if ln i ≤ t ∧ t < ln i + (ln j - 0) then fg j (0 + (t - ln i)) else fg i t)) (va_up fm i (fun t => if ln i ≤ t ∧ t < ln i + (ln j - 0) then fm j (0 + (t - ln i)) else fm i t)) ow nm r1 r2 r3 fame cu it yr τ dc ws to gr sp pd hb → sm_G l b D cA yX7_join cX7_join 5 (some .int) 2 0 0 Post 0 0 104 [some (.ref 23), some (.int x), some (.int y), x3, some (.int (nI k))] [] M1 := by
  subst hx
  subst hy
  have hne : j ≠ i := fun e => hij e.symm
  have hli := hln i hi
  have hlj := hln j hj
  intro r
  induction r with
  | zero =>
    intro k M1 hk hx hW
    have e : k = ln j := by omega
    subst e
    obtain ⟨I, A, hm, h7, ha, hbb, ht, hdd, hh⟩ := id hW
    obtain ⟨h23, h24, h25, h26, h27, h28, h29, h30, h31, h32, h33, h34, h35, h36, h37, h38, h39⟩ := id hm
    obtain ⟨b26, b27, b28, bN⟩ := ha.2 j hj
    rw [va_up_ne _ _ hne] at b26
    refine sg_iload dX7_join_104 rfl ?_
    refine sg_aload_n dX7_join_106 rfl ?_
    refine sg_get dX7_join_107 fl_X7_16 (by first | rfl | assumption) rfl ?_
    refine sg_iload_n dX7_join_110 rfl ?_
    refine sg_ald (j) dX7_join_111 (by first | rfl | assumption) (rfl) (by omega) (by decide) ?_
    rw [b26]
    refine sg_icmp_ge 151 dX7_join_112 (by decide) (fun c1 => ?_) (fun c1 => ?_)
    · exact hP M1 _ hx hW
    · exact absurd (nI_le (Nat.le_refl _) (by omega)) c1
  | succ r ih =>
    intro k M1 hk hx hW
    obtain ⟨I, A, hm, h7, ha, hbb, ht, hdd, hh⟩ := id hW
    obtain ⟨h23, h24, h25, h26, h27, h28, h29, h30, h31, h32, h33, h34, h35, h36, h37, h38, h39⟩ := id hm
    obtain ⟨b26, b27, b28, bN⟩ := ha.2 j hj
    rw [va_up_ne _ _ hne] at b26
    rw [va_up_ne _ _ hne, va_up_ne _ _ hne, va_up_ne _ _ hne] at bN
    obtain ⟨bg, bm⟩ := bN k (by omega)
    refine sg_iload dX7_join_104 rfl ?_
    refine sg_aload_n dX7_join_106 rfl ?_
    refine sg_get dX7_join_107 fl_X7_16 (by first | rfl | assumption) rfl ?_
    refine sg_iload_n dX7_join_110 rfl ?_
    refine sg_ald (j) dX7_join_111 (by first | rfl | assumption) (rfl) (by omega) (by decide) ?_
    rw [b26]
    refine sg_icmp_ge 151 dX7_join_112 (by decide) (fun c1 => ?_) (fun c1 => ?_)
    · exact absurd c1 (nI_ge (by omega) (by omega))
    · refine sg_aload_n dX7_join_115 rfl ?_
      refine sg_iload_n dX7_join_116 rfl ?_
      refine sg_aload_n dX7_join_117 rfl ?_
      refine sg_get dX7_join_118 fl_X7_9 (by first | rfl | assumption) rfl ?_
      refine sg_bipush 80 dX7_join_121 (by decide) ?_
      refine sg_iload_n dX7_join_123 rfl ?_
      refine sg_imul dX7_join_124 ?_
      refine sg_iload dX7_join_125 rfl ?_
      refine sg_iadd dX7_join_127 ?_
      rw [sm_80]
      refine sg_ald (80 * j + k) dX7_join_128 (by first | rfl | assumption) (rfl) (by omega) (by decide) ?_
      refine sg_aload_n dX7_join_129 rfl ?_
      refine sg_get dX7_join_130 fl_X7_13 (by first | rfl | assumption) rfl ?_
      refine sg_bipush 80 dX7_join_133 (by decide) ?_
      refine sg_iload_n dX7_join_135 rfl ?_
      refine sg_imul dX7_join_136 ?_
      refine sg_iload dX7_join_137 rfl ?_
      refine sg_iadd dX7_join_139 ?_
      rw [sm_80]
      refine sg_ald (80 * j + k) dX7_join_140 (by first | rfl | assumption) (rfl) (by omega) (by decide) ?_
      refine sg_iconst 1 dX7_join_141 (by decide) ?_
      rw [bg, bm]
      refine sg_V4 dX7_join_142 cv_X7_91 h23 (w_put (k := 1) (fg j k) (fm j k) rfl rfl hi hc (by rw [va_up_self]; omega) (sm_hl1 hln (by omega)) hW) (Nat.le_of_ble_eq_true rfl) (Nat.le_of_ble_eq_true rfl) (Nat.le_of_ble_eq_true rfl) (Nat.le_of_ble_eq_true rfl) (fun r9 M4 hp => ?_)
      obtain ⟨rfl, x4, W4⟩ := hp
      simp only [va_up_self, va_up_up] at W4
      refine sg_iinc _ dX7_join_145 rfl (sm_inc k) (by decide) ?_
      refine sg_goto 104 dX7_join_148 (by decide) ?_
      refine ih (k + 1) M4 (by omega) (hx.tr x4) (W4.ra (fun t ht => ?_))
      by_cases e : t = i
      · subst e
        simp only [va_up_self]
        refine ⟨by omega, trivial, trivial, fun q hq => ?_⟩
        by_cases z : ln t + k ≤ q
        · have hji : 0 + (q - ln t) = k := by omega
          exact ⟨by rw [if_pos ⟨z, hq⟩, if_pos (by omega), hji], by rw [if_pos ⟨z, hq⟩, if_pos (by omega), hji]⟩
        · exact ⟨by rw [if_neg (fun w => z w.1)], by rw [if_neg (fun w => z w.1)]⟩
      · simp only [va_up_ne _ _ e]
        exact ⟨trivial, trivial, trivial, fun k hk => ⟨trivial, trivial⟩⟩
theorem sm_need1 {x : Int32} (h : 0 ≤ x.toInt) {α : Type} (a b : α) : (if x ≤ 0 then a else b) = (if x = 0 then a else b) := by
  by_cases e : x = 0
  · rw [if_pos e, if_pos ((sm_nmz h).mpr e)]
  · rw [if_neg e, if_neg (fun q => e ((sm_nmz h).mp q))]
theorem m_join (i j : Int32) (hc : c ≤ 40) (hln : ∀ t, t < c → ln t ≤ 80) (hnm : ∀ t, t < c → 0 ≤ (nm t).toInt) (hz : τ.1 ≤ 200) (hW : sm_W M th c ln fg fm ow nm r1 r2 r3 fame cu it yr τ dc ws to gr sp pd hb) : sm_Ct l b D cA yX7_join cX7_join 5 (some .int) 2 0 0 [.ref 23, .int i, .int j] M (fun r M1 => sm_ex M M1 sm_ml ∧ (sm_joinc c ln ow nm τ i j → r = some (.int (nI (ln i.toInt.toNat + ln j.toInt.toNat))) ∧ sm_W M1 0 c (va_up (va_up ln i.toInt.toNat (ln i.toInt.toNat + ln j.toInt.toNat)) j.toInt.toNat 0) (va_up fg i.toInt.toNat (fun t => if ln i.toInt.toNat ≤ t ∧ t < ln i.toInt.toNat + (ln j.toInt.toNat - 0) then fg j.toInt.toNat (0 + (t - ln i.toInt.toNat)) else fg i.toInt.toNat t)) (va_up fm i.toInt.toNat (fun t => if ln i.toInt.toNat ≤ t ∧ t < ln i.toInt.toNat + (ln j.toInt.toNat - 0) then fm j.toInt.toNat (0 + (t - ln i.toInt.toNat)) else fm i.toInt.toNat t)) ow (va_up (va_up nm i.toInt.toNat (if nm i.toInt.toNat = 0 then nm j.toInt.toNat else nm i.toInt.toNat)) j.toInt.toNat 0) r1 r2 r3 fame cu it yr (sm_sayIf (if nm i.toInt.toNat = 0 then nm j.toInt.toNat else nm i.toInt.toNat) 4 (nI (ln i.toInt.toNat + ln j.toInt.toNat)) yr (if nm i.toInt.toNat = 0 then τ else sm_sayIf (nm j.toInt.toNat) 5 0 yr τ)) dc ws to gr sp pd hb) ∧ (¬ sm_joinc c ln ow nm τ i j → r = some (.int (-1)) ∧ sm_W M1 0 c ln fg fm ow nm r1 r2 r3 fame cu it yr τ dc ws to gr sp pd hb)) := by
  obtain ⟨I, A, hm, h7, ha, hbb, ht, hdd, hh⟩ := id hW
  obtain ⟨h23, h24, h25, h26, h27, h28, h29, h30, h31, h32, h33, h34, h35, h36, h37, h38, h39⟩ := id hm
  refine sm_enter (by decide +kernel) rfl (fun _ => Nat.le_of_ble_eq_true rfl) ?_
  refine sg_aload_n dX7_join_0 rfl ?_
  refine sg_iconst 0 dX7_join_1 (by decide) ?_
  refine sg_putx dX7_join_2 fl_X7_68 ft_X7_18 h23 (Nat.le_of_ble_eq_true rfl) (fun M2 x2 q2 => ?_)
  have W2 : sm_W M2 0 c ln fg fm ow nm r1 r2 r3 fame cu it yr τ dc ws to gr sp pd hb := ⟨upd I 7 0, A, hm.o x2 q2, rfl, ha, hbb, ht, hdd, hh⟩
  have X2 : sm_ex M M2 sm_ml := x2.mono (by decide)
  clear q2 x2 hh hdd ht hbb ha h7 hm h23 h24 h25 h26 h27 h28 h29 h30 h31 h32 h33 h34 h35 h36 h37 h38 h39
  obtain ⟨I, A, hm, h7, ha, hbb, ht, hdd, hh⟩ := id W2
  obtain ⟨h23, h24, h25, h26, h27, h28, h29, h30, h31, h32, h33, h34, h35, h36, h37, h38, h39⟩ := id hm
  refine sg_aload_n dX7_join_5 rfl ?_
  refine sg_iload_n dX7_join_6 rfl ?_
  refine sg_V1 dX7_join_7 cv_X7_95 h23 (w_isThere i hc hln W2) (Nat.le_of_ble_eq_true rfl) (Nat.le_of_ble_eq_true rfl) (Nat.le_of_ble_eq_true rfl) (Nat.le_of_ble_eq_true rfl) (fun r M1 hp => ?_)
  obtain ⟨rfl, e9⟩ := hp; rw [e9]
  refine sg_bf_eq 59 dX7_join_10 (by decide) (fun c1 => ?_) (fun c1 => ?_)
  · refine sg_iconst (-1) dX7_join_59 (by decide) ?_
    refine sg_ireturn dX7_join_60 rfl (Nat.le_of_ble_eq_true rfl) (Nat.le_of_ble_eq_true rfl) ?_
    exact ⟨X2, fun q => absurd q.1 c1, fun _ => ⟨rfl, W2⟩⟩
  · refine sg_aload_n dX7_join_13 rfl ?_
    refine sg_iload_n dX7_join_14 rfl ?_
    refine sg_V1 dX7_join_15 cv_X7_95 h23 (w_isThere j hc hln W2) (Nat.le_of_ble_eq_true rfl) (Nat.le_of_ble_eq_true rfl) (Nat.le_of_ble_eq_true rfl) (Nat.le_of_ble_eq_true rfl) (fun r M1 hp => ?_)
    obtain ⟨rfl, e9⟩ := hp; rw [e9]
    refine sg_bf_eq 59 dX7_join_18 (by decide) (fun c2 => ?_) (fun c2 => ?_)
    · refine sg_iconst (-1) dX7_join_59 (by decide) ?_
      refine sg_ireturn dX7_join_60 rfl (Nat.le_of_ble_eq_true rfl) (Nat.le_of_ble_eq_true rfl) ?_
      exact ⟨X2, fun q => absurd q.2.1 c2, fun _ => ⟨rfl, W2⟩⟩
    · refine sg_iload_n dX7_join_21 rfl ?_
      refine sg_iload_n dX7_join_22 rfl ?_
      refine sg_icmp_eq 59 dX7_join_23 (by decide) (fun c3 => ?_) (fun c3 => ?_)
      · refine sg_iconst (-1) dX7_join_59 (by decide) ?_
        refine sg_ireturn dX7_join_60 rfl (Nat.le_of_ble_eq_true rfl) (Nat.le_of_ble_eq_true rfl) ?_
        exact ⟨X2, fun q => absurd c3 q.2.2.1, fun _ => ⟨rfl, W2⟩⟩
      · have hne : i.toInt.toNat ≠ j.toInt.toNat := fun e => c3 (by rw [(sm_toN c1.1).1, (sm_toN c2.1).1, e])
        have hi := (sm_toN c1.1).2
        have hj := (sm_toN c2.1).2
        have hli := hln _ hi
        have hlj := hln _ hj
        have ni := hnm _ hi
        have nj := hnm _ hj
        obtain ⟨b26, b27, b28, bN⟩ := ha.2 _ hi
        obtain ⟨d26, d27, d28, dN⟩ := ha.2 _ hj
        refine sg_aload_n dX7_join_26 rfl ?_
        refine sg_get dX7_join_27 fl_X7_19 (by first | rfl | assumption) rfl ?_
        refine sg_iload_n dX7_join_30 rfl ?_
        refine sg_ald (i.toInt.toNat) dX7_join_31 (by first | rfl | assumption) ((sm_toN c1.1).1) (by omega) (by decide) ?_
        refine sg_aload_n dX7_join_32 rfl ?_
        refine sg_get dX7_join_33 fl_X7_19 (by first | rfl | assumption) rfl ?_
        refine sg_iload_n dX7_join_36 rfl ?_
        refine sg_ald (j.toInt.toNat) dX7_join_37 (by first | rfl | assumption) ((sm_toN c2.1).1) (by omega) (by decide) ?_
        rw [b27, d27]
        refine sg_icmp_ne 59 dX7_join_38 (by decide) (fun c4 => ?_) (fun c4 => ?_)
        · refine sg_iconst (-1) dX7_join_59 (by decide) ?_
          refine sg_ireturn dX7_join_60 rfl (Nat.le_of_ble_eq_true rfl) (Nat.le_of_ble_eq_true rfl) ?_
          exact ⟨X2, fun q => absurd q.2.2.2.1 c4, fun _ => ⟨rfl, W2⟩⟩
        · refine sg_aload_n dX7_join_41 rfl ?_
          refine sg_get dX7_join_42 fl_X7_16 (by first | rfl | assumption) rfl ?_
          refine sg_iload_n dX7_join_45 rfl ?_
          refine sg_ald (i.toInt.toNat) dX7_join_46 (by first | rfl | assumption) ((sm_toN c1.1).1) (by omega) (by decide) ?_
          refine sg_aload_n dX7_join_47 rfl ?_
          refine sg_get dX7_join_48 fl_X7_16 (by first | rfl | assumption) rfl ?_
          refine sg_iload_n dX7_join_51 rfl ?_
          refine sg_ald (j.toInt.toNat) dX7_join_52 (by first | rfl | assumption) ((sm_toN c2.1).1) (by omega) (by decide) ?_
          refine sg_iadd dX7_join_53 ?_
          rw [b26, d26, nI_add]
          refine sg_bipush 80 dX7_join_54 (by decide) ?_
          refine sg_icmp_le 61 dX7_join_56 (by decide) (fun c5 => ?_) (fun c5 => ?_)
          · rw [Int32.le_iff_toInt_le, nI_toInt (by omega), ti_80] at c5
            have hlast : ∀ (Post : Option Value → sm_M → Prop) (x3 : Option Value), τ.1 + ((if nm i.toInt.toNat = 0 then 0 else 1) + (if nm j.toInt.toNat = 0 then 0 else 1)) ≤ 200 → (∀ M1 : sm_M, sm_ex M2 M1 sm_ml → sm_W M1 0 c (va_up (va_up ln i.toInt.toNat (ln i.toInt.toNat + ln j.toInt.toNat)) j.toInt.toNat 0) (va_up fg i.toInt.toNat (fun t => if ln i.toInt.toNat ≤ t ∧ t < ln i.toInt.toNat + (ln j.toInt.toNat - 0) then fg j.toInt.toNat (0 + (t - ln i.toInt.toNat)) else fg i.toInt.toNat t)) (va_up fm i.toInt.toNat (fun t => if ln i.toInt.toNat ≤ t ∧ t < ln i.toInt.toNat + (ln j.toInt.toNat - 0) then fm j.toInt.toNat (0 + (t - ln i.toInt.toNat)) else fm i.toInt.toNat t)) ow (va_up (va_up nm i.toInt.toNat (if nm i.toInt.toNat = 0 then nm j.toInt.toNat else nm i.toInt.toNat)) j.toInt.toNat 0) r1 r2 r3 fame cu it yr (sm_sayIf (if nm i.toInt.toNat = 0 then nm j.toInt.toNat else nm i.toInt.toNat) 4 (nI (ln i.toInt.toNat + ln j.toInt.toNat)) yr (if nm i.toInt.toNat = 0 then τ else sm_sayIf (nm j.toInt.toNat) 5 0 yr τ)) dc ws to gr sp pd hb → Post (some (.int (nI (ln i.toInt.toNat + ln j.toInt.toNat)))) M1) → sm_G l b D cA yX7_join cX7_join 5 (some .int) 2 0 0 Post 0 0 101 [some (.ref 23), some (.int i), some (.int j), x3, none] [] M2 := fun Post x3 hroom hP => by
              refine sg_iconst (nI 0) dX7_join_101 (by decide) ?_
              refine sg_istore dX7_join_102 (by decide) ?_
              refine lp_mjoin (M := M2) (fg := fg) (fm := fm) (ow := ow) (nm := nm) (sm_toN c1.1).1 (sm_toN c2.1).1 hi hj hne hc (by omega) hln (fun M3 x4 e3 W3 => ?_) (ln j.toInt.toNat) 0 M2 (by omega) sm_ex.rf (W2.ra (fun t ht => ?_))
              · obtain ⟨I, A, hm, h7, ha, hbb, ht, hdd, hh⟩ := id W3
                obtain ⟨h23, h24, h25, h26, h27, h28, h29, h30, h31, h32, h33, h34, h35, h36, h37, h38, h39⟩ := id hm
                refine sg_aload_n dX7_join_151 rfl ?_
                refine sg_get dX7_join_152 fl_X7_16 (by first | rfl | assumption) rfl ?_
                refine sg_iload_n dX7_join_155 rfl ?_
                refine sg_iconst 0 dX7_join_156 (by decide) ?_
                refine sg_astx j.toInt.toNat dX7_join_157 h26 (sm_toN c2.1).1 (by omega) (by decide) (fun M4 x4 g4 => ?_)
                have W4 := (⟨I, _, hm.u26 x4 g4, h7, ha.len rfl (Nat.zero_le _), hbb, ht, hdd, hh⟩ : sm_W M4 0 c (va_up (va_up ln i.toInt.toNat (ln i.toInt.toNat + ln j.toInt.toNat)) j.toInt.toNat 0) (va_up fg i.toInt.toNat (fun t => if ln i.toInt.toNat ≤ t ∧ t < ln i.toInt.toNat + (ln j.toInt.toNat - 0) then fg j.toInt.toNat (0 + (t - ln i.toInt.toNat)) else fg i.toInt.toNat t)) (va_up fm i.toInt.toNat (fun t => if ln i.toInt.toNat ≤ t ∧ t < ln i.toInt.toNat + (ln j.toInt.toNat - 0) then fm j.toInt.toNat (0 + (t - ln i.toInt.toNat)) else fm i.toInt.toNat t)) ow nm r1 r2 r3 fame cu it yr τ dc ws to gr sp pd hb)
                refine mj_A (sm_toN c1.1).1 (sm_toN c2.1).1 hi hj hc ni nj hroom W4 (fun M5 x5 W5 => ?_)
                rw [va_up_ne _ _ hne, va_up_self] at W5 ⊢
                exact hP M5 (e3.tr ((x4.mono (by decide)).tr x5)) W5
              · by_cases e : t = i.toInt.toNat
                · subst e
                  simp only [va_up_self]
                  exact ⟨by omega, trivial, trivial, fun k hk => ⟨by rw [if_neg (by omega)], by rw [if_neg (by omega)]⟩⟩
                · simp only [va_up_ne _ _ e]
                  exact ⟨trivial, trivial, trivial, fun k hk => ⟨trivial, trivial⟩⟩
            have hroomP : ∀ (Post : Option Value → sm_M → Prop) (x3 : Int32), x3 = nI ((if nm i.toInt.toNat = 0 then 0 else 1) + (if nm j.toInt.toNat = 0 then 0 else 1)) → (τ.1 + ((if nm i.toInt.toNat = 0 then 0 else 1) + (if nm j.toInt.toNat = 0 then 0 else 1)) ≤ 200 → ∀ M1 : sm_M, sm_ex M2 M1 sm_ml → sm_W M1 0 c (va_up (va_up ln i.toInt.toNat (ln i.toInt.toNat + ln j.toInt.toNat)) j.toInt.toNat 0) (va_up fg i.toInt.toNat (fun t => if ln i.toInt.toNat ≤ t ∧ t < ln i.toInt.toNat + (ln j.toInt.toNat - 0) then fg j.toInt.toNat (0 + (t - ln i.toInt.toNat)) else fg i.toInt.toNat t)) (va_up fm i.toInt.toNat (fun t => if ln i.toInt.toNat ≤ t ∧ t < ln i.toInt.toNat + (ln j.toInt.toNat - 0) then fm j.toInt.toNat (0 + (t - ln i.toInt.toNat)) else fm i.toInt.toNat t)) ow (va_up (va_up nm i.toInt.toNat (if nm i.toInt.toNat = 0 then nm j.toInt.toNat else nm i.toInt.toNat)) j.toInt.toNat 0) r1 r2 r3 fame cu it yr (sm_sayIf (if nm i.toInt.toNat = 0 then nm j.toInt.toNat else nm i.toInt.toNat) 4 (nI (ln i.toInt.toNat + ln j.toInt.toNat)) yr (if nm i.toInt.toNat = 0 then τ else sm_sayIf (nm j.toInt.toNat) 5 0 yr τ)) dc ws to gr sp pd hb → Post (some (.int (nI (ln i.toInt.toNat + ln j.toInt.toNat)))) M1) → (¬ τ.1 + ((if nm i.toInt.toNat = 0 then 0 else 1) + (if nm j.toInt.toNat = 0 then 0 else 1)) ≤ 200 → Post (some (.int (-1))) M2) → sm_G l b D cA yX7_join cX7_join 5 (some .int) 2 0 0 Post 0 0 90 [some (.ref 23), some (.int i), some (.int j), none, none] [.int x3] M2 := fun Post x3 hx3 hyes hno => by
              subst hx3
              refine sg_istore_n dX7_join_90 (by decide) ?_
              refine sg_aload_n dX7_join_91 rfl ?_
              refine sg_iload_n dX7_join_92 rfl ?_
              refine sg_V1 dX7_join_93 cv_X7_99 h23 (w_hasRoom _ rfl (by split <;> split <;> omega) hz W2) (Nat.le_of_ble_eq_true rfl) (Nat.le_of_ble_eq_true rfl) (Nat.le_of_ble_eq_true rfl) (Nat.le_of_ble_eq_true rfl) (fun r9 M9 hp => ?_)
              obtain ⟨rfl, e9⟩ := hp
              rw [e9]
              refine sg_bf_ne 101 dX7_join_96 (by decide) (fun c6 => ?_) (fun c6 => ?_)
              · exact hlast _ _ c6 (hyes c6)
              · refine sg_iconst (-1) dX7_join_99 (by decide) ?_
                refine sg_ireturn dX7_join_100 rfl (Nat.le_of_ble_eq_true rfl) (Nat.le_of_ble_eq_true rfl) ?_
                exact hno c6
            refine sg_aload_n dX7_join_61 rfl ?_
            refine sg_get dX7_join_62 fl_X7_22 (by first | rfl | assumption) rfl ?_
            refine sg_iload_n dX7_join_65 rfl ?_
            refine sg_ald (i.toInt.toNat) dX7_join_66 (by first | rfl | assumption) ((sm_toN c1.1).1) (by omega) (by decide) ?_
            rw [b28]
            refine sg_if_le 74 dX7_join_67 (by decide) (fun c7 => ?_) (fun c7 => ?_)
            · have c7' := (sm_nmz ni).mp c7
              refine sg_iconst 0 dX7_join_74 (by decide) ?_
              refine sg_aload_n dX7_join_75 rfl ?_
              refine sg_get dX7_join_76 fl_X7_22 (by first | rfl | assumption) rfl ?_
              refine sg_iload_n dX7_join_79 rfl ?_
              refine sg_ald (j.toInt.toNat) dX7_join_80 (by first | rfl | assumption) ((sm_toN c2.1).1) (by omega) (by decide) ?_
              rw [d28]
              refine sg_if_le 88 dX7_join_81 (by decide) (fun c8 => ?_) (fun c8 => ?_)
              · have c8' := (sm_nmz nj).mp c8
                refine sg_iconst 0 dX7_join_88 (by decide) ?_
                refine sg_iadd dX7_join_89 ?_
                exact hroomP _ _ (by rw [if_pos c7', if_pos c8']; decide) (fun c6 M1 x1 W1 => ⟨X2.tr x1, fun _ => ⟨rfl, W1⟩, fun q => absurd ⟨c1, c2, c3, c4, by omega, c6⟩ q⟩) (fun c6 => ⟨X2, fun q => absurd q.2.2.2.2.2 c6, fun _ => ⟨rfl, W2⟩⟩)
              · have c8' : ¬ nm j.toInt.toNat = 0 := fun q => c8 ((sm_nmz nj).mpr q)
                refine sg_iconst 1 dX7_join_84 (by decide) ?_
                refine sg_goto 89 dX7_join_85 (by decide) ?_
                refine sg_iadd dX7_join_89 ?_
                exact hroomP _ _ (by rw [if_pos c7', if_neg c8']; decide) (fun c6 M1 x1 W1 => ⟨X2.tr x1, fun _ => ⟨rfl, W1⟩, fun q => absurd ⟨c1, c2, c3, c4, by omega, c6⟩ q⟩) (fun c6 => ⟨X2, fun q => absurd q.2.2.2.2.2 c6, fun _ => ⟨rfl, W2⟩⟩)
            · have c7' : ¬ nm i.toInt.toNat = 0 := fun q => c7 ((sm_nmz ni).mpr q)
              refine sg_iconst 1 dX7_join_70 (by decide) ?_
              refine sg_goto 75 dX7_join_71 (by decide) ?_
              refine sg_aload_n dX7_join_75 rfl ?_
              refine sg_get dX7_join_76 fl_X7_22 (by first | rfl | assumption) rfl ?_
              refine sg_iload_n dX7_join_79 rfl ?_
              refine sg_ald (j.toInt.toNat) dX7_join_80 (by first | rfl | assumption) ((sm_toN c2.1).1) (by omega) (by decide) ?_
              rw [d28]
              refine sg_if_le 88 dX7_join_81 (by decide) (fun c8 => ?_) (fun c8 => ?_)
              · have c8' := (sm_nmz nj).mp c8
                refine sg_iconst 0 dX7_join_88 (by decide) ?_
                refine sg_iadd dX7_join_89 ?_
                exact hroomP _ _ (by rw [if_neg c7', if_pos c8']; decide) (fun c6 M1 x1 W1 => ⟨X2.tr x1, fun _ => ⟨rfl, W1⟩, fun q => absurd ⟨c1, c2, c3, c4, by omega, c6⟩ q⟩) (fun c6 => ⟨X2, fun q => absurd q.2.2.2.2.2 c6, fun _ => ⟨rfl, W2⟩⟩)
              · have c8' : ¬ nm j.toInt.toNat = 0 := fun q => c8 ((sm_nmz nj).mpr q)
                refine sg_iconst 1 dX7_join_84 (by decide) ?_
                refine sg_goto 89 dX7_join_85 (by decide) ?_
                refine sg_iadd dX7_join_89 ?_
                exact hroomP _ _ (by rw [if_neg c7', if_neg c8']; decide) (fun c6 M1 x1 W1 => ⟨X2.tr x1, fun _ => ⟨rfl, W1⟩, fun q => absurd ⟨c1, c2, c3, c4, by omega, c6⟩ q⟩) (fun c6 => ⟨X2, fun q => absurd q.2.2.2.2.2 c6, fun _ => ⟨rfl, W2⟩⟩)
          · rw [Int32.le_iff_toInt_le, nI_toInt (by omega), ti_80] at c5
            refine sg_iconst (-1) dX7_join_59 (by decide) ?_
            refine sg_ireturn dX7_join_60 rfl (Nat.le_of_ble_eq_true rfl) (Nat.le_of_ble_eq_true rfl) ?_
            exact ⟨X2, fun q => absurd q.2.2.2.2.1 (by omega), fun _ => ⟨rfl, W2⟩⟩
theorem m_give (i o : Int32) (hc : c ≤ 40) (hln : ∀ t, t < c → ln t ≤ 80) (hnm : ∀ t, t < c → 0 ≤ (nm t).toInt) (hz : τ.1 ≤ 200) (hW : sm_W M th c ln fg fm ow nm r1 r2 r3 fame cu it yr τ dc ws to gr sp pd hb) : sm_Ct l b D cA yX7_give cX7_give 3 (some .boolean) 2 0 0 [.ref 23, .int i, .int o] M (fun r M1 => sm_ex M M1 sm_ml ∧ ((((0 ≤ i.toInt ∧ i.toInt < c) ∧ 0 < ln i.toInt.toNat) ∧ (0 ≤ o.toInt ∧ o.toInt < 10) ∧ ¬ ow i.toInt.toNat = o ∧ τ.1 + (if nm i.toInt.toNat = 0 then 0 else 1) ≤ 200) → r = some (.int 1) ∧ sm_W M1 0 c ln fg fm (va_up ow i.toInt.toNat o) nm r1 r2 r3 fame cu it yr (sm_sayIf (nm i.toInt.toNat) 2 o yr τ) dc ws to gr sp pd hb) ∧ (¬ (((0 ≤ i.toInt ∧ i.toInt < c) ∧ 0 < ln i.toInt.toNat) ∧ (0 ≤ o.toInt ∧ o.toInt < 10) ∧ ¬ ow i.toInt.toNat = o ∧ τ.1 + (if nm i.toInt.toNat = 0 then 0 else 1) ≤ 200) → r = some (.int 0) ∧ sm_W M1 0 c ln fg fm ow nm r1 r2 r3 fame cu it yr τ dc ws to gr sp pd hb)) := by
  obtain ⟨I, A, hm, h7, ha, hbb, ht, hdd, hh⟩ := id hW
  obtain ⟨h23, h24, h25, h26, h27, h28, h29, h30, h31, h32, h33, h34, h35, h36, h37, h38, h39⟩ := id hm
  refine sm_enter (by decide +kernel) rfl (fun _ => Nat.le_of_ble_eq_true rfl) ?_
  refine sg_aload_n dX7_give_0 rfl ?_
  refine sg_iconst 0 dX7_give_1 (by decide) ?_
  refine sg_putx dX7_give_2 fl_X7_68 ft_X7_18 h23 (Nat.le_of_ble_eq_true rfl) (fun M2 x2 q2 => ?_)
  have W2 : sm_W M2 0 c ln fg fm ow nm r1 r2 r3 fame cu it yr τ dc ws to gr sp pd hb := ⟨upd I 7 0, A, hm.o x2 q2, rfl, ha, hbb, ht, hdd, hh⟩
  have X2 : sm_ex M M2 sm_ml := x2.mono (by decide)
  clear q2 x2 hh hdd ht hbb ha h7 hm h23 h24 h25 h26 h27 h28 h29 h30 h31 h32 h33 h34 h35 h36 h37 h38 h39
  obtain ⟨I, A, hm, h7, ha, hbb, ht, hdd, hh⟩ := id W2
  obtain ⟨h23, h24, h25, h26, h27, h28, h29, h30, h31, h32, h33, h34, h35, h36, h37, h38, h39⟩ := id hm
  refine sg_aload_n dX7_give_5 rfl ?_
  refine sg_iload_n dX7_give_6 rfl ?_
  refine sg_V1 dX7_give_7 cv_X7_95 h23 (w_isThere i hc hln W2) (Nat.le_of_ble_eq_true rfl) (Nat.le_of_ble_eq_true rfl) (Nat.le_of_ble_eq_true rfl) (Nat.le_of_ble_eq_true rfl) (fun r M1 hp => ?_)
  obtain ⟨rfl, e9⟩ := hp; rw [e9]
  refine sg_bf_eq 50 dX7_give_10 (by decide) (fun c1 => ?_) (fun c1 => ?_)
  · refine sg_iconst 0 dX7_give_50 (by decide) ?_
    refine sg_zreturn dX7_give_51 rfl (by first | decide | assumption) (Nat.le_of_ble_eq_true rfl) (Nat.le_of_ble_eq_true rfl) ?_
    exact ⟨X2, fun q => absurd q.1 c1, fun _ => ⟨rfl, W2⟩⟩
  · have hi := (sm_toN c1.1).2
    have ni := hnm _ hi
    obtain ⟨b26, b27, b28, bN⟩ := ha.2 _ hi
    refine sg_iload_n dX7_give_13 rfl ?_
    refine sg_iconst 0 dX7_give_14 (by decide) ?_
    refine sg_bipush 9 dX7_give_15 (by decide) ?_
    refine sg_S3 dX7_give_17 cs_X7_74 (c_in _ _ _) (Nat.le_of_ble_eq_true rfl) (Nat.le_of_ble_eq_true rfl) (Nat.le_of_ble_eq_true rfl) (Nat.le_of_ble_eq_true rfl) (fun r M1 hp => ?_)
    obtain ⟨rfl, e9⟩ := hp; rw [e9]
    refine sg_bf_eq 50 dX7_give_20 (by decide) (fun c2 => ?_) (fun c2 => ?_)
    · rw [ti_0, ti_9] at c2
      refine sg_iconst 0 dX7_give_50 (by decide) ?_
      refine sg_zreturn dX7_give_51 rfl (by first | decide | assumption) (Nat.le_of_ble_eq_true rfl) (Nat.le_of_ble_eq_true rfl) ?_
      exact ⟨X2, fun q => absurd q.2.1 (by omega), fun _ => ⟨rfl, W2⟩⟩
    · rw [ti_0, ti_9] at c2
      refine sg_aload_n dX7_give_23 rfl ?_
      refine sg_get dX7_give_24 fl_X7_19 (by first | rfl | assumption) rfl ?_
      refine sg_iload_n dX7_give_27 rfl ?_
      refine sg_ald (i.toInt.toNat) dX7_give_28 (by first | rfl | assumption) ((sm_toN c1.1).1) (by omega) (by decide) ?_
      refine sg_iload_n dX7_give_29 rfl ?_
      rw [b27]
      refine sg_icmp_eq 50 dX7_give_30 (by decide) (fun c3 => ?_) (fun c3 => ?_)
      · refine sg_iconst 0 dX7_give_50 (by decide) ?_
        refine sg_zreturn dX7_give_51 rfl (by first | decide | assumption) (Nat.le_of_ble_eq_true rfl) (Nat.le_of_ble_eq_true rfl) ?_
        exact ⟨X2, fun q => absurd c3 q.2.2.1, fun _ => ⟨rfl, W2⟩⟩
      · refine sg_aload_n dX7_give_33 rfl ?_
        refine sg_get dX7_give_34 fl_X7_22 (by first | rfl | assumption) rfl ?_
        refine sg_iload_n dX7_give_37 rfl ?_
        refine sg_ald (i.toInt.toNat) dX7_give_38 (by first | rfl | assumption) ((sm_toN c1.1).1) (by omega) (by decide) ?_
        rw [b28]
        refine sg_if_le 52 dX7_give_39 (by decide) (fun c4 => ?_) (fun c4 => ?_)
        · have c4' := (sm_nmz ni).mp c4
          refine sg_aload_n dX7_give_52 rfl ?_
          refine sg_iload_n dX7_give_53 rfl ?_
          refine sg_iload_n dX7_give_54 rfl ?_
          refine sg_V2 dX7_give_55 cv_X7_109 h23 (w_hand o (sm_toN c1.1).1 hi hc ni (Or.inl c4') hln W2) (Nat.le_of_ble_eq_true rfl) (Nat.le_of_ble_eq_true rfl) (Nat.le_of_ble_eq_true rfl) (Nat.le_of_ble_eq_true rfl) (fun r9 M6 hp => ?_)
          obtain ⟨rfl, x6, W6⟩ := hp
          refine sg_iconst 1 dX7_give_58 (by decide) ?_
          refine sg_zreturn dX7_give_59 rfl (by first | decide | assumption) (Nat.le_of_ble_eq_true rfl) (Nat.le_of_ble_eq_true rfl) ?_
          exact ⟨X2.tr x6, fun _ => ⟨rfl, W6⟩, fun q => absurd ⟨c1, by omega, c3, by rw [if_pos c4']; exact hz⟩ q⟩
        · have c4' : ¬ nm i.toInt.toNat = 0 := fun q => c4 ((sm_nmz ni).mpr q)
          refine sg_aload_n dX7_give_42 rfl ?_
          refine sg_iconst 1 dX7_give_43 (by decide) ?_
          refine sg_V1 dX7_give_44 cv_X7_99 h23 (w_hasRoom 1 rfl (by omega) hz W2) (Nat.le_of_ble_eq_true rfl) (Nat.le_of_ble_eq_true rfl) (Nat.le_of_ble_eq_true rfl) (Nat.le_of_ble_eq_true rfl) (fun r9 M9 hp => ?_)
          obtain ⟨rfl, e9⟩ := hp
          rw [e9]
          refine sg_bf_ne 52 dX7_give_47 (by decide) (fun c5 => ?_) (fun c5 => ?_)
          · refine sg_aload_n dX7_give_52 rfl ?_
            refine sg_iload_n dX7_give_53 rfl ?_
            refine sg_iload_n dX7_give_54 rfl ?_
            refine sg_V2 dX7_give_55 cv_X7_109 h23 (w_hand o (sm_toN c1.1).1 hi hc ni (Or.inr (by omega)) hln W2) (Nat.le_of_ble_eq_true rfl) (Nat.le_of_ble_eq_true rfl) (Nat.le_of_ble_eq_true rfl) (Nat.le_of_ble_eq_true rfl) (fun r9 M6 hp => ?_)
            obtain ⟨rfl, x6, W6⟩ := hp
            refine sg_iconst 1 dX7_give_58 (by decide) ?_
            refine sg_zreturn dX7_give_59 rfl (by first | decide | assumption) (Nat.le_of_ble_eq_true rfl) (Nat.le_of_ble_eq_true rfl) ?_
            exact ⟨X2.tr x6, fun _ => ⟨rfl, W6⟩, fun q => absurd ⟨c1, by omega, c3, by rw [if_neg c4']; exact c5⟩ q⟩
          · refine sg_iconst 0 dX7_give_50 (by decide) ?_
            refine sg_zreturn dX7_give_51 rfl (by first | decide | assumption) (Nat.le_of_ble_eq_true rfl) (Nat.le_of_ble_eq_true rfl) ?_
            exact ⟨X2, fun q => absurd q.2.2.2 (by rw [if_neg c4']; exact c5), fun _ => ⟨rfl, W2⟩⟩
end SM62
