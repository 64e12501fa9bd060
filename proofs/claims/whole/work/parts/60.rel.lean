/-! the reference's state against the class's: what W says -/
theorem sm_Ct.post {l : Launch} {b : Nat} {D : va_G} {cA : Nat → ClassId} {y : MethodName} {cc : ByteArray} {nL : Nat} {ret : Option FieldType} {fr mc ms : Nat} {av : List Value} {M : sm_M} {P1 P2 : Option Value → sm_M → Prop} (h : sm_Ct l b D cA y cc nL ret fr mc ms av M P1) (hi : ∀ r M1, P1 r M1 → P2 r M1) : sm_Ct l b D cA y cc nL ret fr mc ms av M P2 := by
  unfold sm_Ct Met MetFree at h ⊢
  intro p e h1 h2 h3 s m args below hf ha hP hK
  obtain ⟨n, o, a1, a2, a3, a4, L, a5, a6⟩ := h p e h1 h2 h3 s m args below hf ha hP hK
  obtain ⟨⟨r, M1, e1, p1, hh⟩, hF⟩ := a4
  exact ⟨n, o, a1, a2, a3, ⟨⟨r, M1, e1, hi r M1 p1, hh⟩, hF⟩, L, a5, a6⟩
def sm_Ra (I : Nat → Int32) (A : Nat → Nat → Int32) (c : Nat) (ln : Nat → Nat) (fg fm : Nat → Nat → Int32) (ow nm : Nat → Int32) : Prop := I 0 = nI c ∧ ∀ s, s < c → A 26 s = nI (ln s) ∧ A 27 s = ow s ∧ A 28 s = nm s ∧ ∀ k, k < ln s → A 24 (80 * s + k) = fg s k ∧ A 25 (80 * s + k) = fm s k
def sm_Rb (I : Nat → Int32) (A : Nat → Nat → Int32) (r1 r2 r3 : Nat → Int32) (fame cu it yr : Int32) : Prop := I 1 = fame ∧ I 2 = cu ∧ I 3 = it ∧ I 5 = yr ∧ ∀ j, j < 5 → A 29 j = r1 j ∧ A 30 j = r2 j ∧ A 31 j = r3 j
def sm_Rt (I : Nat → Int32) (A : Nat → Nat → Int32) (τ : sm_T5) : Prop := I 4 = nI τ.1 ∧ ∀ e, e < τ.1 → A 32 (4 * e) = τ.2.1 e ∧ A 32 (4 * e + 1) = τ.2.2.1 e ∧ A 32 (4 * e + 2) = τ.2.2.2.1 e ∧ A 32 (4 * e + 3) = τ.2.2.2.2 e
def sm_Rd (I : Nat → Int32) (A : Nat → Nat → Int32) (dc : Nat) (ws to gr sp pd : Nat → Int32) : Prop := I 6 = nI dc ∧ ∀ d, d < dc → A 33 (5 * d) = ws d ∧ A 33 (5 * d + 1) = to d ∧ (pd d = -1 → A 33 (5 * d + 2) = sp d) ∧ A 33 (5 * d + 3) = gr d ∧ A 33 (5 * d + 4) = pd d
def sm_Rh (A : Nat → Nat → Int32) (hb : Nat → Nat) : Prop := ∀ j, j < 5 → A 34 j = nI (hb j)
abbrev sm_ml : List Nat := [23, 24, 25, 26, 27, 28, 29, 30, 31, 32, 33, 34, 35, 36, 37, 38, 39]
def sm_W (M : sm_M) (th : Int32) (c : Nat) (ln : Nat → Nat) (fg fm : Nat → Nat → Int32) (ow nm r1 r2 r3 : Nat → Int32) (fame cu it yr : Int32) (τ : sm_T5) (dc : Nat) (ws to gr sp pd : Nat → Int32) (hb : Nat → Nat) : Prop := ∃ (I : Nat → Int32) (A : Nat → Nat → Int32), sm_mm M I A ∧ I 7 = th ∧ sm_Ra I A c ln fg fm ow nm ∧ sm_Rb I A r1 r2 r3 fame cu it yr ∧ sm_Rt I A τ ∧ sm_Rd I A dc ws to gr sp pd ∧ sm_Rh A hb
theorem sm_Ra.up {I I1 : Nat → Int32} {A A1 : Nat → Nat → Int32} {c c1 s n : Nat} {ln : Nat → Nat} {fg fm : Nat → Nat → Int32} {ow nm g1 m1 : Nat → Int32} {o a : Int32} (h : sm_Ra I A c ln fg fm ow nm) (hln : ∀ t, t < c → ln t ≤ 80) (e0 : I1 0 = nI c1) (hc1 : ∀ t, t < c1 → t ≠ s → t < c) (h26 : A1 26 s = nI n) (h27 : A1 27 s = o) (h28 : A1 28 s = a) (ho : ∀ t, t ≠ s → A1 26 t = A 26 t ∧ A1 27 t = A 27 t ∧ A1 28 t = A 28 t) (hr : ∀ j, ¬ (80 * s ≤ j ∧ j < 80 * s + 80) → A1 24 j = A 24 j ∧ A1 25 j = A 25 j) (hN : ∀ k, k < n → A1 24 (80 * s + k) = g1 k ∧ A1 25 (80 * s + k) = m1 k) : sm_Ra I1 A1 c1 (va_up ln s n) (va_up fg s g1) (va_up fm s m1) (va_up ow s o) (va_up nm s a) := by
  refine ⟨e0, fun t ht => ?_⟩
  by_cases e : t = s
  · subst e
    rw [va_up_self, va_up_self, va_up_self, va_up_self, va_up_self]
    exact ⟨h26, h27, h28, hN⟩
  · rw [va_up_ne _ _ e, va_up_ne _ _ e, va_up_ne _ _ e, va_up_ne _ _ e, va_up_ne _ _ e]
    obtain ⟨b26, b27, b28, bN⟩ := h.2 t (hc1 t ht e)
    obtain ⟨a26, a27, a28⟩ := ho t e
    have hl := hln t (hc1 t ht e)
    exact ⟨a26.trans b26, a27.trans b27, a28.trans b28, fun k hk => ⟨(hr (80 * t + k) (by omega)).1.trans (bN k hk).1, (hr (80 * t + k) (by omega)).2.trans (bN k hk).2⟩⟩
/-- the same strings, one's beads aside -/
theorem sm_Ra.ext {I : Nat → Int32} {A : Nat → Nat → Int32} {c : Nat} {ln ln2 : Nat → Nat} {fg fm fg2 fm2 : Nat → Nat → Int32} {ow nm ow2 nm2 : Nat → Int32} (h : sm_Ra I A c ln fg fm ow nm) (e : ∀ s, s < c → ln s = ln2 s ∧ ow s = ow2 s ∧ nm s = nm2 s ∧ ∀ k, k < ln s → fg s k = fg2 s k ∧ fm s k = fm2 s k) : sm_Ra I A c ln2 fg2 fm2 ow2 nm2 := ⟨h.1, fun s hs => by
  obtain ⟨b26, b27, b28, bN⟩ := h.2 s hs
  obtain ⟨e1, e2, e3, e4⟩ := e s hs
  exact ⟨b26.trans (by rw [e1]), b27.trans e2, b28.trans e3, fun k hk => ⟨(bN k (by omega)).1.trans (e4 k (by omega)).1, (bN k (by omega)).2.trans (e4 k (by omega)).2⟩⟩⟩
theorem sm_Rt.say {I I1 : Nat → Int32} {A A1 : Nat → Nat → Int32} {τ : sm_T5} {wh kd nu yr : Int32} (h : sm_Rt I A τ) (e4 : I1 4 = nI (τ.1 + 1)) (e32 : A1 32 = sm_msay wh kd nu yr τ.1 (A 32)) : sm_Rt I1 A1 (sm_say wh kd nu yr τ) := by
  refine ⟨e4, fun e he => ?_⟩
  replace he : e < τ.1 + 1 := he
  rw [e32]
  unfold sm_msay sm_say
  show upd _ _ _ _ = upd τ.2.1 τ.1 wh e ∧ upd _ _ _ _ = upd τ.2.2.1 τ.1 kd e ∧ upd _ _ _ _ = upd τ.2.2.2.1 τ.1 nu e ∧ upd _ _ _ _ = upd τ.2.2.2.2 τ.1 yr e
  unfold upd
  by_cases ee : e = τ.1
  · subst ee
    refine ⟨?_, ?_, ?_, ?_⟩
    · rw [if_neg (by omega), if_neg (by omega), if_neg (by omega), if_pos rfl, if_pos rfl]
    · rw [if_neg (by omega), if_neg (by omega), if_pos rfl, if_pos rfl]
    · rw [if_neg (by omega), if_pos rfl, if_pos rfl]
    · rw [if_pos rfl, if_pos rfl]
  · obtain ⟨b0, b1, b2, b3⟩ := h.2 e (by omega)
    rw [if_neg ee, if_neg ee, if_neg ee, if_neg ee]
    refine ⟨?_, ?_, ?_, ?_⟩
    · rw [if_neg (by omega), if_neg (by omega), if_neg (by omega), if_neg (by omega)]
      exact b0
    · rw [if_neg (by omega), if_neg (by omega), if_neg (by omega), if_neg (by omega)]
      exact b1
    · rw [if_neg (by omega), if_neg (by omega), if_neg (by omega), if_neg (by omega)]
      exact b2
    · rw [if_neg (by omega), if_neg (by omega), if_neg (by omega), if_neg (by omega)]
      exact b3
theorem sm_pos {n : Nat} (h : n < 2 ^ 31) : 0 < (nI n).toInt ↔ 0 < n := by
  rw [nI_toInt h]
  omega
/-- a name is above 0 just where it isn't 0 -/
theorem sm_nmz {x : Int32} (h : 0 ≤ x.toInt) : x ≤ 0 ↔ x = 0 := by
  rw [Int32.le_iff_toInt_le, ← Int32.toInt_inj, ti_0]
  omega
section SM60
variable {l : Launch} {b : Nat} {D : va_G} {cA : Nat → ClassId} {M : sm_M}
variable {th : Int32} {c dc : Nat} {ln hb : Nat → Nat} {fg fm : Nat → Nat → Int32} {ow nm r1 r2 r3 ws to gr sp pd : Nat → Int32} {fame cu it yr : Int32} {τ : sm_T5}
theorem w_isThere (s : Int32) (hc : c ≤ 40) (hln : ∀ t, t < c → ln t ≤ 80) (hW : sm_W M th c ln fg fm ow nm r1 r2 r3 fame cu it yr τ dc ws to gr sp pd hb) : sm_Ct l b D cA yX7_isThere cX7_isThere 2 (some .boolean) 1 0 0 [.ref 23, .int s] M (fun r M1 => r = some (.int (if sm_lvg c ln s then 1 else 0)) ∧ M1 = M) := by
  obtain ⟨I, A, hm, h7, ha, hbb, ht, hdd, hh⟩ := id hW
  obtain ⟨h23, h24, h25, h26, h27, h28, h29, h30, h31, h32, h33, h34, h35, h36, h37, h38, h39⟩ := id hm
  have := c_isThere (l := l) (b := b) (D := D) (cA := cA) s hc ha.1 hm
  have e : ((0 ≤ s.toInt ∧ s.toInt < c) ∧ 0 < (A 26 s.toInt.toNat).toInt) ↔ sm_lvg c ln s := by
    unfold sm_lvg
    refine and_congr_right (fun q => ?_)
    have h1 := (sm_toN q).2
    rw [(ha.2 _ h1).1]
    exact sm_pos (by have := hln _ h1; omega)
  simp only [e] at this
  exact this
theorem w_hasRoom {x : Int32} (k : Nat) (hx : x = nI k) (hk : k ≤ 100) (hz : τ.1 ≤ 200) (hW : sm_W M th c ln fg fm ow nm r1 r2 r3 fame cu it yr τ dc ws to gr sp pd hb) : sm_Ct l b D cA yX7_hasRoom cX7_hasRoom 2 (some .boolean) 0 0 0 [.ref 23, .int x] M (fun r M1 => r = some (.int (if τ.1 + k ≤ 200 then 1 else 0)) ∧ M1 = M) := by
  obtain ⟨I, A, hm, h7, ha, hbb, ht, hdd, hh⟩ := id hW
  obtain ⟨h23, h24, h25, h26, h27, h28, h29, h30, h31, h32, h33, h34, h35, h36, h37, h38, h39⟩ := id hm
  exact c_mhasRoom k hx hk hz ht.1 hm
theorem w_say (wh kd nu : Int32) (hz : τ.1 < 200) (hW : sm_W M th c ln fg fm ow nm r1 r2 r3 fame cu it yr τ dc ws to gr sp pd hb) : sm_Ct l b D cA yX7_say cX7_say 5 none 0 0 0 [.ref 23, .int wh, .int kd, .int nu] M (fun r M1 => r = none ∧ sm_ex M M1 sm_ml ∧ sm_W M1 th c ln fg fm ow nm r1 r2 r3 fame cu it yr (sm_say wh kd nu yr τ) dc ws to gr sp pd hb) := by
  obtain ⟨I, A, hm, h7, ha, hbb, ht, hdd, hh⟩ := id hW
  obtain ⟨h23, h24, h25, h26, h27, h28, h29, h30, h31, h32, h33, h34, h35, h36, h37, h38, h39⟩ := id hm
  have h5 := hbb.2.2.2.1
  refine sm_Ct.post (c_say (l := l) (b := b) (D := D) (cA := cA) wh kd nu hz ht.1 hm) (fun r M1 hp => ?_)
  obtain ⟨e, x, m⟩ := hp
  rw [h5] at m
  exact ⟨e, x.mono (by decide), _, _, m, h7, ha, hbb, ht.say rfl rfl, hdd, hh⟩
theorem w_new (o : Int32) (hc : c < 40) (hln : ∀ t, t < c → ln t ≤ 80) (hW : sm_W M th c ln fg fm ow nm r1 r2 r3 fame cu it yr τ dc ws to gr sp pd hb) : sm_Ct l b D cA yX7_newString cX7_newString 2 (some .int) 0 0 0 [.ref 23, .int o] M (fun r M1 => r = some (.int (nI c)) ∧ sm_ex M M1 sm_ml ∧ sm_W M1 th (c + 1) (va_up ln c 0) fg fm (va_up ow c o) (va_up nm c 0) r1 r2 r3 fame cu it yr τ dc ws to gr sp pd hb) := by
  obtain ⟨I, A, hm, h7, ha, hbb, ht, hdd, hh⟩ := id hW
  obtain ⟨h23, h24, h25, h26, h27, h28, h29, h30, h31, h32, h33, h34, h35, h36, h37, h38, h39⟩ := id hm
  refine sm_Ct.post (c_newString (l := l) (b := b) (D := D) (cA := cA) o hc ha.1 hm) (fun r M1 hp => ?_)
  obtain ⟨e, x, m⟩ := hp
  refine ⟨e, x.mono (by decide), _, _, m, h7, ?_, hbb, ht, hdd, hh⟩
  have := ha.up (I1 := upd I 0 (nI (c + 1))) (A1 := sm_uA (sm_uA (sm_uA A 26 (upd (A 26) c 0)) 27 (upd (A 27) c o)) 28 (upd (A 28) c 0)) (c1 := c + 1) (s := c) (n := 0) (g1 := fg c) (m1 := fm c) (o := o) (a := 0) hln rfl (fun t h1 h2 => by omega) (sm_upeq _ _ _) (sm_upeq _ _ _) (sm_upeq _ _ _) (fun t ht => ⟨sm_upne _ _ ht, sm_upne _ _ ht, sm_upne _ _ ht⟩) (fun j _ => ⟨rfl, rfl⟩) (fun k hk => absurd hk (Nat.not_lt_zero k))
  rw [va_up_id, va_up_id] at this
  exact this
theorem w_put {s k : Nat} {x cnt : Int32} (g m : Int32) (hx : x = nI s) (hcn : cnt = nI k) (hs : s < c) (hc : c ≤ 40) (hk : ln s + k ≤ 80) (hln : ∀ t, t < c → ln t ≤ 80) (hW : sm_W M th c ln fg fm ow nm r1 r2 r3 fame cu it yr τ dc ws to gr sp pd hb) : sm_Ct l b D cA yX7_put cX7_put 6 none 0 0 0 [.ref 23, .int x, .int g, .int m, .int cnt] M (fun r M1 => r = none ∧ sm_ex M M1 sm_ml ∧ sm_W M1 th c (va_up ln s (ln s + k)) (va_up fg s (fun j => if ln s ≤ j ∧ j < ln s + k then g else fg s j)) (va_up fm s (fun j => if ln s ≤ j ∧ j < ln s + k then m else fm s j)) ow nm r1 r2 r3 fame cu it yr τ dc ws to gr sp pd hb) := by
  obtain ⟨I, A, hm, h7, ha, hbb, ht, hdd, hh⟩ := id hW
  obtain ⟨h23, h24, h25, h26, h27, h28, h29, h30, h31, h32, h33, h34, h35, h36, h37, h38, h39⟩ := id hm
  obtain ⟨b26, b27, b28, bN⟩ := ha.2 s hs
  refine sm_Ct.post (c_put (l := l) (b := b) (D := D) (cA := cA) g m hx hcn (by omega) hk b26 hm) (fun r M1 hp => ?_)
  obtain ⟨e, x, mm⟩ := hp
  refine ⟨e, x.mono (by decide), _, _, mm, h7, ?_, hbb, ht, hdd, hh⟩
  have := ha.up (I1 := I) (A1 := sm_uA (sm_uA (sm_uA A 24 (fun j => if 80 * s + ln s ≤ j ∧ j < 80 * s + ln s + k then g else A 24 j)) 25 (fun j => if 80 * s + ln s ≤ j ∧ j < 80 * s + ln s + k then m else A 25 j)) 26 (upd (A 26) s (nI (ln s + k)))) (c1 := c) (s := s) (n := ln s + k) (g1 := fun j => if ln s ≤ j ∧ j < ln s + k then g else fg s j) (m1 := fun j => if ln s ≤ j ∧ j < ln s + k then m else fm s j) (o := ow s) (a := nm s) hln ha.1 (fun t h1 _ => h1) (sm_upeq _ _ _) b27 b28 (fun t ht => ⟨sm_upne _ _ ht, rfl, rfl⟩) (fun j hj => ⟨if_neg (by omega), if_neg (by omega)⟩) (fun j hj => by
    show (if 80 * s + ln s ≤ 80 * s + j ∧ 80 * s + j < 80 * s + ln s + k then g else A 24 (80 * s + j)) = (if ln s ≤ j ∧ j < ln s + k then g else fg s j) ∧ (if 80 * s + ln s ≤ 80 * s + j ∧ 80 * s + j < 80 * s + ln s + k then m else A 25 (80 * s + j)) = (if ln s ≤ j ∧ j < ln s + k then m else fm s j)
    by_cases q : ln s ≤ j
    · rw [if_pos (by omega), if_pos (by omega), if_pos (by omega), if_pos (by omega)]
      exact ⟨rfl, rfl⟩
    · rw [if_neg (by omega), if_neg (by omega), if_neg (by omega), if_neg (by omega)]
      exact bN j (by omega))
  rw [va_up_id, va_up_id] at this
  exact this
theorem w_hand {s : Nat} {x : Int32} (o : Int32) (hx : x = nI s) (hs : s < c) (hc : c ≤ 40) (hn : 0 ≤ (nm s).toInt) (he : nm s = 0 ∨ τ.1 < 200) (hln : ∀ t, t < c → ln t ≤ 80) (hW : sm_W M th c ln fg fm ow nm r1 r2 r3 fame cu it yr τ dc ws to gr sp pd hb) : sm_Ct l b D cA yX7_hand cX7_hand 3 none 1 0 0 [.ref 23, .int x, .int o] M (fun r M1 => r = none ∧ sm_ex M M1 sm_ml ∧ sm_W M1 th c ln fg fm (va_up ow s o) nm r1 r2 r3 fame cu it yr (sm_sayIf (nm s) 2 o yr τ) dc ws to gr sp pd hb) := by
  obtain ⟨I, A, hm, h7, ha, hbb, ht, hdd, hh⟩ := id hW
  obtain ⟨h23, h24, h25, h26, h27, h28, h29, h30, h31, h32, h33, h34, h35, h36, h37, h38, h39⟩ := id hm
  obtain ⟨b26, b27, b28, bN⟩ := ha.2 s hs
  have h5 := hbb.2.2.2.1
  have hz := sm_nmz hn
  refine sm_Ct.post (c_hand (l := l) (b := b) (D := D) (cA := cA) o hx (by omega) (by rw [b28, hz]; exact he) ht.1 hm) (fun r M1 hp => ?_)
  obtain ⟨e, x, mm⟩ := hp
  rw [b28, h5] at mm
  have hR : ∀ (I1 : Nat → Int32) (A1 : Nat → Nat → Int32), I1 0 = I 0 → A1 24 = A 24 → A1 25 = A 25 → A1 26 = A 26 → A1 27 = upd (A 27) s o → A1 28 = A 28 → sm_Ra I1 A1 c ln fg fm (va_up ow s o) nm := fun I1 A1 e0 e24 e25 e26 e27 e28 => by
    have := ha.up (I1 := I1) (A1 := A1) (c1 := c) (s := s) (n := ln s) (g1 := fg s) (m1 := fm s) (o := o) (a := nm s) hln (e0.trans ha.1) (fun t h1 _ => h1) (by rw [e26]; exact b26) (by rw [e27]; exact sm_upeq _ _ _) (by rw [e28]; exact b28) (fun t ht => ⟨by rw [e26], by rw [e27]; exact sm_upne _ _ ht, by rw [e28]⟩) (fun j _ => ⟨by rw [e24], by rw [e25]⟩) (fun k hk => by rw [e24, e25]; exact bN k hk)
    rw [va_up_id, va_up_id, va_up_id, va_up_id] at this
    exact this
  by_cases q : nm s = 0
  · rw [if_pos (hz.mpr q), if_pos (hz.mpr q)] at mm
    unfold sm_sayIf
    rw [if_pos q]
    exact ⟨e, x.mono (by decide), _, _, mm, h7, hR _ _ rfl rfl rfl rfl rfl rfl, hbb, ht, hdd, hh⟩
  · rw [if_neg (fun z => q (hz.mp z)), if_neg (fun z => q (hz.mp z))] at mm
    unfold sm_sayIf
    rw [if_neg q]
    exact ⟨e, x.mono (by decide), _, _, mm, h7, hR _ _ rfl rfl rfl rfl rfl rfl, hbb, ht.say rfl rfl, hdd, hh⟩
end SM60
