/-! helpers for the calls that change something -/
theorem sm_D.gx {M M1 : sm_M} {dc : Nat} {da : Nat → Option Nat} {did : Nat → Nat} {ws to gr sp pd : Nat → Int32} {zs : List Nat} (h : sm_D M dc da did ws to gr sp pd) (hx : sm_gx M M1 zs) (hz : ∀ k, k < dc → did k ∉ zs) : sm_D M1 dc da did ws to gr sp pd := fun k hk => by
  obtain ⟨a, e, q⟩ := h k hk
  exact ⟨a, hx.at e (hz k hk), q⟩
theorem sm_D.exS {M M1 : sm_M} {c dc : Nat} {da : Nat → Option Nat} {sid did : Nat → Nat} {ws to gr sp pd : Nat → Int32} {zs : List Nat} (h : sm_D M dc da did ws to gr sp pd) (hx : sm_exS M M1 c sid zs) (hz : ∀ k, k < dc → did k ∉ zs) (hs : ∀ k j, k < dc → j < c → did k ≠ sid j) : sm_D M1 dc da did ws to gr sp pd := fun k hk => by
  obtain ⟨a, e, q⟩ := h k hk
  exact ⟨a, (hx.2 _ (hz k hk) (fun j hj => hs k j hk hj)).trans e, q⟩
/-- debts and strings lie apart -/
theorem sm_dn {M : sm_M} {dc q n : Nat} {da : Nat → Option Nat} {did : Nat → Nat} {ws to gr sp pd fg fm : Nat → Int32} {ow nm : Int32} (h : sm_D M dc da did ws to gr sp pd) (hst : sm_st M q (q + 1) (q + 2) n fg fm ow nm) : ∀ k, k < dc → did k ≠ q ∧ did k ≠ q + 1 ∧ did k ≠ q + 2 ∧ 41 ≤ did k := fun k hk => ⟨sm_ne04 (h k hk).2.1 hst.1, sm_neoi (h k hk).2.1 hst.2.1, sm_neoi (h k hk).2.1 hst.2.2, (h k hk).2.2⟩
theorem sm_S.gx {M M1 : sm_M} {c : Nat} {sa : Nat → Option Nat} {sid ln : Nat → Nat} {fg fm : Nat → Nat → Int32} {ow nm : Nat → Int32} {zs : List Nat} (h : sm_S M c sa sid ln fg fm ow nm) (hx : sm_gx M M1 zs) (hz : ∀ z ∈ zs, z < 41) : sm_S M1 c sa sid ln fg fm ow nm := fun k hk => by
  obtain ⟨a, st, n, q⟩ := h k hk
  exact ⟨a, st.gx hx (fun z => absurd (hz _ z) (by omega)) (fun z => absurd (hz _ z) (by omega)) (fun z => absurd (hz _ z) (by omega)), n, q⟩
/-- one string more -/
theorem sm_S.more {M1 : sm_M} {c q n : Nat} {sa : Nat → Option Nat} {sid ln : Nat → Nat} {fg fm : Nat → Nat → Int32} {ow nm : Nat → Int32} {g1 m1 : Nat → Int32} {o a : Int32} (h : sm_S M1 c sa sid ln fg fm ow nm) (hs : sm_st M1 q (q + 1) (q + 2) n g1 m1 o a) (hn : n ≤ 80) (hq : 41 ≤ q) : sm_S M1 (c + 1) (va_up sa c (some q)) (va_up sid c q) (va_up ln c n) (va_up fg c g1) (va_up fm c m1) (va_up ow c o) (va_up nm c a) := fun k hk => by
  by_cases e : k = c
  · subst e
    rw [va_up_self, va_up_self, va_up_self, va_up_self, va_up_self, va_up_self, va_up_self]
    exact ⟨rfl, hs, hn, hq⟩
  · rw [va_up_ne _ _ e, va_up_ne _ _ e, va_up_ne _ _ e, va_up_ne _ _ e, va_up_ne _ _ e, va_up_ne _ _ e, va_up_ne _ _ e]
    exact h k (by omega)
theorem sm_sp_more {c q : Nat} {sid : Nat → Nat} (hsp : ∀ j k, j < c → k < c → j ≠ k → sid j + 3 ≤ sid k ∨ sid k + 3 ≤ sid j) (hq : ∀ k, k < c → sid k + 3 ≤ q) : ∀ j k, j < c + 1 → k < c + 1 → j ≠ k → va_up sid c q j + 3 ≤ va_up sid c q k ∨ va_up sid c q k + 3 ≤ va_up sid c q j := fun j k hj hk hne => by
  by_cases e : j = c
  · subst e
    rw [va_up_self, va_up_ne _ _ (fun z => hne z.symm)]
    exact Or.inr (hq k (by omega))
  · by_cases e2 : k = c
    · subst e2
      rw [va_up_self, va_up_ne _ _ e]
      exact Or.inl (hq j (by omega))
    · rw [va_up_ne _ _ e, va_up_ne _ _ e2]
      exact hsp j k (by omega) (by omega) hne
theorem sm_ev_say {τ : sm_T5} {x k n y : Int32} (h : ∀ e, e < τ.1 → 0 < (τ.2.1 e).toInt ∧ (τ.2.1 e).toInt ≤ 99) (hx : 0 < x.toInt ∧ x.toInt ≤ 99) : ∀ e, e < (sm_say x k n y τ).1 → 0 < ((sm_say x k n y τ).2.1 e).toInt ∧ ((sm_say x k n y τ).2.1 e).toInt ≤ 99 := fun e he => by
  replace he : e < τ.1 + 1 := he
  show 0 < (upd τ.2.1 τ.1 x e).toInt ∧ (upd τ.2.1 τ.1 x e).toInt ≤ 99
  unfold upd
  by_cases q : e = τ.1
  · rw [if_pos q]
    exact hx
  · rw [if_neg q]
    exact h e (by omega)
theorem sm_n099 {x : Int32} (h : 0 ≤ x.toInt ∧ x.toInt ≤ 99) (h0 : ¬ x = 0) : 0 < x.toInt ∧ x.toInt ≤ 99 := by
  rw [← Int32.toInt_inj, ti_0] at h0
  omega
theorem sm_ev_sayIf {τ : sm_T5} {x k n y : Int32} (h : ∀ e, e < τ.1 → 0 < (τ.2.1 e).toInt ∧ (τ.2.1 e).toInt ≤ 99) (hx : 0 ≤ x.toInt ∧ x.toInt ≤ 99) : ∀ e, e < (sm_sayIf x k n y τ).1 → 0 < ((sm_sayIf x k n y τ).2.1 e).toInt ∧ ((sm_sayIf x k n y τ).2.1 e).toInt ≤ 99 := by
  unfold sm_sayIf
  by_cases q : x = 0
  · rw [if_pos q]
    exact h
  · rw [if_neg q]
    exact sm_ev_say h (sm_n099 hx q)
theorem sm_sayIf_len (x k n y : Int32) (τ : sm_T5) : (sm_sayIf x k n y τ).1 = τ.1 + (if x = 0 then 0 else 1) := by
  unfold sm_sayIf
  by_cases q : x = 0
  · rw [if_pos q, if_pos q]
    rfl
  · rw [if_neg q, if_neg q]
    rfl
theorem sm_ev_hoT {τ : sm_T5} {s : Nat} {num : Nat → Nat} {nm : Nat → Int32} {to yr : Int32} (h : ∀ e, e < τ.1 → 0 < (τ.2.1 e).toInt ∧ (τ.2.1 e).toInt ≤ 99) : ∀ n, (∀ k, k < n → 0 ≤ (nm (num k)).toInt ∧ (nm (num k)).toInt ≤ 99) → ∀ e, e < (sm_hoT s num nm to yr τ n).1 → 0 < ((sm_hoT s num nm to yr τ n).2.1 e).toInt ∧ ((sm_hoT s num nm to yr τ n).2.1 e).toInt ≤ 99
  | 0, _ => h
  | n + 1, hn => by
    have ih := sm_ev_hoT (s := s) (num := num) (nm := nm) (to := to) (yr := yr) h n (fun k hk => hn k (by omega))
    unfold sm_hoT
    by_cases q : s.testBit n = true
    · rw [if_pos q]
      exact sm_ev_sayIf ih (hn n (by omega))
    · rw [if_neg q]
      exact ih
/-- counts where one string, or two, or one more come in -/
theorem sm_cg_one {fg : Nat → Nat → Int32} {ln : Nat → Nat} {f1 : Nat → Int32} {n1 i c : Nat} (g : Int32) (hi : i < c) : sm_cg (va_up fg i f1) (va_up ln i n1) g c + sm_cnt1 (fg i) g 0 (ln i) = sm_cg fg ln g c + sm_cnt1 f1 g 0 n1 := by
  have := sm_cg_up (fg := fg) (ln := ln) (fg2 := va_up fg i f1) (ln2 := va_up ln i n1) g (s := i) c hi (fun t _ hne => by
    rw [va_up_ne _ _ hne, va_up_ne _ _ hne]
    exact ⟨rfl, fun _ _ => rfl⟩)
  rw [va_up_self, va_up_self] at this
  exact this
theorem sm_cg_more {fg : Nat → Nat → Int32} {ln : Nat → Nat} {f1 : Nat → Int32} {n1 : Nat} (g : Int32) (c : Nat) : sm_cg (va_up fg c f1) (va_up ln c n1) g (c + 1) = sm_cg fg ln g c + sm_cnt1 f1 g 0 n1 := by
  rw [show sm_cg (va_up fg c f1) (va_up ln c n1) g (c + 1) = sm_cg (va_up fg c f1) (va_up ln c n1) g c + sm_cnt1 (va_up fg c f1 c) g 0 (va_up ln c n1 c) from rfl, va_up_self, va_up_self, sm_cg_sh (fg := va_up fg c f1) (ln := va_up ln c n1) (fg2 := fg) (ln2 := ln) g c (fun s hs => by
    rw [va_up_ne _ _ (by omega), va_up_ne _ _ (by omega)]
    exact ⟨rfl, fun _ _ => rfl⟩)]
/-- the count of the beads that come in -/
theorem sm_cnt1_in {f h : Nat → Int32} {g x : Int32} {n m : Nat} (h1 : ∀ j, j < n → h j = f j) (h2 : ∀ j, n ≤ j → j < n + m → h j = x) : sm_cnt1 h g 0 (n + m) = sm_cnt1 f g 0 n + (if x = g then m else 0) := by
  rw [sm_cnt1_add, sm_cnt1_sh (f := h) (h := f) (a := 0) (b := 0) n (fun k hk => by rw [Nat.zero_add]; exact h1 k hk), sm_cnt1_const (x := x) m (fun j hj => h2 _ (by omega) (by omega))]
theorem sm_cnt1_app {f h k : Nat → Int32} {g : Int32} {n m a : Nat} (h1 : ∀ j, j < n → h j = f j) (h2 : ∀ j, j < m → h (n + j) = k (a + j)) : sm_cnt1 h g 0 (n + m) = sm_cnt1 f g 0 n + sm_cnt1 k g a m := by
  rw [sm_cnt1_add, sm_cnt1_sh (f := h) (h := f) (a := 0) (b := 0) n (fun k hk => by rw [Nat.zero_add]; exact h1 k hk), sm_cnt1_sh (f := h) (h := k) (a := 0 + n) (b := a) m (fun j hj => by rw [Nat.zero_add]; exact h2 j hj)]
/-- the row of counts in the class after n beads of grade g -/
theorem sm_r4_in {r4 : Nat → Int32} {C : Nat → Nat} {C2 : Nat → Nat} {g n : Int32} (hg : 0 ≤ g.toInt ∧ g.toInt < 5) (hn : 1 ≤ n.toInt) (h4 : ∀ j, j < 5 → r4 j = nI (C j)) (h2 : ∀ j, j < 5 → C2 j = C j + (if g = nI j then n.toInt.toNat else 0)) : ∀ j, j < 5 → upd r4 g.toInt.toNat (r4 g.toInt.toNat + n) j = nI (C2 j) := fun j hj => by
  have hgn := sm_asN hg.1
  have hnn := sm_asN (show 0 ≤ n.toInt by omega)
  unfold upd
  rw [h2 j hj]
  by_cases e : j = g.toInt.toNat
  · rw [if_pos e, if_pos (by rw [e]; exact hgn), ← e, h4 j hj, ← nI_add, ← hnn]
  · rw [if_neg e, if_neg (fun q => e (by rw [q, nI_toInt (by omega)]; omega)), h4 j hj]
    rfl
