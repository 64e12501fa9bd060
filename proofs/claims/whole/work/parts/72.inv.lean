/-! what holds between two calls of the law -/
def sm_gy (M M1 : sm_M) (ys : List Nat) : Prop := ∀ j, j < 41 → j ∉ ys → M1[j]? = M[j]?
theorem sm_ex.gy {M M1 : sm_M} {zs ys : List Nat} (h : sm_ex M M1 zs) (hz : ∀ z ∈ zs, z ∈ ys ∨ 41 ≤ z) : sm_gy M M1 ys := fun j hj hy => h.2 j (fun q => (hz j q).elim hy (fun e => absurd hj (Nat.not_lt.mpr e)))
theorem sm_gx.gy {M M1 : sm_M} {zs ys : List Nat} (h : sm_gx M M1 zs) (h41 : 41 ≤ M.length) (hz : ∀ z ∈ zs, z ∈ ys ∨ 41 ≤ z) : sm_gy M M1 ys := fun j hj hy => h.2 j (Nat.lt_of_lt_of_le hj h41) (fun q => (hz j q).elim hy (fun e => absurd hj (Nat.not_lt.mpr e)))
theorem sm_exS.gy {M M1 : sm_M} {c : Nat} {sid : Nat → Nat} {zs ys : List Nat} (h : sm_exS M M1 c sid zs) (hs : ∀ k, k < c → 41 ≤ sid k) (hz : ∀ z ∈ zs, z ∈ ys ∨ 41 ≤ z) : sm_gy M M1 ys := fun j hj hy => h.2 j (fun q => (hz j q).elim hy (fun e => absurd hj (Nat.not_lt.mpr e))) (fun k hk e => by have := hs k hk; omega)
section SM72a
variable {M M1 : sm_M} {ys : List Nat}
theorem sm_X.gy {c dc : Nat} {cu it yr : Int32} {sa da : Nat → Option Nat} (h : sm_X M c dc cu it yr sa da) (hx : sm_gy M M1 ys) (hz : ∀ z ∈ [0, 1, 16], z ∉ ys) : sm_X M1 c dc cu it yr sa da := ⟨(hx 0 (by decide) (hz 0 (by decide))).trans h.1, (hx 1 (by decide) (hz 1 (by decide))).trans h.2.1, (hx 16 (by decide) (hz 16 (by decide))).trans h.2.2⟩
theorem sm_rates.gy {r1 r2 r3 r4 : Nat → Int32} {fame : Int32} (h : sm_rates M r1 r2 r3 r4 fame) (hx : sm_gy M M1 ys) (hz : ∀ z ∈ [3, 4, 5, 6, 7], z ∉ ys) : sm_rates M1 r1 r2 r3 r4 fame := ⟨(hx 3 (by decide) (hz 3 (by decide))).trans h.1, (hx 4 (by decide) (hz 4 (by decide))).trans h.2.1, (hx 5 (by decide) (hz 5 (by decide))).trans h.2.2.1, (hx 6 (by decide) (hz 6 (by decide))).trans h.2.2.2.1, (hx 7 (by decide) (hz 7 (by decide))).trans h.2.2.2.2⟩
theorem sm_t5.gy {τ : sm_T5} (h : sm_t5 M τ) (hx : sm_gy M M1 ys) (hz : ∀ z ∈ [8, 9, 10, 11, 12], z ∉ ys) : sm_t5 M1 τ := ⟨(hx 8 (by decide) (hz 8 (by decide))).trans h.1, (hx 9 (by decide) (hz 9 (by decide))).trans h.2.1, (hx 10 (by decide) (hz 10 (by decide))).trans h.2.2.1, (hx 11 (by decide) (hz 11 (by decide))).trans h.2.2.2.1, (hx 12 (by decide) (hz 12 (by decide))).trans h.2.2.2.2⟩
theorem sm_pu.gy {n : Nat} {tot ch cs cw : Int32} {f g : Nat → Int32} (h : sm_pu M n tot ch cs cw f g) (hx : sm_gy M M1 ys) (hz : ∀ z ∈ [13, 14, 15], z ∉ ys) : sm_pu M1 n tot ch cs cw f g := ⟨(hx 13 (by decide) (hz 13 (by decide))).trans h.1, (hx 14 (by decide) (hz 14 (by decide))).trans h.2.1, (hx 15 (by decide) (hz 15 (by decide))).trans h.2.2⟩
theorem sm_hp.gy {sz : Nat} {fb fgo fw fp ff : Nat → Int32} (h : sm_hp M sz fb fgo fw fp ff) (hx : sm_gy M M1 ys) (hz : ∀ z ∈ [17, 18, 19, 20, 21, 22], z ∉ ys) : sm_hp M1 sz fb fgo fw fp ff := ⟨(hx 17 (by decide) (hz 17 (by decide))).trans h.1, (hx 18 (by decide) (hz 18 (by decide))).trans h.2.1, (hx 19 (by decide) (hz 19 (by decide))).trans h.2.2.1, (hx 20 (by decide) (hz 20 (by decide))).trans h.2.2.2.1, (hx 21 (by decide) (hz 21 (by decide))).trans h.2.2.2.2.1, (hx 22 (by decide) (hz 22 (by decide))).trans h.2.2.2.2.2⟩
theorem sm_mm.gy {I : Nat → Int32} {A : Nat → Nat → Int32} (h : sm_mm M I A) (hx : sm_gy M M1 ys) (hz : ∀ z ∈ sm_ml, z ∉ ys) : sm_mm M1 I A := by
  obtain ⟨h23, h24, h25, h26, h27, h28, h29, h30, h31, h32, h33, h34, h35, h36, h37, h38, h39⟩ := h
  exact ⟨(hx 23 (by decide) (hz 23 (by decide))).trans h23, (hx 24 (by decide) (hz 24 (by decide))).trans h24, (hx 25 (by decide) (hz 25 (by decide))).trans h25, (hx 26 (by decide) (hz 26 (by decide))).trans h26, (hx 27 (by decide) (hz 27 (by decide))).trans h27, (hx 28 (by decide) (hz 28 (by decide))).trans h28, (hx 29 (by decide) (hz 29 (by decide))).trans h29, (hx 30 (by decide) (hz 30 (by decide))).trans h30, (hx 31 (by decide) (hz 31 (by decide))).trans h31, (hx 32 (by decide) (hz 32 (by decide))).trans h32, (hx 33 (by decide) (hz 33 (by decide))).trans h33, (hx 34 (by decide) (hz 34 (by decide))).trans h34, (hx 35 (by decide) (hz 35 (by decide))).trans h35, (hx 36 (by decide) (hz 36 (by decide))).trans h36, (hx 37 (by decide) (hz 37 (by decide))).trans h37, (hx 38 (by decide) (hz 38 (by decide))).trans h38, (hx 39 (by decide) (hz 39 (by decide))).trans h39⟩
end SM72a
def sm_bd (c : Nat) (ln : Nat → Nat) (fg fm : Nat → Nat → Int32) (ow nm r1 r2 r3 : Nat → Int32) (fame cu it yr : Int32) (τ : sm_T5) (dc : Nat) (ws to gr sp pd : Nat → Int32) (hb : Nat → Nat) (r4 : Nat → Int32) : Prop :=
  (c ≤ 40 ∧ dc ≤ 60 ∧ τ.1 ≤ 200 ∧ hb 0 + hb 1 + hb 2 + hb 3 + hb 4 ≤ 60) ∧ (∀ t, t < c → ln t ≤ 80) ∧ (∀ t, t < c → (0 ≤ (nm t).toInt ∧ (nm t).toInt ≤ 99) ∧ (ln t = 0 → nm t = 0)) ∧ (∀ s, s < c → ∀ k, k < ln s → 0 ≤ (fg s k).toInt ∧ (fg s k).toInt < 5) ∧ (∀ j, j < 5 → (1 ≤ (r1 j).toInt ∧ (r1 j).toInt ≤ 100) ∧ (0 ≤ (r2 j).toInt ∧ (r2 j).toInt ≤ 500) ∧ 1 ≤ (r3 j).toInt ∧ r4 j = nI (sm_cg fg ln (nI j) c)) ∧ (0 ≤ fame.toInt ∧ fame.toInt ≤ 500) ∧ (0 ≤ yr.toInt ∧ yr.toInt ≤ 100) ∧ (∀ e, e < τ.1 → 0 < (τ.2.1 e).toInt ∧ (τ.2.1 e).toInt ≤ 99) ∧ (∀ k, k < dc → ¬ pd k = -1 → sp k = 0)
def sm_cl (M : sm_M) (c : Nat) (ln : Nat → Nat) (fg fm : Nat → Nat → Int32) (ow nm r1 r2 r3 : Nat → Int32) (fame cu it yr : Int32) (τ : sm_T5) (dc : Nat) (ws to gr sp pd : Nat → Int32) (hb : Nat → Nat) (r4 : Nat → Int32) : Prop :=
  ∃ (sa da : Nat → Option Nat) (sid did : Nat → Nat), sm_X M c dc cu it yr sa da ∧ sm_S M c sa sid ln fg fm ow nm ∧ (∀ j k, j < c → k < c → j ≠ k → sid j + 3 ≤ sid k ∨ sid k + 3 ≤ sid j) ∧ sm_rates M r1 r2 r3 r4 fame ∧ sm_t5 M τ ∧ sm_D M dc da did ws to gr sp pd ∧ (∀ j k, j < dc → k < dc → j ≠ k → did j ≠ did k) ∧ (∃ (n : Nat) (tot ch cs cw : Int32) (f g : Nat → Int32), n ≤ 12 ∧ sm_pu M n tot ch cs cw f g) ∧ (∃ fgo fw fp ff : Nat → Int32, sm_hp M (hb 0 + hb 1 + hb 2 + hb 3 + hb 4) (fun j => nI (hb j)) fgo fw fp ff) ∧ (∃ f : Nat → Int32, M[2]? = some (sm_i 10 f)) ∧ (∃ f : Nat → Int64, M[40]? = some (sm_j 1 f)) ∧ 41 ≤ M.length
def sm_inv (M : sm_M) : Prop := ∃ (c : Nat) (ln : Nat → Nat) (fg fm : Nat → Nat → Int32) (ow nm r1 r2 r3 : Nat → Int32) (fame cu it yr : Int32) (τ : sm_T5) (dc : Nat) (ws to gr sp pd : Nat → Int32) (hb : Nat → Nat) (r4 : Nat → Int32) (th : Int32), sm_bd c ln fg fm ow nm r1 r2 r3 fame cu it yr τ dc ws to gr sp pd hb r4 ∧ sm_cl M c ln fg fm ow nm r1 r2 r3 fame cu it yr τ dc ws to gr sp pd hb r4 ∧ sm_W M th c ln fg fm ow nm r1 r2 r3 fame cu it yr τ dc ws to gr sp pd hb
section SM72
variable {l : Launch} {b : Nat} {D : va_G} {cA : Nat → ClassId} {M M1 : sm_M}
variable {th : Int32} {c dc : Nat} {ln hb : Nat → Nat} {fg fm : Nat → Nat → Int32} {ow nm r1 r2 r3 r4 ws to gr sp pd : Nat → Int32} {fame cu it yr : Int32} {τ : sm_T5}
theorem sm_inv.mk (hB : sm_bd c ln fg fm ow nm r1 r2 r3 fame cu it yr τ dc ws to gr sp pd hb r4) (hC : sm_cl M c ln fg fm ow nm r1 r2 r3 fame cu it yr τ dc ws to gr sp pd hb r4) (hW : sm_W M th c ln fg fm ow nm r1 r2 r3 fame cu it yr τ dc ws to gr sp pd hb) : sm_inv M := ⟨c, ln, fg, fm, ow, nm, r1, r2, r3, fame, cu, it, yr, τ, dc, ws, to, gr, sp, pd, hb, r4, th, hB, hC, hW⟩
theorem sm_W.gy {ys : List Nat} (h : sm_W M th c ln fg fm ow nm r1 r2 r3 fame cu it yr τ dc ws to gr sp pd hb) (hx : sm_gy M M1 ys) (hz : ∀ z ∈ sm_ml, z ∉ ys) : sm_W M1 th c ln fg fm ow nm r1 r2 r3 fame cu it yr τ dc ws to gr sp pd hb := by
  obtain ⟨I, A, hm, q⟩ := h
  exact ⟨I, A, hm.gy hx hz, q⟩
/-- cells changed that the strings and debts don't lie in -/
theorem sm_cl.soft {zs : List Nat} (hC : sm_cl M c ln fg fm ow nm r1 r2 r3 fame cu it yr τ dc ws to gr sp pd hb r4) (hx : sm_ex M M1 zs) (hz : ∀ z ∈ zs, z ∈ 2 :: 13 :: 14 :: 15 :: 17 :: 18 :: 19 :: 20 :: 21 :: 22 :: sm_ml) (hpu : ∃ (n : Nat) (tot ch cs cw : Int32) (f g : Nat → Int32), n ≤ 12 ∧ sm_pu M1 n tot ch cs cw f g) (hhp : ∃ fgo fw fp ff : Nat → Int32, sm_hp M1 (hb 0 + hb 1 + hb 2 + hb 3 + hb 4) (fun j => nI (hb j)) fgo fw fp ff) (h2 : ∃ f : Nat → Int32, M1[2]? = some (sm_i 10 f)) : sm_cl M1 c ln fg fm ow nm r1 r2 r3 fame cu it yr τ dc ws to gr sp pd hb r4 := by
  obtain ⟨sa, da, sid, did, hX, hS, hsp, hr, ht5, hD, hdis, -, -, -, ⟨f40, h40⟩, h41⟩ := hC
  have hg := hx.gy (ys := 2 :: 13 :: 14 :: 15 :: 17 :: 18 :: 19 :: 20 :: 21 :: 22 :: sm_ml) (fun z q => Or.inl (hz z q))
  have hlt : ∀ z ∈ zs, z < 41 := fun z q => by
    have := hz z q
    simp only [sm_ml, List.mem_cons, List.not_mem_nil, or_false] at this
    omega
  exact ⟨sa, da, sid, did, hX.gy hg (by decide), hS.ex hx hlt, hsp, hr.gy hg (by decide), ht5.gy hg (by decide), hD.ex hx (fun k hk q => absurd (hlt _ q) (by have := (hD k hk).2.2; omega)), hdis, hpu, hhp, h2, ⟨f40, (hg 40 (by decide) (by decide)).trans h40⟩, by rw [hx.1]; exact h41⟩
theorem sm_cl.ml {zs : List Nat} (hC : sm_cl M c ln fg fm ow nm r1 r2 r3 fame cu it yr τ dc ws to gr sp pd hb r4) (hx : sm_ex M M1 zs) (hz : ∀ z ∈ zs, z ∈ sm_ml) : sm_cl M1 c ln fg fm ow nm r1 r2 r3 fame cu it yr τ dc ws to gr sp pd hb r4 := by
  obtain ⟨sa, da, sid, did, hX, hS, hsp, hr, ht5, hD, hdis, ⟨pn, ptot, pch, pcs, pcw, pf, pg, hpn, hpu⟩, ⟨fgo, fw, fp, ff, hhp⟩, ⟨f2, h2⟩, -, h41⟩ := id hC
  have hg := hx.gy (ys := sm_ml) (fun z q => Or.inl (hz z q))
  exact hC.soft hx (fun z q => by
    have := hz z q
    simp only [sm_ml, List.mem_cons, List.not_mem_nil, or_false] at this ⊢
    omega) ⟨pn, ptot, pch, pcs, pcw, pf, pg, hpn, hpu.gy hg (by decide)⟩ ⟨fgo, fw, fp, ff, hhp.gy hg (by decide)⟩ ⟨f2, (hg 2 (by decide) (by decide)).trans h2⟩
/-- a string's worth is a small number -/
theorem sm_wv_N {k : Nat} (hB : sm_bd c ln fg fm ow nm r1 r2 r3 fame cu it yr τ dc ws to gr sp pd hb r4) (hk : k < c) : ∃ w, sm_wv r1 r2 r3 r4 fame ln (sm_js fg ln) nm k = nI w ∧ w ≤ 12500 := by
  obtain ⟨⟨hc, hdc, hz, hs60⟩, hln, hn0, hgr, hrr, hfa, hyr, hev, hpd⟩ := hB
  unfold sm_wv
  by_cases h0 : ln k = 0
  · rw [if_pos h0]
    exact ⟨0, rfl, by omega⟩
  · rw [if_neg h0]
    obtain ⟨e1, e2⟩ := sm_js_ok hgr k hk (by omega)
    obtain ⟨q1, q2, q3, q4⟩ := hrr _ e2
    obtain ⟨w, e, w1, w2⟩ := sm_wbl_N (k := ln k) q1 q2 q3 q4 (Nat.le_trans (sm_cg_le (fun _ => Or.inr trivial) _ c hln) (by omega)) (hln k hk)
    have h80 := hln k hk
    rw [e]
    by_cases q : nm k = 0
    · rw [if_pos q]
      exact ⟨w + 0, (nI_add w 0), by omega⟩
    · rw [if_neg q]
      have ef := sm_asN hfa.1
      exact ⟨w + fame.toInt.toNat, by rw [← nI_add, ← ef], by omega⟩
theorem sm_uN (hB : sm_bd c ln fg fm ow nm r1 r2 r3 fame cu it yr τ dc ws to gr sp pd hb r4) : ∃ u : Nat → Nat, (∀ i, i < c → sm_wv r1 r2 r3 r4 fame ln (sm_js fg ln) nm i = nI (u i)) ∧ ∀ i, i < c → u i ≤ 12500 := by
  refine ⟨fun i => (sm_wv r1 r2 r3 r4 fame ln (sm_js fg ln) nm i).toInt.toNat, fun i hi => ?_, fun i hi => ?_⟩
  · obtain ⟨w, e, h1⟩ := sm_wv_N hB hi
    show sm_wv r1 r2 r3 r4 fame ln (sm_js fg ln) nm i = nI (sm_wv r1 r2 r3 r4 fame ln (sm_js fg ln) nm i).toInt.toNat
    rw [e, nI_toInt (by omega)]
    rfl
  · obtain ⟨w, e, h1⟩ := sm_wv_N hB hi
    show (sm_wv r1 r2 r3 r4 fame ln (sm_js fg ln) nm i).toInt.toNat ≤ 12500
    rw [e, nI_toInt (by omega)]
    omega
theorem sm_wbf_N {n : Nat} (hB : sm_bd c ln fg fm ow nm r1 r2 r3 fame cu it yr τ dc ws to gr sp pd hb r4) (hn : n ≤ 60) : ∀ a k, 1 ≤ k → a + k ≤ n → ∃ w, sm_wbf r1 r2 r3 r4 hb a k = nI w ∧ 1 ≤ w ∧ w ≤ 150 * k := fun a k h1 h2 => by
  obtain ⟨⟨hc, hdc, hz, hs60⟩, hln, hn0, hgr, hrr, hfa, hyr, hev, hpd⟩ := hB
  obtain ⟨q1, q2, q3, q4⟩ := hrr _ (sm_gr5 hb (a + k - 1))
  obtain ⟨w, e, w1, w2⟩ := sm_wbl_N (k := k) q1 q2 q3 q4 (Nat.le_trans (sm_cg_le (fun _ => Or.inr trivial) _ c hln) (by omega)) (by omega)
  exact ⟨w, e, by omega, w2⟩
end SM72
