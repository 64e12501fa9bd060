/-! the calls that change something: class and reference keep step -/
section SM75
variable {l : Launch} {b : Nat} {D : va_G} {cA : Nat → ClassId} {M : sm_M}
theorem op_turn (i : Int32) (hI : sm_inv M) : ∃ P1 : Option Value → sm_M → Prop, sm_Ct l b D cA yX6_turn cX6_turn 3 (some .boolean) 3 0 0 [.ref 0, .int i] M P1 ∧ ∀ r M1, P1 r M1 → ∃ P2 : Option Value → sm_M → Prop, sm_Ct l b D cA yX7_turn cX7_turn 7 (some .boolean) 2 0 0 [.ref 23, .int i] M1 P2 ∧ ∀ r2 M2, P2 r2 M2 → sm_inv M2 ∧ ∃ v : Int32, r = some (.int v) ∧ r2 = some (.int v) := by
  obtain ⟨c, ln, fg, fm, ow, nm, r1, r2, r3, fame, cu, it, yr, τ, dc, ws, to, gr, sp, pd, hb, r4, th, hB, hC, hW⟩ := hI
  obtain ⟨⟨hc, hdc, hz, hs60⟩, hln, hn0, hgr, hrr, hfa, hyr, hev, hpd⟩ := id hB
  obtain ⟨sa, da, sid, did, hX, hS, hsp, hr, ht5, hD, hdis, ⟨pn, ptot, pch, pcs, pcw, pf, pg, hpn, hpu⟩, ⟨fgo, fw, fp, ff, hhp⟩, ⟨f2, h2⟩, ⟨f40, h40⟩, h41⟩ := id hC
  have hnm : ∀ t, t < c → 0 ≤ (nm t).toInt := fun t ht => (hn0 t ht).1.1
  have hr3 : ∀ j, j < 5 → 1 ≤ (r3 j).toInt := fun j hj => (hrr j hj).2.2.1
  have hr4 : ∀ j, j < 5 → r4 j = nI (sm_cg fg ln (nI j) c) := fun j hj => (hrr j hj).2.2.2
  refine ⟨_, c_turn i hc hX hS, fun r M1 hp => ?_⟩
  obtain ⟨hy, hn⟩ := hp
  by_cases q : (0 ≤ i.toInt ∧ i.toInt < c) ∧ 0 < ln i.toInt.toNat
  · obtain ⟨rfl, x1, s1⟩ := hy q
    have hi := (sm_toN q.1).2
    obtain ⟨hsa, hst, hl80, h41s⟩ := hS _ hi
    have hdn := sm_dn hD hst
    have hg := x1.gy (ys := []) (fun z hz => Or.inr (by simp only [List.mem_cons, List.not_mem_nil, or_false] at hz; omega))
    have S1 := hS.up hsp hi x1 (fun z hz => Or.inr (by simp only [List.mem_cons, List.not_mem_nil, or_false] at hz; omega)) s1 hl80
    rw [va_up_id, va_up_id, va_up_id] at S1
    have D1 := hD.ex x1 (fun k hk e => by have := hdn k hk; simp only [List.mem_cons, List.not_mem_nil, or_false] at e; omega)
    have hC1 : sm_cl M1 c ln (va_up fg i.toInt.toNat (fun j => if j < ln i.toInt.toNat then fg i.toInt.toNat (ln i.toInt.toNat - 1 - j) else fg i.toInt.toNat j)) (va_up fm i.toInt.toNat (fun j => if j < ln i.toInt.toNat then fm i.toInt.toNat (ln i.toInt.toNat - 1 - j) else fm i.toInt.toNat j)) ow nm r1 r2 r3 fame cu it yr τ dc ws to gr sp pd hb r4 := ⟨sa, da, sid, did, hX.gy hg (by decide), S1, hsp, hr.gy hg (by decide), ht5.gy hg (by decide), D1, hdis, ⟨pn, ptot, pch, pcs, pcw, pf, pg, hpn, hpu.gy hg (by decide)⟩, ⟨fgo, fw, fp, ff, hhp.gy hg (by decide)⟩, ⟨f2, (hg 2 (by decide) (by decide)).trans h2⟩, ⟨f40, (hg 40 (by decide) (by decide)).trans h40⟩, by rw [x1.1]; exact h41⟩
    refine ⟨_, m_turn i hc hln (hW.gy hg (by decide)), fun rb M2 hq => ?_⟩
    obtain ⟨x2, my, -⟩ := hq
    obtain ⟨e2, W2⟩ := my q
    refine ⟨sm_inv.mk ⟨⟨hc, hdc, hz, hs60⟩, hln, hn0, fun s hs k hk => ?_, fun j hj => ⟨(hrr j hj).1, (hrr j hj).2.1, (hrr j hj).2.2.1, ?_⟩, hfa, hyr, hev, hpd⟩ (hC1.ml x2 (fun _ q => q)) W2, 1, rfl, e2⟩
    · by_cases e : s = i.toInt.toNat
      · rw [e] at hk ⊢
        rw [va_up_self, if_pos hk]
        exact hgr _ hi _ (by omega)
      · rw [va_up_ne _ _ e]
        exact hgr s hs k hk
    · have h1 := sm_cg_one (fg := fg) (ln := ln) (f1 := fun j => if j < ln i.toInt.toNat then fg i.toInt.toNat (ln i.toInt.toNat - 1 - j) else fg i.toInt.toNat j) (n1 := ln i.toInt.toNat) (nI j) hi
      rw [va_up_id, sm_cnt1_rev (ln i.toInt.toNat) (fg i.toInt.toNat) (fun j => if j < ln i.toInt.toNat then fg i.toInt.toNat (ln i.toInt.toNat - 1 - j) else fg i.toInt.toNat j) (fun j hj => if_pos hj)] at h1
      rw [hr4 j hj, show sm_cg (va_up fg i.toInt.toNat (fun j => if j < ln i.toInt.toNat then fg i.toInt.toNat (ln i.toInt.toNat - 1 - j) else fg i.toInt.toNat j)) ln (nI j) c = sm_cg fg ln (nI j) c from by omega]
  · obtain ⟨rfl, rfl⟩ := hn q
    refine ⟨_, m_turn i hc hln hW, fun rb M2 hq => ?_⟩
    obtain ⟨x2, -, mn⟩ := hq
    obtain ⟨e2, W2⟩ := mn q
    exact ⟨sm_inv.mk hB (hC.ml x2 (fun _ q => q)) W2, 0, rfl, e2⟩
theorem op_give (i o : Int32) (hI : sm_inv M) : ∃ P1 : Option Value → sm_M → Prop, sm_Ct l b D cA yX6_give cX6_give 4 (some .boolean) 2 0 0 [.ref 0, .int i, .int o] M P1 ∧ ∀ r M1, P1 r M1 → ∃ P2 : Option Value → sm_M → Prop, sm_Ct l b D cA yX7_give cX7_give 3 (some .boolean) 2 0 0 [.ref 23, .int i, .int o] M1 P2 ∧ ∀ r2 M2, P2 r2 M2 → sm_inv M2 ∧ ∃ v : Int32, r = some (.int v) ∧ r2 = some (.int v) := by
  obtain ⟨c, ln, fg, fm, ow, nm, r1, r2, r3, fame, cu, it, yr, τ, dc, ws, to, gr, sp, pd, hb, r4, th, hB, hC, hW⟩ := hI
  obtain ⟨⟨hc, hdc, hz, hs60⟩, hln, hn0, hgr, hrr, hfa, hyr, hev, hpd⟩ := id hB
  obtain ⟨sa, da, sid, did, hX, hS, hsp, hr, ht5, hD, hdis, ⟨pn, ptot, pch, pcs, pcw, pf, pg, hpn, hpu⟩, ⟨fgo, fw, fp, ff, hhp⟩, ⟨f2, h2⟩, ⟨f40, h40⟩, h41⟩ := id hC
  have hnm : ∀ t, t < c → 0 ≤ (nm t).toInt := fun t ht => (hn0 t ht).1.1
  have hr3 : ∀ j, j < 5 → 1 ≤ (r3 j).toInt := fun j hj => (hrr j hj).2.2.1
  have hr4 : ∀ j, j < 5 → r4 j = nI (sm_cg fg ln (nI j) c) := fun j hj => (hrr j hj).2.2.2
  refine ⟨_, c_give i o hc hX hS ht5 hz, fun r M1 hp => ?_⟩
  obtain ⟨hy, hn⟩ := hp
  by_cases q : ((0 ≤ i.toInt ∧ i.toInt < c) ∧ 0 < ln i.toInt.toNat) ∧ (0 ≤ o.toInt ∧ o.toInt < 10) ∧ ¬ ow i.toInt.toNat = o ∧ τ.1 + (if nm i.toInt.toNat = 0 then 0 else 1) ≤ 200
  · obtain ⟨rfl, x1, c1, t1⟩ := hy q
    have hi := (sm_toN q.1.1).2
    obtain ⟨hsa, hst, hl80, h41s⟩ := hS _ hi
    have hdn := sm_dn hD hst
    have hg := x1.gy (ys := [8, 9, 10, 11, 12]) (fun z hz => by simp only [List.mem_cons, List.not_mem_nil, or_false] at hz ⊢; omega)
    have s1 := (⟨c1, (x1.2 _ (by simp only [List.mem_cons, List.not_mem_nil, or_false]; omega)).trans hst.2.1, (x1.2 _ (by simp only [List.mem_cons, List.not_mem_nil, or_false]; omega)).trans hst.2.2⟩ : sm_st M1 (sid i.toInt.toNat) (sid i.toInt.toNat + 1) (sid i.toInt.toNat + 2) (ln i.toInt.toNat) (fg i.toInt.toNat) (fm i.toInt.toNat) (o) (nm i.toInt.toNat))
    have S1 := hS.up hsp hi x1 (fun z hz => by simp only [List.mem_cons, List.not_mem_nil, or_false] at hz; omega) s1 hl80
    rw [va_up_id, va_up_id, va_up_id, va_up_id] at S1
    have D1 := hD.ex x1 (fun k hk e => by have := hdn k hk; simp only [List.mem_cons, List.not_mem_nil, or_false] at e; omega)
    have hC1 : sm_cl M1 c ln fg fm (va_up ow i.toInt.toNat o) nm r1 r2 r3 fame cu it yr (sm_sayIf (nm i.toInt.toNat) 2 o yr τ) dc ws to gr sp pd hb r4 := ⟨sa, da, sid, did, hX.gy hg (by decide), S1, hsp, hr.gy hg (by decide), t1, D1, hdis, ⟨pn, ptot, pch, pcs, pcw, pf, pg, hpn, hpu.gy hg (by decide)⟩, ⟨fgo, fw, fp, ff, hhp.gy hg (by decide)⟩, ⟨f2, (hg 2 (by decide) (by decide)).trans h2⟩, ⟨f40, (hg 40 (by decide) (by decide)).trans h40⟩, by rw [x1.1]; exact h41⟩
    refine ⟨_, m_give i o hc hln hnm hz (hW.gy hg (by decide)), fun rb M2 hq => ?_⟩
    obtain ⟨x2, my, -⟩ := hq
    obtain ⟨e2, W2⟩ := my q
    exact ⟨sm_inv.mk ⟨⟨hc, hdc, by rw [sm_sayIf_len]; exact q.2.2.2, hs60⟩, hln, hn0, hgr, hrr, hfa, hyr, sm_ev_sayIf hev (hn0 _ hi).1, hpd⟩ (hC1.ml x2 (fun _ q => q)) W2, 1, rfl, e2⟩
  · obtain ⟨rfl, rfl⟩ := hn q
    refine ⟨_, m_give i o hc hln hnm hz hW, fun rb M2 hq => ?_⟩
    obtain ⟨x2, -, mn⟩ := hq
    obtain ⟨e2, W2⟩ := mn q
    exact ⟨sm_inv.mk hB (hC.ml x2 (fun _ q => q)) W2, 0, rfl, e2⟩
theorem op_name (i x : Int32) (hI : sm_inv M) : ∃ P1 : Option Value → sm_M → Prop, sm_Ct l b D cA yX6_name cX6_name 4 (some .boolean) 2 0 0 [.ref 0, .int i, .int x] M P1 ∧ ∀ r M1, P1 r M1 → ∃ P2 : Option Value → sm_M → Prop, sm_Ct l b D cA yX7_name cX7_name 3 (some .boolean) 2 0 0 [.ref 23, .int i, .int x] M1 P2 ∧ ∀ r2 M2, P2 r2 M2 → sm_inv M2 ∧ ∃ v : Int32, r = some (.int v) ∧ r2 = some (.int v) := by
  obtain ⟨c, ln, fg, fm, ow, nm, r1, r2, r3, fame, cu, it, yr, τ, dc, ws, to, gr, sp, pd, hb, r4, th, hB, hC, hW⟩ := hI
  obtain ⟨⟨hc, hdc, hz, hs60⟩, hln, hn0, hgr, hrr, hfa, hyr, hev, hpd⟩ := id hB
  obtain ⟨sa, da, sid, did, hX, hS, hsp, hr, ht5, hD, hdis, ⟨pn, ptot, pch, pcs, pcw, pf, pg, hpn, hpu⟩, ⟨fgo, fw, fp, ff, hhp⟩, ⟨f2, h2⟩, ⟨f40, h40⟩, h41⟩ := id hC
  have hnm : ∀ t, t < c → 0 ≤ (nm t).toInt := fun t ht => (hn0 t ht).1.1
  have hr3 : ∀ j, j < 5 → 1 ≤ (r3 j).toInt := fun j hj => (hrr j hj).2.2.1
  have hr4 : ∀ j, j < 5 → r4 j = nI (sm_cg fg ln (nI j) c) := fun j hj => (hrr j hj).2.2.2
  refine ⟨_, c_name i x hc hX hS ht5 hz, fun r M1 hp => ?_⟩
  obtain ⟨hy, hn⟩ := hp
  by_cases q : ((0 ≤ i.toInt ∧ i.toInt < c) ∧ 0 < ln i.toInt.toNat) ∧ (0 < x.toInt ∧ x.toInt ≤ 99) ∧ sm_nmd nm x c 0 = -1 ∧ τ.1 + ((if nm i.toInt.toNat = 0 then 0 else 1) + 1) ≤ 200
  · obtain ⟨rfl, x1, c1, t1⟩ := hy q
    have hi := (sm_toN q.1.1).2
    obtain ⟨hsa, hst, hl80, h41s⟩ := hS _ hi
    have hdn := sm_dn hD hst
    have hg := x1.gy (ys := [8, 9, 10, 11, 12]) (fun z hz => by simp only [List.mem_cons, List.not_mem_nil, or_false] at hz ⊢; omega)
    have s1 := (⟨c1, (x1.2 _ (by simp only [List.mem_cons, List.not_mem_nil, or_false]; omega)).trans hst.2.1, (x1.2 _ (by simp only [List.mem_cons, List.not_mem_nil, or_false]; omega)).trans hst.2.2⟩ : sm_st M1 (sid i.toInt.toNat) (sid i.toInt.toNat + 1) (sid i.toInt.toNat + 2) (ln i.toInt.toNat) (fg i.toInt.toNat) (fm i.toInt.toNat) (ow i.toInt.toNat) (x))
    have S1 := hS.up hsp hi x1 (fun z hz => by simp only [List.mem_cons, List.not_mem_nil, or_false] at hz; omega) s1 hl80
    rw [va_up_id, va_up_id, va_up_id, va_up_id] at S1
    have D1 := hD.ex x1 (fun k hk e => by have := hdn k hk; simp only [List.mem_cons, List.not_mem_nil, or_false] at e; omega)
    have hC1 : sm_cl M1 c ln fg fm ow (va_up nm i.toInt.toNat x) r1 r2 r3 fame cu it yr (sm_say x 1 (ow i.toInt.toNat) yr (sm_sayIf (nm i.toInt.toNat) 5 0 yr τ)) dc ws to gr sp pd hb r4 := ⟨sa, da, sid, did, hX.gy hg (by decide), S1, hsp, hr.gy hg (by decide), t1, D1, hdis, ⟨pn, ptot, pch, pcs, pcw, pf, pg, hpn, hpu.gy hg (by decide)⟩, ⟨fgo, fw, fp, ff, hhp.gy hg (by decide)⟩, ⟨f2, (hg 2 (by decide) (by decide)).trans h2⟩, ⟨f40, (hg 40 (by decide) (by decide)).trans h40⟩, by rw [x1.1]; exact h41⟩
    refine ⟨_, m_name i x hc hln hn0 hz (hW.gy hg (by decide)), fun rb M2 hq => ?_⟩
    obtain ⟨x2, my, -⟩ := hq
    obtain ⟨e2, W2⟩ := my q
    refine ⟨sm_inv.mk ⟨⟨hc, hdc, ?_, hs60⟩, hln, fun t ht => ?_, hgr, hrr, hfa, hyr, sm_ev_say (sm_ev_sayIf hev (hn0 _ hi).1) q.2.1, hpd⟩ (hC1.ml x2 (fun _ q => q)) W2, 1, rfl, e2⟩
    · show (sm_sayIf (nm i.toInt.toNat) 5 0 yr τ).1 + 1 ≤ 200
      rw [sm_sayIf_len]
      have := q.2.2.2
      omega
    · by_cases e : t = i.toInt.toNat
      · rw [e, va_up_self]
        exact ⟨by omega, fun z => absurd z (by have := q.1.2; omega)⟩
      · rw [va_up_ne _ _ e]
        exact hn0 t ht
  · obtain ⟨rfl, rfl⟩ := hn q
    refine ⟨_, m_name i x hc hln hn0 hz hW, fun rb M2 hq => ?_⟩
    obtain ⟨x2, -, mn⟩ := hq
    obtain ⟨e2, W2⟩ := mn q
    exact ⟨sm_inv.mk hB (hC.ml x2 (fun _ q => q)) W2, 0, rfl, e2⟩
theorem op_add (i g m n : Int32) (hI : sm_inv M) : ∃ P1 : Option Value → sm_M → Prop, sm_Ct l b D cA yX6_add cX6_add 6 (some .int) 2 0 0 [.ref 0, .int i, .int g, .int m, .int n] M P1 ∧ ∀ r M1, P1 r M1 → ∃ P2 : Option Value → sm_M → Prop, sm_Ct l b D cA yX7_add cX7_add 5 (some .int) 2 0 0 [.ref 23, .int i, .int g, .int m, .int n] M1 P2 ∧ ∀ r2 M2, P2 r2 M2 → sm_inv M2 ∧ ∃ v : Int32, r = some (.int v) ∧ r2 = some (.int v) := by
  obtain ⟨c, ln, fg, fm, ow, nm, r1, r2, r3, fame, cu, it, yr, τ, dc, ws, to, gr, sp, pd, hb, r4, th, hB, hC, hW⟩ := hI
  obtain ⟨⟨hc, hdc, hz, hs60⟩, hln, hn0, hgr, hrr, hfa, hyr, hev, hpd⟩ := id hB
  obtain ⟨sa, da, sid, did, hX, hS, hsp, hr, ht5, hD, hdis, ⟨pn, ptot, pch, pcs, pcw, pf, pg, hpn, hpu⟩, ⟨fgo, fw, fp, ff, hhp⟩, ⟨f2, h2⟩, ⟨f40, h40⟩, h41⟩ := id hC
  have hnm : ∀ t, t < c → 0 ≤ (nm t).toInt := fun t ht => (hn0 t ht).1.1
  have hr3 : ∀ j, j < 5 → 1 ≤ (r3 j).toInt := fun j hj => (hrr j hj).2.2.1
  have hr4 : ∀ j, j < 5 → r4 j = nI (sm_cg fg ln (nI j) c) := fun j hj => (hrr j hj).2.2.2
  refine ⟨_, c_add i g m n hc hX hS hr, fun r M1 hp => ?_⟩
  obtain ⟨hy, hn⟩ := hp
  by_cases q : ((0 ≤ i.toInt ∧ i.toInt < c) ∧ 0 < ln i.toInt.toNat) ∧ sm_bok g m n ∧ (ln i.toInt.toNat : Int) + n.toInt ≤ 80
  · obtain ⟨rfl, x1, s1, rr1⟩ := hy q
    obtain ⟨hb1, hb2, hb3⟩ := id q.2.1
    have hsum := q.2.2
    have hi := (sm_toN q.1.1).2
    obtain ⟨hsa, hst, hl80, h41s⟩ := hS _ hi
    have hdn := sm_dn hD hst
    have hg := x1.gy (ys := [7]) (fun z hz => by simp only [List.mem_cons, List.not_mem_nil, or_false] at hz ⊢; omega)
    have S1 := hS.up hsp hi x1 (fun z hz => by simp only [List.mem_cons, List.not_mem_nil, or_false] at hz; omega) s1 (by omega)
    rw [va_up_id, va_up_id] at S1
    have D1 := hD.ex x1 (fun k hk e => by have := hdn k hk; simp only [List.mem_cons, List.not_mem_nil, or_false] at e; omega)
    have hC1 : sm_cl M1 c (va_up ln i.toInt.toNat (ln i.toInt.toNat + n.toInt.toNat)) (va_up fg i.toInt.toNat (fun j => if ln i.toInt.toNat ≤ j ∧ j < ln i.toInt.toNat + n.toInt.toNat then g else fg i.toInt.toNat j)) (va_up fm i.toInt.toNat (fun j => if ln i.toInt.toNat ≤ j ∧ j < ln i.toInt.toNat + n.toInt.toNat then m else fm i.toInt.toNat j)) ow nm r1 r2 r3 fame cu it yr τ dc ws to gr sp pd hb (upd r4 g.toInt.toNat (r4 g.toInt.toNat + n)) := ⟨sa, da, sid, did, hX.gy hg (by decide), S1, hsp, rr1, ht5.gy hg (by decide), D1, hdis, ⟨pn, ptot, pch, pcs, pcw, pf, pg, hpn, hpu.gy hg (by decide)⟩, ⟨fgo, fw, fp, ff, hhp.gy hg (by decide)⟩, ⟨f2, (hg 2 (by decide) (by decide)).trans h2⟩, ⟨f40, (hg 40 (by decide) (by decide)).trans h40⟩, by rw [x1.1]; exact h41⟩
    refine ⟨_, m_add i g m n hc hln (hW.gy hg (by decide)), fun rb M2 hq => ?_⟩
    obtain ⟨x2, my, -⟩ := hq
    obtain ⟨e2, W2⟩ := my q
    refine ⟨sm_inv.mk ⟨⟨hc, hdc, hz, hs60⟩, sm_hl1 hln (by omega), fun t ht => ⟨(hn0 t ht).1, fun z => (hn0 t ht).2 ?_⟩, fun s hs k hk => ?_, fun j hj => ⟨(hrr j hj).1, (hrr j hj).2.1, (hrr j hj).2.2.1, ?_⟩, hfa, hyr, hev, hpd⟩ (hC1.ml x2 (fun _ q => q)) W2, _, rfl, e2⟩
    · by_cases e : t = i.toInt.toNat
      · rw [e, va_up_self] at z
        omega
      · rw [va_up_ne _ _ e] at z
        exact z
    · by_cases e : s = i.toInt.toNat
      · rw [e, va_up_self] at hk
        rw [e, va_up_self]
        by_cases z : ln i.toInt.toNat ≤ k ∧ k < ln i.toInt.toNat + n.toInt.toNat
        · rw [if_pos z]
          exact hb1
        · rw [if_neg z]
          exact hgr _ hi _ (by omega)
      · rw [va_up_ne _ _ e] at hk ⊢
        exact hgr s hs k hk
    · refine sm_r4_in (C := fun j => sm_cg fg ln (nI j) c) (C2 := fun j => sm_cg (va_up fg i.toInt.toNat (fun j => if ln i.toInt.toNat ≤ j ∧ j < ln i.toInt.toNat + n.toInt.toNat then g else fg i.toInt.toNat j)) (va_up ln i.toInt.toNat (ln i.toInt.toNat + n.toInt.toNat)) (nI j) c) hb1 hb3.1 hr4 (fun j hj => ?_) j hj
      have h1 := sm_cg_one (fg := fg) (ln := ln) (f1 := fun j => if ln i.toInt.toNat ≤ j ∧ j < ln i.toInt.toNat + n.toInt.toNat then g else fg i.toInt.toNat j) (n1 := ln i.toInt.toNat + n.toInt.toNat) (nI j) hi
      rw [sm_cnt1_in (f := fg i.toInt.toNat) (h := fun j => if ln i.toInt.toNat ≤ j ∧ j < ln i.toInt.toNat + n.toInt.toNat then g else fg i.toInt.toNat j) (g := nI j) (x := g) (n := ln i.toInt.toNat) (m := n.toInt.toNat) (fun j hj => if_neg (by omega)) (fun j h1 h2 => if_pos ⟨h1, h2⟩)] at h1
      show sm_cg _ _ (nI j) c = sm_cg fg ln (nI j) c + _
      omega
  · obtain ⟨rfl, rfl⟩ := hn q
    refine ⟨_, m_add i g m n hc hln hW, fun rb M2 hq => ?_⟩
    obtain ⟨x2, -, mn⟩ := hq
    obtain ⟨e2, W2⟩ := mn q
    exact ⟨sm_inv.mk hB (hC.ml x2 (fun _ q => q)) W2, -1, rfl, e2⟩
theorem op_string (o g m n : Int32) (hI : sm_inv M) : ∃ P1 : Option Value → sm_M → Prop, sm_Ct l b D cA yX6_string cX6_string 6 (some .int) 2 3 165 [.ref 0, .int o, .int g, .int m, .int n] M P1 ∧ ∀ r M1, P1 r M1 → ∃ P2 : Option Value → sm_M → Prop, sm_Ct l b D cA yX7_string cX7_string 6 (some .int) 2 0 0 [.ref 23, .int o, .int g, .int m, .int n] M1 P2 ∧ ∀ r2 M2, P2 r2 M2 → sm_inv M2 ∧ ∃ v : Int32, r = some (.int v) ∧ r2 = some (.int v) := by
  obtain ⟨c, ln, fg, fm, ow, nm, r1, r2, r3, fame, cu, it, yr, τ, dc, ws, to, gr, sp, pd, hb, r4, th, hB, hC, hW⟩ := hI
  obtain ⟨⟨hc, hdc, hz, hs60⟩, hln, hn0, hgr, hrr, hfa, hyr, hev, hpd⟩ := id hB
  obtain ⟨sa, da, sid, did, hX, hS, hsp, hr, ht5, hD, hdis, ⟨pn, ptot, pch, pcs, pcw, pf, pg, hpn, hpu⟩, ⟨fgo, fw, fp, ff, hhp⟩, ⟨f2, h2⟩, ⟨f40, h40⟩, h41⟩ := id hC
  have hnm : ∀ t, t < c → 0 ≤ (nm t).toInt := fun t ht => (hn0 t ht).1.1
  have hr3 : ∀ j, j < 5 → 1 ≤ (r3 j).toInt := fun j hj => (hrr j hj).2.2.1
  have hr4 : ∀ j, j < 5 → r4 j = nI (sm_cg fg ln (nI j) c) := fun j hj => (hrr j hj).2.2.2
  refine ⟨_, c_string o g m n h41 hc hX hr, fun r M1 hp => ?_⟩
  obtain ⟨hy, hn⟩ := hp
  by_cases q : (0 ≤ o.toInt ∧ o.toInt < 10) ∧ sm_bok g m n ∧ c < 40
  · obtain ⟨rfl, l1, x1, X1, s1, rr1⟩ := hy q
    obtain ⟨hb1, hb2, hb3⟩ := id q.2.1
    have hc40 := q.2.2
    have hg := x1.gy (ys := [0, 1, 7]) h41 (fun z hz => Or.inl hz)
    have S0 := hS.gx x1 (by decide)
    have S1 := S0.more s1 (by omega) h41
    have sp1 := sm_sp_more (q := M.length) hsp (fun k hk => by have := sm_lt_len (hS k hk).2.1.2.2; omega)
    have D1 := hD.gx x1 (fun k hk e => by have := (hD k hk).2.2; simp only [List.mem_cons, List.not_mem_nil, or_false] at e; omega)
    have hC1 : sm_cl M1 (c + 1) (va_up ln c n.toInt.toNat) (va_up fg c (fun j => if 0 ≤ j ∧ j < 0 + n.toInt.toNat then g else 0)) (va_up fm c (fun j => if 0 ≤ j ∧ j < 0 + n.toInt.toNat then m else 0)) (va_up ow c o) (va_up nm c 0) r1 r2 r3 fame cu it yr τ dc ws to gr sp pd hb (upd r4 g.toInt.toNat (r4 g.toInt.toNat + n)) := ⟨_, da, _, did, X1, S1, sp1, rr1, ht5.gy hg (by decide), D1, hdis, ⟨pn, ptot, pch, pcs, pcw, pf, pg, hpn, hpu.gy hg (by decide)⟩, ⟨fgo, fw, fp, ff, hhp.gy hg (by decide)⟩, ⟨f2, (hg 2 (by decide) (by decide)).trans h2⟩, ⟨f40, (hg 40 (by decide) (by decide)).trans h40⟩, by omega⟩
    refine ⟨_, m_string o g m n hc hln (hW.gy hg (by decide)), fun rb M2 hq => ?_⟩
    obtain ⟨x2, my, -⟩ := hq
    obtain ⟨e2, W2⟩ := my q
    refine ⟨sm_inv.mk ⟨⟨by omega, hdc, hz, hs60⟩, sm_hl2 hln (by omega), fun t ht => ?_, fun s hs k hk => ?_, fun j hj => ⟨(hrr j hj).1, (hrr j hj).2.1, (hrr j hj).2.2.1, ?_⟩, hfa, hyr, hev, hpd⟩ (hC1.ml x2 (fun _ q => q)) W2, _, rfl, e2⟩
    · by_cases e : t = c
      · rw [e, va_up_self, va_up_self]
        exact ⟨by rw [ti_0]; omega, fun _ => rfl⟩
      · rw [va_up_ne _ _ e, va_up_ne _ _ e]
        exact hn0 t (by omega)
    · by_cases e : s = c
      · rw [e, va_up_self] at hk
        rw [e, va_up_self, if_pos (by omega)]
        exact hb1
      · rw [va_up_ne _ _ e] at hk ⊢
        exact hgr s (by omega) k hk
    · refine sm_r4_in (C := fun j => sm_cg fg ln (nI j) c) (C2 := fun j => sm_cg (va_up fg c (fun j => if 0 ≤ j ∧ j < 0 + n.toInt.toNat then g else 0)) (va_up ln c n.toInt.toNat) (nI j) (c + 1)) hb1 hb3.1 hr4 (fun j hj => ?_) j hj
      show sm_cg _ _ (nI j) (c + 1) = sm_cg fg ln (nI j) c + _
      rw [sm_cg_more, sm_cnt1_const (x := g) n.toInt.toNat (fun j hj => if_pos (by omega))]
  · obtain ⟨rfl, rfl⟩ := hn q
    refine ⟨_, m_string o g m n hc hln hW, fun rb M2 hq => ?_⟩
    obtain ⟨x2, -, mn⟩ := hq
    obtain ⟨e2, W2⟩ := mn q
    exact ⟨sm_inv.mk hB (hC.ml x2 (fun _ q => q)) W2, -1, rfl, e2⟩
theorem op_cut (i j : Int32) (hI : sm_inv M) : ∃ P1 : Option Value → sm_M → Prop, sm_Ct l b D cA yX6_cut cX6_cut 5 (some .int) 3 3 165 [.ref 0, .int i, .int j] M P1 ∧ ∀ r M1, P1 r M1 → ∃ P2 : Option Value → sm_M → Prop, sm_Ct l b D cA yX7_cut cX7_cut 6 (some .int) 2 0 0 [.ref 23, .int i, .int j] M1 P2 ∧ ∀ r2 M2, P2 r2 M2 → sm_inv M2 ∧ ∃ v : Int32, r = some (.int v) ∧ r2 = some (.int v) := by
  obtain ⟨c, ln, fg, fm, ow, nm, r1, r2, r3, fame, cu, it, yr, τ, dc, ws, to, gr, sp, pd, hb, r4, th, hB, hC, hW⟩ := hI
  obtain ⟨⟨hc, hdc, hz, hs60⟩, hln, hn0, hgr, hrr, hfa, hyr, hev, hpd⟩ := id hB
  obtain ⟨sa, da, sid, did, hX, hS, hsp, hr, ht5, hD, hdis, ⟨pn, ptot, pch, pcs, pcw, pf, pg, hpn, hpu⟩, ⟨fgo, fw, fp, ff, hhp⟩, ⟨f2, h2⟩, ⟨f40, h40⟩, h41⟩ := id hC
  have hnm : ∀ t, t < c → 0 ≤ (nm t).toInt := fun t ht => (hn0 t ht).1.1
  have hr3 : ∀ j, j < 5 → 1 ≤ (r3 j).toInt := fun j hj => (hrr j hj).2.2.1
  have hr4 : ∀ j, j < 5 → r4 j = nI (sm_cg fg ln (nI j) c) := fun j hj => (hrr j hj).2.2.2
  refine ⟨_, c_cut i j h41 hc hX hS ht5 hz, fun r M1 hp => ?_⟩
  obtain ⟨hy, hn⟩ := hp
  by_cases q : sm_cutc c ln nm τ i j
  · obtain ⟨rfl, l1, x1, X1, s1, s2, t1⟩ := hy q
    obtain ⟨hlv, hj1, hc40, hroom⟩ := id q
    have hi := (sm_toN hlv.1).2
    have hic : i.toInt.toNat ≠ c := by omega
    obtain ⟨hsa, hst, hl80, h41s⟩ := hS _ hi
    have hdn := sm_dn hD hst
    have hg := x1.gy (ys := [0, 1, 8, 9, 10, 11, 12]) h41 (fun z hz => by simp only [List.mem_cons, List.not_mem_nil, or_false] at hz ⊢; omega)
    have S0 : sm_S M1 c sa sid (va_up ln i.toInt.toNat j.toInt.toNat) fg fm ow (va_up nm i.toInt.toNat (if nm i.toInt.toNat = 0 ∨ cu = 0 ∨ j.toInt.toNat < ln i.toInt.toNat - j.toInt.toNat then 0 else nm i.toInt.toNat)) := fun k hk => by
      by_cases e : k = i.toInt.toNat
      · subst e
        rw [va_up_self, va_up_self]
        exact ⟨hsa, s1, by omega, h41s⟩
      · rw [va_up_ne _ _ e, va_up_ne _ _ e]
        obtain ⟨a, st, n, h4⟩ := hS k hk
        have hs2 := hsp k _ hk hi e
        exact ⟨a, st.gx x1 (fun z => by simp only [List.mem_cons, List.not_mem_nil, or_false] at z; omega) (fun z => by simp only [List.mem_cons, List.not_mem_nil, or_false] at z; omega) (fun z => by simp only [List.mem_cons, List.not_mem_nil, or_false] at z; omega), n, h4⟩
    have S1 := S0.more s2 (by omega) h41
    have sp1 := sm_sp_more (q := M.length) hsp (fun k hk => by have := sm_lt_len (hS k hk).2.1.2.2; omega)
    have D1 := hD.gx x1 (fun k hk e => by have := hdn k hk; simp only [List.mem_cons, List.not_mem_nil, or_false] at e; omega)
    have hC1 : sm_cl M1 (c + 1) (va_up (va_up ln i.toInt.toNat j.toInt.toNat) c (ln i.toInt.toNat - j.toInt.toNat)) (va_up fg c (fun t => if 0 ≤ t ∧ t < 0 + (ln i.toInt.toNat - j.toInt.toNat) then fg i.toInt.toNat (j.toInt.toNat + (t - 0)) else 0)) (va_up fm c (fun t => if 0 ≤ t ∧ t < 0 + (ln i.toInt.toNat - j.toInt.toNat) then fm i.toInt.toNat (j.toInt.toNat + (t - 0)) else 0)) (va_up ow c (ow i.toInt.toNat)) (va_up (va_up nm i.toInt.toNat (if nm i.toInt.toNat = 0 ∨ cu = 0 ∨ j.toInt.toNat < ln i.toInt.toNat - j.toInt.toNat then 0 else nm i.toInt.toNat)) c (if ¬ nm i.toInt.toNat = 0 ∧ ¬ cu = 0 ∧ j.toInt.toNat < ln i.toInt.toNat - j.toInt.toNat then nm i.toInt.toNat else 0)) r1 r2 r3 fame cu it yr (if nm i.toInt.toNat = 0 then τ else if cu = 0 then sm_say (nm i.toInt.toNat) 5 0 yr τ else sm_say (nm i.toInt.toNat) 3 (nI (if j.toInt.toNat < ln i.toInt.toNat - j.toInt.toNat then ln i.toInt.toNat - j.toInt.toNat else j.toInt.toNat)) yr τ) dc ws to gr sp pd hb r4 := ⟨_, da, _, did, X1, S1, sp1, hr.gy hg (by decide), t1, D1, hdis, ⟨pn, ptot, pch, pcs, pcw, pf, pg, hpn, hpu.gy hg (by decide)⟩, ⟨fgo, fw, fp, ff, hhp.gy hg (by decide)⟩, ⟨f2, (hg 2 (by decide) (by decide)).trans h2⟩, ⟨f40, (hg 40 (by decide) (by decide)).trans h40⟩, by omega⟩
    refine ⟨_, m_cut i j hc hln hnm hz (hW.gy hg (by decide)), fun rb M2 hq => ?_⟩
    obtain ⟨x2, my, -⟩ := hq
    obtain ⟨e2, W2⟩ := my q
    have hni := hn0 _ hi
    refine ⟨sm_inv.mk ⟨⟨by omega, hdc, ?_, hs60⟩, sm_hl2 (sm_hl1 hln (by omega)) (by omega), fun t ht => ?_, fun s hs k hk => ?_, fun gg hgg => ⟨(hrr gg hgg).1, (hrr gg hgg).2.1, (hrr gg hgg).2.2.1, ?_⟩, hfa, hyr, ?_, hpd⟩ (hC1.ml x2 (fun _ q => q)) W2, _, rfl, e2⟩
    · by_cases z : nm i.toInt.toNat = 0
      · rw [if_pos z]
        exact hz
      · rw [if_neg z] at hroom ⊢
        by_cases z2 : cu = 0
        · rw [if_pos z2]
          exact hroom
        · rw [if_neg z2]
          exact hroom
    · by_cases e : t = c
      · rw [e, va_up_self, va_up_self]
        refine ⟨?_, fun z => absurd z (by omega)⟩
        by_cases z : ¬ nm i.toInt.toNat = 0 ∧ ¬ cu = 0 ∧ j.toInt.toNat < ln i.toInt.toNat - j.toInt.toNat
        · rw [if_pos z]
          exact hni.1
        · rw [if_neg z, ti_0]
          omega
      · rw [va_up_ne _ _ e, va_up_ne _ _ e]
        by_cases e3 : t = i.toInt.toNat
        · rw [e3, va_up_self, va_up_self]
          refine ⟨?_, fun z => absurd z (by omega)⟩
          by_cases z : nm i.toInt.toNat = 0 ∨ cu = 0 ∨ j.toInt.toNat < ln i.toInt.toNat - j.toInt.toNat
          · rw [if_pos z, ti_0]
            omega
          · rw [if_neg z]
            exact hni.1
        · rw [va_up_ne _ _ e3, va_up_ne _ _ e3]
          exact hn0 t (by omega)
    · by_cases e : s = c
      · rw [e, va_up_self] at hk
        rw [e, va_up_self, if_pos (by omega)]
        exact hgr _ hi _ (by omega)
      · rw [va_up_ne _ _ e] at hk ⊢
        by_cases e3 : s = i.toInt.toNat
        · rw [e3, va_up_self] at hk
          rw [e3]
          exact hgr _ hi k (by omega)
        · rw [va_up_ne _ _ e3] at hk
          exact hgr s (by omega) k hk
    · have h1 := sm_cg_one (fg := fg) (ln := ln) (f1 := fg i.toInt.toNat) (n1 := j.toInt.toNat) (nI gg) hi
      rw [va_up_id] at h1
      have h2 := sm_cnt1_add (fg i.toInt.toNat) (nI gg) 0 j.toInt.toNat (ln i.toInt.toNat - j.toInt.toNat)
      rw [show j.toInt.toNat + (ln i.toInt.toNat - j.toInt.toNat) = ln i.toInt.toNat from by omega] at h2
      rw [hr4 gg hgg, sm_cg_more, sm_cnt1_sh (f := fun t => if 0 ≤ t ∧ t < 0 + (ln i.toInt.toNat - j.toInt.toNat) then fg i.toInt.toNat (j.toInt.toNat + (t - 0)) else 0) (h := fg i.toInt.toNat) (a := 0) (b := 0 + j.toInt.toNat) (ln i.toInt.toNat - j.toInt.toNat) (fun k hk => by rw [if_pos (by omega), show j.toInt.toNat + (0 + k - 0) = 0 + j.toInt.toNat + k from by omega])]
      congr 1
      omega
    · by_cases z : nm i.toInt.toNat = 0
      · rw [if_pos z]
        exact hev
      · rw [if_neg z]
        by_cases z2 : cu = 0
        · rw [if_pos z2]
          exact sm_ev_say hev (sm_n099 hni.1 z)
        · rw [if_neg z2]
          exact sm_ev_say hev (sm_n099 hni.1 z)
  · obtain ⟨rfl, rfl⟩ := hn q
    refine ⟨_, m_cut i j hc hln hnm hz hW, fun rb M2 hq => ?_⟩
    obtain ⟨x2, -, mn⟩ := hq
    obtain ⟨e2, W2⟩ := mn q
    exact ⟨sm_inv.mk hB (hC.ml x2 (fun _ q => q)) W2, -1, rfl, e2⟩
theorem op_join (i j : Int32) (hI : sm_inv M) : ∃ P1 : Option Value → sm_M → Prop, sm_Ct l b D cA yX6_join cX6_join 5 (some .int) 3 0 0 [.ref 0, .int i, .int j] M P1 ∧ ∀ r M1, P1 r M1 → ∃ P2 : Option Value → sm_M → Prop, sm_Ct l b D cA yX7_join cX7_join 5 (some .int) 2 0 0 [.ref 23, .int i, .int j] M1 P2 ∧ ∀ r2 M2, P2 r2 M2 → sm_inv M2 ∧ ∃ v : Int32, r = some (.int v) ∧ r2 = some (.int v) := by
  obtain ⟨c, ln, fg, fm, ow, nm, r1, r2, r3, fame, cu, it, yr, τ, dc, ws, to, gr, sp, pd, hb, r4, th, hB, hC, hW⟩ := hI
  obtain ⟨⟨hc, hdc, hz, hs60⟩, hln, hn0, hgr, hrr, hfa, hyr, hev, hpd⟩ := id hB
  obtain ⟨sa, da, sid, did, hX, hS, hsp, hr, ht5, hD, hdis, ⟨pn, ptot, pch, pcs, pcw, pf, pg, hpn, hpu⟩, ⟨fgo, fw, fp, ff, hhp⟩, ⟨f2, h2⟩, ⟨f40, h40⟩, h41⟩ := id hC
  have hnm : ∀ t, t < c → 0 ≤ (nm t).toInt := fun t ht => (hn0 t ht).1.1
  have hr3 : ∀ j, j < 5 → 1 ≤ (r3 j).toInt := fun j hj => (hrr j hj).2.2.1
  have hr4 : ∀ j, j < 5 → r4 j = nI (sm_cg fg ln (nI j) c) := fun j hj => (hrr j hj).2.2.2
  refine ⟨_, c_join i j hc hX hS hsp ht5 hz, fun r M1 hp => ?_⟩
  obtain ⟨hy, hn⟩ := hp
  by_cases q : sm_joinc c ln ow nm τ i j
  · obtain ⟨rfl, x1, s1, s2, t1⟩ := hy q
    obtain ⟨hlv, hlw, hne, how, hsum, hroom⟩ := id q
    have hi := (sm_toN hlv.1).2
    have hj := (sm_toN hlw.1).2
    have hij : i.toInt.toNat ≠ j.toInt.toNat := fun e => hne (by rw [(sm_toN hlv.1).1, (sm_toN hlw.1).1, e])
    obtain ⟨hsa, hst, hl80, h41s⟩ := hS _ hi
    obtain ⟨hsb, hsu, hm80, h41u⟩ := hS _ hj
    have hdn := sm_dn hD hst
    have hdm := sm_dn hD hsu
    have hg := x1.gy (ys := [8, 9, 10, 11, 12]) (fun z hz => by simp only [List.mem_cons, List.not_mem_nil, or_false] at hz ⊢; omega)
    have S1 : sm_S M1 c sa sid (va_up (va_up ln i.toInt.toNat (ln i.toInt.toNat + ln j.toInt.toNat)) j.toInt.toNat 0) (va_up fg i.toInt.toNat (fun t => if ln i.toInt.toNat ≤ t ∧ t < ln i.toInt.toNat + (ln j.toInt.toNat - 0) then fg j.toInt.toNat (0 + (t - ln i.toInt.toNat)) else fg i.toInt.toNat t)) (va_up fm i.toInt.toNat (fun t => if ln i.toInt.toNat ≤ t ∧ t < ln i.toInt.toNat + (ln j.toInt.toNat - 0) then fm j.toInt.toNat (0 + (t - ln i.toInt.toNat)) else fm i.toInt.toNat t)) ow (va_up (va_up nm i.toInt.toNat (if nm i.toInt.toNat = 0 then nm j.toInt.toNat else nm i.toInt.toNat)) j.toInt.toNat 0) := fun k hk => by
      by_cases e : k = j.toInt.toNat
      · subst e
        rw [va_up_self, va_up_self, va_up_ne _ _ (fun z => hij z.symm), va_up_ne _ _ (fun z => hij z.symm)]
        exact ⟨hsb, s2, by omega, h41u⟩
      · rw [va_up_ne _ _ e, va_up_ne _ _ e]
        by_cases e2 : k = i.toInt.toNat
        · subst e2
          rw [va_up_self, va_up_self, va_up_self, va_up_self]
          exact ⟨hsa, s1, hsum, h41s⟩
        · rw [va_up_ne _ _ e2, va_up_ne _ _ e2, va_up_ne _ _ e2, va_up_ne _ _ e2]
          obtain ⟨a, st, n, h4⟩ := hS k hk
          have hs2 := hsp k _ hk hi e2
          have hs3 := hsp k _ hk hj e
          exact ⟨a, st.ex x1 (fun z => by simp only [List.mem_cons, List.not_mem_nil, or_false] at z; omega) (fun z => by simp only [List.mem_cons, List.not_mem_nil, or_false] at z; omega) (fun z => by simp only [List.mem_cons, List.not_mem_nil, or_false] at z; omega), n, h4⟩
    have D1 := hD.ex x1 (fun k hk e => by have := hdn k hk; have := hdm k hk; simp only [List.mem_cons, List.not_mem_nil, or_false] at e; omega)
    have hC1 : sm_cl M1 c (va_up (va_up ln i.toInt.toNat (ln i.toInt.toNat + ln j.toInt.toNat)) j.toInt.toNat 0) (va_up fg i.toInt.toNat (fun t => if ln i.toInt.toNat ≤ t ∧ t < ln i.toInt.toNat + (ln j.toInt.toNat - 0) then fg j.toInt.toNat (0 + (t - ln i.toInt.toNat)) else fg i.toInt.toNat t)) (va_up fm i.toInt.toNat (fun t => if ln i.toInt.toNat ≤ t ∧ t < ln i.toInt.toNat + (ln j.toInt.toNat - 0) then fm j.toInt.toNat (0 + (t - ln i.toInt.toNat)) else fm i.toInt.toNat t)) ow (va_up (va_up nm i.toInt.toNat (if nm i.toInt.toNat = 0 then nm j.toInt.toNat else nm i.toInt.toNat)) j.toInt.toNat 0) r1 r2 r3 fame cu it yr (sm_sayIf (if nm i.toInt.toNat = 0 then nm j.toInt.toNat else nm i.toInt.toNat) 4 (nI (ln i.toInt.toNat + ln j.toInt.toNat)) yr (if nm i.toInt.toNat = 0 then τ else sm_sayIf (nm j.toInt.toNat) 5 0 yr τ)) dc ws to gr sp pd hb r4 := ⟨sa, da, sid, did, hX.gy hg (by decide), S1, hsp, hr.gy hg (by decide), t1, D1, hdis, ⟨pn, ptot, pch, pcs, pcw, pf, pg, hpn, hpu.gy hg (by decide)⟩, ⟨fgo, fw, fp, ff, hhp.gy hg (by decide)⟩, ⟨f2, (hg 2 (by decide) (by decide)).trans h2⟩, ⟨f40, (hg 40 (by decide) (by decide)).trans h40⟩, by rw [x1.1]; exact h41⟩
    refine ⟨_, m_join i j hc hln hnm hz (hW.gy hg (by decide)), fun rb M2 hq => ?_⟩
    obtain ⟨x2, my, -⟩ := hq
    obtain ⟨e2, W2⟩ := my q
    have hni := hn0 _ hi
    have hnj := hn0 _ hj
    have hA : 0 ≤ (if nm i.toInt.toNat = 0 then nm j.toInt.toNat else nm i.toInt.toNat).toInt ∧ (if nm i.toInt.toNat = 0 then nm j.toInt.toNat else nm i.toInt.toNat).toInt ≤ 99 := by
      by_cases z : nm i.toInt.toNat = 0
      · rw [if_pos z]
        exact hnj.1
      · rw [if_neg z]
        exact hni.1
    refine ⟨sm_inv.mk ⟨⟨hc, hdc, ?_, hs60⟩, sm_hl1 (sm_hl1 hln hsum) (by omega), fun t ht => ?_, fun s hs k hk => ?_, fun gg hgg => ⟨(hrr gg hgg).1, (hrr gg hgg).2.1, (hrr gg hgg).2.2.1, ?_⟩, hfa, hyr, ?_, hpd⟩ (hC1.ml x2 (fun _ q => q)) W2, _, rfl, e2⟩
    · rw [sm_sayIf_len]
      by_cases z : nm i.toInt.toNat = 0
      · rw [if_pos z] at hroom
        rw [if_pos z, if_pos z]
        omega
      · rw [if_neg z] at hroom
        rw [if_neg z, if_neg z, if_neg z, sm_sayIf_len]
        omega
    · by_cases e : t = j.toInt.toNat
      · rw [e, va_up_self, va_up_self]
        exact ⟨by rw [ti_0]; omega, fun _ => rfl⟩
      · rw [va_up_ne _ _ e, va_up_ne _ _ e]
        by_cases e3 : t = i.toInt.toNat
        · rw [e3, va_up_self, va_up_self]
          exact ⟨hA, fun z => absurd z (by have := hlv.2; omega)⟩
        · rw [va_up_ne _ _ e3, va_up_ne _ _ e3]
          exact hn0 t ht
    · by_cases e : s = j.toInt.toNat
      · rw [e, va_up_self] at hk
        exact absurd hk (Nat.not_lt_zero k)
      · rw [va_up_ne _ _ e] at hk
        by_cases e3 : s = i.toInt.toNat
        · rw [e3, va_up_self] at hk
          rw [e3, va_up_self]
          by_cases z : ln i.toInt.toNat ≤ k ∧ k < ln i.toInt.toNat + (ln j.toInt.toNat - 0)
          · rw [if_pos z]
            exact hgr _ hj _ (by omega)
          · rw [if_neg z]
            exact hgr _ hi _ (by omega)
        · rw [va_up_ne _ _ e3] at hk ⊢
          exact hgr s hs k hk
    · have h1 := sm_cg_one (fg := fg) (ln := ln) (f1 := fun t => if ln i.toInt.toNat ≤ t ∧ t < ln i.toInt.toNat + (ln j.toInt.toNat - 0) then fg j.toInt.toNat (0 + (t - ln i.toInt.toNat)) else fg i.toInt.toNat t) (n1 := ln i.toInt.toNat + ln j.toInt.toNat) (nI gg) hi
      have h2 := sm_cg_one (fg := va_up fg i.toInt.toNat (fun t => if ln i.toInt.toNat ≤ t ∧ t < ln i.toInt.toNat + (ln j.toInt.toNat - 0) then fg j.toInt.toNat (0 + (t - ln i.toInt.toNat)) else fg i.toInt.toNat t)) (ln := va_up ln i.toInt.toNat (ln i.toInt.toNat + ln j.toInt.toNat)) (f1 := fg j.toInt.toNat) (n1 := 0) (nI gg) hj
      have h3 : va_up (va_up fg i.toInt.toNat (fun t => if ln i.toInt.toNat ≤ t ∧ t < ln i.toInt.toNat + (ln j.toInt.toNat - 0) then fg j.toInt.toNat (0 + (t - ln i.toInt.toNat)) else fg i.toInt.toNat t)) j.toInt.toNat (fg j.toInt.toNat) = va_up fg i.toInt.toNat (fun t => if ln i.toInt.toNat ≤ t ∧ t < ln i.toInt.toNat + (ln j.toInt.toNat - 0) then fg j.toInt.toNat (0 + (t - ln i.toInt.toNat)) else fg i.toInt.toNat t) := by
        have := va_up_id (va_up fg i.toInt.toNat (fun t => if ln i.toInt.toNat ≤ t ∧ t < ln i.toInt.toNat + (ln j.toInt.toNat - 0) then fg j.toInt.toNat (0 + (t - ln i.toInt.toNat)) else fg i.toInt.toNat t)) j.toInt.toNat
        rw [va_up_ne _ _ (fun z => hij z.symm)] at this
        exact this
      rw [h3, va_up_ne _ _ (fun z => hij z.symm), va_up_ne _ _ (fun z => hij z.symm), show sm_cnt1 (fg j.toInt.toNat) (nI gg) 0 0 = 0 from rfl] at h2
      rw [sm_cnt1_app (f := fg i.toInt.toNat) (h := fun t => if ln i.toInt.toNat ≤ t ∧ t < ln i.toInt.toNat + (ln j.toInt.toNat - 0) then fg j.toInt.toNat (0 + (t - ln i.toInt.toNat)) else fg i.toInt.toNat t) (k := fg j.toInt.toNat) (g := nI gg) (n := ln i.toInt.toNat) (m := ln j.toInt.toNat) (a := 0) (fun t ht => if_neg (by omega)) (fun t ht => by rw [if_pos (by omega), show ln i.toInt.toNat + t - ln i.toInt.toNat = t from by omega])] at h1
      rw [hr4 gg hgg]
      congr 1
      omega
    · refine sm_ev_sayIf ?_ hA
      by_cases z : nm i.toInt.toNat = 0
      · rw [if_pos z]
        exact hev
      · rw [if_neg z]
        exact sm_ev_sayIf hev hnj.1
  · obtain ⟨rfl, rfl⟩ := hn q
    refine ⟨_, m_join i j hc hln hnm hz hW, fun rb M2 hq => ?_⟩
    obtain ⟨x2, -, mn⟩ := hq
    obtain ⟨e2, W2⟩ := mn q
    exact ⟨sm_inv.mk hB (hC.ml x2 (fun _ q => q)) W2, -1, rfl, e2⟩
end SM75
