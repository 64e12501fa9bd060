/-! the rest of the calls that change something -/
theorem sm_gsum {hb : Nat → Nat} {g x : Nat} (hg : g < 5) : va_up hb g x 0 + va_up hb g x 1 + va_up hb g x 2 + va_up hb g x 3 + va_up hb g x 4 = hb 0 + hb 1 + hb 2 + hb 3 + hb 4 - hb g + x := by
  have hv : ∀ j, va_up hb g x j = if j = g then x else hb j := fun j => by
    by_cases e : j = g
    · rw [e, va_up_self, if_pos rfl]
    · rw [va_up_ne _ _ e, if_neg e]
  simp only [hv]
  rcases (show g = 0 ∨ g = 1 ∨ g = 2 ∨ g = 3 ∨ g = 4 by omega) with e | e | e | e | e <;> subst e <;> simp <;> omega
theorem sm_grow0 (it : Int32) : sm_grow 0 it = 0 := by
  unfold sm_grow
  rw [Int32.zero_mul]
  decide
section SM76
variable {l : Launch} {b : Nat} {D : va_G} {cA : Nat → ClassId} {M : sm_M}
theorem op_set (w g v : Int32) (hI : sm_inv M) : ∃ P1 : Option Value → sm_M → Prop, sm_Ct l b D cA yX6_set cX6_set 4 (some .int) 1 0 0 [.ref 0, .int w, .int g, .int v] M P1 ∧ ∀ r M1, P1 r M1 → ∃ P2 : Option Value → sm_M → Prop, sm_Ct l b D cA yX7_set cX7_set 5 (some .int) 1 0 0 [.ref 23, .int w, .int g, .int v] M1 P2 ∧ ∀ r2 M2, P2 r2 M2 → sm_inv M2 ∧ ∃ v : Int32, r = some (.int v) ∧ r2 = some (.int v) := by
  obtain ⟨c, ln, fg, fm, ow, nm, r1, r2, r3, fame, cu, it, yr, τ, dc, ws, to, gr, sp, pd, hb, r4, th, hB, hC, hW⟩ := hI
  obtain ⟨⟨hc, hdc, hz, hs60⟩, hln, hn0, hgr, hrr, hfa, hyr, hev, hpd⟩ := id hB
  obtain ⟨sa, da, sid, did, hX, hS, hsp, hr, ht5, hD, hdis, ⟨pn, ptot, pch, pcs, pcw, pf, pg, hpn, hpu⟩, ⟨fgo, fw, fp, ff, hhp⟩, ⟨f2, h2⟩, ⟨f40, h40⟩, h41⟩ := id hC
  have hnm : ∀ t, t < c → 0 ≤ (nm t).toInt := fun t ht => (hn0 t ht).1.1
  have hr3 : ∀ j, j < 5 → 1 ≤ (r3 j).toInt := fun j hj => (hrr j hj).2.2.1
  have hr4 : ∀ j, j < 5 → r4 j = nI (sm_cg fg ln (nI j) c) := fun j hj => (hrr j hj).2.2.2
  by_cases w0 : w = 0
  · subst w0
    refine ⟨_, c_set0 g v hX hr, fun r M1 hp => ?_⟩
    obtain ⟨hy, hn⟩ := hp
    by_cases q : (0 ≤ g.toInt ∧ g.toInt < 5) ∧ 1 ≤ v.toInt ∧ v.toInt ≤ 100
    · obtain ⟨rfl, e1⟩ := hy q
      have x1 : sm_ex M M1 [4] := by rw [e1]; exact sm_ex.set
      have g1 : M1[4]? = some (sm_i 5 (upd r1 g.toInt.toNat v)) := by rw [e1]; exact sm_gs hr.2.1
      have hg := x1.gy (ys := [4]) (fun z hz => Or.inl hz)
      have rr1 : sm_rates M1 (upd r1 g.toInt.toNat v) r2 r3 r4 fame := ⟨(hg 3 (by decide) (by decide)).trans hr.1, g1, (hg 5 (by decide) (by decide)).trans hr.2.2.1, (hg 6 (by decide) (by decide)).trans hr.2.2.2.1, (hg 7 (by decide) (by decide)).trans hr.2.2.2.2⟩
      have S1 := hS.ex x1 (by decide)
      have D1 := hD.ex x1 (fun k hk e => by have := (hD k hk).2.2; simp only [List.mem_cons, List.not_mem_nil, or_false] at e; omega)
      have hC1 : sm_cl M1 c ln fg fm ow nm (upd r1 g.toInt.toNat v) r2 r3 fame cu it yr τ dc ws to gr sp pd hb r4 := ⟨sa, da, sid, did, hX.gy hg (by decide), S1, hsp, rr1, ht5.gy hg (by decide), D1, hdis, ⟨pn, ptot, pch, pcs, pcw, pf, pg, hpn, hpu.gy hg (by decide)⟩, ⟨fgo, fw, fp, ff, hhp.gy hg (by decide)⟩, ⟨f2, (hg 2 (by decide) (by decide)).trans h2⟩, ⟨f40, (hg 40 (by decide) (by decide)).trans h40⟩, by rw [x1.1]; exact h41⟩
      refine ⟨_, m_set0 g v (hW.gy hg (by decide)), fun rb M2 hq => ?_⟩
      obtain ⟨x2, my, -⟩ := hq
      obtain ⟨e2, W2⟩ := my q
      refine ⟨sm_inv.mk ⟨⟨hc, hdc, hz, hs60⟩, hln, hn0, hgr, fun j hj => ⟨?_, (hrr j hj).2⟩, hfa, hyr, hev, hpd⟩ (hC1.ml x2 (fun _ q => q)) W2, _, rfl, e2⟩
      unfold upd
      by_cases e : j = g.toInt.toNat
      · rw [if_pos e]
        exact q.2
      · rw [if_neg e]
        exact (hrr j hj).1
    · obtain ⟨rfl, rfl⟩ := hn q
      refine ⟨_, m_set0 g v hW, fun rb M2 hq => ?_⟩
      obtain ⟨x2, -, mn⟩ := hq
      obtain ⟨e2, W2⟩ := mn q
      exact ⟨sm_inv.mk hB (hC.ml x2 (fun _ q => q)) W2, -1, rfl, e2⟩
  · by_cases w1 : w = 1
    · subst w1
      refine ⟨_, c_set1 g v hX hr, fun r M1 hp => ?_⟩
      obtain ⟨hy, hn⟩ := hp
      by_cases q : (0 ≤ g.toInt ∧ g.toInt < 5) ∧ 0 ≤ v.toInt ∧ v.toInt ≤ 500
      · obtain ⟨rfl, e1⟩ := hy q
        have x1 : sm_ex M M1 [5] := by rw [e1]; exact sm_ex.set
        have g1 : M1[5]? = some (sm_i 5 (upd r2 g.toInt.toNat v)) := by rw [e1]; exact sm_gs hr.2.2.1
        have hg := x1.gy (ys := [5]) (fun z hz => Or.inl hz)
        have rr1 : sm_rates M1 r1 (upd r2 g.toInt.toNat v) r3 r4 fame := ⟨(hg 3 (by decide) (by decide)).trans hr.1, (hg 4 (by decide) (by decide)).trans hr.2.1, g1, (hg 6 (by decide) (by decide)).trans hr.2.2.2.1, (hg 7 (by decide) (by decide)).trans hr.2.2.2.2⟩
        have S1 := hS.ex x1 (by decide)
        have D1 := hD.ex x1 (fun k hk e => by have := (hD k hk).2.2; simp only [List.mem_cons, List.not_mem_nil, or_false] at e; omega)
        have hC1 : sm_cl M1 c ln fg fm ow nm r1 (upd r2 g.toInt.toNat v) r3 fame cu it yr τ dc ws to gr sp pd hb r4 := ⟨sa, da, sid, did, hX.gy hg (by decide), S1, hsp, rr1, ht5.gy hg (by decide), D1, hdis, ⟨pn, ptot, pch, pcs, pcw, pf, pg, hpn, hpu.gy hg (by decide)⟩, ⟨fgo, fw, fp, ff, hhp.gy hg (by decide)⟩, ⟨f2, (hg 2 (by decide) (by decide)).trans h2⟩, ⟨f40, (hg 40 (by decide) (by decide)).trans h40⟩, by rw [x1.1]; exact h41⟩
        refine ⟨_, m_set1 g v (hW.gy hg (by decide)), fun rb M2 hq => ?_⟩
        obtain ⟨x2, my, -⟩ := hq
        obtain ⟨e2, W2⟩ := my q
        refine ⟨sm_inv.mk ⟨⟨hc, hdc, hz, hs60⟩, hln, hn0, hgr, fun j hj => ⟨(hrr j hj).1, ?_, (hrr j hj).2.2⟩, hfa, hyr, hev, hpd⟩ (hC1.ml x2 (fun _ q => q)) W2, _, rfl, e2⟩
        unfold upd
        by_cases e : j = g.toInt.toNat
        · rw [if_pos e]
          exact q.2
        · rw [if_neg e]
          exact (hrr j hj).2.1
      · obtain ⟨rfl, rfl⟩ := hn q
        refine ⟨_, m_set1 g v hW, fun rb M2 hq => ?_⟩
        obtain ⟨x2, -, mn⟩ := hq
        obtain ⟨e2, W2⟩ := mn q
        exact ⟨sm_inv.mk hB (hC.ml x2 (fun _ q => q)) W2, -1, rfl, e2⟩
    · by_cases w2 : w = 2
      · subst w2
        refine ⟨_, c_set2 g v hX hr, fun r M1 hp => ?_⟩
        obtain ⟨hy, hn⟩ := hp
        by_cases q : (0 ≤ g.toInt ∧ g.toInt < 5) ∧ 1 ≤ v.toInt ∧ v.toInt ≤ 1000
        · obtain ⟨rfl, e1⟩ := hy q
          have x1 : sm_ex M M1 [6] := by rw [e1]; exact sm_ex.set
          have g1 : M1[6]? = some (sm_i 5 (upd r3 g.toInt.toNat v)) := by rw [e1]; exact sm_gs hr.2.2.2.1
          have hg := x1.gy (ys := [6]) (fun z hz => Or.inl hz)
          have rr1 : sm_rates M1 r1 r2 (upd r3 g.toInt.toNat v) r4 fame := ⟨(hg 3 (by decide) (by decide)).trans hr.1, (hg 4 (by decide) (by decide)).trans hr.2.1, (hg 5 (by decide) (by decide)).trans hr.2.2.1, g1, (hg 7 (by decide) (by decide)).trans hr.2.2.2.2⟩
          have S1 := hS.ex x1 (by decide)
          have D1 := hD.ex x1 (fun k hk e => by have := (hD k hk).2.2; simp only [List.mem_cons, List.not_mem_nil, or_false] at e; omega)
          have hC1 : sm_cl M1 c ln fg fm ow nm r1 r2 (upd r3 g.toInt.toNat v) fame cu it yr τ dc ws to gr sp pd hb r4 := ⟨sa, da, sid, did, hX.gy hg (by decide), S1, hsp, rr1, ht5.gy hg (by decide), D1, hdis, ⟨pn, ptot, pch, pcs, pcw, pf, pg, hpn, hpu.gy hg (by decide)⟩, ⟨fgo, fw, fp, ff, hhp.gy hg (by decide)⟩, ⟨f2, (hg 2 (by decide) (by decide)).trans h2⟩, ⟨f40, (hg 40 (by decide) (by decide)).trans h40⟩, by rw [x1.1]; exact h41⟩
          refine ⟨_, m_set2 g v (hW.gy hg (by decide)), fun rb M2 hq => ?_⟩
          obtain ⟨x2, my, -⟩ := hq
          obtain ⟨e2, W2⟩ := my q
          refine ⟨sm_inv.mk ⟨⟨hc, hdc, hz, hs60⟩, hln, hn0, hgr, fun j hj => ⟨(hrr j hj).1, (hrr j hj).2.1, ?_, (hrr j hj).2.2.2⟩, hfa, hyr, hev, hpd⟩ (hC1.ml x2 (fun _ q => q)) W2, _, rfl, e2⟩
          unfold upd
          by_cases e : j = g.toInt.toNat
          · rw [if_pos e]
            exact q.2.1
          · rw [if_neg e]
            exact (hrr j hj).2.2.1
        · obtain ⟨rfl, rfl⟩ := hn q
          refine ⟨_, m_set2 g v hW, fun rb M2 hq => ?_⟩
          obtain ⟨x2, -, mn⟩ := hq
          obtain ⟨e2, W2⟩ := mn q
          exact ⟨sm_inv.mk hB (hC.ml x2 (fun _ q => q)) W2, -1, rfl, e2⟩
      · by_cases w3 : w = 3
        · subst w3
          refine ⟨_, c_set3 g v hX hr, fun r M1 hp => ?_⟩
          obtain ⟨hy, hn⟩ := hp
          by_cases q : 0 ≤ v.toInt ∧ v.toInt ≤ 500
          · obtain ⟨rfl, x1, y1⟩ := hy q
            have hg := x1.gy (ys := [3]) (fun z hz => Or.inl hz)
            have S1 := hS.ex x1 (by decide)
            have D1 := hD.ex x1 (fun k hk e => by have := (hD k hk).2.2; simp only [List.mem_cons, List.not_mem_nil, or_false] at e; omega)
            have hC1 : sm_cl M1 c ln fg fm ow nm r1 r2 r3 (v) cu it yr τ dc ws to gr sp pd hb r4 := ⟨sa, da, sid, did, hX.gy hg (by decide), S1, hsp, y1, ht5.gy hg (by decide), D1, hdis, ⟨pn, ptot, pch, pcs, pcw, pf, pg, hpn, hpu.gy hg (by decide)⟩, ⟨fgo, fw, fp, ff, hhp.gy hg (by decide)⟩, ⟨f2, (hg 2 (by decide) (by decide)).trans h2⟩, ⟨f40, (hg 40 (by decide) (by decide)).trans h40⟩, by rw [x1.1]; exact h41⟩
            refine ⟨_, m_set3 g v (hW.gy hg (by decide)), fun rb M2 hq => ?_⟩
            obtain ⟨x2, my, -⟩ := hq
            obtain ⟨e2, W2⟩ := my q
            exact ⟨sm_inv.mk ⟨⟨hc, hdc, hz, hs60⟩, hln, hn0, hgr, hrr, q, hyr, hev, hpd⟩ (hC1.ml x2 (fun _ q => q)) W2, _, rfl, e2⟩
          · obtain ⟨rfl, rfl⟩ := hn q
            refine ⟨_, m_set3 g v hW, fun rb M2 hq => ?_⟩
            obtain ⟨x2, -, mn⟩ := hq
            obtain ⟨e2, W2⟩ := mn q
            exact ⟨sm_inv.mk hB (hC.ml x2 (fun _ q => q)) W2, -1, rfl, e2⟩
        · by_cases w4 : w = 4
          · subst w4
            refine ⟨_, c_set4 g v hX, fun r M1 hp => ?_⟩
            obtain ⟨hy, hn⟩ := hp
            by_cases q : 0 ≤ v.toInt ∧ v.toInt ≤ 1
            · obtain ⟨rfl, x1, y1⟩ := hy q
              have hg := x1.gy (ys := [0]) (fun z hz => Or.inl hz)
              have S1 := hS.ex x1 (by decide)
              have D1 := hD.ex x1 (fun k hk e => by have := (hD k hk).2.2; simp only [List.mem_cons, List.not_mem_nil, or_false] at e; omega)
              have hC1 : sm_cl M1 c ln fg fm ow nm r1 r2 r3 fame (v) it yr τ dc ws to gr sp pd hb r4 := ⟨sa, da, sid, did, y1, S1, hsp, hr.gy hg (by decide), ht5.gy hg (by decide), D1, hdis, ⟨pn, ptot, pch, pcs, pcw, pf, pg, hpn, hpu.gy hg (by decide)⟩, ⟨fgo, fw, fp, ff, hhp.gy hg (by decide)⟩, ⟨f2, (hg 2 (by decide) (by decide)).trans h2⟩, ⟨f40, (hg 40 (by decide) (by decide)).trans h40⟩, by rw [x1.1]; exact h41⟩
              refine ⟨_, m_set4 g v (hW.gy hg (by decide)), fun rb M2 hq => ?_⟩
              obtain ⟨x2, my, -⟩ := hq
              obtain ⟨e2, W2⟩ := my q
              exact ⟨sm_inv.mk ⟨⟨hc, hdc, hz, hs60⟩, hln, hn0, hgr, hrr, hfa, hyr, hev, hpd⟩ (hC1.ml x2 (fun _ q => q)) W2, _, rfl, e2⟩
            · obtain ⟨rfl, rfl⟩ := hn q
              refine ⟨_, m_set4 g v hW, fun rb M2 hq => ?_⟩
              obtain ⟨x2, -, mn⟩ := hq
              obtain ⟨e2, W2⟩ := mn q
              exact ⟨sm_inv.mk hB (hC.ml x2 (fun _ q => q)) W2, -1, rfl, e2⟩
          · by_cases w5 : w = 5
            · subst w5
              refine ⟨_, c_set5 g v hX, fun r M1 hp => ?_⟩
              obtain ⟨hy, hn⟩ := hp
              by_cases q : 0 ≤ v.toInt ∧ v.toInt ≤ 50
              · obtain ⟨rfl, x1, y1⟩ := hy q
                have hg := x1.gy (ys := [0]) (fun z hz => Or.inl hz)
                have S1 := hS.ex x1 (by decide)
                have D1 := hD.ex x1 (fun k hk e => by have := (hD k hk).2.2; simp only [List.mem_cons, List.not_mem_nil, or_false] at e; omega)
                have hC1 : sm_cl M1 c ln fg fm ow nm r1 r2 r3 fame cu (v) yr τ dc ws to gr sp pd hb r4 := ⟨sa, da, sid, did, y1, S1, hsp, hr.gy hg (by decide), ht5.gy hg (by decide), D1, hdis, ⟨pn, ptot, pch, pcs, pcw, pf, pg, hpn, hpu.gy hg (by decide)⟩, ⟨fgo, fw, fp, ff, hhp.gy hg (by decide)⟩, ⟨f2, (hg 2 (by decide) (by decide)).trans h2⟩, ⟨f40, (hg 40 (by decide) (by decide)).trans h40⟩, by rw [x1.1]; exact h41⟩
                refine ⟨_, m_set5 g v (hW.gy hg (by decide)), fun rb M2 hq => ?_⟩
                obtain ⟨x2, my, -⟩ := hq
                obtain ⟨e2, W2⟩ := my q
                exact ⟨sm_inv.mk ⟨⟨hc, hdc, hz, hs60⟩, hln, hn0, hgr, hrr, hfa, hyr, hev, hpd⟩ (hC1.ml x2 (fun _ q => q)) W2, _, rfl, e2⟩
              · obtain ⟨rfl, rfl⟩ := hn q
                refine ⟨_, m_set5 g v hW, fun rb M2 hq => ?_⟩
                obtain ⟨x2, -, mn⟩ := hq
                obtain ⟨e2, W2⟩ := mn q
                exact ⟨sm_inv.mk hB (hC.ml x2 (fun _ q => q)) W2, -1, rfl, e2⟩
            · rw [← Int32.toInt_inj, ti_0] at w0
              rw [← Int32.toInt_inj, ti_1] at w1
              rw [← Int32.toInt_inj, ti_2] at w2
              rw [← Int32.toInt_inj, ti_3] at w3
              rw [← Int32.toInt_inj, ti_4] at w4
              rw [← Int32.toInt_inj, ti_5] at w5
              have hw : w.toInt < 0 ∨ 5 < w.toInt := by omega
              refine ⟨_, c_setx w g v hw, fun r M1 hp => ?_⟩
              obtain ⟨rfl, rfl⟩ := hp
              refine ⟨_, m_setx w g v hw hW, fun rb M2 hq => ?_⟩
              obtain ⟨e2, x2, W2⟩ := hq
              exact ⟨sm_inv.mk hB (hC.ml x2 (fun _ q => q)) W2, -1, rfl, e2⟩
theorem op_heap (g x : Int32) (hI : sm_inv M) : ∃ P1 : Option Value → sm_M → Prop, sm_Ct l b D cA yX6_heap cX6_heap 3 (some .boolean) 2 0 0 [.ref 0, .int g, .int x] M P1 ∧ ∀ r M1, P1 r M1 → ∃ P2 : Option Value → sm_M → Prop, sm_Ct l b D cA yX7_heap cX7_heap 3 (some .boolean) 1 0 0 [.ref 23, .int g, .int x] M1 P2 ∧ ∀ r2 M2, P2 r2 M2 → sm_inv M2 ∧ ∃ v : Int32, r = some (.int v) ∧ r2 = some (.int v) := by
  obtain ⟨c, ln, fg, fm, ow, nm, r1, r2, r3, fame, cu, it, yr, τ, dc, ws, to, gr, sp, pd, hb, r4, th, hB, hC, hW⟩ := hI
  obtain ⟨⟨hc, hdc, hz, hs60⟩, hln, hn0, hgr, hrr, hfa, hyr, hev, hpd⟩ := id hB
  obtain ⟨sa, da, sid, did, hX, hS, hsp, hr, ht5, hD, hdis, ⟨pn, ptot, pch, pcs, pcw, pf, pg, hpn, hpu⟩, ⟨fgo, fw, fp, ff, hhp⟩, ⟨f2, h2⟩, ⟨f40, h40⟩, h41⟩ := id hC
  have hnm : ∀ t, t < c → 0 ≤ (nm t).toInt := fun t ht => (hn0 t ht).1.1
  have hr3 : ∀ j, j < 5 → 1 ≤ (r3 j).toInt := fun j hj => (hrr j hj).2.2.1
  have hr4 : ∀ j, j < 5 → r4 j = nI (sm_cg fg ln (nI j) c) := fun j hj => (hrr j hj).2.2.2
  have hle : ∀ j, j < 5 → hb j ≤ hb 0 + hb 1 + hb 2 + hb 3 + hb 4 := fun j hj => by
    rcases (show j = 0 ∨ j = 1 ∨ j = 2 ∨ j = 3 ∨ j = 4 by omega) with e | e | e | e | e <;> rw [e] <;> omega
  refine ⟨_, c_heap g x hX hs60 hle hhp, fun r M1 hp => ?_⟩
  obtain ⟨⟨z, er, hz01, hziff⟩, hy, hn⟩ := hp
  by_cases q : sm_hok (hb 0 + hb 1 + hb 2 + hb 3 + hb 4) hb g x
  · obtain ⟨x1, hp1⟩ := hy q
    have hg := x1.gy (ys := [17, 18]) (fun z hz => Or.inl hz)
    have hq5 := q.1
    have hxn := sm_asN q.2.1.1
    have hbg := hle g.toInt.toNat (by omega)
    have hq6 := q.2.2
    have hfun : upd (fun j => nI (hb j)) g.toInt.toNat x = fun j => nI (va_up hb g.toInt.toNat x.toInt.toNat j) := by
      funext j
      unfold upd
      by_cases e : j = g.toInt.toNat
      · rw [if_pos e, e, va_up_self]
        exact hxn
      · rw [if_neg e, va_up_ne _ _ e]
    rw [hfun, ← sm_gsum (hb := hb) (x := x.toInt.toNat) (show g.toInt.toNat < 5 by omega)] at hp1
    have S1 := hS.ex x1 (by decide)
    have D1 := hD.ex x1 (fun k hk e => by have := (hD k hk).2.2; simp only [List.mem_cons, List.not_mem_nil, or_false] at e; omega)
    have hC1 : sm_cl M1 c ln fg fm ow nm r1 r2 r3 fame cu it yr τ dc ws to gr sp pd (va_up hb g.toInt.toNat x.toInt.toNat) r4 := ⟨sa, da, sid, did, hX.gy hg (by decide), S1, hsp, hr.gy hg (by decide), ht5.gy hg (by decide), D1, hdis, ⟨pn, ptot, pch, pcs, pcw, pf, pg, hpn, hpu.gy hg (by decide)⟩, ⟨fgo, fw, fp, ff, hp1⟩, ⟨f2, (hg 2 (by decide) (by decide)).trans h2⟩, ⟨f40, (hg 40 (by decide) (by decide)).trans h40⟩, by rw [x1.1]; exact h41⟩
    refine ⟨_, m_heap g x hs60 (hW.gy hg (by decide)), fun rb M2 hq => ?_⟩
    obtain ⟨x2, my, -⟩ := hq
    obtain ⟨e2, W2⟩ := my q
    refine ⟨sm_inv.mk ⟨⟨hc, hdc, hz, ?_⟩, hln, hn0, hgr, hrr, hfa, hyr, hev, hpd⟩ (hC1.ml x2 (fun _ q => q)) W2, 1, ?_, e2⟩
    · rw [sm_gsum (by omega)]
      omega
    · rw [er, hziff.mpr q]
  · have e1 := hn q
    subst e1
    refine ⟨_, m_heap g x hs60 hW, fun rb M2 hq => ?_⟩
    obtain ⟨x2, -, mn⟩ := hq
    obtain ⟨e2, W2⟩ := mn q
    refine ⟨sm_inv.mk hB (hC.ml x2 (fun _ q => q)) W2, 0, ?_, e2⟩
    rw [er]
    rcases hz01 with e | e
    · rw [e]
    · exact absurd (hziff.mp e) q
theorem op_owe (o t s g : Int32) (hI : sm_inv M) : ∃ P1 : Option Value → sm_M → Prop, sm_Ct l b D cA yX6_owe cX6_owe 5 (some .int) 2 1 5 [.ref 0, .int o, .int t, .int s, .int g] M P1 ∧ ∀ r M1, P1 r M1 → ∃ P2 : Option Value → sm_M → Prop, sm_Ct l b D cA yX7_owe cX7_owe 6 (some .int) 1 0 0 [.ref 23, .int o, .int t, .int s, .int g] M1 P2 ∧ ∀ r2 M2, P2 r2 M2 → sm_inv M2 ∧ ∃ v : Int32, r = some (.int v) ∧ r2 = some (.int v) := by
  obtain ⟨c, ln, fg, fm, ow, nm, r1, r2, r3, fame, cu, it, yr, τ, dc, ws, to, gr, sp, pd, hb, r4, th, hB, hC, hW⟩ := hI
  obtain ⟨⟨hc, hdc, hz, hs60⟩, hln, hn0, hgr, hrr, hfa, hyr, hev, hpd⟩ := id hB
  obtain ⟨sa, da, sid, did, hX, hS, hsp, hr, ht5, hD, hdis, ⟨pn, ptot, pch, pcs, pcw, pf, pg, hpn, hpu⟩, ⟨fgo, fw, fp, ff, hhp⟩, ⟨f2, h2⟩, ⟨f40, h40⟩, h41⟩ := id hC
  have hnm : ∀ t, t < c → 0 ≤ (nm t).toInt := fun t ht => (hn0 t ht).1.1
  have hr3 : ∀ j, j < 5 → 1 ≤ (r3 j).toInt := fun j hj => (hrr j hj).2.2.1
  have hr4 : ∀ j, j < 5 → r4 j = nI (sm_cg fg ln (nI j) c) := fun j hj => (hrr j hj).2.2.2
  refine ⟨_, c_owe o t s g h41 hdc hX, fun r M1 hp => ?_⟩
  obtain ⟨hy, hn⟩ := hp
  by_cases q : sm_owec dc o t s g
  · obtain ⟨rfl, l1, x1, X1, c1⟩ := hy q
    have hd60 := q.2.2.2.2.2
    have hg := x1.gy (ys := [0, 16]) h41 (fun z hz => Or.inl hz)
    have S1 := hS.gx x1 (by decide)
    have D0 := hD.gx x1 (fun k hk e => by have := (hD k hk).2.2; simp only [List.mem_cons, List.not_mem_nil, or_false] at e; omega)
    have D1 : sm_D M1 (dc + 1) (va_up da dc (some M.length)) (va_up did dc M.length) (va_up ws dc o) (va_up to dc t) (va_up gr dc g) (va_up sp dc s) (va_up pd dc (-1)) := fun k hk => by
      by_cases e : k = dc
      · subst e
        rw [va_up_self, va_up_self, va_up_self, va_up_self, va_up_self, va_up_self, va_up_self]
        exact ⟨rfl, c1, h41⟩
      · rw [va_up_ne _ _ e, va_up_ne _ _ e, va_up_ne _ _ e, va_up_ne _ _ e, va_up_ne _ _ e, va_up_ne _ _ e, va_up_ne _ _ e]
        exact D0 k (by omega)
    have dis1 : ∀ j k, j < dc + 1 → k < dc + 1 → j ≠ k → va_up did dc M.length j ≠ va_up did dc M.length k := fun j k hj hk hne => by
      by_cases e : j = dc
      · subst e
        rw [va_up_self, va_up_ne _ _ (fun z => hne z.symm)]
        have := sm_lt_len (hD k (by omega)).2.1
        omega
      · by_cases e2 : k = dc
        · subst e2
          rw [va_up_self, va_up_ne _ _ e]
          have := sm_lt_len (hD j (by omega)).2.1
          omega
        · rw [va_up_ne _ _ e, va_up_ne _ _ e2]
          exact hdis j k (by omega) (by omega) hne
    have hC1 : sm_cl M1 c ln fg fm ow nm r1 r2 r3 fame cu it yr τ (dc + 1) (va_up ws dc o) (va_up to dc t) (va_up gr dc g) (va_up sp dc s) (va_up pd dc (-1)) hb r4 := ⟨sa, _, sid, _, X1, S1, hsp, hr.gy hg (by decide), ht5.gy hg (by decide), D1, dis1, ⟨pn, ptot, pch, pcs, pcw, pf, pg, hpn, hpu.gy hg (by decide)⟩, ⟨fgo, fw, fp, ff, hhp.gy hg (by decide)⟩, ⟨f2, (hg 2 (by decide) (by decide)).trans h2⟩, ⟨f40, (hg 40 (by decide) (by decide)).trans h40⟩, by omega⟩
    refine ⟨_, m_owe o t s g hdc (hW.gy hg (by decide)), fun rb M2 hq => ?_⟩
    obtain ⟨x2, my, -⟩ := hq
    obtain ⟨e2, W2⟩ := my q
    refine ⟨sm_inv.mk ⟨⟨hc, by omega, hz, hs60⟩, hln, hn0, hgr, hrr, hfa, hyr, hev, fun k hk => ?_⟩ (hC1.ml x2 (fun _ q => q)) W2, _, rfl, e2⟩
    by_cases e : k = dc
    · rw [e, va_up_self]
      exact fun z => absurd rfl z
    · rw [va_up_ne _ _ e, va_up_ne _ _ e]
      exact hpd k (by omega)
  · obtain ⟨rfl, rfl⟩ := hn q
    refine ⟨_, m_owe o t s g hdc hW, fun rb M2 hq => ?_⟩
    obtain ⟨x2, -, mn⟩ := hq
    obtain ⟨e2, W2⟩ := mn q
    exact ⟨sm_inv.mk hB (hC.ml x2 (fun _ q => q)) W2, -1, rfl, e2⟩
theorem op_settle (d i : Int32) (hI : sm_inv M) : ∃ P1 : Option Value → sm_M → Prop, sm_Ct l b D cA yX6_settle cX6_settle 5 (some .boolean) 3 0 0 [.ref 0, .int d, .int i] M P1 ∧ ∀ r M1, P1 r M1 → ∃ P2 : Option Value → sm_M → Prop, sm_Ct l b D cA yX7_settle cX7_settle 4 (some .boolean) 2 0 0 [.ref 23, .int d, .int i] M1 P2 ∧ ∀ r2 M2, P2 r2 M2 → sm_inv M2 ∧ ∃ v : Int32, r = some (.int v) ∧ r2 = some (.int v) := by
  obtain ⟨c, ln, fg, fm, ow, nm, r1, r2, r3, fame, cu, it, yr, τ, dc, ws, to, gr, sp, pd, hb, r4, th, hB, hC, hW⟩ := hI
  obtain ⟨⟨hc, hdc, hz, hs60⟩, hln, hn0, hgr, hrr, hfa, hyr, hev, hpd⟩ := id hB
  obtain ⟨sa, da, sid, did, hX, hS, hsp, hr, ht5, hD, hdis, ⟨pn, ptot, pch, pcs, pcw, pf, pg, hpn, hpu⟩, ⟨fgo, fw, fp, ff, hhp⟩, ⟨f2, h2⟩, ⟨f40, h40⟩, h41⟩ := id hC
  have hnm : ∀ t, t < c → 0 ≤ (nm t).toInt := fun t ht => (hn0 t ht).1.1
  have hr3 : ∀ j, j < 5 → 1 ≤ (r3 j).toInt := fun j hj => (hrr j hj).2.2.1
  have hr4 : ∀ j, j < 5 → r4 j = nI (sm_cg fg ln (nI j) c) := fun j hj => (hrr j hj).2.2.2
  refine ⟨_, c_settle d i hc hdc hX hS hD ht5 hz, fun r M1 hp => ?_⟩
  obtain ⟨hy, hn⟩ := hp
  by_cases q : sm_setlc c dc ln fg ow nm ws gr sp pd τ d i
  · obtain ⟨rfl, x1, c1, d1, t1⟩ := hy q
    have hi := (sm_toN q.2.1.1).2
    have hd := (sm_toN q.1).2
    obtain ⟨hsa, hst, hl80, h41s⟩ := hS _ hi
    have hdn := sm_dn hD hst
    have hd41 := (hD _ hd).2.2
    have hg := x1.gy (ys := [8, 9, 10, 11, 12]) (fun z hz => by simp only [List.mem_cons, List.not_mem_nil, or_false] at hz ⊢; omega)
    have S1 : sm_S M1 c sa sid ln fg fm (va_up ow i.toInt.toNat (to d.toInt.toNat)) nm := fun k hk => by
      have hdk := sm_dn hD (hS k hk).2.1 _ hd
      have h4k := (hS k hk).2.2.2
      by_cases e : k = i.toInt.toNat
      · subst e
        rw [va_up_self]
        exact ⟨hsa, ⟨c1, (x1.2 _ (by simp only [List.mem_cons, List.not_mem_nil, or_false]; omega)).trans hst.2.1, (x1.2 _ (by simp only [List.mem_cons, List.not_mem_nil, or_false]; omega)).trans hst.2.2⟩, hl80, h41s⟩
      · rw [va_up_ne _ _ e]
        obtain ⟨a, st, n, h4⟩ := hS k hk
        have hs2 := hsp k _ hk hi e
        exact ⟨a, st.ex x1 (fun z => by simp only [List.mem_cons, List.not_mem_nil, or_false] at z; omega) (fun z => by simp only [List.mem_cons, List.not_mem_nil, or_false] at z; omega) (fun z => by simp only [List.mem_cons, List.not_mem_nil, or_false] at z; omega), n, h4⟩
    have D1 := hD.up (p := d.toInt.toNat) x1 (fun k hk hne e => by have h1 := hdn k hk; have h2 := hdis k _ hk hd hne; simp only [List.mem_cons, List.not_mem_nil, or_false] at e; omega) d1
    have hC1 : sm_cl M1 c ln fg fm (va_up ow i.toInt.toNat (to d.toInt.toNat)) nm r1 r2 r3 fame cu it yr (sm_sayIf (nm i.toInt.toNat) 2 (to d.toInt.toNat) yr τ) dc ws to gr (va_up sp d.toInt.toNat 0) (va_up pd d.toInt.toNat yr) hb r4 := ⟨sa, da, sid, did, hX.gy hg (by decide), S1, hsp, hr.gy hg (by decide), t1, D1, hdis, ⟨pn, ptot, pch, pcs, pcw, pf, pg, hpn, hpu.gy hg (by decide)⟩, ⟨fgo, fw, fp, ff, hhp.gy hg (by decide)⟩, ⟨f2, (hg 2 (by decide) (by decide)).trans h2⟩, ⟨f40, (hg 40 (by decide) (by decide)).trans h40⟩, by rw [x1.1]; exact h41⟩
    refine ⟨_, m_settle d i hc hdc hln hnm hgr hyr.1 hz (hW.gy hg (by decide)), fun rb M2 hq => ?_⟩
    obtain ⟨x2, my, -⟩ := hq
    obtain ⟨e2, W2⟩ := my q
    refine ⟨sm_inv.mk ⟨⟨hc, hdc, by rw [sm_sayIf_len]; exact q.2.2.2.2.2.2, hs60⟩, hln, hn0, hgr, hrr, hfa, hyr, sm_ev_sayIf hev (hn0 _ hi).1, fun k hk => ?_⟩ (hC1.ml x2 (fun _ q => q)) W2, 1, rfl, e2⟩
    by_cases e : k = d.toInt.toNat
    · rw [e, va_up_self, va_up_self]
      exact fun _ => rfl
    · rw [va_up_ne _ _ e, va_up_ne _ _ e]
      exact hpd k hk
  · obtain ⟨rfl, rfl⟩ := hn q
    refine ⟨_, m_settle d i hc hdc hln hnm hgr hyr.1 hz hW, fun rb M2 hq => ?_⟩
    obtain ⟨x2, -, mn⟩ := hq
    obtain ⟨e2, W2⟩ := mn q
    exact ⟨sm_inv.mk hB (hC.ml x2 (fun _ q => q)) W2, 0, rfl, e2⟩
theorem op_year (hI : sm_inv M) : ∃ P1 : Option Value → sm_M → Prop, sm_Ct l b D cA yX6_year cX6_year 3 (some .int) 2 0 0 [.ref 0] M P1 ∧ ∀ r M1, P1 r M1 → ∃ P2 : Option Value → sm_M → Prop, sm_Ct l b D cA yX7_year cX7_year 4 (some .int) 1 0 0 [.ref 23] M1 P2 ∧ ∀ r2 M2, P2 r2 M2 → sm_inv M2 ∧ ∃ v : Int32, r = some (.int v) ∧ r2 = some (.int v) := by
  obtain ⟨c, ln, fg, fm, ow, nm, r1, r2, r3, fame, cu, it, yr, τ, dc, ws, to, gr, sp, pd, hb, r4, th, hB, hC, hW⟩ := hI
  obtain ⟨⟨hc, hdc, hz, hs60⟩, hln, hn0, hgr, hrr, hfa, hyr, hev, hpd⟩ := id hB
  obtain ⟨sa, da, sid, did, hX, hS, hsp, hr, ht5, hD, hdis, ⟨pn, ptot, pch, pcs, pcw, pf, pg, hpn, hpu⟩, ⟨fgo, fw, fp, ff, hhp⟩, ⟨f2, h2⟩, ⟨f40, h40⟩, h41⟩ := id hC
  have hnm : ∀ t, t < c → 0 ≤ (nm t).toInt := fun t ht => (hn0 t ht).1.1
  have hr3 : ∀ j, j < 5 → 1 ≤ (r3 j).toInt := fun j hj => (hrr j hj).2.2.1
  have hr4 : ∀ j, j < 5 → r4 j = nI (sm_cg fg ln (nI j) c) := fun j hj => (hrr j hj).2.2.2
  refine ⟨_, c_year hdc hdis hX hD, fun r M1 hp => ?_⟩
  obtain ⟨hy, hn⟩ := hp
  by_cases q : yr.toInt < 100
  · obtain ⟨rfl, x1, X1, D1⟩ := hy q
    have hg := x1.gy (ys := [0]) (fun k hk => (hD k hk).2.2) (fun z hz => Or.inl hz)
    have S1 : sm_S M1 c sa sid ln fg fm ow nm := fun k hk => by
      obtain ⟨a, st, n, h4⟩ := hS k hk
      have hdk := sm_dn hD st
      exact ⟨a, ⟨(x1.2 _ (by simp only [List.mem_cons, List.not_mem_nil, or_false]; omega) (fun j hj e => (hdk j hj).1 e.symm)).trans st.1, (x1.2 _ (by simp only [List.mem_cons, List.not_mem_nil, or_false]; omega) (fun j hj e => (hdk j hj).2.1 e.symm)).trans st.2.1, (x1.2 _ (by simp only [List.mem_cons, List.not_mem_nil, or_false]; omega) (fun j hj e => (hdk j hj).2.2.1 e.symm)).trans st.2.2⟩, n, h4⟩
    have hC1 : sm_cl M1 c ln fg fm ow nm r1 r2 r3 fame cu it (yr + 1) τ dc ws to gr (sm_grt sp it dc) pd hb r4 := ⟨sa, da, sid, did, X1, S1, hsp, hr.gy hg (by decide), ht5.gy hg (by decide), D1, hdis, ⟨pn, ptot, pch, pcs, pcw, pf, pg, hpn, hpu.gy hg (by decide)⟩, ⟨fgo, fw, fp, ff, hhp.gy hg (by decide)⟩, ⟨f2, (hg 2 (by decide) (by decide)).trans h2⟩, ⟨f40, (hg 40 (by decide) (by decide)).trans h40⟩, by rw [x1.1]; exact h41⟩
    refine ⟨_, m_year hdc hyr (hW.gy hg (by decide)), fun rb M2 hq => ?_⟩
    obtain ⟨x2, my, -⟩ := hq
    obtain ⟨e2, W2⟩ := my q
    have hyn := sm_asN hyr.1
    have hy1 : (yr + 1).toInt = yr.toInt + 1 := by
      conv => lhs; rw [hyn, nI_1, nI_toInt (by omega)]
      omega
    refine ⟨sm_inv.mk ⟨⟨hc, hdc, hz, hs60⟩, hln, hn0, hgr, hrr, hfa, by rw [hy1]; omega, hev, fun k hk hp => ?_⟩ (hC1.ml x2 (fun _ q => q)) W2, _, rfl, e2⟩
    unfold sm_grt
    rw [if_pos hk, hpd k hk hp]
    exact sm_grow0 it
  · obtain ⟨rfl, rfl⟩ := hn q
    refine ⟨_, m_year hdc hyr hW, fun rb M2 hq => ?_⟩
    obtain ⟨x2, -, mn⟩ := hq
    obtain ⟨e2, W2⟩ := mn q
    exact ⟨sm_inv.mk hB (hC.ml x2 (fun _ q => q)) W2, -1, rfl, e2⟩
theorem op_pay (o t sum : Int32) (hI : sm_inv M) : ∃ P1 : Option Value → sm_M → Prop, sm_Ct l b D cA yX6_pay cX6_pay 5 (some .int) 6 0 0 [.ref 0, .int o, .int t, .int sum] M P1 ∧ ∀ r M1, P1 r M1 → ∃ P2 : Option Value → sm_M → Prop, sm_Ct l b D cA yX7_pay cX7_pay 7 (some .int) 4 0 0 [.ref 23, .int o, .int t, .int sum] M1 P2 ∧ ∀ r2 M2, P2 r2 M2 → sm_inv M2 ∧ ∃ v : Int32, r = some (.int v) ∧ r2 = some (.int v) := by
  obtain ⟨c, ln, fg, fm, ow, nm, r1, r2, r3, fame, cu, it, yr, τ, dc, ws, to, gr, sp, pd, hb, r4, th, hB, hC, hW⟩ := hI
  obtain ⟨⟨hc, hdc, hz, hs60⟩, hln, hn0, hgr, hrr, hfa, hyr, hev, hpd⟩ := id hB
  obtain ⟨sa, da, sid, did, hX, hS, hsp, hr, ht5, hD, hdis, ⟨pn, ptot, pch, pcs, pcw, pf, pg, hpn, hpu⟩, ⟨fgo, fw, fp, ff, hhp⟩, ⟨f2, h2⟩, ⟨f40, h40⟩, h41⟩ := id hC
  have hnm : ∀ t, t < c → 0 ≤ (nm t).toInt := fun t ht => (hn0 t ht).1.1
  have hr3 : ∀ j, j < 5 → 1 ≤ (r3 j).toInt := fun j hj => (hrr j hj).2.2.1
  have hr4 : ∀ j, j < 5 → r4 j = nI (sm_cg fg ln (nI j) c) := fun j hj => (hrr j hj).2.2.2
  obtain ⟨u, hu1, hu2⟩ := sm_uN hB
  have hpre := sm_pre_le (w := sm_filN ln ow o u c) (B := 12500) (sm_own ln ow o c) (sm_filN_le c hu2)
  have htot := sm_tot_pre (ln := ln) (ow := ow) (o := o) c hu1
  have key : sm_payb c ln ow o t sum → ¬ sm_tot ln ow o (sm_wv r1 r2 r3 r4 fame ln (sm_js fg ln) nm) c < sum → ¬ sm_S1 ln ow o u c sum = 0 ∧ (sm_pick (sm_filN ln ow o u c) (sm_own ln ow o c) sum (2 ^ sm_own ln ow o c - 1)).1 = nI (sm_S1 ln ow o u c sum) ∧ (sm_pick (sm_filN ln ow o u c) (sm_own ln ow o c) sum (2 ^ sm_own ln ow o c - 1)).2.2 = nI (sm_ws (sm_filN ln ow o u c) (sm_S1 ln ow o u c sum) (sm_own ln ow o c)) ∧ sm_S1 ln ow o u c sum < 4096 ∧ sm_ws (sm_filN ln ow o u c) (sm_S1 ln ow o u c sum) (sm_own ln ow o c) < 2 ^ 31 := fun hb1 hb2 => by
    have h12 := hb1.2.2.2.2
    have hp31 : sm_pre (sm_filN ln ow o u c) (sm_own ln ow o c) < 2 ^ 31 := by omega
    rw [htot] at hb2
    have hs := sm_srv1 hp31 hb1.2.2.2.1.1 hb2
    have hpw : 2 ^ sm_own ln ow o c ≤ 2 ^ 12 := Nat.pow_le_pow_right (by decide) h12
    have hle := sm_srv_le (sm_filN ln ow o u c) (sm_own ln ow o c) sum (2 ^ sm_own ln ow o c - 1)
    have hp0 := Nat.two_pow_pos (sm_own ln ow o c)
    have hk := ((sm_pick_srv h12 hp31 (2 ^ sm_own ln ow o c - 1) (by omega)).2 hs).1
    have hwl := sm_ws_le (sm_filN ln ow o u c) (sm_S1 ln ow o u c sum) (sm_own ln ow o c)
    rw [hk]
    exact ⟨hs, rfl, rfl, by show (sm_srv (sm_filN ln ow o u c) (sm_own ln ow o c) sum (2 ^ sm_own ln ow o c - 1)).1 < 4096; omega, by omega⟩
  refine ⟨_, c_pay o t sum hc hX hS hsp hr ht5 hz (sm_js_ok hgr) hu1 hpn hpu (s := sm_S1 ln ow o u c sum) (v := sm_ws (sm_filN ln ow o u c) (sm_S1 ln ow o u c sum) (sm_own ln ow o c)) (fun h1 h2 => (key h1 h2).2), fun r M1 hp => ?_⟩
  obtain ⟨hpu1, hno, hyes⟩ := hp
  have hsoft : ∀ (x1 : sm_ex M M1 [13, 14, 15]), sm_cl M1 c ln fg fm ow nm r1 r2 r3 fame cu it yr τ dc ws to gr sp pd hb r4 ∧ sm_W M1 th c ln fg fm ow nm r1 r2 r3 fame cu it yr τ dc ws to gr sp pd hb := fun x1 => by
    have hg := x1.gy (ys := [13, 14, 15]) (fun z hz => Or.inl hz)
    exact ⟨hC.soft x1 (by decide) hpu1 ⟨fgo, fw, fp, ff, hhp.gy hg (by decide)⟩ ⟨f2, (hg 2 (by decide) (by decide)).trans h2⟩, hW.gy hg (by decide)⟩
  by_cases q : sm_payb c ln ow o t sum
  · obtain ⟨y1, y2⟩ := hyes q
    by_cases z : sm_tot ln ow o (sm_wv r1 r2 r3 r4 fame ln (sm_js fg ln) nm) c < sum
    · obtain ⟨rfl, x1⟩ := y1 z
      obtain ⟨hC1, W1⟩ := hsoft x1
      refine ⟨_, m_pay o t sum hc hln hnm hgr hr3 hr4 hu1 hz W1, fun rb M2 hq => ?_⟩
      obtain ⟨x2, -, my⟩ := hq
      have h12 := q.2.2.2.2
      obtain ⟨e2, W2⟩ := (my q).1 (by rw [htot] at z; exact sm_srv0 (by omega) z _)
      exact ⟨sm_inv.mk hB (hC1.ml x2 (fun _ q => q)) W2, -2, rfl, e2⟩
    · obtain ⟨hs, hk1, hk2, hk3, hk4⟩ := key q z
      obtain ⟨y3, y4⟩ := y2 z
      by_cases rm : τ.1 + sm_need (sm_S1 ln ow o u c sum) (sm_filN ln ow o (fun i => i) c) nm (sm_own ln ow o c) ≤ 200
      · obtain ⟨rfl, x1, X1, S1, t1⟩ := y4 rm
        have hg := x1.gy (ys := [8, 9, 10, 11, 12, 13, 14, 15]) (fun k hk => (hS k hk).2.2.2) (fun z hz => Or.inl hz)
        have D1 := hD.exS x1 (fun k hk e => by have := (hD k hk).2.2; simp only [List.mem_cons, List.not_mem_nil, or_false] at e; omega) (fun k j hk hj => (sm_dn hD (hS j hj).2.1 k hk).1)
        have hC1 : sm_cl M1 c ln fg fm (sm_hoO (sm_S1 ln ow o u c sum) (sm_filN ln ow o (fun i => i) c) t ow (sm_own ln ow o c)) nm r1 r2 r3 fame cu it yr (sm_hoT (sm_S1 ln ow o u c sum) (sm_filN ln ow o (fun i => i) c) nm t yr τ (sm_own ln ow o c)) dc ws to gr sp pd hb r4 := ⟨sa, da, sid, did, X1, S1, hsp, hr.gy hg (by decide), t1, D1, hdis, hpu1, ⟨fgo, fw, fp, ff, hhp.gy hg (by decide)⟩, ⟨f2, (hg 2 (by decide) (by decide)).trans h2⟩, ⟨f40, (hg 40 (by decide) (by decide)).trans h40⟩, by rw [x1.1]; exact h41⟩
        refine ⟨_, m_pay o t sum hc hln hnm hgr hr3 hr4 hu1 hz (hW.gy hg (by decide)), fun rb M2 hq => ?_⟩
        obtain ⟨x2, -, my⟩ := hq
        obtain ⟨e2, W2⟩ := ((my q).2 hs).2 rm
        exact ⟨sm_inv.mk ⟨⟨hc, hdc, by rw [sm_hoT_len]; exact rm, hs60⟩, hln, hn0, hgr, hrr, hfa, hyr, sm_ev_hoT hev (sm_own ln ow o c) (fun k hk => (hn0 _ (sm_filN_lt ln ow o c k hk)).1), hpd⟩ (hC1.ml x2 (fun _ q => q)) W2, _, rfl, e2⟩
      · obtain ⟨rfl, x1⟩ := y3 rm
        obtain ⟨hC1, W1⟩ := hsoft x1
        refine ⟨_, m_pay o t sum hc hln hnm hgr hr3 hr4 hu1 hz W1, fun rb M2 hq => ?_⟩
        obtain ⟨x2, -, my⟩ := hq
        obtain ⟨e2, W2⟩ := ((my q).2 hs).1 rm
        exact ⟨sm_inv.mk hB (hC1.ml x2 (fun _ q => q)) W2, -1, rfl, e2⟩
  · obtain ⟨rfl, x1⟩ := hno q
    obtain ⟨hC1, W1⟩ := hsoft x1
    refine ⟨_, m_pay o t sum hc hln hnm hgr hr3 hr4 hu1 hz W1, fun rb M2 hq => ?_⟩
    obtain ⟨x2, mn, -⟩ := hq
    obtain ⟨e2, W2⟩ := mn q
    exact ⟨sm_inv.mk hB (hC1.ml x2 (fun _ q => q)) W2, -1, rfl, e2⟩
end SM76
