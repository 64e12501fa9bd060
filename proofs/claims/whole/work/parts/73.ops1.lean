/-! the calls that only ask: class and reference answer the same -/
section SM73
variable {l : Launch} {b : Nat} {D : va_G} {cA : Nat → ClassId} {M : sm_M}
theorem op_rate (g : Int32) (hI : sm_inv M) : ∃ P1 : Option Value → sm_M → Prop, sm_Ct l b D cA yX6_rate cX6_rate 2 (some .int) 2 0 0 [.ref 0, .int g] M P1 ∧ ∀ r M1, P1 r M1 → ∃ P2 : Option Value → sm_M → Prop, sm_Ct l b D cA yX7_rate cX7_rate 2 (some .int) 1 0 0 [.ref 23, .int g] M1 P2 ∧ ∀ r2 M2, P2 r2 M2 → sm_inv M2 ∧ ∃ v : Int32, r = some (.int v) ∧ r2 = some (.int v) := by
  obtain ⟨c, ln, fg, fm, ow, nm, r1, r2, r3, fame, cu, it, yr, τ, dc, ws, to, gr, sp, pd, hb, r4, th, hB, hC, hW⟩ := hI
  obtain ⟨⟨hc, hdc, hz, hs60⟩, hln, hn0, hgr, hrr, hfa, hyr, hev, hpd⟩ := id hB
  obtain ⟨sa, da, sid, did, hX, hS, hsp, hr, ht5, hD, hdis, ⟨pn, ptot, pch, pcs, pcw, pf, pg, hpn, hpu⟩, ⟨fgo, fw, fp, ff, hhp⟩, ⟨f2, h2⟩, ⟨f40, h40⟩, h41⟩ := id hC
  have hnm : ∀ t, t < c → 0 ≤ (nm t).toInt := fun t ht => (hn0 t ht).1.1
  have hr3 : ∀ j, j < 5 → 1 ≤ (r3 j).toInt := fun j hj => (hrr j hj).2.2.1
  have hr4 : ∀ j, j < 5 → r4 j = nI (sm_cg fg ln (nI j) c) := fun j hj => (hrr j hj).2.2.2
  refine ⟨_, c_rate g hX hr, fun r M1 hp => ?_⟩
  obtain ⟨rfl, e9⟩ := hp
  rw [e9]
  refine ⟨_, m_rate g hc hln hr3 hr4 hW, fun rb M2 hq => ?_⟩
  obtain ⟨e2, x2, W2⟩ := hq
  refine ⟨sm_inv.mk hB (hC.ml x2 (fun _ q => q)) W2, _, rfl, ?_⟩
  rw [e2]
theorem op_named (x : Int32) (hI : sm_inv M) : ∃ P1 : Option Value → sm_M → Prop, sm_Ct l b D cA yX6_named cX6_named 4 (some .int) 1 0 0 [.ref 0, .int x] M P1 ∧ ∀ r M1, P1 r M1 → ∃ P2 : Option Value → sm_M → Prop, sm_Ct l b D cA yX7_named cX7_named 2 (some .int) 1 0 0 [.ref 23, .int x] M1 P2 ∧ ∀ r2 M2, P2 r2 M2 → sm_inv M2 ∧ ∃ v : Int32, r = some (.int v) ∧ r2 = some (.int v) := by
  obtain ⟨c, ln, fg, fm, ow, nm, r1, r2, r3, fame, cu, it, yr, τ, dc, ws, to, gr, sp, pd, hb, r4, th, hB, hC, hW⟩ := hI
  obtain ⟨⟨hc, hdc, hz, hs60⟩, hln, hn0, hgr, hrr, hfa, hyr, hev, hpd⟩ := id hB
  obtain ⟨sa, da, sid, did, hX, hS, hsp, hr, ht5, hD, hdis, ⟨pn, ptot, pch, pcs, pcw, pf, pg, hpn, hpu⟩, ⟨fgo, fw, fp, ff, hhp⟩, ⟨f2, h2⟩, ⟨f40, h40⟩, h41⟩ := id hC
  have hnm : ∀ t, t < c → 0 ≤ (nm t).toInt := fun t ht => (hn0 t ht).1.1
  have hr3 : ∀ j, j < 5 → 1 ≤ (r3 j).toInt := fun j hj => (hrr j hj).2.2.1
  have hr4 : ∀ j, j < 5 → r4 j = nI (sm_cg fg ln (nI j) c) := fun j hj => (hrr j hj).2.2.2
  refine ⟨_, c_named x hc hX hS, fun r M1 hp => ?_⟩
  obtain ⟨rfl, e9⟩ := hp
  rw [e9]
  refine ⟨_, m_named x hc hln hn0 hW, fun rb M2 hq => ?_⟩
  obtain ⟨e2, x2, W2⟩ := hq
  refine ⟨sm_inv.mk hB (hC.ml x2 (fun _ q => q)) W2, _, rfl, ?_⟩
  rw [e2]
theorem op_tale (x i w : Int32) (hI : sm_inv M) : ∃ P1 : Option Value → sm_M → Prop, sm_Ct l b D cA yX6_tale cX6_tale 4 (some .int) 1 0 0 [.ref 0, .int x, .int i, .int w] M P1 ∧ ∀ r M1, P1 r M1 → ∃ P2 : Option Value → sm_M → Prop, sm_Ct l b D cA yX7_tale cX7_tale 6 (some .int) 1 0 0 [.ref 23, .int x, .int i, .int w] M1 P2 ∧ ∀ r2 M2, P2 r2 M2 → sm_inv M2 ∧ ∃ v : Int32, r = some (.int v) ∧ r2 = some (.int v) := by
  obtain ⟨c, ln, fg, fm, ow, nm, r1, r2, r3, fame, cu, it, yr, τ, dc, ws, to, gr, sp, pd, hb, r4, th, hB, hC, hW⟩ := hI
  obtain ⟨⟨hc, hdc, hz, hs60⟩, hln, hn0, hgr, hrr, hfa, hyr, hev, hpd⟩ := id hB
  obtain ⟨sa, da, sid, did, hX, hS, hsp, hr, ht5, hD, hdis, ⟨pn, ptot, pch, pcs, pcw, pf, pg, hpn, hpu⟩, ⟨fgo, fw, fp, ff, hhp⟩, ⟨f2, h2⟩, ⟨f40, h40⟩, h41⟩ := id hC
  have hnm : ∀ t, t < c → 0 ≤ (nm t).toInt := fun t ht => (hn0 t ht).1.1
  have hr3 : ∀ j, j < 5 → 1 ≤ (r3 j).toInt := fun j hj => (hrr j hj).2.2.1
  have hr4 : ∀ j, j < 5 → r4 j = nI (sm_cg fg ln (nI j) c) := fun j hj => (hrr j hj).2.2.2
  refine ⟨_, c_tale x i w hX ht5 hz, fun r M1 hp => ?_⟩
  obtain ⟨rfl, e9⟩ := hp
  rw [e9]
  refine ⟨_, m_tale x i w hz hev hW, fun rb M2 hq => ?_⟩
  obtain ⟨e2, x2, W2⟩ := hq
  refine ⟨sm_inv.mk hB (hC.ml x2 (fun _ q => q)) W2, _, rfl, ?_⟩
  rw [e2]
theorem op_bead (i j w : Int32) (hI : sm_inv M) : ∃ P1 : Option Value → sm_M → Prop, sm_Ct l b D cA yX6_bead cX6_bead 5 (some .int) 2 0 0 [.ref 0, .int i, .int j, .int w] M P1 ∧ ∀ r M1, P1 r M1 → ∃ P2 : Option Value → sm_M → Prop, sm_Ct l b D cA yX7_bead cX7_bead 4 (some .int) 1 0 0 [.ref 23, .int i, .int j, .int w] M1 P2 ∧ ∀ r2 M2, P2 r2 M2 → sm_inv M2 ∧ ∃ v : Int32, r = some (.int v) ∧ r2 = some (.int v) := by
  obtain ⟨c, ln, fg, fm, ow, nm, r1, r2, r3, fame, cu, it, yr, τ, dc, ws, to, gr, sp, pd, hb, r4, th, hB, hC, hW⟩ := hI
  obtain ⟨⟨hc, hdc, hz, hs60⟩, hln, hn0, hgr, hrr, hfa, hyr, hev, hpd⟩ := id hB
  obtain ⟨sa, da, sid, did, hX, hS, hsp, hr, ht5, hD, hdis, ⟨pn, ptot, pch, pcs, pcw, pf, pg, hpn, hpu⟩, ⟨fgo, fw, fp, ff, hhp⟩, ⟨f2, h2⟩, ⟨f40, h40⟩, h41⟩ := id hC
  have hnm : ∀ t, t < c → 0 ≤ (nm t).toInt := fun t ht => (hn0 t ht).1.1
  have hr3 : ∀ j, j < 5 → 1 ≤ (r3 j).toInt := fun j hj => (hrr j hj).2.2.1
  have hr4 : ∀ j, j < 5 → r4 j = nI (sm_cg fg ln (nI j) c) := fun j hj => (hrr j hj).2.2.2
  refine ⟨_, c_bead i j w hc hX hS, fun r M1 hp => ?_⟩
  obtain ⟨rfl, e9⟩ := hp
  rw [e9]
  refine ⟨_, m_bead i j w hc hln hW, fun rb M2 hq => ?_⟩
  obtain ⟨e2, x2, W2⟩ := hq
  refine ⟨sm_inv.mk hB (hC.ml x2 (fun _ q => q)) W2, _, rfl, ?_⟩
  rw [e2]
theorem op_drawn (i j n : Int32) (hI : sm_inv M) : ∃ P1 : Option Value → sm_M → Prop, sm_Ct l b D cA yX6_drawn cX6_drawn 5 (some .int) 2 0 0 [.ref 0, .int i, .int j, .int n] M P1 ∧ ∀ r M1, P1 r M1 → ∃ P2 : Option Value → sm_M → Prop, sm_Ct l b D cA yX7_drawn cX7_drawn 4 (some .int) 2 0 0 [.ref 23, .int i, .int j, .int n] M1 P2 ∧ ∀ r2 M2, P2 r2 M2 → sm_inv M2 ∧ ∃ v : Int32, r = some (.int v) ∧ r2 = some (.int v) := by
  obtain ⟨c, ln, fg, fm, ow, nm, r1, r2, r3, fame, cu, it, yr, τ, dc, ws, to, gr, sp, pd, hb, r4, th, hB, hC, hW⟩ := hI
  obtain ⟨⟨hc, hdc, hz, hs60⟩, hln, hn0, hgr, hrr, hfa, hyr, hev, hpd⟩ := id hB
  obtain ⟨sa, da, sid, did, hX, hS, hsp, hr, ht5, hD, hdis, ⟨pn, ptot, pch, pcs, pcw, pf, pg, hpn, hpu⟩, ⟨fgo, fw, fp, ff, hhp⟩, ⟨f2, h2⟩, ⟨f40, h40⟩, h41⟩ := id hC
  have hnm : ∀ t, t < c → 0 ≤ (nm t).toInt := fun t ht => (hn0 t ht).1.1
  have hr3 : ∀ j, j < 5 → 1 ≤ (r3 j).toInt := fun j hj => (hrr j hj).2.2.1
  have hr4 : ∀ j, j < 5 → r4 j = nI (sm_cg fg ln (nI j) c) := fun j hj => (hrr j hj).2.2.2
  refine ⟨_, c_drawn i j n hc hX hS, fun r M1 hp => ?_⟩
  obtain ⟨rfl, e9⟩ := hp
  rw [e9]
  refine ⟨_, m_drawn i j n hc hln hgr hW, fun rb M2 hq => ?_⟩
  obtain ⟨e2, x2, W2⟩ := hq
  refine ⟨sm_inv.mk hB (hC.ml x2 (fun _ q => q)) W2, _, rfl, ?_⟩
  rw [e2]
theorem op_cheat (i g : Int32) (hI : sm_inv M) : ∃ P1 : Option Value → sm_M → Prop, sm_Ct l b D cA yX6_cheat cX6_cheat 5 (some .int) 2 0 0 [.ref 0, .int i, .int g] M P1 ∧ ∀ r M1, P1 r M1 → ∃ P2 : Option Value → sm_M → Prop, sm_Ct l b D cA yX7_cheat cX7_cheat 4 (some .int) 2 0 0 [.ref 23, .int i, .int g] M1 P2 ∧ ∀ r2 M2, P2 r2 M2 → sm_inv M2 ∧ ∃ v : Int32, r = some (.int v) ∧ r2 = some (.int v) := by
  obtain ⟨c, ln, fg, fm, ow, nm, r1, r2, r3, fame, cu, it, yr, τ, dc, ws, to, gr, sp, pd, hb, r4, th, hB, hC, hW⟩ := hI
  obtain ⟨⟨hc, hdc, hz, hs60⟩, hln, hn0, hgr, hrr, hfa, hyr, hev, hpd⟩ := id hB
  obtain ⟨sa, da, sid, did, hX, hS, hsp, hr, ht5, hD, hdis, ⟨pn, ptot, pch, pcs, pcw, pf, pg, hpn, hpu⟩, ⟨fgo, fw, fp, ff, hhp⟩, ⟨f2, h2⟩, ⟨f40, h40⟩, h41⟩ := id hC
  have hnm : ∀ t, t < c → 0 ≤ (nm t).toInt := fun t ht => (hn0 t ht).1.1
  have hr3 : ∀ j, j < 5 → 1 ≤ (r3 j).toInt := fun j hj => (hrr j hj).2.2.1
  have hr4 : ∀ j, j < 5 → r4 j = nI (sm_cg fg ln (nI j) c) := fun j hj => (hrr j hj).2.2.2
  refine ⟨_, c_cheat i g hc hX hS, fun r M1 hp => ?_⟩
  obtain ⟨rfl, e9⟩ := hp
  rw [e9]
  refine ⟨_, m_cheat i g hc hln hW, fun rb M2 hq => ?_⟩
  obtain ⟨e2, x2, W2⟩ := hq
  refine ⟨sm_inv.mk hB (hC.ml x2 (fun _ q => q)) W2, _, rfl, ?_⟩
  rw [e2]
theorem op_rich (o : Int32) (hI : sm_inv M) : ∃ P1 : Option Value → sm_M → Prop, sm_Ct l b D cA yX6_rich cX6_rich 5 (some .int) 4 0 0 [.ref 0, .int o] M P1 ∧ ∀ r M1, P1 r M1 → ∃ P2 : Option Value → sm_M → Prop, sm_Ct l b D cA yX7_rich cX7_rich 4 (some .int) 3 0 0 [.ref 23, .int o] M1 P2 ∧ ∀ r2 M2, P2 r2 M2 → sm_inv M2 ∧ ∃ v : Int32, r = some (.int v) ∧ r2 = some (.int v) := by
  obtain ⟨c, ln, fg, fm, ow, nm, r1, r2, r3, fame, cu, it, yr, τ, dc, ws, to, gr, sp, pd, hb, r4, th, hB, hC, hW⟩ := hI
  obtain ⟨⟨hc, hdc, hz, hs60⟩, hln, hn0, hgr, hrr, hfa, hyr, hev, hpd⟩ := id hB
  obtain ⟨sa, da, sid, did, hX, hS, hsp, hr, ht5, hD, hdis, ⟨pn, ptot, pch, pcs, pcw, pf, pg, hpn, hpu⟩, ⟨fgo, fw, fp, ff, hhp⟩, ⟨f2, h2⟩, ⟨f40, h40⟩, h41⟩ := id hC
  have hnm : ∀ t, t < c → 0 ≤ (nm t).toInt := fun t ht => (hn0 t ht).1.1
  have hr3 : ∀ j, j < 5 → 1 ≤ (r3 j).toInt := fun j hj => (hrr j hj).2.2.1
  have hr4 : ∀ j, j < 5 → r4 j = nI (sm_cg fg ln (nI j) c) := fun j hj => (hrr j hj).2.2.2
  refine ⟨_, c_rich o hc hX hS hr (sm_js_ok hgr), fun r M1 hp => ?_⟩
  obtain ⟨rfl, e9⟩ := hp
  rw [e9]
  refine ⟨_, m_rich o hc hln hnm hgr hr3 hr4 hW, fun rb M2 hq => ?_⟩
  obtain ⟨e2, x2, W2⟩ := hq
  refine ⟨sm_inv.mk hB (hC.ml x2 (fun _ q => q)) W2, _, rfl, ?_⟩
  rw [e2]
theorem op_count (w : Int32) (hI : sm_inv M) : ∃ P1 : Option Value → sm_M → Prop, sm_Ct l b D cA yX6_count cX6_count 2 (some .int) 3 0 0 [.ref 0, .int w] M P1 ∧ ∀ r M1, P1 r M1 → ∃ P2 : Option Value → sm_M → Prop, sm_Ct l b D cA yX7_count cX7_count 4 (some .int) 1 0 0 [.ref 23, .int w] M1 P2 ∧ ∀ r2 M2, P2 r2 M2 → sm_inv M2 ∧ ∃ v : Int32, r = some (.int v) ∧ r2 = some (.int v) := by
  obtain ⟨c, ln, fg, fm, ow, nm, r1, r2, r3, fame, cu, it, yr, τ, dc, ws, to, gr, sp, pd, hb, r4, th, hB, hC, hW⟩ := hI
  obtain ⟨⟨hc, hdc, hz, hs60⟩, hln, hn0, hgr, hrr, hfa, hyr, hev, hpd⟩ := id hB
  obtain ⟨sa, da, sid, did, hX, hS, hsp, hr, ht5, hD, hdis, ⟨pn, ptot, pch, pcs, pcw, pf, pg, hpn, hpu⟩, ⟨fgo, fw, fp, ff, hhp⟩, ⟨f2, h2⟩, ⟨f40, h40⟩, h41⟩ := id hC
  have hnm : ∀ t, t < c → 0 ≤ (nm t).toInt := fun t ht => (hn0 t ht).1.1
  have hr3 : ∀ j, j < 5 → 1 ≤ (r3 j).toInt := fun j hj => (hrr j hj).2.2.1
  have hr4 : ∀ j, j < 5 → r4 j = nI (sm_cg fg ln (nI j) c) := fun j hj => (hrr j hj).2.2.2
  refine ⟨_, c_count w hc hdc hX hS hD hr ht5 hhp, fun r M1 hp => ?_⟩
  obtain ⟨rfl, e9⟩ := hp
  rw [e9]
  refine ⟨_, m_count w hc hdc hln hW, fun rb M2 hq => ?_⟩
  obtain ⟨e2, x2, W2⟩ := hq
  refine ⟨sm_inv.mk hB (hC.ml x2 (fun _ q => q)) W2, _, rfl, ?_⟩
  rw [e2]
  have e6 : r4 0 + r4 1 + r4 2 + r4 3 + r4 4 = nI (sm_sln ln c) := by
    rw [hr4 0 (by omega), hr4 1 (by omega), hr4 2 (by omega), hr4 3 (by omega), hr4 4 (by omega), nI_add, nI_add, nI_add, nI_add, sm_cg_all c hgr]
  rw [e6]
theorem op_debt (d w : Int32) (hI : sm_inv M) : ∃ P1 : Option Value → sm_M → Prop, sm_Ct l b D cA yX6_debt cX6_debt 4 (some .int) 1 0 0 [.ref 0, .int d, .int w] M P1 ∧ ∀ r M1, P1 r M1 → ∃ P2 : Option Value → sm_M → Prop, sm_Ct l b D cA yX7_debt cX7_debt 4 (some .int) 1 0 0 [.ref 23, .int d, .int w] M1 P2 ∧ ∀ r2 M2, P2 r2 M2 → sm_inv M2 ∧ ∃ v : Int32, r = some (.int v) ∧ r2 = some (.int v) := by
  obtain ⟨c, ln, fg, fm, ow, nm, r1, r2, r3, fame, cu, it, yr, τ, dc, ws, to, gr, sp, pd, hb, r4, th, hB, hC, hW⟩ := hI
  obtain ⟨⟨hc, hdc, hz, hs60⟩, hln, hn0, hgr, hrr, hfa, hyr, hev, hpd⟩ := id hB
  obtain ⟨sa, da, sid, did, hX, hS, hsp, hr, ht5, hD, hdis, ⟨pn, ptot, pch, pcs, pcw, pf, pg, hpn, hpu⟩, ⟨fgo, fw, fp, ff, hhp⟩, ⟨f2, h2⟩, ⟨f40, h40⟩, h41⟩ := id hC
  have hnm : ∀ t, t < c → 0 ≤ (nm t).toInt := fun t ht => (hn0 t ht).1.1
  have hr3 : ∀ j, j < 5 → 1 ≤ (r3 j).toInt := fun j hj => (hrr j hj).2.2.1
  have hr4 : ∀ j, j < 5 → r4 j = nI (sm_cg fg ln (nI j) c) := fun j hj => (hrr j hj).2.2.2
  by_cases hi : 0 ≤ d.toInt ∧ d.toInt < dc
  · refine ⟨_, c_debt_y d w hdc hi hX hD, fun r M1 hp => ?_⟩
    obtain ⟨rfl, e9⟩ := hp
    rw [e9]
    refine ⟨_, m_debt d w hdc hpd hW, fun rb M2 hq => ?_⟩
    obtain ⟨e2, x2, W2⟩ := hq
    refine ⟨sm_inv.mk hB (hC.ml x2 (fun _ q => q)) W2, _, rfl, ?_⟩
    rw [e2, if_pos hi]
  · refine ⟨_, c_debt_n d w hdc hi hX, fun r M1 hp => ?_⟩
    obtain ⟨rfl, e9⟩ := hp
    rw [e9]
    refine ⟨_, m_debt d w hdc hpd hW, fun rb M2 hq => ?_⟩
    obtain ⟨e2, x2, W2⟩ := hq
    refine ⟨sm_inv.mk hB (hC.ml x2 (fun _ q => q)) W2, _, rfl, ?_⟩
    rw [e2, if_neg hi]
theorem op_blame (g : Int32) (hI : sm_inv M) : ∃ P1 : Option Value → sm_M → Prop, sm_Ct l b D cA yX6_blame cX6_blame 5 (some .int) 4 0 0 [.ref 0, .int g] M P1 ∧ ∀ r M1, P1 r M1 → ∃ P2 : Option Value → sm_M → Prop, sm_Ct l b D cA yX7_blame cX7_blame 8 (some .int) 1 0 0 [.ref 23, .int g] M1 P2 ∧ ∀ r2 M2, P2 r2 M2 → sm_inv M2 ∧ ∃ v : Int32, r = some (.int v) ∧ r2 = some (.int v) := by
  obtain ⟨c, ln, fg, fm, ow, nm, r1, r2, r3, fame, cu, it, yr, τ, dc, ws, to, gr, sp, pd, hb, r4, th, hB, hC, hW⟩ := hI
  obtain ⟨⟨hc, hdc, hz, hs60⟩, hln, hn0, hgr, hrr, hfa, hyr, hev, hpd⟩ := id hB
  obtain ⟨sa, da, sid, did, hX, hS, hsp, hr, ht5, hD, hdis, ⟨pn, ptot, pch, pcs, pcw, pf, pg, hpn, hpu⟩, ⟨fgo, fw, fp, ff, hhp⟩, ⟨f2, h2⟩, ⟨f40, h40⟩, h41⟩ := id hC
  have hnm : ∀ t, t < c → 0 ≤ (nm t).toInt := fun t ht => (hn0 t ht).1.1
  have hr3 : ∀ j, j < 5 → 1 ≤ (r3 j).toInt := fun j hj => (hrr j hj).2.2.1
  have hr4 : ∀ j, j < 5 → r4 j = nI (sm_cg fg ln (nI j) c) := fun j hj => (hrr j hj).2.2.2
  refine ⟨_, c_blame g hc hX hS h2, fun r M1 hp => ?_⟩
  obtain ⟨x1, h21, hno, hyes⟩ := hp
  have hg := x1.gy (ys := [2]) (fun z q => Or.inl q)
  have hC1 := hC.soft x1 (by decide) ⟨pn, ptot, pch, pcs, pcw, pf, pg, hpn, hpu.gy hg (by decide)⟩ ⟨fgo, fw, fp, ff, hhp.gy hg (by decide)⟩ h21
  refine ⟨_, m_blame g hc hln (hW.gy hg (by decide)), fun rb M2 hq => ?_⟩
  obtain ⟨e2, x2, W2⟩ := hq
  refine ⟨sm_inv.mk hB (hC1.ml x2 (fun _ q => q)) W2, ?_⟩
  by_cases q : 0 ≤ g.toInt ∧ g.toInt < 5
  · obtain ⟨g0, z0, e1⟩ := hyes q
    refine ⟨_, e1, ?_⟩
    rw [e2, if_pos q, sm_blm_sh (f := sm_tall fg fm ln g g0 c) (h := fun j => nI (sm_bk fg fm ln g (nI j) c)) 10 (fun j hj => sm_tall_bk z0 hj c)]
  · refine ⟨_, hno q, ?_⟩
    rw [e2, if_neg q]
theorem op_strung (hI : sm_inv M) : ∃ P1 : Option Value → sm_M → Prop, sm_Ct l b D cA yX6_strung cX6_strung 1 (some .int) 5 0 0 [.ref 0] M P1 ∧ ∀ r M1, P1 r M1 → ∃ P2 : Option Value → sm_M → Prop, sm_Ct l b D cA yX7_strung cX7_strung 1 (some .int) 3 0 0 [.ref 23] M1 P2 ∧ ∀ r2 M2, P2 r2 M2 → sm_inv M2 ∧ ∃ v : Int32, r = some (.int v) ∧ r2 = some (.int v) := by
  obtain ⟨c, ln, fg, fm, ow, nm, r1, r2, r3, fame, cu, it, yr, τ, dc, ws, to, gr, sp, pd, hb, r4, th, hB, hC, hW⟩ := hI
  obtain ⟨⟨hc, hdc, hz, hs60⟩, hln, hn0, hgr, hrr, hfa, hyr, hev, hpd⟩ := id hB
  obtain ⟨sa, da, sid, did, hX, hS, hsp, hr, ht5, hD, hdis, ⟨pn, ptot, pch, pcs, pcw, pf, pg, hpn, hpu⟩, ⟨fgo, fw, fp, ff, hhp⟩, ⟨f2, h2⟩, ⟨f40, h40⟩, h41⟩ := id hC
  have hnm : ∀ t, t < c → 0 ≤ (nm t).toInt := fun t ht => (hn0 t ht).1.1
  have hr3 : ∀ j, j < 5 → 1 ≤ (r3 j).toInt := fun j hj => (hrr j hj).2.2.1
  have hr4 : ∀ j, j < 5 → r4 j = nI (sm_cg fg ln (nI j) c) := fun j hj => (hrr j hj).2.2.2
  obtain ⟨V, P, F, hb1, hP0, hF, hall⟩ := sm_dp hs60 (sm_wbf_N hB hs60) (hb 0 + hb 1 + hb 2 + hb 3 + hb 4) (Nat.le_refl _)
  refine ⟨_, c_strung hX rfl hs60 hr hhp, fun r M1 hp => ?_⟩
  obtain ⟨rfl, x1, f, fw2, fp2, ff2, hh2⟩ := hp
  have hg := x1.gy (ys := [19, 20, 21, 22]) (fun z q => Or.inl q)
  have hC1 := hC.soft x1 (by decide) ⟨pn, ptot, pch, pcs, pcw, pf, pg, hpn, hpu.gy hg (by decide)⟩ ⟨f, fw2, fp2, ff2, hh2⟩ ⟨f2, (hg 2 (by decide) (by decide)).trans h2⟩
  refine ⟨_, m_strung rfl hs60 hc hln hr3 hr4 (hW.gy hg (by decide)), fun rb M2 hq => ?_⟩
  obtain ⟨x2, W2, g1, g2, g3, e2⟩ := hq
  refine ⟨sm_inv.mk hB (hC1.ml x2 (fun _ q => q)) W2, _, rfl, ?_⟩
  obtain ⟨a1, a2, a3, a4, -⟩ := hall fw fp ff g1 g2 g3 0 (by omega) (by omega)
  rw [e2, a3]
  exact congrArg some (congrArg Value.int a1.symm)
theorem op_strings (hI : sm_inv M) : ∃ P1 : Option Value → sm_M → Prop, sm_Ct l b D cA yX6_strings cX6_strings 1 (some .int) 5 0 0 [.ref 0] M P1 ∧ ∀ r M1, P1 r M1 → ∃ P2 : Option Value → sm_M → Prop, sm_Ct l b D cA yX7_strings cX7_strings 1 (some .int) 3 0 0 [.ref 23] M1 P2 ∧ ∀ r2 M2, P2 r2 M2 → sm_inv M2 ∧ ∃ v : Int32, r = some (.int v) ∧ r2 = some (.int v) := by
  obtain ⟨c, ln, fg, fm, ow, nm, r1, r2, r3, fame, cu, it, yr, τ, dc, ws, to, gr, sp, pd, hb, r4, th, hB, hC, hW⟩ := hI
  obtain ⟨⟨hc, hdc, hz, hs60⟩, hln, hn0, hgr, hrr, hfa, hyr, hev, hpd⟩ := id hB
  obtain ⟨sa, da, sid, did, hX, hS, hsp, hr, ht5, hD, hdis, ⟨pn, ptot, pch, pcs, pcw, pf, pg, hpn, hpu⟩, ⟨fgo, fw, fp, ff, hhp⟩, ⟨f2, h2⟩, ⟨f40, h40⟩, h41⟩ := id hC
  have hnm : ∀ t, t < c → 0 ≤ (nm t).toInt := fun t ht => (hn0 t ht).1.1
  have hr3 : ∀ j, j < 5 → 1 ≤ (r3 j).toInt := fun j hj => (hrr j hj).2.2.1
  have hr4 : ∀ j, j < 5 → r4 j = nI (sm_cg fg ln (nI j) c) := fun j hj => (hrr j hj).2.2.2
  obtain ⟨V, P, F, hb1, hP0, hF, hall⟩ := sm_dp hs60 (sm_wbf_N hB hs60) (hb 0 + hb 1 + hb 2 + hb 3 + hb 4) (Nat.le_refl _)
  refine ⟨_, c_strings hX rfl hs60 hr hhp, fun r M1 hp => ?_⟩
  obtain ⟨rfl, x1, f, fw2, fp2, ff2, hh2⟩ := hp
  have hg := x1.gy (ys := [19, 20, 21, 22]) (fun z q => Or.inl q)
  have hC1 := hC.soft x1 (by decide) ⟨pn, ptot, pch, pcs, pcw, pf, pg, hpn, hpu.gy hg (by decide)⟩ ⟨f, fw2, fp2, ff2, hh2⟩ ⟨f2, (hg 2 (by decide) (by decide)).trans h2⟩
  refine ⟨_, m_strings rfl hs60 hc hln hr3 hr4 (hW.gy hg (by decide)), fun rb M2 hq => ?_⟩
  obtain ⟨x2, W2, g1, g2, g3, e2⟩ := hq
  refine ⟨sm_inv.mk hB (hC1.ml x2 (fun _ q => q)) W2, _, rfl, ?_⟩
  obtain ⟨a1, a2, a3, a4, -⟩ := hall fw fp ff g1 g2 g3 0 (by omega) (by omega)
  rw [e2, a4]
  exact congrArg some (congrArg Value.int a2.symm)
theorem op_part (i : Int32) (hI : sm_inv M) : ∃ P1 : Option Value → sm_M → Prop, sm_Ct l b D cA yX6_part cX6_part 2 (some .int) 5 0 0 [.ref 0, .int i] M P1 ∧ ∀ r M1, P1 r M1 → ∃ P2 : Option Value → sm_M → Prop, sm_Ct l b D cA yX7_part cX7_part 4 (some .int) 3 0 0 [.ref 23, .int i] M1 P2 ∧ ∀ r2 M2, P2 r2 M2 → sm_inv M2 ∧ ∃ v : Int32, r = some (.int v) ∧ r2 = some (.int v) := by
  obtain ⟨c, ln, fg, fm, ow, nm, r1, r2, r3, fame, cu, it, yr, τ, dc, ws, to, gr, sp, pd, hb, r4, th, hB, hC, hW⟩ := hI
  obtain ⟨⟨hc, hdc, hz, hs60⟩, hln, hn0, hgr, hrr, hfa, hyr, hev, hpd⟩ := id hB
  obtain ⟨sa, da, sid, did, hX, hS, hsp, hr, ht5, hD, hdis, ⟨pn, ptot, pch, pcs, pcw, pf, pg, hpn, hpu⟩, ⟨fgo, fw, fp, ff, hhp⟩, ⟨f2, h2⟩, ⟨f40, h40⟩, h41⟩ := id hC
  have hnm : ∀ t, t < c → 0 ≤ (nm t).toInt := fun t ht => (hn0 t ht).1.1
  have hr3 : ∀ j, j < 5 → 1 ≤ (r3 j).toInt := fun j hj => (hrr j hj).2.2.1
  have hr4 : ∀ j, j < 5 → r4 j = nI (sm_cg fg ln (nI j) c) := fun j hj => (hrr j hj).2.2.2
  obtain ⟨V, P, F, hb1, hP0, hF, hall⟩ := sm_dp hs60 (sm_wbf_N hB hs60) (hb 0 + hb 1 + hb 2 + hb 3 + hb 4) (Nat.le_refl _)
  have hP60 := (hb1 0 (by omega) (by omega)).2
  have hF' : ∀ p, p < hb 0 + hb 1 + hb 2 + hb 3 + hb 4 → 1 ≤ F p ∧ p + F p ≤ hb 0 + hb 1 + hb 2 + hb 3 + hb 4 ∧ P p = P (p + F p) + 1 := fun p hp => hF p (by omega) hp
  refine ⟨_, c_part i hX rfl hs60 hr (fl := F) (fun p hp => ⟨((hall fw fp ff fw fp ff p (by omega) (by omega)).2.2.2.2 hp).1, (hF' p hp).2.1⟩) hhp, fun r M1 hp => ?_⟩
  obtain ⟨rfl, x1, f, fw2, fp2, ff2, hh2⟩ := hp
  have hg := x1.gy (ys := [19, 20, 21, 22]) (fun z q => Or.inl q)
  have hC1 := hC.soft x1 (by decide) ⟨pn, ptot, pch, pcs, pcw, pf, pg, hpn, hpu.gy hg (by decide)⟩ ⟨f, fw2, fp2, ff2, hh2⟩ ⟨f2, (hg 2 (by decide) (by decide)).trans h2⟩
  refine ⟨_, m_part (pn := P) (en := fun p => p + F p) i rfl hs60 hc hln hr3 hr4 (by omega) (fun g1 g2 g3 => ⟨(hall fw fp ff g1 g2 g3 0 (by omega) (by omega)).2.2.2.1, fun p hp => ((hall fw fp ff g1 g2 g3 p (by omega) (by omega)).2.2.2.2 hp).2⟩) (fun p hp => by obtain ⟨a, b, d⟩ := hF' p hp; exact ⟨by show p < p + F p; omega, b, d⟩) hP0 (hW.gy hg (by decide)), fun rb M2 hq => ?_⟩
  obtain ⟨e2, x2, W2⟩ := hq
  refine ⟨sm_inv.mk hB (hC1.ml x2 (fun _ q => q)) W2, _, rfl, ?_⟩
  rw [e2]
  congr 2
  have e0 : (sm_out (sm_wbf r1 r2 r3 r4 hb) (hb 0 + hb 1 + hb 2 + hb 3 + hb 4) fw fp ff (hb 0 + hb 1 + hb 2 + hb 3 + hb 4)).2.1 0 = nI (P 0) := (hall fw fp ff fw fp ff 0 (by omega) (by omega)).2.1
  by_cases q : 0 ≤ i.toInt ∧ i.toInt < P 0
  · have hk : ∀ k, k ≤ i.toInt.toNat → sm_wk (fun p => p + F p) k < hb 0 + hb 1 + hb 2 + hb 3 + hb 4 := fun k hk => (sm_wk_lt hF' hP0 k (by omega)).1
    have hgo := sm_go_wk (F := F) (n := hb 0 + hb 1 + hb 2 + hb 3 + hb 4) (iN := i.toInt.toNat) (by omega) hk 60 0 (by omega) (by omega)
    rw [← (sm_toN q).1, show sm_wk (fun p => p + F p) 0 = 0 from rfl] at hgo
    rw [if_pos q, if_pos]
    · rw [hgo]
      show nI (sm_wk (fun p => p + F p) i.toInt.toNat + F (sm_wk (fun p => p + F p) i.toInt.toNat) - sm_wk (fun p => p + F p) i.toInt.toNat) = nI (F (sm_wk (fun p => p + F p) i.toInt.toNat))
      rw [Nat.add_sub_cancel_left]
    · refine ⟨?_, ?_, ?_⟩
      · rw [Int32.lt_iff_toInt_lt, ti_0]
        omega
      · show i < (sm_out (sm_wbf r1 r2 r3 r4 hb) (hb 0 + hb 1 + hb 2 + hb 3 + hb 4) fw fp ff (hb 0 + hb 1 + hb 2 + hb 3 + hb 4)).2.1 0
        rw [e0, Int32.lt_iff_toInt_lt, nI_toInt (by omega)]
        omega
      · rw [hgo]
        exact hk _ (Nat.le_refl _)
  · rw [if_neg q, if_neg]
    rintro ⟨z1, z2, -⟩
    have z2' : i < (sm_out (sm_wbf r1 r2 r3 r4 hb) (hb 0 + hb 1 + hb 2 + hb 3 + hb 4) fw fp ff (hb 0 + hb 1 + hb 2 + hb 3 + hb 4)).2.1 0 := z2
    rw [e0, Int32.lt_iff_toInt_lt, nI_toInt (by omega)] at z2'
    rw [Int32.lt_iff_toInt_lt, ti_0] at z1
    omega
theorem op_serves (o sum : Int32) (hI : sm_inv M) : ∃ P1 : Option Value → sm_M → Prop, sm_Ct l b D cA yX6_serves cX6_serves 3 (some .int) 6 0 0 [.ref 0, .int o, .int sum] M P1 ∧ ∀ r M1, P1 r M1 → ∃ P2 : Option Value → sm_M → Prop, sm_Ct l b D cA yX7_serves cX7_serves 4 (some .int) 4 0 0 [.ref 23, .int o, .int sum] M1 P2 ∧ ∀ r2 M2, P2 r2 M2 → sm_inv M2 ∧ ∃ v : Int32, r = some (.int v) ∧ r2 = some (.int v) := by
  obtain ⟨c, ln, fg, fm, ow, nm, r1, r2, r3, fame, cu, it, yr, τ, dc, ws, to, gr, sp, pd, hb, r4, th, hB, hC, hW⟩ := hI
  obtain ⟨⟨hc, hdc, hz, hs60⟩, hln, hn0, hgr, hrr, hfa, hyr, hev, hpd⟩ := id hB
  obtain ⟨sa, da, sid, did, hX, hS, hsp, hr, ht5, hD, hdis, ⟨pn, ptot, pch, pcs, pcw, pf, pg, hpn, hpu⟩, ⟨fgo, fw, fp, ff, hhp⟩, ⟨f2, h2⟩, ⟨f40, h40⟩, h41⟩ := id hC
  have hnm : ∀ t, t < c → 0 ≤ (nm t).toInt := fun t ht => (hn0 t ht).1.1
  have hr3 : ∀ j, j < 5 → 1 ≤ (r3 j).toInt := fun j hj => (hrr j hj).2.2.1
  have hr4 : ∀ j, j < 5 → r4 j = nI (sm_cg fg ln (nI j) c) := fun j hj => (hrr j hj).2.2.2
  obtain ⟨u, hu1, hu2⟩ := sm_uN hB
  refine ⟨_, c_serves o sum hc hX hS hr (sm_js_ok hgr) hu1 hpn hpu, fun r M1 hp => ?_⟩
  obtain ⟨x1, hpu1, hno, hyes⟩ := hp
  have hg := x1.gy (ys := [13, 14, 15]) (fun z q => Or.inl q)
  have hC1 := hC.soft x1 (by decide) hpu1 ⟨fgo, fw, fp, ff, hhp.gy hg (by decide)⟩ ⟨f2, (hg 2 (by decide) (by decide)).trans h2⟩
  refine ⟨_, m_serves o sum hc hln hnm hgr hr3 hr4 hu1 (hW.gy hg (by decide)), fun rb M2 hq => ?_⟩
  obtain ⟨x2, W2, mno, myes⟩ := hq
  refine ⟨sm_inv.mk hB (hC1.ml x2 (fun _ q => q)) W2, ?_⟩
  by_cases q : (0 ≤ o.toInt ∧ o.toInt < 10) ∧ (1 ≤ sum.toInt ∧ sum.toInt ≤ 1000000) ∧ sm_own ln ow o c ≤ 12
  · obtain ⟨y1, y2⟩ := hyes q
    obtain ⟨n1, n2⟩ := myes q
    have hpre := sm_pre_le (w := sm_filN ln ow o u c) (B := 12500) (sm_own ln ow o c) (sm_filN_le c hu2)
    have hp31 : sm_pre (sm_filN ln ow o u c) (sm_own ln ow o c) < 2 ^ 31 := by have := q.2.2; omega
    have htot := sm_tot_pre (ln := ln) (ow := ow) (o := o) c hu1
    by_cases z : sm_tot ln ow o (sm_wv r1 r2 r3 r4 fame ln (sm_js fg ln) nm) c < sum
    · refine ⟨_, y1 z, n1 ?_⟩
      rw [htot] at z
      exact sm_srv0 hp31 z _
    · have z' := z
      rw [htot] at z'
      have hs := sm_srv1 hp31 q.2.1.1 z'
      refine ⟨_, y2 z, ?_⟩
      rw [n2 hs, ((sm_pick_srv q.2.2 hp31 (2 ^ sm_own ln ow o c - 1) (by have := Nat.two_pow_pos (sm_own ln ow o c); omega)).2 hs).1]
  · exact ⟨_, hno q, mno q⟩
end SM73
