/-! calls -/
theorem sm_good : GoodIn sm_tb sm_tb := fun w hw => ⟨hw, good_of_word (List.mem_filter.mp hw).2⟩
def sm_ML (own : String) (idx : Nat) (yc : MethodName) : Prop := Cond.methodLink own idx yc ∈ sm_tb ∨ ∃ host, Cond.methodLinkNest own idx yc host ∈ sm_nb
def sm_Y (yc : MethodName) (ccc : ByteArray) (nLc : Nat) (retc : Option FieldType) (np : Nat) : Prop := Cond.code yc ccc nLc retc ∈ sm_tb ∧ Cond.initialized yc.cls ∈ sm_tb ∧ (yc.cls ≠ "java/lang/invoke/MethodHandle" ∧ yc.cls ≠ "java/lang/invoke/VarHandle" ∧ (parseMethodDescriptor yc.desc).map (fun d => d.parameters.length) = some np) ∧ nLc ≤ 13
/-- what a call of an instance's method, of a static one, of a constructor stands on -/
def sm_CV (own : String) (idx : Nat) (yc : MethodName) (ccc : ByteArray) (nLc : Nat) (retc : Option FieldType) (np ci : Nat) : Prop := sm_Y yc ccc nLc retc np ∧ sm_ML own idx yc ∧ Cond.instanceMethod yc ∈ sm_tb ∧ Cond.selects yc.cls yc yc ∈ sm_tb ∧ ∃ (T : u_T) (N : Nat), vwCl[ci]? = some (yc.cls, T, N)
def sm_CS (own : String) (idx : Nat) (yc : MethodName) (ccc : ByteArray) (nLc : Nat) (retc : Option FieldType) (np : Nat) : Prop := sm_Y yc ccc nLc retc np ∧ sm_ML own idx yc ∧ Cond.static yc ∈ sm_tb
def sm_CI (own : String) (idx : Nat) (yc : MethodName) (ccc : ByteArray) (nLc np : Nat) : Prop := sm_Y yc ccc nLc none np ∧ sm_ML own idx yc ∧ Cond.instanceMethod yc ∈ sm_tb ∧ yc.name = "<init>"
theorem sm_GC {yc : MethodName} {ccc : ByteArray} {nLc : Nat} {retc : Option FieldType} (h : Cond.code yc ccc nLc retc ∈ sm_tb) : GoodIn sm_tb (.code yc ccc nLc retc :: sm_tb) := fun w hw => (List.mem_cons.mp hw).elim (fun e => sm_good w (by rw [e]; exact h)) (sm_good w)
section SMC
variable {l : Launch} {b : Nat} {D : va_G} {cA : Nat → ClassId} {y : MethodName} {cc : ByteArray} {nL : Nat} {ret : Option FieldType} {fr mc ms : Nat} {Post : Option Value → sm_M → Prop} {k n pc : Nat} {L : List (Option Value)} {st : List Value} {M : sm_M}
theorem sm_catsum (b : Nat) (st : List Value) : ((st.map (sm_s b)).map fun v => v.category).sum = (st.map fun v => v.category).sum := by
  rw [List.map_map]
  congr 1
  exact List.map_congr_left (fun v _ => sm_s_cat b v)
theorem sm_after {p : Program} {e : Env} {R : Room} {s : State} {m : MethodId} {args a : Array Value} {below : List Frame} {meth : Method} {c : Code} {H : Heap} {locs : List Loc} {ls : Array Slot} {stk rest : List Value} {mcc msc : Nat} {Q : State → Prop} {P1 : Option Value → sm_M → Prop}
    (hr : va_Run p l e R s m args below meth c H locs k n mcc msc (F0 m pc ls stk) rest (sm_Q b D cA P1 a) (fun q => b ≤ q)) (hS : va_S (fun q => b ≤ q) s.heap H locs)
    (h : ∀ (r : Option Value) (M1 : sm_M) (H1 : Heap) (locs1 : List Loc), P1 r M1 → sm_H b D cA M1 H1 → va_S (fun q => b ≤ q) s.heap H1 locs1 → W p l e R s m args below meth c H1 locs1 (k + mcc) (n + msc) Q (F0 m (pc + 3) ls ((r.map (sm_s b)).toList ++ rest))) :
    W p l e R s m args below meth c H locs k n Q (F0 m pc ls stk) := by
  intro T hT X
  obtain ⟨v, st₀, t, T', L, h0, X', hL, e1, e2, ⟨⟨r, M1, hv, hp, hH1⟩, hz, hk⟩, stp⟩ := hr T hT X
  cases hv
  rw [h0] at hz hk
  obtain ⟨t2, a1, b1⟩ := h r M1 T'.heap (locs ++ L) hp (by rw [e1]; exact hH1) (hS.two (by rw [e1]; exact hz) (fun q h1 h2 => by rw [e1]; exact hk q h1 h2) hL) T' rfl X'
  exact ⟨t2, stp t2 a1, b1⟩
theorem sm_blind {av : List Value} : FrameBlind (va_Pc (av.map (sm_s b)) (fun U => sm_H b D cA M U.heap ∧ sm_K b D cA U)) := fun a U g mk q => ⟨q.1, q.2.1, sm_K.same (u := U) (U := U.calling g mk a) rfl rfl q.2.2⟩
theorem sm_toList (b : Nat) (r : Option Value) (st : List Value) : (r.map (sm_s b)).toList ++ st.map (sm_s b) = (r.toList ++ st).map (sm_s b) := by cases r <;> rfl
theorem sg_callV {idx np ci q nLc frc mcc msc : Nat} {yc : MethodName} {ccc : ByteArray} {retc : Option FieldType} {As fs : List Value} {P1 : Option Value → sm_M → Prop} (hd : decode cc pc = .ok (.invokevirtual idx, 3)) (hcv : sm_CV y.cls idx yc ccc nLc retc np ci) (hM : M[q]? = some (sm_o ci fs)) (hCt : sm_Ct l b D cA yc ccc nLc retc frc mcc msc (.ref q :: As) M P1) (hlen : As.length = np) (hfr : frc + 1 ≤ fr) (hst : (st.map fun v => v.category).sum ≤ 8) (hmc : k + mcc ≤ mc) (hms : n + msc ≤ ms)
    (h : ∀ (r : Option Value) (M1 : sm_M), P1 r M1 → sm_G l b D cA y cc nL ret fr mc ms Post (k + mcc) (n + msc) (pc + 3) L (r.toList ++ st) M1) : sm_G l b D cA y cc nL ret fr mc ms Post k n pc L (As.reverse ++ .ref q :: st) M := by
  intro p e R s m args below meth c hC H locs ls hH hS hL
  obtain ⟨hx, hb, hml, hown, hts, hlk, hrt, hK, hmn, hRf, hRc, hRs, hRl⟩ := id hC
  obtain ⟨⟨hcode, hini, hyd, hnl⟩, hlink, hinm, hsel, T, N, hci⟩ := hcv
  have hpre : PreV s H yc.cls (b + q) (va_Pc ((Value.ref q :: As).map (sm_s b)) (fun U => sm_H b D cA M U.heap ∧ sm_K b D cA U)) (As.map (sm_s b)) :=
    ⟨sm_blind, va_recv hK.1 (sm_Pone (hH.2 q _ hM)) hci (q0 := 0) rfl, fun U hU hW => ⟨rfl, by rw [hU]; exact hH, hK.warm hW (fun a h1 h2 => by rw [hU]; exact hS.2.1 a h1 h2)⟩⟩
  have hR : frc + 1 ≤ R.frames ∧ 8 + (nLc + 11) + 32 * frc ≤ R.locals := ⟨by rw [hRf]; exact hfr, by rw [hRl]; omega⟩
  have hstack : (As.reverse ++ Value.ref q :: st).map (sm_s b) = (As.map (sm_s b)).reverse ++ Value.ref (b + q) :: st.map (sm_s b) := by
    rw [List.map_append, List.map_reverse]
    rfl
  have hroom : 2 * (F0 m pc ls ((As.reverse ++ Value.ref q :: st).map (sm_s b))).monitorRoom + ((st.map (sm_s b)).map fun v => v.category).sum ≤ 8 := lv_room (by rw [sm_catsum]; exact hst)
  have hrun : va_Run p l e R s m args below meth c H locs k n mcc msc (F0 m pc ls ((As.reverse ++ Value.ref q :: st).map (sm_s b))) (st.map (sm_s b)) (sm_Q b D cA P1 (Value.ref (b + q) :: As.map (sm_s b)).toArray) (fun q => b ≤ q) := by
    rcases hlink with hl | ⟨host, hl⟩
    · exact va_runV ⟨hx, hb, hml, hown, hts⟩ hCt ⟨callB_of np hts (sm_GC hcode) rfl rfl rfl (hts _ hini) (hts _ hl) hyd hR, hts _ hinm, hts _ hsel⟩ hpre rfl (by rw [List.length_map]; exact hlen) hL.1 hstack hroom hd ⟨by rw [hRc]; exact hmc, by rw [hRs]; exact hms⟩
    · exact va_runVN ⟨hx, hb, hml, hown, hts⟩ hCt ⟨va_cnB np hts (sm_GC hcode) rfl rfl rfl (hK.2.1 _ hl) (hts _ hini) hyd hR, hts _ hinm, hts _ hsel⟩ hpre rfl (by rw [List.length_map]; exact hlen) hL.1 hstack hroom hd ⟨by rw [hRc]; exact hmc, by rw [hRs]; exact hms⟩
  refine sm_after hrun hS (fun r M1 H1 locs1 hp hH1 hS1 => ?_)
  rw [sm_toList]
  exact h r M1 hp p e R s m args below meth c hC H1 locs1 ls hH1 hS1 hL
theorem sg_callS {idx np nLc frc mcc msc : Nat} {yc : MethodName} {ccc : ByteArray} {retc : Option FieldType} {As : List Value} {P1 : Option Value → sm_M → Prop} (hd : decode cc pc = .ok (.invokestatic idx, 3)) (hcs : sm_CS y.cls idx yc ccc nLc retc np) (hCt : sm_Ct l b D cA yc ccc nLc retc frc mcc msc As M P1) (hlen : As.length = np) (hfr : frc + 1 ≤ fr) (hst : (st.map fun v => v.category).sum ≤ 8) (hmc : k + mcc ≤ mc) (hms : n + msc ≤ ms)
    (h : ∀ (r : Option Value) (M1 : sm_M), P1 r M1 → sm_G l b D cA y cc nL ret fr mc ms Post (k + mcc) (n + msc) (pc + 3) L (r.toList ++ st) M1) : sm_G l b D cA y cc nL ret fr mc ms Post k n pc L (As.reverse ++ st) M := by
  intro p e R s m args below meth c hC H locs ls hH hS hL
  obtain ⟨hx, hb, hml, hown, hts, hlk, hrt, hK, hmn, hRf, hRc, hRs, hRl⟩ := id hC
  obtain ⟨⟨hcode, hini, hyd, hnl⟩, hlink, hstt⟩ := hcs
  have hpre : PreS s H (va_Pc (As.map (sm_s b)) (fun U => sm_H b D cA M U.heap ∧ sm_K b D cA U)) (As.map (sm_s b)) :=
    ⟨sm_blind, fun U hU hW => ⟨rfl, by rw [hU]; exact hH, hK.warm hW (fun a h1 h2 => by rw [hU]; exact hS.2.1 a h1 h2)⟩⟩
  have hR : frc + 1 ≤ R.frames ∧ 8 + (nLc + 11) + 32 * frc ≤ R.locals := ⟨by rw [hRf]; exact hfr, by rw [hRl]; omega⟩
  have hstack : (As.reverse ++ st).map (sm_s b) = (As.map (sm_s b)).reverse ++ st.map (sm_s b) := by
    rw [List.map_append, List.map_reverse]
  have hroom : 2 * (F0 m pc ls ((As.reverse ++ st).map (sm_s b))).monitorRoom + ((st.map (sm_s b)).map fun v => v.category).sum ≤ 8 := lv_room (by rw [sm_catsum]; exact hst)
  have hrun : va_Run p l e R s m args below meth c H locs k n mcc msc (F0 m pc ls ((As.reverse ++ st).map (sm_s b))) (st.map (sm_s b)) (sm_Q b D cA P1 (As.map (sm_s b)).toArray) (fun q => b ≤ q) := by
    rcases hlink with hl | ⟨host, hl⟩
    · exact va_runS ⟨hx, hb, hml, hown, hts⟩ hCt ⟨callB_of np hts (sm_GC hcode) rfl rfl rfl (hts _ hini) (hts _ hl) hyd hR, hts _ hstt⟩ hpre rfl (by rw [List.length_map]; exact hlen) hL.1 hstack hroom hd ⟨by rw [hRc]; exact hmc, by rw [hRs]; exact hms⟩
    · exact va_runSN ⟨hx, hb, hml, hown, hts⟩ hCt ⟨va_cnB np hts (sm_GC hcode) rfl rfl rfl (hK.2.1 _ hl) (hts _ hini) hyd hR, hts _ hstt, trivial⟩ hpre rfl (by rw [List.length_map]; exact hlen) hL.1 hstack hroom hd ⟨by rw [hRc]; exact hmc, by rw [hRs]; exact hms⟩
  refine sm_after hrun hS (fun r M1 H1 locs1 hp hH1 hS1 => ?_)
  rw [sm_toList]
  exact h r M1 hp p e R s m args below meth c hC H1 locs1 ls hH1 hS1 hL
theorem sg_callI {idx np q nLc frc mcc msc : Nat} {yc : MethodName} {ccc : ByteArray} {As : List Value} {P1 : Option Value → sm_M → Prop} (hd : decode cc pc = .ok (.invokespecial idx, 3)) (hci : sm_CI y.cls idx yc ccc nLc np) (hCt : sm_Ct l b D cA yc ccc nLc none frc mcc msc (.ref q :: As) M P1) (hlen : As.length = np) (hfr : frc + 1 ≤ fr) (hst : (st.map fun v => v.category).sum ≤ 8) (hmc : k + mcc ≤ mc) (hms : n + msc ≤ ms)
    (h : ∀ (r : Option Value) (M1 : sm_M), P1 r M1 → sm_G l b D cA y cc nL ret fr mc ms Post (k + mcc) (n + msc) (pc + 3) L (r.toList ++ st) M1) : sm_G l b D cA y cc nL ret fr mc ms Post k n pc L (As.reverse ++ .ref q :: st) M := by
  intro p e R s m args below meth c hC H locs ls hH hS hL
  obtain ⟨hx, hb, hml, hown, hts, hlk, hrt, hK, hmn, hRf, hRc, hRs, hRl⟩ := id hC
  obtain ⟨⟨hcode, hini, hyd, hnl⟩, hlink, hinm, hnm⟩ := hci
  have hpre : PreS s H (va_Pc ((Value.ref q :: As).map (sm_s b)) (fun U => sm_H b D cA M U.heap ∧ sm_K b D cA U)) (.ref (b + q) :: As.map (sm_s b)) :=
    ⟨sm_blind, fun U hU hW => ⟨rfl, by rw [hU]; exact hH, hK.warm hW (fun a h1 h2 => by rw [hU]; exact hS.2.1 a h1 h2)⟩⟩
  have hR : frc + 1 ≤ R.frames ∧ 8 + (nLc + 11) + 32 * frc ≤ R.locals := ⟨by rw [hRf]; exact hfr, by rw [hRl]; omega⟩
  have hstack : (As.reverse ++ Value.ref q :: st).map (sm_s b) = (As.map (sm_s b)).reverse ++ Value.ref (b + q) :: st.map (sm_s b) := by
    rw [List.map_append, List.map_reverse]
    rfl
  have hroom : 2 * (F0 m pc ls ((As.reverse ++ Value.ref q :: st).map (sm_s b))).monitorRoom + ((st.map (sm_s b)).map fun v => v.category).sum ≤ 8 := lv_room (by rw [sm_catsum]; exact hst)
  have hrun : va_Run p l e R s m args below meth c H locs k n mcc msc (F0 m pc ls ((As.reverse ++ Value.ref q :: st).map (sm_s b))) (st.map (sm_s b)) (sm_Q b D cA P1 (Value.ref (b + q) :: As.map (sm_s b)).toArray) (fun q => b ≤ q) := by
    rcases hlink with hl | ⟨host, hl⟩
    · exact va_runI ⟨hx, hb, hml, hown, hts⟩ hCt ⟨callB_of np hts (sm_GC hcode) rfl rfl rfl (hts _ hini) (hts _ hl) hyd hR, hnm, hts _ hinm⟩ hpre rfl (by rw [List.length_map]; exact hlen) hL.1 hstack hroom hd ⟨by rw [hRc]; exact hmc, by rw [hRs]; exact hms⟩
    · exact va_runIN ⟨hx, hb, hml, hown, hts⟩ hCt ⟨va_cnB np hts (sm_GC hcode) rfl rfl rfl (hK.2.1 _ hl) (hts _ hini) hyd hR, hnm, hts _ hinm⟩ hpre rfl (by rw [List.length_map]; exact hlen) hL.1 hstack hroom hd ⟨by rw [hRc]; exact hmc, by rw [hRs]; exact hms⟩
  refine sm_after hrun hS (fun r M1 H1 locs1 hp hH1 hS1 => ?_)
  rw [sm_toList]
  exact h r M1 hp p e R s m args below meth c hC H1 locs1 ls hH1 hS1 hL
theorem sg_mmax {idx : Nat} {x z : Int32} (hd : decode cc pc = .ok (.invokestatic idx, 3)) (hl : Cond.methodLink y.cls idx Lib.Math.max.name ∈ sm_tb) (hs : Cond.static Lib.Math.max.name ∈ sm_tb) (hi : Cond.initialized "java/lang/Math" ∈ sm_tb) (hc : Cond.code Lib.Math.max.name Lib.Math.max.code 2 (some .int) ∈ sm_tb) (hfr : 1 ≤ fr) (hst : (st.map fun v => v.category).sum ≤ 8) (hmc : k ≤ mc) (hms : n ≤ ms) (h : sm_G l b D cA y cc nL ret fr mc ms Post k n (pc + 3) L (.int (if x < z then z else x) :: st) M) : sm_G l b D cA y cc nL ret fr mc ms Post k n pc L (.int z :: .int x :: st) M := by
  intro p e R s m args below meth c hC H locs ls hH hS hL
  obtain ⟨hx, hb, hml, hown, hts, hlk, hrt, hK, hmn, hRf, hRc, hRs, hRl⟩ := id hC
  exact va_mmax hx hb (by rw [hml, hL.1]) hown (hts _ hl) (hts _ hs) (hts _ hi) (hts _ hc) (by rw [hRf]; exact hfr) (by rw [sm_catsum, hRl]; omega) (by rw [hRc]; exact hmc) (by rw [hRs]; exact hms) hd (h p e R s m args below meth c hC H locs ls hH hS hL)
theorem sg_mmin {idx : Nat} {x z : Int32} (hd : decode cc pc = .ok (.invokestatic idx, 3)) (hl : Cond.methodLink y.cls idx Lib.Math.min.name ∈ sm_tb) (hs : Cond.static Lib.Math.min.name ∈ sm_tb) (hi : Cond.initialized "java/lang/Math" ∈ sm_tb) (hc : Cond.code Lib.Math.min.name Lib.Math.min.code 2 (some .int) ∈ sm_tb) (hfr : 1 ≤ fr) (hst : (st.map fun v => v.category).sum ≤ 8) (hmc : k ≤ mc) (hms : n ≤ ms) (h : sm_G l b D cA y cc nL ret fr mc ms Post k n (pc + 3) L (.int (if z < x then z else x) :: st) M) : sm_G l b D cA y cc nL ret fr mc ms Post k n pc L (.int z :: .int x :: st) M := by
  intro p e R s m args below meth c hC H locs ls hH hS hL
  obtain ⟨hx, hb, hml, hown, hts, hlk, hrt, hK, hmn, hRf, hRc, hRs, hRl⟩ := id hC
  exact va_mmin hx hb (by rw [hml, hL.1]) hown (hts _ hl) (hts _ hs) (hts _ hi) (hts _ hc) (by rw [hRf]; exact hfr) (by rw [sm_catsum, hRl]; omega) (by rw [hRc]; exact hmc) (by rw [hRs]; exact hms) hd (h p e R s m args below meth c hC H locs ls hH hS hL)
theorem sg_objInit {idx q : Nat} (hd : decode cc pc = .ok (.invokespecial idx, 3)) (hl : Cond.methodLink y.cls idx objectInit ∈ sm_tb) (hi : Cond.instanceMethod objectInit ∈ sm_tb) (hc : Cond.code objectInit ⟨#[0xb1]⟩ 1 none ∈ sm_tb) (hfr : 1 ≤ fr) (hst : (st.map fun v => v.category).sum ≤ 8) (h : sm_G l b D cA y cc nL ret fr mc ms Post k n (pc + 3) L st M) : sm_G l b D cA y cc nL ret fr mc ms Post k n pc L (.ref q :: st) M := by
  intro p e R s m args below meth c hC H locs ls hH hS hL
  obtain ⟨hx, hb, hml, hown, hts, hlk, hrt, hK, hmn, hRf, hRc, hRs, hRl⟩ := id hC
  refine W.objInit hx hb hown (hts _ hl) (hts _ hi) (hts _ hc) rfl (by rw [hml]; exact hL.1) rfl hd (by rw [hRf]; exact hfr) ?_ (h p e R s m args below meth c hC H locs ls hH hS hL)
  have h9 := lv_room (m := m) (pc := pc) (ls := ls) (rest := (Value.ref q :: st).map (sm_s b)) (st := st.map (sm_s b)) (by rw [sm_catsum]; exact hst)
  rw [hRl]
  exact Nat.le_trans (Nat.add_le_add_right h9 12) (by omega)
theorem sg_anew {idx t : Nat} {i : Int32} {C : String} (N : Nat) (hd : decode cc pc = .ok (.anewarray idx, 3)) (hcl : Cond.classLink y.cls idx C ∈ sm_tb) (hao : Cond.arrayOver (.object C) ∈ sm_nb) (ht : ∀ cA : Nat → ClassId, (sm_ty cA)[t]? = some (cA t, .object C)) (hi : i = nI N) (hN : N < 100000) (hk1 : k + 1 ≤ mc) (hn1 : n + N ≤ ms) (h : sm_G l b D cA y cc nL ret fr mc ms Post (k + 1) (n + N) (pc + 3) L (.ref M.length :: st) (M ++ [sm_r t N (fun _ => none)])) : sm_G l b D cA y cc nL ret fr mc ms Post k n pc L (.int i :: st) M := by
  subst hi
  intro p e R s m args below meth c hC H locs ls hH hS hL
  obtain ⟨hx, hb, hml, hown, hts, hlk, hrt, hK, hmn, hRf, hRc, hRs, hRl⟩ := id hC
  have hcn : (nI N).toNatClampNeg = N := nI_clamp (by omega)
  refine W.anew hx hb hown (hts _ hcl) (va_AO.use (hK.2.1 _ hao)) rfl hd rfl (nI_pos (by omega)) (by rw [hcn]; omega) (by rw [hRc]; exact hk1) (by rw [hRs, hcn]; exact hn1) fun cA' kA comp f1 f2 f3 f4 => ?_
  obtain ⟨kA2, comp2, -, -, -, f6⟩ := (hK.1.2 t _ (ht cA)).2
  have hcc : cA' = cA t := Option.some.inj (f1.symm.trans f6)
  subst hcc
  rw [hcn]
  generalize hH1 : H.push ({ cls := cA t, slots := Array.replicate N .null, vm := .none } : Cell) = H1
  have z1 : H1.size = H.size + 1 := by rw [← hH1, Array.size_push]
  have e1 : H1[H.size]? = some (arrV (cA t) N (fun _ => .null)) := by rw [← hH1, Array.getElem?_push_size, ← arrV_new]
  have o1 : ∀ q : Nat, q < H.size → H1[q]? = H[q]? := fun q hq => by rw [← hH1, Array.getElem?_push, if_neg (Nat.ne_of_lt hq)]
  have hz := hH.1
  rw [hz] at e1 ⊢
  exact h p e R s m args below meth c hC H1 locs ls (hH.push (x := .inr (.inl (t, N, fun _ => none))) e1 z1 o1) ⟨Nat.le_trans hS.1 (by omega), fun x h1 h2 => (o1 x (Nat.lt_of_lt_of_le h1 hS.1)).trans (hS.2.1 x h1 h2), hS.2.2⟩ hL
end SMC
