/-! the pure heap under a write, and with a new cell -/
theorem sm_H.set {b : Nat} {D : va_G} {cA : Nat → ClassId} {M : sm_M} {H H1 : Heap} {q : Nat} {x x0 : sm_C} (h : sm_H b D cA M H) (hq : M[q]? = some (some x0)) (hat : va_at D vwCl (b + q, sm_v b cA x) H1) (z : H1.size = H.size) (oq : ∀ a : Nat, a ≠ b + q → H1[a]? = H[a]?) : sm_H b D cA (M.set q (some x)) H1 := by
  have hl := (List.getElem?_eq_some_iff.mp hq).1
  refine ⟨by rw [z, List.length_set]; exact h.1, fun j w hj => ?_⟩
  by_cases hjq : j = q
  · subst hjq
    rw [List.getElem?_set_self hl] at hj
    cases hj
    exact hat
  · rw [List.getElem?_set_ne (Ne.symm hjq)] at hj
    exact (h.2 j w hj).kept (oq (b + j) (by omega))
theorem sm_H.push {b : Nat} {D : va_G} {cA : Nat → ClassId} {M : sm_M} {H H1 : Heap} {x : sm_C} (h : sm_H b D cA M H) (hat : va_at D vwCl (b + M.length, sm_v b cA x) H1) (z : H1.size = H.size + 1) (oq : ∀ a : Nat, a < H.size → H1[a]? = H[a]?) : sm_H b D cA (M ++ [some x]) H1 := by
  refine ⟨by rw [z, List.length_append]; simp only [List.length_cons, List.length_nil]; rw [h.1]; omega, fun j w hj => ?_⟩
  by_cases hl : j < M.length
  · rw [List.getElem?_append_left hl] at hj
    exact (h.2 j w hj).kept (oq (b + j) (h.2 j w hj).lt)
  · rw [List.getElem?_append_right (by omega)] at hj
    have hz : j - M.length < 1 := (List.getElem?_eq_some_iff.mp hj).1
    have hjm : j = M.length := by omega
    subst hjm
    rw [Nat.sub_self] at hj
    cases hj
    exact hat
theorem sm_Pone {D : va_G} {H : Heap} {a : Nat} {x : va_E} (h : va_at D vwCl (a, x) H) : va_P D vwCl [(a, x)] H := by
  intro k q hk
  have hz : k < 1 := (List.getElem?_eq_some_iff.mp hk).1
  rw [show k = 0 by omega] at hk
  cases hk
  exact h
theorem va_S.two {A : Nat → Prop} {H0 H H1 : Heap} {locs L : List Loc} (h : va_S A H0 H locs) (z : H.size ≤ H1.size) (o : ∀ q : Nat, q < H.size → ¬ A q → H1[q]? = H[q]?) (hL : ∀ q ∈ L, A q.base) : va_S A H0 H1 (locs ++ L) :=
  ⟨Nat.le_trans h.1 z, fun q h1 h2 => (o q (Nat.lt_of_lt_of_le h1 h.1) h2).trans (h.2.1 q h1 h2), fun q hq => (List.mem_append.mp hq).elim (h.2.2 q) (hL q)⟩
/-- a field's place: its own class's link, or a nest mate's -/
def sm_FL (own : String) (idx ci kk : Nat) (C : String) (T : u_T) (N : Nat) : Prop := vwCl[ci]? = some (C, T, N) ∧ kk < N ∧ (∀ w ∈ u_ws C T N, w ∈ sm_tb) ∧ (Cond.fieldLink own idx C (T kk).2.1 (T kk).2.2.1 ∈ sm_tb ∨ ∃ host, Cond.fieldLinkNest own idx C (T kk).2.1 (T kk).2.2.1 host ∈ sm_nb) ∧ (T kk).1 = C
/-- its type -/
def sm_FT (kk : Nat) (ty : FieldType) (fin : Bool) (T : u_T) (N : Nat) : Prop := (T kk).2.2.2 = fin ∧ parseFieldDescriptor (T kk).2.2.1 = some ty ∧ ∃ ty0 : Nat → FieldType, (∀ k, k < N → parseFieldDescriptor (T k).2.2.1 = some (ty0 k)) ∧ (∀ a, a < N → ∀ b, b < N → a ≠ b → (T a).2.1 ≠ (T b).2.1)
section SMW
variable {p : Program} {l : Launch} {e : Env} {R : Room} {s : State} {m : MethodId} {args : Array Value} {below : List Frame} {meth : Method} {c : Code} {H : Heap} {locs : List Loc} {cells slots : Nat} {Q : State → Prop}
variable {cc : ByteArray} {pc : Nat} {ls : Array Slot} {rest : List Value} {D : va_G} {cl : List vw_C} {a : Nat} {tys : List (ClassId × FieldType)}
theorem sm_Wput (hexec : p.tables.exec = Jvm.exec) (hb : c.code = cc) {own C : String} {T : u_T} {N ci index : Nat} {Ts : List Cond} (hts : ∀ w ∈ Ts, w.before args s = true) (hin : ∀ w ∈ u_ws C T N, w ∈ Ts) (ty0 : Nat → FieldType) (hty : ∀ k, k < N → parseFieldDescriptor (T k).2.2.1 = some (ty0 k)) (hnm : ∀ a, a < N → ∀ b, b < N → a ≠ b → (T a).2.1 ≠ (T b).2.1) (hown : s.vm.findClass own = some m.cls) (hK : va_K D cl tys s) {fs : List Value} (hP : va_at D cl (a, .inr (ci, fs)) H) (hc : cl[ci]? = some (C, T, N)) (k : Nat) (hk : k < N)
    (hlink : (Cond.fieldLink own index C (T k).2.1 (T k).2.2.1).before args s = true ∨ ∃ host, (Cond.fieldLinkNest own index C (T k).2.1 (T k).2.2.1 host).before args s = true) (hcls : (T k).1 = C) (hfin : (T k).2.2.2 = false) {ty : FieldType} {v : Value} (hd : parseFieldDescriptor (T k).2.2.1 = some ty) (hn : narrow ty v = v) (hfit : fits ty v = true) (hl : k < fs.length)
    (hdg : decode cc pc = .ok (.putfield index, 3)) (kk : ∀ (H1 : Heap) (j : Nat), va_at D cl (a, .inr (ci, fs.set k v)) H1 → H1.size = H.size → (∀ q : Nat, q ≠ a → H1[q]? = H[q]?) → W p l e R s m args below meth c H1 (locs ++ [⟨a, j⟩]) cells slots Q (F0 m (pc + 3) ls rest)) : W p l e R s m args below meth c H locs cells slots Q (F0 m pc ls (v :: .ref a :: rest)) := by
  have hap := va_apart (own := own) hts hin ty0 hty hnm hK hc
  obtain ⟨r, h1, cell, q1, q2, q3, q4⟩ := hP
  have hr : r = (C, T, N) := Option.some.inj (h1.symm.trans hc)
  subst hr
  obtain ⟨hS, hfc, kC, hkC, hkind⟩ := hK.1 ci _ hc
  obtain ⟨cf, kf, fi, f, hi, hsl⟩ := hS k hk
  have hlay := hts _ (hin _ (u_in_lay hk))
  unfold u_lay at hlay
  rw [if_neg (by rw [hfin]; decide)] at hlay
  have hst := (u_facts hfc hkC (u_lays hts hin hk) hi).1
  have h6 := u_store hfc hkC hkind hlay hi hd hn hfit
  have hi2 : s.fieldFound? C (T k).2.1 (T k).2.2.1 = some (cf, kf, fi, f) := by rw [← hi, hcls]
  rcases hlink with hlink | ⟨host, hlink⟩
  · refine W.putK hexec hb (f := f) ⟨hown, hlink, ⟨_, _, _, hi2⟩, hst⟩ (by rw [q2]; exact h6) q1 q3 (by rw [hsl]; exact k2_hasslot (q4 k hk)) rfl rfl hdg fun H' e1 e2 e3 => ?_
    rw [hsl] at e1
    exact kk H' _ ⟨_, hc, t_OB.to (V := updV (vp_V fs) k v) ⟨_, e1, q2, q3, t_set q4 hap hk v⟩ (fun j _ => vp_updV_set hl v j)⟩ e2 e3
  · refine va_WputK hexec hb (f := f) hown hlink hi2 hst (by rw [q2]; exact h6) q1 q3 (by rw [hsl]; exact k2_hasslot (q4 k hk)) rfl rfl hdg fun H' e1 e2 e3 => ?_
    rw [hsl] at e1
    exact kk H' _ ⟨_, hc, t_OB.to (V := updV (vp_V fs) k v) ⟨_, e1, q2, q3, t_set q4 hap hk v⟩ (fun j _ => vp_updV_set hl v j)⟩ e2 e3
theorem sm_WputF (hexec : p.tables.exec = Jvm.exec) (hb : c.code = cc) {own C : String} {T : u_T} {N ci index : Nat} {Ts : List Cond} (hts : ∀ w ∈ Ts, w.before args s = true) (hin : ∀ w ∈ u_ws C T N, w ∈ Ts) (ty0 : Nat → FieldType) (hty : ∀ k, k < N → parseFieldDescriptor (T k).2.2.1 = some (ty0 k)) (hnm : ∀ a, a < N → ∀ b, b < N → a ≠ b → (T a).2.1 ≠ (T b).2.1) (hown : s.vm.findClass own = some m.cls) (hK : va_K D cl tys s) {fs : List Value} (hP : va_at D cl (a, .inr (ci, fs)) H) (hc : cl[ci]? = some (C, T, N)) (k : Nat) (hk : k < N)
    (hlink : (Cond.fieldLink own index C (T k).2.1 (T k).2.2.1).before args s = true) (hcls : (T k).1 = C) (hdecl : C = own) (hin2 : meth.name = "<init>") (hfin : (T k).2.2.2 = true) {ty : FieldType} {v : Value} (hd : parseFieldDescriptor (T k).2.2.1 = some ty) (hn : narrow ty v = v) (hfit : fits ty v = true) (hl : k < fs.length)
    (hdg : decode cc pc = .ok (.putfield index, 3)) (kk : ∀ (H1 : Heap) (j : Nat), va_at D cl (a, .inr (ci, fs.set k v)) H1 → H1.size = H.size → (∀ q : Nat, q ≠ a → H1[q]? = H[q]?) → W p l e R s m args below meth c H1 (locs ++ [⟨a, j⟩]) cells slots Q (F0 m (pc + 3) ls rest)) : W p l e R s m args below meth c H locs cells slots Q (F0 m pc ls (v :: .ref a :: rest)) := by
  have hap := va_apart (own := own) hts hin ty0 hty hnm hK hc
  obtain ⟨r, h1, cell, q1, q2, q3, q4⟩ := hP
  have hr : r = (C, T, N) := Option.some.inj (h1.symm.trans hc)
  subst hr
  obtain ⟨hS, hfc, kC, hkC, hkind⟩ := hK.1 ci _ hc
  obtain ⟨cf, kf, fi, f, hi, hsl⟩ := hS k hk
  have hlay := hts _ (hin _ (u_in_lay hk))
  unfold u_lay at hlay
  rw [if_pos hfin] at hlay
  have hst := (u_facts hfc hkC (u_lays hts hin hk) hi).1
  have hcf : m.cls = cf := by
    obtain ⟨_, _, c', _, _, _, -, -, hf', -, -, -, hown2, -⟩ := Cond.laysFinal_spec hlay
    have e1 : c' = cf := by have := hi.symm.trans hf'; simp at this; exact this.1.symm
    rw [hcls, hdecl] at hown2
    rw [← e1]; exact Option.some.inj (hown.symm.trans hown2)
  have h6 := u_fits hfc hkC hkind (Or.inr hlay) hi hd hn hfit
  have hi2 : s.fieldFound? C (T k).2.1 (T k).2.2.1 = some (cf, kf, fi, f) := by rw [← hi, hcls]
  refine W.putFinK hexec hb hown hlink hi2 hst hcf hin2 (by rw [q2]; exact h6) q1 q3 (by rw [hsl]; exact k2_hasslot (q4 k hk)) rfl rfl hdg fun H' e1 e2 e3 => ?_
  rw [hsl] at e1
  exact kk H' _ ⟨_, hc, t_OB.to (V := updV (vp_V fs) k v) ⟨_, e1, q2, q3, t_set q4 hap hk v⟩ (fun j _ => vp_updV_set hl v j)⟩ e2 e3
end SMW
section SMH
variable {l : Launch} {b : Nat} {D : va_G} {cA : Nat → ClassId} {y : MethodName} {cc : ByteArray} {nL : Nat} {ret : Option FieldType} {fr mc ms : Nat} {Post : Option Value → sm_M → Prop} {k n pc : Nat} {L : List (Option Value)} {st : List Value} {M : sm_M}
theorem sg_get {idx ci kk q N : Nat} {C : String} {T : u_T} {fs : List Value} {v : Value} (hd : decode cc pc = .ok (.getfield idx, 3)) (hf : sm_FL y.cls idx ci kk C T N) (hM : M[q]? = some (sm_o ci fs)) (hv : fs[kk]? = some v) (h : sm_G l b D cA y cc nL ret fr mc ms Post k n (pc + 3) L (v :: st) M) : sm_G l b D cA y cc nL ret fr mc ms Post k n pc L (.ref q :: st) M := by
  intro p e R s m args below meth c hC H locs ls hH hS hL
  have hw := h p e R s m args below meth c hC H locs ls hH hS hL
  obtain ⟨hx, hb, -, hown, hts, -, -, hK, -⟩ := hC
  obtain ⟨hc, hk, hin, hlink, hcls⟩ := hf
  have hP := sm_Pone (hH.2 q _ hM)
  have hv' : (fs.map (sm_s b))[kk]? = some (sm_s b v) := by rw [List.getElem?_map, hv]; rfl
  rcases hlink with hl | ⟨host, hl⟩
  · exact va_get (D := D) hx hb hts hin hown hK.1 hP 0 rfl hc kk hk (hts _ hl) (fun x h9 => by rw [hcls] at h9; exact h9) hv' hd hw
  · exact va_getN (D := D) hx hb hts hin hown hK.1 hP 0 rfl hc kk hk (va_Nw.use rfl (hK.2.1 _ hl)) (fun x h9 => by rw [hcls] at h9; exact h9) hv' hd hw
theorem sg_put {idx ci kk q N : Nat} {C : String} {T : u_T} {fs : List Value} {x : Int32} (hd : decode cc pc = .ok (.putfield idx, 3)) (hf : sm_FL y.cls idx ci kk C T N) (ht : sm_FT kk .int false T N) (hM : M[q]? = some (sm_o ci fs)) (hl : kk < fs.length) (h : sm_G l b D cA y cc nL ret fr mc ms Post k n (pc + 3) L st (M.set q (sm_o ci (fs.set kk (.int x))))) : sm_G l b D cA y cc nL ret fr mc ms Post k n pc L (.int x :: .ref q :: st) M := by
  intro p e R s m args below meth c hC H locs ls hH hS hL
  obtain ⟨hx, hb, -, hown, hts, -, -, hK, -⟩ := id hC
  obtain ⟨hc, hk, hin, hlink, hcls⟩ := hf
  obtain ⟨hfin, hpd, ty0, hty, hnm⟩ := ht
  refine sm_Wput (v := .int x) (ty := .int) hx hb hts hin ty0 hty hnm hown hK.1 (hH.2 q _ hM) hc kk hk (hlink.elim (fun hl => Or.inl (hts _ hl)) (fun ⟨host, hl⟩ => Or.inr ⟨host, va_Nw.use rfl (hK.2.1 _ hl)⟩)) hcls hfin hpd rfl rfl (by rw [List.length_map]; exact hl) hd (fun H1 j hat z oq => ?_)
  refine h p e R s m args below meth c hC H1 _ ls (hH.set hM ?_ z oq) (hS.put z oq (Nat.le_add_right b q)) hL
  show va_at D vwCl (b + q, .inr (ci, (fs.set kk (.int x)).map (sm_s b))) H1
  rw [List.map_set]
  exact hat
theorem sg_putFi {idx ci kk q N : Nat} {C : String} {T : u_T} {fs : List Value} {x : Int32} (hd : decode cc pc = .ok (.putfield idx, 3)) (hf : sm_FL y.cls idx ci kk C T N) (ht : sm_FT kk .int true T N) (hfl : Cond.fieldLink y.cls idx C (T kk).2.1 (T kk).2.2.1 ∈ sm_tb) (hdc : C = y.cls) (hnm0 : y.name = "<init>") (hM : M[q]? = some (sm_o ci fs)) (hl : kk < fs.length) (h : sm_G l b D cA y cc nL ret fr mc ms Post k n (pc + 3) L st (M.set q (sm_o ci (fs.set kk (.int x))))) : sm_G l b D cA y cc nL ret fr mc ms Post k n pc L (.int x :: .ref q :: st) M := by
  intro p e R s m args below meth c hC H locs ls hH hS hL
  obtain ⟨hx, hb, -, hown, hts, -, -, hK, hmn, -⟩ := id hC
  obtain ⟨hc, hk, hin, hlink, hcls⟩ := hf
  obtain ⟨hfin, hpd, ty0, hty, hnm⟩ := ht
  refine sm_WputF (v := .int x) (ty := .int) hx hb hts hin ty0 hty hnm hown hK.1 (hH.2 q _ hM) hc kk hk (hts _ hfl) hcls hdc (hmn.trans hnm0) hfin hpd rfl rfl (by rw [List.length_map]; exact hl) hd (fun H1 j hat z oq => ?_)
  refine h p e R s m args below meth c hC H1 _ ls (hH.set hM ?_ z oq) (hS.put z oq (Nat.le_add_right b q)) hL
  show va_at D vwCl (b + q, .inr (ci, (fs.set kk (.int x)).map (sm_s b))) H1
  rw [List.map_set]
  exact hat
theorem sg_putFr {idx ci kk q N v : Nat} {C : String} {T : u_T} {fs : List Value} {ty : FieldType} (hd : decode cc pc = .ok (.putfield idx, 3)) (hf : sm_FL y.cls idx ci kk C T N) (ht : sm_FT kk ty true T N) (hn : ∀ a : Nat, narrow ty (.ref a) = .ref a ∧ fits ty (.ref a) = true) (hfl : Cond.fieldLink y.cls idx C (T kk).2.1 (T kk).2.2.1 ∈ sm_tb) (hdc : C = y.cls) (hnm0 : y.name = "<init>") (hM : M[q]? = some (sm_o ci fs)) (hl : kk < fs.length) (h : sm_G l b D cA y cc nL ret fr mc ms Post k n (pc + 3) L st (M.set q (sm_o ci (fs.set kk (.ref v))))) : sm_G l b D cA y cc nL ret fr mc ms Post k n pc L (.ref v :: .ref q :: st) M := by
  intro p e R s m args below meth c hC H locs ls hH hS hL
  obtain ⟨hx, hb, -, hown, hts, -, -, hK, hmn, -⟩ := id hC
  obtain ⟨hc, hk, hin, hlink, hcls⟩ := hf
  obtain ⟨hfin, hpd, ty0, hty, hnm⟩ := ht
  refine sm_WputF (v := .ref (b + v)) (ty := ty) hx hb hts hin ty0 hty hnm hown hK.1 (hH.2 q _ hM) hc kk hk (hts _ hfl) hcls hdc (hmn.trans hnm0) hfin hpd (hn _).1 (hn _).2 (by rw [List.length_map]; exact hl) hd (fun H1 j hat z oq => ?_)
  refine h p e R s m args below meth c hC H1 _ ls (hH.set hM ?_ z oq) (hS.put z oq (Nat.le_add_right b q)) hL
  show va_at D vwCl (b + q, .inr (ci, (fs.set kk (.ref v)).map (sm_s b))) H1
  rw [List.map_set]
  exact hat
theorem sg_iald {q N : Nat} {f : Nat → Int32} {i : Int32} (hd : decode cc pc = .ok (.iaload, 1)) (hM : M[q]? = some (sm_i N f)) (hin : vp_in i N) (h : sm_G l b D cA y cc nL ret fr mc ms Post k n (pc + 1) L (.int (f i.toNatClampNeg) :: st) M) : sm_G l b D cA y cc nL ret fr mc ms Post k n pc L (.int i :: .ref q :: st) M := by
  intro p e R s m args below meth c hC H locs ls hH hS hL
  exact va_iald (D := D) hC.1 hC.2.1 hC.2.2.2.2.2.2.2.1.1 (sm_Pone (hH.2 q _ hM)) 0 0 rfl rfl hin hd (h p e R s m args below meth c hC H locs ls hH hS hL)
theorem sg_ald {q N : Nat} {f : Nat → Int32} {i : Int32} (j : Nat) (hd : decode cc pc = .ok (.iaload, 1)) (hM : M[q]? = some (sm_i N f)) (hi : i = nI j) (hj : j < N) (hN : N < 2 ^ 31) (h : sm_G l b D cA y cc nL ret fr mc ms Post k n (pc + 1) L (.int (f j) :: st) M) : sm_G l b D cA y cc nL ret fr mc ms Post k n pc L (.int i :: .ref q :: st) M := by
  subst hi
  refine sg_iald hd hM (vp_in_nI hj hN) ?_
  rw [nI_clamp (by omega)]
  exact h
theorem sg_iast {q N : Nat} {f : Nat → Int32} {i x : Int32} (hd : decode cc pc = .ok (.iastore, 1)) (hM : M[q]? = some (sm_i N f)) (hin : vp_in i N) (h : sm_G l b D cA y cc nL ret fr mc ms Post k n (pc + 1) L st (M.set q (sm_i N (upd f i.toNatClampNeg x)))) : sm_G l b D cA y cc nL ret fr mc ms Post k n pc L (.int x :: .int i :: .ref q :: st) M := by
  intro p e R s m args below meth c hC H locs ls hH hS hL
  obtain ⟨hx, hb, -, hown, hts, -, -, hK, -⟩ := id hC
  have hcell : H[b + q]? = some (vp_cell (cA 0) (N, .inl f)) := hH.2 q _ hM
  refine W.iast hx hb hcell ((hK.1.2 0 _ rfl).1 N (fun j => .int (f j))) (fun q => by cases q) (by show ¬ (i < 0 ∨ (arrV _ _ _).slots.size ≤ _); rw [arrV_size]; exact hin) rfl rfl hd fun H1 e1 z oq => ?_
  refine h p e R s m args below meth c hC H1 _ ls (hH.set hM ?_ z oq) (hS.put z oq (Nat.le_add_right b q)) hL
  show H1[b + q]? = some (vp_cell (cA 0) (N, .inl (upd f i.toNatClampNeg x)))
  rw [e1, vp_cell_i, vp_cell_i, arrV_store]
  congr 2
  funext q
  by_cases hq : q = i.toNatClampNeg
  · subst hq
    simp [updV, upd]
  · simp [updV, upd, hq]
theorem sg_ast {q N : Nat} {f : Nat → Int32} {i x : Int32} (j : Nat) (hd : decode cc pc = .ok (.iastore, 1)) (hM : M[q]? = some (sm_i N f)) (hi : i = nI j) (hj : j < N) (hN : N < 2 ^ 31) (h : sm_G l b D cA y cc nL ret fr mc ms Post k n (pc + 1) L st (M.set q (sm_i N (upd f j x)))) : sm_G l b D cA y cc nL ret fr mc ms Post k n pc L (.int x :: .int i :: .ref q :: st) M := by
  subst hi
  refine sg_iast hd hM (vp_in_nI hj hN) ?_
  rw [nI_clamp (by omega)]
  exact h
theorem sg_alen {q N : Nat} {f : Nat → Int32} (hd : decode cc pc = .ok (.arraylength, 1)) (hM : M[q]? = some (sm_i N f)) (h : sm_G l b D cA y cc nL ret fr mc ms Post k n (pc + 1) L (.int (nI N) :: st) M) : sm_G l b D cA y cc nL ret fr mc ms Post k n pc L (.ref q :: st) M := by
  intro p e R s m args below meth c hC H locs ls hH hS hL
  exact va_alen (D := D) hC.1 hC.2.1 hC.2.2.2.2.2.2.2.1.1 (sm_Pone (hH.2 q _ hM)) 0 0 rfl rfl rfl hd (h p e R s m args below meth c hC H locs ls hH hS hL)
theorem sg_alenr {q N t : Nat} {f : Nat → Option Nat} (hd : decode cc pc = .ok (.arraylength, 1)) (hM : M[q]? = some (sm_r t N f)) (ht : t < 3) (h : sm_G l b D cA y cc nL ret fr mc ms Post k n (pc + 1) L (.int (nI N) :: st) M) : sm_G l b D cA y cc nL ret fr mc ms Post k n pc L (.ref q :: st) M := by
  intro p e R s m args below meth c hC H locs ls hH hS hL
  have hty : ∃ x, (sm_ty cA)[t]? = some (cA t, x) := by
    rcases (show t = 0 ∨ t = 1 ∨ t = 2 by omega) with rfl | rfl | rfl <;> exact ⟨_, rfl⟩
  obtain ⟨x, hx⟩ := hty
  exact va_alen (D := D) hC.1 hC.2.1 hC.2.2.2.2.2.2.2.1.1 (sm_Pone (hH.2 q _ hM)) 0 t rfl hx rfl hd (h p e R s m args below meth c hC H locs ls hH hS hL)
theorem sm_rf (b : Nat) (r : Option Nat) : va_rf (r.map (fun k => b + k)) = sm_s b (va_rf r) := by cases r <;> rfl
theorem sg_aald {q N t : Nat} {f : Nat → Option Nat} {i : Int32} {C : String} (j : Nat) (hd : decode cc pc = .ok (.aaload, 1)) (hM : M[q]? = some (sm_r t N f)) (ht : ∀ cA : Nat → ClassId, (sm_ty cA)[t]? = some (cA t, .object C)) (hi : i = nI j) (hj : j < N) (hN : N < 2 ^ 31) (h : sm_G l b D cA y cc nL ret fr mc ms Post k n (pc + 1) L (va_rf (f j) :: st) M) : sm_G l b D cA y cc nL ret fr mc ms Post k n pc L (.int i :: .ref q :: st) M := by
  subst hi
  intro p e R s m args below meth c hC H locs ls hH hS hL
  refine va_aldq (D := D) hC.1 hC.2.1 hC.2.2.2.2.2.2.2.1.1 (sm_Pone (hH.2 q _ hM)) 0 t rfl (ht cA) (vp_in_nI hj hN) hd ?_
  rw [nI_clamp (by omega), sm_rf]
  exact h p e R s m args below meth c hC H locs ls hH hS hL
theorem sg_aast {q N t v ci : Nat} {f : Nat → Option Nat} {i : Int32} {r : vw_C} {vs : List Value} (j : Nat) (hd : decode cc pc = .ok (.aastore, 1)) (hM : M[q]? = some (sm_r t N f)) (ht : ∀ cA : Nat → ClassId, (sm_ty cA)[t]? = some (cA t, .object r.1)) (hv : M[v]? = some (sm_o ci vs)) (hc : vwCl[ci]? = some r) (hi : i = nI j) (hj : j < N) (hN : N < 2 ^ 31) (h : sm_G l b D cA y cc nL ret fr mc ms Post k n (pc + 1) L st (M.set q (sm_r t N (va_up f j (some v))))) : sm_G l b D cA y cc nL ret fr mc ms Post k n pc L (.ref v :: .int i :: .ref q :: st) M := by
  subst hi
  intro p e R s m args below meth c hC H locs ls hH hS hL
  obtain ⟨hx, hb, -, hown, hts, -, -, hK, -⟩ := id hC
  obtain ⟨r', hr', cellV, g1, g2, g3, -⟩ := hH.2 v _ hv
  have hcls := (hK.1.1 ci r hc).2
  obtain ⟨kA, comp, k1, k2, k3, -⟩ := (hK.1.2 t _ (ht cA)).2
  have hcomp : comp = D.1 ci := Option.some.inj (k3.symm.trans hcls.1)
  subst hcomp
  obtain ⟨kC, hkC, -⟩ := hcls.2
  have hcell : H[b + q]? = some (vp_cell (cA t) (N, .inr (.inr (.inr (.inr (fun j => (f j).map (fun k => b + k))))))) := hH.2 q _ hM
  have h0 : ¬ (nI j < 0) := nI_pos (by omega)
  have hcl : (nI j).toNatClampNeg = j := nI_clamp (by omega)
  refine W.aast hx hb hcell (fun q h => by cases h) (fun h => by cases h) k1 k2 rfl hkC ⟨h0, by show _ < (arrV _ _ _).slots.size; rw [arrV_size, hcl]; exact hj⟩ g1 (fun q h => by rw [g3] at h; cases h) (by rw [g2]; exact hkC) (by rw [g2]; exact va_assign hcls) rfl rfl hd fun H1 e1 z oq => ?_
  refine h p e R s m args below meth c hC H1 _ ls (hH.set hM ?_ z oq) (hS.put z oq (Nat.le_add_right b q)) hL
  show H1[b + q]? = some (vp_cell (cA t) (N, .inr (.inr (.inr (.inr (fun i => (va_up f j (some v) i).map (fun k => b + k)))))))
  rw [e1, vp_cell_q, vp_cell_q, arrV_store, hcl]
  congr 2
  funext q
  by_cases hq : q = j
  · subst hq
    simp [updV, va_up, va_rf]
  · simp [updV, va_up, hq]
theorem sg_new {idx ci N : Nat} {C : String} {T : u_T} {fs : List Value} {ty : Nat → FieldType} (hd : decode cc pc = .ok (.new idx, 3)) (hc : vwCl[ci]? = some (C, T, N)) (hin : ∀ w ∈ u_ws C T N, w ∈ sm_tb) (hty : ∀ k, k < N → parseFieldDescriptor (T k).2.2.1 = some (ty k)) (hcl : Cond.classLink y.cls idx C ∈ sm_tb) (hinst : Cond.instantiable C N ∈ sm_tb) (hini : Cond.initialized C ∈ sm_tb) (hfs : ∀ b : Nat, ∀ j, j < N → defaultValue (ty j) = vp_V (fs.map (sm_s b)) j) (hk1 : k + 1 ≤ mc) (hn1 : n + N ≤ ms) (h : sm_G l b D cA y cc nL ret fr mc ms Post (k + 1) (n + N) (pc + 3) L (.ref M.length :: st) (M ++ [sm_o ci fs])) : sm_G l b D cA y cc nL ret fr mc ms Post k n pc L st M := by
  intro p e R s m args below meth c hC H locs ls hH hS hL
  obtain ⟨hx, hb, -, hown, hts, -, -, hK, -, -, hRc, hRs, -⟩ := id hC
  have hKn := hK.1.1 ci _ hc
  refine W.newcK hx hb hown (hts _ hcl) (hts _ hinst) (hts _ hini) rfl hd (by rw [hRc]; exact hk1) (by rw [hRs]; exact hn1) hKn.2.1 rfl fun H1 kC hkC e1 z1 o1 => ?_
  have hz := hH.1
  rw [hz] at e1 z1 ⊢
  refine h p e R s m args below meth c hC H1 locs ls (hH.push ?_ (by rw [z1, hz]) (fun a ha => o1 a ha)) ⟨Nat.le_trans hS.1 (by omega), fun x h1 h2 => (o1 x (Nat.lt_of_lt_of_le h1 hS.1)).trans (hS.2.1 x h1 h2), hS.2.2⟩ hL
  exact ⟨_, hc, (u_born ty hts hin hKn hkC e1 hty).to (hfs b)⟩
theorem sg_newa {i : Int32} (N : Nat) (hd : decode cc pc = .ok (.newarray .int, 2)) (ha : Cond.arrayClass .int ∈ sm_tb) (hi : i = nI N) (hN : N < 100000) (hk1 : k + 1 ≤ mc) (hn1 : n + N ≤ ms) (h : sm_G l b D cA y cc nL ret fr mc ms Post (k + 1) (n + N) (pc + 2) L (.ref M.length :: st) (M ++ [sm_i N (fun _ => 0)])) : sm_G l b D cA y cc nL ret fr mc ms Post k n pc L (.int i :: st) M := by
  subst hi
  intro p e R s m args below meth c hC H locs ls hH hS hL
  obtain ⟨hx, hb, -, hown, hts, -, -, hK, -, -, hRc, hRs, -⟩ := id hC
  refine va_newaK (atype := .int) (N := N) hx hb (hts _ ha) rfl hd rfl (nI_pos (by omega)) (nI_clamp (by omega)) (by show N * 4 ≤ _; omega) (by rw [hRc]; exact hk1) (by rw [hRs]; exact hn1) rfl fun H1 cA' e1 z1 o1 hAr hNm => ?_
  have hA2 : s.vm.findClass ("[" ++ FieldType.int.toString) = some (cA 0) := (hK.1.2 0 _ rfl).2
  have hcc : cA' = cA 0 := Option.some.inj (hNm.symm.trans hA2)
  subst hcc
  have hz := hH.1
  rw [hz] at e1 z1 ⊢
  exact h p e R s m args below meth c hC H1 locs ls (hH.push (x := .inl (N, fun _ => 0)) e1 (by rw [z1, hz]) (fun a ha => o1 a ha)) ⟨Nat.le_trans hS.1 (by omega), fun x h1 h2 => (o1 x (Nat.lt_of_lt_of_le h1 hS.1)).trans (hS.2.1 x h1 h2), hS.2.2⟩ hL
theorem sg_ireturn {x : Int32} (hd : decode cc pc = .ok (.ireturn, 1)) (hr : ret = some .int) (hk : k ≤ mc) (hn : n ≤ ms) (hp : Post (some (.int x)) M) : sm_G l b D cA y cc nL ret fr mc ms Post k n pc L [.int x] M := by
  intro p e R s m args below meth c hC H locs ls hH hS hL
  obtain ⟨hx, hb, -, hown, hts, hlk, hrt, -⟩ := id hC
  refine W.widen hk hn ?_
  exact W.iret (v := x) hx hb (hrt.trans hr) (fun t ht hW => ⟨⟨some (.int x), M, rfl, hp, by rw [ht]; exact hH⟩, hS.F ht⟩) hS.2.2 hd hlk
theorem sg_zreturn {x : Int32} (hd : decode cc pc = .ok (.ireturn, 1)) (hr : ret = some .boolean) (hz : narrow .boolean (.int x) = .int x) (hk : k ≤ mc) (hn : n ≤ ms) (hp : Post (some (.int x)) M) : sm_G l b D cA y cc nL ret fr mc ms Post k n pc L [.int x] M := by
  intro p e R s m args below meth c hC H locs ls hH hS hL
  obtain ⟨hx, hb, -, hown, hts, hlk, hrt, -⟩ := id hC
  refine W.widen hk hn ?_
  exact W.zret (v := x) hx hb (hrt.trans hr) hz (fun t ht hW => ⟨⟨some (.int x), M, rfl, hp, by rw [ht]; exact hH⟩, hS.F ht⟩) hS.2.2 hd hlk
theorem sg_return (hd : decode cc pc = .ok (.return_, 1)) (hr : ret = none) (hk : k ≤ mc) (hn : n ≤ ms) (hp : Post none M) : sm_G l b D cA y cc nL ret fr mc ms Post k n pc L [] M := by
  intro p e R s m args below meth c hC H locs ls hH hS hL
  obtain ⟨hx, hb, -, hown, hts, hlk, hrt, -⟩ := id hC
  refine W.widen hk hn ?_
  exact W.vret hx hb (hrt.trans hr) (fun t ht hW => ⟨⟨none, M, rfl, hp, by rw [ht]; exact hH⟩, hS.F ht⟩) hS.2.2 hd hlk
theorem sg_areturn {r : Option Nat} {C : String} (hd : decode cc pc = .ok (.areturn, 1)) (hr : ret = some (.object C)) (hk : k ≤ mc) (hn : n ≤ ms) (hp : Post (some (va_rf r)) M) : sm_G l b D cA y cc nL ret fr mc ms Post k n pc L [va_rf r] M := by
  intro p e R s m args below meth c hC H locs ls hH hS hL
  obtain ⟨hx, hb, -, hown, hts, hlk, hrt, -⟩ := id hC
  refine W.widen hk hn ?_
  exact W.aret (v := sm_s b (va_rf r)) hx hb (hrt.trans hr) (Or.inl ⟨C, rfl⟩) (by cases r with
    | none => exact Or.inl rfl
    | some a => exact Or.inr ⟨b + a, rfl⟩) (fun t ht hW => ⟨⟨some (va_rf r), M, rfl, hp, by rw [ht]; exact hH⟩, hS.F ht⟩) hS.2.2 hd hlk
theorem sg_tableOut {dflt lo hi : Int} {offs : Array Int} {len : Nat} {x : Int32} (tgt : Nat) (hd : decode cc pc = .ok (.tableswitch dflt lo hi offs, len)) (hx : x.toInt < lo ∨ hi < x.toInt) (ht : (pc : Int) + dflt = (tgt : Int)) (h : sm_G l b D cA y cc nL ret fr mc ms Post k n tgt L st M) : sm_G l b D cA y cc nL ret fr mc ms Post k n pc L (.int x :: st) M := fun p e R s m args below meth c C H locs ls hH hS hL => lv_tableOut C.1 C.2.1 hd hx ht (h p e R s m args below meth c C H locs ls hH hS hL)
theorem sg_tableIn {dflt lo hi off : Int} {offs : Array Int} {len : Nat} {x : Int32} (tgt : Nat) (hd : decode cc pc = .ok (.tableswitch dflt lo hi offs, len)) (h1 : ¬ x.toInt < lo) (h2 : ¬ hi < x.toInt) (ho : offs[(x.toInt - lo).toNat]? = some off) (ht : (pc : Int) + off = (tgt : Int)) (h : sm_G l b D cA y cc nL ret fr mc ms Post k n tgt L st M) : sm_G l b D cA y cc nL ret fr mc ms Post k n pc L (.int x :: st) M := fun p e R s m args below meth c C H locs ls hH hS hL => lv_tableIn C.1 C.2.1 hd h1 h2 ho ht (h p e R s m args below meth c C H locs ls hH hS hL)
theorem sg_lookup {dflt off : Int} {ps : Array (Int × Int)} {len : Nat} {x : Int32} (tgt : Nat) (hd : decode cc pc = .ok (.lookupswitch dflt ps, len)) (hp : (ps.toList.zip (ps.toList.drop 1)).all (fun (a, next) => a.1 < next.1) = true) (ho : Op.lookupswitch.offset ps.toList dflt x.toInt = off) (ht : (pc : Int) + off = (tgt : Int)) (h : sm_G l b D cA y cc nL ret fr mc ms Post k n tgt L st M) : sm_G l b D cA y cc nL ret fr mc ms Post k n pc L (.int x :: st) M := fun p e R s m args below meth c C H locs ls hH hS hL => lv_lookup C.1 C.2.1 hd hp ho ht (h p e R s m args below meth c C H locs ls hH hS hL)
end SMH
