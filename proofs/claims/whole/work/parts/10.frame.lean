/-! THE PURE HEAP: cells by number (address minus base b), what they hold; int rows, rows of references, objects; 'none' is a cell of which nothing is said -/
abbrev sm_C : Type := (Nat × (Nat → Int32)) ⊕ ((Nat × Nat × (Nat → Option Nat)) ⊕ ((Nat × List Value) ⊕ (Nat × (Nat → Int64))))
abbrev sm_M : Type := List (Option sm_C)
abbrev sm_i (n : Nat) (f : Nat → Int32) : Option sm_C := some (.inl (n, f))
abbrev sm_r (t n : Nat) (f : Nat → Option Nat) : Option sm_C := some (.inr (.inl (t, n, f)))
abbrev sm_o (c : Nat) (fs : List Value) : Option sm_C := some (.inr (.inr (.inl (c, fs))))
abbrev sm_j (n : Nat) (f : Nat → Int64) : Option sm_C := some (.inr (.inr (.inr (n, f))))
/-- a pure value as the machine has it -/
def sm_s (b : Nat) (v : Value) : Value := match v with
  | .ref k => .ref (b + k)
  | w => w
theorem sm_s_cat (b : Nat) (v : Value) : (sm_s b v).category = v.category := by cases v <;> rfl
def sm_v (b : Nat) (cA : Nat → ClassId) (x : sm_C) : va_E := match x with
  | .inl (n, f) => .inl (cA 0, n, .inl f)
  | .inr (.inl (t, n, f)) => .inl (cA t, n, .inr (.inr (.inr (.inr (fun j => (f j).map (fun k => b + k))))))
  | .inr (.inr (.inl (c, fs))) => .inr (c, fs.map (sm_s b))
  | .inr (.inr (.inr (n, f))) => .inl (cA 3, n, .inr (.inl f))
def sm_H (b : Nat) (D : va_G) (cA : Nat → ClassId) (M : sm_M) (H : Heap) : Prop := H.size = b + M.length ∧ ∀ (k : Nat) (x : sm_C), M[k]? = some (some x) → va_at D vwCl (b + k, sm_v b cA x) H
def sm_ty (cA : Nat → ClassId) : List (ClassId × FieldType) := [(cA 0, .int), (cA 1, .object RX4), (cA 2, .object RX0), (cA 3, .long)]
/-! words: the good ones of the tables; those of nest mates -/
def sm_isN (w : Cond) : Bool := match w with
  | .fieldLinkNest .. => true
  | .methodLinkNest .. => true
  | .castable .. => true
  | .arrayOver (.object _) => true
  | _ => false
def sm_nb : List Cond := tables_1.filter sm_isN
def sm_tb : List Cond := lw_tbl.filter goodWord
/-- the static rows that nobody writes -/
def sm_Zs : List (String × (Nat → Value)) := [("FIRST_RATES", fun j => .int (([1, 2, 4, 7, 11] : List Int32).getD j 0)), ("FIRST_BONUSES", fun j => .int (([0, 5, 10, 20, 40] : List Int32).getD j 0)), ("FIRST_FLOODS", fun _ => .int 50)]
def sm_Z (b : Nat) (U : State) : Prop := ∀ q ∈ sm_Zs, ∃ t : Nat, va_Z RX6 q.1 "[I" (.ref t) (fun a => b ≤ a) U U.heap ∧ va_T .int t 5 q.2 (fun a => b ≤ a) U U.heap ∧ ∀ cell : Cell, U.heap[t]? = some cell → cell.slots.size = 5
def sm_K (b : Nat) (D : va_G) (cA : Nat → ClassId) (U : State) : Prop := va_K D vwCl (sm_ty cA) U ∧ (∀ w ∈ sm_nb, va_Nw w U) ∧ sm_Z b U
theorem sm_Z.to {b : Nat} {s U : State} (hv : s.vm.Alike U.vm) (hq : ∀ a : Nat, a < s.heap.size → ¬ b ≤ a → U.heap[a]? = s.heap[a]?) (h : sm_Z b s) : sm_Z b U := fun q hq2 => by
  obtain ⟨t, h1, h2, h3⟩ := h q hq2
  refine ⟨t, (h1.kept hq).moved hv, (h2.kept hq).moved hv, fun cell hc => h3 cell ?_⟩
  obtain ⟨c0, a1, -, -, -, -, -, a7⟩ := id h2
  rw [← hq t (Array.getElem?_eq_some_iff.mp a1).1 a7]
  exact hc
theorem sm_K.warm {b : Nat} {D : va_G} {cA : Nat → ClassId} {s U : State} (hW : s.WarmedH U.vm) (hq : ∀ a : Nat, a < s.heap.size → ¬ b ≤ a → U.heap[a]? = s.heap[a]?) (h : sm_K b D cA s) : sm_K b D cA U := by
  refine ⟨va_K.moved hW.alike h.1, fun w hw => ?_, h.2.2.to hW.alike hq⟩
  have h1 := h.2.1 w hw
  have h2 := (List.mem_filter.mp hw).2
  cases w <;> first | exact va_Nw.warmF hW h1 | exact va_Nw.warmM hW h1 | exact va_Nw.warmC hW h1 | cases h2 | (rename_i t; cases t <;> first | exact va_AO.moved hW.alike h1 | cases h2)
theorem sm_K.same {b : Nat} {D : va_G} {cA : Nat → ClassId} {u U : State} (hv : u.vm = U.vm) (hh : u.heap = U.heap) (h : sm_K b D cA u) : sm_K b D cA U := by
  refine ⟨va_K.moved (by rw [hv]; exact Vm.Alike.refl U.vm) h.1, fun w hw => ?_, h.2.2.to (by rw [hv]; exact Vm.Alike.refl U.vm) (fun a _ _ => by rw [hh])⟩
  have h1 := h.2.1 w hw
  have h2 := (List.mem_filter.mp hw).2
  cases w <;> first | exact va_Nw.same rfl hv h1 | cases h2 | (rename_i t; cases t <;> first | exact va_AO.moved (by rw [hv]; exact Vm.Alike.refl U.vm) h1 | cases h2)
/-! locals -/
def sm_L (b nL : Nat) (L : List (Option Value)) (ls : Array Slot) : Prop := ls.size = nL ∧ lv_wf ls ∧ ∀ (i : Nat) (v : Value), L[i]? = some (some v) → v.category = 1 ∧ ls[i]? = some (.val (sm_s b v))
theorem sm_L.at {b nL : Nat} {L : List (Option Value)} {ls : Array Slot} (h : sm_L b nL L ls) {i : Nat} {v : Value} (hi : L[i]? = some (some v)) : ls[i]? = some (.val (sm_s b v)) := (h.2.2 i v hi).2
def sm_pr (b : Nat) (L : List (Option Value)) : List (Nat × Value) := (List.range L.length).filterMap (fun j => match L[j]? with
  | some (some v) => some (j, sm_s b v)
  | _ => none)
theorem sm_pr_mem {b : Nat} {L : List (Option Value)} {q : Nat × Value} : q ∈ sm_pr b L ↔ ∃ v, L[q.1]? = some (some v) ∧ q.2 = sm_s b v := by
  unfold sm_pr
  rw [List.mem_filterMap]
  constructor
  · rintro ⟨j, -, h⟩
    cases hj : L[j]? with
    | none => rw [hj] at h; cases h
    | some o =>
      cases o with
      | none => rw [hj] at h; cases h
      | some v =>
        rw [hj] at h
        cases h
        exact ⟨v, hj, rfl⟩
  · rintro ⟨v, h1, h2⟩
    refine ⟨q.1, List.mem_range.mpr (List.getElem?_eq_some_iff.mp h1).1, ?_⟩
    rw [h1]
    show some (q.1, sm_s b v) = some q
    rw [← h2]
theorem sm_L.pairs {b nL : Nat} {L : List (Option Value)} {ls : Array Slot} (h : sm_L b nL L ls) : lv_has ls nL (sm_pr b L) := by
  refine ⟨h.1, h.2.1, fun q hq => ?_⟩
  obtain ⟨v, h1, h2⟩ := sm_pr_mem.mp hq
  rw [h2]
  exact h.at h1
theorem sm_L.back {b nL i : Nat} {L : List (Option Value)} {ls ls' : Array Slot} {v : Value} (h0 : sm_L b nL L ls) (hc : v.category = 1) (h : lv_has ls' nL ((i, sm_s b v) :: (sm_pr b L).filter (fun q => !(q.1 == i) && !(q.1 + 1 == i && q.2.category == 2)))) : sm_L b nL (L.set i (some v)) ls' := by
  refine ⟨h.1, h.2.1, fun j w hj => ?_⟩
  by_cases hji : j = i
  · subst hji
    have hl : j < L.length := by
      have := (List.getElem?_eq_some_iff.mp hj).1
      rwa [List.length_set] at this
    rw [List.getElem?_set_self hl] at hj
    cases hj
    exact ⟨hc, h.2.2 (j, sm_s b v) List.mem_cons_self⟩
  · rw [List.getElem?_set_ne (Ne.symm hji)] at hj
    obtain ⟨c1, c2⟩ := h0.2.2 j w hj
    refine ⟨c1, h.2.2 (j, sm_s b w) (List.mem_cons_of_mem _ (List.mem_filter.mpr ⟨sm_pr_mem.mpr ⟨w, hj, rfl⟩, ?_⟩))⟩
    have hcat := sm_s_cat b w
    rw [c1] at hcat
    simp [hji, hcat]
theorem sm_args_mem {b : Nat} : ∀ (vs : List Value) (k : Nat), vs.all (fun v => v.category == 1) = true → ∀ (i : Nat) (v : Value), vs[i]? = some v → (k + i, sm_s b v) ∈ lv_args k (vs.map (sm_s b))
  | [], _, _, i, v, h => by simp at h
  | w :: vs, k, hc, i, v, h => by
    simp only [List.all_cons, Bool.and_eq_true, beq_iff_eq] at hc
    have hw : ¬ (sm_s b w).category = 2 := by rw [sm_s_cat, hc.1]; decide
    show (k + i, sm_s b v) ∈ (k, sm_s b w) :: lv_args (if (sm_s b w).category = 2 then k + 2 else k + 1) (vs.map (sm_s b))
    rw [if_neg hw]
    cases i with
    | zero =>
      cases h
      exact List.mem_cons_self
    | succ i =>
      refine List.mem_cons_of_mem _ ?_
      have := sm_args_mem (b := b) vs (k + 1) hc.2 i v h
      rwa [show k + 1 + i = k + (i + 1) by omega] at this
theorem sm_L.entry {b nL : Nat} {vs : List Value} {ls : Array Slot} (hc : vs.all (fun v => v.category == 1) = true) (h : lv_has ls nL (lv_args 0 (vs.map (sm_s b)))) : sm_L b nL (vs.map some ++ List.replicate (nL - vs.length) none) ls := by
  refine ⟨h.1, h.2.1, fun i v hi => ?_⟩
  by_cases hl : i < vs.length
  · rw [List.getElem?_append_left (by rw [List.length_map]; exact hl), List.getElem?_map] at hi
    cases hv : vs[i]? with
    | none => rw [hv] at hi; cases hi
    | some w =>
      rw [hv] at hi
      have hwv : w = v := Option.some.inj (Option.some.inj hi)
      subst hwv
      have hm : w ∈ vs := List.mem_of_getElem? hv
      have h1 := sm_args_mem (b := b) vs 0 hc i w hv
      rw [Nat.zero_add] at h1
      exact ⟨by simpa using List.all_eq_true.mp hc w hm, h.2.2 _ h1⟩
  · rw [List.getElem?_append_right (by rw [List.length_map]; omega)] at hi
    have := List.eq_of_mem_replicate (List.mem_of_getElem? hi)
    cases this
/-! what a method's activation stands on; its end; the judgement G: from here the method comes to its end with Post -/
def sm_Cx (b : Nat) (D : va_G) (cA : Nat → ClassId) (y : MethodName) (cc : ByteArray) (nL : Nat) (ret : Option FieldType) (fr mc ms : Nat) (p : Program) (R : Room) (s : State) (m : MethodId) (args : Array Value) (meth : Method) (c : Code) : Prop :=
  p.tables.exec = Jvm.exec ∧ c.code = cc ∧ c.maxLocals = nL ∧ s.vm.findClass y.cls = some m.cls ∧ (∀ w ∈ sm_tb, w.before args s = true) ∧ meth.locks = false ∧ meth.sig.returnType = ret ∧ sm_K b D cA s ∧ meth.name = y.name ∧ R.frames = fr ∧ R.cells = mc ∧ R.slots = ms ∧ R.locals = 32 * fr
def sm_Q (b : Nat) (D : va_G) (cA : Nat → ClassId) (Post : Option Value → sm_M → Prop) : Array Value → State → Outcome → State → Prop := fun _ st oc t => (∃ (r : Option Value) (M1 : sm_M), oc = .returned (r.map (sm_s b)) ∧ Post r M1 ∧ sm_H b D cA M1 t.heap) ∧ va_F (fun q => b ≤ q) st t
def sm_G (l : Launch) (b : Nat) (D : va_G) (cA : Nat → ClassId) (y : MethodName) (cc : ByteArray) (nL : Nat) (ret : Option FieldType) (fr mc ms : Nat) (Post : Option Value → sm_M → Prop) (k n pc : Nat) (L : List (Option Value)) (st : List Value) (M : sm_M) : Prop :=
  ∀ (p : Program) (e : Env) (R : Room) (s : State) (m : MethodId) (args : Array Value) (below : List Frame) (meth : Method) (c : Code), sm_Cx b D cA y cc nL ret fr mc ms p R s m args meth c →
    ∀ (H : Heap) (locs : List Loc) (ls : Array Slot), sm_H b D cA M H → va_S (fun q => b ≤ q) s.heap H locs → sm_L b nL L ls →
      W p l e R s m args below meth c H locs k n (MQ below (sm_Q b D cA Post) args s mc ms (fun q => b ≤ q)) (F0 m pc ls (st.map (sm_s b)))
/-- a method's contract -/
def sm_Ct (l : Launch) (b : Nat) (D : va_G) (cA : Nat → ClassId) (y : MethodName) (cc : ByteArray) (nL : Nat) (ret : Option FieldType) (fr mc ms : Nat) (av : List Value) (M : sm_M) (Post : Option Value → sm_M → Prop) : Prop :=
  Met l y (.code y cc nL ret :: sm_tb) ({ frames := fr, cells := mc, slots := ms, locals := 32 * fr }) (va_Pc (av.map (sm_s b)) (fun U => sm_H b D cA M U.heap ∧ sm_K b D cA U)) (sm_Q b D cA Post) mc ms (fun q => b ≤ q)
section SMR
variable {l : Launch} {b : Nat} {D : va_G} {cA : Nat → ClassId} {y : MethodName} {cc : ByteArray} {nL : Nat} {ret : Option FieldType} {fr mc ms : Nat} {Post : Option Value → sm_M → Prop} {k n pc : Nat} {L : List (Option Value)} {st : List Value} {M : sm_M}
theorem sm_enter {av : List Value} (hy : plainName y.cls = true) (hc : av.all (fun v => v.category == 1) = true) (hlen : ∀ b : Nat, (lg_sl (av.map (sm_s b))).length ≤ nL) (h : sm_G l b D cA y cc nL ret fr mc ms Post 0 0 0 (av.map some ++ List.replicate (nL - av.length) none) [] M) : sm_Ct l b D cA y cc nL ret fr mc ms av M Post := by
  refine Met.ofW (cc := cc) (maxL := nL) (ret := ret) hy rfl ?_
  intro p e s m args below meth c s₁ B hml hv
  obtain ⟨rfl, hH, hK⟩ := hv
  have hts := atoms_spec (ws := .code y cc nL ret :: sm_tb) B.pre
  have hl := lv_entry (av.map (sm_s b)) (n := nL) (hlen b)
  rw [lg_entry_eq]
  generalize (lg_sl (av.map (sm_s b)) ++ List.replicate (nL - (lg_sl (av.map (sm_s b))).length) Slot.unset).toArray = ls at hl ⊢
  exact h p e _ s m _ below meth c ⟨B.exec, B.bytes, hml, findClass_of_methodNamed B.named, fun w hw => hts w (List.mem_cons_of_mem _ hw), B.notSynchronized, B.returns, hK, (name_of_methodNamed B.named B.method).1, rfl, rfl, rfl, rfl⟩ s.heap [] ls hH va_S.rf (sm_L.entry hc hl)
theorem sg_eq {M2 : sm_M} (e : M = M2) (h : sm_G l b D cA y cc nL ret fr mc ms Post k n pc L st M2) : sm_G l b D cA y cc nL ret fr mc ms Post k n pc L st M := e ▸ h
theorem sg_iconst {z : Int} (x : Int32) (hd : decode cc pc = .ok (.iconst z, 1)) (hx : Int32.ofInt z = x) (h : sm_G l b D cA y cc nL ret fr mc ms Post k n (pc + 1) L (.int x :: st) M) : sm_G l b D cA y cc nL ret fr mc ms Post k n pc L st M := fun p e R s m args below meth c C H locs ls hH hS hL => lv_iconst C.1 C.2.1 hd hx (h p e R s m args below meth c C H locs ls hH hS hL)
theorem sg_bipush {z : Int} (x : Int32) (hd : decode cc pc = .ok (.bipush z, 2)) (hx : (Int8.ofInt z).toInt32 = x) (h : sm_G l b D cA y cc nL ret fr mc ms Post k n (pc + 2) L (.int x :: st) M) : sm_G l b D cA y cc nL ret fr mc ms Post k n pc L st M := fun p e R s m args below meth c C H locs ls hH hS hL => lv_bipush C.1 C.2.1 hd hx (h p e R s m args below meth c C H locs ls hH hS hL)
theorem sg_sipush {z : Int} (x : Int32) (hd : decode cc pc = .ok (.sipush z, 3)) (hx : (Int16.ofInt z).toInt32 = x) (h : sm_G l b D cA y cc nL ret fr mc ms Post k n (pc + 3) L (.int x :: st) M) : sm_G l b D cA y cc nL ret fr mc ms Post k n pc L st M := fun p e R s m args below meth c C H locs ls hH hS hL => lv_sipush C.1 C.2.1 hd hx (h p e R s m args below meth c C H locs ls hH hS hL)
theorem sg_ldc {i : Nat} (x : Int32) (hd : decode cc pc = .ok (.ldc i, 2)) (hx : Cond.constant y.cls i x ∈ sm_tb) (h : sm_G l b D cA y cc nL ret fr mc ms Post k n (pc + 2) L (.int x :: st) M) : sm_G l b D cA y cc nL ret fr mc ms Post k n pc L st M := fun p e R s m args below meth c C H locs ls hH hS hL => lv_ldc C.1 C.2.1 C.2.2.2.1 (C.2.2.2.2.1 _ hx) hd (h p e R s m args below meth c C H locs ls hH hS hL)
theorem sg_ldcw {i : Nat} (x : Int32) (hd : decode cc pc = .ok (.ldc_w i, 3)) (hx : Cond.constant y.cls i x ∈ sm_tb) (h : sm_G l b D cA y cc nL ret fr mc ms Post k n (pc + 3) L (.int x :: st) M) : sm_G l b D cA y cc nL ret fr mc ms Post k n pc L st M := fun p e R s m args below meth c C H locs ls hH hS hL => lv_ldcw C.1 C.2.1 C.2.2.2.1 (C.2.2.2.2.1 _ hx) hd (h p e R s m args below meth c C H locs ls hH hS hL)
theorem sg_iload_n {j : Fin 4} {x : Int32} (hd : decode cc pc = .ok (.iload_n j, 1)) (hl : L[(j : Nat)]? = some (some (.int x))) (h : sm_G l b D cA y cc nL ret fr mc ms Post k n (pc + 1) L (.int x :: st) M) : sm_G l b D cA y cc nL ret fr mc ms Post k n pc L st M := fun p e R s m args below meth c C H locs ls hH hS hL => lv_iload_n C.1 C.2.1 hd rfl (hL.at hl) (h p e R s m args below meth c C H locs ls hH hS hL)
theorem sg_iload {j : Nat} {x : Int32} (hd : decode cc pc = .ok (.iload j, 2)) (hl : L[j]? = some (some (.int x))) (h : sm_G l b D cA y cc nL ret fr mc ms Post k n (pc + 2) L (.int x :: st) M) : sm_G l b D cA y cc nL ret fr mc ms Post k n pc L st M := fun p e R s m args below meth c C H locs ls hH hS hL => lv_iload C.1 C.2.1 hd (hL.at hl) (h p e R s m args below meth c C H locs ls hH hS hL)
theorem sg_aload_n {j : Fin 4} {x : Nat} (hd : decode cc pc = .ok (.aload_n j, 1)) (hl : L[(j : Nat)]? = some (some (.ref x))) (h : sm_G l b D cA y cc nL ret fr mc ms Post k n (pc + 1) L (.ref x :: st) M) : sm_G l b D cA y cc nL ret fr mc ms Post k n pc L st M := fun p e R s m args below meth c C H locs ls hH hS hL => lv_aload_n C.1 C.2.1 hd rfl (hL.at hl) (h p e R s m args below meth c C H locs ls hH hS hL)
theorem sg_aload {j x : Nat} (hd : decode cc pc = .ok (.aload j, 2)) (hl : L[j]? = some (some (.ref x))) (h : sm_G l b D cA y cc nL ret fr mc ms Post k n (pc + 2) L (.ref x :: st) M) : sm_G l b D cA y cc nL ret fr mc ms Post k n pc L st M := fun p e R s m args below meth c C H locs ls hH hS hL => lv_aload C.1 C.2.1 hd (hL.at hl) (h p e R s m args below meth c C H locs ls hH hS hL)
theorem sg_aload_nN {j : Fin 4} (hd : decode cc pc = .ok (.aload_n j, 1)) (hl : L[(j : Nat)]? = some (some .null)) (h : sm_G l b D cA y cc nL ret fr mc ms Post k n (pc + 1) L (.null :: st) M) : sm_G l b D cA y cc nL ret fr mc ms Post k n pc L st M := fun p e R s m args below meth c C H locs ls hH hS hL => lv_aload_nN C.1 C.2.1 hd rfl (hL.at hl) (h p e R s m args below meth c C H locs ls hH hS hL)
theorem sg_aloadN {j : Nat} (hd : decode cc pc = .ok (.aload j, 2)) (hl : L[j]? = some (some .null)) (h : sm_G l b D cA y cc nL ret fr mc ms Post k n (pc + 2) L (.null :: st) M) : sm_G l b D cA y cc nL ret fr mc ms Post k n pc L st M := fun p e R s m args below meth c C H locs ls hH hS hL => lv_aloadN C.1 C.2.1 hd (hL.at hl) (h p e R s m args below meth c C H locs ls hH hS hL)
theorem sg_null (hd : decode cc pc = .ok (.aconst_null, 1)) (h : sm_G l b D cA y cc nL ret fr mc ms Post k n (pc + 1) L (.null :: st) M) : sm_G l b D cA y cc nL ret fr mc ms Post k n pc L st M := fun p e R s m args below meth c C H locs ls hH hS hL => lv_null C.1 C.2.1 hd (h p e R s m args below meth c C H locs ls hH hS hL)
theorem sg_istore_n {j : Fin 4} {x : Int32} (hd : decode cc pc = .ok (.istore_n j, 1)) (hn : (j : Nat) < nL) (h : sm_G l b D cA y cc nL ret fr mc ms Post k n (pc + 1) (L.set (j : Nat) (some (.int x))) st M) : sm_G l b D cA y cc nL ret fr mc ms Post k n pc L (.int x :: st) M := fun p e R s m args below meth c C H locs ls hH hS hL => lv_istore_n C.1 C.2.1 hd rfl hL.pairs hn rfl (fun ls' hl' => h p e R s m args below meth c C H locs ls' hH hS (hL.back (v := .int x) rfl hl'))
theorem sg_istore {j : Nat} {x : Int32} (hd : decode cc pc = .ok (.istore j, 2)) (hn : j < nL) (h : sm_G l b D cA y cc nL ret fr mc ms Post k n (pc + 2) (L.set j (some (.int x))) st M) : sm_G l b D cA y cc nL ret fr mc ms Post k n pc L (.int x :: st) M := fun p e R s m args below meth c C H locs ls hH hS hL => lv_istore C.1 C.2.1 hd hL.pairs hn rfl (fun ls' hl' => h p e R s m args below meth c C H locs ls' hH hS (hL.back (v := .int x) rfl hl'))
theorem sg_astore_n {j : Fin 4} {x : Nat} (hd : decode cc pc = .ok (.astore_n j, 1)) (hn : (j : Nat) < nL) (h : sm_G l b D cA y cc nL ret fr mc ms Post k n (pc + 1) (L.set (j : Nat) (some (.ref x))) st M) : sm_G l b D cA y cc nL ret fr mc ms Post k n pc L (.ref x :: st) M := fun p e R s m args below meth c C H locs ls hH hS hL => lv_astore_n C.1 C.2.1 hd rfl hL.pairs hn rfl (fun ls' hl' => h p e R s m args below meth c C H locs ls' hH hS (hL.back (v := .ref x) rfl hl'))
theorem sg_astore {j x : Nat} (hd : decode cc pc = .ok (.astore j, 2)) (hn : j < nL) (h : sm_G l b D cA y cc nL ret fr mc ms Post k n (pc + 2) (L.set j (some (.ref x))) st M) : sm_G l b D cA y cc nL ret fr mc ms Post k n pc L (.ref x :: st) M := fun p e R s m args below meth c C H locs ls hH hS hL => lv_astore C.1 C.2.1 hd hL.pairs hn rfl (fun ls' hl' => h p e R s m args below meth c C H locs ls' hH hS (hL.back (v := .ref x) rfl hl'))
theorem sg_astore_nN {j : Fin 4} (hd : decode cc pc = .ok (.astore_n j, 1)) (hn : (j : Nat) < nL) (h : sm_G l b D cA y cc nL ret fr mc ms Post k n (pc + 1) (L.set (j : Nat) (some .null)) st M) : sm_G l b D cA y cc nL ret fr mc ms Post k n pc L (.null :: st) M := fun p e R s m args below meth c C H locs ls hH hS hL => lv_astore_nN C.1 C.2.1 hd rfl hL.pairs hn rfl (fun ls' hl' => h p e R s m args below meth c C H locs ls' hH hS (hL.back (v := .null) rfl hl'))
theorem sg_astoreN {j : Nat} (hd : decode cc pc = .ok (.astore j, 2)) (hn : j < nL) (h : sm_G l b D cA y cc nL ret fr mc ms Post k n (pc + 2) (L.set j (some .null)) st M) : sm_G l b D cA y cc nL ret fr mc ms Post k n pc L (.null :: st) M := fun p e R s m args below meth c C H locs ls hH hS hL => lv_astoreN C.1 C.2.1 hd hL.pairs hn rfl (fun ls' hl' => h p e R s m args below meth c C H locs ls' hH hS (hL.back (v := .null) rfl hl'))
theorem sg_iinc {j : Nat} {z : Int} {x : Int32} (v : Int32) (hd : decode cc pc = .ok (.iinc j z, 3)) (hl : L[j]? = some (some (.int x))) (hv : x + Int32.ofInt z = v) (hn : j < nL) (h : sm_G l b D cA y cc nL ret fr mc ms Post k n (pc + 3) (L.set j (some (.int v))) st M) : sm_G l b D cA y cc nL ret fr mc ms Post k n pc L st M := fun p e R s m args below meth c C H locs ls hH hS hL => by
  obtain ⟨q, hq⟩ := List.getElem?_of_mem (sm_pr_mem (b := b) (L := L) (q := (j, .int x)).mpr ⟨.int x, hl, rfl⟩)
  exact lv_iinc C.1 C.2.1 hd hL.pairs hq hv hn rfl (fun ls' hl' => h p e R s m args below meth c C H locs ls' hH hS (hL.back (v := .int v) rfl hl'))
theorem sg_iadd {x z : Int32} (hd : decode cc pc = .ok (.iadd, 1)) (h : sm_G l b D cA y cc nL ret fr mc ms Post k n (pc + 1) L (.int (x + z) :: st) M) : sm_G l b D cA y cc nL ret fr mc ms Post k n pc L (.int z :: .int x :: st) M := fun p e R s m args below meth c C H locs ls hH hS hL => lv_iadd C.1 C.2.1 hd (h p e R s m args below meth c C H locs ls hH hS hL)
theorem sg_isub {x z : Int32} (hd : decode cc pc = .ok (.isub, 1)) (h : sm_G l b D cA y cc nL ret fr mc ms Post k n (pc + 1) L (.int (x - z) :: st) M) : sm_G l b D cA y cc nL ret fr mc ms Post k n pc L (.int z :: .int x :: st) M := fun p e R s m args below meth c C H locs ls hH hS hL => lv_isub C.1 C.2.1 hd (h p e R s m args below meth c C H locs ls hH hS hL)
theorem sg_imul {x z : Int32} (hd : decode cc pc = .ok (.imul, 1)) (h : sm_G l b D cA y cc nL ret fr mc ms Post k n (pc + 1) L (.int (x * z) :: st) M) : sm_G l b D cA y cc nL ret fr mc ms Post k n pc L (.int z :: .int x :: st) M := fun p e R s m args below meth c C H locs ls hH hS hL => lv_imul C.1 C.2.1 hd (h p e R s m args below meth c C H locs ls hH hS hL)
theorem sg_idiv {x z : Int32} (hd : decode cc pc = .ok (.idiv, 1)) (hz : ¬ z = 0) (h : sm_G l b D cA y cc nL ret fr mc ms Post k n (pc + 1) L (.int (x / z) :: st) M) : sm_G l b D cA y cc nL ret fr mc ms Post k n pc L (.int z :: .int x :: st) M := fun p e R s m args below meth c C H locs ls hH hS hL => lv_idiv C.1 C.2.1 hd hz (h p e R s m args below meth c C H locs ls hH hS hL)
theorem sg_iand {x z : Int32} (hd : decode cc pc = .ok (.iand, 1)) (h : sm_G l b D cA y cc nL ret fr mc ms Post k n (pc + 1) L (.int (x &&& z) :: st) M) : sm_G l b D cA y cc nL ret fr mc ms Post k n pc L (.int z :: .int x :: st) M := fun p e R s m args below meth c C H locs ls hH hS hL => lv_iand C.1 C.2.1 hd (h p e R s m args below meth c C H locs ls hH hS hL)
theorem sg_ior {x z : Int32} (hd : decode cc pc = .ok (.ior, 1)) (h : sm_G l b D cA y cc nL ret fr mc ms Post k n (pc + 1) L (.int (x ||| z) :: st) M) : sm_G l b D cA y cc nL ret fr mc ms Post k n pc L (.int z :: .int x :: st) M := fun p e R s m args below meth c C H locs ls hH hS hL => lv_ior C.1 C.2.1 hd (h p e R s m args below meth c C H locs ls hH hS hL)
theorem sg_ishl {x z : Int32} (hd : decode cc pc = .ok (.ishl, 1)) (h : sm_G l b D cA y cc nL ret fr mc ms Post k n (pc + 1) L (.int (x <<< (z &&& 31)) :: st) M) : sm_G l b D cA y cc nL ret fr mc ms Post k n pc L (.int z :: .int x :: st) M := fun p e R s m args below meth c C H locs ls hH hS hL => lv_ishl C.1 C.2.1 hd (h p e R s m args below meth c C H locs ls hH hS hL)
theorem sg_ishr {x z : Int32} (hd : decode cc pc = .ok (.ishr, 1)) (h : sm_G l b D cA y cc nL ret fr mc ms Post k n (pc + 1) L (.int (x >>> (z &&& 31)) :: st) M) : sm_G l b D cA y cc nL ret fr mc ms Post k n pc L (.int z :: .int x :: st) M := fun p e R s m args below meth c C H locs ls hH hS hL => lv_ishr C.1 C.2.1 hd (h p e R s m args below meth c C H locs ls hH hS hL)
theorem sg_iushr {x z : Int32} (hd : decode cc pc = .ok (.iushr, 1)) (h : sm_G l b D cA y cc nL ret fr mc ms Post k n (pc + 1) L (.int ((x.toUInt32 >>> (z.toUInt32 &&& Int32.toUInt32 31)).toInt32) :: st) M) : sm_G l b D cA y cc nL ret fr mc ms Post k n pc L (.int z :: .int x :: st) M := fun p e R s m args below meth c C H locs ls hH hS hL => lv_iushr C.1 C.2.1 hd rfl (h p e R s m args below meth c C H locs ls hH hS hL)
theorem sg_dup {v : Value} (hd : decode cc pc = .ok (.dup, 1)) (hv : v.category = 1) (h : sm_G l b D cA y cc nL ret fr mc ms Post k n (pc + 1) L (v :: v :: st) M) : sm_G l b D cA y cc nL ret fr mc ms Post k n pc L (v :: st) M := fun p e R s m args below meth c C H locs ls hH hS hL => lv_dup C.1 C.2.1 hd ((sm_s_cat b v).trans hv) (h p e R s m args below meth c C H locs ls hH hS hL)
theorem sg_dup2 {v w : Value} (hd : decode cc pc = .ok (.dup2, 1)) (hv : v.category = 1) (hw : w.category = 1) (h : sm_G l b D cA y cc nL ret fr mc ms Post k n (pc + 1) L (v :: w :: v :: w :: st) M) : sm_G l b D cA y cc nL ret fr mc ms Post k n pc L (v :: w :: st) M := fun p e R s m args below meth c C H locs ls hH hS hL => lv_dup2_11 C.1 C.2.1 hd ((sm_s_cat b v).trans hv) ((sm_s_cat b w).trans hw) (h p e R s m args below meth c C H locs ls hH hS hL)
theorem sg_goto {off : Int} (tgt : Nat) (hd : decode cc pc = .ok (.goto off, 3)) (ht : (pc : Int) + off = (tgt : Int)) (h : sm_G l b D cA y cc nL ret fr mc ms Post k n tgt L st M) : sm_G l b D cA y cc nL ret fr mc ms Post k n pc L st M := fun p e R s m args below meth c C H locs ls hH hS hL => lv_goto C.1 C.2.1 hd ht (h p e R s m args below meth c C H locs ls hH hS hL)
theorem sg_ifnull {x : Nat} {off : Int} (hd : decode cc pc = .ok (.ifnull off, 3)) (h : sm_G l b D cA y cc nL ret fr mc ms Post k n (pc + 3) L st M) : sm_G l b D cA y cc nL ret fr mc ms Post k n pc L (.ref x :: st) M := fun p e R s m args below meth c C H locs ls hH hS hL => lv_ifnull C.1 C.2.1 hd (h p e R s m args below meth c C H locs ls hH hS hL)
theorem sg_ifnullN {off : Int} (tgt : Nat) (hd : decode cc pc = .ok (.ifnull off, 3)) (ht : (pc : Int) + off = (tgt : Int)) (h : sm_G l b D cA y cc nL ret fr mc ms Post k n tgt L st M) : sm_G l b D cA y cc nL ret fr mc ms Post k n pc L (.null :: st) M := fun p e R s m args below meth c C H locs ls hH hS hL => lv_ifnullN C.1 C.2.1 hd ht (h p e R s m args below meth c C H locs ls hH hS hL)
theorem sg_ifnonnull {x : Nat} {off : Int} (tgt : Nat) (hd : decode cc pc = .ok (.ifnonnull off, 3)) (ht : (pc : Int) + off = (tgt : Int)) (h : sm_G l b D cA y cc nL ret fr mc ms Post k n tgt L st M) : sm_G l b D cA y cc nL ret fr mc ms Post k n pc L (.ref x :: st) M := fun p e R s m args below meth c C H locs ls hH hS hL => lv_ifnonnull C.1 C.2.1 hd ht (h p e R s m args below meth c C H locs ls hH hS hL)
theorem sg_ifnonnullN {off : Int} (hd : decode cc pc = .ok (.ifnonnull off, 3)) (h : sm_G l b D cA y cc nL ret fr mc ms Post k n (pc + 3) L st M) : sm_G l b D cA y cc nL ret fr mc ms Post k n pc L (.null :: st) M := fun p e R s m args below meth c C H locs ls hH hS hL => lv_ifnonnullN C.1 C.2.1 hd (h p e R s m args below meth c C H locs ls hH hS hL)
theorem sg_if_eq {x : Int32} {off : Int} (tgt : Nat) (hd : decode cc pc = .ok (.ifCond .eq off, 3)) (ht : (pc : Int) + off = (tgt : Int)) (kt : x = 0 → sm_G l b D cA y cc nL ret fr mc ms Post k n tgt L st M) (kf : ¬ x = 0 → sm_G l b D cA y cc nL ret fr mc ms Post k n (pc + 3) L st M) : sm_G l b D cA y cc nL ret fr mc ms Post k n pc L (.int x :: st) M := fun p e R s m args below meth c C H locs ls hH hS hL => lv_if_eq C.1 C.2.1 hd ht (fun q => kt q p e R s m args below meth c C H locs ls hH hS hL) (fun q => kf q p e R s m args below meth c C H locs ls hH hS hL)
theorem sg_if_ne {x : Int32} {off : Int} (tgt : Nat) (hd : decode cc pc = .ok (.ifCond .ne off, 3)) (ht : (pc : Int) + off = (tgt : Int)) (kt : ¬ x = 0 → sm_G l b D cA y cc nL ret fr mc ms Post k n tgt L st M) (kf : x = 0 → sm_G l b D cA y cc nL ret fr mc ms Post k n (pc + 3) L st M) : sm_G l b D cA y cc nL ret fr mc ms Post k n pc L (.int x :: st) M := fun p e R s m args below meth c C H locs ls hH hS hL => lv_if_ne C.1 C.2.1 hd ht (fun q => kt q p e R s m args below meth c C H locs ls hH hS hL) (fun q => kf q p e R s m args below meth c C H locs ls hH hS hL)
theorem sg_if_lt {x : Int32} {off : Int} (tgt : Nat) (hd : decode cc pc = .ok (.ifCond .lt off, 3)) (ht : (pc : Int) + off = (tgt : Int)) (kt : x < 0 → sm_G l b D cA y cc nL ret fr mc ms Post k n tgt L st M) (kf : ¬ x < 0 → sm_G l b D cA y cc nL ret fr mc ms Post k n (pc + 3) L st M) : sm_G l b D cA y cc nL ret fr mc ms Post k n pc L (.int x :: st) M := fun p e R s m args below meth c C H locs ls hH hS hL => lv_if_lt C.1 C.2.1 hd ht (fun q => kt q p e R s m args below meth c C H locs ls hH hS hL) (fun q => kf q p e R s m args below meth c C H locs ls hH hS hL)
theorem sg_if_ge {x : Int32} {off : Int} (tgt : Nat) (hd : decode cc pc = .ok (.ifCond .ge off, 3)) (ht : (pc : Int) + off = (tgt : Int)) (kt : 0 ≤ x → sm_G l b D cA y cc nL ret fr mc ms Post k n tgt L st M) (kf : ¬ 0 ≤ x → sm_G l b D cA y cc nL ret fr mc ms Post k n (pc + 3) L st M) : sm_G l b D cA y cc nL ret fr mc ms Post k n pc L (.int x :: st) M := fun p e R s m args below meth c C H locs ls hH hS hL => lv_if_ge C.1 C.2.1 hd ht (fun q => kt q p e R s m args below meth c C H locs ls hH hS hL) (fun q => kf q p e R s m args below meth c C H locs ls hH hS hL)
theorem sg_if_gt {x : Int32} {off : Int} (tgt : Nat) (hd : decode cc pc = .ok (.ifCond .gt off, 3)) (ht : (pc : Int) + off = (tgt : Int)) (kt : 0 < x → sm_G l b D cA y cc nL ret fr mc ms Post k n tgt L st M) (kf : ¬ 0 < x → sm_G l b D cA y cc nL ret fr mc ms Post k n (pc + 3) L st M) : sm_G l b D cA y cc nL ret fr mc ms Post k n pc L (.int x :: st) M := fun p e R s m args below meth c C H locs ls hH hS hL => lv_if_gt C.1 C.2.1 hd ht (fun q => kt q p e R s m args below meth c C H locs ls hH hS hL) (fun q => kf q p e R s m args below meth c C H locs ls hH hS hL)
theorem sg_if_le {x : Int32} {off : Int} (tgt : Nat) (hd : decode cc pc = .ok (.ifCond .le off, 3)) (ht : (pc : Int) + off = (tgt : Int)) (kt : x ≤ 0 → sm_G l b D cA y cc nL ret fr mc ms Post k n tgt L st M) (kf : ¬ x ≤ 0 → sm_G l b D cA y cc nL ret fr mc ms Post k n (pc + 3) L st M) : sm_G l b D cA y cc nL ret fr mc ms Post k n pc L (.int x :: st) M := fun p e R s m args below meth c C H locs ls hH hS hL => lv_if_le C.1 C.2.1 hd ht (fun q => kt q p e R s m args below meth c C H locs ls hH hS hL) (fun q => kf q p e R s m args below meth c C H locs ls hH hS hL)
theorem sg_icmp_eq {x z : Int32} {off : Int} (tgt : Nat) (hd : decode cc pc = .ok (.if_icmp .eq off, 3)) (ht : (pc : Int) + off = (tgt : Int)) (kt : x = z → sm_G l b D cA y cc nL ret fr mc ms Post k n tgt L st M) (kf : ¬ x = z → sm_G l b D cA y cc nL ret fr mc ms Post k n (pc + 3) L st M) : sm_G l b D cA y cc nL ret fr mc ms Post k n pc L (.int z :: .int x :: st) M := fun p e R s m args below meth c C H locs ls hH hS hL => lv_icmp_eq C.1 C.2.1 hd ht (fun q => kt q p e R s m args below meth c C H locs ls hH hS hL) (fun q => kf q p e R s m args below meth c C H locs ls hH hS hL)
theorem sg_icmp_ne {x z : Int32} {off : Int} (tgt : Nat) (hd : decode cc pc = .ok (.if_icmp .ne off, 3)) (ht : (pc : Int) + off = (tgt : Int)) (kt : ¬ x = z → sm_G l b D cA y cc nL ret fr mc ms Post k n tgt L st M) (kf : x = z → sm_G l b D cA y cc nL ret fr mc ms Post k n (pc + 3) L st M) : sm_G l b D cA y cc nL ret fr mc ms Post k n pc L (.int z :: .int x :: st) M := fun p e R s m args below meth c C H locs ls hH hS hL => lv_icmp_ne C.1 C.2.1 hd ht (fun q => kt q p e R s m args below meth c C H locs ls hH hS hL) (fun q => kf q p e R s m args below meth c C H locs ls hH hS hL)
theorem sg_icmp_lt {x z : Int32} {off : Int} (tgt : Nat) (hd : decode cc pc = .ok (.if_icmp .lt off, 3)) (ht : (pc : Int) + off = (tgt : Int)) (kt : x < z → sm_G l b D cA y cc nL ret fr mc ms Post k n tgt L st M) (kf : ¬ x < z → sm_G l b D cA y cc nL ret fr mc ms Post k n (pc + 3) L st M) : sm_G l b D cA y cc nL ret fr mc ms Post k n pc L (.int z :: .int x :: st) M := fun p e R s m args below meth c C H locs ls hH hS hL => lv_icmp_lt C.1 C.2.1 hd ht (fun q => kt q p e R s m args below meth c C H locs ls hH hS hL) (fun q => kf q p e R s m args below meth c C H locs ls hH hS hL)
theorem sg_icmp_ge {x z : Int32} {off : Int} (tgt : Nat) (hd : decode cc pc = .ok (.if_icmp .ge off, 3)) (ht : (pc : Int) + off = (tgt : Int)) (kt : z ≤ x → sm_G l b D cA y cc nL ret fr mc ms Post k n tgt L st M) (kf : ¬ z ≤ x → sm_G l b D cA y cc nL ret fr mc ms Post k n (pc + 3) L st M) : sm_G l b D cA y cc nL ret fr mc ms Post k n pc L (.int z :: .int x :: st) M := fun p e R s m args below meth c C H locs ls hH hS hL => lv_icmp_ge C.1 C.2.1 hd ht (fun q => kt q p e R s m args below meth c C H locs ls hH hS hL) (fun q => kf q p e R s m args below meth c C H locs ls hH hS hL)
theorem sg_icmp_gt {x z : Int32} {off : Int} (tgt : Nat) (hd : decode cc pc = .ok (.if_icmp .gt off, 3)) (ht : (pc : Int) + off = (tgt : Int)) (kt : z < x → sm_G l b D cA y cc nL ret fr mc ms Post k n tgt L st M) (kf : ¬ z < x → sm_G l b D cA y cc nL ret fr mc ms Post k n (pc + 3) L st M) : sm_G l b D cA y cc nL ret fr mc ms Post k n pc L (.int z :: .int x :: st) M := fun p e R s m args below meth c C H locs ls hH hS hL => lv_icmp_gt C.1 C.2.1 hd ht (fun q => kt q p e R s m args below meth c C H locs ls hH hS hL) (fun q => kf q p e R s m args below meth c C H locs ls hH hS hL)
theorem sg_icmp_le {x z : Int32} {off : Int} (tgt : Nat) (hd : decode cc pc = .ok (.if_icmp .le off, 3)) (ht : (pc : Int) + off = (tgt : Int)) (kt : x ≤ z → sm_G l b D cA y cc nL ret fr mc ms Post k n tgt L st M) (kf : ¬ x ≤ z → sm_G l b D cA y cc nL ret fr mc ms Post k n (pc + 3) L st M) : sm_G l b D cA y cc nL ret fr mc ms Post k n pc L (.int z :: .int x :: st) M := fun p e R s m args below meth c C H locs ls hH hS hL => lv_icmp_le C.1 C.2.1 hd ht (fun q => kt q p e R s m args below meth c C H locs ls hH hS hL) (fun q => kf q p e R s m args below meth c C H locs ls hH hS hL)
end SMR
-- x
