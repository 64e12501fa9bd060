/-! heaps that differ in named cells alone -/
def sm_ex (M M1 : sm_M) (zs : List Nat) : Prop := M1.length = M.length ∧ ∀ z, z ∉ zs → M1[z]? = M[z]?
theorem sm_ex.rf {M : sm_M} {zs : List Nat} : sm_ex M M zs := ⟨rfl, fun _ _ => rfl⟩
theorem sm_ex.tr {M M1 M2 : sm_M} {zs : List Nat} (h1 : sm_ex M M1 zs) (h2 : sm_ex M1 M2 zs) : sm_ex M M2 zs := ⟨h2.1.trans h1.1, fun z hz => (h2.2 z hz).trans (h1.2 z hz)⟩
theorem sm_ex.mono {M M1 : sm_M} {zs ys : List Nat} (h : sm_ex M M1 zs) (hs : ∀ z ∈ zs, z ∈ ys) : sm_ex M M1 ys := ⟨h.1, fun z hz => h.2 z (fun q => hz (hs z q))⟩
theorem sm_ex.set {M : sm_M} {q : Nat} {c : Option sm_C} : sm_ex M (M.set q c) [q] := ⟨List.length_set, fun z hz => List.getElem?_set_ne (fun e => hz (by rw [e]; exact List.mem_cons_self))⟩
theorem sm_gs {M : sm_M} {q : Nat} {x c : Option sm_C} (h : M[q]? = some x) : (M.set q c)[q]? = some c := List.getElem?_set_self (List.getElem?_eq_some_iff.mp h).1
theorem sm_ne {M : sm_M} {q z : Nat} {x c : sm_C} (h : M[q]? = some (some x)) (h2 : M[z]? = some (some c)) (hc : x ≠ c) : q ≠ z := fun e => by
  subst e
  rw [h] at h2
  exact hc (Option.some.inj (Option.some.inj h2))
theorem sm_neoi {M : sm_M} {q z c n : Nat} {fs : List Value} {f : Nat → Int32} (h : M[q]? = some (sm_o c fs)) (h2 : M[z]? = some (sm_i n f)) : q ≠ z := fun e => by
  subst e
  rw [h] at h2
  cases h2
theorem sm_neor {M : sm_M} {q z c n t : Nat} {fs : List Value} {f : Nat → Option Nat} (h : M[q]? = some (sm_o c fs)) (h2 : M[z]? = some (sm_r t n f)) : q ≠ z := fun e => by
  subst e
  rw [h] at h2
  cases h2
theorem sm_neir {M : sm_M} {q z m n t : Nat} {g : Nat → Int32} {f : Nat → Option Nat} (h : M[q]? = some (sm_i m g)) (h2 : M[z]? = some (sm_r t n f)) : q ≠ z := fun e => by
  subst e
  rw [h] at h2
  cases h2
theorem sm_b0 {P : Prop} [Decidable P] : ((if P then (1 : Int32) else 0) = 0) ↔ ¬ P := by
  by_cases h : P
  · rw [if_pos h]; exact ⟨fun e => absurd e (by decide), fun q => absurd h q⟩
  · rw [if_neg h]; exact ⟨fun _ => h, fun _ => rfl⟩
theorem sm_nz {P : Prop} [Decidable P] : narrow .boolean (.int (if P then (1 : Int32) else 0)) = .int (if P then (1 : Int32) else 0) := by
  by_cases h : P
  · rw [if_pos h]; decide
  · rw [if_neg h]; decide
theorem fb_rng16 (x : Int32) : -2147483648 ≤ x.toInt ∧ x.toInt < 2147483648 := ⟨by have := Int32.le_toInt x; omega, by have := Int32.toInt_lt x; omega⟩
theorem sm_asN {i : Int32} (h : 0 ≤ i.toInt) : i = nI i.toInt.toNat := by
  have h1 := fb_rng16 i
  refine Int32.toInt_inj.mp ?_
  rw [nI_toInt (by omega)]
  omega
section SMX
variable {l : Launch} {b : Nat} {D : va_G} {cA : Nat → ClassId} {y : MethodName} {cc : ByteArray} {nL : Nat} {ret : Option FieldType} {fr mc ms : Nat} {Post : Option Value → sm_M → Prop} {k n pc : Nat} {L : List (Option Value)} {st : List Value} {M : sm_M}
theorem sg_bf_eq {P : Prop} [Decidable P] {off : Int} (tgt : Nat) (hd : decode cc pc = .ok (.ifCond .eq off, 3)) (ht : (pc : Int) + off = (tgt : Int)) (kt : ¬ P → sm_G l b D cA y cc nL ret fr mc ms Post k n tgt L st M) (kf : P → sm_G l b D cA y cc nL ret fr mc ms Post k n (pc + 3) L st M) : sm_G l b D cA y cc nL ret fr mc ms Post k n pc L (.int (if P then 1 else 0) :: st) M := sg_if_eq tgt hd ht (fun c => kt (sm_b0.mp c)) (fun c => kf (Decidable.not_not.mp (fun q => c (sm_b0.mpr q))))
theorem sg_bf_ne {P : Prop} [Decidable P] {off : Int} (tgt : Nat) (hd : decode cc pc = .ok (.ifCond .ne off, 3)) (ht : (pc : Int) + off = (tgt : Int)) (kt : P → sm_G l b D cA y cc nL ret fr mc ms Post k n tgt L st M) (kf : ¬ P → sm_G l b D cA y cc nL ret fr mc ms Post k n (pc + 3) L st M) : sm_G l b D cA y cc nL ret fr mc ms Post k n pc L (.int (if P then 1 else 0) :: st) M := sg_if_ne tgt hd ht (fun c => kt (Decidable.not_not.mp (fun q => c (sm_b0.mpr q)))) (fun c => kf (sm_b0.mp c))
theorem sg_astx {q N : Nat} {f : Nat → Int32} {i x : Int32} (j : Nat) (hd : decode cc pc = .ok (.iastore, 1)) (hM : M[q]? = some (sm_i N f)) (hi : i = nI j) (hj : j < N) (hN : N < 2 ^ 31) (h : ∀ M1 : sm_M, sm_ex M M1 [q] → M1[q]? = some (sm_i N (upd f j x)) → sm_G l b D cA y cc nL ret fr mc ms Post k n (pc + 1) L st M1) : sm_G l b D cA y cc nL ret fr mc ms Post k n pc L (.int x :: .int i :: .ref q :: st) M := sg_ast j hd hM hi hj hN (h _ sm_ex.set (sm_gs hM))
theorem sg_putx {idx ci kk q N : Nat} {C : String} {T : u_T} {fs : List Value} {x : Int32} (hd : decode cc pc = .ok (.putfield idx, 3)) (hf : sm_FL y.cls idx ci kk C T N) (ht : sm_FT kk .int false T N) (hM : M[q]? = some (sm_o ci fs)) (hl : kk < fs.length) (h : ∀ M1 : sm_M, sm_ex M M1 [q] → M1[q]? = some (sm_o ci (fs.set kk (.int x))) → sm_G l b D cA y cc nL ret fr mc ms Post k n (pc + 3) L st M1) : sm_G l b D cA y cc nL ret fr mc ms Post k n pc L (.int x :: .ref q :: st) M := sg_put hd hf ht hM hl (h _ sm_ex.set (sm_gs hM))
/-- the strand at q, its rows of grades and makers at g, m -/
def sm_st (M : sm_M) (q g m n : Nat) (fg fm : Nat → Int32) (ow nm : Int32) : Prop := M[q]? = some (sm_o 4 [.ref g, .ref m, .int (nI n), .int ow, .int nm]) ∧ M[g]? = some (sm_i 80 fg) ∧ M[m]? = some (sm_i 80 fm)
theorem sm_st.ex {M1 : sm_M} {q g m c : Nat} {fg fm : Nat → Int32} {ow nm : Int32} {zs : List Nat} (h : sm_st M q g m c fg fm ow nm) (hx : sm_ex M M1 zs) (h1 : q ∉ zs) (h2 : g ∉ zs) (h3 : m ∉ zs) : sm_st M1 q g m c fg fm ow nm := ⟨(hx.2 q h1).trans h.1, (hx.2 g h2).trans h.2.1, (hx.2 m h3).trans h.2.2⟩
end SMX
