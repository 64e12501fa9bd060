/-! the best stringing: class and reference find the same -/
theorem nI_lt_iff {a b : Nat} (ha : a < 2 ^ 31) (hb : b < 2 ^ 31) : nI a < nI b ↔ a < b := by
  rw [Int32.lt_iff_toInt_lt, nI_toInt ha, nI_toInt hb]
  omega
theorem nI_le_iff {a b : Nat} (ha : a < 2 ^ 31) (hb : b < 2 ^ 31) : nI a ≤ nI b ↔ a ≤ b := by
  rw [Int32.le_iff_toInt_le, nI_toInt ha, nI_toInt hb]
  omega
theorem nI_eq_iff {a b : Nat} (ha : a < 2 ^ 31) (hb : b < 2 ^ 31) : nI a = nI b ↔ a = b := by
  rw [← Int32.toInt_inj, nI_toInt ha, nI_toInt hb]
  omega
def sm_bo (lo hi : Nat) (cw cm : Nat → Nat) (J : Nat) : Prop := lo ≤ J ∧ J ≤ hi ∧ ∀ j, lo ≤ j → j ≤ hi → cw j < cw J ∨ (cw j = cw J ∧ (cm J < cm j ∨ (cm J = cm j ∧ j ≤ J)))
theorem sm_bo.uniq {lo hi : Nat} {cw cm : Nat → Nat} {J K : Nat} (h : sm_bo lo hi cw cm J) (h2 : sm_bo lo hi cw cm K) : J = K := by
  have a := h.2.2 K h2.1 h2.2.1
  have b := h2.2.2 J h.1 h.2.1
  omega
theorem sm_bo.up {lo t : Nat} {cw cm : Nat → Nat} {J : Nat} (h : sm_bo lo t cw cm J) : sm_bo lo (t + 1) cw cm (if cw J < cw (t + 1) ∨ (cw (t + 1) = cw J ∧ cm (t + 1) ≤ cm J) then t + 1 else J) := by
  obtain ⟨h1, h2, h3⟩ := h
  by_cases q : cw J < cw (t + 1) ∨ (cw (t + 1) = cw J ∧ cm (t + 1) ≤ cm J)
  · rw [if_pos q]
    refine ⟨by omega, by omega, fun j a b => ?_⟩
    by_cases e : j = t + 1
    · subst e
      omega
    · have := h3 j a (by omega)
      omega
  · rw [if_neg q]
    refine ⟨h1, by omega, fun j a b => ?_⟩
    by_cases e : j = t + 1
    · subst e
      omega
    · exact h3 j a (by omega)
theorem sm_bo.dn {lo hi : Nat} {cw cm : Nat → Nat} {J : Nat} (h : sm_bo (lo + 1) hi cw cm J) : sm_bo lo hi cw cm (if cw lo < cw J ∨ (cw lo = cw J ∧ cm J ≤ cm lo) then J else lo) := by
  obtain ⟨h1, h2, h3⟩ := h
  by_cases q : cw lo < cw J ∨ (cw lo = cw J ∧ cm J ≤ cm lo)
  · rw [if_pos q]
    refine ⟨by omega, h2, fun j a b => ?_⟩
    by_cases e : j = lo
    · subst e
      omega
    · exact h3 j (by omega) b
  · rw [if_neg q]
    refine ⟨by omega, by omega, fun j a b => ?_⟩
    by_cases e : j = lo
    · subst e
      omega
    · have := h3 j (by omega) b
      omega
theorem sm_bo1 (lo : Nat) (cw cm : Nat → Nat) : sm_bo lo lo cw cm lo := ⟨Nat.le_refl _, Nat.le_refl _, fun j a b => by
  have : j = lo := by omega
  subst this
  omega⟩
theorem sm_boE (cw cm : Nat → Nat) : ∀ t, ∃ J, sm_bo 1 (t + 1) cw cm J
  | 0 => ⟨1, sm_bo1 1 cw cm⟩
  | t + 1 => by
    obtain ⟨J, h⟩ := sm_boE cw cm t
    exact ⟨_, h.up⟩
section SM68
variable {wb : Nat → Nat → Int32} {cw cm : Nat → Nat} {fw fp : Nat → Int32} {n i m : Nat}
/-- the class's inner loop finds the best -/
theorem sm_inn_bo (hw : ∀ k, 1 ≤ k → k ≤ m → wb i k + fw (i + k) = nI (cw k) ∧ 1 + fp (i + k) = nI (cm k) ∧ 1 ≤ cw k ∧ cw k < 2 ^ 31 ∧ cm k < 2 ^ 31) (hm : m < 2 ^ 31) : ∀ t, t + 1 ≤ m → ∃ J, sm_bo 1 (t + 1) cw cm J ∧ sm_inn wb fw fp i (t + 1) = (nI (cw J), nI (cm J), nI J)
  | 0, h => by
    obtain ⟨e1, e2, e3, e4, e5⟩ := hw 1 (by omega) h
    refine ⟨1, sm_bo1 1 cw cm, ?_⟩
    unfold sm_inn sm_try sm_inn
    rw [show i + (0 + 1) = i + 1 from rfl, show wb i (0 + 1) = wb i 1 from rfl, e1, e2]
    rw [if_pos (Or.inl (by show (0 : Int32) < nI (cw 1); rw [← nI_0, nI_lt_iff (by omega) e4]; omega))]
  | t + 1, h => by
    obtain ⟨J, hb, he⟩ := sm_inn_bo hw hm t (by omega)
    obtain ⟨e1, e2, e3, e4, e5⟩ := hw (t + 1 + 1) (by omega) h
    obtain ⟨g1, g2, g3, g4, g5⟩ := hw J hb.1 (by have := hb.2.1; omega)
    refine ⟨_, hb.up, ?_⟩
    unfold sm_inn sm_try
    rw [he, e1, e2]
    by_cases q : cw J < cw (t + 1 + 1) ∨ (cw (t + 1 + 1) = cw J ∧ cm (t + 1 + 1) ≤ cm J)
    · rw [if_pos q, if_pos]
      show nI (cw J) < nI (cw (t + 1 + 1)) ∨ (nI (cw (t + 1 + 1)) = nI (cw J) ∧ nI (cm (t + 1 + 1)) ≤ nI (cm J))
      rw [nI_lt_iff g4 e4, nI_eq_iff e4 g4, nI_le_iff e5 g5]
      exact q
    · rw [if_neg q, if_neg]
      show ¬ (nI (cw J) < nI (cw (t + 1 + 1)) ∨ (nI (cw (t + 1 + 1)) = nI (cw J) ∧ nI (cm (t + 1 + 1)) ≤ nI (cm J)))
      rw [nI_lt_iff g4 e4, nI_eq_iff e4 g4, nI_le_iff e5 g5]
      exact q
/-- the reference's inner loop finds the best -/
theorem sm_minn_bo {x z : Int32} (hn : n = i + m) (hw : ∀ k, 1 ≤ k → k ≤ m → wb i k + fw (i + k) = nI (cw k) ∧ 1 + fp (i + k) = nI (cm k) ∧ 1 ≤ cw k ∧ cw k < 2 ^ 31 ∧ cm k < 2 ^ 31) : ∀ t, t + 1 ≤ m → ∃ J, sm_bo (m - t) m cw cm J ∧ sm_minn wb fw fp n i (-1, x, z) (t + 1) = (nI (cw J), nI (cm J), nI (i + J))
  | 0, h => by
    obtain ⟨e1, e2, e3, e4, e5⟩ := hw m (by omega) (by omega)
    refine ⟨m, sm_bo1 m cw cm, ?_⟩
    unfold sm_minn sm_mtry sm_minn
    rw [show n - 0 = i + m from by omega, show i + m - i = m from by omega, e1, e2]
    rw [if_neg]
    rintro (q | q)
    · have q' : nI (cw m) < -1 := q
      rw [Int32.lt_iff_toInt_lt, nI_toInt e4, ti_m1] at q'
      omega
    · have q' : nI (cw m) = -1 := q.1
      rw [← Int32.toInt_inj, nI_toInt e4, ti_m1] at q'
      omega
  | t + 1, h => by
    obtain ⟨J, hb, he⟩ := sm_minn_bo (x := x) (z := z) hn hw t (by omega)
    obtain ⟨e1, e2, e3, e4, e5⟩ := hw (m - (t + 1)) (by omega) (by omega)
    obtain ⟨g1, g2, g3, g4, g5⟩ := hw J (by have := hb.1; omega) hb.2.1
    rw [show m - t = (m - (t + 1)) + 1 from by omega] at hb
    refine ⟨_, hb.dn, ?_⟩
    unfold sm_minn sm_mtry
    rw [he, show n - (t + 1) = i + (m - (t + 1)) from by omega, show i + (m - (t + 1)) - i = m - (t + 1) from by omega, e1, e2]
    by_cases q : cw (m - (t + 1)) < cw J ∨ (cw (m - (t + 1)) = cw J ∧ cm J ≤ cm (m - (t + 1)))
    · rw [if_pos q, if_pos]
      show nI (cw (m - (t + 1))) < nI (cw J) ∨ (nI (cw (m - (t + 1))) = nI (cw J) ∧ nI (cm J) ≤ nI (cm (m - (t + 1))))
      rw [nI_lt_iff e4 g4, nI_eq_iff e4 g4, nI_le_iff g5 e5]
      exact q
    · rw [if_neg q, if_neg]
      show ¬ (nI (cw (m - (t + 1))) < nI (cw J) ∨ (nI (cw (m - (t + 1))) = nI (cw J) ∧ nI (cm J) ≤ nI (cm (m - (t + 1)))))
      rw [nI_lt_iff e4 g4, nI_eq_iff e4 g4, nI_le_iff g5 e5]
      exact q
end SM68
theorem sm_dp {wb : Nat → Nat → Int32} {n : Nat} (hn : n ≤ 60) (hw : ∀ a k, 1 ≤ k → a + k ≤ n → ∃ w, wb a k = nI w ∧ 1 ≤ w ∧ w ≤ 150 * k) : ∀ r, r ≤ n → ∃ V P F : Nat → Nat, (∀ p, n - r ≤ p → p ≤ n → V p ≤ 150 * (n - p) ∧ P p ≤ n - p) ∧ P n = 0 ∧ (∀ p, n - r ≤ p → p < n → 1 ≤ F p ∧ p + F p ≤ n ∧ P p = P (p + F p) + 1) ∧ ∀ g1 g2 g3 f1 f2 f3 : Nat → Int32, ∀ p, n - r ≤ p → p ≤ n → (sm_out wb n g1 g2 g3 r).1 p = nI (V p) ∧ (sm_out wb n g1 g2 g3 r).2.1 p = nI (P p) ∧ (sm_mout wb n f1 f2 f3 r).1 p = nI (V p) ∧ (sm_mout wb n f1 f2 f3 r).2.1 p = nI (P p) ∧ (p < n → (sm_out wb n g1 g2 g3 r).2.2 p = nI (F p) ∧ (sm_mout wb n f1 f2 f3 r).2.2 p = nI (p + F p))
  | 0, _ => by
    refine ⟨fun _ => 0, fun _ => 0, fun _ => 0, fun p a b => ⟨Nat.zero_le _, Nat.zero_le _⟩, rfl, fun p a b => by omega, fun g1 g2 g3 f1 f2 f3 p a b => ?_⟩
    have : p = n := by omega
    subst this
    unfold sm_out sm_mout upd
    refine ⟨if_pos rfl, if_pos rfl, if_pos rfl, if_pos rfl, fun q => absurd q (Nat.lt_irrefl p)⟩
  | r + 1, hr => by
    obtain ⟨V, P, F, hb, hP0, hF, hall⟩ := sm_dp hn hw r (by omega)
    obtain ⟨q, hq⟩ : ∃ q, q = n - (r + 1) := ⟨_, rfl⟩
    have hwN : ∀ k, 1 ≤ k → k ≤ r + 1 → wb q k = nI (wb q k).toInt.toNat ∧ 1 ≤ (wb q k).toInt.toNat ∧ (wb q k).toInt.toNat ≤ 150 * k := fun k a b => by
      obtain ⟨w, e, e1, e2⟩ := hw q k a (by omega)
      rw [e, nI_toInt (by omega), show ((w : Int)).toNat = w from by omega]
      exact ⟨rfl, e1, e2⟩
    obtain ⟨cw, hcw⟩ : ∃ cw : Nat → Nat, cw = fun k => (wb q k).toInt.toNat + V (q + k) := ⟨_, rfl⟩
    obtain ⟨cm, hcm⟩ : ∃ cm : Nat → Nat, cm = fun k => 1 + P (q + k) := ⟨_, rfl⟩
    have hcb : ∀ k, 1 ≤ k → k ≤ r + 1 → 1 ≤ cw k ∧ cw k ≤ 150 * (n - q) ∧ cm k ≤ n - q := fun k a b => by
      obtain ⟨-, w1, w2⟩ := hwN k a b
      obtain ⟨v1, v2⟩ := hb (q + k) (by omega) (by omega)
      rw [hcw, hcm]
      show 1 ≤ (wb q k).toInt.toNat + V (q + k) ∧ (wb q k).toInt.toNat + V (q + k) ≤ 150 * (n - q) ∧ 1 + P (q + k) ≤ n - q
      omega
    obtain ⟨J, hJ⟩ := sm_boE cw cm r
    have hJ1 := hJ.1
    have hJ2 := hJ.2.1
    obtain ⟨j1, j2, j3⟩ := hcb J hJ1 hJ2
    refine ⟨va_up V q (cw J), va_up P q (cm J), va_up F q J, fun p a b => ?_, ?_, fun p a b => ?_, fun g1 g2 g3 f1 f2 f3 p a b => ?_⟩
    · by_cases e : p = q
      · subst e
        rw [va_up_self, va_up_self]
        exact ⟨j2, j3⟩
      · rw [va_up_ne _ _ e, va_up_ne _ _ e]
        exact hb p (by omega) b
    · rw [va_up_ne _ _ (by omega)]
      exact hP0
    · by_cases e : p = q
      · subst e
        rw [va_up_self, va_up_self, va_up_ne _ _ (by omega), hcm]
        exact ⟨hJ1, by omega, by show 1 + P (p + J) = P (p + J) + 1; omega⟩
      · obtain ⟨a1, a2, a3⟩ := hF p (by omega) b
        rw [va_up_ne _ _ e, va_up_ne _ _ e, va_up_ne _ _ (by omega)]
        exact ⟨a1, a2, a3⟩
    · have hall2 := hall g1 g2 g3 f1 f2 f3
      obtain ⟨Ja, ba, ea⟩ := sm_inn_bo (wb := wb) (i := q) (m := r + 1) (cw := cw) (cm := cm) (fw := (sm_out wb n g1 g2 g3 r).1) (fp := (sm_out wb n g1 g2 g3 r).2.1) (fun k x y => by
        obtain ⟨h1, h2, h3, h4, -⟩ := hall2 (q + k) (by omega) (by omega)
        obtain ⟨k1, k2, k3⟩ := hcb k x y
        refine ⟨?_, ?_, k1, by omega, by omega⟩
        · rw [h1, (hwN k x y).1, nI_add, hcw]
        · rw [h2, show (1 : Int32) = nI 1 from by decide, nI_add, hcm]) (by omega) r (Nat.le_refl _)
      obtain ⟨Jb, bb, eb⟩ := sm_minn_bo (x := (sm_mout wb n f1 f2 f3 r).2.1 q) (z := (sm_mout wb n f1 f2 f3 r).2.2 q) (wb := wb) (n := n) (i := q) (m := r + 1) (cw := cw) (cm := cm) (fw := (sm_mout wb n f1 f2 f3 r).1) (fp := (sm_mout wb n f1 f2 f3 r).2.1) (by omega) (fun k x y => by
        obtain ⟨h1, h2, h3, h4, -⟩ := hall2 (q + k) (by omega) (by omega)
        obtain ⟨k1, k2, k3⟩ := hcb k x y
        refine ⟨?_, ?_, k1, by omega, by omega⟩
        · rw [h3, (hwN k x y).1, nI_add, hcw]
        · rw [h4, show (1 : Int32) = nI 1 from by decide, nI_add, hcm]) r (Nat.le_refl _)
      rw [show r + 1 - r = 1 from by omega] at bb
      have u1 := ba.uniq hJ
      have u2 := bb.uniq hJ
      subst u1
      subst u2
      unfold sm_out sm_mout
      rw [← hq, ea, eb]
      show upd _ q _ p = _ ∧ upd _ q _ p = _ ∧ upd _ q _ p = _ ∧ upd _ q _ p = _ ∧ (p < n → upd _ q _ p = _ ∧ upd _ q _ p = _)
      unfold upd
      by_cases e : p = q
      · subst e
        rw [va_up_self, va_up_self, va_up_self]
        exact ⟨if_pos rfl, if_pos rfl, if_pos rfl, if_pos rfl, fun _ => ⟨if_pos rfl, if_pos rfl⟩⟩
      · rw [va_up_ne _ _ e, va_up_ne _ _ e, va_up_ne _ _ e, if_neg e, if_neg e, if_neg e, if_neg e, if_neg e, if_neg e]
        exact hall2 p (by omega) b
/-- the walk of the class over the parts is the reference's -/
theorem sm_go_wk {F : Nat → Nat} {n iN : Nat} (hi : iN < 2 ^ 31) (hlt : ∀ k, k ≤ iN → sm_wk (fun p => p + F p) k < n) : ∀ r t, t ≤ iN → iN ≤ t + r → sm_go F n (nI iN) r t (sm_wk (fun p => p + F p) t) = sm_wk (fun p => p + F p) iN
  | 0, t, h1, h2 => by
    have : t = iN := by omega
    subst this
    rfl
  | r + 1, t, h1, h2 => by
    unfold sm_go
    by_cases e : t = iN
    · subst e
      rw [if_neg]
      rintro ⟨q, -⟩
      rw [nI_lt_iff hi hi] at q
      omega
    · rw [if_pos ⟨(nI_lt_iff (by omega) hi).mpr (by omega), hlt t (by omega)⟩]
      exact sm_go_wk hi hlt r (t + 1) (by omega) (by omega)
theorem sm_wk_lt {P F : Nat → Nat} {n : Nat} (hF : ∀ p, p < n → 1 ≤ F p ∧ p + F p ≤ n ∧ P p = P (p + F p) + 1) (hP0 : P n = 0) : ∀ k, k < P 0 → sm_wk (fun p => p + F p) k < n ∧ P (sm_wk (fun p => p + F p) k) + k = P 0
  | 0, h => by
    refine ⟨?_, rfl⟩
    rcases Nat.eq_zero_or_pos n with q | q
    · rw [q] at hP0
      omega
    · exact q
  | k + 1, h => by
    obtain ⟨a, b⟩ := sm_wk_lt hF hP0 k (by omega)
    obtain ⟨f1, f2, f3⟩ := hF _ a
    have e : sm_wk (fun p => p + F p) (k + 1) = sm_wk (fun p => p + F p) k + F (sm_wk (fun p => p + F p) k) := rfl
    rw [← e] at f2 f3
    refine ⟨?_, by omega⟩
    rcases Nat.lt_or_ge (sm_wk (fun p => p + F p) (k + 1)) n with q | q
    · exact q
    · have : sm_wk (fun p => p + F p) (k + 1) = n := by omega
      rw [this, hP0] at f3
      omega
