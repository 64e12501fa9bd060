/-! the set that serves best: class and reference choose the same -/
theorem sm_bc64 : ∀ a, a < 64 → ∀ b, b < 64 → sm_bc (nI (64 * a + b)) = nI (sm_ws (fun _ => 1) (64 * a + b) 12) := by decide +kernel
theorem sm_bc12 (s : Nat) (h : s < 4096) : sm_bc (nI s) = nI (sm_ws (fun _ => 1) s 12) := by
  have := sm_bc64 (s / 64) (by omega) (s % 64) (by omega)
  rw [show 64 * (s / 64) + s % 64 = s from by omega] at this
  exact this
theorem sm_ws_hi (w : Nat → Nat) {s n : Nat} (hs : s < 2 ^ n) : ∀ m, sm_ws w s (n + m) = sm_ws w s n
  | 0 => rfl
  | m + 1 => by
    rw [show sm_ws w s (n + (m + 1)) = sm_ws w s (n + m) + (if s.testBit (n + m) then w (n + m) else 0) from rfl, sm_ws_hi w hs m, Nat.testBit_lt_two_pow (Nat.lt_of_lt_of_le hs (Nat.pow_le_pow_right (by decide) (by omega)))]
    rfl
theorem sm_bcn {s n : Nat} (hn : n ≤ 12) (hs : s < 2 ^ n) : sm_bc (nI s) = nI (sm_ws (fun _ => 1) s n) := by
  have h12 : 2 ^ n ≤ 2 ^ 12 := Nat.pow_le_pow_right (by decide) hn
  rw [sm_bc12 s (by omega), show 12 = n + (12 - n) from by omega, sm_ws_hi _ hs]
theorem sm_ws_le (w : Nat → Nat) (s : Nat) : ∀ n, sm_ws w s n ≤ sm_pre w n
  | 0 => Nat.le_refl 0
  | n + 1 => by
    have := sm_ws_le w s n
    unfold sm_ws sm_pre
    split <;> omega
theorem sm_ws_full (w : Nat → Nat) (m : Nat) : ∀ n, n ≤ m → sm_ws w (2 ^ m - 1) n = sm_pre w n
  | 0, _ => rfl
  | n + 1, h => by
    unfold sm_ws sm_pre
    rw [sm_ws_full w m n (by omega), Nat.testBit_two_pow_sub_one, if_pos (by simp; omega)]
section SM69
variable {w : Nat → Nat} {n : Nat} {sum : Int32}
theorem sm_pick_srv (hn : n ≤ 12) (hp : sm_pre w n < 2 ^ 31) : ∀ s, s < 2 ^ n → ((sm_srv w n sum s).1 = 0 → sm_pick w n sum s = (0, 0, -1)) ∧ (¬ (sm_srv w n sum s).1 = 0 → sm_pick w n sum s = (nI (sm_srv w n sum s).1, nI (sm_ws (fun _ => 1) (sm_srv w n sum s).1 n), nI (sm_ws w (sm_srv w n sum s).1 n)) ∧ (sm_srv w n sum s).2 = nI (sm_ws w (sm_srv w n sum s).1 n))
  | 0, _ => ⟨fun _ => rfl, fun q => absurd rfl q⟩
  | s + 1, hs => by
    obtain ⟨ih0, ih1⟩ := sm_pick_srv hn hp s (by omega)
    have hW := sm_ws_le w (s + 1) n
    have hle := sm_srv_le w n sum s
    have hbc := sm_bcn hn hs
    unfold sm_srv sm_pick
    by_cases z : (sm_srv w n sum s).1 = 0
    · rw [ih0 z]
      by_cases q : nI (sm_ws w (s + 1) n) < sum
      · rw [if_pos (Or.inl q), if_neg (fun x => absurd x.1 (Int32.not_le.mpr q))]
        exact ⟨fun _ => rfl, fun x => absurd z x⟩
      · rw [if_neg (fun x => x.elim q (fun y => y.1 z)), if_pos ⟨Int32.not_lt.mp q, Or.inl rfl⟩]
        exact ⟨fun x => absurd x (Nat.succ_ne_zero s), fun _ => ⟨rfl, rfl⟩⟩
    · obtain ⟨e1, e2⟩ := ih1 z
      have hb2 := sm_bcn hn (show (sm_srv w n sum s).1 < 2 ^ n by omega)
      have hW2 := sm_ws_le w (sm_srv w n sum s).1 n
      have hS1 := sm_ws_le (fun _ => 1) (s + 1) n
      have hS2 := sm_ws_le (fun _ => 1) (sm_srv w n sum s).1 n
      rw [sm_pre1] at hS1 hS2
      rw [e1, e2, hbc, hb2]
      show ((if nI (sm_ws w (s + 1) n) < sum ∨ (¬ (sm_srv w n sum s).1 = 0 ∧ (nI (sm_ws w (sm_srv w n sum s).1 n) < nI (sm_ws w (s + 1) n) ∨ (nI (sm_ws w (s + 1) n) = nI (sm_ws w (sm_srv w n sum s).1 n) ∧ nI (sm_ws (fun _ => 1) (sm_srv w n sum s).1 n) ≤ nI (sm_ws (fun _ => 1) (s + 1) n)))) then sm_srv w n sum s else (s + 1, nI (sm_ws w (s + 1) n))).1 = 0 → (if sum ≤ nI (sm_ws w (s + 1) n) ∧ (nI (sm_ws w (sm_srv w n sum s).1 n) = -1 ∨ nI (sm_ws w (s + 1) n) < nI (sm_ws w (sm_srv w n sum s).1 n) ∨ (nI (sm_ws w (s + 1) n) = nI (sm_ws w (sm_srv w n sum s).1 n) ∧ nI (sm_ws (fun _ => 1) (s + 1) n) < nI (sm_ws (fun _ => 1) (sm_srv w n sum s).1 n))) then (nI (s + 1), nI (sm_ws (fun _ => 1) (s + 1) n), nI (sm_ws w (s + 1) n)) else (nI (sm_srv w n sum s).1, nI (sm_ws (fun _ => 1) (sm_srv w n sum s).1 n), nI (sm_ws w (sm_srv w n sum s).1 n))) = ((0, 0, -1) : Int32 × Int32 × Int32)) ∧ _
      have hm1 : ¬ nI (sm_ws w (sm_srv w n sum s).1 n) = -1 := fun q => by
        rw [← Int32.toInt_inj, nI_toInt (by omega), ti_m1] at q
        omega
      by_cases q : nI (sm_ws w (s + 1) n) < sum
      · rw [if_pos (Or.inl q), if_neg (fun x => absurd x.1 (Int32.not_le.mpr q))]
        exact ⟨fun x => absurd x z, fun _ => ⟨rfl, e2⟩⟩
      · by_cases k : nI (sm_ws w (sm_srv w n sum s).1 n) < nI (sm_ws w (s + 1) n) ∨ (nI (sm_ws w (s + 1) n) = nI (sm_ws w (sm_srv w n sum s).1 n) ∧ nI (sm_ws (fun _ => 1) (sm_srv w n sum s).1 n) ≤ nI (sm_ws (fun _ => 1) (s + 1) n))
        · rw [if_pos (Or.inr ⟨z, k⟩), if_neg]
          · exact ⟨fun x => absurd x z, fun _ => ⟨rfl, e2⟩⟩
          · rintro ⟨-, x | x⟩
            · exact hm1 x
            · rw [nI_lt_iff (by omega) (by omega), nI_eq_iff (by omega) (by omega), nI_le_iff (by omega) (by omega)] at k
              rw [nI_lt_iff (by omega) (by omega), nI_eq_iff (by omega) (by omega), nI_lt_iff (by omega) (by omega)] at x
              omega
        · rw [if_neg (fun x => x.elim q (fun y => k y.2)), if_pos]
          · exact ⟨fun x => absurd x (Nat.succ_ne_zero s), fun _ => ⟨rfl, rfl⟩⟩
          · refine ⟨Int32.not_lt.mp q, Or.inr ?_⟩
            rw [nI_lt_iff (by omega) (by omega), nI_eq_iff (by omega) (by omega), nI_le_iff (by omega) (by omega)] at k
            rw [nI_lt_iff (by omega) (by omega), nI_eq_iff (by omega) (by omega), nI_lt_iff (by omega) (by omega)]
            omega
/-- none serves just where all together don't -/
theorem sm_srv0 (hp : sm_pre w n < 2 ^ 31) (hlt : nI (sm_pre w n) < sum) : ∀ s, (sm_srv w n sum s).1 = 0
  | 0 => rfl
  | s + 1 => by
    have hW := sm_ws_le w (s + 1) n
    unfold sm_srv
    rw [if_pos (Or.inl ?_)]
    · exact sm_srv0 hp hlt s
    · rw [Int32.lt_iff_toInt_lt, nI_toInt (by omega)] at hlt ⊢
      omega
theorem sm_srv1 (hp : sm_pre w n < 2 ^ 31) (h1 : 1 ≤ sum.toInt) (hge : ¬ nI (sm_pre w n) < sum) : ¬ (sm_srv w n sum (2 ^ n - 1)).1 = 0 := by
  have hn0 : 0 < n := by
    rcases Nat.eq_zero_or_pos n with q | q
    · exfalso
      apply hge
      rw [q]
      show nI 0 < sum
      rw [Int32.lt_iff_toInt_lt, nI_toInt (by omega)]
      omega
    · exact q
  have h2 : 2 ≤ 2 ^ n := by
    have := Nat.pow_le_pow_right (n := 2) (by decide) (show 1 ≤ n from hn0)
    omega
  have hf := sm_ws_full w n n (Nat.le_refl _)
  obtain ⟨s, hs⟩ : ∃ s, 2 ^ n - 1 = s + 1 := ⟨2 ^ n - 2, by omega⟩
  rw [hs] at hf ⊢
  unfold sm_srv
  rw [hf]
  by_cases q : nI (sm_pre w n) < sum ∨ (¬ (sm_srv w n sum s).1 = 0 ∧ ((sm_srv w n sum s).2 < nI (sm_pre w n) ∨ (nI (sm_pre w n) = (sm_srv w n sum s).2 ∧ sm_bc (nI (sm_srv w n sum s).1) ≤ sm_bc (nI (s + 1)))))
  · rw [if_pos q]
    exact q.elim (fun x => absurd x hge) (fun x => x.1)
  · rw [if_neg q]
    exact Nat.succ_ne_zero s
end SM69
/-- the purse's total is the sum of what it holds -/
theorem sm_pre_sh {w v : Nat → Nat} : ∀ n, (∀ j, j < n → w j = v j) → sm_pre w n = sm_pre v n
  | 0, _ => rfl
  | n + 1, h => by
    unfold sm_pre
    rw [sm_pre_sh n (fun j hj => h j (by omega)), h n (by omega)]
theorem sm_tot_pre {ln : Nat → Nat} {ow : Nat → Int32} {o : Int32} {wv : Nat → Int32} {u : Nat → Nat} : ∀ c, (∀ i, i < c → wv i = nI (u i)) → sm_tot ln ow o wv c = nI (sm_pre (sm_filN ln ow o u c) (sm_own ln ow o c))
  | 0, _ => rfl
  | c + 1, h => by
    have ih := sm_tot_pre (ln := ln) (ow := ow) (o := o) c (fun i hi => h i (by omega))
    rw [show sm_tot ln ow o wv (c + 1) = if 0 < ln c ∧ ow c = o then sm_tot ln ow o wv c + wv c else sm_tot ln ow o wv c from rfl, show sm_filN ln ow o u (c + 1) = if 0 < ln c ∧ ow c = o then (fun j => if j = sm_own ln ow o c then u c else sm_filN ln ow o u c j) else sm_filN ln ow o u c from rfl, show sm_own ln ow o (c + 1) = sm_own ln ow o c + (if 0 < ln c ∧ ow c = o then 1 else 0) from rfl]
    by_cases q : 0 < ln c ∧ ow c = o
    · rw [if_pos q, if_pos q, if_pos q, ih, h c (by omega), nI_add]
      rw [show ∀ f : Nat → Nat, sm_pre f (sm_own ln ow o c + 1) = sm_pre f (sm_own ln ow o c) + f (sm_own ln ow o c) from fun _ => rfl]
      rw [if_pos rfl, sm_pre_sh (w := fun j => if j = sm_own ln ow o c then u c else sm_filN ln ow o u c j) (v := sm_filN ln ow o u c) (sm_own ln ow o c) (fun j hj => if_neg (by omega))]
    · rw [if_neg q, if_neg q, if_neg q]
      exact ih
theorem sm_pre_le {w : Nat → Nat} {B : Nat} : ∀ n, (∀ j, j < n → w j ≤ B) → sm_pre w n ≤ B * n
  | 0, _ => Nat.le_refl _
  | n + 1, h => by
    have a := sm_pre_le n (fun j hj => h j (by omega))
    have b := h n (by omega)
    unfold sm_pre
    rw [Nat.mul_succ]
    omega
theorem sm_filN_le {ln : Nat → Nat} {ow : Nat → Int32} {o : Int32} {u : Nat → Nat} {B : Nat} : ∀ c, (∀ i, i < c → u i ≤ B) → ∀ j, j < sm_own ln ow o c → sm_filN ln ow o u c j ≤ B
  | 0, _, j, hj => absurd hj (Nat.not_lt_zero j)
  | c + 1, h, j, hj => by
    have ih := sm_filN_le (ln := ln) (ow := ow) (o := o) c (fun i hi => h i (by omega))
    rw [show sm_own ln ow o (c + 1) = sm_own ln ow o c + (if 0 < ln c ∧ ow c = o then 1 else 0) from rfl] at hj
    unfold sm_filN
    by_cases q : 0 < ln c ∧ ow c = o
    · rw [if_pos q] at hj ⊢
      by_cases e : j = sm_own ln ow o c
      · show (if j = sm_own ln ow o c then u c else sm_filN ln ow o u c j) ≤ B
        rw [if_pos e]
        exact h c (by omega)
      · show (if j = sm_own ln ow o c then u c else sm_filN ln ow o u c j) ≤ B
        rw [if_neg e]
        exact ih j (by omega)
    · rw [if_neg q] at hj ⊢
      exact ih j (by omega)
/-- rates and worths stay small -/
theorem sm_rate_N {r1 r3 r4 : Nat → Int32} {j m : Nat} (h1 : 1 ≤ (r1 j).toInt ∧ (r1 j).toInt ≤ 100) (h3 : 1 ≤ (r3 j).toInt) (h4 : r4 j = nI m) (hm : m ≤ 3200) : ∃ ρ, sm_rate r1 r3 r4 j = nI ρ ∧ 1 ≤ ρ ∧ ρ ≤ 100 := by
  have e3 := sm_asN (show 0 ≤ (r3 j).toInt by omega)
  have e1 := sm_asN (show 0 ≤ (r1 j).toInt by omega)
  have b3 := fb_rng16 (r3 j)
  have hd : r4 j / r3 j = nI (m / (r3 j).toInt.toNat) := by
    rw [h4]
    conv => lhs; rw [e3]
    exact pk_div (by omega) (by omega) (by omega)
  have hdl : m / (r3 j).toInt.toNat ≤ 3200 := Nat.le_trans (Nat.div_le_self _ _) hm
  generalize m / (r3 j).toInt.toNat = dd at hd hdl
  have hsub : (r1 j - nI (dd)).toInt = (r1 j).toInt - (dd : Int) := by
    conv => lhs; rw [e1]
    rw [pk_sub_toInt (by omega) (by omega)]
    omega
  unfold sm_rate
  rw [if_neg (show ¬ r3 j ≤ 0 by rw [Int32.le_iff_toInt_le, ti_0]; omega), hd]
  by_cases q : 1 < r1 j - nI (dd)
  · rw [if_pos q]
    rw [Int32.lt_iff_toInt_lt, hsub, ti_1] at q
    exact ⟨(r1 j - nI (dd)).toInt.toNat, sm_asN (by omega), by omega, by omega⟩
  · rw [if_neg q]
    exact ⟨1, by decide, by omega, by omega⟩
theorem sm_wbl_N {r1 r2 r3 r4 : Nat → Int32} {j m k : Nat} (h1 : 1 ≤ (r1 j).toInt ∧ (r1 j).toInt ≤ 100) (h2 : 0 ≤ (r2 j).toInt ∧ (r2 j).toInt ≤ 500) (h3 : 1 ≤ (r3 j).toInt) (h4 : r4 j = nI m) (hm : m ≤ 3200) (hk : k ≤ 80) : ∃ w, sm_wbl r1 r2 r3 r4 j (nI k) = nI w ∧ k ≤ w ∧ w ≤ 150 * k := by
  obtain ⟨ρ, e, p1, p2⟩ := sm_rate_N h1 h3 h4 hm
  have e2 := sm_asN h2.1
  have d1 : k / 10 * 10 ≤ k := Nat.div_mul_le_self k 10
  have m1 : k * 1 ≤ k * ρ := Nat.mul_le_mul_left k p1
  have m2 : k * ρ ≤ k * 100 := Nat.mul_le_mul_left k p2
  have m3 : k / 10 * (r2 j).toInt.toNat ≤ k / 10 * 500 := Nat.mul_le_mul_left _ (by omega)
  refine ⟨k * ρ + k / 10 * (r2 j).toInt.toNat, ?_, by omega, by omega⟩
  unfold sm_wbl
  rw [e, show (10 : Int32) = nI 10 from by decide, pk_div (by omega) (by omega) (by omega), pk_mul]
  conv => lhs; rw [e2]
  rw [pk_mul, nI_add]
