/-! counts of beads stay; the tally -/
section SM70
variable {f h : Nat → Int32} {g : Int32} {fg fm : Nat → Nat → Int32} {ln : Nat → Nat}
theorem sm_cnt1_add (f : Nat → Int32) (g : Int32) (a m : Nat) : ∀ k, sm_cnt1 f g a (m + k) = sm_cnt1 f g a m + sm_cnt1 f g (a + m) k
  | 0 => rfl
  | k + 1 => by
    rw [show sm_cnt1 f g a (m + (k + 1)) = sm_cnt1 f g a (m + k) + (if f (a + (m + k)) = g then 1 else 0) from rfl, sm_cnt1_add f g a m k, show sm_cnt1 f g (a + m) (k + 1) = sm_cnt1 f g (a + m) k + (if f (a + m + k) = g then 1 else 0) from rfl, Nat.add_assoc a m k]
    omega
theorem sm_cnt1_le (f : Nat → Int32) (g : Int32) (a : Nat) : ∀ k, sm_cnt1 f g a k ≤ k
  | 0 => Nat.le_refl 0
  | k + 1 => by
    have := sm_cnt1_le f g a k
    unfold sm_cnt1
    split <;> omega
theorem sm_cnt1_const {a : Nat} {x : Int32} : ∀ k, (∀ j, j < k → f (a + j) = x) → sm_cnt1 f g a k = if x = g then k else 0
  | 0, _ => by
    split <;> rfl
  | k + 1, e => by
    have ih := sm_cnt1_const k (fun j hj => e j (by omega))
    unfold sm_cnt1
    rw [ih, e k (by omega)]
    by_cases q : x = g
    · rw [if_pos q, if_pos q, if_pos q]
    · rw [if_neg q, if_neg q, if_neg q]
theorem sm_cnt1_fr (f : Nat → Int32) (g : Int32) (a k : Nat) : sm_cnt1 f g a (k + 1) = (if f a = g then 1 else 0) + sm_cnt1 f g (a + 1) k := by
  rw [Nat.add_comm k 1, sm_cnt1_add f g a 1 k]
  unfold sm_cnt1
  unfold sm_cnt1
  rw [Nat.add_zero, Nat.zero_add]
theorem sm_cnt1_rev : ∀ (n : Nat) (f h : Nat → Int32), (∀ j, j < n → h j = f (n - 1 - j)) → sm_cnt1 h g 0 n = sm_cnt1 f g 0 n
  | 0, _, _, _ => rfl
  | n + 1, f, h, e => by
    have ih := sm_cnt1_rev n (fun t => f (t + 1)) h (fun j hj => by
      rw [e j (by omega)]
      show f (n + 1 - 1 - j) = f (n - 1 - j + 1)
      congr 1
      omega)
    rw [sm_cnt1_fr f, show sm_cnt1 h g 0 (n + 1) = sm_cnt1 h g 0 n + (if h (0 + n) = g then 1 else 0) from rfl, ih, Nat.zero_add, e n (by omega), show n + 1 - 1 - n = 0 from by omega, sm_cnt1_sh (f := fun t => f (t + 1)) (h := f) (a := 0) (b := 0 + 1) n (fun k hk => by show f (0 + k + 1) = f (0 + 1 + k); congr 1; omega)]
    omega
theorem sm_cg_sh {fg2 : Nat → Nat → Int32} {ln2 : Nat → Nat} (g : Int32) : ∀ c, (∀ s, s < c → ln s = ln2 s ∧ ∀ k, k < ln s → fg s k = fg2 s k) → sm_cg fg ln g c = sm_cg fg2 ln2 g c
  | 0, _ => rfl
  | c + 1, e => by
    obtain ⟨e1, e2⟩ := e c (by omega)
    unfold sm_cg
    rw [sm_cg_sh g c (fun s hs => e s (by omega)), ← e1, sm_cnt1_sh (f := fg c) (h := fg2 c) (a := 0) (b := 0) (ln c) (fun k hk => by rw [Nat.zero_add]; exact e2 k hk)]
/-- one string changed -/
theorem sm_cg_up {fg2 : Nat → Nat → Int32} {ln2 : Nat → Nat} (g : Int32) {s : Nat} : ∀ c, s < c → (∀ t, t < c → t ≠ s → ln t = ln2 t ∧ ∀ k, k < ln t → fg t k = fg2 t k) → sm_cg fg2 ln2 g c + sm_cnt1 (fg s) g 0 (ln s) = sm_cg fg ln g c + sm_cnt1 (fg2 s) g 0 (ln2 s)
  | 0, h, _ => absurd h (Nat.not_lt_zero s)
  | c + 1, h, e => by
    unfold sm_cg
    by_cases q : s = c
    · subst q
      rw [sm_cg_sh g s (fun t ht => e t (by omega) (by omega))]
      omega
    · have ih := sm_cg_up g c (by omega) (fun t ht h2 => e t (by omega) h2)
      obtain ⟨e1, e2⟩ := e c (by omega) (fun z => q z.symm)
      rw [← e1, sm_cnt1_sh (f := fg c) (h := fg2 c) (a := 0) (b := 0) (ln c) (fun k hk => by rw [Nat.zero_add]; exact e2 k hk)]
      omega
theorem sm_cg_le (hln : ∀ t, ln t ≤ 80 ∨ True) (g : Int32) : ∀ c, (∀ t, t < c → ln t ≤ 80) → sm_cg fg ln g c ≤ 80 * c
  | 0, _ => Nat.le_refl _
  | c + 1, h => by
    have ih := sm_cg_le hln g c (fun t ht => h t (by omega))
    have h1 := sm_cnt1_le (fg c) g 0 (ln c)
    have h2 := h c (by omega)
    unfold sm_cg
    omega
theorem sm_cnt1_all {n : Nat} : ∀ k, (∀ j, j < k → 0 ≤ (f j).toInt ∧ (f j).toInt < 5) → sm_cnt1 f (nI 0) 0 k + sm_cnt1 f (nI 1) 0 k + sm_cnt1 f (nI 2) 0 k + sm_cnt1 f (nI 3) 0 k + sm_cnt1 f (nI 4) 0 k = k
  | 0, _ => rfl
  | k + 1, e => by
    have ih := sm_cnt1_all (n := n) k (fun j hj => e j (by omega))
    have ek := e k (by omega)
    unfold sm_cnt1
    rw [Nat.zero_add]
    have hx := sm_asN ek.1
    have hne : ∀ a b : Nat, a < 5 → b < 5 → a ≠ b → ¬ nI a = nI b := fun a b h1 h2 h3 q => h3 ((nI_eq_iff (by omega) (by omega)).mp q)
    rcases (show (f k).toInt.toNat = 0 ∨ (f k).toInt.toNat = 1 ∨ (f k).toInt.toNat = 2 ∨ (f k).toInt.toNat = 3 ∨ (f k).toInt.toNat = 4 by omega) with z | z | z | z | z <;> rw [z] at hx <;> rw [hx]
    · rw [if_pos rfl, if_neg (hne 0 1 (by omega) (by omega) (by omega)), if_neg (hne 0 2 (by omega) (by omega) (by omega)), if_neg (hne 0 3 (by omega) (by omega) (by omega)), if_neg (hne 0 4 (by omega) (by omega) (by omega))]
      omega
    · rw [if_neg (hne 1 0 (by omega) (by omega) (by omega)), if_pos rfl, if_neg (hne 1 2 (by omega) (by omega) (by omega)), if_neg (hne 1 3 (by omega) (by omega) (by omega)), if_neg (hne 1 4 (by omega) (by omega) (by omega))]
      omega
    · rw [if_neg (hne 2 0 (by omega) (by omega) (by omega)), if_neg (hne 2 1 (by omega) (by omega) (by omega)), if_pos rfl, if_neg (hne 2 3 (by omega) (by omega) (by omega)), if_neg (hne 2 4 (by omega) (by omega) (by omega))]
      omega
    · rw [if_neg (hne 3 0 (by omega) (by omega) (by omega)), if_neg (hne 3 1 (by omega) (by omega) (by omega)), if_neg (hne 3 2 (by omega) (by omega) (by omega)), if_pos rfl, if_neg (hne 3 4 (by omega) (by omega) (by omega))]
      omega
    · rw [if_neg (hne 4 0 (by omega) (by omega) (by omega)), if_neg (hne 4 1 (by omega) (by omega) (by omega)), if_neg (hne 4 2 (by omega) (by omega) (by omega)), if_neg (hne 4 3 (by omega) (by omega) (by omega)), if_pos rfl]
      omega
theorem sm_cg_all : ∀ c, (∀ s, s < c → ∀ k, k < ln s → 0 ≤ (fg s k).toInt ∧ (fg s k).toInt < 5) → sm_cg fg ln (nI 0) c + sm_cg fg ln (nI 1) c + sm_cg fg ln (nI 2) c + sm_cg fg ln (nI 3) c + sm_cg fg ln (nI 4) c = sm_sln ln c
  | 0, _ => rfl
  | c + 1, e => by
    have ih := sm_cg_all c (fun s hs => e s (by omega))
    have h1 := sm_cnt1_all (n := 0) (f := fg c) (ln c) (e c (by omega))
    unfold sm_cg sm_sln
    omega
/-- the tally of the class is the reference's count -/
theorem sm_tal_bk {f0 : Nat → Int32} {g m : Nat → Int32} {gr : Int32} {N : Nat} {j : Nat} (hj : j < 10) (h0 : f0 j = nI N) : ∀ k, sm_tal g m gr f0 k j = nI (N + sm_bk1 g m gr (nI j) k)
  | 0 => h0
  | k + 1 => by
    have ih := sm_tal_bk (g := g) (m := m) (gr := gr) hj h0 k
    unfold sm_tal sm_bk1 sm_tal1
    by_cases q : g k < gr ∧ 0 ≤ (m k).toInt ∧ (m k).toInt < 10
    · rw [if_pos q]
      have hm := sm_asN q.2.1
      unfold upd
      by_cases e : j = (m k).toInt.toNat
      · rw [if_pos e, ← e, ih, if_pos ⟨by rw [e]; exact hm, Int32.not_le.mpr q.1⟩, nI_1, ← Nat.add_assoc]
      · rw [if_neg e, ih, if_neg]
        · rfl
        · rintro ⟨z, -⟩
          rw [z, nI_toInt (by omega)] at e
          omega
    · rw [if_neg q, ih, if_neg]
      · rfl
      · rintro ⟨z, z2⟩
        refine q ⟨Int32.not_le.mp z2, ?_, ?_⟩
        · rw [z, nI_toInt (by omega)]
          omega
        · rw [z, nI_toInt (by omega)]
          omega
theorem sm_tall_bk {g0 : Nat → Int32} {gr : Int32} (h0 : ∀ j, j < 10 → g0 j = 0) {j : Nat} (hj : j < 10) : ∀ c, sm_tall fg fm ln gr g0 c j = nI (sm_bk fg fm ln gr (nI j) c)
  | 0 => h0 j hj
  | c + 1 => by
    unfold sm_tall sm_bk
    exact sm_tal_bk hj (sm_tall_bk h0 hj c) (ln c)
theorem sm_blm_sh {f h : Nat → Int32} : ∀ n, (∀ j, j < n → f j = h j) → sm_blm f n = sm_blm h n
  | 0, _ => rfl
  | n + 1, e => by
    unfold sm_blm
    rw [sm_blm_sh n (fun j hj => e j (by omega)), e n (by omega)]
end SM70
