-- PURE ROWS: copying rows
def cpy1 (d : DD) (a b i n : Nat) : DD := (fun c j => if c = b ∧ i ≤ j ∧ j < n then d.1 a j else d.1 c j, d.2)
def cpy2 (d : DD) (a b i n : Nat) : DD := (d.1, fun c j => if c = b ∧ i ≤ j ∧ j < n then d.2 a j else d.2 c j)
theorem cpy1_nil (d : DD) (a b i n : Nat) (h : n ≤ i) : cpy1 d a b i n = d := by
  unfold cpy1
  refine Prod.ext ?_ rfl
  funext c j
  show (if c = b ∧ i ≤ j ∧ j < n then d.1 a j else d.1 c j) = d.1 c j
  rw [if_neg (by omega)]
theorem cpy2_nil (d : DD) (a b i n : Nat) (h : n ≤ i) : cpy2 d a b i n = d := by
  unfold cpy2
  refine Prod.ext rfl ?_
  funext c j
  show (if c = b ∧ i ≤ j ∧ j < n then d.2 a j else d.2 c j) = d.2 c j
  rw [if_neg (by omega)]
theorem cpy1_cons (d : DD) (a b i n : Nat) (hab : a ≠ b) (h : i < n) : cpy1 (u1 d b i (d.1 a i)) a b (i + 1) n = cpy1 d a b i n := by
  unfold cpy1
  refine Prod.ext ?_ rfl
  funext c j
  show (if c = b ∧ i + 1 ≤ j ∧ j < n then (u1 d b i (d.1 a i)).1 a j else (u1 d b i (d.1 a i)).1 c j) = (if c = b ∧ i ≤ j ∧ j < n then d.1 a j else d.1 c j)
  rw [u1_ne hab]
  by_cases hc : c = b
  · subst hc
    by_cases hj : j = i
    · subst hj
      rw [if_neg (by omega), if_pos ⟨rfl, Nat.le_refl _, h⟩]
      simp [u1]
    · by_cases h2 : i + 1 ≤ j ∧ j < n
      · rw [if_pos ⟨rfl, h2⟩, if_pos ⟨rfl, by omega, h2.2⟩]
      · rw [if_neg (fun z => h2 z.2), if_neg (fun z => h2 ⟨by omega, z.2.2⟩)]
        simp [u1, hj]
  · rw [if_neg (fun z => hc z.1), if_neg (fun z => hc z.1), u1_ne hc]
theorem cpy2_cons (d : DD) (a b i n : Nat) (hab : a ≠ b) (h : i < n) : cpy2 (u2 d b i (d.2 a i)) a b (i + 1) n = cpy2 d a b i n := by
  unfold cpy2
  refine Prod.ext rfl ?_
  funext c j
  show (if c = b ∧ i + 1 ≤ j ∧ j < n then (u2 d b i (d.2 a i)).2 a j else (u2 d b i (d.2 a i)).2 c j) = (if c = b ∧ i ≤ j ∧ j < n then d.2 a j else d.2 c j)
  rw [u2_ne hab]
  by_cases hc : c = b
  · subst hc
    by_cases hj : j = i
    · subst hj
      rw [if_neg (by omega), if_pos ⟨rfl, Nat.le_refl _, h⟩]
      simp [u2]
    · by_cases h2 : i + 1 ≤ j ∧ j < n
      · rw [if_pos ⟨rfl, h2⟩, if_pos ⟨rfl, by omega, h2.2⟩]
      · rw [if_neg (fun z => h2 z.2), if_neg (fun z => h2 ⟨by omega, z.2.2⟩)]
        simp [u2, hj]
  · rw [if_neg (fun z => hc z.1), if_neg (fun z => hc z.1), u2_ne hc]
theorem nI_ltN {i n : Nat} (hi : i < 3000) (hn : n < 3000) : nI i < Int32.ofNat n ↔ i < n := by
  rw [lt_ofNat hn (nI_pos (by omega)), nI_clamp (by omega)]
theorem copyRow_loop {a b : Nat} (hab : a ≠ b) : ∀ (k i n : Nat) (d : DD), i < 3000 → i + k = min (ln a) (ln b) → k < n → f_X9_copyRow_11 a b n (nI i) d = some ((), cpy1 d a b i (i + k))
  | _, _, 0, _, _, _, h => absurd h (Nat.not_lt_zero _)
  | 0, i, n + 1, d, hi, hk, _ => by
    show f_X9_copyRow_11B a b _ (nI i) d = _
    unfold f_X9_copyRow_11B
    rw [cpy1_nil d a b i (i + 0) (by omega)]
    have h1 := nI_ltN hi (ln_small a)
    have h2 := nI_ltN hi (ln_small b)
    by_cases h : i < ln a
    · rw [if_pos (h1.mpr h), if_neg (fun z => by have := h2.mp z; omega)]
    · rw [if_neg (fun z => h (h1.mp z))]
  | k + 1, i, n + 1, d, hi, hk, hn => by
    show f_X9_copyRow_11B a b _ (nI i) d = _
    unfold f_X9_copyRow_11B
    have h1 := nI_ltN hi (ln_small a)
    have h2 := nI_ltN hi (ln_small b)
    have la := ln_small a
    have ha : i < ln a := by omega
    have hb : i < ln b := by omega
    have hc : (nI i).toNatClampNeg = i := nI_clamp (by omega)
    have hz := nI_pos (n := i) (by omega)
    rw [if_pos (h1.mpr ha), if_pos (h2.mpr hb), if_pos ⟨hz, by rw [hc]; exact ha⟩, if_pos ⟨hz, by rw [hc]; exact hb⟩]
    show f_X9_copyRow_11 a b n (nI i + 1) (u1 d b (nI i).toNatClampNeg (d.1 a (nI i).toNatClampNeg)) = _
    rw [hc, nI_1, copyRow_loop hab k (i + 1) n _ (by omega) (by omega) (by omega), show i + 1 + k = i + (k + 1) by omega, cpy1_cons d a b i _ hab (by omega)]
theorem copyLongs_loop {a b : Nat} (hab : a ≠ b) : ∀ (k i n : Nat) (d : DD), i < 3000 → i + k = min (ln a) (ln b) → k < n → f_X9_copyLongs_11 a b n (nI i) d = some ((), cpy2 d a b i (i + k))
  | _, _, 0, _, _, _, h => absurd h (Nat.not_lt_zero _)
  | 0, i, n + 1, d, hi, hk, _ => by
    show f_X9_copyLongs_11B a b _ (nI i) d = _
    unfold f_X9_copyLongs_11B
    rw [cpy2_nil d a b i (i + 0) (by omega)]
    have h1 := nI_ltN hi (ln_small a)
    have h2 := nI_ltN hi (ln_small b)
    by_cases h : i < ln a
    · rw [if_pos (h1.mpr h), if_neg (fun z => by have := h2.mp z; omega)]
    · rw [if_neg (fun z => h (h1.mp z))]
  | k + 1, i, n + 1, d, hi, hk, hn => by
    show f_X9_copyLongs_11B a b _ (nI i) d = _
    unfold f_X9_copyLongs_11B
    have h1 := nI_ltN hi (ln_small a)
    have h2 := nI_ltN hi (ln_small b)
    have la := ln_small a
    have ha : i < ln a := by omega
    have hb : i < ln b := by omega
    have hc : (nI i).toNatClampNeg = i := nI_clamp (by omega)
    have hz := nI_pos (n := i) (by omega)
    rw [if_pos (h1.mpr ha), if_pos (h2.mpr hb), if_pos ⟨hz, by rw [hc]; exact ha⟩, if_pos ⟨hz, by rw [hc]; exact hb⟩]
    show f_X9_copyLongs_11 a b n (nI i + 1) (u2 d b (nI i).toNatClampNeg (d.2 a (nI i).toNatClampNeg)) = _
    rw [hc, nI_1, copyLongs_loop hab k (i + 1) n _ (by omega) (by omega) (by omega), show i + 1 + k = i + (k + 1) by omega, cpy2_cons d a b i _ hab (by omega)]
theorem e_X9_copyRow {a b : Nat} (hab : a ≠ b) (d : DD) : f_X9_copyRow a b d = some ((), cpy1 d a b 0 (min (ln a) (ln b))) := by
  have h := copyRow_loop hab (min (ln a) (ln b)) 0 FU d (by omega) (by omega) (by have := ln_small a; unfold FU; omega)
  rw [Nat.zero_add] at h
  exact h
theorem e_X9_copyLongs {a b : Nat} (hab : a ≠ b) (d : DD) : f_X9_copyLongs a b d = some ((), cpy2 d a b 0 (min (ln a) (ln b))) := by
  have h := copyLongs_loop hab (min (ln a) (ln b)) 0 FU d (by omega) (by omega) (by have := ln_small a; unfold FU; omega)
  rw [Nat.zero_add] at h
  exact h
