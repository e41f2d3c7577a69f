-- PURE ROWS: the class's own helpers as equations
theorem ln_small (a : Nat) : ln a < 3000 := by
  rcases Nat.lt_or_ge a NLb with h | h
  · exact (by decide +kernel : ∀ a, a < NLb → ln a < 3000) a h
  · unfold ln
    rw [List.getD_eq_getElem?_getD, List.getElem?_eq_none (by rw [sh_len]; exact h)]
    decide
theorem clampNN (i : Int32) : i.toNatClampNeg = i.toInt.toNat := rfl
theorem z32 : (0 : Int32).toInt = 0 := by decide
theorem lt_ofNat {i : Int32} {n : Nat} (hn : n < 3000) (h0 : ¬ i < 0) : i < Int32.ofNat n ↔ i.toNatClampNeg < n := by
  rw [Int32.lt_iff_toInt_lt, z32] at h0
  rw [Int32.lt_iff_toInt_lt, Int32.toInt_ofNat_of_lt (by omega), clampNN]
  omega
def rd1 (d : DD) (a : Nat) (i : Int32) : Int32 := if ixb i (ln a) then d.1 a i.toNatClampNeg else 0
def rd2 (d : DD) (a : Nat) (i : Int32) : Int64 := if ixb i (ln a) then d.2 a i.toNatClampNeg else 0
def wr1 (d : DD) (a : Nat) (i x : Int32) : DD := if ixb i (ln a) then u1 d a i.toNatClampNeg x else d
def wr2 (d : DD) (a : Nat) (i : Int32) (x : Int64) : DD := if ixb i (ln a) then u2 d a i.toNatClampNeg x else d
theorem e_X9_at (a : Nat) (i : Int32) (d : DD) : f_X9_at a i d = some (rd1 d a i, d) := by
  unfold f_X9_at rd1
  by_cases h0 : i < 0
  · rw [if_pos h0, if_neg (fun h => h.1 h0)]
  · rw [if_neg h0]
    by_cases h1 : i.toNatClampNeg < ln a
    · rw [if_pos ((lt_ofNat (ln_small a) h0).mpr h1), if_pos ⟨h0, h1⟩, if_pos ⟨h0, h1⟩]
    · rw [if_neg (fun z => h1 ((lt_ofNat (ln_small a) h0).mp z)), if_neg (fun h => h1 h.2)]
theorem e_X9_longAt (a : Nat) (i : Int32) (d : DD) : f_X9_longAt a i d = some (rd2 d a i, d) := by
  unfold f_X9_longAt rd2
  by_cases h0 : i < 0
  · rw [if_pos h0, if_neg (fun h => h.1 h0)]
  · rw [if_neg h0]
    by_cases h1 : i.toNatClampNeg < ln a
    · rw [if_pos ((lt_ofNat (ln_small a) h0).mpr h1), if_pos ⟨h0, h1⟩, if_pos ⟨h0, h1⟩]
    · rw [if_neg (fun z => h1 ((lt_ofNat (ln_small a) h0).mp z)), if_neg (fun h => h1 h.2)]
theorem e_X9_put (a : Nat) (i x : Int32) (d : DD) : f_X9_put a i x d = some ((), wr1 d a i x) := by
  unfold f_X9_put wr1
  by_cases h0 : i < 0
  · rw [if_pos h0, if_neg (fun h => h.1 h0)]
  · rw [if_neg h0]
    by_cases h1 : i.toNatClampNeg < ln a
    · rw [if_pos ((lt_ofNat (ln_small a) h0).mpr h1), if_pos ⟨h0, h1⟩, if_pos ⟨h0, h1⟩]
      rfl
    · rw [if_neg (fun z => h1 ((lt_ofNat (ln_small a) h0).mp z)), if_neg (fun h => h1 h.2)]
theorem e_X9_putLong (a : Nat) (i : Int32) (x : Int64) (d : DD) : f_X9_putLong a i x d = some ((), wr2 d a i x) := by
  unfold f_X9_putLong wr2
  by_cases h0 : i < 0
  · rw [if_pos h0, if_neg (fun h => h.1 h0)]
  · rw [if_neg h0]
    by_cases h1 : i.toNatClampNeg < ln a
    · rw [if_pos ((lt_ofNat (ln_small a) h0).mpr h1), if_pos ⟨h0, h1⟩, if_pos ⟨h0, h1⟩]
      rfl
    · rw [if_neg (fun z => h1 ((lt_ofNat (ln_small a) h0).mp z)), if_neg (fun h => h1 h.2)]
