-- PURE ROWS: a house copied
theorem cpy1_at (d : DD) (a b i n c j : Nat) : (cpy1 d a b i n).1 c j = if c = b ∧ i ≤ j ∧ j < n then d.1 a j else d.1 c j := id rfl
theorem cpy1_2 (d : DD) (a b i n : Nat) : (cpy1 d a b i n).2 = d.2 := id rfl
theorem cpy2_at (d : DD) (a b i n c j : Nat) : (cpy2 d a b i n).2 c j = if c = b ∧ i ≤ j ∧ j < n then d.2 a j else d.2 c j := id rfl
theorem cpy2_1 (d : DD) (a b i n : Nat) : (cpy2 d a b i n).1 = d.1 := id rfl
theorem cf_16_2 {h nm} {d : DD} (V : VH h) (H : HC 2 d h nm) : OW (f_X1_copyFrom 16 2 d) (fun _ d' => FR [16, 17, 18, 19, 20, 21, 22, 23, 24, 25, 26, 27, 28, 29] d d' ∧ HC 16 d' h nm) := by
  have v0 := V.1
  have v1 := V.2.1
  have v2 := V.2.2.2.2.2.2.2.1
  unfold HC at H
  simp only [rf_16_2, rf_16_3, rf_16_4, rf_16_5, rf_16_6, rf_16_7, rf_16_8, rf_16_9, rf_16_10, rf_16_11, rf_26_1, rf_26_2, rf_26_3, rf_2_2, rf_2_3, rf_2_4, rf_2_5, rf_2_6, rf_2_7, rf_2_8, rf_2_9, rf_2_10, rf_2_11, rf_12_1, rf_12_2, rf_12_3] at H
  obtain ⟨a0, a1, a2, a3, a4, a5, a6, a7, a8, a9, a10, a11, a12⟩ := H
  unfold f_X1_copyFrom f_X5_copyFrom
  simp (disch := decide) only [rf_16_2, rf_16_3, rf_16_4, rf_16_5, rf_16_6, rf_16_7, rf_16_8, rf_16_9, rf_16_10, rf_16_11, rf_26_1, rf_26_2, rf_26_3, rf_2_2, rf_2_3, rf_2_4, rf_2_5, rf_2_6, rf_2_7, rf_2_8, rf_2_9, rf_2_10, rf_2_11, rf_12_1, rf_12_2, rf_12_3, bd_e, ob_e, e_X9_copyRow, e_X9_copyLongs, ln_2, ln_3, ln_4, ln_5, ln_6, ln_7, ln_8, ln_9, ln_10, ln_11, ln_12, ln_13, ln_14, ln_15, ln_16, ln_17, ln_18, ln_19, ln_20, ln_21, ln_22, ln_23, ln_24, ln_25, ln_26, ln_27, ln_28, ln_29]
  refine ow_ret ⟨?_, ?_⟩
  · intro a ha
    simp only [List.mem_cons, List.not_mem_nil, or_false, not_or] at ha
    refine ⟨?_, ?_⟩
    · funext j
      simp only [cpy1_at, cpy1_2, cpy2_at, cpy2_1, u1_at, u1_2, ha, false_and, if_false]
    · funext j
      simp only [cpy1_at, cpy1_2, cpy2_at, cpy2_1, u1_at, u1_2, ha, false_and, if_false]
  · unfold HC
    simp only [rf_16_2, rf_16_3, rf_16_4, rf_16_5, rf_16_6, rf_16_7, rf_16_8, rf_16_9, rf_16_10, rf_16_11, rf_26_1, rf_26_2, rf_26_3, rf_2_2, rf_2_3, rf_2_4, rf_2_5, rf_2_6, rf_2_7, rf_2_8, rf_2_9, rf_2_10, rf_2_11, rf_12_1, rf_12_2, rf_12_3]
    refine ⟨?_, ?_, fun k hk => ?_, fun k hk => ?_, fun k hk => ?_, fun k hk => ?_, fun k hk => ?_, fun k hk => ?_, fun k hk => ?_, fun k hk => ?_, fun k hk => ?_, ?_, fun k hk => ⟨?_, ?_, ?_⟩⟩
    · simp (disch := omega) only [cpy1_at, cpy1_2, cpy2_at, cpy2_1, u1_at, u1_2, ix_T, lt_T, lt_F, eq_T, eq_F, false_and, true_and, and_true, and_self, ↓reduceIte, Nat.zero_le]
      exact a0
    · simp (disch := omega) only [cpy1_at, cpy1_2, cpy2_at, cpy2_1, u1_at, u1_2, ix_T, lt_T, lt_F, eq_T, eq_F, false_and, true_and, and_true, and_self, ↓reduceIte, Nat.zero_le]
      exact a1
    · simp (disch := omega) only [cpy1_at, cpy1_2, cpy2_at, cpy2_1, u1_at, u1_2, ix_T, lt_T, lt_F, eq_T, eq_F, false_and, true_and, and_true, and_self, ↓reduceIte, Nat.zero_le, Nat.min_self]
      exact a2 k hk
    · simp (disch := omega) only [cpy1_at, cpy1_2, cpy2_at, cpy2_1, u1_at, u1_2, ix_T, lt_T, lt_F, eq_T, eq_F, false_and, true_and, and_true, and_self, ↓reduceIte, Nat.zero_le, Nat.min_self]
      exact a3 k hk
    · simp (disch := omega) only [cpy1_at, cpy1_2, cpy2_at, cpy2_1, u1_at, u1_2, ix_T, lt_T, lt_F, eq_T, eq_F, false_and, true_and, and_true, and_self, ↓reduceIte, Nat.zero_le, Nat.min_self]
      exact a4 k hk
    · simp (disch := omega) only [cpy1_at, cpy1_2, cpy2_at, cpy2_1, u1_at, u1_2, ix_T, lt_T, lt_F, eq_T, eq_F, false_and, true_and, and_true, and_self, ↓reduceIte, Nat.zero_le, Nat.min_self]
      exact a5 k hk
    · simp (disch := omega) only [cpy1_at, cpy1_2, cpy2_at, cpy2_1, u1_at, u1_2, ix_T, lt_T, lt_F, eq_T, eq_F, false_and, true_and, and_true, and_self, ↓reduceIte, Nat.zero_le, Nat.min_self]
      exact a6 k hk
    · simp (disch := omega) only [cpy1_at, cpy1_2, cpy2_at, cpy2_1, u1_at, u1_2, ix_T, lt_T, lt_F, eq_T, eq_F, false_and, true_and, and_true, and_self, ↓reduceIte, Nat.zero_le, Nat.min_self]
      exact a7 k hk
    · simp (disch := omega) only [cpy1_at, cpy1_2, cpy2_at, cpy2_1, u1_at, u1_2, ix_T, lt_T, lt_F, eq_T, eq_F, false_and, true_and, and_true, and_self, ↓reduceIte, Nat.zero_le, Nat.min_self]
      exact a8 k hk
    · simp (disch := omega) only [cpy1_at, cpy1_2, cpy2_at, cpy2_1, u1_at, u1_2, ix_T, lt_T, lt_F, eq_T, eq_F, false_and, true_and, and_true, and_self, ↓reduceIte, Nat.zero_le, Nat.min_self]
      exact a9 k hk
    · simp (disch := omega) only [cpy1_at, cpy1_2, cpy2_at, cpy2_1, u1_at, u1_2, ix_T, lt_T, lt_F, eq_T, eq_F, false_and, true_and, and_true, and_self, ↓reduceIte, Nat.zero_le, Nat.min_self]
      exact a10 k hk
    · simp (disch := omega) only [cpy1_at, cpy1_2, cpy2_at, cpy2_1, u1_at, u1_2, ix_T, lt_T, lt_F, eq_T, eq_F, false_and, true_and, and_true, and_self, ↓reduceIte, Nat.zero_le, Nat.min_self]
      exact a11
    · simp (disch := omega) only [cpy1_at, cpy1_2, cpy2_at, cpy2_1, u1_at, u1_2, ix_T, lt_T, lt_F, eq_T, eq_F, false_and, true_and, and_true, and_self, ↓reduceIte, Nat.zero_le, Nat.min_self]
      exact (a12 k hk).1
    · simp (disch := omega) only [cpy1_at, cpy1_2, cpy2_at, cpy2_1, u1_at, u1_2, ix_T, lt_T, lt_F, eq_T, eq_F, false_and, true_and, and_true, and_self, ↓reduceIte, Nat.zero_le, Nat.min_self]
      exact (a12 k hk).2.1
    · simp (disch := omega) only [cpy1_at, cpy1_2, cpy2_at, cpy2_1, u1_at, u1_2, ix_T, lt_T, lt_F, eq_T, eq_F, false_and, true_and, and_true, and_self, ↓reduceIte, Nat.zero_le, Nat.min_self]
      exact (a12 k hk).2.2
theorem cf_30_2 {h nm} {d : DD} (V : VH h) (H : HC 2 d h nm) : OW (f_X1_copyFrom 30 2 d) (fun _ d' => FR [30, 31, 32, 33, 34, 35, 36, 37, 38, 39, 40, 41, 42, 43] d d' ∧ HC 30 d' h nm) := by
  have v0 := V.1
  have v1 := V.2.1
  have v2 := V.2.2.2.2.2.2.2.1
  unfold HC at H
  simp only [rf_30_2, rf_30_3, rf_30_4, rf_30_5, rf_30_6, rf_30_7, rf_30_8, rf_30_9, rf_30_10, rf_30_11, rf_40_1, rf_40_2, rf_40_3, rf_2_2, rf_2_3, rf_2_4, rf_2_5, rf_2_6, rf_2_7, rf_2_8, rf_2_9, rf_2_10, rf_2_11, rf_12_1, rf_12_2, rf_12_3] at H
  obtain ⟨a0, a1, a2, a3, a4, a5, a6, a7, a8, a9, a10, a11, a12⟩ := H
  unfold f_X1_copyFrom f_X5_copyFrom
  simp (disch := decide) only [rf_30_2, rf_30_3, rf_30_4, rf_30_5, rf_30_6, rf_30_7, rf_30_8, rf_30_9, rf_30_10, rf_30_11, rf_40_1, rf_40_2, rf_40_3, rf_2_2, rf_2_3, rf_2_4, rf_2_5, rf_2_6, rf_2_7, rf_2_8, rf_2_9, rf_2_10, rf_2_11, rf_12_1, rf_12_2, rf_12_3, bd_e, ob_e, e_X9_copyRow, e_X9_copyLongs, ln_2, ln_3, ln_4, ln_5, ln_6, ln_7, ln_8, ln_9, ln_10, ln_11, ln_12, ln_13, ln_14, ln_15, ln_30, ln_31, ln_32, ln_33, ln_34, ln_35, ln_36, ln_37, ln_38, ln_39, ln_40, ln_41, ln_42, ln_43]
  refine ow_ret ⟨?_, ?_⟩
  · intro a ha
    simp only [List.mem_cons, List.not_mem_nil, or_false, not_or] at ha
    refine ⟨?_, ?_⟩
    · funext j
      simp only [cpy1_at, cpy1_2, cpy2_at, cpy2_1, u1_at, u1_2, ha, false_and, if_false]
    · funext j
      simp only [cpy1_at, cpy1_2, cpy2_at, cpy2_1, u1_at, u1_2, ha, false_and, if_false]
  · unfold HC
    simp only [rf_30_2, rf_30_3, rf_30_4, rf_30_5, rf_30_6, rf_30_7, rf_30_8, rf_30_9, rf_30_10, rf_30_11, rf_40_1, rf_40_2, rf_40_3, rf_2_2, rf_2_3, rf_2_4, rf_2_5, rf_2_6, rf_2_7, rf_2_8, rf_2_9, rf_2_10, rf_2_11, rf_12_1, rf_12_2, rf_12_3]
    refine ⟨?_, ?_, fun k hk => ?_, fun k hk => ?_, fun k hk => ?_, fun k hk => ?_, fun k hk => ?_, fun k hk => ?_, fun k hk => ?_, fun k hk => ?_, fun k hk => ?_, ?_, fun k hk => ⟨?_, ?_, ?_⟩⟩
    · simp (disch := omega) only [cpy1_at, cpy1_2, cpy2_at, cpy2_1, u1_at, u1_2, ix_T, lt_T, lt_F, eq_T, eq_F, false_and, true_and, and_true, and_self, ↓reduceIte, Nat.zero_le]
      exact a0
    · simp (disch := omega) only [cpy1_at, cpy1_2, cpy2_at, cpy2_1, u1_at, u1_2, ix_T, lt_T, lt_F, eq_T, eq_F, false_and, true_and, and_true, and_self, ↓reduceIte, Nat.zero_le]
      exact a1
    · simp (disch := omega) only [cpy1_at, cpy1_2, cpy2_at, cpy2_1, u1_at, u1_2, ix_T, lt_T, lt_F, eq_T, eq_F, false_and, true_and, and_true, and_self, ↓reduceIte, Nat.zero_le, Nat.min_self]
      exact a2 k hk
    · simp (disch := omega) only [cpy1_at, cpy1_2, cpy2_at, cpy2_1, u1_at, u1_2, ix_T, lt_T, lt_F, eq_T, eq_F, false_and, true_and, and_true, and_self, ↓reduceIte, Nat.zero_le, Nat.min_self]
      exact a3 k hk
    · simp (disch := omega) only [cpy1_at, cpy1_2, cpy2_at, cpy2_1, u1_at, u1_2, ix_T, lt_T, lt_F, eq_T, eq_F, false_and, true_and, and_true, and_self, ↓reduceIte, Nat.zero_le, Nat.min_self]
      exact a4 k hk
    · simp (disch := omega) only [cpy1_at, cpy1_2, cpy2_at, cpy2_1, u1_at, u1_2, ix_T, lt_T, lt_F, eq_T, eq_F, false_and, true_and, and_true, and_self, ↓reduceIte, Nat.zero_le, Nat.min_self]
      exact a5 k hk
    · simp (disch := omega) only [cpy1_at, cpy1_2, cpy2_at, cpy2_1, u1_at, u1_2, ix_T, lt_T, lt_F, eq_T, eq_F, false_and, true_and, and_true, and_self, ↓reduceIte, Nat.zero_le, Nat.min_self]
      exact a6 k hk
    · simp (disch := omega) only [cpy1_at, cpy1_2, cpy2_at, cpy2_1, u1_at, u1_2, ix_T, lt_T, lt_F, eq_T, eq_F, false_and, true_and, and_true, and_self, ↓reduceIte, Nat.zero_le, Nat.min_self]
      exact a7 k hk
    · simp (disch := omega) only [cpy1_at, cpy1_2, cpy2_at, cpy2_1, u1_at, u1_2, ix_T, lt_T, lt_F, eq_T, eq_F, false_and, true_and, and_true, and_self, ↓reduceIte, Nat.zero_le, Nat.min_self]
      exact a8 k hk
    · simp (disch := omega) only [cpy1_at, cpy1_2, cpy2_at, cpy2_1, u1_at, u1_2, ix_T, lt_T, lt_F, eq_T, eq_F, false_and, true_and, and_true, and_self, ↓reduceIte, Nat.zero_le, Nat.min_self]
      exact a9 k hk
    · simp (disch := omega) only [cpy1_at, cpy1_2, cpy2_at, cpy2_1, u1_at, u1_2, ix_T, lt_T, lt_F, eq_T, eq_F, false_and, true_and, and_true, and_self, ↓reduceIte, Nat.zero_le, Nat.min_self]
      exact a10 k hk
    · simp (disch := omega) only [cpy1_at, cpy1_2, cpy2_at, cpy2_1, u1_at, u1_2, ix_T, lt_T, lt_F, eq_T, eq_F, false_and, true_and, and_true, and_self, ↓reduceIte, Nat.zero_le, Nat.min_self]
      exact a11
    · simp (disch := omega) only [cpy1_at, cpy1_2, cpy2_at, cpy2_1, u1_at, u1_2, ix_T, lt_T, lt_F, eq_T, eq_F, false_and, true_and, and_true, and_self, ↓reduceIte, Nat.zero_le, Nat.min_self]
      exact (a12 k hk).1
    · simp (disch := omega) only [cpy1_at, cpy1_2, cpy2_at, cpy2_1, u1_at, u1_2, ix_T, lt_T, lt_F, eq_T, eq_F, false_and, true_and, and_true, and_self, ↓reduceIte, Nat.zero_le, Nat.min_self]
      exact (a12 k hk).2.1
    · simp (disch := omega) only [cpy1_at, cpy1_2, cpy2_at, cpy2_1, u1_at, u1_2, ix_T, lt_T, lt_F, eq_T, eq_F, false_and, true_and, and_true, and_self, ↓reduceIte, Nat.zero_le, Nat.min_self]
      exact (a12 k hk).2.2
theorem cf_2_16 {h nm} {d : DD} (V : VH h) (H : HC 16 d h nm) : OW (f_X1_copyFrom 2 16 d) (fun _ d' => FR [2, 3, 4, 5, 6, 7, 8, 9, 10, 11, 12, 13, 14, 15] d d' ∧ HC 2 d' h nm) := by
  have v0 := V.1
  have v1 := V.2.1
  have v2 := V.2.2.2.2.2.2.2.1
  unfold HC at H
  simp only [rf_2_2, rf_2_3, rf_2_4, rf_2_5, rf_2_6, rf_2_7, rf_2_8, rf_2_9, rf_2_10, rf_2_11, rf_12_1, rf_12_2, rf_12_3, rf_16_2, rf_16_3, rf_16_4, rf_16_5, rf_16_6, rf_16_7, rf_16_8, rf_16_9, rf_16_10, rf_16_11, rf_26_1, rf_26_2, rf_26_3] at H
  obtain ⟨a0, a1, a2, a3, a4, a5, a6, a7, a8, a9, a10, a11, a12⟩ := H
  unfold f_X1_copyFrom f_X5_copyFrom
  simp (disch := decide) only [rf_2_2, rf_2_3, rf_2_4, rf_2_5, rf_2_6, rf_2_7, rf_2_8, rf_2_9, rf_2_10, rf_2_11, rf_12_1, rf_12_2, rf_12_3, rf_16_2, rf_16_3, rf_16_4, rf_16_5, rf_16_6, rf_16_7, rf_16_8, rf_16_9, rf_16_10, rf_16_11, rf_26_1, rf_26_2, rf_26_3, bd_e, ob_e, e_X9_copyRow, e_X9_copyLongs, ln_2, ln_3, ln_4, ln_5, ln_6, ln_7, ln_8, ln_9, ln_10, ln_11, ln_12, ln_13, ln_14, ln_15, ln_16, ln_17, ln_18, ln_19, ln_20, ln_21, ln_22, ln_23, ln_24, ln_25, ln_26, ln_27, ln_28, ln_29]
  refine ow_ret ⟨?_, ?_⟩
  · intro a ha
    simp only [List.mem_cons, List.not_mem_nil, or_false, not_or] at ha
    refine ⟨?_, ?_⟩
    · funext j
      simp only [cpy1_at, cpy1_2, cpy2_at, cpy2_1, u1_at, u1_2, ha, false_and, if_false]
    · funext j
      simp only [cpy1_at, cpy1_2, cpy2_at, cpy2_1, u1_at, u1_2, ha, false_and, if_false]
  · unfold HC
    simp only [rf_2_2, rf_2_3, rf_2_4, rf_2_5, rf_2_6, rf_2_7, rf_2_8, rf_2_9, rf_2_10, rf_2_11, rf_12_1, rf_12_2, rf_12_3, rf_16_2, rf_16_3, rf_16_4, rf_16_5, rf_16_6, rf_16_7, rf_16_8, rf_16_9, rf_16_10, rf_16_11, rf_26_1, rf_26_2, rf_26_3]
    refine ⟨?_, ?_, fun k hk => ?_, fun k hk => ?_, fun k hk => ?_, fun k hk => ?_, fun k hk => ?_, fun k hk => ?_, fun k hk => ?_, fun k hk => ?_, fun k hk => ?_, ?_, fun k hk => ⟨?_, ?_, ?_⟩⟩
    · simp (disch := omega) only [cpy1_at, cpy1_2, cpy2_at, cpy2_1, u1_at, u1_2, ix_T, lt_T, lt_F, eq_T, eq_F, false_and, true_and, and_true, and_self, ↓reduceIte, Nat.zero_le]
      exact a0
    · simp (disch := omega) only [cpy1_at, cpy1_2, cpy2_at, cpy2_1, u1_at, u1_2, ix_T, lt_T, lt_F, eq_T, eq_F, false_and, true_and, and_true, and_self, ↓reduceIte, Nat.zero_le]
      exact a1
    · simp (disch := omega) only [cpy1_at, cpy1_2, cpy2_at, cpy2_1, u1_at, u1_2, ix_T, lt_T, lt_F, eq_T, eq_F, false_and, true_and, and_true, and_self, ↓reduceIte, Nat.zero_le, Nat.min_self]
      exact a2 k hk
    · simp (disch := omega) only [cpy1_at, cpy1_2, cpy2_at, cpy2_1, u1_at, u1_2, ix_T, lt_T, lt_F, eq_T, eq_F, false_and, true_and, and_true, and_self, ↓reduceIte, Nat.zero_le, Nat.min_self]
      exact a3 k hk
    · simp (disch := omega) only [cpy1_at, cpy1_2, cpy2_at, cpy2_1, u1_at, u1_2, ix_T, lt_T, lt_F, eq_T, eq_F, false_and, true_and, and_true, and_self, ↓reduceIte, Nat.zero_le, Nat.min_self]
      exact a4 k hk
    · simp (disch := omega) only [cpy1_at, cpy1_2, cpy2_at, cpy2_1, u1_at, u1_2, ix_T, lt_T, lt_F, eq_T, eq_F, false_and, true_and, and_true, and_self, ↓reduceIte, Nat.zero_le, Nat.min_self]
      exact a5 k hk
    · simp (disch := omega) only [cpy1_at, cpy1_2, cpy2_at, cpy2_1, u1_at, u1_2, ix_T, lt_T, lt_F, eq_T, eq_F, false_and, true_and, and_true, and_self, ↓reduceIte, Nat.zero_le, Nat.min_self]
      exact a6 k hk
    · simp (disch := omega) only [cpy1_at, cpy1_2, cpy2_at, cpy2_1, u1_at, u1_2, ix_T, lt_T, lt_F, eq_T, eq_F, false_and, true_and, and_true, and_self, ↓reduceIte, Nat.zero_le, Nat.min_self]
      exact a7 k hk
    · simp (disch := omega) only [cpy1_at, cpy1_2, cpy2_at, cpy2_1, u1_at, u1_2, ix_T, lt_T, lt_F, eq_T, eq_F, false_and, true_and, and_true, and_self, ↓reduceIte, Nat.zero_le, Nat.min_self]
      exact a8 k hk
    · simp (disch := omega) only [cpy1_at, cpy1_2, cpy2_at, cpy2_1, u1_at, u1_2, ix_T, lt_T, lt_F, eq_T, eq_F, false_and, true_and, and_true, and_self, ↓reduceIte, Nat.zero_le, Nat.min_self]
      exact a9 k hk
    · simp (disch := omega) only [cpy1_at, cpy1_2, cpy2_at, cpy2_1, u1_at, u1_2, ix_T, lt_T, lt_F, eq_T, eq_F, false_and, true_and, and_true, and_self, ↓reduceIte, Nat.zero_le, Nat.min_self]
      exact a10 k hk
    · simp (disch := omega) only [cpy1_at, cpy1_2, cpy2_at, cpy2_1, u1_at, u1_2, ix_T, lt_T, lt_F, eq_T, eq_F, false_and, true_and, and_true, and_self, ↓reduceIte, Nat.zero_le, Nat.min_self]
      exact a11
    · simp (disch := omega) only [cpy1_at, cpy1_2, cpy2_at, cpy2_1, u1_at, u1_2, ix_T, lt_T, lt_F, eq_T, eq_F, false_and, true_and, and_true, and_self, ↓reduceIte, Nat.zero_le, Nat.min_self]
      exact (a12 k hk).1
    · simp (disch := omega) only [cpy1_at, cpy1_2, cpy2_at, cpy2_1, u1_at, u1_2, ix_T, lt_T, lt_F, eq_T, eq_F, false_and, true_and, and_true, and_self, ↓reduceIte, Nat.zero_le, Nat.min_self]
      exact (a12 k hk).2.1
    · simp (disch := omega) only [cpy1_at, cpy1_2, cpy2_at, cpy2_1, u1_at, u1_2, ix_T, lt_T, lt_F, eq_T, eq_F, false_and, true_and, and_true, and_self, ↓reduceIte, Nat.zero_le, Nat.min_self]
      exact (a12 k hk).2.2
theorem cf_2_30 {h nm} {d : DD} (V : VH h) (H : HC 30 d h nm) : OW (f_X1_copyFrom 2 30 d) (fun _ d' => FR [2, 3, 4, 5, 6, 7, 8, 9, 10, 11, 12, 13, 14, 15] d d' ∧ HC 2 d' h nm) := by
  have v0 := V.1
  have v1 := V.2.1
  have v2 := V.2.2.2.2.2.2.2.1
  unfold HC at H
  simp only [rf_2_2, rf_2_3, rf_2_4, rf_2_5, rf_2_6, rf_2_7, rf_2_8, rf_2_9, rf_2_10, rf_2_11, rf_12_1, rf_12_2, rf_12_3, rf_30_2, rf_30_3, rf_30_4, rf_30_5, rf_30_6, rf_30_7, rf_30_8, rf_30_9, rf_30_10, rf_30_11, rf_40_1, rf_40_2, rf_40_3] at H
  obtain ⟨a0, a1, a2, a3, a4, a5, a6, a7, a8, a9, a10, a11, a12⟩ := H
  unfold f_X1_copyFrom f_X5_copyFrom
  simp (disch := decide) only [rf_2_2, rf_2_3, rf_2_4, rf_2_5, rf_2_6, rf_2_7, rf_2_8, rf_2_9, rf_2_10, rf_2_11, rf_12_1, rf_12_2, rf_12_3, rf_30_2, rf_30_3, rf_30_4, rf_30_5, rf_30_6, rf_30_7, rf_30_8, rf_30_9, rf_30_10, rf_30_11, rf_40_1, rf_40_2, rf_40_3, bd_e, ob_e, e_X9_copyRow, e_X9_copyLongs, ln_2, ln_3, ln_4, ln_5, ln_6, ln_7, ln_8, ln_9, ln_10, ln_11, ln_12, ln_13, ln_14, ln_15, ln_30, ln_31, ln_32, ln_33, ln_34, ln_35, ln_36, ln_37, ln_38, ln_39, ln_40, ln_41, ln_42, ln_43]
  refine ow_ret ⟨?_, ?_⟩
  · intro a ha
    simp only [List.mem_cons, List.not_mem_nil, or_false, not_or] at ha
    refine ⟨?_, ?_⟩
    · funext j
      simp only [cpy1_at, cpy1_2, cpy2_at, cpy2_1, u1_at, u1_2, ha, false_and, if_false]
    · funext j
      simp only [cpy1_at, cpy1_2, cpy2_at, cpy2_1, u1_at, u1_2, ha, false_and, if_false]
  · unfold HC
    simp only [rf_2_2, rf_2_3, rf_2_4, rf_2_5, rf_2_6, rf_2_7, rf_2_8, rf_2_9, rf_2_10, rf_2_11, rf_12_1, rf_12_2, rf_12_3, rf_30_2, rf_30_3, rf_30_4, rf_30_5, rf_30_6, rf_30_7, rf_30_8, rf_30_9, rf_30_10, rf_30_11, rf_40_1, rf_40_2, rf_40_3]
    refine ⟨?_, ?_, fun k hk => ?_, fun k hk => ?_, fun k hk => ?_, fun k hk => ?_, fun k hk => ?_, fun k hk => ?_, fun k hk => ?_, fun k hk => ?_, fun k hk => ?_, ?_, fun k hk => ⟨?_, ?_, ?_⟩⟩
    · simp (disch := omega) only [cpy1_at, cpy1_2, cpy2_at, cpy2_1, u1_at, u1_2, ix_T, lt_T, lt_F, eq_T, eq_F, false_and, true_and, and_true, and_self, ↓reduceIte, Nat.zero_le]
      exact a0
    · simp (disch := omega) only [cpy1_at, cpy1_2, cpy2_at, cpy2_1, u1_at, u1_2, ix_T, lt_T, lt_F, eq_T, eq_F, false_and, true_and, and_true, and_self, ↓reduceIte, Nat.zero_le]
      exact a1
    · simp (disch := omega) only [cpy1_at, cpy1_2, cpy2_at, cpy2_1, u1_at, u1_2, ix_T, lt_T, lt_F, eq_T, eq_F, false_and, true_and, and_true, and_self, ↓reduceIte, Nat.zero_le, Nat.min_self]
      exact a2 k hk
    · simp (disch := omega) only [cpy1_at, cpy1_2, cpy2_at, cpy2_1, u1_at, u1_2, ix_T, lt_T, lt_F, eq_T, eq_F, false_and, true_and, and_true, and_self, ↓reduceIte, Nat.zero_le, Nat.min_self]
      exact a3 k hk
    · simp (disch := omega) only [cpy1_at, cpy1_2, cpy2_at, cpy2_1, u1_at, u1_2, ix_T, lt_T, lt_F, eq_T, eq_F, false_and, true_and, and_true, and_self, ↓reduceIte, Nat.zero_le, Nat.min_self]
      exact a4 k hk
    · simp (disch := omega) only [cpy1_at, cpy1_2, cpy2_at, cpy2_1, u1_at, u1_2, ix_T, lt_T, lt_F, eq_T, eq_F, false_and, true_and, and_true, and_self, ↓reduceIte, Nat.zero_le, Nat.min_self]
      exact a5 k hk
    · simp (disch := omega) only [cpy1_at, cpy1_2, cpy2_at, cpy2_1, u1_at, u1_2, ix_T, lt_T, lt_F, eq_T, eq_F, false_and, true_and, and_true, and_self, ↓reduceIte, Nat.zero_le, Nat.min_self]
      exact a6 k hk
    · simp (disch := omega) only [cpy1_at, cpy1_2, cpy2_at, cpy2_1, u1_at, u1_2, ix_T, lt_T, lt_F, eq_T, eq_F, false_and, true_and, and_true, and_self, ↓reduceIte, Nat.zero_le, Nat.min_self]
      exact a7 k hk
    · simp (disch := omega) only [cpy1_at, cpy1_2, cpy2_at, cpy2_1, u1_at, u1_2, ix_T, lt_T, lt_F, eq_T, eq_F, false_and, true_and, and_true, and_self, ↓reduceIte, Nat.zero_le, Nat.min_self]
      exact a8 k hk
    · simp (disch := omega) only [cpy1_at, cpy1_2, cpy2_at, cpy2_1, u1_at, u1_2, ix_T, lt_T, lt_F, eq_T, eq_F, false_and, true_and, and_true, and_self, ↓reduceIte, Nat.zero_le, Nat.min_self]
      exact a9 k hk
    · simp (disch := omega) only [cpy1_at, cpy1_2, cpy2_at, cpy2_1, u1_at, u1_2, ix_T, lt_T, lt_F, eq_T, eq_F, false_and, true_and, and_true, and_self, ↓reduceIte, Nat.zero_le, Nat.min_self]
      exact a10 k hk
    · simp (disch := omega) only [cpy1_at, cpy1_2, cpy2_at, cpy2_1, u1_at, u1_2, ix_T, lt_T, lt_F, eq_T, eq_F, false_and, true_and, and_true, and_self, ↓reduceIte, Nat.zero_le, Nat.min_self]
      exact a11
    · simp (disch := omega) only [cpy1_at, cpy1_2, cpy2_at, cpy2_1, u1_at, u1_2, ix_T, lt_T, lt_F, eq_T, eq_F, false_and, true_and, and_true, and_self, ↓reduceIte, Nat.zero_le, Nat.min_self]
      exact (a12 k hk).1
    · simp (disch := omega) only [cpy1_at, cpy1_2, cpy2_at, cpy2_1, u1_at, u1_2, ix_T, lt_T, lt_F, eq_T, eq_F, false_and, true_and, and_true, and_self, ↓reduceIte, Nat.zero_le, Nat.min_self]
      exact (a12 k hk).2.1
    · simp (disch := omega) only [cpy1_at, cpy1_2, cpy2_at, cpy2_1, u1_at, u1_2, ix_T, lt_T, lt_F, eq_T, eq_F, false_and, true_and, and_true, and_self, ↓reduceIte, Nat.zero_le, Nat.min_self]
      exact (a12 k hk).2.2
theorem cf_2_50 {h nm} {d : DD} (V : VH h) (H : HC 50 d h nm) : OW (f_X1_copyFrom 2 50 d) (fun _ d' => FR [2, 3, 4, 5, 6, 7, 8, 9, 10, 11, 12, 13, 14, 15] d d' ∧ HC 2 d' h nm) := by
  have v0 := V.1
  have v1 := V.2.1
  have v2 := V.2.2.2.2.2.2.2.1
  unfold HC at H
  simp only [rf_2_2, rf_2_3, rf_2_4, rf_2_5, rf_2_6, rf_2_7, rf_2_8, rf_2_9, rf_2_10, rf_2_11, rf_12_1, rf_12_2, rf_12_3, rf_50_2, rf_50_3, rf_50_4, rf_50_5, rf_50_6, rf_50_7, rf_50_8, rf_50_9, rf_50_10, rf_50_11, rf_60_1, rf_60_2, rf_60_3] at H
  obtain ⟨a0, a1, a2, a3, a4, a5, a6, a7, a8, a9, a10, a11, a12⟩ := H
  unfold f_X1_copyFrom f_X5_copyFrom
  simp (disch := decide) only [rf_2_2, rf_2_3, rf_2_4, rf_2_5, rf_2_6, rf_2_7, rf_2_8, rf_2_9, rf_2_10, rf_2_11, rf_12_1, rf_12_2, rf_12_3, rf_50_2, rf_50_3, rf_50_4, rf_50_5, rf_50_6, rf_50_7, rf_50_8, rf_50_9, rf_50_10, rf_50_11, rf_60_1, rf_60_2, rf_60_3, bd_e, ob_e, e_X9_copyRow, e_X9_copyLongs, ln_2, ln_3, ln_4, ln_5, ln_6, ln_7, ln_8, ln_9, ln_10, ln_11, ln_12, ln_13, ln_14, ln_15, ln_50, ln_51, ln_52, ln_53, ln_54, ln_55, ln_56, ln_57, ln_58, ln_59, ln_60, ln_61, ln_62, ln_63]
  refine ow_ret ⟨?_, ?_⟩
  · intro a ha
    simp only [List.mem_cons, List.not_mem_nil, or_false, not_or] at ha
    refine ⟨?_, ?_⟩
    · funext j
      simp only [cpy1_at, cpy1_2, cpy2_at, cpy2_1, u1_at, u1_2, ha, false_and, if_false]
    · funext j
      simp only [cpy1_at, cpy1_2, cpy2_at, cpy2_1, u1_at, u1_2, ha, false_and, if_false]
  · unfold HC
    simp only [rf_2_2, rf_2_3, rf_2_4, rf_2_5, rf_2_6, rf_2_7, rf_2_8, rf_2_9, rf_2_10, rf_2_11, rf_12_1, rf_12_2, rf_12_3, rf_50_2, rf_50_3, rf_50_4, rf_50_5, rf_50_6, rf_50_7, rf_50_8, rf_50_9, rf_50_10, rf_50_11, rf_60_1, rf_60_2, rf_60_3]
    refine ⟨?_, ?_, fun k hk => ?_, fun k hk => ?_, fun k hk => ?_, fun k hk => ?_, fun k hk => ?_, fun k hk => ?_, fun k hk => ?_, fun k hk => ?_, fun k hk => ?_, ?_, fun k hk => ⟨?_, ?_, ?_⟩⟩
    · simp (disch := omega) only [cpy1_at, cpy1_2, cpy2_at, cpy2_1, u1_at, u1_2, ix_T, lt_T, lt_F, eq_T, eq_F, false_and, true_and, and_true, and_self, ↓reduceIte, Nat.zero_le]
      exact a0
    · simp (disch := omega) only [cpy1_at, cpy1_2, cpy2_at, cpy2_1, u1_at, u1_2, ix_T, lt_T, lt_F, eq_T, eq_F, false_and, true_and, and_true, and_self, ↓reduceIte, Nat.zero_le]
      exact a1
    · simp (disch := omega) only [cpy1_at, cpy1_2, cpy2_at, cpy2_1, u1_at, u1_2, ix_T, lt_T, lt_F, eq_T, eq_F, false_and, true_and, and_true, and_self, ↓reduceIte, Nat.zero_le, Nat.min_self]
      exact a2 k hk
    · simp (disch := omega) only [cpy1_at, cpy1_2, cpy2_at, cpy2_1, u1_at, u1_2, ix_T, lt_T, lt_F, eq_T, eq_F, false_and, true_and, and_true, and_self, ↓reduceIte, Nat.zero_le, Nat.min_self]
      exact a3 k hk
    · simp (disch := omega) only [cpy1_at, cpy1_2, cpy2_at, cpy2_1, u1_at, u1_2, ix_T, lt_T, lt_F, eq_T, eq_F, false_and, true_and, and_true, and_self, ↓reduceIte, Nat.zero_le, Nat.min_self]
      exact a4 k hk
    · simp (disch := omega) only [cpy1_at, cpy1_2, cpy2_at, cpy2_1, u1_at, u1_2, ix_T, lt_T, lt_F, eq_T, eq_F, false_and, true_and, and_true, and_self, ↓reduceIte, Nat.zero_le, Nat.min_self]
      exact a5 k hk
    · simp (disch := omega) only [cpy1_at, cpy1_2, cpy2_at, cpy2_1, u1_at, u1_2, ix_T, lt_T, lt_F, eq_T, eq_F, false_and, true_and, and_true, and_self, ↓reduceIte, Nat.zero_le, Nat.min_self]
      exact a6 k hk
    · simp (disch := omega) only [cpy1_at, cpy1_2, cpy2_at, cpy2_1, u1_at, u1_2, ix_T, lt_T, lt_F, eq_T, eq_F, false_and, true_and, and_true, and_self, ↓reduceIte, Nat.zero_le, Nat.min_self]
      exact a7 k hk
    · simp (disch := omega) only [cpy1_at, cpy1_2, cpy2_at, cpy2_1, u1_at, u1_2, ix_T, lt_T, lt_F, eq_T, eq_F, false_and, true_and, and_true, and_self, ↓reduceIte, Nat.zero_le, Nat.min_self]
      exact a8 k hk
    · simp (disch := omega) only [cpy1_at, cpy1_2, cpy2_at, cpy2_1, u1_at, u1_2, ix_T, lt_T, lt_F, eq_T, eq_F, false_and, true_and, and_true, and_self, ↓reduceIte, Nat.zero_le, Nat.min_self]
      exact a9 k hk
    · simp (disch := omega) only [cpy1_at, cpy1_2, cpy2_at, cpy2_1, u1_at, u1_2, ix_T, lt_T, lt_F, eq_T, eq_F, false_and, true_and, and_true, and_self, ↓reduceIte, Nat.zero_le, Nat.min_self]
      exact a10 k hk
    · simp (disch := omega) only [cpy1_at, cpy1_2, cpy2_at, cpy2_1, u1_at, u1_2, ix_T, lt_T, lt_F, eq_T, eq_F, false_and, true_and, and_true, and_self, ↓reduceIte, Nat.zero_le, Nat.min_self]
      exact a11
    · simp (disch := omega) only [cpy1_at, cpy1_2, cpy2_at, cpy2_1, u1_at, u1_2, ix_T, lt_T, lt_F, eq_T, eq_F, false_and, true_and, and_true, and_self, ↓reduceIte, Nat.zero_le, Nat.min_self]
      exact (a12 k hk).1
    · simp (disch := omega) only [cpy1_at, cpy1_2, cpy2_at, cpy2_1, u1_at, u1_2, ix_T, lt_T, lt_F, eq_T, eq_F, false_and, true_and, and_true, and_self, ↓reduceIte, Nat.zero_le, Nat.min_self]
      exact (a12 k hk).2.1
    · simp (disch := omega) only [cpy1_at, cpy1_2, cpy2_at, cpy2_1, u1_at, u1_2, ix_T, lt_T, lt_F, eq_T, eq_F, false_and, true_and, and_true, and_self, ↓reduceIte, Nat.zero_le, Nat.min_self]
      exact (a12 k hk).2.2
