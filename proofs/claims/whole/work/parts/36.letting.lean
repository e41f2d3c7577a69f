-- PURE ROWS: the model's readings of its house
def bI (b : Bool) : Int32 := if b then 1 else 0
theorem bI_t : bI true = 1 := rfl
theorem bI_f : bI false = 0 := rfl
theorem bI_0 (b : Bool) : bI b = nI 0 ↔ b = false := by cases b <;> decide
theorem bI_1 (b : Bool) : bI b = nI 1 ↔ b = true := by cases b <;> decide
theorem bI_e (a b : Bool) : bI a = bI b ↔ a = b := by cases a <;> cases b <;> decide
def HM (d : DD) (h : Nat → Nat) : Prop := (∀ j, d.1 88 j = nI (h j)) ∧ (∀ k, k < h 0 → d.1 95 k = nI (tn (h (2 + k)) (h (5 + k)))) ∧ ∀ k t, k < h 0 → t < tn (h (2 + k)) (h (5 + k)) → d.1 94 (36 * k + t) = nI (mkN 30 (fun u => pa (h (2 + k)) t u))
theorem e_X10_has {s k : Nat} (hs : s < 2 ^ 31) (hk : k < 32) (d : DD) : f_X10_has (nI s) (nI k) d = some (bI (s.testBit k), d) := by
  unfold f_X10_has
  simp only [nI_lit]
  cases c : s.testBit k
  · rw [if_neg (fun z => by rw [q_has hs hk, c] at z; exact absurd z (by decide))]
    rfl
  · rw [if_pos ((q_has hs hk).mpr c)]
    rfl
theorem e_X10_isIn0 {x : Int32} {n : Nat} (hn : n < 2 ^ 31) (d : DD) : f_X10_isIn x (nI 0) (pI n) d = some (bI (decide (ixb x n)), d) := by
  unfold f_X10_isIn
  by_cases h0 : x < nI 0
  · rw [if_pos h0, decide_eq_false (fun z => z.1 h0)]
    rfl
  · obtain ⟨j, hj, rfl⟩ := nI_of h0
    rw [if_neg h0]
    by_cases c : j < n
    · rw [pI_pos (by omega), if_neg (by rw [nI_ltI (by omega) hj]; omega), decide_eq_true ((ix_nI hj).mpr c)]
      rfl
    · have e : pI n < nI j := by
        cases n with
        | zero => rw [pI_0, mI_lt hj]; trivial
        | succ n => rw [pI_s, nI_ltI (by omega) hj]; omega
      rw [if_pos e, decide_eq_false (fun z => c ((ix_nI hj).mp z))]
      rfl
theorem bI_01 (b : Bool) : bI b = nI 0 ∨ bI b = nI 1 := by cases b <;> decide
theorem e_X10_isKind {d h} (V : VH h) (M : HM d h) {x : Int32} : f_X10_isKind x d = some (bI (decide (ixb x (h 0))), d) := by
  have hv := V.1
  unfold f_X10_isKind
  simp (disch := omega) only [bd_e, ob_e, ow_ret_e, u1_at, u1_2, u2_at, u2_1, ↓reduceIte, false_and, true_and, and_true, and_false, not_true_eq_false, not_false_eq_true, decide_true, decide_false, Bool.true_and, Bool.false_and, Bool.and_true, Bool.and_false, Bool.or_false, Bool.false_or, Bool.true_or, Bool.or_true, ↓mI_lit, ↓mL_lit, nI_lit, lN_lit, nI_add, pk_mul, lN_add, lN_mul, nI_ltI, nI_eq, nI_clamp, ix_nI, ix_mI, nI_mI, mI_nI, lN_mL, mL_lN, mI_lt, lt_mI, pI_mI, pI_nI, pI_eq, pI_lt0, pI_e, Nat.not_lt_zero, Nat.zero_add, Nat.add_zero, ix_T, lt_T, lt_F, eq_T, eq_F, ln_88, M.1, e_X10_isIn0, bI_01, Nat.reduceLT]
theorem e_X10_isPerson {d h} (V : VH h) (M : HM d h) {x : Int32} : f_X10_isPerson x d = some (bI (decide (ixb x (h 1))), d) := by
  have hv := V.2.1
  unfold f_X10_isPerson
  simp (disch := omega) only [bd_e, ob_e, ow_ret_e, u1_at, u1_2, u2_at, u2_1, ↓reduceIte, false_and, true_and, and_true, and_false, not_true_eq_false, not_false_eq_true, decide_true, decide_false, Bool.true_and, Bool.false_and, Bool.and_true, Bool.and_false, Bool.or_false, Bool.false_or, Bool.true_or, Bool.or_true, ↓mI_lit, ↓mL_lit, nI_lit, lN_lit, nI_add, pk_mul, lN_add, lN_mul, nI_ltI, nI_eq, nI_clamp, ix_nI, ix_mI, nI_mI, mI_nI, lN_mL, mL_lN, mI_lt, lt_mI, pI_mI, pI_nI, pI_eq, pI_lt0, pI_e, Nat.not_lt_zero, Nat.zero_add, Nat.add_zero, ix_T, lt_T, lt_F, eq_T, eq_F, ln_88, M.1, e_X10_isIn0, bI_01, Nat.reduceLT]
theorem e_X10_isHour {d : DD} {x : Int32} : f_X10_isHour x d = some (bI (decide (ixb x 30)), d) := by
  have e := e_X10_isIn0 (x := x) (n := 30) (by decide) d
  rw [show pI 30 = nI 29 from rfl] at e
  unfold f_X10_isHour
  simp only [bd_e, ob_e, ow_ret_e, u1_at, u1_2, u2_at, u2_1, ↓reduceIte, false_and, true_and, and_true, and_false, not_true_eq_false, not_false_eq_true, decide_true, decide_false, Bool.true_and, Bool.false_and, Bool.and_true, Bool.and_false, Bool.or_false, Bool.false_or, Bool.true_or, Bool.or_true, nI_lit, e, bI_01]
theorem e_X10_isSet {d h} (V : VH h) (M : HM d h) {x : Int32} : f_X10_isSet x d = some (bI (decide (ixb x (2 ^ h 0))), d) := by
  have hv := V.1
  have hl : 2 ^ h 0 ≤ 2 ^ 3 := Nat.pow_le_pow_right (by decide) hv
  unfold f_X10_isSet
  simp (disch := omega) only [bd_e, ob_e, ow_ret_e, u1_at, u1_2, u2_at, u2_1, ↓reduceIte, false_and, true_and, and_true, and_false, not_true_eq_false, not_false_eq_true, decide_true, decide_false, Bool.true_and, Bool.false_and, Bool.and_true, Bool.and_false, Bool.or_false, Bool.false_or, Bool.true_or, Bool.or_true, ↓mI_lit, ↓mL_lit, nI_lit, lN_lit, nI_add, pk_mul, lN_add, lN_mul, nI_ltI, nI_eq, nI_clamp, ix_nI, ix_mI, nI_mI, mI_nI, lN_mL, mL_lN, mI_lt, lt_mI, pI_mI, pI_nI, pI_eq, pI_lt0, pI_e, Nat.not_lt_zero, Nat.zero_add, Nat.add_zero, ix_T, lt_T, lt_F, eq_T, eq_F, ln_88, M.1, q_shl, e_X10_isIn0, bI_01, Nat.reduceLT]
theorem e_X10_isHas {d h} (V : VH h) (M : HM d h) {k : Nat} (hk : k < h 0) {x : Int32} : f_X10_isIn x (nI 0) (pI (tn (h (2 + k)) (h (5 + k)))) d = some (bI (decide (ixb x (tn (h (2 + k)) (h (5 + k))))), d) := by
  have hv := V.2.2.1 k hk
  have ht := tn_le (lo := h (2 + k)) hv.2.2.1
  exact e_X10_isIn0 (by omega) d
theorem e_X10_truly {d h} (M : HM d h) {k : Nat} (hk : k < 3) : f_X10_truly (nI k) d = some (pI (h (8 + k)), d) := by
  unfold f_X10_truly
  simp (disch := omega) only [bd_e, ob_e, ow_ret_e, u1_at, u1_2, u2_at, u2_1, ↓reduceIte, false_and, true_and, and_true, and_false, not_true_eq_false, not_false_eq_true, decide_true, decide_false, Bool.true_and, Bool.false_and, Bool.and_true, Bool.and_false, Bool.or_false, Bool.false_or, Bool.true_or, Bool.or_true, ↓mI_lit, ↓mL_lit, nI_lit, lN_lit, nI_add, pk_mul, lN_add, lN_mul, nI_ltI, nI_eq, nI_clamp, ix_nI, ix_mI, nI_mI, mI_nI, lN_mL, mL_lN, mI_lt, lt_mI, pI_mI, pI_nI, pI_eq, pI_lt0, pI_e, Nat.not_lt_zero, Nat.zero_add, Nat.add_zero, ix_T, lt_T, lt_F, eq_T, eq_F, ln_88, M.1]
def pu (lo t u : Nat) : Bool := decide (1 ≤ u) && pa lo t (u - 1)
def tl (h : Nat → Nat) (w k t hour : Nat) : Bool := if 1 < w ∧ (w - 2) / 2 = k then decide (w % 2 = 1) else pu (h (2 + k)) t (if w = 1 then hour else hour + 1)
def TT (h : Nat → Nat) (k : Nat) : Nat := tn (h (2 + k)) (h (5 + k))
theorem tt_le {h} (V : VH h) {k : Nat} (hk : k < h 0) : TT h k ≤ 36 := tn_le (V.2.2.1 k hk).2.2.1
theorem let_111 (K : Int32 → Int32 → Int32 → Int64 → Int32 → DD → Option (Int64 × DD)) (v2 v7 : Int32) (b p : Bool) (P : Nat → Bool) {t : Nat} (ht : t < 60) (d : DD) : f_X10_letting_111 K v2 (bI b) v7 (mkL P) (nI t) (bI p) d = K v2 (bI b) v7 (mkL (fun i => P i || (decide (i = t) && (p == b)))) (nI (t + 1)) d := by
  unfold f_X10_letting_111
  simp (disch := omega) only [bd_e, ob_e, ow_ret_e, u1_at, u1_2, u2_at, u2_1, ↓reduceIte, false_and, true_and, and_true, and_false, not_true_eq_false, not_false_eq_true, decide_true, decide_false, Bool.true_and, Bool.false_and, Bool.and_true, Bool.and_false, Bool.or_false, Bool.false_or, Bool.true_or, Bool.or_true, ↓mI_lit, ↓mL_lit, nI_lit, lN_lit, nI_add, pk_mul, lN_add, lN_mul, nI_ltI, nI_eq, nI_clamp, ix_nI, ix_mI, nI_mI, mI_nI, lN_mL, mL_lN, mI_lt, lt_mI, pI_mI, pI_nI, pI_eq, pI_lt0, pI_e, Nat.not_lt_zero, Nat.zero_add, Nat.add_zero, ix_T, lt_T, lt_F, eq_T, eq_F, bI_e, mk_bit, mk_or]
  by_cases c : p = b
  · rw [if_pos c]
    refine congrArg (fun z => K v2 (bI b) v7 z (nI (t + 1)) d) (mk_congr (fun i _ => ?_))
    subst c
    simp
  · rw [if_neg c]
    refine congrArg (fun z => K v2 (bI b) v7 z (nI (t + 1)) d) (mk_congr (fun i _ => ?_))
    simp [c]
theorem let_if (K : Int32 → Int32 → Int32 → Int64 → Int32 → DD → Option (Int64 × DD)) (v2 v4 v7 v10 : Int32) (v8 : Int64) (p : Bool) (d : DD) : (if bI p = nI 0 then f_X10_letting_110 K v2 v4 v7 v8 v10 d else f_X10_letting_111 K v2 v4 v7 v8 v10 (nI 1) d) = f_X10_letting_111 K v2 v4 v7 v8 v10 (bI p) d := by
  cases p
  · rw [if_pos (by decide)]
    rfl
  · rw [if_neg (by decide)]
    rfl
theorem let_l {d h} (V : VH h) (M : HM d h) {k u : Nat} (hk : k < h 0) (hu : u ≤ 30) (b : Bool) : ∀ (m t n : Nat), t + m = TT h k → m < n → f_X10_letting_70 n (nI k) (bI b) (pI u) (mkL (fun i => decide (i < t) && (pu (h (2 + k)) i u == b))) (nI t) d = some (mkL (fun i => decide (i < TT h k) && (pu (h (2 + k)) i u == b)), d) := by
  have hv := V.1
  have ht := tt_le V hk
  have m95 : d.1 95 k = nI (TT h k) := M.2.1 k hk
  intro m
  induction m with
  | zero =>
    intro t n hq hn
    cases n with
    | zero => omega
    | succ n =>
      show f_X10_letting_70B (f_X10_letting_70 n) _ _ _ _ _ _ = _
      unfold f_X10_letting_70B
      have e : ¬ t < TT h k := by omega
      simp (disch := omega) only [bd_e, ob_e, ow_ret_e, u1_at, u1_2, u2_at, u2_1, ↓reduceIte, false_and, true_and, and_true, and_false, not_true_eq_false, not_false_eq_true, decide_true, decide_false, Bool.true_and, Bool.false_and, Bool.and_true, Bool.and_false, Bool.or_false, Bool.false_or, Bool.true_or, Bool.or_true, ↓mI_lit, ↓mL_lit, nI_lit, lN_lit, nI_add, pk_mul, lN_add, lN_mul, nI_ltI, nI_eq, nI_clamp, ix_nI, ix_mI, nI_mI, mI_nI, lN_mL, mL_lN, mI_lt, lt_mI, pI_mI, pI_nI, pI_eq, pI_lt0, pI_e, Nat.not_lt_zero, Nat.zero_add, Nat.add_zero, ix_T, lt_T, lt_F, eq_T, eq_F, ln_95, m95, e]
      rw [show t = TT h k by omega]
  | succ m ih =>
    intro t n hq hn
    cases n with
    | zero => omega
    | succ n =>
      show f_X10_letting_70B (f_X10_letting_70 n) _ _ _ _ _ _ = _
      unfold f_X10_letting_70B
      have e : t < TT h k := by omega
      have m94 := M.2.2 k t hk e
      have s := ih (t + 1) n (by omega) (by omega)
      have fin : ∀ p : Bool, p = pu (h (2 + k)) t u → f_X10_letting_111 (f_X10_letting_70 n) (nI k) (bI b) (pI u) (mkL (fun i => decide (i < t) && (pu (h (2 + k)) i u == b))) (nI t) (bI p) d = some (mkL (fun i => decide (i < TT h k) && (pu (h (2 + k)) i u == b)), d) := by
        intro p hp
        rw [let_111 _ _ _ _ _ _ (by omega), ← s]
        refine congrArg (fun z => f_X10_letting_70 n (nI k) (bI b) (pI u) z (nI (t + 1)) d) (mk_congr (fun i _ => ?_))
        rcases Nat.lt_trichotomy i t with z | z | z
        · rw [decide_eq_true z, decide_eq_true (p := i < t + 1) (by omega), decide_eq_false (p := i = t) (by omega), Bool.false_and, Bool.or_false]
        · subst z
          rw [decide_eq_false (p := i < i) (by omega), decide_eq_true (p := i < i + 1) (by omega), hp]
          simp
        · rw [decide_eq_false (p := i < t) (by omega), decide_eq_false (p := i < t + 1) (by omega), decide_eq_false (p := i = t) (by omega), Bool.false_and, Bool.false_and, Bool.or_false]
      rcases Nat.eq_zero_or_pos u with z | z
      · subst z
        simp (disch := omega) only [bd_e, ob_e, ow_ret_e, u1_at, u1_2, u2_at, u2_1, ↓reduceIte, false_and, true_and, and_true, and_false, not_true_eq_false, not_false_eq_true, decide_true, decide_false, Bool.true_and, Bool.false_and, Bool.and_true, Bool.and_false, Bool.or_false, Bool.false_or, Bool.true_or, Bool.or_true, ↓mI_lit, ↓mL_lit, nI_lit, lN_lit, nI_add, pk_mul, lN_add, lN_mul, nI_ltI, nI_eq, nI_clamp, ix_nI, ix_mI, nI_mI, mI_nI, lN_mL, mL_lN, mI_lt, lt_mI, pI_mI, pI_nI, pI_eq, pI_lt0, pI_e, Nat.not_lt_zero, Nat.zero_add, Nat.add_zero, ix_T, lt_T, lt_F, eq_T, eq_F, ln_95, m95, e]
        exact fin false rfl
      · have e2 : ¬ u = 0 := by omega
        have hm : mkN 30 (fun u => pa (h (2 + k)) t u) < 2 ^ 30 := mkN_lt _ _
        have hp := fin (pa (h (2 + k)) t (u - 1)) (by unfold pu; rw [decide_eq_true (p := 1 ≤ u) (by omega), Bool.true_and])
        simp (disch := omega) only [bd_e, ob_e, ow_ret_e, u1_at, u1_2, u2_at, u2_1, ↓reduceIte, false_and, true_and, and_true, and_false, not_true_eq_false, not_false_eq_true, decide_true, decide_false, Bool.true_and, Bool.false_and, Bool.and_true, Bool.and_false, Bool.or_false, Bool.false_or, Bool.true_or, Bool.or_true, ↓mI_lit, ↓mL_lit, nI_lit, lN_lit, nI_add, pk_mul, lN_add, lN_mul, nI_ltI, nI_eq, nI_clamp, ix_nI, ix_mI, nI_mI, mI_nI, lN_mL, mL_lN, mI_lt, lt_mI, pI_mI, pI_nI, pI_eq, pI_lt0, pI_e, Nat.not_lt_zero, Nat.zero_add, Nat.add_zero, ix_T, lt_T, lt_F, eq_T, eq_F, ln_95, ln_94, m95, e, e2, m94]
        rw [pI_pos z] at hp ⊢
        simp (disch := omega) only [bd_e, ob_e, ow_ret_e, u1_at, u1_2, u2_at, u2_1, ↓reduceIte, false_and, true_and, and_true, and_false, not_true_eq_false, not_false_eq_true, decide_true, decide_false, Bool.true_and, Bool.false_and, Bool.and_true, Bool.and_false, Bool.or_false, Bool.false_or, Bool.true_or, Bool.or_true, ↓mI_lit, ↓mL_lit, nI_lit, lN_lit, nI_add, pk_mul, lN_add, lN_mul, nI_ltI, nI_eq, nI_clamp, ix_nI, ix_mI, nI_mI, mI_nI, lN_mL, mL_lN, mI_lt, lt_mI, pI_mI, pI_nI, pI_eq, pI_lt0, pI_e, Nat.not_lt_zero, Nat.zero_add, Nat.add_zero, ix_T, lt_T, lt_F, eq_T, eq_F, e_X10_has, let_if, mkN_tb]
        exact hp
theorem e_X10_letting {d h} (V : VH h) (M : HM d h) {w k hour : Nat} (hk : k < h 0) (hw : w < 8) (hh : hour < 30) (b : Bool) : f_X10_letting (nI w) (nI k) (nI hour) (bI b) d = some (mkL (fun t => decide (t < TT h k) && (tl h w k t hour == b)), d) := by
  have hv := V.1
  have ht := tt_le V hk
  have m95 : d.1 95 k = nI (TT h k) := M.2.1 k hk
  have rest : (¬ (1 < w ∧ (w - 2) / 2 = k)) → f_X10_letting_50 (nI w) (nI k) (nI hour) (bI b) d = some (mkL (fun t => decide (t < TT h k) && (tl h w k t hour == b)), d) := by
    intro hne
    unfold f_X10_letting_50
    have z0 : mkL (fun i => decide (i < 0) && (pu (h (2 + k)) i (if w = 1 then hour else hour + 1) == b)) = 0 := by
      rw [show (0 : Int64) = lN 0 from rfl, mk_eq0]
      intro i _
      rfl
    have s := let_l V M hk (u := if w = 1 then hour else hour + 1) (by split <;> omega) b (TT h k) 0 FU (by omega) (by unfold FU; omega)
    rw [z0] at s
    rw [mk_congr (Q := fun t => decide (t < TT h k) && (pu (h (2 + k)) t (if w = 1 then hour else hour + 1) == b)) (fun i _ => by unfold tl; rw [if_neg hne])]
    rw [← s]
    by_cases c : w = 1
    · subst c
      rfl
    · simp (disch := omega) only [bd_e, ob_e, ow_ret_e, u1_at, u1_2, u2_at, u2_1, ↓reduceIte, false_and, true_and, and_true, and_false, not_true_eq_false, not_false_eq_true, decide_true, decide_false, Bool.true_and, Bool.false_and, Bool.and_true, Bool.and_false, Bool.or_false, Bool.false_or, Bool.true_or, Bool.or_true, ↓mI_lit, ↓mL_lit, nI_lit, lN_lit, nI_add, pk_mul, lN_add, lN_mul, nI_ltI, nI_eq, nI_clamp, ix_nI, ix_mI, nI_mI, mI_nI, lN_mL, mL_lN, mI_lt, lt_mI, pI_mI, pI_nI, pI_eq, pI_lt0, pI_e, Nat.not_lt_zero, Nat.zero_add, Nat.add_zero, ix_T, lt_T, lt_F, eq_T, eq_F, c, pI_s]
  unfold f_X10_letting
  simp (disch := omega) only [bd_e, ob_e, ow_ret_e, u1_at, u1_2, u2_at, u2_1, ↓reduceIte, false_and, true_and, and_true, and_false, not_true_eq_false, not_false_eq_true, decide_true, decide_false, Bool.true_and, Bool.false_and, Bool.and_true, Bool.and_false, Bool.or_false, Bool.false_or, Bool.true_or, Bool.or_true, ↓mI_lit, ↓mL_lit, nI_lit, lN_lit, nI_add, pk_mul, lN_add, lN_mul, nI_ltI, nI_eq, nI_clamp, ix_nI, ix_mI, nI_mI, mI_nI, lN_mL, mL_lN, mI_lt, lt_mI, pI_mI, pI_nI, pI_eq, pI_lt0, pI_e, Nat.not_lt_zero, Nat.zero_add, Nat.add_zero, ix_T, lt_T, lt_F, eq_T, eq_F, ln_95, m95, mk_full]
  by_cases c1 : 1 < w
  · simp (disch := omega) only [bd_e, ob_e, ow_ret_e, u1_at, u1_2, u2_at, u2_1, ↓reduceIte, false_and, true_and, and_true, and_false, not_true_eq_false, not_false_eq_true, decide_true, decide_false, Bool.true_and, Bool.false_and, Bool.and_true, Bool.and_false, Bool.or_false, Bool.false_or, Bool.true_or, Bool.or_true, ↓mI_lit, ↓mL_lit, nI_lit, lN_lit, nI_add, pk_mul, lN_add, lN_mul, nI_ltI, nI_eq, nI_clamp, ix_nI, ix_mI, nI_mI, mI_nI, lN_mL, mL_lN, mI_lt, lt_mI, pI_mI, pI_nI, pI_eq, pI_lt0, pI_e, Nat.not_lt_zero, Nat.zero_add, Nat.add_zero, ix_T, lt_T, lt_F, eq_T, eq_F, c1, pk_sub, q_div, q_rem]
    by_cases c2 : (w - 2) / 2 = k
    · simp (disch := omega) only [bd_e, ob_e, ow_ret_e, u1_at, u1_2, u2_at, u2_1, ↓reduceIte, false_and, true_and, and_true, and_false, not_true_eq_false, not_false_eq_true, decide_true, decide_false, Bool.true_and, Bool.false_and, Bool.and_true, Bool.and_false, Bool.or_false, Bool.false_or, Bool.true_or, Bool.or_true, c2]
      have tle : ∀ t, tl h w k t hour = decide (w % 2 = 1) := by
        intro t
        unfold tl
        rw [if_pos ⟨c1, c2⟩]
      by_cases c3 : w - w / 2 * 2 = 1
      · have c4 : w % 2 = 1 := by omega
        simp only [c3, c4, ↓reduceIte, tle, decide_true, nI_lit]
        unfold f_X10_letting_40
        cases b
        · rw [if_neg (by decide), show (0 : Int64) = lN 0 from rfl, mk_0]
          refine some_mk (fun i _ => ?_)
          simp
        · rw [if_pos (by decide)]
          refine some_mk (fun i _ => ?_)
          simp
      · have c4 : ¬ w % 2 = 1 := by omega
        simp only [c3, c4, ↓reduceIte, tle, decide_false, nI_lit]
        unfold f_X10_letting_40
        cases b
        · rw [if_pos (by decide)]
          refine some_mk (fun i _ => ?_)
          simp
        · rw [if_neg (by decide), show (0 : Int64) = lN 0 from rfl, mk_0]
          refine some_mk (fun i _ => ?_)
          simp
    · simp only [c2, ↓reduceIte]
      exact rest (fun z => c2 z.2)
  · simp only [c1, ↓reduceIte]
    exact rest (fun z => c1 z.1)
theorem e_X10_passing {d h} (V : VH h) (M : HM d h) {k hour : Nat} (hk : k < h 0) (hh : hour < 30) : f_X10_passing (nI k) (nI hour) d = some (mkL (fun t => pb (h (2 + k)) (h (5 + k)) t hour), d) := by
  unfold f_X10_passing
  have s := e_X10_letting V M (w := 0) hk (by omega) hh true
  rw [show f_X10_letting 0 (nI k) (nI hour) 1 d = f_X10_letting (nI 0) (nI k) (nI hour) (bI true) d from rfl, s, ob_e]
  refine some_mk (fun i _ => ?_)
  unfold tl pb pu TT
  simp
