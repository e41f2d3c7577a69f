-- PURE ROWS: the model's tellsOf
theorem q_bit {s k : Nat} (hs : s < 2 ^ 31) (hk : k < 32) : (nI s >>> (nI k &&& nI 31)) &&& nI 1 = nI (if s.testBit k = true then 1 else 0) := by
  rw [q_shr hs hk, nx_and]
  by_cases c : s.testBit k = true
  · rw [if_pos c]
    rw [q_tb1n.mpr c]
  · rw [if_neg c, Nat.and_one_is_mod]
    have h1 : ¬ (s / 2 ^ k &&& 1 = 1) := fun z => c (q_tb1n.mp z)
    rw [Nat.and_one_is_mod] at h1
    rw [show s / 2 ^ k % 2 = 0 by omega]
def TA (h : Nat → Nat) (u w k t : Nat) (b : Bool) : Bool := decide (t < TT h k) && (tl h w k t u == b)
def TD (h : Nat → Nat) (u w k : Nat) (d : DD) : Prop := ∀ w' k', w' < 2 + 2 * h 0 → k' < h 0 → (w' < w ∨ (w' = w ∧ k' < k)) → d.2 103 (6 * w' + 2 * k') = mkL (fun t => TA h u w' k' t false) ∧ d.2 103 (6 * w' + 2 * k' + 1) = mkL (fun t => TA h u w' k' t true)
theorem ta23 {h : Nat → Nat} {d0 : DD} (V : VH h) (M : HM d0 h) {u w : Nat} (hu : u < 30) (hw : w < 2 + 2 * h 0) (v1 v3 : Int32) (k14 : Int32 → Int32 → Int32 → Int32 → DD → Option (Unit × DD)) (Q : Unit → DD → Prop) (K : ∀ d, FR [103] d0 d → TD h u (w + 1) 0 d → OW (k14 v1 (nI u) v3 (nI (w + 1)) d) Q) : ∀ (m k f : Nat) (d : DD), k + m = h 0 → m < f → FR [103] d0 d → TD h u w k d → OW (f_X10_tellsOf_23 k14 f v1 (nI u) v3 (nI w) (nI k) d) Q := by
  have v0 := V.1
  intro m
  induction m with
  | zero =>
    intro k f d hi hf F G
    cases f with
    | zero => omega
    | succ f =>
      show OW (f_X10_tellsOf_23B k14 (f_X10_tellsOf_23 k14 f) _ _ _ _ _ _) Q
      unfold f_X10_tellsOf_23B
      have M' := (hm_fr M F (by decide) (by decide) (by decide)).1
      simp (disch := omega) only [bd_e, ob_e, ow_ret_e, u1_at, u1_2, u2_at, u2_1, ↓reduceIte, false_and, true_and, and_true, and_false, not_true_eq_false, not_false_eq_true, decide_true, decide_false, Bool.true_and, Bool.false_and, Bool.and_true, Bool.and_false, Bool.or_false, Bool.false_or, Bool.true_or, Bool.or_true, ↓mI_lit, ↓mL_lit, nI_lit, lN_lit, nI_add, pk_mul, lN_add, lN_mul, nI_ltI, nI_eq, nI_clamp, ix_nI, ix_mI, nI_mI, mI_nI, lN_mL, mL_lN, mI_lt, lt_mI, pI_mI, pI_nI, pI_eq, pI_lt0, pI_e, Nat.not_lt_zero, Nat.zero_add, Nat.add_zero, ix_T, lt_T, lt_F, eq_T, eq_F, ln_88, M']
      exact K d F (fun w' k' a b c => G w' k' a b (by omega))
  | succ m ih =>
    intro k f d hi hf F G
    cases f with
    | zero => omega
    | succ f =>
      show OW (f_X10_tellsOf_23B k14 (f_X10_tellsOf_23 k14 f) _ _ _ _ _ _) Q
      unfold f_X10_tellsOf_23B
      have hk : k < h 0 := by omega
      have MM := hm_fr M F (by decide) (by decide) (by decide)
      have e1 := e_X10_letting V MM (w := w) hk (by omega) hu false
      have F1 : FR [103] d (u2 d 103 (6 * w + 2 * k) (mkL (fun t => TA h u w k t false))) := fr_u2 (fr_refl _ _) (by decide)
      have e2 := e_X10_letting V (hm_fr MM F1 (by decide) (by decide) (by decide)) (w := w) hk (by omega) hu true
      rw [show f_X10_letting (nI w) (nI k) (nI u) 0 d = _ from e1, ob_e]
      simp (disch := omega) only [↓mI_lit, ↓mL_lit, nI_lit, lN_lit, nI_add, pk_mul, lN_add, lN_mul, nI_ltI, nI_eq, nI_clamp, ix_nI, ix_mI, nI_mI, mI_nI, lN_mL, mL_lN, mI_lt, lt_mI, pI_mI, pI_nI, pI_eq, pI_lt0, pI_e, Nat.not_lt_zero, Nat.zero_add, Nat.add_zero, ix_T, lt_T, lt_F, eq_T, eq_F, ln_103, ln_88, MM.1, ↓reduceIte, bd_e]
      rw [show f_X10_letting (nI w) (nI k) (nI u) (nI 1) (u2 d 103 (6 * w + 2 * k) (mkL fun t => decide (t < TT h k) && tl h w k t u == false)) = _ from e2, ob_e]
      refine ih (k + 1) f _ (by omega) (by omega) (fr_u2 (fr_trans F F1) (by decide)) ?_
      intro w' k' h1 h2 h3
      rw [u2_at, u2_at, u2_at, u2_at]
      by_cases q : 6 * w' + 2 * k' = 6 * w + 2 * k
      · have g1 : k' = k := by omega
        have g2 : w' = w := by omega
        subst g1 g2
        rw [if_neg (by omega), if_pos ⟨rfl, rfl⟩, if_pos ⟨rfl, rfl⟩]
        exact ⟨rfl, rfl⟩
      · rw [if_neg (by omega), if_neg (by omega), if_neg (by omega), if_neg (by omega)]
        exact G w' k' h1 h2 (by omega)
theorem ta14 {h : Nat → Nat} {d0 : DD} (V : VH h) (M : HM d0 h) {u : Nat} (hu : u < 30) (v1 : Int32) (Q : Unit → DD → Prop) (K : ∀ d, FR [103] d0 d → TD h u (2 + 2 * h 0) 0 d → OW (f_X10_tellsOf_101 FU v1 (0 : Int32) d) Q) : ∀ (m w f : Nat) (d : DD), w + m = 2 + 2 * h 0 → m < f → FR [103] d0 d → TD h u w 0 d → OW (f_X10_tellsOf_14 f v1 (nI u) (nI (2 + 2 * h 0)) (nI w) d) Q := by
  have v0 := V.1
  intro m
  induction m with
  | zero =>
    intro w f d hi hf F G
    cases f with
    | zero => omega
    | succ f =>
      show OW (f_X10_tellsOf_14B (f_X10_tellsOf_14 f) _ _ _ _ _) Q
      unfold f_X10_tellsOf_14B
      rw [if_neg (by rw [nI_ltI (by omega) (by omega)]; omega)]
      exact K d F (fun w' k' a b c => G w' k' a b (by omega))
  | succ m ih =>
    intro w f d hi hf F G
    cases f with
    | zero => omega
    | succ f =>
      show OW (f_X10_tellsOf_14B (f_X10_tellsOf_14 f) _ _ _ _ _) Q
      unfold f_X10_tellsOf_14B
      rw [if_pos (by rw [nI_ltI (by omega) (by omega)]; omega)]
      exact ta23 V M hu (by omega) v1 _ _ Q (fun d' F' G' => ih (w + 1) f d' (by omega) (by omega) F' G') (h 0) 0 FU d (by omega) (by unfold FU; omega) F G
theorem ta101 {d0 : DD} (v1 : Int32) (Q : Unit → DD → Prop) (K : ∀ d, FR [102] d0 d → (∀ j, j < 8 → d.2 102 j = lN 0) → OW ((f_X10_firstWays d).bind fun q2 => f_X10_tellsOf_126 FU v1 q2.2) Q) : ∀ (m v f : Nat) (d : DD), v + m = 8 → m < f → FR [102] d0 d → (∀ j, j < v → d.2 102 j = lN 0) → OW (f_X10_tellsOf_101 f v1 (nI v) d) Q := by
  intro m
  induction m with
  | zero =>
    intro v f d hi hf F G
    cases f with
    | zero => omega
    | succ f =>
      show OW (f_X10_tellsOf_101B (f_X10_tellsOf_101 f) _ _ _) _
      unfold f_X10_tellsOf_101B
      rw [if_neg (by rw [nI_lit, nI_ltI (by omega) (by omega)]; omega)]
      have e : v = 8 := by omega
      subst e
      exact K d F G
  | succ m ih =>
    intro v f d hi hf F G
    cases f with
    | zero => omega
    | succ f =>
      show OW (f_X10_tellsOf_101B (f_X10_tellsOf_101 f) _ _ _) _
      unfold f_X10_tellsOf_101B
      rw [if_pos (by rw [nI_lit, nI_ltI (by omega) (by omega)]; omega), if_pos ((ix_nI (by omega)).mpr (by rw [ln_102]; omega))]
      simp (disch := omega) only [bd_e, ob_e, ow_ret_e, u1_at, u1_2, u2_at, u2_1, ↓reduceIte, false_and, true_and, and_true, and_false, not_true_eq_false, not_false_eq_true, decide_true, decide_false, Bool.true_and, Bool.false_and, Bool.and_true, Bool.and_false, Bool.or_false, Bool.false_or, Bool.true_or, Bool.or_true, ↓mI_lit, ↓mL_lit, nI_lit, lN_lit, nI_add, pk_mul, lN_add, lN_mul, nI_ltI, nI_eq, nI_clamp, ix_nI, ix_mI, nI_mI, mI_nI, lN_mL, mL_lN, mI_lt, lt_mI, pI_mI, pI_nI, pI_eq, pI_lt0, pI_e, Nat.not_lt_zero, Nat.zero_add, Nat.add_zero]
      refine ih (v + 1) f _ (by omega) (by omega) (fr_u2 F (by decide)) (fun j hj => ?_)
      rw [u2_at]
      by_cases e : j = v
      · rw [if_pos ⟨rfl, e⟩]
      · rw [if_neg (fun z => e z.2)]
        exact G j (by omega)
def TF (h : Nat → Nat) (n a u : Nat) (c : Nat → Nat) (s k : Nat) : Nat := cnt 64 (fun t => WM h n c k t && TA h u (c a) k t (s.testBit k))
theorem ta162 {h : Nat → Nat} {d : DD} (V : VH h) (M : HM d h) {n a u : Nat} (ha : a < h 1) {c : Nat → Nat} (C : CV h c) (D : WD h c d) (E : WE h n c d) (T : TD h u (2 + 2 * h 0) 0 d) {s : Nat} (hs : s < 2 ^ h 0) (k126 : Int32 → DD → Option (Unit × DD)) (k143 : Int32 → Int32 → DD → Option (Unit × DD)) {acc : Nat} (hacc : d.2 102 s = lN acc) : ∀ (m k f : Nat), k + m = h 0 → m < f → f_X10_tellsOf_162 k126 k143 f (nI a) (nI s) (lN (pn (TF h n a u c s) k)) (nI k) d = k143 (nI a) (nI (s + 1)) (u2 d 102 s (lN (acc + pn (TF h n a u c s) (h 0)))) := by
  have v0 := V.1
  have v1 := V.2.1
  have ca := C a ha
  have hl : 2 ^ h 0 ≤ 2 ^ 3 := Nat.pow_le_pow_right (by decide) v0
  have pl : ∀ n', n' ≤ 3 → pn (TF h n a u c s) n' ≤ 64 ^ 3 := by
    intro n' hn'
    have : ∀ n', pn (TF h n a u c s) n' ≤ 64 ^ n' := by
      intro n'
      induction n' with
      | zero => exact Nat.le_refl _
      | succ n' ih =>
        rw [pn, Nat.pow_succ]
        exact Nat.mul_le_mul ih (cnt_le _ _)
    exact Nat.le_trans (this n') (Nat.pow_le_pow_right (by decide) hn')
  have fin : ∀ x, x = pn (TF h n a u c s) (h 0) → f_X10_tellsOf_230 k126 k143 (nI a) (nI s) (lN x) d = k143 (nI a) (nI (s + 1)) (u2 d 102 s (lN (acc + pn (TF h n a u c s) (h 0)))) := by
    intro x hx
    subst hx
    unfold f_X10_tellsOf_230
    simp (disch := omega) only [bd_e, ob_e, ow_ret_e, u1_at, u1_2, u2_at, u2_1, ↓reduceIte, false_and, true_and, and_true, and_false, not_true_eq_false, not_false_eq_true, decide_true, decide_false, Bool.true_and, Bool.false_and, Bool.and_true, Bool.and_false, Bool.or_false, Bool.false_or, Bool.true_or, Bool.or_true, ↓mI_lit, ↓mL_lit, nI_lit, lN_lit, nI_add, pk_mul, lN_add, lN_mul, nI_ltI, nI_eq, nI_clamp, ix_nI, ix_mI, nI_mI, mI_nI, lN_mL, mL_lN, mI_lt, lt_mI, pI_mI, pI_nI, pI_eq, pI_lt0, pI_e, Nat.not_lt_zero, Nat.zero_add, Nat.add_zero, ix_T, lt_T, lt_F, eq_T, eq_F, ln_102, hacc]
  have z0 : ∀ k', k' ≤ h 0 → pn (TF h n a u c s) k' = 0 → pn (TF h n a u c s) (h 0) = 0 := by
    intro k' hk' hz
    obtain ⟨j, hj⟩ := Nat.exists_eq_add_of_le hk'
    rw [hj]
    clear hj
    induction j with
    | zero => exact hz
    | succ j ih => rw [← Nat.add_assoc, pn, ih, Nat.zero_mul]
  intro m
  induction m with
  | zero =>
    intro k f hi hf
    cases f with
    | zero => omega
    | succ f =>
      show f_X10_tellsOf_162B k126 k143 (f_X10_tellsOf_162 k126 k143 f) _ _ _ _ _ = _
      unfold f_X10_tellsOf_162B
      have e : k = h 0 := by omega
      subst e
      simp (disch := omega) only [bd_e, ob_e, ow_ret_e, u1_at, u1_2, u2_at, u2_1, ↓reduceIte, false_and, true_and, and_true, and_false, not_true_eq_false, not_false_eq_true, decide_true, decide_false, Bool.true_and, Bool.false_and, Bool.and_true, Bool.and_false, Bool.or_false, Bool.false_or, Bool.true_or, Bool.or_true, ↓mI_lit, ↓mL_lit, nI_lit, lN_lit, nI_add, pk_mul, lN_add, lN_mul, nI_ltI, nI_eq, nI_clamp, ix_nI, ix_mI, nI_mI, mI_nI, lN_mL, mL_lN, mI_lt, lt_mI, pI_mI, pI_nI, pI_eq, pI_lt0, pI_e, Nat.not_lt_zero, Nat.zero_add, Nat.add_zero, ix_T, lt_T, lt_F, eq_T, eq_F, ln_88, M.1]
      exact fin _ rfl
  | succ m ih =>
    intro k f hi hf
    cases f with
    | zero => omega
    | succ f =>
      show f_X10_tellsOf_162B k126 k143 (f_X10_tellsOf_162 k126 k143 f) _ _ _ _ _ = _
      unfold f_X10_tellsOf_162B
      have hk : k < h 0 := by omega
      have st := ih (k + 1) f (by omega) (by omega)
      rw [pn] at st
      have pk := pl k (by omega)
      have e6 : d.2 103 (6 * c a + 2 * k + (if s.testBit k = true then 1 else 0)) = mkL (fun t => TA h u (c a) k t (s.testBit k)) := by
        have := T (c a) k ca hk (Or.inl ca)
        cases q : s.testBit k
        · rw [if_neg (by decide)]; exact this.1
        · rw [if_pos rfl]; exact this.2
      have b6 : (if s.testBit k = true then 1 else 0) ≤ 1 := by split <;> omega
      have cl : TF h n a u c s k ≤ 64 := cnt_le _ _
      unfold TF at cl
      by_cases p : 0 < pn (TF h n a u c s) k
      · simp (disch := omega) only [bd_e, ob_e, ow_ret_e, u1_at, u1_2, u2_at, u2_1, ↓reduceIte, false_and, true_and, and_true, and_false, not_true_eq_false, not_false_eq_true, decide_true, decide_false, Bool.true_and, Bool.false_and, Bool.and_true, Bool.and_false, Bool.or_false, Bool.false_or, Bool.true_or, Bool.or_true, ↓mI_lit, ↓mL_lit, nI_lit, lN_lit, nI_add, pk_mul, lN_add, lN_mul, nI_ltI, nI_eq, nI_clamp, ix_nI, ix_mI, nI_mI, mI_nI, lN_mL, mL_lN, mI_lt, lt_mI, pI_mI, pI_nI, pI_eq, pI_lt0, pI_e, Nat.not_lt_zero, Nat.zero_add, Nat.add_zero, ix_T, lt_T, lt_F, eq_T, eq_F, ln_88, ln_97, ln_98, ln_103, M.1, lN_lt, D a ha, E k hk, q_bit, e6, mk_and, e_X10_bitsm, nI_l]
        exact st
      · simp (disch := omega) only [bd_e, ob_e, ow_ret_e, u1_at, u1_2, u2_at, u2_1, ↓reduceIte, false_and, true_and, and_true, and_false, not_true_eq_false, not_false_eq_true, decide_true, decide_false, Bool.true_and, Bool.false_and, Bool.and_true, Bool.and_false, Bool.or_false, Bool.false_or, Bool.true_or, Bool.or_true, ↓mI_lit, ↓mL_lit, nI_lit, lN_lit, nI_add, pk_mul, lN_add, lN_mul, nI_ltI, nI_eq, nI_clamp, ix_nI, ix_mI, nI_mI, mI_nI, lN_mL, mL_lN, mI_lt, lt_mI, pI_mI, pI_nI, pI_eq, pI_lt0, pI_e, Nat.not_lt_zero, Nat.zero_add, Nat.add_zero, ix_T, lt_T, lt_F, eq_T, eq_F, ln_88, M.1, lN_lt]
        exact fin _ (by rw [z0 k (by omega) (by omega)]; omega)
def SJ (h : Nat → Nat) (n a u : Nat) (d0 d : DD) (s : Nat) (c : Nat → Nat) (G : Nat → Nat) : Prop := ∀ j, j < 8 → d.2 102 j = lN (G j + (if j < s then pn (TF h n a u c j) (h 0) else 0))
theorem ta143 {h : Nat → Nat} {d0 : DD} (V : VH h) (M : HM d0 h) {n a u : Nat} (ha : a < h 1) {c : Nat → Nat} (C : CV h c) (D : WD h c d0) (E : WE h n c d0) (T : TD h u (2 + 2 * h 0) 0 d0) (k126 : Int32 → DD → Option (Unit × DD)) (Q : Unit → DD → Prop) (G : Nat → Nat) (K : ∀ d, FR [102] d0 d → SJ h n a u d0 d (2 ^ h 0) c G → OW (f_X10_tellsOf_248 k126 (nI a) d) Q) : ∀ (m s f : Nat) (d : DD), s + m = 2 ^ h 0 → m < f → FR [102] d0 d → SJ h n a u d0 d s c G → OW (f_X10_tellsOf_143 k126 f (nI a) (nI s) d) Q := by
  have v0 := V.1
  have hl : 2 ^ h 0 ≤ 2 ^ 3 := Nat.pow_le_pow_right (by decide) v0
  intro m
  induction m with
  | zero =>
    intro s f d hi hf F I
    cases f with
    | zero => omega
    | succ f =>
      show OW (f_X10_tellsOf_143B k126 (f_X10_tellsOf_143 k126 f) _ _ _) _
      unfold f_X10_tellsOf_143B
      have M' := (hm_fr M F (by decide) (by decide) (by decide)).1
      have e : s = 2 ^ h 0 := by omega
      subst e
      simp (disch := omega) only [bd_e, ob_e, ow_ret_e, u1_at, u1_2, u2_at, u2_1, ↓reduceIte, false_and, true_and, and_true, and_false, not_true_eq_false, not_false_eq_true, decide_true, decide_false, Bool.true_and, Bool.false_and, Bool.and_true, Bool.and_false, Bool.or_false, Bool.false_or, Bool.true_or, Bool.or_true, ↓mI_lit, ↓mL_lit, nI_lit, lN_lit, nI_add, pk_mul, lN_add, lN_mul, nI_ltI, nI_eq, nI_clamp, ix_nI, ix_mI, nI_mI, mI_nI, lN_mL, mL_lN, mI_lt, lt_mI, pI_mI, pI_nI, pI_eq, pI_lt0, pI_e, Nat.not_lt_zero, Nat.zero_add, Nat.add_zero, ix_T, lt_T, lt_F, eq_T, eq_F, ln_88, M', q_shl]
      exact K d F I
  | succ m ih =>
    intro s f d hi hf F I
    cases f with
    | zero => omega
    | succ f =>
      show OW (f_X10_tellsOf_143B k126 (f_X10_tellsOf_143 k126 f) _ _ _) _
      unfold f_X10_tellsOf_143B
      have MM := hm_fr M F (by decide) (by decide) (by decide)
      have D' : WD h c d := fun i hi' => by rw [(F 98 (by decide)).1]; exact D i hi'
      have E' : WE h n c d := fun i hi' => by rw [(F 97 (by decide)).2]; exact E i hi'
      have T' : TD h u (2 + 2 * h 0) 0 d := fun w' k' x y z => by rw [(F 103 (by decide)).2]; exact T w' k' x y z
      have I' := I s (by omega)
      rw [if_neg (by omega), Nat.add_zero] at I'
      have st := ta162 V MM ha C D' E' T' (s := s) (by omega) k126 (f_X10_tellsOf_143 k126 f) I' (h 0) 0 FU (by omega) (by unfold FU; omega)
      have st2 : f_X10_tellsOf_162 k126 (f_X10_tellsOf_143 k126 f) FU (nI a) (nI s) (lN 1) (nI 0) d = _ := st
      simp (disch := omega) only [bd_e, ob_e, ow_ret_e, u1_at, u1_2, u2_at, u2_1, ↓reduceIte, false_and, true_and, and_true, and_false, not_true_eq_false, not_false_eq_true, decide_true, decide_false, Bool.true_and, Bool.false_and, Bool.and_true, Bool.and_false, Bool.or_false, Bool.false_or, Bool.true_or, Bool.or_true, ↓mI_lit, ↓mL_lit, nI_lit, lN_lit, nI_add, pk_mul, lN_add, lN_mul, nI_ltI, nI_eq, nI_clamp, ix_nI, ix_mI, nI_mI, mI_nI, lN_mL, mL_lN, mI_lt, lt_mI, pI_mI, pI_nI, pI_eq, pI_lt0, pI_e, Nat.not_lt_zero, Nat.zero_add, Nat.add_zero, ix_T, lt_T, lt_F, eq_T, eq_F, ln_88, MM.1, q_shl, st2]
      refine ih (s + 1) f _ (by omega) (by omega) (fr_u2 F (by decide)) (fun j hj => ?_)
      rw [u2_at]
      by_cases e : j = s
      · subst e
        rw [if_pos ⟨rfl, rfl⟩, if_pos (by omega)]
      · rw [if_neg (fun z => e z.2), I j hj]
        by_cases q : j < s
        · rw [if_pos q, if_pos (by omega)]
        · rw [if_neg q, if_neg (by omega)]
def TS (h : Nat → Nat) (n a u s : Nat) : Nat := if s < 2 ^ h 0 then sm (fun c => pn (TF h n a u c s) (h 0)) (cm h (h 1)) else 0
theorem pn_zero {F : Nat → Nat} {k : Nat} : ∀ {n : Nat}, k < n → F k = 0 → pn F n = 0
  | 0, h, _ => absurd h (Nat.not_lt_zero _)
  | n + 1, h, z => by
    unfold pn
    rcases Nat.lt_or_ge k n with q | q
    · rw [pn_zero q z, Nat.zero_mul]
    · have : k = n := by omega
      rw [← this, z, Nat.mul_zero]
theorem pn_zero' {F : Nat → Nat} : ∀ {n : Nat}, pn F n = 0 → ∃ k, k < n ∧ F k = 0
  | 0, h => absurd (show (1 : Nat) = 0 from h) (by decide)
  | n + 1, h => by
    unfold pn at h
    rcases Nat.mul_eq_zero.mp h with q | q
    · obtain ⟨k, hk, hz⟩ := pn_zero' q
      exact ⟨k, by omega, hz⟩
    · exact ⟨n, by omega, q⟩
theorem tf_zero {h : Nat → Nat} {n a u : Nat} {c : Nat → Nat} (hz : pn (PC h n c FT) (h 0) = 0) (s : Nat) : pn (TF h n a u c s) (h 0) = 0 := by
  obtain ⟨k, hk, z⟩ := pn_zero' hz
  refine pn_zero hk ?_
  rw [pc_ft] at z
  unfold WC at z
  unfold TF
  apply cnt_0
  intro i hi
  rw [cnt_0_iff.mp z i hi, Bool.false_and]
theorem pc_le {h : Nat → Nat} (V : VH h) (n : Nat) (c : Nat → Nat) (F : Nat → Nat → Bool) : pn (PC h n c F) (h 0) ≤ 64 ^ 3 := by
  have v0 := V.1
  have : ∀ m, pn (PC h n c F) m ≤ 64 ^ m := by
    intro m
    induction m with
    | zero => exact Nat.le_refl _
    | succ m ih =>
      rw [pn, Nat.pow_succ]
      exact Nat.mul_le_mul ih (cnt_le _ _)
  exact Nat.le_trans (this (h 0)) (Nat.pow_le_pow_right (by decide) v0)
theorem e_X10_tellsOf {h : Nat → Nat} {d : DD} (V : VH h) (M : HM d h) {n a u : Nat} (L : LT h n d) (ha : a < h 1) (hu : u < 30) : OW (f_X10_tellsOf (nI a) (nI u) d) (fun _ d' => FR [97, 98, 102, 103] d d' ∧ ∀ j, j < 8 → d'.2 102 j = lN (TS h n a u j)) := by
  have v0 := V.1
  have hl : 2 ^ h 0 ≤ 2 ^ 3 := Nat.pow_le_pow_right (by decide) v0
  unfold f_X10_tellsOf
  simp (disch := omega) only [bd_e, ob_e, ow_ret_e, u1_at, u1_2, u2_at, u2_1, ↓reduceIte, false_and, true_and, and_true, and_false, not_true_eq_false, not_false_eq_true, decide_true, decide_false, Bool.true_and, Bool.false_and, Bool.and_true, Bool.and_false, Bool.or_false, Bool.false_or, Bool.true_or, Bool.or_true, ↓mI_lit, ↓mL_lit, nI_lit, lN_lit, nI_add, pk_mul, lN_add, lN_mul, nI_ltI, nI_eq, nI_clamp, ix_nI, ix_mI, nI_mI, mI_nI, lN_mL, mL_lN, mI_lt, lt_mI, pI_mI, pI_nI, pI_eq, pI_lt0, pI_e, Nat.not_lt_zero, Nat.zero_add, Nat.add_zero, ix_T, lt_T, lt_F, eq_T, eq_F, ln_88, M.1]
  refine ta14 (d0 := d) V M hu (nI a) _ ?_ (2 + 2 * h 0) 0 FU d (by omega) (by unfold FU; omega) (fr_refl _ _) (fun w' k' _ _ z => by omega)
  intro da Fa Ta
  refine ta101 (d0 := da) (nI a) _ ?_ 8 0 FU da (by omega) (by unfold FU; omega) (fr_refl _ _) (fun j hj => by omega)
  intro db Fb Gb
  have Mb := hm_fr (hm_fr M Fa (by decide) (by decide) (by decide)) Fb (by decide) (by decide) (by decide)
  have Lb := lt_fr (lt_fr L Fa (by decide)) Fb (by decide)
  refine ow_call (e_X10_firstWays V Mb Lb) ?_
  intro _ d2 H2
  have M2 := hm_fr Mb H2.1 (by decide) (by decide) (by decide)
  have L2 := lt_fr Lb H2.1 (by decide)
  have FF : FR [97, 98, 102, 103] d d2 := fr_trans (fr_mono Fa (by decide)) (fr_trans (fr_mono Fb (by decide)) (fr_mono H2.1 (by decide)))
  have T2 : TD h u (2 + 2 * h 0) 0 d2 := fun w' k' x y z => by
    rw [(H2.1 103 (by decide)).2, (Fb 103 (by decide)).2]; exact Ta w' k' x y z
  have G2 : ∀ j, j < 8 → d2.2 102 j = lN 0 := fun j hj => by rw [(H2.1 102 (by decide)).2]; exact Gb j hj
  have v0 := V.1
  have v1 := V.2.1
  obtain ⟨lx, el⟩ := cm_head V (h 1) (Nat.le_refl _)
  have ch := cm_chx V (h 1) (Nat.le_refl _)
  have len := cm_len V (h 1)
  have l4 : 8 ^ h 1 ≤ 8 ^ 4 := Nat.pow_le_pow_right (by decide) v1
  have cv : ∀ x, x ∈ cm h (h 1) → CV h x := fun x hx => cm_cv hx
  rw [el] at ch len cv
  rw [List.length_cons] at len
  refine odo V M2 L2 [97, 98, 102] (by decide) (by decide) (by decide) (by decide) (by decide) (fun f (_ : Unit) d => f_X10_tellsOf_126 f (nI a) d) (fun _ d => some ((), d)) _ (fun l _ d => ∀ j, j < 8 → ∃ b, d.2 102 j = lN b ∧ b + (if j < 2 ^ h 0 then sm (fun c => pn (TF h n a u c j) (h 0)) l else 0) = TS h n a u j) ?_ ?_ lx (fw h) FU () d2 ch cv (by unfold FU; omega) (fr_refl _ _) H2.2.1 H2.2.2 ?_
  · intro f c l s d' C F D E j K
    show OW (f_X10_tellsOf_126B (f_X10_tellsOf_126 f) _ _) _
    unfold f_X10_tellsOf_126B
    have M' := hm_fr M2 F (by decide) (by decide) (by decide)
    have hle := pc_le V n c FT
    simp (disch := omega) only [bd_e, ob_e, ow_ret_e, u1_at, u1_2, u2_at, u2_1, ↓reduceIte, false_and, true_and, and_true, and_false, not_true_eq_false, not_false_eq_true, decide_true, decide_false, Bool.true_and, Bool.false_and, Bool.and_true, Bool.and_false, Bool.or_false, Bool.false_or, Bool.true_or, Bool.or_true, ↓mI_lit, wn_all V M' E, lN_lit, lN_eq]
    by_cases e : pn (PC h n c FT) (h 0) = 0
    · rw [if_pos e]
      unfold f_X10_tellsOf_248
      refine K () d' F D (fun d'' F'' j' hj' => ?_)
      obtain ⟨b, eb, hb⟩ := j j' hj'
      rw [(F'' 102 (by decide)).2]
      refine ⟨b, eb, ?_⟩
      rw [← hb]
      show _ = b + (if j' < 2 ^ h 0 then pn (TF h n a u c j') (h 0) + _ else 0)
      rw [tf_zero e j', Nat.zero_add]
    · rw [if_neg e]
      have jj : ∃ G : Nat → Nat, ∀ j', j' < 8 → d'.2 102 j' = lN (G j') ∧ G j' + (if j' < 2 ^ h 0 then sm (fun c => pn (TF h n a u c j') (h 0)) (c :: l) else 0) = TS h n a u j' := by
        refine ⟨fun j' => if hj' : j' < 8 then Classical.choose (j j' hj') else 0, fun j' hj' => ?_⟩
        dsimp only
        rw [dif_pos hj']
        exact Classical.choose_spec (j j' hj')
      obtain ⟨G, hG⟩ := jj
      have T' : TD h u (2 + 2 * h 0) 0 d' := fun w' k' x y z => by rw [(F 103 (by decide)).2]; exact T2 w' k' x y z
      refine ta143 V M' ha C D E T' _ _ G ?_ (2 ^ h 0) 0 FU d' (by omega) (by unfold FU; omega) (fr_refl _ _) ?_
      · intro d3 F3 I3
        unfold f_X10_tellsOf_248
        refine K () d3 (fr_trans F (fr_mono F3 (by decide))) (fun i hi' => by rw [(F3 98 (by decide)).1]; exact D i hi') (fun d'' F'' j' hj' => ?_)
        rw [(F'' 102 (by decide)).2, I3 j' hj']
        refine ⟨_, rfl, ?_⟩
        rw [← (hG j' hj').2]
        by_cases q : j' < 2 ^ h 0
        · rw [if_pos q, if_pos q, if_pos q]
          show _ + _ + _ = _ + (pn (TF h n a u c j') (h 0) + _)
          omega
        · rw [if_neg q, if_neg q, if_neg q]
      · intro j' hj'
        rw [(hG j' hj').1]
        rfl
  · intro s d3 F j
    refine ow_ret ⟨fr_trans FF (fr_mono F (by decide)), fun j' hj' => ?_⟩
    obtain ⟨b, eb, hb⟩ := j j' hj'
    rw [eb, ← hb]
    show lN b = lN (b + (if j' < 2 ^ h 0 then 0 else 0))
    rw [ite_self]
    rfl
  · intro j' hj'
    refine ⟨0, G2 j' hj', ?_⟩
    unfold TS
    rw [el, Nat.zero_add]
