-- PURE ROWS: frames; the model's letAll
def FR (S : List Nat) (d d' : DD) : Prop := ∀ a, a ∉ S → d'.1 a = d.1 a ∧ d'.2 a = d.2 a
theorem fr_refl (S : List Nat) (d : DD) : FR S d d := fun _ _ => ⟨rfl, rfl⟩
theorem fr_trans {S : List Nat} {d d' d'' : DD} (h : FR S d d') (g : FR S d' d'') : FR S d d'' := fun a ha => ⟨(g a ha).1.trans (h a ha).1, (g a ha).2.trans (h a ha).2⟩
theorem fr_mono {S T : List Nat} {d d' : DD} (h : FR S d d') (hs : ∀ a, a ∈ S → a ∈ T) : FR T d d' := fun a ha => h a (fun z => ha (hs a z))
theorem fr_u1 {S : List Nat} {d d' : DD} {a i : Nat} {x : Int32} (h : FR S d d') (ha : a ∈ S) : FR S d (u1 d' a i x) := fun b hb => by
  have e : b ≠ a := fun z => hb (z ▸ ha)
  refine ⟨?_, (h b hb).2⟩
  rw [← (h b hb).1]
  funext j
  exact u1_ne e j
theorem fr_u2 {S : List Nat} {d d' : DD} {a i : Nat} {x : Int64} (h : FR S d d') (ha : a ∈ S) : FR S d (u2 d' a i x) := fun b hb => by
  have e : b ≠ a := fun z => hb (z ▸ ha)
  refine ⟨(h b hb).1, ?_⟩
  rw [← (h b hb).2]
  funext j
  exact u2_ne e j
theorem hm_fr {S : List Nat} {d d' : DD} {h : Nat → Nat} (M : HM d h) (F : FR S d d') (h1 : 88 ∉ S) (h2 : 94 ∉ S) (h3 : 95 ∉ S) : HM d' h := by
  refine ⟨?_, ?_, ?_⟩
  · rw [(F 88 h1).1]; exact M.1
  · rw [(F 95 h3).1]; exact M.2.1
  · rw [(F 94 h2).1]; exact M.2.2
def hd (h : Nat → Nat) (a w k t : Nat) : Nat → Bool
  | 0 => true
  | n + 1 => hd h a w k t n && (decide (h (170 + 3 * n) ≠ a) || (tl h w k t (h (170 + 3 * n + 1)) == (h (170 + 3 * n + 2)).testBit k))
def LM (h : Nat → Nat) (n a w k t : Nat) : Bool := decide (t < TT h k) && hd h a w k t n
theorem la58 {h : Nat → Nat} {d : DD} (V : VH h) (M : HM d h) {n a w k : Nat} (hn : n ≤ h 169) (ha : a < h 1) (hw : w < 2 + 2 * h 0) (hk : k < h 0) (k2 : Int32 → Int32 → DD → Option (Unit × DD)) (k14 : Int32 → Int32 → Int32 → DD → Option (Unit × DD)) (k31 : Int32 → Int32 → Int32 → Int32 → DD → Option (Unit × DD)) : ∀ (m i f : Nat), i + m = n → m < f → f_X10_letAll_58 k2 k14 k31 f (nI n) (nI a) (nI w) (nI k) (mkL (LM h i a w k)) (nI i) d = k31 (nI n) (nI a) (nI w) (nI (k + 1)) (u2 d 96 (24 * a + 3 * w + k) (mkL (LM h n a w k))) := by
  have v0 := V.1
  have v1 := V.2.1
  have v2 := V.2.2.2.2.2.2.2.1
  have hm := M.1
  intro m
  induction m with
  | zero =>
    intro i f hi hf
    cases f with
    | zero => omega
    | succ f =>
      show f_X10_letAll_58B k2 k14 k31 (f_X10_letAll_58 k2 k14 k31 f) _ _ _ _ _ _ _ = _
      unfold f_X10_letAll_58B
      have e : i = n := by omega
      subst e
      simp (disch := omega) only [bd_e, ob_e, ow_ret_e, u1_at, u1_2, u2_at, u2_1, ↓reduceIte, false_and, true_and, and_true, and_false, not_true_eq_false, not_false_eq_true, decide_true, decide_false, Bool.true_and, Bool.false_and, Bool.and_true, Bool.and_false, Bool.or_false, Bool.false_or, Bool.true_or, Bool.or_true, ↓mI_lit, ↓mL_lit, nI_lit, lN_lit, nI_add, pk_mul, lN_add, lN_mul, nI_ltI, nI_eq, nI_clamp, ix_nI, ix_mI, nI_mI, mI_nI, lN_mL, mL_lN, mI_lt, lt_mI, pI_mI, pI_nI, pI_eq, pI_lt0, pI_e, Nat.not_lt_zero, Nat.zero_add, Nat.add_zero, ix_T, lt_T, lt_F, eq_T, eq_F, ln_96]
  | succ m ih =>
    intro i f hi hf
    cases f with
    | zero => omega
    | succ f =>
      show f_X10_letAll_58B k2 k14 k31 (f_X10_letAll_58 k2 k14 k31 f) _ _ _ _ _ _ _ = _
      unfold f_X10_letAll_58B
      have hi2 : i < h 169 := by omega
      have vt := V.2.2.2.2.2.2.2.2 i hi2
      have hl : 2 ^ h 0 ≤ 2 ^ 3 := Nat.pow_le_pow_right (by decide) v0
      have s := ih (i + 1) f (by omega) (by omega)
      by_cases c : h (170 + 3 * i) = a
      · have el := e_X10_letting V M (w := w) hk (by omega) vt.2.1 ((h (170 + 3 * i + 2)).testBit k)
        have eh := e_X10_has (s := h (170 + 3 * i + 2)) (k := k) (by omega) (by omega) d
        simp (disch := omega) only [bd_e, ob_e, ow_ret_e, u1_at, u1_2, u2_at, u2_1, ↓reduceIte, false_and, true_and, and_true, and_false, not_true_eq_false, not_false_eq_true, decide_true, decide_false, Bool.true_and, Bool.false_and, Bool.and_true, Bool.and_false, Bool.or_false, Bool.false_or, Bool.true_or, Bool.or_true, ↓mI_lit, ↓mL_lit, nI_lit, lN_lit, nI_add, pk_mul, lN_add, lN_mul, nI_ltI, nI_eq, nI_clamp, ix_nI, ix_mI, nI_mI, mI_nI, lN_mL, mL_lN, mI_lt, lt_mI, pI_mI, pI_nI, pI_eq, pI_lt0, pI_e, Nat.not_lt_zero, Nat.zero_add, Nat.add_zero, ix_T, lt_T, lt_F, eq_T, eq_F, ln_88, hm, c, eh, el, mk_and]
        rw [← s]
        refine congrArg (fun z => f_X10_letAll_58 k2 k14 k31 f (nI n) (nI a) (nI w) (nI k) z (nI (i + 1)) d) (mk_congr (fun t _ => ?_))
        unfold LM
        rw [hd, decide_eq_false (p := h (170 + 3 * i) ≠ a) (by omega), Bool.false_or]
        cases decide (t < TT h k) <;> simp
      · simp (disch := omega) only [bd_e, ob_e, ow_ret_e, u1_at, u1_2, u2_at, u2_1, ↓reduceIte, false_and, true_and, and_true, and_false, not_true_eq_false, not_false_eq_true, decide_true, decide_false, Bool.true_and, Bool.false_and, Bool.and_true, Bool.and_false, Bool.or_false, Bool.false_or, Bool.true_or, Bool.or_true, ↓mI_lit, ↓mL_lit, nI_lit, lN_lit, nI_add, pk_mul, lN_add, lN_mul, nI_ltI, nI_eq, nI_clamp, ix_nI, ix_mI, nI_mI, mI_nI, lN_mL, mL_lN, mI_lt, lt_mI, pI_mI, pI_nI, pI_eq, pI_lt0, pI_e, Nat.not_lt_zero, Nat.zero_add, Nat.add_zero, ix_T, lt_T, lt_F, eq_T, eq_F, ln_88, hm]
        rw [← s]
        refine congrArg (fun z => f_X10_letAll_58 k2 k14 k31 f (nI n) (nI a) (nI w) (nI k) z (nI (i + 1)) d) (mk_congr (fun t _ => ?_))
        unfold LM
        rw [hd, decide_eq_true (p := h (170 + 3 * i) ≠ a) (by omega), Bool.true_or, Bool.and_true]
def LA (h : Nat → Nat) (n a w k : Nat) (d : DD) : Prop := ∀ a' w' k', a' < h 1 → w' < 2 + 2 * h 0 → k' < h 0 → (a' < a ∨ (a' = a ∧ (w' < w ∨ (w' = w ∧ k' < k)))) → d.2 96 (24 * a' + 3 * w' + k') = mkL (LM h n a' w' k')
theorem la31 {h : Nat → Nat} (V : VH h) {n a w : Nat} (hn : n ≤ h 169) (ha : a < h 1) (hw : w < 2 + 2 * h 0) (k2 : Int32 → Int32 → DD → Option (Unit × DD)) (k14 : Int32 → Int32 → Int32 → DD → Option (Unit × DD)) (d0 : DD) (Q : Unit → DD → Prop) (K : ∀ d, HM d h → FR [96] d0 d → LA h n a (w + 1) 0 d → OW (k14 (nI n) (nI a) (nI (w + 1)) d) Q) : ∀ (m k f : Nat) (d : DD), k + m = h 0 → m < f → HM d h → FR [96] d0 d → LA h n a w k d → OW (f_X10_letAll_31 k2 k14 f (nI n) (nI a) (nI w) (nI k) d) Q := by
  have v0 := V.1
  have v1 := V.2.1
  have v2 := V.2.2.2.2.2.2.2.1
  intro m
  induction m with
  | zero =>
    intro k f d hi hf M F L
    cases f with
    | zero => omega
    | succ f =>
      show OW (f_X10_letAll_31B k2 k14 (f_X10_letAll_31 k2 k14 f) _ _ _ _ _) Q
      unfold f_X10_letAll_31B
      simp (disch := omega) only [bd_e, ob_e, ow_ret_e, u1_at, u1_2, u2_at, u2_1, ↓reduceIte, false_and, true_and, and_true, and_false, not_true_eq_false, not_false_eq_true, decide_true, decide_false, Bool.true_and, Bool.false_and, Bool.and_true, Bool.and_false, Bool.or_false, Bool.false_or, Bool.true_or, Bool.or_true, ↓mI_lit, ↓mL_lit, nI_lit, lN_lit, nI_add, pk_mul, lN_add, lN_mul, nI_ltI, nI_eq, nI_clamp, ix_nI, ix_mI, nI_mI, mI_nI, lN_mL, mL_lN, mI_lt, lt_mI, pI_mI, pI_nI, pI_eq, pI_lt0, pI_e, Nat.not_lt_zero, Nat.zero_add, Nat.add_zero, ix_T, lt_T, lt_F, eq_T, eq_F, ln_88, M.1]
      exact K d M F (fun a' w' k' h1 h2 h3 h4 => L a' w' k' h1 h2 h3 (by omega))
  | succ m ih =>
    intro k f d hi hf M F L
    cases f with
    | zero => omega
    | succ f =>
      show OW (f_X10_letAll_31B k2 k14 (f_X10_letAll_31 k2 k14 f) _ _ _ _ _) Q
      unfold f_X10_letAll_31B
      have hk : k < h 0 := by omega
      have ht := tt_le V hk
      have m95 : d.1 95 k = nI (TT h k) := M.2.1 k hk
      have e := la58 V M hn ha hw hk k2 k14 (f_X10_letAll_31 k2 k14 f) n 0 FU (by omega) (by unfold FU; omega)
      rw [show LM h 0 a w k = fun t => decide (t < TT h k) by funext t; unfold LM hd; rw [Bool.and_true]] at e
      simp (disch := omega) only [bd_e, ob_e, ow_ret_e, u1_at, u1_2, u2_at, u2_1, ↓reduceIte, false_and, true_and, and_true, and_false, not_true_eq_false, not_false_eq_true, decide_true, decide_false, Bool.true_and, Bool.false_and, Bool.and_true, Bool.and_false, Bool.or_false, Bool.false_or, Bool.true_or, Bool.or_true, ↓mI_lit, ↓mL_lit, nI_lit, lN_lit, nI_add, pk_mul, lN_add, lN_mul, nI_ltI, nI_eq, nI_clamp, ix_nI, ix_mI, nI_mI, mI_nI, lN_mL, mL_lN, mI_lt, lt_mI, pI_mI, pI_nI, pI_eq, pI_lt0, pI_e, Nat.not_lt_zero, Nat.zero_add, Nat.add_zero, ix_T, lt_T, lt_F, eq_T, eq_F, ln_88, ln_95, M.1, m95, mk_full, e]
      have F' : FR [96] d (u2 d 96 (24 * a + 3 * w + k) (mkL (LM h n a w k))) := fr_u2 (fr_refl _ _) (by decide)
      refine ih (k + 1) f _ (by omega) (by omega) (hm_fr M F' (by decide) (by decide) (by decide)) (fr_trans F F') ?_
      intro a' w' k' h1 h2 h3 h4
      rw [u2_at]
      by_cases c : 24 * a' + 3 * w' + k' = 24 * a + 3 * w + k
      · have e1 : k' = k := by omega
        have e2 : w' = w := by omega
        have e3 : a' = a := by omega
        subst e1 e2 e3
        rw [if_pos ⟨rfl, rfl⟩]
      · rw [if_neg (fun z => c z.2)]
        exact L a' w' k' h1 h2 h3 (by omega)
theorem la14 {h : Nat → Nat} (V : VH h) {n a : Nat} (hn : n ≤ h 169) (ha : a < h 1) (k2 : Int32 → Int32 → DD → Option (Unit × DD)) (d0 : DD) (Q : Unit → DD → Prop) (K : ∀ d, HM d h → FR [96] d0 d → LA h n (a + 1) 0 0 d → OW (k2 (nI n) (nI (a + 1)) d) Q) : ∀ (m w f : Nat) (d : DD), w + m = 2 + 2 * h 0 → m < f → HM d h → FR [96] d0 d → LA h n a w 0 d → OW (f_X10_letAll_14 k2 f (nI n) (nI a) (nI w) d) Q := by
  have v0 := V.1
  have v1 := V.2.1
  intro m
  induction m with
  | zero =>
    intro w f d hi hf M F L
    cases f with
    | zero => omega
    | succ f =>
      show OW (f_X10_letAll_14B k2 (f_X10_letAll_14 k2 f) _ _ _ _) Q
      unfold f_X10_letAll_14B
      simp (disch := omega) only [bd_e, ob_e, ow_ret_e, u1_at, u1_2, u2_at, u2_1, ↓reduceIte, false_and, true_and, and_true, and_false, not_true_eq_false, not_false_eq_true, decide_true, decide_false, Bool.true_and, Bool.false_and, Bool.and_true, Bool.and_false, Bool.or_false, Bool.false_or, Bool.true_or, Bool.or_true, ↓mI_lit, ↓mL_lit, nI_lit, lN_lit, nI_add, pk_mul, lN_add, lN_mul, nI_ltI, nI_eq, nI_clamp, ix_nI, ix_mI, nI_mI, mI_nI, lN_mL, mL_lN, mI_lt, lt_mI, pI_mI, pI_nI, pI_eq, pI_lt0, pI_e, Nat.not_lt_zero, Nat.zero_add, Nat.add_zero, ix_T, lt_T, lt_F, eq_T, eq_F, ln_88, M.1]
      exact K d M F (fun a' w' k' h1 h2 h3 h4 => L a' w' k' h1 h2 h3 (by omega))
  | succ m ih =>
    intro w f d hi hf M F L
    cases f with
    | zero => omega
    | succ f =>
      show OW (f_X10_letAll_14B k2 (f_X10_letAll_14 k2 f) _ _ _ _) Q
      unfold f_X10_letAll_14B
      simp (disch := omega) only [bd_e, ob_e, ow_ret_e, u1_at, u1_2, u2_at, u2_1, ↓reduceIte, false_and, true_and, and_true, and_false, not_true_eq_false, not_false_eq_true, decide_true, decide_false, Bool.true_and, Bool.false_and, Bool.and_true, Bool.and_false, Bool.or_false, Bool.false_or, Bool.true_or, Bool.or_true, ↓mI_lit, ↓mL_lit, nI_lit, lN_lit, nI_add, pk_mul, lN_add, lN_mul, nI_ltI, nI_eq, nI_clamp, ix_nI, ix_mI, nI_mI, mI_nI, lN_mL, mL_lN, mI_lt, lt_mI, pI_mI, pI_nI, pI_eq, pI_lt0, pI_e, Nat.not_lt_zero, Nat.zero_add, Nat.add_zero, ix_T, lt_T, lt_F, eq_T, eq_F, ln_88, M.1]
      exact la31 V hn ha (by omega) k2 _ d0 Q (fun d' M' F' L' => ih (w + 1) f d' (by omega) (by omega) M' F' L') (h 0) 0 FU d (by omega) (by unfold FU; omega) M F L
theorem la2 {h : Nat → Nat} (V : VH h) {n : Nat} (hn : n ≤ h 169) (d0 : DD) : ∀ (m a f : Nat) (d : DD), a + m = h 1 → m < f → HM d h → FR [96] d0 d → LA h n a 0 0 d → OW (f_X10_letAll_2 f (nI n) (nI a) d) (fun _ d' => FR [96] d0 d' ∧ LA h n (h 1) 0 0 d') := by
  have v0 := V.1
  have v1 := V.2.1
  intro m
  induction m with
  | zero =>
    intro a f d hi hf M F L
    cases f with
    | zero => omega
    | succ f =>
      show OW (f_X10_letAll_2B (f_X10_letAll_2 f) _ _ _) _
      unfold f_X10_letAll_2B
      have e : a = h 1 := by omega
      subst e
      simp (disch := omega) only [bd_e, ob_e, ow_ret_e, u1_at, u1_2, u2_at, u2_1, ↓reduceIte, false_and, true_and, and_true, and_false, not_true_eq_false, not_false_eq_true, decide_true, decide_false, Bool.true_and, Bool.false_and, Bool.and_true, Bool.and_false, Bool.or_false, Bool.false_or, Bool.true_or, Bool.or_true, ↓mI_lit, ↓mL_lit, nI_lit, lN_lit, nI_add, pk_mul, lN_add, lN_mul, nI_ltI, nI_eq, nI_clamp, ix_nI, ix_mI, nI_mI, mI_nI, lN_mL, mL_lN, mI_lt, lt_mI, pI_mI, pI_nI, pI_eq, pI_lt0, pI_e, Nat.not_lt_zero, Nat.zero_add, Nat.add_zero, ix_T, lt_T, lt_F, eq_T, eq_F, ln_88, M.1]
      exact ⟨F, L⟩
  | succ m ih =>
    intro a f d hi hf M F L
    cases f with
    | zero => omega
    | succ f =>
      show OW (f_X10_letAll_2B (f_X10_letAll_2 f) _ _ _) _
      unfold f_X10_letAll_2B
      simp (disch := omega) only [bd_e, ob_e, ow_ret_e, u1_at, u1_2, u2_at, u2_1, ↓reduceIte, false_and, true_and, and_true, and_false, not_true_eq_false, not_false_eq_true, decide_true, decide_false, Bool.true_and, Bool.false_and, Bool.and_true, Bool.and_false, Bool.or_false, Bool.false_or, Bool.true_or, Bool.or_true, ↓mI_lit, ↓mL_lit, nI_lit, lN_lit, nI_add, pk_mul, lN_add, lN_mul, nI_ltI, nI_eq, nI_clamp, ix_nI, ix_mI, nI_mI, mI_nI, lN_mL, mL_lN, mI_lt, lt_mI, pI_mI, pI_nI, pI_eq, pI_lt0, pI_e, Nat.not_lt_zero, Nat.zero_add, Nat.add_zero, ix_T, lt_T, lt_F, eq_T, eq_F, ln_88, M.1]
      exact la14 V hn (by omega) _ d0 _ (fun d' M' F' L' => ih (a + 1) f d' (by omega) (by omega) M' F' L') (2 + 2 * h 0) 0 FU d (by omega) (by unfold FU; omega) M F L
def LT (h : Nat → Nat) (n : Nat) (d : DD) : Prop := ∀ a w k, a < h 1 → w < 2 + 2 * h 0 → k < h 0 → d.2 96 (24 * a + 3 * w + k) = mkL (LM h n a w k)
theorem e_X10_letAll {d h} (V : VH h) (M : HM d h) {n : Nat} (hn : n ≤ h 169) : OW (f_X10_letAll (nI n) d) (fun _ d' => FR [96] d d' ∧ LT h n d') := by
  have v1 := V.2.1
  unfold f_X10_letAll
  refine ow_mono (la2 V hn d (h 1) 0 FU d (by omega) (by unfold FU; omega) M (fr_refl _ _) (fun a' w' k' h1 h2 h3 h4 => by omega)) ?_
  intro _ d' H
  exact ⟨H.1, fun a w k h1 h2 h3 => H.2 a w k h1 h2 h3 (by omega)⟩
