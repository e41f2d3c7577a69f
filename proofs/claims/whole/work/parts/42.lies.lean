-- PURE ROWS: the model's lies, tellsOf
theorem mkN_top {n : Nat} {P : Nat → Bool} : mkN n P ||| 2 ^ n = mkN n P + 2 ^ n := by
  have h := mkN_lt n P
  apply Nat.eq_of_testBit_eq
  intro i
  rw [Nat.testBit_or, Nat.testBit_two_pow, Nat.add_comm]
  rcases Nat.lt_trichotomy i n with z | z | z
  · rw [Nat.testBit_two_pow_add_gt z, decide_eq_false (by omega), Bool.or_false]
  · subst z
    rw [Nat.testBit_two_pow_add_eq, decide_eq_true rfl, Bool.or_true, mkN_tb, decide_eq_false (by omega)]
    rfl
  · rw [mkN_tb, decide_eq_false (p := i < n) (by omega), decide_eq_false (p := n = i) (by omega)]
    symm
    apply Nat.testBit_lt_two_pow
    have h2 : 2 ^ (n + 1) ≤ 2 ^ i := Nat.pow_le_pow_right (by decide) z
    rw [Nat.pow_succ] at h2
    omega
def lm (h : Nat → Nat) (c : Nat → Nat) : Nat := mkN (h 1) (fun a => decide (0 < c a))
def nz (h : Nat → Nat) (n : Nat) (c : Nat → Nat) : Bool := decide (pn (PC h n c FT) (h 0) ≠ 0)
def lza (h : Nat → Nat) (n : Nat) (l : List (Nat → Nat)) : Bool := l.any (fun c => nz h n c)
def lz (h : Nat → Nat) (n j : Nat) (l : List (Nat → Nat)) : Bool := l.any (fun c => nz h n c && decide (lm h c = j))
theorem nar_b1 : vp_nar .boolean (1 : Int32) = 1 := by decide
theorem nar_b0 : vp_nar .boolean (0 : Int32) = 0 := by decide
theorem li57 {h : Nat → Nat} {d : DD} (V : VH h) (M : HM d h) {c : Nat → Nat} (C : CV h c) (D : WD h c d) (k39 : Int32 → DD → Option (Int32 × DD)) : ∀ (m a f : Nat), a + m = h 1 → m < f → f_X10_lies_57 k39 f (nI (mkN a (fun a => decide (0 < c a)))) (nI a) d = f_X10_lies_101 k39 1 (u1 d 101 (lm h c) 1) := by
  have v1 := V.2.1
  intro m
  induction m with
  | zero =>
    intro a f hi hf
    cases f with
    | zero => omega
    | succ f =>
      show f_X10_lies_57B k39 (f_X10_lies_57 k39 f) _ _ _ = _
      unfold f_X10_lies_57B
      have e : a = h 1 := by omega
      subst e
      have hl : lm h c < 2 ^ h 1 := mkN_lt _ _
      have h16 : 2 ^ h 1 ≤ 2 ^ 4 := Nat.pow_le_pow_right (by decide) v1
      unfold lm at hl
      simp (disch := omega) only [bd_e, ob_e, ow_ret_e, u1_at, u1_2, u2_at, u2_1, ↓reduceIte, false_and, true_and, and_true, and_false, not_true_eq_false, not_false_eq_true, decide_true, decide_false, Bool.true_and, Bool.false_and, Bool.and_true, Bool.and_false, Bool.or_false, Bool.false_or, Bool.true_or, Bool.or_true, ↓mI_lit, ↓mL_lit, nI_lit, lN_lit, nI_add, pk_mul, lN_add, lN_mul, nI_ltI, nI_eq, nI_clamp, ix_nI, ix_mI, nI_mI, mI_nI, lN_mL, mL_lN, mI_lt, lt_mI, pI_mI, pI_nI, pI_eq, pI_lt0, pI_e, Nat.not_lt_zero, Nat.zero_add, Nat.add_zero, ix_T, lt_T, lt_F, eq_T, eq_F, ln_88, ln_101, M.1]
      rfl
  | succ m ih =>
    intro a f hi hf
    cases f with
    | zero => omega
    | succ f =>
      show f_X10_lies_57B k39 (f_X10_lies_57 k39 f) _ _ _ = _
      unfold f_X10_lies_57B
      have ha : a < h 1 := by omega
      have ca := C a ha
      have v0 := V.1
      have s := ih (a + 1) f (by omega) (by omega)
      rw [mkN] at s
      simp (disch := omega) only [bd_e, ob_e, ow_ret_e, u1_at, u1_2, u2_at, u2_1, ↓reduceIte, false_and, true_and, and_true, and_false, not_true_eq_false, not_false_eq_true, decide_true, decide_false, Bool.true_and, Bool.false_and, Bool.and_true, Bool.and_false, Bool.or_false, Bool.false_or, Bool.true_or, Bool.or_true, ↓mI_lit, ↓mL_lit, nI_lit, lN_lit, nI_add, pk_mul, lN_add, lN_mul, nI_ltI, nI_eq, nI_clamp, ix_nI, ix_mI, nI_mI, mI_nI, lN_mL, mL_lN, mI_lt, lt_mI, pI_mI, pI_nI, pI_eq, pI_lt0, pI_e, Nat.not_lt_zero, Nat.zero_add, Nat.add_zero, ix_T, lt_T, lt_F, eq_T, eq_F, ln_88, ln_98, M.1, D a ha, q_shl, nx_or, Nat.or_zero, mkN_top]
      by_cases e : 0 < c a
      · rw [if_pos e]
        rw [decide_eq_true e, if_pos rfl] at s
        exact s
      · rw [if_neg e]
        rw [decide_eq_false e] at s
        exact s
theorem li2 {d0 : DD} (Q : Int32 → DD → Prop) (K : ∀ d, FR [101] d0 d → (∀ j, j < 16 → d.1 101 j = nI 0) → OW (if ixb (169 : Int32) (ln 88) then
    (f_X10_letAll (d.1 88 (169 : Int32).toNatClampNeg) d).bind fun q1 =>
      (f_X10_firstWays q1.2).bind fun q2 =>
      f_X10_lies_39 FU (0 : Int32) q2.2
    else none) Q) : ∀ (m v f : Nat) (d : DD), v + m = 16 → m < f → FR [101] d0 d → (∀ j, j < v → d.1 101 j = nI 0) → OW (f_X10_lies_2 f (nI v) d) Q := by
  intro m
  induction m with
  | zero =>
    intro v f d hi hf F G
    cases f with
    | zero => omega
    | succ f =>
      show OW (f_X10_lies_2B (f_X10_lies_2 f) _ _) _
      unfold f_X10_lies_2B
      rw [if_neg (by rw [nI_lit, nI_ltI (by omega) (by omega)]; omega)]
      have e : v = 16 := by omega
      subst e
      exact K d F G
  | succ m ih =>
    intro v f d hi hf F G
    cases f with
    | zero => omega
    | succ f =>
      show OW (f_X10_lies_2B (f_X10_lies_2 f) _ _) _
      unfold f_X10_lies_2B
      rw [nar_b0]
      rw [if_pos (by rw [nI_lit, nI_ltI (by omega) (by omega)]; omega), if_pos ((ix_nI (by omega)).mpr (by rw [ln_101]; omega))]
      simp (disch := omega) only [bd_e, ob_e, ow_ret_e, u1_at, u1_2, u2_at, u2_1, ↓reduceIte, false_and, true_and, and_true, and_false, not_true_eq_false, not_false_eq_true, decide_true, decide_false, Bool.true_and, Bool.false_and, Bool.and_true, Bool.and_false, Bool.or_false, Bool.false_or, Bool.true_or, Bool.or_true, ↓mI_lit, ↓mL_lit, nI_lit, lN_lit, nI_add, pk_mul, lN_add, lN_mul, nI_ltI, nI_eq, nI_clamp, ix_nI, ix_mI, nI_mI, mI_nI, lN_mL, mL_lN, mI_lt, lt_mI, pI_mI, pI_nI, pI_eq, pI_lt0, pI_e, Nat.not_lt_zero, Nat.zero_add, Nat.add_zero]
      refine ih (v + 1) f _ (by omega) (by omega) (fr_u1 F (by decide)) (fun j hj => ?_)
      rw [u1_at]
      by_cases e : j = v
      · rw [if_pos ⟨rfl, e⟩]
      · rw [if_neg (fun z => e z.2)]
        exact G j (by omega)
theorem e_X10_lies {h : Nat → Nat} {d : DD} (V : VH h) (M : HM d h) : OW (f_X10_lies d) (fun r d' => FR [96, 97, 98, 101] d d' ∧ r = bI (lza h (h 169) (cm h (h 1))) ∧ ∀ j, j < 16 → d'.1 101 j = bI (lz h (h 169) j (cm h (h 1)))) := by
  have v2 := V.2.2.2.2.2.2.2.1
  unfold f_X10_lies
  refine li2 (d0 := d) _ ?_ 16 0 FU d (by omega) (by unfold FU; omega) (fr_refl _ _) (fun j hj => by omega)
  intro d' F0 G0
  have M0 := hm_fr M F0 (by decide) (by decide) (by decide)
  simp (disch := omega) only [bd_e, ob_e, ow_ret_e, u1_at, u1_2, u2_at, u2_1, ↓reduceIte, false_and, true_and, and_true, and_false, not_true_eq_false, not_false_eq_true, decide_true, decide_false, Bool.true_and, Bool.false_and, Bool.and_true, Bool.and_false, Bool.or_false, Bool.false_or, Bool.true_or, Bool.or_true, ↓mI_lit, ↓mL_lit, nI_lit, lN_lit, nI_add, pk_mul, lN_add, lN_mul, nI_ltI, nI_eq, nI_clamp, ix_nI, ix_mI, nI_mI, mI_nI, lN_mL, mL_lN, mI_lt, lt_mI, pI_mI, pI_nI, pI_eq, pI_lt0, pI_e, Nat.not_lt_zero, Nat.zero_add, Nat.add_zero, ix_T, lt_T, lt_F, eq_T, eq_F, ln_88, M0.1]
  refine ow_call (e_X10_letAll V M0 (Nat.le_refl _)) ?_
  intro _ d1 H1
  have M1 := hm_fr M0 H1.1 (by decide) (by decide) (by decide)
  refine ow_call (e_X10_firstWays V M1 H1.2) ?_
  intro _ d2 H2
  have M2 := hm_fr M1 H2.1 (by decide) (by decide) (by decide)
  have L2 := lt_fr H1.2 H2.1 (by decide)
  have FF : FR [96, 97, 98] d' d2 := fr_trans (fr_mono H1.1 (by decide)) (fr_mono H2.1 (by decide))
  have v0 := V.1
  have v1 := V.2.1
  obtain ⟨lx, el⟩ := cm_head V (h 1) (Nat.le_refl _)
  have ch := cm_chx V (h 1) (Nat.le_refl _)
  have len := cm_len V (h 1)
  have l4 : 8 ^ h 1 ≤ 8 ^ 4 := Nat.pow_le_pow_right (by decide) v1
  have cv : ∀ x, x ∈ cm h (h 1) → CV h x := fun x hx => cm_cv hx
  rw [el] at ch len cv
  rw [List.length_cons] at len
  have G2 : ∀ j, j < 16 → d2.1 101 j = nI 0 := fun j hj => by
    rw [(FF 101 (by decide)).1]
    exact G0 j hj
  refine odo V M2 L2 [97, 98, 101] (by decide) (by decide) (by decide) (by decide) (by decide) (fun f s d => f_X10_lies_39 f s d) (fun s d => if s = 0 ∨ s = 1 then some (s, d) else none) _ (fun l s d => (∃ b : Bool, s = bI b ∧ (b || lza h (h 169) l) = lza h (h 169) (cm h (h 1))) ∧ ∀ j, j < 16 → ∃ b : Bool, d.1 101 j = bI b ∧ (b || lz h (h 169) j l) = lz h (h 169) j (cm h (h 1))) ?_ ?_ lx (fw h) FU (nI 0) d2 ch cv (by unfold FU; omega) (fr_refl _ _) H2.2.1 H2.2.2 ⟨⟨false, rfl, ?_⟩, ?_⟩
  · intro f c l s d' C F D E j K
    obtain ⟨⟨b, rfl, hb⟩, hj⟩ := j
    show OW (f_X10_lies_39B (f_X10_lies_39 f) _ _) _
    unfold f_X10_lies_39B
    have M' := hm_fr M2 F (by decide) (by decide) (by decide)
    have hz : lN (pn (PC h (h 169) c FT) (h 0)) = (0 : Int64) ↔ nz h (h 169) c = false := by
      have hle : pn (PC h (h 169) c FT) (h 0) ≤ 64 ^ 3 := by
        have : ∀ n, pn (PC h (h 169) c FT) n ≤ 64 ^ n := by
          intro n
          induction n with
          | zero => exact Nat.le_refl _
          | succ n ih =>
            rw [pn, Nat.pow_succ]
            exact Nat.mul_le_mul ih (cnt_le _ _)
        exact Nat.le_trans (this (h 0)) (Nat.pow_le_pow_right (by decide) v0)
      unfold nz
      rw [show (0 : Int64) = lN 0 from rfl, lN_eq (by omega) (by omega)]
      simp
    simp (disch := omega) only [bd_e, ob_e, ow_ret_e, u1_at, u1_2, u2_at, u2_1, ↓reduceIte, false_and, true_and, and_true, and_false, not_true_eq_false, not_false_eq_true, decide_true, decide_false, Bool.true_and, Bool.false_and, Bool.and_true, Bool.and_false, Bool.or_false, Bool.false_or, Bool.true_or, Bool.or_true, ↓mI_lit, wn_all V M' E]
    by_cases e : nz h (h 169) c = true
    · rw [if_neg (fun z => by rw [hz.mp z] at e; cases e)]
      have s57 := li57 V M' C D (f_X10_lies_39 f) (h 1) 0 FU (by omega) (by unfold FU; omega)
      rw [show f_X10_lies_57 (f_X10_lies_39 f) FU (0 : Int32) (0 : Int32) d' = f_X10_lies_57 (f_X10_lies_39 f) FU (nI (mkN 0 (fun a => decide (0 < c a)))) (nI 0) d' from rfl, s57]
      unfold f_X10_lies_101
      have Fu : FR [97, 98, 101] d' (u1 d' 101 (lm h c) 1) := fr_u1 (fr_refl _ _) (by decide)
      have K' := K 1 (u1 d' 101 (lm h c) 1) (fr_trans F Fu) D
      refine K' ?_
      intro d'' F''
      refine ⟨⟨true, rfl, ?_⟩, ?_⟩
      · rw [← hb]
        unfold lza
        rw [List.any_cons, e]
        simp
      · intro j hj16
        obtain ⟨b2, e2, hb2⟩ := hj j hj16
        rw [(F'' 101 (by decide)).1, u1_at]
        by_cases q : j = lm h c
        · rw [if_pos ⟨rfl, q⟩]
          refine ⟨true, rfl, ?_⟩
          rw [← hb2]
          unfold lz
          rw [List.any_cons, e, decide_eq_true q.symm]
          simp
        · rw [if_neg (fun z => q z.2)]
          refine ⟨b2, e2, ?_⟩
          rw [← hb2]
          unfold lz
          rw [List.any_cons, decide_eq_false (p := lm h c = j) (fun z => q z.symm)]
          simp
    · have e' : nz h (h 169) c = false := by simpa using e
      rw [if_pos (hz.mpr e')]
      unfold f_X10_lies_101
      refine K (bI b) d' F D (fun d'' F'' => ⟨⟨b, rfl, ?_⟩, ?_⟩)
      · rw [← hb]
        unfold lza
        rw [List.any_cons, e', Bool.false_or]
      · intro j hj16
        obtain ⟨b2, e2, hb2⟩ := hj j hj16
        rw [(F'' 101 (by decide)).1]
        refine ⟨b2, e2, ?_⟩
        rw [← hb2]
        unfold lz
        rw [List.any_cons, e', Bool.false_and, Bool.false_or]
  · intro s d3 F j
    obtain ⟨⟨b, rfl, hb⟩, hj⟩ := j
    rw [if_pos (show bI b = 0 ∨ bI b = 1 from bI_01 b)]
    refine ow_ret ⟨fr_trans (fr_mono F0 (by decide)) (fr_trans (fr_mono FF (by decide)) (fr_mono F (by decide))), ?_, ?_⟩
    · rw [← hb]
      unfold lza
      simp
    · intro j hj16
      obtain ⟨b2, e2, hb2⟩ := hj j hj16
      rw [e2, ← hb2]
      unfold lz
      simp
  · rw [el, Bool.false_or]
  · intro j hj16
    refine ⟨false, G2 j hj16, ?_⟩
    rw [el, Bool.false_or]
