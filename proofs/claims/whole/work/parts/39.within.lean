-- PURE ROWS: the model's within, firstWays, nextWays, worldsNow
def wa (h : Nat → Nat) (n : Nat) (c : Nat → Nat) (k t : Nat) : Nat → Bool
  | 0 => true
  | a + 1 => wa h n c k t a && LM h n a (c a) k t
def WM (h : Nat → Nat) (n : Nat) (c : Nat → Nat) (k t : Nat) : Bool := decide (t < TT h k) && wa h n c k t (h 1)
def CV (h : Nat → Nat) (c : Nat → Nat) : Prop := ∀ a, a < h 1 → c a < 2 + 2 * h 0
def WD (h : Nat → Nat) (c : Nat → Nat) (d : DD) : Prop := ∀ a, a < h 1 → d.1 98 a = nI (c a)
def WE (h : Nat → Nat) (n : Nat) (c : Nat → Nat) (d : DD) : Prop := ∀ k, k < h 0 → d.2 97 k = mkL (WM h n c k)
theorem nI_pred' (a : Nat) : nI a + mI = pI a := by
  unfold pI mI
  rw [Int32.sub_eq_add_neg]
theorem wi30 {h : Nat → Nat} {d0 : DD} (V : VH h) (M : HM d0 h) {n : Nat} (L : LT h n d0) {c : Nat → Nat} (C : CV h c) (D : WD h c d0) {k : Nat} (hk : k < h 0) (k2 : Int32 → DD → Option (Unit × DD)) (Q : Unit → DD → Prop) (K : ∀ d, FR [97] d0 d → (∀ k', k' < k + 1 → d.2 97 k' = mkL (WM h n c k')) → OW (k2 (nI (k + 1)) d) Q) : ∀ (m a f : Nat) (d : DD), a + m = h 1 → m < f → FR [97] d0 d → (∀ k', k' < k → d.2 97 k' = mkL (WM h n c k')) → d.2 97 k = mkL (fun t => decide (t < TT h k) && wa h n c k t a) → OW (f_X10_within_30 k2 f (nI k) (nI a) d) Q := by
  have v0 := V.1
  have v1 := V.2.1
  intro m
  induction m with
  | zero =>
    intro a f d hi hf F G e
    cases f with
    | zero => omega
    | succ f =>
      show OW (f_X10_within_30B k2 (f_X10_within_30 k2 f) _ _ _) Q
      unfold f_X10_within_30B
      have M' := (hm_fr M F (by decide) (by decide) (by decide)).1
      simp (disch := omega) only [bd_e, ob_e, ow_ret_e, u1_at, u1_2, u2_at, u2_1, ↓reduceIte, false_and, true_and, and_true, and_false, not_true_eq_false, not_false_eq_true, decide_true, decide_false, Bool.true_and, Bool.false_and, Bool.and_true, Bool.and_false, Bool.or_false, Bool.false_or, Bool.true_or, Bool.or_true, ↓mI_lit, ↓mL_lit, nI_lit, lN_lit, nI_add, pk_mul, lN_add, lN_mul, nI_ltI, nI_eq, nI_clamp, ix_nI, ix_mI, nI_mI, mI_nI, lN_mL, mL_lN, mI_lt, lt_mI, pI_mI, pI_nI, pI_eq, pI_lt0, pI_e, Nat.not_lt_zero, Nat.zero_add, Nat.add_zero, ix_T, lt_T, lt_F, eq_T, eq_F, ln_88, M']
      have ea : a = h 1 := by omega
      subst ea
      refine K d F (fun k' hk' => ?_)
      rcases Nat.lt_or_ge k' k with z | z
      · exact G k' z
      · have : k' = k := by omega
        subst this
        exact e
  | succ m ih =>
    intro a f d hi hf F G e
    cases f with
    | zero => omega
    | succ f =>
      show OW (f_X10_within_30B k2 (f_X10_within_30 k2 f) _ _ _) Q
      unfold f_X10_within_30B
      have ha : a < h 1 := by omega
      have M' := (hm_fr M F (by decide) (by decide) (by decide)).1
      have D' : d.1 98 a = nI (c a) := by rw [(F 98 (by decide)).1]; exact D a ha
      have ca := C a ha
      have L' : d.2 96 (24 * a + 3 * c a + k) = mkL (LM h n a (c a) k) := by rw [(F 96 (by decide)).2]; exact L a (c a) k ha ca hk
      simp (disch := omega) only [bd_e, ob_e, ow_ret_e, u1_at, u1_2, u2_at, u2_1, ↓reduceIte, false_and, true_and, and_true, and_false, not_true_eq_false, not_false_eq_true, decide_true, decide_false, Bool.true_and, Bool.false_and, Bool.and_true, Bool.and_false, Bool.or_false, Bool.false_or, Bool.true_or, Bool.or_true, ↓mI_lit, ↓mL_lit, nI_lit, lN_lit, nI_add, pk_mul, lN_add, lN_mul, nI_ltI, nI_eq, nI_clamp, ix_nI, ix_mI, nI_mI, mI_nI, lN_mL, mL_lN, mI_lt, lt_mI, pI_mI, pI_nI, pI_eq, pI_lt0, pI_e, Nat.not_lt_zero, Nat.zero_add, Nat.add_zero, ix_T, lt_T, lt_F, eq_T, eq_F, ln_88, ln_98, ln_97, ln_96, M', D', L', e, mk_and]
      refine ih (a + 1) f _ (by omega) (by omega) (fr_u2 F (by decide)) ?_ ?_
      · intro k' hk'
        rw [u2_at, if_neg (fun z => by omega)]
        exact G k' hk'
      · rw [u2_at, if_pos ⟨rfl, rfl⟩]
        apply mk_congr
        intro t _
        show _ = (decide (t < TT h k) && (wa h n c k t a && LM h n a (c a) k t))
        rw [Bool.and_assoc]
theorem wi2 {h : Nat → Nat} {d0 : DD} (V : VH h) (M : HM d0 h) {n : Nat} (L : LT h n d0) {c : Nat → Nat} (C : CV h c) (D : WD h c d0) : ∀ (m k f : Nat) (d : DD), k + m = h 0 → m < f → FR [97] d0 d → (∀ k', k' < k → d.2 97 k' = mkL (WM h n c k')) → OW (f_X10_within_2 f (nI k) d) (fun _ d' => FR [97] d0 d' ∧ WE h n c d') := by
  have v0 := V.1
  intro m
  induction m with
  | zero =>
    intro k f d hi hf F G
    cases f with
    | zero => omega
    | succ f =>
      show OW (f_X10_within_2B (f_X10_within_2 f) _ _) _
      unfold f_X10_within_2B
      have M' := (hm_fr M F (by decide) (by decide) (by decide)).1
      simp (disch := omega) only [bd_e, ob_e, ow_ret_e, u1_at, u1_2, u2_at, u2_1, ↓reduceIte, false_and, true_and, and_true, and_false, not_true_eq_false, not_false_eq_true, decide_true, decide_false, Bool.true_and, Bool.false_and, Bool.and_true, Bool.and_false, Bool.or_false, Bool.false_or, Bool.true_or, Bool.or_true, ↓mI_lit, ↓mL_lit, nI_lit, lN_lit, nI_add, pk_mul, lN_add, lN_mul, nI_ltI, nI_eq, nI_clamp, ix_nI, ix_mI, nI_mI, mI_nI, lN_mL, mL_lN, mI_lt, lt_mI, pI_mI, pI_nI, pI_eq, pI_lt0, pI_e, Nat.not_lt_zero, Nat.zero_add, Nat.add_zero, ix_T, lt_T, lt_F, eq_T, eq_F, ln_88, M']
      exact ⟨F, fun k' hk' => G k' (by omega)⟩
  | succ m ih =>
    intro k f d hi hf F G
    cases f with
    | zero => omega
    | succ f =>
      show OW (f_X10_within_2B (f_X10_within_2 f) _ _) _
      unfold f_X10_within_2B
      have hk : k < h 0 := by omega
      have ht := tt_le V hk
      have MM := hm_fr M F (by decide) (by decide) (by decide)
      have M' := MM.1
      have m95 : d.1 95 k = nI (TT h k) := MM.2.1 k hk
      simp (disch := omega) only [bd_e, ob_e, ow_ret_e, u1_at, u1_2, u2_at, u2_1, ↓reduceIte, false_and, true_and, and_true, and_false, not_true_eq_false, not_false_eq_true, decide_true, decide_false, Bool.true_and, Bool.false_and, Bool.and_true, Bool.and_false, Bool.or_false, Bool.false_or, Bool.true_or, Bool.or_true, ↓mI_lit, ↓mL_lit, nI_lit, lN_lit, nI_add, pk_mul, lN_add, lN_mul, nI_ltI, nI_eq, nI_clamp, ix_nI, ix_mI, nI_mI, mI_nI, lN_mL, mL_lN, mI_lt, lt_mI, pI_mI, pI_nI, pI_eq, pI_lt0, pI_e, Nat.not_lt_zero, Nat.zero_add, Nat.add_zero, ix_T, lt_T, lt_F, eq_T, eq_F, ln_88, ln_95, ln_97, M', m95, mk_full]
      refine wi30 V M L C D hk _ _ (fun d' F' G' => ih (k + 1) f d' (by omega) (by omega) F' G') (h 1) 0 FU _ (by omega) (by have := V.2.1; unfold FU; omega) (fr_u2 F (by decide)) ?_ ?_
      · intro k' hk'
        rw [u2_at, if_neg (fun z => by omega)]
        exact G k' hk'
      · rw [u2_at, if_pos ⟨rfl, rfl⟩]
        apply mk_congr
        intro t _
        show _ = (decide (t < TT h k) && true)
        rw [Bool.and_true]
theorem e_X10_within {h : Nat → Nat} {d : DD} (V : VH h) (M : HM d h) {n : Nat} (L : LT h n d) {c : Nat → Nat} (C : CV h c) (D : WD h c d) : OW (f_X10_within d) (fun _ d' => FR [97] d d' ∧ WE h n c d') := by
  have := V.1
  exact wi2 V M L C D (h 0) 0 FU d (by omega) (by unfold FU; omega) (fr_refl _ _) (fun k' hk' => by omega)
theorem lt_fr {S : List Nat} {d d' : DD} {h : Nat → Nat} {n : Nat} (L : LT h n d) (F : FR S d d') (h1 : 96 ∉ S) : LT h n d' := fun a w k ha hw hk => by
  rw [(F 96 h1).2]; exact L a w k ha hw hk
theorem hb_lt {h : Nat → Nat} (V : VH h) {a : Nat} (ha : a < h 1) : h (11 + a) < 2 ^ 8 := by
  have v := (V.2.2.2.1 a ha).2
  have := V.1
  exact Nat.lt_of_lt_of_le v (Nat.pow_le_pow_right (by decide) (by omega))
theorem fi19 {h : Nat → Nat} (V : VH h) {a : Nat} (ha : a < h 1) (k2 : Int32 → DD → Option (Unit × DD)) (Q : Unit → DD → Prop) {x : Nat} {d0 : DD} (M0 : HM d0 h) (K : ∀ d, FR [98] d0 d → d.1 98 a = nI x → (∀ i, i ≠ a → d.1 98 i = d0.1 98 i) → OW (k2 (nI (a + 1)) d) Q) : ∀ (m w f : Nat) (d : DD), w + m = MW h → m < f → FR [98] d0 d → d.1 98 a = nI w → (∀ i, i ≠ a → d.1 98 i = d0.1 98 i) → (fl (wb h a) m w).head? = some x → OW (f_X10_firstWays_19 k2 f (nI a) d) Q := by
  have v0 := V.1
  have v1 := V.2.1
  have hb := hb_lt V ha
  intro m
  induction m with
  | zero =>
    intro w f d hi hf F e G z
    cases z
  | succ m ih =>
    intro w f d hi hf F e G z
    cases f with
    | zero => omega
    | succ f =>
      show OW (f_X10_firstWays_19B k2 (f_X10_firstWays_19 k2 f) _ _) Q
      unfold f_X10_firstWays_19B
      unfold MW at hi
      have M' := (hm_fr M0 F (by decide) (by decide) (by decide)).1
      have eh := e_X10_has (s := h (11 + a)) (k := w) (by omega) (by omega) d
      simp (disch := omega) only [bd_e, ob_e, ow_ret_e, u1_at, u1_2, u2_at, u2_1, ↓reduceIte, false_and, true_and, and_true, and_false, not_true_eq_false, not_false_eq_true, decide_true, decide_false, Bool.true_and, Bool.false_and, Bool.and_true, Bool.and_false, Bool.or_false, Bool.false_or, Bool.true_or, Bool.or_true, ↓mI_lit, ↓mL_lit, nI_lit, lN_lit, nI_add, pk_mul, lN_add, lN_mul, nI_ltI, nI_eq, nI_clamp, ix_nI, ix_mI, nI_mI, mI_nI, lN_mL, mL_lN, mI_lt, lt_mI, pI_mI, pI_nI, pI_eq, pI_lt0, pI_e, Nat.not_lt_zero, Nat.zero_add, Nat.add_zero, ix_T, lt_T, lt_F, eq_T, eq_F, ln_88, ln_98, M', e, eh, bI_0]
      rw [fl_s] at z
      unfold wb at z
      by_cases c : (h (11 + a)).testBit w = true
      · rw [if_pos c] at z
        have zx : w = x := by
          have : some w = some x := z
          injection this
        rw [if_neg (by rw [c]; decide)]
        rw [zx] at e
        exact K d F e G
      · rw [if_neg c] at z
        rw [if_pos (by simpa using c)]
        refine ih (w + 1) f _ (by unfold MW; omega) (by omega) (fr_u1 F (by decide)) ?_ ?_ z
        · rw [u1_at, if_pos ⟨rfl, rfl⟩]
        · intro i hi'
          rw [u1_at, if_neg (fun q => hi' q.2)]
          exact G i hi'
theorem fi2 {h : Nat → Nat} {d0 : DD} (V : VH h) (M : HM d0 h) {n : Nat} (L : LT h n d0) : ∀ (m a f : Nat) (d : DD), a + m = h 1 → m < f → FR [97, 98] d0 d → (∀ i, i < a → d.1 98 i = nI (fw h i)) → OW (f_X10_firstWays_2 f (nI a) d) (fun _ d' => FR [97, 98] d0 d' ∧ WD h (fw h) d' ∧ WE h n (fw h) d') := by
  have v0 := V.1
  have v1 := V.2.1
  intro m
  induction m with
  | zero =>
    intro a f d hi hf F G
    cases f with
    | zero => omega
    | succ f =>
      show OW (f_X10_firstWays_2B (f_X10_firstWays_2 f) _ _) _
      unfold f_X10_firstWays_2B
      have MM := hm_fr M F (by decide) (by decide) (by decide)
      have M' := MM.1
      simp (disch := omega) only [bd_e, ob_e, ow_ret_e, u1_at, u1_2, u2_at, u2_1, ↓reduceIte, false_and, true_and, and_true, and_false, not_true_eq_false, not_false_eq_true, decide_true, decide_false, Bool.true_and, Bool.false_and, Bool.and_true, Bool.and_false, Bool.or_false, Bool.false_or, Bool.true_or, Bool.or_true, ↓mI_lit, ↓mL_lit, nI_lit, lN_lit, nI_add, pk_mul, lN_add, lN_mul, nI_ltI, nI_eq, nI_clamp, ix_nI, ix_mI, nI_mI, mI_nI, lN_mL, mL_lN, mI_lt, lt_mI, pI_mI, pI_nI, pI_eq, pI_lt0, pI_e, Nat.not_lt_zero, Nat.zero_add, Nat.add_zero, ix_T, lt_T, lt_F, eq_T, eq_F, ln_88, M']
      have D : WD h (fw h) d := fun i hi' => G i (by omega)
      have C : CV h (fw h) := fun i hi' => by
        have q := fw_mem V hi'
        have := ((fl_mem _ _ _ _).mp q).2.1
        unfold MW at this
        omega
      refine ow_call (e_X10_within V MM (lt_fr L F (by decide)) C D) ?_
      intro _ d' H
      refine ow_ret ⟨fr_trans F (fr_mono H.1 (by decide)), ?_, H.2⟩
      intro i hi'
      rw [(H.1 98 (by decide)).1]
      exact D i hi'
  | succ m ih =>
    intro a f d hi hf F G
    cases f with
    | zero => omega
    | succ f =>
      show OW (f_X10_firstWays_2B (f_X10_firstWays_2 f) _ _) _
      unfold f_X10_firstWays_2B
      have MM := hm_fr M F (by decide) (by decide) (by decide)
      have M' := MM.1
      have ha : a < h 1 := by omega
      simp (disch := omega) only [bd_e, ob_e, ow_ret_e, u1_at, u1_2, u2_at, u2_1, ↓reduceIte, false_and, true_and, and_true, and_false, not_true_eq_false, not_false_eq_true, decide_true, decide_false, Bool.true_and, Bool.false_and, Bool.and_true, Bool.and_false, Bool.or_false, Bool.false_or, Bool.true_or, Bool.or_true, ↓mI_lit, ↓mL_lit, nI_lit, lN_lit, nI_add, pk_mul, lN_add, lN_mul, nI_ltI, nI_eq, nI_clamp, ix_nI, ix_mI, nI_mI, mI_nI, lN_mL, mL_lN, mI_lt, lt_mI, pI_mI, pI_nI, pI_eq, pI_lt0, pI_e, Nat.not_lt_zero, Nat.zero_add, Nat.add_zero, ix_T, lt_T, lt_F, eq_T, eq_F, ln_88, ln_98, M']
      obtain ⟨l, el⟩ := wl_ne V ha
      have F1 : FR [98] d (u1 d 98 a (nI 0)) := fr_u1 (fr_refl _ _) (by decide)
      refine fi19 V ha _ _ (x := fw h a) (d0 := u1 d 98 a (nI 0)) (hm_fr MM F1 (by decide) (by decide) (by decide)) ?_ (MW h) 0 FU _ (by omega) (by unfold FU MW; omega) (fr_refl _ _) ?_ (fun _ _ => rfl) ?_
      · intro d' F' e' G'
        refine ih (a + 1) f d' (by omega) (by omega) (fr_trans F (fr_mono (fr_trans F1 F') (by decide))) ?_
        intro i hi'
        by_cases q : i = a
        · rw [q]; exact e'
        · rw [G' i q, u1_at, if_neg (fun z => q z.2)]
          exact G i (by omega)
      · rw [u1_at, if_pos ⟨rfl, rfl⟩]
      · show (wl h a).head? = _
        rw [el]
        rfl
theorem e_X10_firstWays {h : Nat → Nat} {d : DD} (V : VH h) (M : HM d h) {n : Nat} (L : LT h n d) : OW (f_X10_firstWays d) (fun _ d' => FR [97, 98] d d' ∧ WD h (fw h) d' ∧ WE h n (fw h) d') := by
  have := V.2.1
  exact fi2 V M L (h 1) 0 FU d (by omega) (by unfold FU; omega) (fr_refl _ _) (fun i hi => by omega)
