-- PURE ROWS: the model's nextWays, worldsNow
theorem fl_hd {p : Nat → Bool} {m k x : Nat} (h : (fl p m k).head? = some x) : k ≤ x ∧ x < k + m ∧ p x = true := by
  apply (fl_mem p m k x).mp
  cases e : fl p m k with
  | nil => rw [e] at h; cases h
  | cons y l =>
    rw [e] at h
    have : some y = some x := h
    injection this with q
    rw [q]
    exact List.mem_cons_self
theorem nx34 {h : Nat → Nat} (V : VH h) {a : Nat} (ha : a < h 1) (k20 : Int32 → Int32 → DD → Option (Int32 × DD)) (Q : Int32 → DD → Prop) {y : Nat} {d0 : DD} (M0 : HM d0 h) (K : ∀ d, FR [98] d0 d → d.1 98 a = nI y → (∀ i, i ≠ a → d.1 98 i = d0.1 98 i) → OW (f_X10_nextWays_78 k20 (nI (2 + 2 * h 0)) (nI a) d) Q) : ∀ (m w f : Nat) (d : DD), w + m = MW h → m < f → FR [98] d0 d → d.1 98 a = nI w → (∀ i, i ≠ a → d.1 98 i = d0.1 98 i) → ((fl (wb h a) m w).head?).getD (MW h) = y → OW (f_X10_nextWays_34 k20 f (nI (2 + 2 * h 0)) (nI a) d) Q := by
  have v0 := V.1
  have v1 := V.2.1
  have hb := hb_lt V ha
  intro m
  induction m with
  | zero =>
    intro w f d hi hf F e G z
    cases f with
    | zero => omega
    | succ f =>
      show OW (f_X10_nextWays_34B k20 (f_X10_nextWays_34 k20 f) _ _ _) Q
      unfold f_X10_nextWays_34B
      unfold MW at hi
      have M' := (hm_fr M0 F (by decide) (by decide) (by decide)).1
      simp (disch := omega) only [bd_e, ob_e, ow_ret_e, u1_at, u1_2, u2_at, u2_1, ↓reduceIte, false_and, true_and, and_true, and_false, not_true_eq_false, not_false_eq_true, decide_true, decide_false, Bool.true_and, Bool.false_and, Bool.and_true, Bool.and_false, Bool.or_false, Bool.false_or, Bool.true_or, Bool.or_true, ↓mI_lit, ↓mL_lit, nI_lit, lN_lit, nI_add, pk_mul, lN_add, lN_mul, nI_ltI, nI_eq, nI_clamp, ix_nI, ix_mI, nI_mI, mI_nI, lN_mL, mL_lN, mI_lt, lt_mI, pI_mI, pI_nI, pI_eq, pI_lt0, pI_e, Nat.not_lt_zero, Nat.zero_add, Nat.add_zero, ix_T, lt_T, lt_F, eq_T, eq_F, ln_88, ln_98, M', e]
      have zy : w = y := by
        have : MW h = y := z
        unfold MW at this
        omega
      rw [zy] at e
      exact K d F e G
  | succ m ih =>
    intro w f d hi hf F e G z
    cases f with
    | zero => omega
    | succ f =>
      show OW (f_X10_nextWays_34B k20 (f_X10_nextWays_34 k20 f) _ _ _) Q
      unfold f_X10_nextWays_34B
      unfold MW at hi
      have M' := (hm_fr M0 F (by decide) (by decide) (by decide)).1
      have eh := e_X10_has (s := h (11 + a)) (k := w) (by omega) (by omega) d
      simp (disch := omega) only [bd_e, ob_e, ow_ret_e, u1_at, u1_2, u2_at, u2_1, ↓reduceIte, false_and, true_and, and_true, and_false, not_true_eq_false, not_false_eq_true, decide_true, decide_false, Bool.true_and, Bool.false_and, Bool.and_true, Bool.and_false, Bool.or_false, Bool.false_or, Bool.true_or, Bool.or_true, ↓mI_lit, ↓mL_lit, nI_lit, lN_lit, nI_add, pk_mul, lN_add, lN_mul, nI_ltI, nI_eq, nI_clamp, ix_nI, ix_mI, nI_mI, mI_nI, lN_mL, mL_lN, mI_lt, lt_mI, pI_mI, pI_nI, pI_eq, pI_lt0, pI_e, Nat.not_lt_zero, Nat.zero_add, Nat.add_zero, ix_T, lt_T, lt_F, eq_T, eq_F, ln_88, ln_98, M', e, eh, bI_0]
      rw [fl_s] at z
      unfold wb at z
      by_cases c : (h (11 + a)).testBit w = true
      · rw [if_pos c] at z
        have zx : w = y := z
        rw [if_neg (by rw [c]; decide)]
        rw [zx] at e
        exact K d F e G
      · rw [if_neg c] at z
        rw [if_pos (by simpa using c)]
        refine ih (w + 1) f _ (by unfold MW; omega) (by omega) (fr_u1 F (by decide)) ?_ ?_ z
        · rw [u1_at, if_pos ⟨rfl, rfl⟩]
        · intro i hi'
          rw [u1_at, if_neg (fun q => hi' q.2)]
          exact G i hi'
theorem nx101 {h : Nat → Nat} (V : VH h) {a : Nat} (ha : a < h 1) (k20 : Int32 → Int32 → DD → Option (Int32 × DD)) (Q : Int32 → DD → Prop) {x : Nat} {d0 : DD} (M0 : HM d0 h) (K : ∀ d, FR [98] d0 d → d.1 98 a = nI x → (∀ i, i ≠ a → d.1 98 i = d0.1 98 i) → OW (k20 (nI (2 + 2 * h 0)) (pI a) d) Q) : ∀ (m w f : Nat) (d : DD), w + m = MW h → m < f → FR [98] d0 d → d.1 98 a = nI w → (∀ i, i ≠ a → d.1 98 i = d0.1 98 i) → (fl (wb h a) m w).head? = some x → OW (f_X10_nextWays_101 k20 f (nI (2 + 2 * h 0)) (nI a) d) Q := by
  have v0 := V.1
  have v1 := V.2.1
  have hb := hb_lt V ha
  intro m
  induction m with
  | zero =>
    intro w f d hi hf F e G z
    cases z
  | succ m ih =>
    intro w f d hi hf F e G z
    cases f with
    | zero => omega
    | succ f =>
      show OW (f_X10_nextWays_101B k20 (f_X10_nextWays_101 k20 f) _ _ _) Q
      unfold f_X10_nextWays_101B
      unfold MW at hi
      have M' := (hm_fr M0 F (by decide) (by decide) (by decide)).1
      have eh := e_X10_has (s := h (11 + a)) (k := w) (by omega) (by omega) d
      simp (disch := omega) only [bd_e, ob_e, ow_ret_e, u1_at, u1_2, u2_at, u2_1, ↓reduceIte, false_and, true_and, and_true, and_false, not_true_eq_false, not_false_eq_true, decide_true, decide_false, Bool.true_and, Bool.false_and, Bool.and_true, Bool.and_false, Bool.or_false, Bool.false_or, Bool.true_or, Bool.or_true, ↓mI_lit, ↓mL_lit, nI_lit, lN_lit, nI_add, pk_mul, lN_add, lN_mul, nI_ltI, nI_eq, nI_clamp, ix_nI, ix_mI, nI_mI, mI_nI, lN_mL, mL_lN, mI_lt, lt_mI, pI_mI, pI_nI, pI_eq, pI_lt0, pI_e, Nat.not_lt_zero, Nat.zero_add, Nat.add_zero, ix_T, lt_T, lt_F, eq_T, eq_F, ln_88, ln_98, M', e, eh, bI_0, nI_pred']
      rw [fl_s] at z
      unfold wb at z
      by_cases c : (h (11 + a)).testBit w = true
      · rw [if_pos c] at z
        have zx : w = x := by
          have : some w = some x := z
          injection this
        rw [if_neg (by rw [c]; decide)]
        rw [zx] at e
        exact K d F e G
      · rw [if_neg c] at z
        rw [if_pos (by simpa using c)]
        refine ih (w + 1) f _ (by unfold MW; omega) (by omega) (fr_u1 F (by decide)) ?_ ?_ z
        · rw [u1_at, if_pos ⟨rfl, rfl⟩]
        · intro i hi'
          rw [u1_at, if_neg (fun q => hi' q.2)]
          exact G i hi'
def NX (h : Nat → Nat) (n : Nat) (o : Option (Nat → Nat)) (r : Int32) (d : DD) : Prop := match o with
  | none => r = nI 0
  | some c => r = nI 1 ∧ WD h c d ∧ WE h n c d
theorem nx20 {h : Nat → Nat} {d0 : DD} (V : VH h) (M : HM d0 h) {n : Nat} (L : LT h n d0) : ∀ (a f : Nat) (c : Nat → Nat) (d : DD), a ≤ h 1 → a < f → FR [97, 98] d0 d → CV h c → WD h c d → OW (f_X10_nextWays_20 f (nI (2 + 2 * h 0)) (pI a) d) (fun r d' => FR [97, 98] d0 d' ∧ NX h n (nx h a c) r d') := by
  have v0 := V.1
  have v1 := V.2.1
  intro a
  induction a with
  | zero =>
    intro f c d hi hf F C D
    cases f with
    | zero => omega
    | succ f =>
      show OW (f_X10_nextWays_20B (f_X10_nextWays_20 f) _ _ _) _
      unfold f_X10_nextWays_20B
      simp (disch := omega) only [bd_e, ob_e, ow_ret_e, u1_at, u1_2, u2_at, u2_1, ↓reduceIte, false_and, true_and, and_true, and_false, not_true_eq_false, not_false_eq_true, decide_true, decide_false, Bool.true_and, Bool.false_and, Bool.and_true, Bool.and_false, Bool.or_false, Bool.false_or, Bool.true_or, Bool.or_true, ↓mI_lit, ↓mL_lit, nI_lit, lN_lit, nI_add, pk_mul, lN_add, lN_mul, nI_ltI, nI_eq, nI_clamp, ix_nI, ix_mI, nI_mI, mI_nI, lN_mL, mL_lN, mI_lt, lt_mI, pI_mI, pI_nI, pI_eq, pI_lt0, pI_e, Nat.not_lt_zero, Nat.zero_add, Nat.add_zero, ix_T, lt_T, lt_F, eq_T, eq_F]
      exact ⟨F, rfl⟩
  | succ a ih =>
    intro f c d hi hf F C D
    cases f with
    | zero => omega
    | succ f =>
      show OW (f_X10_nextWays_20B (f_X10_nextWays_20 f) _ _ _) _
      unfold f_X10_nextWays_20B
      have ha : a < h 1 := by omega
      have ca := C a ha
      have MM := hm_fr M F (by decide) (by decide) (by decide)
      simp (disch := omega) only [bd_e, ob_e, ow_ret_e, u1_at, u1_2, u2_at, u2_1, ↓reduceIte, false_and, true_and, and_true, and_false, not_true_eq_false, not_false_eq_true, decide_true, decide_false, Bool.true_and, Bool.false_and, Bool.and_true, Bool.and_false, Bool.or_false, Bool.false_or, Bool.true_or, Bool.or_true, ↓mI_lit, ↓mL_lit, nI_lit, lN_lit, nI_add, pk_mul, lN_add, lN_mul, nI_ltI, nI_eq, nI_clamp, ix_nI, ix_mI, nI_mI, mI_nI, lN_mL, mL_lN, mI_lt, lt_mI, pI_mI, pI_nI, pI_eq, pI_lt0, pI_e, Nat.not_lt_zero, Nat.zero_add, Nat.add_zero, ix_T, lt_T, lt_F, eq_T, eq_F, ln_98, pI_s, D a ha]
      have F1 : FR [98] d (u1 d 98 a (nI (c a + 1))) := fr_u1 (fr_refl _ _) (by decide)
      have M1 := hm_fr MM F1 (by decide) (by decide) (by decide)
      refine nx34 V ha _ _ (d0 := u1 d 98 a (nI (c a + 1))) M1 ?_ (MW h - (c a + 1)) (c a + 1) FU _ (by unfold MW; omega) (by unfold FU MW; omega) (fr_refl _ _) ?_ (fun _ _ => rfl) rfl
      · intro d2 F2 e2 G2
        have F12 := fr_trans F1 F2
        have MM2 := hm_fr MM F12 (by decide) (by decide) (by decide)
        have W2 : ∀ i, i < h 1 → i ≠ a → d2.1 98 i = nI (c i) := fun i hi' hne => by
          rw [G2 i hne, u1_at, if_neg (fun z => hne z.2)]
          exact D i hi'
        unfold f_X10_nextWays_78
        rw [nx_s]
        cases z : (fl (wb h a) (MW h - (c a + 1)) (c a + 1)).head? with
        | some x =>
          rw [z] at e2
          have hx := fl_hd z
          have e3 : d2.1 98 a = nI x := e2
          have hx2 : x < 2 + 2 * h 0 := by
            have := hx.2.1
            unfold MW at this
            omega
          simp (disch := omega) only [bd_e, ob_e, ow_ret_e, u1_at, u1_2, u2_at, u2_1, ↓reduceIte, false_and, true_and, and_true, and_false, not_true_eq_false, not_false_eq_true, decide_true, decide_false, Bool.true_and, Bool.false_and, Bool.and_true, Bool.and_false, Bool.or_false, Bool.false_or, Bool.true_or, Bool.or_true, ↓mI_lit, ↓mL_lit, nI_lit, lN_lit, nI_add, pk_mul, lN_add, lN_mul, nI_ltI, nI_eq, nI_clamp, ix_nI, ix_mI, nI_mI, mI_nI, lN_mL, mL_lN, mI_lt, lt_mI, pI_mI, pI_nI, pI_eq, pI_lt0, pI_e, Nat.not_lt_zero, Nat.zero_add, Nat.add_zero, ix_T, lt_T, lt_F, eq_T, eq_F, ln_98, e3]
          have C' : CV h (upN c a x) := fun i hi' => by
            by_cases q : i = a
            · rw [q, upN_same]; exact hx2
            · rw [upN_ne q]; exact C i hi'
          have D' : WD h (upN c a x) d2 := fun i hi' => by
            by_cases q : i = a
            · rw [q, upN_same]; exact e3
            · rw [upN_ne q]; exact W2 i hi' q
          refine ow_call (e_X10_within V MM2 (lt_fr L (fr_trans F (fr_mono F12 (by decide))) (by decide)) C' D') ?_
          intro _ d3 H
          refine ow_ret ⟨fr_trans F (fr_trans (fr_mono F12 (by decide)) (fr_mono H.1 (by decide))), rfl, ?_, H.2⟩
          intro i hi'
          rw [(H.1 98 (by decide)).1]
          exact D' i hi'
        | none =>
          rw [z] at e2
          have e3 : d2.1 98 a = nI (2 + 2 * h 0) := e2
          simp (disch := omega) only [bd_e, ob_e, ow_ret_e, u1_at, u1_2, u2_at, u2_1, ↓reduceIte, false_and, true_and, and_true, and_false, not_true_eq_false, not_false_eq_true, decide_true, decide_false, Bool.true_and, Bool.false_and, Bool.and_true, Bool.and_false, Bool.or_false, Bool.false_or, Bool.true_or, Bool.or_true, ↓mI_lit, ↓mL_lit, nI_lit, lN_lit, nI_add, pk_mul, lN_add, lN_mul, nI_ltI, nI_eq, nI_clamp, ix_nI, ix_mI, nI_mI, mI_nI, lN_mL, mL_lN, mI_lt, lt_mI, pI_mI, pI_nI, pI_eq, pI_lt0, pI_e, Nat.not_lt_zero, Nat.zero_add, Nat.add_zero, ix_T, lt_T, lt_F, eq_T, eq_F, ln_98, e3]
          obtain ⟨l, el⟩ := wl_ne V ha
          have F3 : FR [98] d2 (u1 d2 98 a (nI 0)) := fr_u1 (fr_refl _ _) (by decide)
          refine nx101 V ha _ _ (x := fw h a) (d0 := u1 d2 98 a (nI 0)) (hm_fr MM2 F3 (by decide) (by decide) (by decide)) ?_ (MW h) 0 FU _ (by omega) (by unfold FU MW; omega) (fr_refl _ _) ?_ (fun _ _ => rfl) ?_
          · intro d4 F4 e4 G4
            have F14 := fr_trans F12 (fr_trans F3 F4)
            refine ih f (upN c a (fw h a)) d4 (by omega) (by omega) (fr_trans F (fr_mono F14 (by decide))) ?_ ?_
            · intro i hi'
              by_cases q : i = a
              · rw [q, upN_same]
                have := ((fl_mem _ _ _ _).mp (fw_mem V ha)).2.1
                unfold MW at this
                omega
              · rw [upN_ne q]; exact C i hi'
            · intro i hi'
              by_cases q : i = a
              · rw [q, upN_same]; exact e4
              · rw [upN_ne q, G4 i q, u1_at, if_neg (fun z => q z.2)]
                exact W2 i hi' q
          · rw [u1_at, if_pos ⟨rfl, rfl⟩]
          · show (wl h a).head? = _
            rw [el]
            rfl
      · rw [u1_at, if_pos ⟨rfl, rfl⟩]
theorem e_X10_nextWays {h : Nat → Nat} {d : DD} (V : VH h) (M : HM d h) {n : Nat} (L : LT h n d) {c : Nat → Nat} (C : CV h c) (D : WD h c d) : OW (f_X10_nextWays d) (fun r d' => FR [97, 98] d d' ∧ NX h n (nx h (h 1) c) r d') := by
  have v0 := V.1
  have v1 := V.2.1
  unfold f_X10_nextWays
  simp (disch := omega) only [bd_e, ob_e, ow_ret_e, u1_at, u1_2, u2_at, u2_1, ↓reduceIte, false_and, true_and, and_true, and_false, not_true_eq_false, not_false_eq_true, decide_true, decide_false, Bool.true_and, Bool.false_and, Bool.and_true, Bool.and_false, Bool.or_false, Bool.false_or, Bool.true_or, Bool.or_true, ↓mI_lit, ↓mL_lit, nI_lit, lN_lit, nI_add, pk_mul, lN_add, lN_mul, nI_ltI, nI_eq, nI_clamp, ix_nI, ix_mI, nI_mI, mI_nI, lN_mL, mL_lN, mI_lt, lt_mI, pI_mI, pI_nI, pI_eq, pI_lt0, pI_e, Nat.not_lt_zero, Nat.zero_add, Nat.add_zero, ix_T, lt_T, lt_F, eq_T, eq_F, ln_88, M.1]
  exact nx20 V M L (h 1) FU c d (by omega) (by unfold FU; omega) (fr_refl _ _) C D
def pn (F : Nat → Nat) : Nat → Nat
  | 0 => 1
  | n + 1 => pn F n * F n
def WC (h : Nat → Nat) (n : Nat) (c : Nat → Nat) (k : Nat) : Nat := cnt 64 (WM h n c k)
theorem wn5 {h : Nat → Nat} {d : DD} (V : VH h) (M : HM d h) {n : Nat} {c : Nat → Nat} (E : WE h n c d) (x y : Int32) : ∀ (m k f : Nat), k + m = h 0 → m < f → f_X10_worldsNow_5 f x y (lN (pn (fun k => if nI k = x ∨ nI k = y then 1 else WC h n c k) k)) (nI k) d = some (lN (pn (fun k => if nI k = x ∨ nI k = y then 1 else WC h n c k) (h 0)), d) := by
  have v0 := V.1
  intro m
  induction m with
  | zero =>
    intro k f hi hf
    cases f with
    | zero => omega
    | succ f =>
      show f_X10_worldsNow_5B (f_X10_worldsNow_5 f) _ _ _ _ _ = _
      unfold f_X10_worldsNow_5B
      have e : k = h 0 := by omega
      subst e
      simp (disch := omega) only [bd_e, ob_e, ow_ret_e, u1_at, u1_2, u2_at, u2_1, ↓reduceIte, false_and, true_and, and_true, and_false, not_true_eq_false, not_false_eq_true, decide_true, decide_false, Bool.true_and, Bool.false_and, Bool.and_true, Bool.and_false, Bool.or_false, Bool.false_or, Bool.true_or, Bool.or_true, ↓mI_lit, ↓mL_lit, nI_lit, lN_lit, nI_add, pk_mul, lN_add, lN_mul, nI_ltI, nI_eq, nI_clamp, ix_nI, ix_mI, nI_mI, mI_nI, lN_mL, mL_lN, mI_lt, lt_mI, pI_mI, pI_nI, pI_eq, pI_lt0, pI_e, Nat.not_lt_zero, Nat.zero_add, Nat.add_zero, ix_T, lt_T, lt_F, eq_T, eq_F, ln_88, M.1]
  | succ m ih =>
    intro k f hi hf
    cases f with
    | zero => omega
    | succ f =>
      show f_X10_worldsNow_5B (f_X10_worldsNow_5 f) _ _ _ _ _ = _
      unfold f_X10_worldsNow_5B
      have s := ih (k + 1) f (by omega) (by omega)
      have hk : k < h 0 := by omega
      rw [pn] at s
      by_cases c1 : nI k = x
      · rw [if_pos (Or.inl c1)] at s
        simp (disch := omega) only [bd_e, ob_e, ow_ret_e, u1_at, u1_2, u2_at, u2_1, ↓reduceIte, false_and, true_and, and_true, and_false, not_true_eq_false, not_false_eq_true, decide_true, decide_false, Bool.true_and, Bool.false_and, Bool.and_true, Bool.and_false, Bool.or_false, Bool.false_or, Bool.true_or, Bool.or_true, ↓mI_lit, ↓mL_lit, nI_lit, lN_lit, nI_add, pk_mul, lN_add, lN_mul, nI_ltI, nI_eq, nI_clamp, ix_nI, ix_mI, nI_mI, mI_nI, lN_mL, mL_lN, mI_lt, lt_mI, pI_mI, pI_nI, pI_eq, pI_lt0, pI_e, Nat.not_lt_zero, Nat.zero_add, Nat.add_zero, ix_T, lt_T, lt_F, eq_T, eq_F, ln_88, M.1, eq_true c1]
        exact s
      · by_cases c2 : nI k = y
        · rw [if_pos (Or.inr c2)] at s
          simp (disch := omega) only [bd_e, ob_e, ow_ret_e, u1_at, u1_2, u2_at, u2_1, ↓reduceIte, false_and, true_and, and_true, and_false, not_true_eq_false, not_false_eq_true, decide_true, decide_false, Bool.true_and, Bool.false_and, Bool.and_true, Bool.and_false, Bool.or_false, Bool.false_or, Bool.true_or, Bool.or_true, ↓mI_lit, ↓mL_lit, nI_lit, lN_lit, nI_add, pk_mul, lN_add, lN_mul, nI_ltI, nI_eq, nI_clamp, ix_nI, ix_mI, nI_mI, mI_nI, lN_mL, mL_lN, mI_lt, lt_mI, pI_mI, pI_nI, pI_eq, pI_lt0, pI_e, Nat.not_lt_zero, Nat.zero_add, Nat.add_zero, ix_T, lt_T, lt_F, eq_T, eq_F, ln_88, M.1, c1, eq_true c2]
          exact s
        · rw [if_neg (fun z => z.elim c1 c2)] at s
          have cl : WC h n c k ≤ 64 := cnt_le _ _
          unfold WC at s cl
          simp (disch := omega) only [bd_e, ob_e, ow_ret_e, u1_at, u1_2, u2_at, u2_1, ↓reduceIte, false_and, true_and, and_true, and_false, not_true_eq_false, not_false_eq_true, decide_true, decide_false, Bool.true_and, Bool.false_and, Bool.and_true, Bool.and_false, Bool.or_false, Bool.false_or, Bool.true_or, Bool.or_true, ↓mI_lit, ↓mL_lit, nI_lit, lN_lit, nI_add, pk_mul, lN_add, lN_mul, nI_ltI, nI_eq, nI_clamp, ix_nI, ix_mI, nI_mI, mI_nI, lN_mL, mL_lN, mI_lt, lt_mI, pI_mI, pI_nI, pI_eq, pI_lt0, pI_e, Nat.not_lt_zero, Nat.zero_add, Nat.add_zero, ix_T, lt_T, lt_F, eq_T, eq_F, ln_88, ln_97, M.1, c1, c2, E k hk, e_X10_bitsm, nI_l]
          exact s
theorem e_X10_worldsNow {h : Nat → Nat} {d : DD} (V : VH h) (M : HM d h) {n : Nat} {c : Nat → Nat} (E : WE h n c d) (x y : Int32) : f_X10_worldsNow x y d = some (lN (pn (fun k => if nI k = x ∨ nI k = y then 1 else WC h n c k) (h 0)), d) := by
  have := V.1
  exact wn5 V M E x y (h 0) 0 FU (by omega) (by unfold FU; omega)
