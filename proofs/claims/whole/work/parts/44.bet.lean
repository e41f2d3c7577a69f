-- PURE ROWS: the model's bet
def nhf (lo t : Nat) : Nat → Nat → Nat
  | 0, v => v
  | m + 1, v => if pa lo t v = true then v else nhf lo t m (v + 1)
def nh (lo t u : Nat) : Nat := nhf lo t (30 - u) u
theorem nh_l {h : Nat → Nat} {d : DD} (V : VH h) (M : HM d h) {k t : Nat} (hk : k < h 0) (ht : t < TT h k) : ∀ (m v f : Nat), v + m = 30 → m < f → f_X10_nextHour_3 f (nI k) (nI t) (nI v) d = some (nI (nhf (h (2 + k)) t m v), d) := by
  have v0 := V.1
  have tl := tt_le V hk
  intro m
  induction m with
  | zero =>
    intro v f hi hf
    cases f with
    | zero => omega
    | succ f =>
      show f_X10_nextHour_3B (f_X10_nextHour_3 f) _ _ _ _ = _
      unfold f_X10_nextHour_3B
      simp (disch := omega) only [bd_e, ob_e, ow_ret_e, u1_at, u1_2, u2_at, u2_1, ↓reduceIte, false_and, true_and, and_true, and_false, not_true_eq_false, not_false_eq_true, decide_true, decide_false, Bool.true_and, Bool.false_and, Bool.and_true, Bool.and_false, Bool.or_false, Bool.false_or, Bool.true_or, Bool.or_true, ↓mI_lit, ↓mL_lit, nI_lit, lN_lit, nI_add, pk_mul, lN_add, lN_mul, nI_ltI, nI_eq, nI_clamp, ix_nI, ix_mI, nI_mI, mI_nI, lN_mL, mL_lN, mI_lt, lt_mI, pI_mI, pI_nI, pI_eq, pI_lt0, pI_e, Nat.not_lt_zero, Nat.zero_add, Nat.add_zero, ix_T, lt_T, lt_F, eq_T, eq_F]
      rfl
  | succ m ih =>
    intro v f hi hf
    cases f with
    | zero => omega
    | succ f =>
      show f_X10_nextHour_3B (f_X10_nextHour_3 f) _ _ _ _ = _
      unfold f_X10_nextHour_3B
      have m94 := M.2.2 k t hk ht
      have hm : mkN 30 (fun u => pa (h (2 + k)) t u) < 2 ^ 30 := mkN_lt _ _
      have s := ih (v + 1) f (by omega) (by omega)
      simp (disch := omega) only [bd_e, ob_e, ow_ret_e, u1_at, u1_2, u2_at, u2_1, ↓reduceIte, false_and, true_and, and_true, and_false, not_true_eq_false, not_false_eq_true, decide_true, decide_false, Bool.true_and, Bool.false_and, Bool.and_true, Bool.and_false, Bool.or_false, Bool.false_or, Bool.true_or, Bool.or_true, ↓mI_lit, ↓mL_lit, nI_lit, lN_lit, nI_add, pk_mul, lN_add, lN_mul, nI_ltI, nI_eq, nI_clamp, ix_nI, ix_mI, nI_mI, mI_nI, lN_mL, mL_lN, mI_lt, lt_mI, pI_mI, pI_nI, pI_eq, pI_lt0, pI_e, Nat.not_lt_zero, Nat.zero_add, Nat.add_zero, ix_T, lt_T, lt_F, eq_T, eq_F, ln_94, m94, e_X10_has, mkN_tb, bI_0]
      unfold nhf
      by_cases c : pa (h (2 + k)) t v = true
      · rw [if_neg (by rw [c]; decide), if_pos c]
      · rw [if_pos (by simpa using c), if_neg c]
        exact s
theorem e_X10_nextHour {h : Nat → Nat} {d : DD} (V : VH h) (M : HM d h) {k t u : Nat} (hk : k < h 0) (ht : t < TT h k) (hu : u ≤ 30) : f_X10_nextHour (nI k) (nI t) (nI u) d = some (nI (nh (h (2 + k)) t u), d) := nh_l V M hk ht (30 - u) u FU (by omega) (by unfold FU; omega)
theorem nhf_le (lo t : Nat) : ∀ (m v : Nat), nhf lo t m v ≤ v + m
  | 0, v => Nat.le_refl _
  | m + 1, v => by
    unfold nhf
    split
    · omega
    · have := nhf_le lo t m (v + 1)
      omega
theorem nh_le {lo t u : Nat} (hu : u ≤ 30) : nh lo t u ≤ 30 := by
  have := nhf_le lo t (30 - u) u
  unfold nh
  omega
def BJ (h : Nat → Nat) (k u v t : Nat) : Bool := decide (t < TT h k) && decide (nh (h (2 + k)) t u = v)
def BL (h : Nat → Nat) (j u v t : Nat) : Bool := decide (t < TT h j) && decide (v < nh (h (2 + j)) t u)
def JB (h : Nat → Nat) (k u v : Nat) (d : DD) : Prop := ∀ v', v' < v → d.2 100 v' = mkL (BJ h k u v') ∧ ∀ j, j < h 0 → d.2 99 (30 * j + v') = mkL (BL h j u v')
theorem mk_grow {T t : Nat} {X : Nat → Bool} (_ : t < T) (ht : t < 64) : (if X t = true then mkL (fun i => decide (i < t) && X i) ||| lN 1 <<< ((nI t).toInt64 &&& lN 63) else mkL (fun i => decide (i < t) && X i) ||| lN 0) = mkL (fun i => decide (i < t + 1) && X i) := by
  by_cases c : X t = true
  · rw [if_pos c, mk_bit ht, mk_or]
    apply mk_congr
    intro i _
    rcases Nat.lt_trichotomy i t with z | z | z
    · rw [decide_eq_true z, decide_eq_true (p := i < t + 1) (by omega), decide_eq_false (p := i = t) (by omega), Bool.or_false]
    · subst z
      rw [decide_eq_true (p := i < i + 1) (by omega), c]
      simp
    · rw [decide_eq_false (p := i < t) (by omega), decide_eq_false (p := i < t + 1) (by omega), decide_eq_false (p := i = t) (by omega)]
      simp
  · rw [if_neg c, mk_0, mk_or]
    apply mk_congr
    intro i _
    rcases Nat.lt_trichotomy i t with z | z | z
    · rw [decide_eq_true z, decide_eq_true (p := i < t + 1) (by omega), Bool.or_false]
    · subst z
      have : X i = false := by simpa using c
      rw [this]
      simp
    · rw [decide_eq_false (p := i < t) (by omega), decide_eq_false (p := i < t + 1) (by omega)]
      simp
theorem be138 {h : Nat → Nat} {d0 : DD} (V : VH h) (M : HM d0 h) {j u v : Nat} (hj : j < h 0) (hu : u < 30) (hv : v < 30) (v1 v3 : Int32) (k41 : Int32 → Int32 → Int32 → Int32 → DD → Option (Int64 × DD)) (k110 : Int32 → Int32 → Int32 → Int32 → Int32 → DD → Option (Int64 × DD)) (Q : Int64 → DD → Prop) (K : ∀ d, FR [99] d0 d → d.2 99 (30 * j + v) = mkL (BL h j u v) → (∀ i, i ≠ 30 * j + v → d.2 99 i = d0.2 99 i) → OW (k110 v1 (nI u) v3 (nI v) (nI (j + 1)) d) Q) : ∀ (m t f : Nat) (d : DD), t + m = TT h j → m < f → FR [99] d0 d → d.2 99 (30 * j + v) = mkL (fun i => decide (i < t) && decide (v < nh (h (2 + j)) i u)) → (∀ i, i ≠ 30 * j + v → d.2 99 i = d0.2 99 i) → OW (f_X10_bet_138 k41 k110 f v1 (nI u) v3 (nI v) (nI j) (nI t) d) Q := by
  have v0 := V.1
  have tl := tt_le V hj
  intro m
  induction m with
  | zero =>
    intro t f d hi hf F e G
    cases f with
    | zero => omega
    | succ f =>
      show OW (f_X10_bet_138B k41 k110 (f_X10_bet_138 k41 k110 f) _ _ _ _ _ _ _) Q
      unfold f_X10_bet_138B
      have MM := hm_fr M F (by decide) (by decide) (by decide)
      have m95 : d.1 95 j = nI (TT h j) := MM.2.1 j hj
      simp (disch := omega) only [bd_e, ob_e, ow_ret_e, u1_at, u1_2, u2_at, u2_1, ↓reduceIte, false_and, true_and, and_true, and_false, not_true_eq_false, not_false_eq_true, decide_true, decide_false, Bool.true_and, Bool.false_and, Bool.and_true, Bool.and_false, Bool.or_false, Bool.false_or, Bool.true_or, Bool.or_true, ↓mI_lit, ↓mL_lit, nI_lit, lN_lit, nI_add, pk_mul, lN_add, lN_mul, nI_ltI, nI_eq, nI_clamp, ix_nI, ix_mI, nI_mI, mI_nI, lN_mL, mL_lN, mI_lt, lt_mI, pI_mI, pI_nI, pI_eq, pI_lt0, pI_e, Nat.not_lt_zero, Nat.zero_add, Nat.add_zero, ix_T, lt_T, lt_F, eq_T, eq_F, ln_95, m95]
      refine K d F ?_ G
      rw [e, show t = TT h j by omega]
      rfl
  | succ m ih =>
    intro t f d hi hf F e G
    cases f with
    | zero => omega
    | succ f =>
      show OW (f_X10_bet_138B k41 k110 (f_X10_bet_138 k41 k110 f) _ _ _ _ _ _ _) Q
      unfold f_X10_bet_138B
      have MM := hm_fr M F (by decide) (by decide) (by decide)
      have m95 : d.1 95 j = nI (TT h j) := MM.2.1 j hj
      have en := e_X10_nextHour V MM hj (t := t) (u := u) (by omega) (by omega)
      have ln := nh_le (lo := h (2 + j)) (t := t) (u := u) (by omega)
      simp (disch := omega) only [bd_e, ob_e, ow_ret_e, u1_at, u1_2, u2_at, u2_1, ↓reduceIte, false_and, true_and, and_true, and_false, not_true_eq_false, not_false_eq_true, decide_true, decide_false, Bool.true_and, Bool.false_and, Bool.and_true, Bool.and_false, Bool.or_false, Bool.false_or, Bool.true_or, Bool.or_true, ↓mI_lit, ↓mL_lit, nI_lit, lN_lit, nI_add, pk_mul, lN_add, lN_mul, nI_ltI, nI_eq, nI_clamp, ix_nI, ix_mI, nI_mI, mI_nI, lN_mL, mL_lN, mI_lt, lt_mI, pI_mI, pI_nI, pI_eq, pI_lt0, pI_e, Nat.not_lt_zero, Nat.zero_add, Nat.add_zero, ix_T, lt_T, lt_F, eq_T, eq_F, ln_95, ln_99, m95, en, e]
      have g := mk_grow (T := TT h j) (t := t) (X := fun i => decide (v < nh (h (2 + j)) i u)) (by omega) (by omega)
      by_cases c : v < nh (h (2 + j)) t u
      · rw [if_pos c]
        rw [if_pos (by rw [decide_eq_true c])] at g
        rw [g]
        refine ih (t + 1) f _ (by omega) (by omega) (fr_u2 F (by decide)) (by rw [u2_at, if_pos ⟨rfl, rfl⟩]) (fun i hi' => ?_)
        rw [u2_at, if_neg (fun z => hi' z.2)]
        exact G i hi'
      · rw [if_neg c]
        rw [if_neg (by rw [decide_eq_false c]; decide)] at g
        rw [g]
        refine ih (t + 1) f _ (by omega) (by omega) (fr_u2 F (by decide)) (by rw [u2_at, if_pos ⟨rfl, rfl⟩]) (fun i hi' => ?_)
        rw [u2_at, if_neg (fun z => hi' z.2)]
        exact G i hi'
theorem be110 {h : Nat → Nat} {d0 : DD} (V : VH h) (M : HM d0 h) {k u v : Nat} (hu : u < 30) (hv : v < 30) (v1 v3 : Int32) (k41 : Int32 → Int32 → Int32 → Int32 → DD → Option (Int64 × DD)) (Q : Int64 → DD → Prop) (K : ∀ d, FR [99, 100] d0 d → JB h k u (v + 1) d → OW (k41 v1 (nI u) v3 (nI (v + 1)) d) Q) : ∀ (m j f : Nat) (d : DD), j + m = h 0 → m < f → FR [99, 100] d0 d → JB h k u v d → d.2 100 v = mkL (BJ h k u v) → (∀ j', j' < j → d.2 99 (30 * j' + v) = mkL (BL h j' u v)) → OW (f_X10_bet_110 k41 f v1 (nI u) v3 (nI v) (nI j) d) Q := by
  have v0 := V.1
  intro m
  induction m with
  | zero =>
    intro j f d hi hf F G e H
    cases f with
    | zero => omega
    | succ f =>
      show OW (f_X10_bet_110B k41 (f_X10_bet_110 k41 f) _ _ _ _ _ _) Q
      unfold f_X10_bet_110B
      have MM := hm_fr M F (by decide) (by decide) (by decide)
      simp (disch := omega) only [bd_e, ob_e, ow_ret_e, u1_at, u1_2, u2_at, u2_1, ↓reduceIte, false_and, true_and, and_true, and_false, not_true_eq_false, not_false_eq_true, decide_true, decide_false, Bool.true_and, Bool.false_and, Bool.and_true, Bool.and_false, Bool.or_false, Bool.false_or, Bool.true_or, Bool.or_true, ↓mI_lit, ↓mL_lit, nI_lit, lN_lit, nI_add, pk_mul, lN_add, lN_mul, nI_ltI, nI_eq, nI_clamp, ix_nI, ix_mI, nI_mI, mI_nI, lN_mL, mL_lN, mI_lt, lt_mI, pI_mI, pI_nI, pI_eq, pI_lt0, pI_e, Nat.not_lt_zero, Nat.zero_add, Nat.add_zero, ix_T, lt_T, lt_F, eq_T, eq_F, ln_88, MM.1]
      refine K d F (fun v' hv' => ?_)
      rcases Nat.lt_or_ge v' v with z | z
      · exact G v' z
      · have : v' = v := by omega
        subst this
        exact ⟨e, fun j' hj' => H j' (by omega)⟩
  | succ m ih =>
    intro j f d hi hf F G e H
    cases f with
    | zero => omega
    | succ f =>
      show OW (f_X10_bet_110B k41 (f_X10_bet_110 k41 f) _ _ _ _ _ _) Q
      unfold f_X10_bet_110B
      have MM := hm_fr M F (by decide) (by decide) (by decide)
      have hj : j < h 0 := by omega
      have tl := tt_le V hj
      simp (disch := omega) only [bd_e, ob_e, ow_ret_e, u1_at, u1_2, u2_at, u2_1, ↓reduceIte, false_and, true_and, and_true, and_false, not_true_eq_false, not_false_eq_true, decide_true, decide_false, Bool.true_and, Bool.false_and, Bool.and_true, Bool.and_false, Bool.or_false, Bool.false_or, Bool.true_or, Bool.or_true, ↓mI_lit, ↓mL_lit, nI_lit, lN_lit, nI_add, pk_mul, lN_add, lN_mul, nI_ltI, nI_eq, nI_clamp, ix_nI, ix_mI, nI_mI, mI_nI, lN_mL, mL_lN, mI_lt, lt_mI, pI_mI, pI_nI, pI_eq, pI_lt0, pI_e, Nat.not_lt_zero, Nat.zero_add, Nat.add_zero, ix_T, lt_T, lt_F, eq_T, eq_F, ln_88, ln_99, MM.1]
      have F1 : FR [99] d (u2 d 99 (30 * j + v) (lN 0)) := fr_u2 (fr_refl _ _) (by decide)
      refine be138 (d0 := u2 d 99 (30 * j + v) (lN 0)) V (hm_fr MM F1 (by decide) (by decide) (by decide)) hj hu hv v1 v3 _ _ Q ?_ (TT h j) 0 FU _ (by omega) (by unfold FU; omega) (fr_refl _ _) ?_ (fun _ _ => rfl)
      · intro d' F' e' G'
        refine ih (j + 1) f d' (by omega) (by omega) (fr_trans F (fr_mono (fr_trans F1 F') (by decide))) ?_ ?_ ?_
        · intro v' hv'
          refine ⟨?_, fun j' hj' => ?_⟩
          · rw [(F' 100 (by decide)).2, (F1 100 (by decide)).2]; exact (G v' hv').1
          · rw [G' _ (by omega), u2_at, if_neg (by omega)]; exact (G v' hv').2 j' hj'
        · rw [(F' 100 (by decide)).2, (F1 100 (by decide)).2]; exact e
        · intro j' hj'
          by_cases q : j' = j
          · rw [q]; exact e'
          · rw [G' _ (by omega), u2_at, if_neg (by omega)]; exact H j' (by omega)
      · rw [u2_at, if_pos ⟨rfl, rfl⟩, mk_0]
        apply mk_congr
        intro i _
        simp
theorem be59 {h : Nat → Nat} {d0 : DD} (V : VH h) (M : HM d0 h) {k u v : Nat} (hk : k < h 0) (hu : u < 30) (hv : v < 30) (v3 : Int32) (k41 : Int32 → Int32 → Int32 → Int32 → DD → Option (Int64 × DD)) (Q : Int64 → DD → Prop) (K : ∀ d, FR [99, 100] d0 d → JB h k u (v + 1) d → OW (k41 (nI k) (nI u) v3 (nI (v + 1)) d) Q) : ∀ (m t f : Nat) (d : DD), t + m = TT h k → m < f → FR [99, 100] d0 d → d.2 100 v = mkL (fun i => decide (i < t) && decide (nh (h (2 + k)) i u = v)) → JB h k u v d → OW (f_X10_bet_59 k41 f (nI k) (nI u) v3 (nI v) (nI t) d) Q := by
  have v0 := V.1
  have tl := tt_le V hk
  intro m
  induction m with
  | zero =>
    intro t f d hi hf F e G
    cases f with
    | zero => omega
    | succ f =>
      show OW (f_X10_bet_59B k41 (f_X10_bet_59 k41 f) _ _ _ _ _ _) Q
      unfold f_X10_bet_59B
      have MM := hm_fr M F (by decide) (by decide) (by decide)
      have m95 : d.1 95 k = nI (TT h k) := MM.2.1 k hk
      simp (disch := omega) only [bd_e, ob_e, ow_ret_e, u1_at, u1_2, u2_at, u2_1, ↓reduceIte, false_and, true_and, and_true, and_false, not_true_eq_false, not_false_eq_true, decide_true, decide_false, Bool.true_and, Bool.false_and, Bool.and_true, Bool.and_false, Bool.or_false, Bool.false_or, Bool.true_or, Bool.or_true, ↓mI_lit, ↓mL_lit, nI_lit, lN_lit, nI_add, pk_mul, lN_add, lN_mul, nI_ltI, nI_eq, nI_clamp, ix_nI, ix_mI, nI_mI, mI_nI, lN_mL, mL_lN, mI_lt, lt_mI, pI_mI, pI_nI, pI_eq, pI_lt0, pI_e, Nat.not_lt_zero, Nat.zero_add, Nat.add_zero, ix_T, lt_T, lt_F, eq_T, eq_F, ln_95, m95]
      refine be110 V M hu hv (nI k) v3 k41 Q K (h 0) 0 FU d (by omega) (by unfold FU; omega) F G ?_ (fun j' hj' => by omega)
      rw [e, show t = TT h k by omega]
      rfl
  | succ m ih =>
    intro t f d hi hf F e G
    cases f with
    | zero => omega
    | succ f =>
      show OW (f_X10_bet_59B k41 (f_X10_bet_59 k41 f) _ _ _ _ _ _) Q
      unfold f_X10_bet_59B
      have MM := hm_fr M F (by decide) (by decide) (by decide)
      have m95 : d.1 95 k = nI (TT h k) := MM.2.1 k hk
      have en := e_X10_nextHour V MM hk (t := t) (u := u) (by omega) (by omega)
      have ln := nh_le (lo := h (2 + k)) (t := t) (u := u) (by omega)
      simp (disch := omega) only [bd_e, ob_e, ow_ret_e, u1_at, u1_2, u2_at, u2_1, ↓reduceIte, false_and, true_and, and_true, and_false, not_true_eq_false, not_false_eq_true, decide_true, decide_false, Bool.true_and, Bool.false_and, Bool.and_true, Bool.and_false, Bool.or_false, Bool.false_or, Bool.true_or, Bool.or_true, ↓mI_lit, ↓mL_lit, nI_lit, lN_lit, nI_add, pk_mul, lN_add, lN_mul, nI_ltI, nI_eq, nI_clamp, ix_nI, ix_mI, nI_mI, mI_nI, lN_mL, mL_lN, mI_lt, lt_mI, pI_mI, pI_nI, pI_eq, pI_lt0, pI_e, Nat.not_lt_zero, Nat.zero_add, Nat.add_zero, ix_T, lt_T, lt_F, ln_95, ln_100, m95, en, e]
      have g := mk_grow (T := TT h k) (t := t) (X := fun i => decide (nh (h (2 + k)) i u = v)) (by omega) (by omega)
      have GG : ∀ x, JB h k u v (u2 d 100 v x) := by
        intro x v' hv'
        refine ⟨?_, fun j' hj' => ?_⟩
        · rw [u2_at, if_neg (by omega)]; exact (G v' hv').1
        · rw [u2_at, if_neg (by omega)]; exact (G v' hv').2 j' hj'
      by_cases c : nh (h (2 + k)) t u = v
      · rw [if_pos c]
        rw [if_pos (by rw [decide_eq_true c])] at g
        rw [g]
        exact ih (t + 1) f _ (by omega) (by omega) (fr_u2 F (by decide)) (by rw [u2_at, if_pos ⟨rfl, rfl⟩]) (GG _)
      · rw [if_neg c]
        rw [if_neg (by rw [decide_eq_false c]; decide)] at g
        rw [g]
        exact ih (t + 1) f _ (by omega) (by omega) (fr_u2 F (by decide)) (by rw [u2_at, if_pos ⟨rfl, rfl⟩]) (GG _)
theorem be41 {h : Nat → Nat} {d0 : DD} (V : VH h) (M : HM d0 h) {k u : Nat} (hk : k < h 0) (hu : u < 30) (v3 : Int32) (Q : Int64 → DD → Prop) (K : ∀ d, FR [99, 100] d0 d → JB h k u 30 d → OW (if ixb (169 : Int32) (ln 88) then
    (f_X10_worldsBy (d.1 88 (169 : Int32).toNatClampNeg) d).bind fun q3 =>
      (f_X10_firstWays q3.2).bind fun q4 =>
      f_X10_bet_227 FU (nI k) (nI u) v3 q3.1 (0 : Int64) q4.2
    else none) Q) : ∀ (m v f : Nat) (d : DD), v + m = 30 → m < f → FR [99, 100] d0 d → JB h k u v d → OW (f_X10_bet_41 f (nI k) (nI u) v3 (nI v) d) Q := by
  have v0 := V.1
  have tl := tt_le V hk
  intro m
  induction m with
  | zero =>
    intro v f d hi hf F G
    cases f with
    | zero => omega
    | succ f =>
      show OW (f_X10_bet_41B (f_X10_bet_41 f) _ _ _ _ _) Q
      unfold f_X10_bet_41B
      rw [if_neg (by rw [nI_lit, nI_ltI (by omega) (by omega)]; omega)]
      have e : v = 30 := by omega
      subst e
      exact K d F G
  | succ m ih =>
    intro v f d hi hf F G
    cases f with
    | zero => omega
    | succ f =>
      show OW (f_X10_bet_41B (f_X10_bet_41 f) _ _ _ _ _) Q
      unfold f_X10_bet_41B
      rw [if_pos (by rw [nI_lit, nI_ltI (by omega) (by omega)]; omega), if_pos ((ix_nI (by omega)).mpr (by rw [ln_100]; omega))]
      rw [nI_clamp (by omega), bd_e]
      have F1 : FR [99, 100] d (u2 d 100 v 0) := fr_u2 (fr_refl _ _) (by decide)
      refine be59 V M hk hu (by omega) v3 _ Q (fun d' F' G' => ih (v + 1) f d' (by omega) (by omega) F' G') (TT h k) 0 FU _ (by omega) (by unfold FU; omega) (fr_trans F F1) ?_ ?_
      · rw [u2_at, if_pos ⟨rfl, rfl⟩, show (0 : Int64) = lN 0 from rfl, mk_0]
        apply mk_congr
        intro i _
        simp
      · intro v' hv'
        refine ⟨?_, fun j' hj' => ?_⟩
        · rw [u2_at, if_neg (by omega)]; exact (G v' hv').1
        · rw [u2_at, if_neg (by omega)]; exact (G v' hv').2 j' hj'
