-- PURE ROWS: readings: may, passes, turn, content, kind, telling
theorem q_may {h nm} {d : DD} (V : VH h) (H : HC 2 d h nm) (M : HM d h) (x : Int32) : ∃ r d1 d2, f_X9_may x d = some (r, d1) ∧ f_X10_may x d1 = some (r, d2) ∧ FQ d d2 := by
  have v1 := V.2.1
  rcases ix_dec x (n := h 1) (by omega) with ⟨a, ha, rfl⟩ | c
  · have ck := ixt ha (by omega)
    refine eq2 (nI (h (11 + a))) ?_ (fun d1 F => ?_)
    · have e := hc_wa hb_2 V H ha
      rw [rf_2_7] at e
      unfold f_X9_may
      simp only [ob_e, bd_e, ↓reduceIte, one_ne, zro_eq, bI_t0, bI_f0, decide_true, decide_false, e_X1_hasPerson V H, eq_true ck, e_X9_at, e]
      exact ow_ret ⟨fq_refl _, rfl⟩
    · have M0 := hm_fq (hm_fq M F) (fq_thr d1 0)
      have ix : ixb ((11 : Int32) + nI a) (ln 88) := by
        rw [show (11 : Int32) = nI 11 from rfl, nI_add]
        exact (ix_nI (by omega)).mpr (by rw [ln_88]; omega)
      have rd : (u1 d1 86 0 0).1 88 ((11 : Int32) + nI a).toNatClampNeg = nI (h (11 + a)) := by
        rw [show (11 : Int32) = nI 11 from rfl, nI_add, nI_clamp (by omega)]
        exact M0.1 _
      unfold f_X10_may
      simp only [ob_e, bd_e, ↓reduceIte, one_ne, zro_eq, bI_t0, bI_f0, decide_true, decide_false, e_X10_isPerson V M0, eq_true ck, eq_true ix, rd]
      exact ow_ret ⟨fq_thr d1 0, rfl⟩
  · refine eq2 mI ?_ (fun d1 F => ?_)
    · unfold f_X9_may
      simp only [ob_e, bd_e, ↓reduceIte, one_ne, zro_eq, bI_t0, bI_f0, decide_true, decide_false, e_X1_hasPerson V H, eq_false c]
      exact ow_ret ⟨fq_refl _, rfl⟩
    · have M0 := hm_fq (hm_fq M F) (fq_thr d1 0)
      unfold f_X10_may
      simp only [ob_e, bd_e, ↓reduceIte, one_ne, zro_eq, bI_t0, bI_f0, decide_true, decide_false, e_X10_isPerson V M0, eq_false c]
      exact ow_ret ⟨fq_thr d1 0, rfl⟩
theorem q_turn {h nm} {d : DD} (V : VH h) (H : HC 2 d h nm) (M : HM d h) (x : Int32) : ∃ r d1 d2, f_X9_turn x d = some (r, d1) ∧ f_X10_turn x d1 = some (r, d2) ∧ FQ d d2 := by
  rcases ix_dec x (n := 30) (by omega) with ⟨u, hu, rfl⟩ | c
  · have ck := ixt hu (by omega)
    refine eq2 (pI (h (19 + u))) ?_ (fun d1 F => ?_)
    · have e := hc_tu hb_2 H hu
      rw [rf_2_10] at e
      unfold f_X9_turn
      simp only [ob_e, bd_e, ↓reduceIte, one_ne, zro_eq, bI_t0, bI_f0, decide_true, decide_false, e_X9_isHour, eq_true ck, e_X9_at, e]
      exact ow_ret ⟨fq_refl _, rfl⟩
    · have M0 := hm_fq (hm_fq M F) (fq_thr d1 0)
      have ix : ixb ((19 : Int32) + nI u) (ln 88) := by
        rw [show (19 : Int32) = nI 19 from rfl, nI_add]
        exact (ix_nI (by omega)).mpr (by rw [ln_88]; omega)
      have rd : (u1 d1 86 0 0).1 88 ((19 : Int32) + nI u).toNatClampNeg = nI (h (19 + u)) := by
        rw [show (19 : Int32) = nI 19 from rfl, nI_add, nI_clamp (by omega)]
        exact M0.1 _
      unfold f_X10_turn
      simp only [ob_e, bd_e, ↓reduceIte, one_ne, zro_eq, bI_t0, bI_f0, decide_true, decide_false, e_X10_isHour, eq_true ck, eq_true ix, rd]
      exact ow_ret ⟨fq_thr d1 0, rfl⟩
  · refine eq2 mI ?_ (fun d1 F => ?_)
    · unfold f_X9_turn
      simp only [ob_e, bd_e, ↓reduceIte, one_ne, zro_eq, bI_t0, bI_f0, decide_true, decide_false, e_X9_isHour, eq_false c]
      exact ow_ret ⟨fq_refl _, rfl⟩
    · unfold f_X10_turn
      simp only [ob_e, bd_e, ↓reduceIte, one_ne, zro_eq, bI_t0, bI_f0, decide_true, decide_false, e_X10_isHour, eq_false c]
      exact ow_ret ⟨fq_thr d1 0, rfl⟩
theorem bt_of_l {x : Int64} {i : Nat} (hi : i < 32) : bt x.toInt32 i = bl x i := by
  unfold bt bl
  rw [Int64.toBitVec_toInt32, BitVec.getLsbD_signExtend]
  simp [hi, show i < 64 by omega]
theorem ush_bit {P : Nat → Bool} {t : Nat} (ht : t < 64) : (lushr (mkL P) (nI t)).toInt32 &&& (1 : Int32) = nI (if P t = true then 1 else 0) := by
  apply b_ext
  intro i hi
  rw [b_and, bt_of_l hi, bl_ushr ht, show (1 : Int32) = nI 1 from rfl, bt_nI hi, bt_nI hi]
  by_cases e : i = 0
  · subst e
    rw [Nat.add_zero, bl_mk ht]
    cases P t <;> rfl
  · have z1 : Nat.testBit 1 i = false := by
      obtain ⟨j, rfl⟩ : ∃ j, i = j + 1 := ⟨i - 1, by omega⟩
      rw [Nat.testBit_succ]
      simp
    rw [z1, Bool.and_false]
    by_cases c : P t = true
    · rw [if_pos c, z1]
    · rw [if_neg c, Nat.zero_testBit]
theorem q_passes {h nm} {d : DD} (V : VH h) (H : HC 2 d h nm) (M : HM d h) (x y z : Int32) : ∃ r d1 d2, f_X9_passes x y z d = some (r, d1) ∧ f_X10_passes x y z d1 = some (r, d2) ∧ FQ d d2 := by
  have v0 := V.1
  rcases ix_dec x (n := h 0) (by omega) with ⟨k, hk, rfl⟩ | c
  · have tl := tt_le V hk
    have ck := ixt hk (by omega)
    have e3 : ixb (nI k) (ln 95) := ixt (by rw [ln_95]; omega) (by rw [ln_95]; omega)
    rcases ix_dec y (n := TT h k) (by omega) with ⟨t, ht, rfl⟩ | c
    · have ct := ixt ht (by omega)
      have ct' : ixb (nI t) (tn (h (2 + k)) (h (5 + k))) := ct
      rcases ix_dec z (n := 30) (by omega) with ⟨u, hu, rfl⟩ | c
      · have cu := ixt hu (by omega)
        refine eq2 (nI (if pa (h (2 + k)) t u = true then 1 else 0)) ?_ (fun d1 F => ?_)
        · unfold f_X9_passes
          simp only [ob_e, bd_e, ↓reduceIte, one_ne, zro_eq, bI_t0, bI_f0, decide_true, decide_false, e_X1_hasKind V H, eq_true ck, e_X1_hasTimetable hb_2 V H hk, eq_true ct', e_X9_isHour, eq_true cu, e_X1_passing hb_2 V H hk hu]
          refine ow_ret ⟨fq_refl _, ?_⟩
          rw [ush_bit (by omega)]
          have tT : t < tn (h (2 + k)) (h (5 + k)) := ht
          unfold pb
          rw [decide_eq_true tT, Bool.true_and]
        · have M0 := hm_fq (hm_fq M F) (fq_thr d1 0)
          have m95 : (u1 d1 86 0 0).1 95 k = nI (TT h k) := M0.2.1 k hk
          have ei := e_X10_isIn0 (x := nI t) (n := TT h k) (by omega) (u1 d1 86 0 0)
          rw [show nI 0 = (0 : Int32) from rfl] at ei
          have m95' : (u1 d1 86 0 0).1 95 k - 1 = pI (TT h k) := by rw [m95]; rfl
          have ix : ixb ((36 : Int32) * nI k + nI t) (ln 94) := by
            rw [show (36 : Int32) = nI 36 from rfl, pk_mul, nI_add]
            exact (ix_nI (by omega)).mpr (by rw [ln_94]; omega)
          have rd : (u1 d1 86 0 0).1 94 ((36 : Int32) * nI k + nI t).toNatClampNeg = nI (mkN 30 (fun u => pa (h (2 + k)) t u)) := by
            rw [show (36 : Int32) = nI 36 from rfl, pk_mul, nI_add, nI_clamp (by omega)]
            exact M0.2.2 k t hk ht
          unfold f_X10_passes
          simp only [ob_e, bd_e, ↓reduceIte, one_ne, zro_eq, bI_t0, bI_f0, decide_true, decide_false, e_X10_isKind V M0, eq_true ck, eq_true e3, nI_clamp (show k < 2 ^ 31 by omega), m95', ei, eq_true ct, e_X10_isHour, eq_true cu, eq_true ix, rd]
          refine ow_ret ⟨fq_thr d1 0, ?_⟩
          have hm : mkN 30 (fun u => pa (h (2 + k)) t u) < 2 ^ 30 := mkN_lt _ _
          show (nI (mkN 30 (fun u => pa (h (2 + k)) t u)) >>> (nI u &&& nI 31)) &&& nI 1 = _
          rw [q_bit (by omega) (by omega), mkN_tb, decide_eq_true hu, Bool.true_and]
      · refine eq2 mI ?_ (fun d1 F => ?_)
        · unfold f_X9_passes
          simp only [ob_e, bd_e, ↓reduceIte, one_ne, zro_eq, bI_t0, bI_f0, decide_true, decide_false, e_X1_hasKind V H, eq_true ck, e_X1_hasTimetable hb_2 V H hk, eq_true ct', e_X9_isHour, eq_false c]
          exact ow_ret ⟨fq_refl _, rfl⟩
        · have M0 := hm_fq (hm_fq M F) (fq_thr d1 0)
          have m95 : (u1 d1 86 0 0).1 95 k = nI (TT h k) := M0.2.1 k hk
          have ei := e_X10_isIn0 (x := nI t) (n := TT h k) (by omega) (u1 d1 86 0 0)
          rw [show nI 0 = (0 : Int32) from rfl] at ei
          have m95' : (u1 d1 86 0 0).1 95 k - 1 = pI (TT h k) := by rw [m95]; rfl
          unfold f_X10_passes
          simp only [ob_e, bd_e, ↓reduceIte, one_ne, zro_eq, bI_t0, bI_f0, decide_true, decide_false, e_X10_isKind V M0, eq_true ck, eq_true e3, nI_clamp (show k < 2 ^ 31 by omega), m95', ei, eq_true ct, e_X10_isHour, eq_false c]
          exact ow_ret ⟨fq_thr d1 0, rfl⟩
    · have c' : ¬ ixb y (tn (h (2 + k)) (h (5 + k))) := c
      refine eq2 mI ?_ (fun d1 F => ?_)
      · unfold f_X9_passes
        simp only [ob_e, bd_e, ↓reduceIte, one_ne, zro_eq, bI_t0, bI_f0, decide_true, decide_false, e_X1_hasKind V H, eq_true ck, e_X1_hasTimetable hb_2 V H hk, eq_false c']
        exact ow_ret ⟨fq_refl _, rfl⟩
      · have M0 := hm_fq (hm_fq M F) (fq_thr d1 0)
        have m95 : (u1 d1 86 0 0).1 95 k = nI (TT h k) := M0.2.1 k hk
        have ei := e_X10_isIn0 (x := y) (n := TT h k) (by omega) (u1 d1 86 0 0)
        rw [show nI 0 = (0 : Int32) from rfl] at ei
        have m95' : (u1 d1 86 0 0).1 95 k - 1 = pI (TT h k) := by rw [m95]; rfl
        unfold f_X10_passes
        simp only [ob_e, bd_e, ↓reduceIte, one_ne, zro_eq, bI_t0, bI_f0, decide_true, decide_false, e_X10_isKind V M0, eq_true ck, eq_true e3, nI_clamp (show k < 2 ^ 31 by omega), m95', ei, eq_false c]
        exact ow_ret ⟨fq_thr d1 0, rfl⟩
  · refine eq2 mI ?_ (fun d1 F => ?_)
    · unfold f_X9_passes
      simp only [ob_e, bd_e, ↓reduceIte, one_ne, zro_eq, bI_t0, bI_f0, decide_true, decide_false, e_X1_hasKind V H, eq_false c]
      exact ow_ret ⟨fq_refl _, rfl⟩
    · have M0 := hm_fq (hm_fq M F) (fq_thr d1 0)
      unfold f_X10_passes
      simp only [ob_e, bd_e, ↓reduceIte, one_ne, zro_eq, bI_t0, bI_f0, decide_true, decide_false, e_X10_isKind V M0, eq_false c]
      exact ow_ret ⟨fq_thr d1 0, rfl⟩
-- wants
def wt (h : Nat → Nat) (a u : Nat) : Nat := h (49 + (30 * a + u)) - 1
theorem e_X1_wantOf {b d h nm} (B : HB b) (H : HC b d h nm) {a u : Nat} (ha : a < 4) (hu : u < 30) : f_X1_wantOf b (nI a) (nI u) d = some (nI (wt h a u), d) := by
  unfold f_X1_wantOf
  rw [show (30 : Int32) = nI 30 from rfl, pk_mul, nI_add, e_X9_at, ob_e, Nat.mul_comm a 30, hc_wt B H (by omega)]
  rfl
theorem e_X10_wantOf {d h} (V : VH h) (M : HM d h) {a u : Nat} (ha : a < 4) (hu : u < 30) : f_X10_wantOf (nI a) (nI u) d = some (nI (wt h a u), d) := by
  have v := V.2.2.2.2.2.2.1 (30 * a + u) (by omega)
  unfold f_X10_wantOf wt
  have rd : d.1 88 ((49 : Int32) + 30 * nI a + nI u).toNatClampNeg = nI (h (49 + (30 * a + u))) := by
    rw [show (49 : Int32) = nI 49 from rfl, show (30 : Int32) = nI 30 from rfl, pk_mul, nI_add, nI_add, nI_clamp (by omega), M.1, Nat.add_assoc]
  have ix : ixb ((49 : Int32) + 30 * nI a + nI u) (ln 88) := by
    rw [show (49 : Int32) = nI 49 from rfl, show (30 : Int32) = nI 30 from rfl, pk_mul, nI_add, nI_add]
    exact (ix_nI (by omega)).mpr (by rw [ln_88]; omega)
  rw [if_pos ix, bd_e, rd]
  by_cases c : 0 < h (49 + (30 * a + u))
  · rw [if_pos (show (0 : Int32) < nI (h (49 + (30 * a + u))) from (nI_ltI (a := 0) (by omega) (by omega)).mpr c)]
    rw [show (1 : Int32) = nI 1 from rfl, pk_sub (by omega)]
  · rw [if_neg (show ¬ (0 : Int32) < nI (h (49 + (30 * a + u))) from fun z => c ((nI_ltI (a := 0) (by omega) (by omega)).mp z)), show h (49 + (30 * a + u)) - 1 = 0 by omega]
    rfl
def co (h : Nat → Nat) (a n : Nat) : Nat := cs n (fun u => if h (19 + u) = a + 1 then wt h a u else 0)
theorem cc_l {h nm} {d : DD} (V : VH h) (H : HC 2 d h nm) {a : Nat} (ha : a < h 1) : ∀ (m u f : Nat), u + m = 30 → m < f → f_X1_contentOf_4 2 f (nI a) (nI (co h a u)) (nI u) d = some (nI (co h a 30), d) := by
  have v1 := V.2.1
  intro m
  induction m with
  | zero =>
    intro u f hi hf
    cases f with
    | zero => omega
    | succ f =>
      show f_X1_contentOf_4B 2 (f_X1_contentOf_4 2 f) _ _ _ _ = _
      unfold f_X1_contentOf_4B
      rw [if_neg (by rw [nI_lit, nI_ltI (by omega) (by omega)]; omega), show u = 30 by omega]
  | succ m ih =>
    intro u f hi hf
    cases f with
    | zero => omega
    | succ f =>
      show f_X1_contentOf_4B 2 (f_X1_contentOf_4 2 f) _ _ _ _ = _
      unfold f_X1_contentOf_4B
      have s := ih (u + 1) f (by omega) (by omega)
      have vu := V.2.2.2.2.2.1 u (by omega)
      have e : co h a (u + 1) = co h a u + (if h (19 + u) = a + 1 then wt h a u else 0) := rfl
      rw [e] at s
      rw [if_pos (by rw [nI_lit, nI_ltI (by omega) (by omega)]; omega), e_X9_at, ob_e, hc_tu hb_2 H (by omega)]
      dsimp only
      by_cases c : h (19 + u) = a + 1
      · rw [if_pos c] at s
        rw [if_pos ((pI_nI (by omega) (by omega)).mpr c), e_X1_wantOf hb_2 H (by omega) (by omega), ob_e, bd_e]
        dsimp only
        rw [nI_add, nI_1]
        exact s
      · rw [if_neg c, Nat.add_zero] at s
        rw [if_neg (fun z => c ((pI_nI (by omega) (by omega)).mp z)), nI_1]
        exact s
theorem cm19 {h : Nat → Nat} {d : DD} (V : VH h) (M : HM d h) {a : Nat} (ha : a < h 1) : ∀ (m u f : Nat), u + m = 30 → m < f → f_X10_content_19 f (nI a) (nI (co h a u)) (nI u) d = some (nI (co h a 30), d) := by
  have v1 := V.2.1
  intro m
  induction m with
  | zero =>
    intro u f hi hf
    cases f with
    | zero => omega
    | succ f =>
      show f_X10_content_19B (f_X10_content_19 f) _ _ _ _ = _
      unfold f_X10_content_19B
      rw [if_neg (by rw [nI_lit, nI_ltI (by omega) (by omega)]; omega), show u = 30 by omega]
  | succ m ih =>
    intro u f hi hf
    cases f with
    | zero => omega
    | succ f =>
      show f_X10_content_19B (f_X10_content_19 f) _ _ _ _ = _
      unfold f_X10_content_19B
      have s := ih (u + 1) f (by omega) (by omega)
      have vu := V.2.2.2.2.2.1 u (by omega)
      have e : co h a (u + 1) = co h a u + (if h (19 + u) = a + 1 then wt h a u else 0) := rfl
      rw [e] at s
      have ix : ixb ((19 : Int32) + nI u) (ln 88) := by
        rw [show (19 : Int32) = nI 19 from rfl, nI_add]
        exact (ix_nI (by omega)).mpr (by rw [ln_88]; omega)
      have rd : d.1 88 ((19 : Int32) + nI u).toNatClampNeg - 1 = pI (h (19 + u)) := by
        rw [show (19 : Int32) = nI 19 from rfl, nI_add, nI_clamp (by omega), M.1]
        rfl
      rw [if_pos (by rw [nI_lit, nI_ltI (by omega) (by omega)]; omega), if_pos ix, rd]
      by_cases c : h (19 + u) = a + 1
      · rw [if_pos c] at s
        rw [if_pos ((pI_nI (by omega) (by omega)).mpr c), e_X10_wantOf V M (by omega) (by omega), ob_e, bd_e]
        dsimp only
        rw [nI_add, nI_1]
        exact s
      · rw [if_neg c, Nat.add_zero] at s
        rw [if_neg (fun z => c ((pI_nI (by omega) (by omega)).mp z)), bd_e, nI_1, show (0 : Int32) = nI 0 from rfl, nI_add, Nat.add_zero]
        exact s
theorem q_content {h nm} {d : DD} (V : VH h) (H : HC 2 d h nm) (M : HM d h) (x : Int32) : ∃ r d1 d2, f_X9_content x d = some (r, d1) ∧ f_X10_content x d1 = some (r, d2) ∧ FQ d d2 := by
  have v1 := V.2.1
  rcases ix_dec x (n := h 1) (by omega) with ⟨a, ha, rfl⟩ | c
  · have ck := ixt ha (by omega)
    refine eq2 (nI (co h a 30)) ?_ (fun d1 F => ?_)
    · have e : f_X1_contentOf 2 (nI a) d = some (nI (co h a 30), d) := cc_l V H ha 30 0 FU rfl (by unfold FU; omega)
      unfold f_X9_content
      simp only [ob_e, bd_e, ↓reduceIte, one_ne, zro_eq, bI_t0, bI_f0, decide_true, decide_false, e_X1_hasPerson V H, eq_true ck, e]
      exact ow_ret ⟨fq_refl _, rfl⟩
    · have M0 := hm_fq (hm_fq M F) (fq_thr d1 0)
      unfold f_X10_content
      simp only [ob_e, bd_e, ↓reduceIte, one_ne, zro_eq, bI_t0, bI_f0, decide_true, decide_false, e_X10_isPerson V M0, eq_true ck]
      exact ⟨_, _, cm19 V M0 ha 30 0 FU rfl (by unfold FU; omega), fq_thr d1 0, rfl⟩
  · refine eq2 mI ?_ (fun d1 F => ?_)
    · unfold f_X9_content
      simp only [ob_e, bd_e, ↓reduceIte, one_ne, zro_eq, bI_t0, bI_f0, decide_true, decide_false, e_X1_hasPerson V H, eq_false c]
      exact ow_ret ⟨fq_refl _, rfl⟩
    · have M0 := hm_fq (hm_fq M F) (fq_thr d1 0)
      unfold f_X10_content
      simp only [ob_e, bd_e, ↓reduceIte, one_ne, zro_eq, bI_t0, bI_f0, decide_true, decide_false, e_X10_isPerson V M0, eq_false c]
      exact ow_ret ⟨fq_thr d1 0, rfl⟩
-- kind, telling
theorem t_telling {h nm} {d : DD} (V : VH h) (H : HC 2 d h nm) (M : HM d h) (x y : Int32) : TQ (f_X9_telling x y) (f_X10_telling x y) d := by
  have v2 := V.2.2.2.2.2.2.2.1
  have sz := hc_sz H
  rw [rf_2_11] at sz
  have m169 : ∀ d1, HM d1 h → d1.1 88 (169 : Int32).toNatClampNeg - 1 = pI (h 169) := fun d1 M1 => by
    have : d1.1 88 (169 : Int32).toNatClampNeg = nI (h 169) := M1.1 169
    rw [this]
    rfl
  have refuse : ∀ (c : ¬ (ixb x (h 169) ∧ ixb y 3)), TQ (f_X9_telling x y) (f_X10_telling x y) d := by
    intro c
    refine tq_none (0 : Int32) ⟨d, ?_, fq_refl d⟩ (fun d1 F => ⟨u1 d1 86 0 1, ?_, fq_thr d1 1, rfl, u186 d1 1⟩)
    · unfold f_X9_telling f_X9_telling_27
      rw [sz]
      by_cases c0 : x < 0
      · rw [if_pos c0]
      · rw [if_neg c0]
        obtain ⟨i, hi, rfl⟩ := nI_of c0
        by_cases c1 : i < h 169
        · have c3 : ¬ ixb y 3 := fun q => c ⟨(ix_nI hi).mpr c1, q⟩
          rw [if_pos ((nI_ltI hi (by omega)).mpr c1)]
          rcases nix (by omega) (by omega) c3 with q | ⟨q1, q2⟩
          · rw [if_pos q]
          · have q3 : (2 : Int32) < y := q2
            rw [if_neg q1, if_pos q3]
        · rw [if_neg (fun z => c1 ((nI_ltI hi (by omega)).mp z))]
    · have M1 := hm_fq M F
      have ei := e_X10_isIn0 (x := x) (n := h 169) (by omega) d1
      rw [show nI 0 = (0 : Int32) from rfl] at ei
      have ej := e_X10_isIn0 (x := y) (n := 3) (by omega) d1
      rw [show nI 0 = (0 : Int32) from rfl, show pI 3 = (2 : Int32) from rfl] at ej
      unfold f_X10_telling
      by_cases c1 : ixb x (h 169)
      · have c3 : ¬ ixb y 3 := fun q => c ⟨c1, q⟩
        simp only [ob_e, bd_e, ↓reduceIte, one_ne, zro_eq, bI_t0, bI_f0, decide_true, decide_false, eq_true e169, m169 d1 M1, ei, eq_true c1, ej, eq_false c3, thr1]
      · simp only [ob_e, bd_e, ↓reduceIte, one_ne, zro_eq, bI_t0, bI_f0, decide_true, decide_false, eq_true e169, m169 d1 M1, ei, eq_false c1, thr1]
  rcases ix_dec x (n := h 169) (by omega) with ⟨i, hi, rfl⟩ | c
  · rcases ix_dec y (n := 3) (by omega) with ⟨w, hw, rfl⟩ | c
    · have c1 := ixt hi (by omega)
      have c3 := ixt hw (by omega)
      have t1 := hc_t1 hb_2 V H hi
      have t2 := hc_t2 hb_2 V H hi
      have t3 := hc_t3 hb_2 V H hi
      rw [rf_2_11, rf_12_1] at t1
      rw [rf_2_11, rf_12_2] at t2
      rw [rf_2_11, rf_12_3] at t3
      refine tq_some (nI (h (170 + 3 * i + w))) ⟨d, ?_, fq_refl d⟩ (fun d1 F => ⟨u1 d1 86 0 0, ?_, fq_thr d1 0, rfl, u186 d1 0⟩)
      · unfold f_X9_telling
        rw [sz, if_neg (nI_pos (by omega)), if_pos ((nI_ltI (by omega) (by omega)).mpr hi), if_neg (nI_pos (by omega)), if_neg (by rw [show (2 : Int32) = nI 2 from rfl, nI_ltI (by omega) (by omega)]; omega)]
        have : w = 0 ∨ w = 1 ∨ w = 2 := by omega
        rcases this with rfl | rfl | rfl
        · rw [if_pos (show nI 0 = (0 : Int32) from rfl), e_X9_at, ob_e, t1]
          rfl
        · rw [if_neg (by decide), if_pos (show nI 1 = (1 : Int32) from rfl), e_X9_at, ob_e, t2]
        · rw [if_neg (by decide), if_neg (by decide), e_X9_at, ob_e, t3]
      · have M1 := hm_fq M F
        have M0 := hm_fq M1 (fq_thr d1 0)
        have ei := e_X10_isIn0 (x := nI i) (n := h 169) (by omega) d1
        rw [show nI 0 = (0 : Int32) from rfl] at ei
        have ej := e_X10_isIn0 (x := nI w) (n := 3) (by omega) d1
        rw [show nI 0 = (0 : Int32) from rfl, show pI 3 = (2 : Int32) from rfl] at ej
        have ix : ixb ((170 : Int32) + 3 * nI i + nI w) (ln 88) := by
          rw [show (170 : Int32) = nI 170 from rfl, show (3 : Int32) = nI 3 from rfl, pk_mul, nI_add, nI_add]
          exact (ix_nI (by omega)).mpr (by rw [ln_88]; omega)
        have rd : (u1 d1 86 0 0).1 88 ((170 : Int32) + 3 * nI i + nI w).toNatClampNeg = nI (h (170 + 3 * i + w)) := by
          rw [show (170 : Int32) = nI 170 from rfl, show (3 : Int32) = nI 3 from rfl, pk_mul, nI_add, nI_add, nI_clamp (by omega)]
          exact M0.1 _
        unfold f_X10_telling
        simp only [ob_e, bd_e, ↓reduceIte, one_ne, zro_eq, bI_t0, bI_f0, decide_true, decide_false, eq_true e169, m169 d1 M1, ei, eq_true c1, ej, eq_true c3, thr0, eq_true ix, rd]
    · exact refuse (fun q => c q.2)
  · exact refuse (fun q => c q.1)
theorem t_kind {h nm} {d : DD} (V : VH h) (H : HC 2 d h nm) (M : HM d h) (x y : Int32) : TQ (f_X9_kind x y) (f_X10_kind x y) d := by
  have v0 := V.1
  have refuse : ∀ (c : ¬ (ixb x (h 0) ∧ ixb y 4)), TQ (f_X9_kind x y) (f_X10_kind x y) d := by
    intro c
    refine tq_none (0 : Int32) ⟨d, ?_, fq_refl d⟩ (fun d1 F => ⟨u1 d1 86 0 1, ?_, fq_thr d1 1, rfl, u186 d1 1⟩)
    · unfold f_X9_kind f_X9_kind_20
      by_cases c1 : ixb x (h 0)
      · have c3 : ¬ ixb y 4 := fun q => c ⟨c1, q⟩
        rcases nix (by omega) (by omega) c3 with q | ⟨q1, q2⟩
        · simp only [ob_e, bd_e, ↓reduceIte, one_ne, zro_eq, bI_t0, bI_f0, decide_true, decide_false, e_X1_hasKind V H, eq_true c1, eq_true q]
        · have q3 : (3 : Int32) < y := q2
          simp only [ob_e, bd_e, ↓reduceIte, one_ne, zro_eq, bI_t0, bI_f0, decide_true, decide_false, e_X1_hasKind V H, eq_true c1, q1, eq_true q3]
      · simp only [ob_e, bd_e, ↓reduceIte, one_ne, zro_eq, bI_t0, bI_f0, decide_true, decide_false, e_X1_hasKind V H, eq_false c1]
    · have M1 := hm_fq M F
      have ej := e_X10_isIn0 (x := y) (n := 4) (by omega) d1
      rw [show nI 0 = (0 : Int32) from rfl, show pI 4 = (3 : Int32) from rfl] at ej
      unfold f_X10_kind
      by_cases c1 : ixb x (h 0)
      · have c3 : ¬ ixb y 4 := fun q => c ⟨c1, q⟩
        simp only [ob_e, bd_e, ↓reduceIte, one_ne, zro_eq, bI_t0, bI_f0, decide_true, decide_false, e_X10_isKind V M1, eq_true c1, ej, eq_false c3, thr1]
      · simp only [ob_e, bd_e, ↓reduceIte, one_ne, zro_eq, bI_t0, bI_f0, decide_true, decide_false, e_X10_isKind V M1, eq_false c1, thr1]
  rcases ix_dec x (n := h 0) (by omega) with ⟨k, hk, rfl⟩ | c
  · rcases ix_dec y (n := 4) (by omega) with ⟨w, hw, rfl⟩ | c
    · have c1 := ixt hk (by omega)
      have c3 := ixt hw (by omega)
      have t1 := hc_lo hb_2 V H hk
      have t2 := hc_hi hb_2 V H hk
      have t3 := hc_tr hb_2 V H hk
      rw [rf_2_3] at t1
      rw [rf_2_4] at t2
      rw [rf_2_5] at t3
      have cn0 : ¬ nI w < 0 := nI_pos (by omega)
      have cn3 : ¬ (3 : Int32) < nI w := by rw [show (3 : Int32) = nI 3 from rfl, nI_ltI (by omega) (by omega)]; omega
      refine tq_some (if w = 0 then nI (h (2 + k)) else if w = 1 then nI (h (5 + k)) else if w = 2 then pI (h (8 + k)) else nI (TT h k)) ⟨d, ?_, fq_refl d⟩ (fun d1 F => ⟨u1 d1 86 0 0, ?_, fq_thr d1 0, rfl, u186 d1 0⟩)
      · unfold f_X9_kind
        simp only [ob_e, bd_e, ↓reduceIte, one_ne, zro_eq, bI_t0, bI_f0, decide_true, decide_false, e_X1_hasKind V H, eq_true c1, cn0, cn3, e_X9_at, t1, t2, t3, e_X1_timetablesOf hb_2 V H hk]
        have : w = 0 ∨ w = 1 ∨ w = 2 ∨ w = 3 := by omega
        rcases this with rfl | rfl | rfl | rfl
        · rfl
        · rfl
        · rfl
        · rfl
      · have M1 := hm_fq M F
        have M0 := hm_fq M1 (fq_thr d1 0)
        have ej := e_X10_isIn0 (x := nI w) (n := 4) (by omega) d1
        rw [show nI 0 = (0 : Int32) from rfl, show pI 4 = (3 : Int32) from rfl] at ej
        have i2 : ixb ((2 : Int32) + nI k) (ln 88) := by
          rw [show (2 : Int32) = nI 2 from rfl, nI_add]
          exact (ix_nI (by omega)).mpr (by rw [ln_88]; omega)
        have i5 : ixb ((5 : Int32) + nI k) (ln 88) := by
          rw [show (5 : Int32) = nI 5 from rfl, nI_add]
          exact (ix_nI (by omega)).mpr (by rw [ln_88]; omega)
        have r2 : (u1 d1 86 0 0).1 88 ((2 : Int32) + nI k).toNatClampNeg = nI (h (2 + k)) := by
          rw [show (2 : Int32) = nI 2 from rfl, nI_add, nI_clamp (by omega)]
          exact M0.1 _
        have r5 : (u1 d1 86 0 0).1 88 ((5 : Int32) + nI k).toNatClampNeg = nI (h (5 + k)) := by
          rw [show (5 : Int32) = nI 5 from rfl, nI_add, nI_clamp (by omega)]
          exact M0.1 _
        have i95 : ixb (nI k) (ln 95) := (ix_nI (by omega)).mpr (by rw [ln_95]; omega)
        have r95 : (u1 d1 86 0 0).1 95 k = nI (TT h k) := M0.2.1 k hk
        unfold f_X10_kind
        simp only [ob_e, bd_e, ↓reduceIte, one_ne, zro_eq, bI_t0, bI_f0, decide_true, decide_false, e_X10_isKind V M1, eq_true c1, ej, eq_true c3, thr0, eq_true i2, eq_true i5, r2, r5, e_X10_truly M0 (show k < 3 by omega), eq_true i95, nI_clamp (show k < 2 ^ 31 by omega), r95]
        have : w = 0 ∨ w = 1 ∨ w = 2 ∨ w = 3 := by omega
        rcases this with rfl | rfl | rfl | rfl
        · rfl
        · rfl
        · rfl
        · rfl
    · exact refuse (fun q => c q.2)
  · exact refuse (fun q => c q.1)
