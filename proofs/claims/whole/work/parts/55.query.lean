-- PURE ROWS: queries, class and model
def PL : List Nat := [0, 1, 2, 3, 4, 5, 6, 7, 8, 9, 10, 11, 12, 13, 14, 15, 16, 17, 18, 19, 20, 21, 22, 23, 24, 25, 26, 27, 28, 29, 30, 31, 32, 33, 34, 35, 36, 37, 38, 39, 40, 41, 42, 43, 83, 84, 85, 87, 88, 92, 93, 94, 95, 104, 105, 106, 107, 108, 109]
def FQ (d d' : DD) : Prop := (∀ a, a ∈ PL → d'.1 a = d.1 a ∧ d'.2 a = d.2 a) ∧ ∀ j, j ≠ 0 → d'.1 86 j = d.1 86 j
theorem fq_refl (d : DD) : FQ d d := ⟨fun _ _ => ⟨rfl, rfl⟩, fun _ _ => rfl⟩
theorem fq_trans {d d' d'' : DD} (h : FQ d d') (g : FQ d' d'') : FQ d d'' := ⟨fun a ha => ⟨(g.1 a ha).1.trans (h.1 a ha).1, (g.1 a ha).2.trans (h.1 a ha).2⟩, fun j hj => (g.2 j hj).trans (h.2 j hj)⟩
theorem fq_fr {S : List Nat} {d d' : DD} (F : FR S d d') (hS : ∀ a, a ∈ S → a ∉ PL ∧ a ≠ 86) : FQ d d' := ⟨fun a ha => F a (fun z => (hS a z).1 ha), fun j _ => by rw [(F 86 (fun z => (hS 86 z).2 rfl)).1]⟩
theorem fq_thr (d : DD) (x : Int32) : FQ d (u1 d 86 0 x) := by
  refine ⟨fun a ha => ⟨?_, rfl⟩, fun j hj => ?_⟩
  · funext j
    have : a ≠ 86 := fun z => by
      rw [z] at ha
      exact absurd ha (by decide)
    rw [u1_at, if_neg (fun z => this z.1)]
  · rw [u1_at, if_neg (fun z => hj z.2)]
theorem hm_fq {d d' : DD} {h : Nat → Nat} (M : HM d h) (F : FQ d d') : HM d' h := by
  refine ⟨?_, ?_, ?_⟩
  · rw [(F.1 88 (by decide)).1]; exact M.1
  · rw [(F.1 95 (by decide)).1]; exact M.2.1
  · rw [(F.1 94 (by decide)).1]; exact M.2.2
theorem eq2 {α : Type} {f g : DD → Option (α × DD)} {d : DD} (R : α) (hf : OW (f d) (fun r d1 => FQ d d1 ∧ r = R)) (hg : ∀ d1, FQ d d1 → OW (g d1) (fun r d2 => FQ d1 d2 ∧ r = R)) : ∃ r d1 d2, f d = some (r, d1) ∧ g d1 = some (r, d2) ∧ FQ d d2 := by
  obtain ⟨r, d1, e1, F1, rfl⟩ := hf
  obtain ⟨r2, d2, e2, F2, rfl⟩ := hg d1 F1
  exact ⟨_, d1, d2, e1, e2, fq_trans F1 F2⟩
theorem ix_dec (x : Int32) {n : Nat} (hn : n < 2 ^ 31) : (∃ j, j < n ∧ x = nI j) ∨ ¬ ixb x n := by
  by_cases c : ixb x n
  · exact Or.inl (ix_of0 c hn)
  · exact Or.inr c
theorem e_X9_isHour (x : Int32) (d : DD) : f_X9_isHour x d = some ((if ixb x 30 then 1 else 0), d) := by
  unfold f_X9_isHour
  by_cases h0 : x < 0
  · rw [if_pos h0, if_neg (fun z => z.1 h0)]
  · obtain ⟨j, hj, rfl⟩ := nI_of h0
    rw [if_neg h0]
    simp (disch := omega) only [↓mI_lit, ↓mL_lit, nI_lit, lN_lit, nI_add, pk_mul, lN_add, lN_mul, nI_ltI, nI_eq, nI_clamp, ix_nI, ix_mI, nI_mI, mI_nI, lN_mL, mL_lN, mI_lt, lt_mI, pI_mI, pI_nI, pI_eq, pI_lt0, pI_e, Nat.not_lt_zero, Nat.zero_add, Nat.add_zero]
    by_cases c : j < 30 <;> simp only [c, ↓reduceIte]
theorem gd_gx {h : Nat → Nat} {n : Nat} {d : DD} (G : GD h n d) : ∃ first L, GX h d first L ∧ LI h n (h 1) L := by
  obtain ⟨first, L, i1, i2, i3, i4, i5⟩ := G
  exact ⟨first, L, ⟨i1, i2, i3, i5, i4.1⟩, i4⟩
theorem c_gather {h nm} {d : DD} (V : VH h) (H : HC 2 d h nm) {α : Type} {f : Unit × DD → Option (α × DD)} {Q : α → DD → Prop} (K : ∀ d1 first L, FR [72, 73, 74, 75, 76, 77] d d1 → HC 2 d1 h nm → GX h d1 first L → LI h (h 169) (h 1) L → OW (f ((), d1)) Q) : OW ((f_X8_gatherAll d).bind f) Q := by
  refine ow_call (e_gatherAll V H) ?_
  intro _ d1 H1
  obtain ⟨first, L, X, I⟩ := gd_gx H1.2
  exact K d1 first L H1.1 (hc_fr H H1.1 (by decide)) X I
theorem fq72 {d d1 : DD} (F : FR [72, 73, 74, 75, 76, 77, 78, 79, 80, 81, 82] d d1) : FQ d d1 := fq_fr F (by decide)
theorem fq96 {d d1 : DD} (F : FR [96, 97, 98, 99, 100, 101, 102, 103] d d1) : FQ d d1 := fq_fr F (by decide)
theorem c_worlds {h nm} {d : DD} (V : VH h) (H : HC 2 d h nm) : OW (f_X9_worlds d) (fun r d1 => FQ d d1 ∧ r = lN (GS h (h 169) FT)) := by
  unfold f_X9_worlds
  refine c_gather V H ?_
  intro d1 first L F1 H1 X I
  refine ow_call (e_total V H1 X) ?_
  intro r d2 H2
  refine ow_ret ⟨fq72 (fr_trans (fr_mono F1 (by decide)) (fr_mono H2.1 (by decide))), ?_⟩
  rw [H2.2, ps_gs V I (fun _ _ _ => rfl)]
theorem m_worlds {h : Nat → Nat} {d : DD} (V : VH h) (M : HM d h) : OW (f_X10_worlds d) (fun r d1 => FQ d d1 ∧ r = lN (GS h (h 169) FT)) := by
  have v2 := V.2.2.2.2.2.2.2.1
  have F0 := fq_thr d 0
  have M0 := hm_fq M F0
  have e4 : ixb (169 : Int32) (ln 88) := (ix_nI (n := 169) (by omega)).mpr (by rw [ln_88]; omega)
  have m169 : (u1 d 86 0 0).1 88 (169 : Int32).toNatClampNeg = nI (h 169) := M0.1 169
  unfold f_X10_worlds
  simp only [bd_e, ↓reduceIte, eq_true e4, m169]
  refine ow_call (e_X10_worldsBy V M0 (Nat.le_refl _)) ?_
  intro r d2 H2
  exact ow_ret ⟨fq_trans F0 (fq96 (fr_mono H2.1 (by decide))), H2.2⟩
theorem q_worlds {h nm} {d : DD} (V : VH h) (H : HC 2 d h nm) (M : HM d h) : ∃ r d1 d2, f_X9_worlds d = some (r, d1) ∧ f_X10_worlds d1 = some (r, d2) ∧ FQ d d2 := eq2 _ (c_worlds V H) (fun _ F => m_worlds V (hm_fq M F))
theorem pk_one {d : DD} (P : PK d FT) {k : Nat} (hk : k < 3) (S : Nat → Bool) : PK (u2 d 78 k (mkL S)) (FK k S) := by
  intro j hj
  rw [u2_at]
  by_cases e : j = k
  · subst e
    rw [if_pos ⟨rfl, rfl⟩]
    apply mk_congr
    intro t _
    unfold FK
    rw [if_pos rfl]
  · rw [if_neg (fun z => e z.2), P j hj]
    apply mk_congr
    intro t _
    unfold FK FT
    rw [if_neg e]
theorem fk_hi {h : Nat → Nat} {k : Nat} (hk : k < h 0) (S : Nat → Bool) : ∀ j, h 0 ≤ j → j < 3 → FK k S j 0 = true := by
  intro j hj _
  unfold FK
  rw [if_neg (by omega)]
theorem one_ne : ((1 : Int32) = 0) = False := by decide
theorem zro_eq : ((0 : Int32) = 0) = True := by decide
theorem bI_t0 : (bI true = 0) = False := by decide
theorem bI_f0 : (bI false = 0) = True := by decide
theorem ixt {j n : Nat} (h : j < n) (hn : n < 2 ^ 31) : ixb (nI j) n := (ix_nI (by omega)).mpr h
theorem q_worldsOf {h nm} {d : DD} (V : VH h) (H : HC 2 d h nm) (M : HM d h) (x y : Int32) : ∃ r d1 d2, f_X9_worldsOf x y d = some (r, d1) ∧ f_X10_worldsOf x y d1 = some (r, d2) ∧ FQ d d2 := by
  have v0 := V.1
  rcases ix_dec x (n := h 0) (by omega) with ⟨k, hk, rfl⟩ | c
  · have tl := tt_le V hk
    have ck := ixt hk (by omega)
    have e3 : ixb (nI k) (ln 95) := ixt (by rw [ln_95]; omega) (by rw [ln_95]; omega)
    rcases ix_dec y (n := TT h k) (by omega) with ⟨t, ht, rfl⟩ | c
    · have ct := ixt ht (by omega)
      have ct' : ixb (nI t) (tn (h (2 + k)) (h (5 + k))) := ct
      have e1 : (1 : Int64) <<< ((nI t).toInt64 &&& 63) = mkL (fun i => decide (i = t)) := mk_bit (by omega)
      refine eq2 (lN (GS h (h 169) (FK k (fun i => decide (i = t))))) ?_ (fun d1 F => ?_)
      · unfold f_X9_worldsOf
        simp only [ob_e, bd_e, ↓reduceIte, one_ne, zro_eq, bI_t0, bI_f0, decide_true, decide_false, e_X1_hasKind V H, eq_true ck, e_X1_hasTimetable hb_2 V H hk, eq_true ct']
        refine c_gather V H ?_
        intro d1 first L F1 H1 X I
        refine ow_call (e_pickAny d1) ?_
        intro _ d2 H2
        have F3 : FR [78] d2 (u2 d2 78 k (mkL (fun i => decide (i = t)))) := fr_u2 (fr_refl _ _) (by decide)
        rw [e1, e_pick (by omega), ob_e, e_picked V (hc_fr (hc_fr H1 H2.1 (by decide)) F3 (by decide)) (gx_fr (gx_fr X H2.1 (by decide) (by decide) (by decide)) F3 (by decide) (by decide) (by decide)) (pk_one H2.2 (by omega) _), ob_e]
        refine ow_ret ⟨fq72 (fr_trans (fr_mono F1 (by decide)) (fr_trans (fr_mono H2.1 (by decide)) (fr_mono F3 (by decide)))), ?_⟩
        rw [ps_gs V I (fk_hi hk _)]
      · have M0 := hm_fq (hm_fq M F) (fq_thr d1 0)
        have m95 : (u1 d1 86 0 0).1 95 k = nI (TT h k) := M0.2.1 k hk
        have ei := e_X10_isIn0 (x := nI t) (n := TT h k) (by omega) (u1 d1 86 0 0)
        rw [show nI 0 = (0 : Int32) from rfl] at ei
        have m95' : (u1 d1 86 0 0).1 95 k - 1 = pI (TT h k) := by rw [m95]; rfl
        unfold f_X10_worldsOf
        simp only [ob_e, bd_e, ↓reduceIte, one_ne, zro_eq, bI_t0, bI_f0, decide_true, decide_false, e_X10_isKind V M0, eq_true ck, eq_true e3, nI_clamp (show k < 2 ^ 31 by omega), m95', ei, eq_true ct, e1]
        refine ow_call (e_X10_worldsIn V M0 hk _) ?_
        intro r d2 H2
        refine ow_ret ⟨fq_trans (fq_thr d1 0) (fq96 (fr_mono H2.1 (by decide))), ?_⟩
        rw [H2.2]
        rfl
    · have c' : ¬ ixb y (tn (h (2 + k)) (h (5 + k))) := c
      refine eq2 mL ?_ (fun d1 F => ?_)
      · unfold f_X9_worldsOf
        simp only [ob_e, bd_e, ↓reduceIte, one_ne, zro_eq, bI_t0, bI_f0, decide_true, decide_false, e_X1_hasKind V H, eq_true ck, e_X1_hasTimetable hb_2 V H hk, eq_false c']
        exact ow_ret ⟨fq_refl _, rfl⟩
      · have M0 := hm_fq (hm_fq M F) (fq_thr d1 0)
        have m95 : (u1 d1 86 0 0).1 95 k = nI (TT h k) := M0.2.1 k hk
        have ei := e_X10_isIn0 (x := y) (n := TT h k) (by omega) (u1 d1 86 0 0)
        rw [show nI 0 = (0 : Int32) from rfl] at ei
        have m95' : (u1 d1 86 0 0).1 95 k - 1 = pI (TT h k) := by rw [m95]; rfl
        unfold f_X10_worldsOf
        simp only [ob_e, bd_e, ↓reduceIte, one_ne, zro_eq, bI_t0, bI_f0, decide_true, decide_false, e_X10_isKind V M0, eq_true ck, eq_true e3, nI_clamp (show k < 2 ^ 31 by omega), m95', ei, eq_false c]
        exact ow_ret ⟨fq_thr d1 0, rfl⟩
  · refine eq2 mL ?_ (fun d1 F => ?_)
    · unfold f_X9_worldsOf
      simp only [ob_e, bd_e, ↓reduceIte, one_ne, zro_eq, bI_t0, bI_f0, decide_true, decide_false, e_X1_hasKind V H, eq_false c]
      exact ow_ret ⟨fq_refl _, rfl⟩
    · have M0 := hm_fq (hm_fq M F) (fq_thr d1 0)
      unfold f_X10_worldsOf
      simp only [ob_e, bd_e, ↓reduceIte, one_ne, zro_eq, bI_t0, bI_f0, decide_true, decide_false, e_X10_isKind V M0, eq_false c]
      exact ow_ret ⟨fq_thr d1 0, rfl⟩
theorem q_waysOf {h nm} {d : DD} (V : VH h) (H : HC 2 d h nm) (M : HM d h) (x y : Int32) : ∃ r d1 d2, f_X9_waysOf x y d = some (r, d1) ∧ f_X10_waysOf x y d1 = some (r, d2) ∧ FQ d d2 := by
  have v0 := V.1
  have v1 := V.2.1
  have v2 := V.2.2.2.2.2.2.2.1
  have key : ∀ (d1 : DD), HM d1 h → (1 : Int32) + 2 * (d1.1 88 (0 : Int32).toNatClampNeg) = pI (2 + 2 * h 0) := by
    intro d1 M1
    rw [show (0 : Int32).toNatClampNeg = 0 from rfl, M1.1, show (2 : Int32) = nI 2 from rfl, show (1 : Int32) = nI 1 from rfl, pk_mul, nI_add, pI_pos (by omega), show 2 + 2 * h 0 - 1 = 1 + 2 * h 0 by omega]
  have e3 : ixb (0 : Int32) (ln 88) := ixt (j := 0) (by rw [ln_88]; omega) (by rw [ln_88]; omega)
  have e4 : ixb (169 : Int32) (ln 88) := ixt (j := 169) (by rw [ln_88]; omega) (by rw [ln_88]; omega)
  rcases ix_dec x (n := h 1) (by omega) with ⟨a, ha, rfl⟩ | c
  · have ck := ixt ha (by omega)
    rcases ix_dec y (n := 2 + 2 * h 0) (by omega) with ⟨w, hw, rfl⟩ | c
    · have ct := ixt hw (by omega)
      refine eq2 (lN (WY h (h 169) a w)) ?_ (fun d1 F => ?_)
      · unfold f_X9_waysOf
        simp only [ob_e, bd_e, ↓reduceIte, one_ne, zro_eq, bI_t0, bI_f0, decide_true, decide_false, e_X1_hasPerson V H, eq_true ck, e_X1_hasWay V H, eq_true ct]
        refine c_gather V H ?_
        intro d1 first L F1 H1 X I
        refine ow_call (e_withWay V H1 X ha (by omega)) ?_
        intro r d2 H2
        refine ow_ret ⟨fq72 (fr_trans (fr_mono F1 (by decide)) (fr_mono H2.1 (by decide))), ?_⟩
        rw [H2.2, ww_wy V I ha (by omega)]
      · have M0 := hm_fq (hm_fq M F) (fq_thr d1 0)
        have ei := e_X10_isIn0 (x := nI w) (n := 2 + 2 * h 0) (by omega) (u1 d1 86 0 0)
        rw [show nI 0 = (0 : Int32) from rfl] at ei
        have m169 : (u1 d1 86 0 0).1 88 (169 : Int32).toNatClampNeg = nI (h 169) := M0.1 169
        unfold f_X10_waysOf
        simp only [ob_e, bd_e, ↓reduceIte, one_ne, zro_eq, bI_t0, bI_f0, decide_true, decide_false, e_X10_isPerson V M0, eq_true ck, eq_true e3, eq_true e4, key _ M0, ei, eq_true ct, m169]
        refine ow_mono (e_X10_wo V M0 ha hw) ?_
        intro r d2 H2
        exact ⟨fq_trans (fq_thr d1 0) (fq96 (fr_mono H2.1 (by decide))), H2.2⟩
    · refine eq2 mL ?_ (fun d1 F => ?_)
      · unfold f_X9_waysOf
        simp only [ob_e, bd_e, ↓reduceIte, one_ne, zro_eq, bI_t0, bI_f0, decide_true, decide_false, e_X1_hasPerson V H, eq_true ck, e_X1_hasWay V H, eq_false c]
        exact ow_ret ⟨fq_refl _, rfl⟩
      · have M0 := hm_fq (hm_fq M F) (fq_thr d1 0)
        have ei := e_X10_isIn0 (x := y) (n := 2 + 2 * h 0) (by omega) (u1 d1 86 0 0)
        rw [show nI 0 = (0 : Int32) from rfl] at ei
        unfold f_X10_waysOf
        simp only [ob_e, bd_e, ↓reduceIte, one_ne, zro_eq, bI_t0, bI_f0, decide_true, decide_false, e_X10_isPerson V M0, eq_true ck, eq_true e3, key _ M0, ei, eq_false c]
        exact ow_ret ⟨fq_thr d1 0, rfl⟩
  · refine eq2 mL ?_ (fun d1 F => ?_)
    · unfold f_X9_waysOf
      simp only [ob_e, bd_e, ↓reduceIte, one_ne, zro_eq, bI_t0, bI_f0, decide_true, decide_false, e_X1_hasPerson V H, eq_false c]
      exact ow_ret ⟨fq_refl _, rfl⟩
    · have M0 := hm_fq (hm_fq M F) (fq_thr d1 0)
      unfold f_X10_waysOf
      simp only [ob_e, bd_e, ↓reduceIte, one_ne, zro_eq, bI_t0, bI_f0, decide_true, decide_false, e_X10_isPerson V M0, eq_false c]
      exact ow_ret ⟨fq_thr d1 0, rfl⟩
