-- PURE ROWS: wouldTell, left, next
theorem tf_le {h : Nat → Nat} (V : VH h) (n a u : Nat) (c : Nat → Nat) (s : Nat) : pn (TF h n a u c s) (h 0) ≤ 64 ^ 3 := by
  have v0 := V.1
  have : ∀ m, pn (TF h n a u c s) m ≤ 64 ^ m := by
    intro m
    induction m with
    | zero => exact Nat.le_refl _
    | succ m ih =>
      rw [pn, Nat.pow_succ]
      exact Nat.mul_le_mul ih (cnt_le _ _)
  exact Nat.le_trans (this (h 0)) (Nat.pow_le_pow_right (by decide) v0)
theorem ts_lt {h : Nat → Nat} (V : VH h) (n a u s : Nat) : TS h n a u s ≤ 8 ^ 4 * 64 ^ 3 := by
  have v1 := V.2.1
  have l4 : 8 ^ h 1 ≤ 8 ^ 4 := Nat.pow_le_pow_right (by decide) v1
  unfold TS
  split
  · exact Nat.le_trans (sm_bd _ (fun c _ => tf_le V n a u c s)) (Nat.mul_le_mul_right _ (Nat.le_trans (cm_len V (h 1)) l4))
  · omega
def gm (F : Nat → Nat) : Nat → Nat
  | 0 => 0
  | n + 1 => if gm F n < F n then F n else gm F n
theorem gm_le {F : Nat → Nat} {B : Nat} (h : ∀ i, F i ≤ B) : ∀ n, gm F n ≤ B
  | 0 => Nat.zero_le _
  | n + 1 => by
    unfold gm
    have := h n
    have := gm_le h n
    split <;> omega
theorem gr_l {d : DD} {F : Nat → Nat} {B : Nat} (hB : B < 2 ^ 31) (hF : ∀ j, F j ≤ B) (hd : ∀ j, j < 8 → d.2 82 j = lN (F j)) : ∀ (m j f : Nat), j + m = 8 → m < f → f_X8_greatest_4 f (lN (gm F j)) (nI j) d = some (lN (gm F 8), d) := by
  intro m
  induction m with
  | zero =>
    intro j f hi hf
    cases f with
    | zero => omega
    | succ f =>
      show f_X8_greatest_4B (f_X8_greatest_4 f) _ _ _ = _
      unfold f_X8_greatest_4B
      rw [if_neg (by rw [nI_lit, nI_ltI (by omega) (by omega)]; omega), show j = 8 by omega]
  | succ m ih =>
    intro j f hi hf
    cases f with
    | zero => omega
    | succ f =>
      show f_X8_greatest_4B (f_X8_greatest_4 f) _ _ _ = _
      unfold f_X8_greatest_4B
      have s := ih (j + 1) f (by omega) (by omega)
      have g1 := gm_le hF j
      have g2 := hF j
      rw [gm] at s
      rw [if_pos (by rw [nI_lit, nI_ltI (by omega) (by omega)]; omega), e_X9_longAt, ob_e, rd2_in (by rw [ln_82]; omega), hd j (by omega), bd_e, nI_1]
      have em : mxL (lN (gm F j)) (lN (F j)) = lN (if gm F j < F j then F j else gm F j) := by
        unfold mxL
        by_cases a : F j < gm F j
        · rw [if_pos ((lN_lt (by omega) (by omega)).mpr a), if_neg (by omega)]
        · rw [if_neg (fun z => a ((lN_lt (by omega) (by omega)).mp z))]
          by_cases b : gm F j < F j
          · rw [if_pos b]
          · rw [if_neg b, show F j = gm F j by omega]
      dsimp only
      rw [em]
      exact s
theorem e_greatest {d : DD} {F : Nat → Nat} {B : Nat} (hB : B < 2 ^ 31) (hF : ∀ j, F j ≤ B) (hd : ∀ j, j < 8 → d.2 82 j = lN (F j)) : f_X8_greatest d = some (lN (gm F 8), d) := gr_l hB hF hd 8 0 FU (by omega) (by unfold FU; omega)
theorem lf_l {d : DD} {F : Nat → Nat} {B : Nat} (hB : B < 2 ^ 31) (hF : ∀ j, F j ≤ B) (hd : ∀ j, j < 8 → d.2 102 j = lN (F j)) : ∀ (m j f : Nat), j + m = 8 → m < f → f_X10_leftOf_11 f (lN (gm F j)) (nI j) d = some (lN (gm F 8), d) := by
  intro m
  induction m with
  | zero =>
    intro j f hi hf
    cases f with
    | zero => omega
    | succ f =>
      show f_X10_leftOf_11B (f_X10_leftOf_11 f) _ _ _ = _
      unfold f_X10_leftOf_11B
      rw [if_neg (by rw [nI_lit, nI_ltI (by omega) (by omega)]; omega), show j = 8 by omega]
  | succ m ih =>
    intro j f hi hf
    cases f with
    | zero => omega
    | succ f =>
      show f_X10_leftOf_11B (f_X10_leftOf_11 f) _ _ _ = _
      unfold f_X10_leftOf_11B
      have s := ih (j + 1) f (by omega) (by omega)
      have g1 := gm_le hF j
      have g2 := hF j
      rw [gm] at s
      have ix : ixb (nI j) (ln 102) := (ix_nI (by omega)).mpr (by rw [ln_102]; omega)
      have hd' : d.2 102 (nI j).toNatClampNeg = lN (F j) := by rw [nI_clamp (by omega)]; exact hd j (by omega)
      rw [if_pos (by rw [nI_lit, nI_ltI (by omega) (by omega)]; omega), if_pos ix]
      simp only [hd', bd_e, nI_1]
      by_cases b : gm F j < F j
      · rw [if_pos b] at s
        rw [if_pos ((lN_lt (by omega) (by omega)).mpr b), if_pos ix]
        exact s
      · rw [if_neg b] at s
        rw [if_neg (fun z => b ((lN_lt (by omega) (by omega)).mp z))]
        exact s
def LG (h : Nat → Nat) (n a u : Nat) : Nat := gm (TS h n a u) 8
theorem lf_lt {h : Nat → Nat} (V : VH h) (n a u : Nat) : LG h n a u ≤ 8 ^ 4 * 64 ^ 3 := gm_le (fun j => ts_lt V n a u j) 8
theorem e_leftOf {h : Nat → Nat} {d : DD} (V : VH h) (M : HM d h) {n a u : Nat} (L : LT h n d) (ha : a < h 1) (hu : u < 30) : OW (f_X10_leftOf (nI a) (nI u) d) (fun r d' => FR [97, 98, 102, 103] d d' ∧ r = lN (LG h n a u)) := by
  unfold f_X10_leftOf
  refine ow_call (e_X10_tellsOf V M L ha hu) ?_
  intro _ d1 H1
  exact ⟨_, _, lf_l (B := 8 ^ 4 * 64 ^ 3) (by decide) (fun j => ts_lt V n a u j) H1.2 8 0 FU (by omega) (by unfold FU; omega), H1.1, rfl⟩
theorem c_left {h nm} {d : DD} (V : VH h) (H : HC 2 d h nm) {first : Nat} {L : List ((Nat → Nat) × (Nat → Nat → Bool))} (X : GX h d first L) {n : Nat} (I : LI h n (h 1) L) {a u : Nat} (ha : a < h 1) (hu : u < 30) {α : Type} {f : Int64 × DD → Option (α × DD)} {Q : α → DD → Prop} (K : ∀ d1, FR [79, 80, 81, 82] d d1 → OW (f (lN (LG h n a u), d1)) Q) : OW ((f_X8_spread (nI a) (nI u) d).bind fun q => (f_X8_greatest q.2).bind f) Q := by
  refine ow_call (e_spread V H X ha hu) ?_
  intro _ d1 H1
  have hd : ∀ j, j < 8 → d1.2 82 j = lN (TS h n a u j) := fun j hj => by rw [H1.2 j hj, ss_ts V I ha]
  rw [e_greatest (B := 8 ^ 4 * 64 ^ 3) (by decide) (fun j => ts_lt V n a u j) hd, ob_e]
  exact K d1 H1.1
theorem q_left {h nm} {d : DD} (V : VH h) (H : HC 2 d h nm) (M : HM d h) (x y : Int32) : ∃ r d1 d2, f_X9_left x y d = some (r, d1) ∧ f_X10_left x y d1 = some (r, d2) ∧ FQ d d2 := by
  have v1 := V.2.1
  rcases ix_dec x (n := h 1) (by omega) with ⟨a, ha, rfl⟩ | c
  · have ck := ixt ha (by omega)
    rcases ix_dec y (n := 30) (by omega) with ⟨u, hu, rfl⟩ | c
    · have ct := ixt hu (by omega)
      refine eq2 (lN (LG h (h 169) a u)) ?_ (fun d1 F => ?_)
      · unfold f_X9_left
        simp only [ob_e, bd_e, ↓reduceIte, one_ne, zro_eq, bI_t0, bI_f0, decide_true, decide_false, e_X1_hasPerson V H, eq_true ck, e_X9_isHour, eq_true ct]
        refine c_gather V H ?_
        intro d1 first L F1 H1 X I
        refine c_left V H1 X I ha hu ?_
        intro d2 F2
        exact ow_ret ⟨fq72 (fr_trans (fr_mono F1 (by decide)) (fr_mono F2 (by decide))), rfl⟩
      · have M0 := hm_fq (hm_fq M F) (fq_thr d1 0)
        have m169 : (u1 d1 86 0 0).1 88 (169 : Int32).toNatClampNeg = nI (h 169) := M0.1 169
        unfold f_X10_left
        simp only [ob_e, bd_e, ↓reduceIte, one_ne, zro_eq, bI_t0, bI_f0, decide_true, decide_false, e_X10_isPerson V M0, eq_true ck, e_X10_isHour, eq_true ct, eq_true e169, m169]
        refine ow_call (e_X10_letAll V M0 (Nat.le_refl _)) ?_
        intro _ d2 H2
        refine ow_call (e_leftOf V (hm_fr M0 H2.1 (by decide) (by decide) (by decide)) H2.2 ha hu) ?_
        intro r d3 H3
        exact ow_ret ⟨fq_trans (fq_thr d1 0) (fq96 (fr_trans (fr_mono H2.1 (by decide)) (fr_mono H3.1 (by decide)))), H3.2⟩
    · refine eq2 mL ?_ (fun d1 F => ?_)
      · unfold f_X9_left
        simp only [ob_e, bd_e, ↓reduceIte, one_ne, zro_eq, bI_t0, bI_f0, decide_true, decide_false, e_X1_hasPerson V H, eq_true ck, e_X9_isHour, eq_false c]
        exact ow_ret ⟨fq_refl _, rfl⟩
      · have M0 := hm_fq (hm_fq M F) (fq_thr d1 0)
        unfold f_X10_left
        simp only [ob_e, bd_e, ↓reduceIte, one_ne, zro_eq, bI_t0, bI_f0, decide_true, decide_false, e_X10_isPerson V M0, eq_true ck, e_X10_isHour, eq_false c]
        exact ow_ret ⟨fq_thr d1 0, rfl⟩
  · refine eq2 mL ?_ (fun d1 F => ?_)
    · unfold f_X9_left
      simp only [ob_e, bd_e, ↓reduceIte, one_ne, zro_eq, bI_t0, bI_f0, decide_true, decide_false, e_X1_hasPerson V H, eq_false c]
      exact ow_ret ⟨fq_refl _, rfl⟩
    · have M0 := hm_fq (hm_fq M F) (fq_thr d1 0)
      unfold f_X10_left
      simp only [ob_e, bd_e, ↓reduceIte, one_ne, zro_eq, bI_t0, bI_f0, decide_true, decide_false, e_X10_isPerson V M0, eq_false c]
      exact ow_ret ⟨fq_thr d1 0, rfl⟩
theorem q_wouldTell {h nm} {d : DD} (V : VH h) (H : HC 2 d h nm) (M : HM d h) (x y z : Int32) : ∃ r d1 d2, f_X9_wouldTell x y z d = some (r, d1) ∧ f_X10_wouldTell x y z d1 = some (r, d2) ∧ FQ d d2 := by
  have v0 := V.1
  have v1 := V.2.1
  have p8 := p28 v0
  rcases ix_dec x (n := h 1) (by omega) with ⟨a, ha, rfl⟩ | c
  · have ck := ixt ha (by omega)
    rcases ix_dec y (n := 30) (by omega) with ⟨u, hu, rfl⟩ | c
    · have ct := ixt hu (by omega)
      rcases ix_dec z (n := 2 ^ h 0) (by omega) with ⟨j, hj, rfl⟩ | c
      · have cj := ixt hj (by omega)
        have c102 : ixb (nI j) (ln 102) := (ix_nI (by omega)).mpr (by rw [ln_102]; omega)
        refine eq2 (lN (TS h (h 169) a u j)) ?_ (fun d1 F => ?_)
        · unfold f_X9_wouldTell
          simp only [ob_e, bd_e, ↓reduceIte, one_ne, zro_eq, bI_t0, bI_f0, decide_true, decide_false, e_X1_hasPerson V H, eq_true ck, e_X9_isHour, eq_true ct, e_X1_hasSet V H, eq_true cj]
          refine c_gather V H ?_
          intro d1 first L F1 H1 X I
          refine ow_call (e_spread V H1 X ha hu) ?_
          intro _ d2 H2
          rw [e_X9_longAt, ob_e, rd2_in (by rw [ln_82]; omega), H2.2 j (by omega), ss_ts V I ha]
          exact ow_ret ⟨fq72 (fr_trans (fr_mono F1 (by decide)) (fr_mono H2.1 (by decide))), rfl⟩
        · have M0 := hm_fq (hm_fq M F) (fq_thr d1 0)
          have m169 : (u1 d1 86 0 0).1 88 (169 : Int32).toNatClampNeg = nI (h 169) := M0.1 169
          unfold f_X10_wouldTell
          simp only [ob_e, bd_e, ↓reduceIte, one_ne, zro_eq, bI_t0, bI_f0, decide_true, decide_false, e_X10_isPerson V M0, eq_true ck, e_X10_isHour, eq_true ct, e_X10_isSet V M0, eq_true cj, eq_true e169, m169]
          refine ow_call (e_X10_letAll V M0 (Nat.le_refl _)) ?_
          intro _ d2 H2
          refine ow_call (e_X10_tellsOf V (hm_fr M0 H2.1 (by decide) (by decide) (by decide)) H2.2 ha hu) ?_
          intro r d3 H3
          rw [if_pos c102, nI_clamp (by omega)]
          refine ow_ret ⟨fq_trans (fq_thr d1 0) (fq96 (fr_trans (fr_mono H2.1 (by decide)) (fr_mono H3.1 (by decide)))), H3.2 j (by omega)⟩
      · refine eq2 mL ?_ (fun d1 F => ?_)
        · unfold f_X9_wouldTell
          simp only [ob_e, bd_e, ↓reduceIte, one_ne, zro_eq, bI_t0, bI_f0, decide_true, decide_false, e_X1_hasPerson V H, eq_true ck, e_X9_isHour, eq_true ct, e_X1_hasSet V H, eq_false c]
          exact ow_ret ⟨fq_refl _, rfl⟩
        · have M0 := hm_fq (hm_fq M F) (fq_thr d1 0)
          unfold f_X10_wouldTell
          simp only [ob_e, bd_e, ↓reduceIte, one_ne, zro_eq, bI_t0, bI_f0, decide_true, decide_false, e_X10_isPerson V M0, eq_true ck, e_X10_isHour, eq_true ct, e_X10_isSet V M0, eq_false c]
          exact ow_ret ⟨fq_thr d1 0, rfl⟩
    · refine eq2 mL ?_ (fun d1 F => ?_)
      · unfold f_X9_wouldTell
        simp only [ob_e, bd_e, ↓reduceIte, one_ne, zro_eq, bI_t0, bI_f0, decide_true, decide_false, e_X1_hasPerson V H, eq_true ck, e_X9_isHour, eq_false c]
        exact ow_ret ⟨fq_refl _, rfl⟩
      · have M0 := hm_fq (hm_fq M F) (fq_thr d1 0)
        unfold f_X10_wouldTell
        simp only [ob_e, bd_e, ↓reduceIte, one_ne, zro_eq, bI_t0, bI_f0, decide_true, decide_false, e_X10_isPerson V M0, eq_true ck, e_X10_isHour, eq_false c]
        exact ow_ret ⟨fq_thr d1 0, rfl⟩
  · refine eq2 mL ?_ (fun d1 F => ?_)
    · unfold f_X9_wouldTell
      simp only [ob_e, bd_e, ↓reduceIte, one_ne, zro_eq, bI_t0, bI_f0, decide_true, decide_false, e_X1_hasPerson V H, eq_false c]
      exact ow_ret ⟨fq_refl _, rfl⟩
    · have M0 := hm_fq (hm_fq M F) (fq_thr d1 0)
      unfold f_X10_wouldTell
      simp only [ob_e, bd_e, ↓reduceIte, one_ne, zro_eq, bI_t0, bI_f0, decide_true, decide_false, e_X10_isPerson V M0, eq_false c]
      exact ow_ret ⟨fq_thr d1 0, rfl⟩
def nuF (V : Nat → Nat → Nat) (a : Nat) : Nat → Nat → Nat × Nat → Nat × Nat
  | 0, _, s => s
  | m + 1, u, s => nuF V a m (u + 1) (if s.1 = 0 ∨ V a u < s.2 then (100 * a + u + 1, V a u) else s)
def naF (V : Nat → Nat → Nat) : Nat → Nat → Nat × Nat → Nat × Nat
  | 0, _, s => s
  | m + 1, a, s => naF V m (a + 1) (nuF V a 30 0 s)
theorem nuF_1 {V : Nat → Nat → Nat} {a : Nat} (ha : a < 4) : ∀ (m u : Nat) (s : Nat × Nat), u + m = 30 → s.1 ≤ 500 → (nuF V a m u s).1 ≤ 500
  | 0, _, _, _, h => h
  | m + 1, u, s, hu, h => by
    unfold nuF
    refine nuF_1 ha m (u + 1) _ (by omega) ?_
    split
    · show 100 * a + u + 1 ≤ 500
      omega
    · exact h
theorem nuF_2 {V : Nat → Nat → Nat} {a B : Nat} (hV : ∀ a u, V a u ≤ B) : ∀ (m u : Nat) (s : Nat × Nat), s.2 ≤ B → (nuF V a m u s).2 ≤ B
  | 0, _, _, h => h
  | m + 1, u, s, h => by
    unfold nuF
    refine nuF_2 hV m (u + 1) _ ?_
    split
    · exact hV a u
    · exact h
theorem cn51 {h nm} {d0 : DD} (V : VH h) (H : HC 2 d0 h nm) {first : Nat} {L : List ((Nat → Nat) × (Nat → Nat → Bool))} (X : GX h d0 first L) {n : Nat} (I : LI h n (h 1) L) {a : Nat} (ha : a < h 1) (k36 : Int32 → Int64 → Int32 → DD → Option (Int32 × DD)) (Q : Int32 → DD → Prop) (r : Nat × Nat) (K : ∀ d x, FR [79, 80, 81, 82] d0 d → (0 < r.1 → x = lN r.2) → OW (k36 (pI r.1) x (nI (a + 1)) d) Q) : ∀ (m u f : Nat) (d : DD) (s : Nat × Nat) (x : Int64), u + m = 30 → m < f → FR [79, 80, 81, 82] d0 d → s.1 ≤ 500 → s.2 ≤ 8 ^ 4 * 64 ^ 3 → (0 < s.1 → x = lN s.2) → nuF (LG h n) a m u s = r → OW (f_X9_next_51 k36 f (pI s.1) x (nI a) (nI u) d) Q := by
  have v1 := V.2.1
  intro m
  induction m with
  | zero =>
    intro u f d s x hu hf F s1 s2 hx e
    cases f with
    | zero => omega
    | succ f =>
      show OW (f_X9_next_51B k36 (f_X9_next_51 k36 f) _ _ _ _ _) Q
      unfold f_X9_next_51B
      rw [if_neg (by rw [nI_lit, nI_ltI (by omega) (by omega)]; omega), nI_1]
      have es : s = r := e
      subst es
      exact K d x F hx
  | succ m ih =>
    intro u f d s x hu hf F s1 s2 hx e
    cases f with
    | zero => omega
    | succ f =>
      show OW (f_X9_next_51B k36 (f_X9_next_51 k36 f) _ _ _ _ _) Q
      unfold f_X9_next_51B
      have lt := lf_lt V n a u
      rw [if_pos (by rw [nI_lit, nI_ltI (by omega) (by omega)]; omega)]
      refine c_left V (hc_fr H F (by decide)) (gx_fr X F (by decide) (by decide) (by decide)) I ha (by omega) ?_
      intro d1 F1
      unfold nuF at e
      have up : OW (f_X9_next_90 k36 (f_X9_next_51 k36 f) (nI a) (nI u) (lN (LG h n a u)) d1) Q ∨ ¬ (s.1 = 0 ∨ LG h n a u < s.2) := by
        by_cases c : s.1 = 0 ∨ LG h n a u < s.2
        · left
          rw [if_pos c] at e
          unfold f_X9_next_90
          rw [bd_e, show (100 : Int32) = nI 100 from rfl, pk_mul, nI_add, nI_1, ← pI_s (100 * a + u)]
          exact ih (u + 1) f d1 (100 * a + u + 1, LG h n a u) _ (by omega) (by omega) (fr_trans F F1) (by show 100 * a + u + 1 ≤ 500; omega) lt (fun _ => rfl) e
        · exact Or.inr c
      dsimp only
      by_cases c0 : s.1 = 0
      · rw [if_pos (show pI s.1 = -1 by rw [c0]; rfl)]
        rcases up with q | q
        · exact q
        · exact absurd (Or.inl c0) q
      · rw [if_neg (show ¬ pI s.1 = -1 from fun z => c0 ((pI_mI (by omega)).mp z)), hx (by omega)]
        by_cases c1 : LG h n a u < s.2
        · rw [if_pos ((lN_lt (by omega) (by omega)).mpr c1)]
          rcases up with q | q
          · exact q
          · exact absurd (Or.inr c1) q
        · rw [if_neg (fun z => c1 ((lN_lt (by omega) (by omega)).mp z)), nI_1]
          rw [if_neg (fun z => z.elim c0 c1)] at e
          exact ih (u + 1) f d1 s _ (by omega) (by omega) (fr_trans F F1) s1 s2 (fun _ => rfl) e
theorem cn36 {h nm} {d0 : DD} (V : VH h) (H : HC 2 d0 h nm) {first : Nat} {L : List ((Nat → Nat) × (Nat → Nat → Bool))} (X : GX h d0 first L) {n : Nat} (I : LI h n (h 1) L) : ∀ (m a f : Nat) (d : DD) (s : Nat × Nat) (x : Int64), a + m = h 1 → m < f → FR [79, 80, 81, 82] d0 d → s.1 ≤ 500 → s.2 ≤ 8 ^ 4 * 64 ^ 3 → (0 < s.1 → x = lN s.2) → OW (f_X9_next_36 f (pI s.1) x (nI a) d) (fun r d' => FR [79, 80, 81, 82] d0 d' ∧ r = pI (naF (LG h n) m a s).1) := by
  have v1 := V.2.1
  intro m
  induction m with
  | zero =>
    intro a f d s x hu hf F s1 s2 hx
    cases f with
    | zero => omega
    | succ f =>
      show OW (f_X9_next_36B (f_X9_next_36 f) _ _ _ _) _
      unfold f_X9_next_36B
      rw [hc_p (hc_fr H F (by decide)), if_neg (by rw [nI_ltI (by omega) (by omega)]; omega)]
      exact ow_ret ⟨F, rfl⟩
  | succ m ih =>
    intro a f d s x hu hf F s1 s2 hx
    cases f with
    | zero => omega
    | succ f =>
      show OW (f_X9_next_36B (f_X9_next_36 f) _ _ _ _) _
      unfold f_X9_next_36B
      rw [hc_p (hc_fr H F (by decide)), if_pos (by rw [nI_ltI (by omega) (by omega)]; omega)]
      exact cn51 V H X I (by omega) _ _ (nuF (LG h n) a 30 0 s) (fun d' x' F' hx' => ih (a + 1) f d' (nuF (LG h n) a 30 0 s) x' (by omega) (by omega) F' (nuF_1 (by omega) 30 0 s rfl s1) (nuF_2 (fun a u => lf_lt V n a u) 30 0 s s2) hx') 30 0 FU d s x rfl (by unfold FU; omega) F s1 s2 hx rfl
theorem mn56 {h : Nat → Nat} {d0 : DD} (V : VH h) (M : HM d0 h) {n : Nat} (L : LT h n d0) {a : Nat} (ha : a < h 1) (k42 : Int64 → Int32 → Int32 → DD → Option (Int32 × DD)) (Q : Int32 → DD → Prop) (r : Nat × Nat) (K : ∀ d x, FR [97, 98, 102, 103] d0 d → (0 < r.1 → x = lN r.2) → OW (k42 x (pI r.1) (nI (a + 1)) d) Q) : ∀ (m u f : Nat) (d : DD) (s : Nat × Nat) (x : Int64), u + m = 30 → m < f → FR [97, 98, 102, 103] d0 d → s.1 ≤ 500 → s.2 ≤ 8 ^ 4 * 64 ^ 3 → (0 < s.1 → x = lN s.2) → nuF (LG h n) a m u s = r → OW (f_X10_next_56 k42 f x (pI s.1) (nI a) (nI u) d) Q := by
  have v1 := V.2.1
  intro m
  induction m with
  | zero =>
    intro u f d s x hu hf F s1 s2 hx e
    cases f with
    | zero => omega
    | succ f =>
      show OW (f_X10_next_56B k42 (f_X10_next_56 k42 f) _ _ _ _ _) Q
      unfold f_X10_next_56B
      rw [if_neg (by rw [nI_lit, nI_ltI (by omega) (by omega)]; omega), nI_1]
      have es : s = r := e
      subst es
      exact K d x F hx
  | succ m ih =>
    intro u f d s x hu hf F s1 s2 hx e
    cases f with
    | zero => omega
    | succ f =>
      show OW (f_X10_next_56B k42 (f_X10_next_56 k42 f) _ _ _ _ _) Q
      unfold f_X10_next_56B
      have lt := lf_lt V n a u
      rw [if_pos (by rw [nI_lit, nI_ltI (by omega) (by omega)]; omega)]
      refine ow_call (e_leftOf V (hm_fr M F (by decide) (by decide) (by decide)) (lt_fr L F (by decide)) ha (by omega)) ?_
      intro r' d1 H1
      obtain ⟨F1, rfl⟩ := H1
      unfold nuF at e
      have up : OW (f_X10_next_87 k42 (f_X10_next_56 k42 f) (nI a) (nI u) (lN (LG h n a u)) d1) Q ∨ ¬ (s.1 = 0 ∨ LG h n a u < s.2) := by
        by_cases c : s.1 = 0 ∨ LG h n a u < s.2
        · left
          rw [if_pos c] at e
          unfold f_X10_next_87
          rw [bd_e, show (100 : Int32) = nI 100 from rfl, pk_mul, nI_add, nI_1, ← pI_s (100 * a + u)]
          exact ih (u + 1) f d1 (100 * a + u + 1, LG h n a u) _ (by omega) (by omega) (fr_trans F F1) (by show 100 * a + u + 1 ≤ 500; omega) lt (fun _ => rfl) e
        · exact Or.inr c
      dsimp only
      by_cases c0 : s.1 = 0
      · rw [if_pos (show pI s.1 < 0 from (pI_lt0 (by omega)).mpr c0)]
        rcases up with q | q
        · exact q
        · exact absurd (Or.inl c0) q
      · rw [if_neg (show ¬ pI s.1 < 0 from fun z => c0 ((pI_lt0 (by omega)).mp z)), hx (by omega)]
        by_cases c1 : LG h n a u < s.2
        · rw [if_pos ((lN_lt (by omega) (by omega)).mpr c1)]
          rcases up with q | q
          · exact q
          · exact absurd (Or.inr c1) q
        · rw [if_neg (fun z => c1 ((lN_lt (by omega) (by omega)).mp z)), nI_1]
          rw [if_neg (fun z => z.elim c0 c1)] at e
          exact ih (u + 1) f d1 s _ (by omega) (by omega) (fr_trans F F1) s1 s2 (fun _ => rfl) e
theorem mn42 {h : Nat → Nat} {d0 : DD} (V : VH h) (M : HM d0 h) {n : Nat} (L : LT h n d0) : ∀ (m a f : Nat) (d : DD) (s : Nat × Nat) (x : Int64), a + m = h 1 → m < f → FR [97, 98, 102, 103] d0 d → s.1 ≤ 500 → s.2 ≤ 8 ^ 4 * 64 ^ 3 → (0 < s.1 → x = lN s.2) → OW (f_X10_next_42 f x (pI s.1) (nI a) d) (fun r d' => FR [97, 98, 102, 103] d0 d' ∧ r = pI (naF (LG h n) m a s).1) := by
  have v1 := V.2.1
  intro m
  induction m with
  | zero =>
    intro a f d s x hu hf F s1 s2 hx
    cases f with
    | zero => omega
    | succ f =>
      show OW (f_X10_next_42B (f_X10_next_42 f) _ _ _ _) _
      unfold f_X10_next_42B
      have m1 : d.1 88 (1 : Int32).toNatClampNeg = nI (h 1) := (hm_fr M F (by decide) (by decide) (by decide)).1 1
      rw [if_pos e1_88, m1, if_neg (by rw [nI_ltI (by omega) (by omega)]; omega)]
      exact ow_ret ⟨F, rfl⟩
  | succ m ih =>
    intro a f d s x hu hf F s1 s2 hx
    cases f with
    | zero => omega
    | succ f =>
      show OW (f_X10_next_42B (f_X10_next_42 f) _ _ _ _) _
      unfold f_X10_next_42B
      have m1 : d.1 88 (1 : Int32).toNatClampNeg = nI (h 1) := (hm_fr M F (by decide) (by decide) (by decide)).1 1
      rw [if_pos e1_88, m1, if_pos (by rw [nI_ltI (by omega) (by omega)]; omega)]
      exact mn56 V M L (by omega) _ _ (nuF (LG h n) a 30 0 s) (fun d' x' F' hx' => ih (a + 1) f d' (nuF (LG h n) a 30 0 s) x' (by omega) (by omega) F' (nuF_1 (by omega) 30 0 s rfl s1) (nuF_2 (fun a u => lf_lt V n a u) 30 0 s s2) hx') 30 0 FU d s x rfl (by unfold FU; omega) F s1 s2 hx rfl
theorem q_next {h nm} {d : DD} (V : VH h) (H : HC 2 d h nm) (M : HM d h) : ∃ r d1 d2, f_X9_next d = some (r, d1) ∧ f_X10_next d1 = some (r, d2) ∧ FQ d d2 := by
  have v1 := V.2.1
  refine eq2 (if h 1 = 0 then mI else if GS h (h 169) FT = 0 then mI else pI (naF (LG h (h 169)) (h 1) 0 (0, 0)).1) ?_ (fun d1 F => ?_)
  · unfold f_X9_next
    refine c_gather V H ?_
    intro d1 first L F1 H1 X I
    rw [hc_p H1]
    by_cases c : h 1 = 0
    · rw [if_pos (show nI (h 1) = 0 by rw [c]; rfl), if_pos c]
      exact ow_ret ⟨fq72 (fr_mono F1 (by decide)), rfl⟩
    · rw [if_neg (show ¬ nI (h 1) = 0 from fun z => c ((nI_eq (by omega) (by omega)).mp (show nI (h 1) = nI 0 from z))), if_neg c]
      simp only [ob_e, bd_e, ↓reduceIte, one_ne, zro_eq, bI_t0, bI_f0, decide_true, decide_false, c_isEmpty V X I]
      by_cases e : GS h (h 169) FT = 0
      · simp only [ob_e, bd_e, ↓reduceIte, one_ne, zro_eq, bI_t0, bI_f0, decide_true, decide_false, eq_true e]
        exact ow_ret ⟨fq72 (fr_mono F1 (by decide)), rfl⟩
      · simp only [ob_e, bd_e, ↓reduceIte, one_ne, zro_eq, bI_t0, bI_f0, decide_true, decide_false, eq_false e]
        refine ow_mono (cn36 V H1 X I (h 1) 0 FU d1 (0, 0) (0 : Int64) (by omega) (by unfold FU; omega) (fr_refl _ _) (by decide) (by decide) (fun z => absurd z (Nat.lt_irrefl 0))) ?_
        intro r d2 H2
        exact ⟨fq72 (fr_trans (fr_mono F1 (by decide)) (fr_mono H2.1 (by decide))), H2.2⟩
  · have M0 := hm_fq (hm_fq M F) (fq_thr d1 0)
    have m1 : (u1 d1 86 0 0).1 88 (1 : Int32).toNatClampNeg = nI (h 1) := M0.1 1
    have m169 : (u1 d1 86 0 0).1 88 (169 : Int32).toNatClampNeg = nI (h 169) := M0.1 169
    unfold f_X10_next
    simp only [ob_e, bd_e, ↓reduceIte, one_ne, zro_eq, bI_t0, bI_f0, decide_true, decide_false, eq_true e1_88, m1]
    by_cases c : h 1 = 0
    · rw [if_pos (show nI (h 1) = 0 by rw [c]; rfl), if_pos c]
      exact ow_ret ⟨fq_thr d1 0, rfl⟩
    · rw [if_neg (show ¬ nI (h 1) = 0 from fun z => c ((nI_eq (by omega) (by omega)).mp (show nI (h 1) = nI 0 from z))), if_neg c, if_pos e169, m169]
      refine ow_call (e_X10_worldsByL V M0 (Nat.le_refl _)) ?_
      intro r d2 H2
      obtain ⟨F2, L2, rfl⟩ := H2
      simp only [gs0 V]
      by_cases e : GS h (h 169) FT = 0
      · simp only [ob_e, bd_e, ↓reduceIte, one_ne, zro_eq, bI_t0, bI_f0, decide_true, decide_false, eq_true e]
        exact ow_ret ⟨fq_trans (fq_thr d1 0) (fq96 (fr_mono F2 (by decide))), rfl⟩
      · simp only [ob_e, bd_e, ↓reduceIte, one_ne, zro_eq, bI_t0, bI_f0, decide_true, decide_false, eq_false e]
        refine ow_mono (mn42 V (hm_fr M0 F2 (by decide) (by decide) (by decide)) L2 (h 1) 0 FU d2 (0, 0) (-1 : Int64) (by omega) (by unfold FU; omega) (fr_refl _ _) (by decide) (by decide) (fun z => absurd z (Nat.lt_irrefl 0))) ?_
        intro r d3 H3
        exact ⟨fq_trans (fq_thr d1 0) (fq96 (fr_trans (fr_mono F2 (by decide)) (fr_mono H3.1 (by decide)))), H3.2⟩
