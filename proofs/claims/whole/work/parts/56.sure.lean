-- PURE ROWS: both, sure, hours
theorem sm_bd {α : Type} {G : α → Nat} {B : Nat} : ∀ (l : List α), (∀ x, x ∈ l → G x ≤ B) → sm G l ≤ l.length * B
  | [], _ => by show 0 ≤ _; exact Nat.zero_le _
  | x :: l, h => by
    have h1 := h x List.mem_cons_self
    have h2 := sm_bd l (fun y hy => h y (List.mem_cons_of_mem _ hy))
    show G x + sm G l ≤ _
    rw [List.length_cons, Nat.succ_mul]
    omega
theorem gs_lt {h : Nat → Nat} (V : VH h) (n : Nat) (F : Nat → Nat → Bool) : GS h n F ≤ 8 ^ 4 * 64 ^ 3 := by
  have v1 := V.2.1
  have l4 : 8 ^ h 1 ≤ 8 ^ 4 := Nat.pow_le_pow_right (by decide) v1
  refine Nat.le_trans (sm_bd _ (fun c _ => pc_le V n c F)) (Nat.mul_le_mul_right _ (Nat.le_trans (cm_len V (h 1)) l4))
def sR (h : Nat → Nat) (n k u : Nat) : Int32 := if GS h n (FK k (fun t => pb (h (2 + k)) (h (5 + k)) t u)) = GS h n FT then 1 else if GS h n (FK k (fun t => pb (h (2 + k)) (h (5 + k)) t u)) = 0 then 0 else 2
theorem c_surety {h nm} {d : DD} (V : VH h) (H : HC 2 d h nm) {first : Nat} {L : List ((Nat → Nat) × (Nat → Nat → Bool))} (X : GX h d first L) {n : Nat} (I : LI h n (h 1) L) {k u : Nat} (hk : k < h 0) (hu : u < 30) : f_X9_surety (nI k) (nI u) d = some (sR h n k u, d) := by
  have v0 := V.1
  unfold f_X9_surety sR
  simp only [ob_e, e_possible X (show k < 3 by omega), e_X1_passing hb_2 V H hk hu, ↓mL_lit, mk_not, mk_and]
  have hF := fk_hi hk (fun t => pb (h (2 + k)) (h (5 + k)) t u)
  have A := ps_all I (show k < 3 by omega) (fun t => pb (h (2 + k)) (h (5 + k)) t u)
  have B := ps_none I (show k < 3 by omega) (fun t => pb (h (2 + k)) (h (5 + k)) t u)
  rw [ps_gs V I hF, ps_gs V I (fun _ _ _ => rfl)] at A
  rw [ps_gs V I hF] at B
  have A' : (mkL (fun i => L.any (fun b => b.2 k i) && !pb (h (2 + k)) (h (5 + k)) i u) = 0) ↔ GS h n (FK k (fun t => pb (h (2 + k)) (h (5 + k)) t u)) = GS h n FT := by
    rw [A, show (0 : Int64) = lN 0 from rfl, mk_eq0]
    constructor
    · intro z b hb t ht hbt
      have := z t ht
      have an : L.any (fun b => b.2 k t) = true := List.any_eq_true.mpr ⟨b, hb, hbt⟩
      rw [an, Bool.true_and] at this
      simpa using this
    · intro z t ht
      cases an : L.any (fun b => b.2 k t)
      · rfl
      · obtain ⟨b, hb, hbt⟩ := List.any_eq_true.mp an
        have := z b hb t ht hbt
        rw [this]
        rfl
  have B' : (mkL (fun i => L.any (fun b => b.2 k i) && pb (h (2 + k)) (h (5 + k)) i u) = 0) ↔ GS h n (FK k (fun t => pb (h (2 + k)) (h (5 + k)) t u)) = 0 := by
    rw [B, show (0 : Int64) = lN 0 from rfl, mk_eq0]
    constructor
    · intro z b hb t ht hbt
      have := z t ht
      have an : L.any (fun b => b.2 k t) = true := List.any_eq_true.mpr ⟨b, hb, hbt⟩
      rw [an, Bool.true_and] at this
      exact this
    · intro z t ht
      cases an : L.any (fun b => b.2 k t)
      · rfl
      · obtain ⟨b, hb, hbt⟩ := List.any_eq_true.mp an
        have := z b hb t ht hbt
        rw [this]
        rfl
  by_cases a : GS h n (FK k (fun t => pb (h (2 + k)) (h (5 + k)) t u)) = GS h n FT
  · rw [if_pos (A'.mpr a), if_pos a]
  · rw [if_neg (fun z => a (A'.mp z)), if_neg a]
    by_cases b : GS h n (FK k (fun t => pb (h (2 + k)) (h (5 + k)) t u)) = 0
    · rw [if_pos (B'.mpr b), if_pos b]
    · rw [if_neg (fun z => b (B'.mp z)), if_neg b]
theorem m_sureOf {h : Nat → Nat} {d : DD} (V : VH h) (M : HM d h) {k u : Nat} (hk : k < h 0) (hu : u < 30) : OW (f_X10_sureOf (nI k) (nI u) (lN (GS h (h 169) FT)) d) (fun r d' => FR [96, 97, 98] d d' ∧ r = sR h (h 169) k u) := by
  unfold f_X10_sureOf
  rw [e_X10_passing V M hk hu, ob_e]
  refine ow_call (e_X10_worldsIn V M hk _) ?_
  intro r d2 H2
  obtain ⟨F2, rfl⟩ := H2
  have g1 := gs_lt V (h 169) FT
  have g2 := gs_lt V (h 169) (FK k (fun t => pb (h (2 + k)) (h (5 + k)) t u))
  unfold sR
  show OW (if lN (GS h (h 169) (FK k (fun t => pb (h (2 + k)) (h (5 + k)) t u))) = lN (GS h (h 169) FT) then some (1, d2) else if lN (GS h (h 169) (FK k (fun t => pb (h (2 + k)) (h (5 + k)) t u))) = lN 0 then some (0, d2) else some (2, d2)) _
  by_cases a : GS h (h 169) (FK k (fun t => pb (h (2 + k)) (h (5 + k)) t u)) = GS h (h 169) FT
  · rw [if_pos (by rw [a]), if_pos a]
    exact ow_ret ⟨F2, rfl⟩
  · rw [if_neg (fun z => a ((lN_eq (by omega) (by omega)).mp z)), if_neg a]
    by_cases b : GS h (h 169) (FK k (fun t => pb (h (2 + k)) (h (5 + k)) t u)) = 0
    · rw [if_pos (by rw [b]), if_pos b]
      exact ow_ret ⟨F2, rfl⟩
    · rw [if_neg (fun z => b ((lN_eq (by omega) (by omega)).mp z)), if_neg b]
      exact ow_ret ⟨F2, rfl⟩
theorem e169 : ixb (169 : Int32) (ln 88) := (ix_nI (n := 169) (by omega)).mpr (by rw [ln_88]; omega)
theorem m_all {h : Nat → Nat} {d : DD} (V : VH h) (M : HM d h) {α : Type} {f : Int64 × DD → Option (α × DD)} {Q : α → DD → Prop} (K : ∀ d2, FR [96, 97, 98] d d2 → HM d2 h → OW (f (lN (GS h (h 169) FT), d2)) Q) : OW ((f_X10_worldsBy (d.1 88 (169 : Int32).toNatClampNeg) d).bind f) Q := by
  have m169 : d.1 88 (169 : Int32).toNatClampNeg = nI (h 169) := M.1 169
  rw [m169]
  refine ow_call (e_X10_worldsBy V M (Nat.le_refl _)) ?_
  intro r d2 H2
  obtain ⟨F2, rfl⟩ := H2
  exact K d2 F2 (hm_fr M F2 (by decide) (by decide) (by decide))
theorem gs0 {h : Nat → Nat} (V : VH h) (n : Nat) : (lN (GS h n FT) = 0) = (GS h n FT = 0) := by
  have g1 := gs_lt V n FT
  rw [show (0 : Int64) = lN 0 from rfl, lN_eq (by omega) (by omega)]
theorem c_isEmpty {h : Nat → Nat} {d : DD} (V : VH h) {first : Nat} {L : List ((Nat → Nat) × (Nat → Nat → Bool))} (X : GX h d first L) {n : Nat} (I : LI h n (h 1) L) : f_X8_isEmpty d = some (bI (decide (GS h n FT = 0)), d) := by
  rw [e_isEmpty X]
  have := gs_nil V I
  by_cases c : L = []
  · rw [decide_eq_true c, decide_eq_true (this.mpr c)]
  · rw [decide_eq_false c, decide_eq_false (fun z => c (this.mp z))]
theorem q_sure {h nm} {d : DD} (V : VH h) (H : HC 2 d h nm) (M : HM d h) (x y : Int32) : ∃ r d1 d2, f_X9_sure x y d = some (r, d1) ∧ f_X10_sure x y d1 = some (r, d2) ∧ FQ d d2 := by
  have v0 := V.1
  rcases ix_dec x (n := h 0) (by omega) with ⟨k, hk, rfl⟩ | c
  · have ck := ixt hk (by omega)
    rcases ix_dec y (n := 30) (by omega) with ⟨u, hu, rfl⟩ | c
    · have ct := ixt hu (by omega)
      refine eq2 (if GS h (h 169) FT = 0 then mI else sR h (h 169) k u) ?_ (fun d1 F => ?_)
      · unfold f_X9_sure
        simp only [ob_e, bd_e, ↓reduceIte, one_ne, zro_eq, bI_t0, bI_f0, decide_true, decide_false, e_X1_hasKind V H, eq_true ck, e_X9_isHour, eq_true ct]
        refine c_gather V H ?_
        intro d1 first L F1 H1 X I
        simp only [ob_e, bd_e, ↓reduceIte, one_ne, zro_eq, bI_t0, bI_f0, decide_true, decide_false, c_isEmpty V X I, c_surety V H1 X I hk hu]
        by_cases e : GS h (h 169) FT = 0
        · simp only [ob_e, bd_e, ↓reduceIte, one_ne, zro_eq, bI_t0, bI_f0, decide_true, decide_false, eq_true e]
          exact ow_ret ⟨fq72 (fr_mono F1 (by decide)), rfl⟩
        · simp only [ob_e, bd_e, ↓reduceIte, one_ne, zro_eq, bI_t0, bI_f0, decide_true, decide_false, eq_false e]
          exact ow_ret ⟨fq72 (fr_mono F1 (by decide)), rfl⟩
      · have M0 := hm_fq (hm_fq M F) (fq_thr d1 0)
        unfold f_X10_sure
        simp only [ob_e, bd_e, ↓reduceIte, one_ne, zro_eq, bI_t0, bI_f0, decide_true, decide_false, e_X10_isKind V M0, eq_true ck, e_X10_isHour, eq_true ct, eq_true e169]
        refine m_all V M0 ?_
        intro d2 F2 M2
        simp only [gs0 V]
        by_cases e : GS h (h 169) FT = 0
        · simp only [ob_e, bd_e, ↓reduceIte, one_ne, zro_eq, bI_t0, bI_f0, decide_true, decide_false, eq_true e]
          exact ow_ret ⟨fq_trans (fq_thr d1 0) (fq96 (fr_mono F2 (by decide))), rfl⟩
        · simp only [ob_e, bd_e, ↓reduceIte, one_ne, zro_eq, bI_t0, bI_f0, decide_true, decide_false, eq_false e]
          refine ow_call (m_sureOf V M2 hk hu) ?_
          intro r d3 H3
          exact ow_ret ⟨fq_trans (fq_thr d1 0) (fq96 (fr_trans (fr_mono F2 (by decide)) (fr_mono H3.1 (by decide)))), H3.2⟩
    · refine eq2 mI ?_ (fun d1 F => ?_)
      · unfold f_X9_sure
        simp only [ob_e, bd_e, ↓reduceIte, one_ne, zro_eq, bI_t0, bI_f0, decide_true, decide_false, e_X1_hasKind V H, eq_true ck, e_X9_isHour, eq_false c]
        exact ow_ret ⟨fq_refl _, rfl⟩
      · have M0 := hm_fq (hm_fq M F) (fq_thr d1 0)
        unfold f_X10_sure
        simp only [ob_e, bd_e, ↓reduceIte, one_ne, zro_eq, bI_t0, bI_f0, decide_true, decide_false, e_X10_isKind V M0, eq_true ck, e_X10_isHour, eq_false c]
        exact ow_ret ⟨fq_thr d1 0, rfl⟩
  · refine eq2 mI ?_ (fun d1 F => ?_)
    · unfold f_X9_sure
      simp only [ob_e, bd_e, ↓reduceIte, one_ne, zro_eq, bI_t0, bI_f0, decide_true, decide_false, e_X1_hasKind V H, eq_false c]
      exact ow_ret ⟨fq_refl _, rfl⟩
    · have M0 := hm_fq (hm_fq M F) (fq_thr d1 0)
      unfold f_X10_sure
      simp only [ob_e, bd_e, ↓reduceIte, one_ne, zro_eq, bI_t0, bI_f0, decide_true, decide_false, e_X10_isKind V M0, eq_false c]
      exact ow_ret ⟨fq_thr d1 0, rfl⟩
def hR (h : Nat → Nat) (n k : Nat) (w : Int32) (u : Nat) : Bool := decide (sR h n k u = w)
theorem c_hours {h nm} {d : DD} (V : VH h) (H : HC 2 d h nm) {first : Nat} {L : List ((Nat → Nat) × (Nat → Nat → Bool))} (X : GX h d first L) {n : Nat} (I : LI h n (h 1) L) {k : Nat} (hk : k < h 0) (w : Int32) : ∀ (m u f : Nat), u + m = 30 → m < f → f_X9_hours_46 f (nI k) w (nI (mkN u (hR h n k w))) (nI u) d = some (nI (mkN 30 (hR h n k w)), d) := by
  intro m
  induction m with
  | zero =>
    intro u f hi hf
    cases f with
    | zero => omega
    | succ f =>
      show f_X9_hours_46B (f_X9_hours_46 f) _ _ _ _ _ = _
      unfold f_X9_hours_46B
      rw [if_neg (by rw [nI_lit, nI_ltI (by omega) (by omega)]; omega), show u = 30 by omega]
  | succ m ih =>
    intro u f hi hf
    cases f with
    | zero => omega
    | succ f =>
      show f_X9_hours_46B (f_X9_hours_46 f) _ _ _ _ _ = _
      unfold f_X9_hours_46B
      have s := ih (u + 1) f (by omega) (by omega)
      rw [mkN] at s
      rw [if_pos (by rw [nI_lit, nI_ltI (by omega) (by omega)]; omega), c_surety V H X I hk (by omega), ob_e]
      simp only [nI_lit]
      by_cases c : sR h n k u = w
      · have hr : hR h n k w u = true := decide_eq_true c
        rw [if_pos hr] at s
        rw [if_pos c, q_shl (by omega), nx_or, mkN_top, bd_e, nI_add]
        exact s
      · have hr : ¬ hR h n k w u = true := fun z => c (of_decide_eq_true z)
        rw [if_neg hr] at s
        rw [if_neg c, nI_add]
        exact s
theorem m_hours {h : Nat → Nat} {d0 : DD} (V : VH h) (M : HM d0 h) {k : Nat} (hk : k < h 0) (w : Int32) : ∀ (m u f : Nat) (d : DD), u + m = 30 → m < f → FR [96, 97, 98] d0 d → OW (f_X10_hours_51 f (nI k) w (lN (GS h (h 169) FT)) (nI (mkN u (hR h (h 169) k w))) (nI u) d) (fun r d' => FR [96, 97, 98] d0 d' ∧ r = nI (mkN 30 (hR h (h 169) k w))) := by
  intro m
  induction m with
  | zero =>
    intro u f d hi hf F
    cases f with
    | zero => omega
    | succ f =>
      show OW (f_X10_hours_51B (f_X10_hours_51 f) _ _ _ _ _ _) _
      unfold f_X10_hours_51B
      rw [if_neg (by rw [nI_lit, nI_ltI (by omega) (by omega)]; omega), show u = 30 by omega]
      exact ow_ret ⟨F, rfl⟩
  | succ m ih =>
    intro u f d hi hf F
    cases f with
    | zero => omega
    | succ f =>
      show OW (f_X10_hours_51B (f_X10_hours_51 f) _ _ _ _ _ _) _
      unfold f_X10_hours_51B
      rw [if_pos (by rw [nI_lit, nI_ltI (by omega) (by omega)]; omega)]
      refine ow_call (m_sureOf V (hm_fr M F (by decide) (by decide) (by decide)) hk (by omega)) ?_
      intro r d2 H2
      obtain ⟨F2, rfl⟩ := H2
      have s := ih (u + 1) f d2 (by omega) (by omega) (fr_trans F F2)
      rw [mkN] at s
      simp only [nI_lit, bd_e]
      by_cases c : sR h (h 169) k u = w
      · have hr : hR h (h 169) k w u = true := decide_eq_true c
        rw [if_pos hr] at s
        rw [if_pos c, q_shl (by omega), nx_or, mkN_top, nI_add]
        exact s
      · have hr : ¬ hR h (h 169) k w u = true := fun z => c (of_decide_eq_true z)
        rw [if_neg hr] at s
        rw [if_neg c, nI_add, nx_or, Nat.or_zero]
        exact s
theorem nix {y : Int32} {n : Nat} (hn : n < 2 ^ 31) (h0 : 0 < n) (c : ¬ ixb y n) : y < 0 ∨ (¬ y < 0 ∧ nI (n - 1) < y) := by
  by_cases q : y < 0
  · exact Or.inl q
  · refine Or.inr ⟨q, ?_⟩
    obtain ⟨j, hj, rfl⟩ := nI_of q
    rw [nI_ltI (by omega) hj]
    have : ¬ j < n := fun z => c ((ix_nI hj).mpr z)
    omega
theorem q_hours {h nm} {d : DD} (V : VH h) (H : HC 2 d h nm) (M : HM d h) (x y : Int32) : ∃ r d1 d2, f_X9_hours x y d = some (r, d1) ∧ f_X10_hours x y d1 = some (r, d2) ∧ FQ d d2 := by
  have v0 := V.1
  rcases ix_dec x (n := h 0) (by omega) with ⟨k, hk, rfl⟩ | c
  · have ck := ixt hk (by omega)
    rcases ix_dec y (n := 3) (by omega) with ⟨w, hw, rfl⟩ | c
    · have ct := ixt hw (by omega)
      have c1 : ¬ nI w < 0 := nI_pos (by omega)
      have c2 : ¬ (2 : Int32) < nI w := by rw [show (2 : Int32) = nI 2 from rfl, nI_ltI (by omega) (by omega)]; omega
      refine eq2 (if GS h (h 169) FT = 0 then mI else nI (mkN 30 (hR h (h 169) k (nI w)))) ?_ (fun d1 F => ?_)
      · unfold f_X9_hours
        simp only [ob_e, bd_e, ↓reduceIte, one_ne, zro_eq, bI_t0, bI_f0, decide_true, decide_false, e_X1_hasKind V H, eq_true ck, c1, c2]
        refine c_gather V H ?_
        intro d1 first L F1 H1 X I
        simp only [ob_e, bd_e, ↓reduceIte, one_ne, zro_eq, bI_t0, bI_f0, decide_true, decide_false, c_isEmpty V X I]
        by_cases e : GS h (h 169) FT = 0
        · simp only [ob_e, bd_e, ↓reduceIte, one_ne, zro_eq, bI_t0, bI_f0, decide_true, decide_false, eq_true e]
          exact ow_ret ⟨fq72 (fr_mono F1 (by decide)), rfl⟩
        · simp only [ob_e, bd_e, ↓reduceIte, one_ne, zro_eq, bI_t0, bI_f0, decide_true, decide_false, eq_false e]
          exact ⟨_, _, c_hours V H1 X I hk (nI w) 30 0 FU (by omega) (by unfold FU; omega), fq72 (fr_mono F1 (by decide)), rfl⟩
      · have M0 := hm_fq (hm_fq M F) (fq_thr d1 0)
        have ei := e_X10_isIn0 (x := nI w) (n := 3) (by omega) (u1 d1 86 0 0)
        rw [show nI 0 = (0 : Int32) from rfl, show pI 3 = (2 : Int32) from rfl] at ei
        unfold f_X10_hours
        simp only [ob_e, bd_e, ↓reduceIte, one_ne, zro_eq, bI_t0, bI_f0, decide_true, decide_false, e_X10_isKind V M0, eq_true ck, ei, eq_true ct, eq_true e169]
        refine m_all V M0 ?_
        intro d2 F2 M2
        simp only [gs0 V]
        by_cases e : GS h (h 169) FT = 0
        · simp only [ob_e, bd_e, ↓reduceIte, one_ne, zro_eq, bI_t0, bI_f0, decide_true, decide_false, eq_true e]
          exact ow_ret ⟨fq_trans (fq_thr d1 0) (fq96 (fr_mono F2 (by decide))), rfl⟩
        · simp only [ob_e, bd_e, ↓reduceIte, one_ne, zro_eq, bI_t0, bI_f0, decide_true, decide_false, eq_false e]
          refine ow_mono (m_hours V M2 hk (nI w) 30 0 FU d2 (by omega) (by unfold FU; omega) (fr_refl _ _)) ?_
          intro r d3 H3
          exact ⟨fq_trans (fq_thr d1 0) (fq96 (fr_trans (fr_mono F2 (by decide)) (fr_mono H3.1 (by decide)))), H3.2⟩
    · refine eq2 mI ?_ (fun d1 F => ?_)
      · unfold f_X9_hours
        rcases nix (by omega) (by omega) c with q | ⟨q1, q2⟩
        · simp only [ob_e, bd_e, ↓reduceIte, one_ne, zro_eq, bI_t0, bI_f0, decide_true, decide_false, e_X1_hasKind V H, eq_true ck, eq_true q]
          exact ow_ret ⟨fq_refl _, rfl⟩
        · have q3 : (2 : Int32) < y := q2
          simp only [ob_e, bd_e, ↓reduceIte, one_ne, zro_eq, bI_t0, bI_f0, decide_true, decide_false, e_X1_hasKind V H, eq_true ck, q1, eq_true q3]
          exact ow_ret ⟨fq_refl _, rfl⟩
      · have M0 := hm_fq (hm_fq M F) (fq_thr d1 0)
        have ei := e_X10_isIn0 (x := y) (n := 3) (by omega) (u1 d1 86 0 0)
        rw [show nI 0 = (0 : Int32) from rfl, show pI 3 = (2 : Int32) from rfl] at ei
        unfold f_X10_hours
        simp only [ob_e, bd_e, ↓reduceIte, one_ne, zro_eq, bI_t0, bI_f0, decide_true, decide_false, e_X10_isKind V M0, eq_true ck, ei, eq_false c]
        exact ow_ret ⟨fq_thr d1 0, rfl⟩
  · refine eq2 mI ?_ (fun d1 F => ?_)
    · unfold f_X9_hours
      simp only [ob_e, bd_e, ↓reduceIte, one_ne, zro_eq, bI_t0, bI_f0, decide_true, decide_false, e_X1_hasKind V H, eq_false c]
      exact ow_ret ⟨fq_refl _, rfl⟩
    · have M0 := hm_fq (hm_fq M F) (fq_thr d1 0)
      unfold f_X10_hours
      simp only [ob_e, bd_e, ↓reduceIte, one_ne, zro_eq, bI_t0, bI_f0, decide_true, decide_false, e_X10_isKind V M0, eq_false c]
      exact ow_ret ⟨fq_thr d1 0, rfl⟩
theorem pk_two {d : DD} (P : PK d FT) {k l : Nat} (hk : k < 3) (hl : l < 3) (S T : Nat → Bool) (hst : k = l → S = T) : PK (u2 (u2 d 78 k (mkL S)) 78 l (mkL T)) (F2 k l S T) := by
  intro j hj
  rw [u2_at, u2_at]
  by_cases e : j = l
  · rw [if_pos ⟨rfl, e⟩]
    apply mk_congr
    intro t _
    unfold F2
    by_cases e2 : j = k
    · rw [if_pos e2, hst (by omega)]
    · rw [if_neg e2, if_pos e]
  · rw [if_neg (fun z => e z.2)]
    by_cases e2 : j = k
    · rw [if_pos ⟨rfl, e2⟩]
      apply mk_congr
      intro t _
      unfold F2
      rw [if_pos e2]
    · rw [if_neg (fun z => e2 z.2), P j hj]
      apply mk_congr
      intro t _
      unfold F2 FT
      rw [if_neg e2, if_neg e]
theorem f2_hi {h : Nat → Nat} {k l : Nat} (hk : k < h 0) (hl : l < h 0) (S T : Nat → Bool) : ∀ j, h 0 ≤ j → j < 3 → F2 k l S T j 0 = true := by
  intro j hj _
  unfold F2
  rw [if_neg (by omega), if_neg (by omega)]
theorem q_both {h nm} {d : DD} (V : VH h) (H : HC 2 d h nm) (M : HM d h) (x y z : Int32) : ∃ r d1 d2, f_X9_both x y z d = some (r, d1) ∧ f_X10_both x y z d1 = some (r, d2) ∧ FQ d d2 := by
  have v0 := V.1
  rcases ix_dec x (n := h 0) (by omega) with ⟨k, hk, rfl⟩ | c
  · have ck := ixt hk (by omega)
    rcases ix_dec y (n := h 0) (by omega) with ⟨l, hl, rfl⟩ | c
    · have cl := ixt hl (by omega)
      rcases ix_dec z (n := 30) (by omega) with ⟨u, hu, rfl⟩ | c
      · have ct := ixt hu (by omega)
        refine eq2 (lN (GS h (h 169) (F2 k l (fun t => pb (h (2 + k)) (h (5 + k)) t u) (fun t => pb (h (2 + l)) (h (5 + l)) t u)))) ?_ (fun d1 F => ?_)
        · unfold f_X9_both
          simp only [ob_e, bd_e, ↓reduceIte, one_ne, zro_eq, bI_t0, bI_f0, decide_true, decide_false, e_X1_hasKind V H, eq_true ck, eq_true cl, e_X9_isHour, eq_true ct]
          refine c_gather V H ?_
          intro d1 first L F1 H1 X I
          refine ow_call (e_pickAny d1) ?_
          intro _ d2 H2
          have HH2 := hc_fr H1 H2.1 (by decide)
          have F3 : FR [78] d2 (u2 d2 78 k (mkL (fun t => pb (h (2 + k)) (h (5 + k)) t u))) := fr_u2 (fr_refl _ _) (by decide)
          have HH3 := hc_fr HH2 F3 (by decide)
          have F4 : FR [78] d2 (u2 (u2 d2 78 k (mkL (fun t => pb (h (2 + k)) (h (5 + k)) t u))) 78 l (mkL (fun t => pb (h (2 + l)) (h (5 + l)) t u))) := fr_u2 F3 (by decide)
          have PP := pk_two H2.2 (k := k) (l := l) (by omega) (by omega) (fun t => pb (h (2 + k)) (h (5 + k)) t u) (fun t => pb (h (2 + l)) (h (5 + l)) t u) (fun e => by rw [e])
          simp only [ob_e, e_X1_passing hb_2 V HH2 hk hu, e_pick (show k < 3 by omega), e_X1_passing hb_2 V HH3 hl hu, e_pick (show l < 3 by omega), e_picked V (hc_fr HH2 F4 (by decide)) (gx_fr (gx_fr X H2.1 (by decide) (by decide) (by decide)) F4 (by decide) (by decide) (by decide)) PP]
          refine ow_ret ⟨fq72 (fr_trans (fr_mono F1 (by decide)) (fr_trans (fr_mono H2.1 (by decide)) (fr_mono F4 (by decide)))), ?_⟩
          rw [ps_gs V I (f2_hi hk hl _ _)]
        · have M0 := hm_fq (hm_fq M F) (fq_thr d1 0)
          have m169 : (u1 d1 86 0 0).1 88 (169 : Int32).toNatClampNeg = nI (h 169) := M0.1 169
          unfold f_X10_both
          simp only [ob_e, bd_e, ↓reduceIte, one_ne, zro_eq, bI_t0, bI_f0, decide_true, decide_false, e_X10_isKind V M0, eq_true ck, eq_true cl, e_X10_isHour, eq_true ct, eq_true e169, m169]
          by_cases e : k = l
          · subst e
            simp only [ob_e, ↓reduceIte, e_X10_passing V M0 hk hu]
            refine ow_call (e_X10_worldsIn V M0 hk _) ?_
            intro r d3 H3
            refine ow_ret ⟨fq_trans (fq_thr d1 0) (fq96 (fr_mono H3.1 (by decide))), ?_⟩
            rw [H3.2]
            have ef : (fun j t => if j = k then pb (h (2 + k)) (h (5 + k)) t u else true) = F2 k k (fun t => pb (h (2 + k)) (h (5 + k)) t u) (fun t => pb (h (2 + k)) (h (5 + k)) t u) := by
              funext j t
              unfold F2
              by_cases e : j = k
              · rw [if_pos e, if_pos e]
              · rw [if_neg e, if_neg e]
            rw [ef]
          · rw [if_neg (fun q => e ((nI_eq (by omega) (by omega)).mp q))]
            refine ow_mono (e_X10_bo V M0 hk hl e hu) ?_
            intro r d3 H3
            exact ⟨fq_trans (fq_thr d1 0) (fq96 (fr_mono H3.1 (by decide))), H3.2⟩
      · refine eq2 mL ?_ (fun d1 F => ?_)
        · unfold f_X9_both
          simp only [ob_e, bd_e, ↓reduceIte, one_ne, zro_eq, bI_t0, bI_f0, decide_true, decide_false, e_X1_hasKind V H, eq_true ck, eq_true cl, e_X9_isHour, eq_false c]
          exact ow_ret ⟨fq_refl _, rfl⟩
        · have M0 := hm_fq (hm_fq M F) (fq_thr d1 0)
          unfold f_X10_both
          simp only [ob_e, bd_e, ↓reduceIte, one_ne, zro_eq, bI_t0, bI_f0, decide_true, decide_false, e_X10_isKind V M0, eq_true ck, eq_true cl, e_X10_isHour, eq_false c]
          exact ow_ret ⟨fq_thr d1 0, rfl⟩
    · refine eq2 mL ?_ (fun d1 F => ?_)
      · unfold f_X9_both
        simp only [ob_e, bd_e, ↓reduceIte, one_ne, zro_eq, bI_t0, bI_f0, decide_true, decide_false, e_X1_hasKind V H, eq_true ck, eq_false c]
        exact ow_ret ⟨fq_refl _, rfl⟩
      · have M0 := hm_fq (hm_fq M F) (fq_thr d1 0)
        unfold f_X10_both
        simp only [ob_e, bd_e, ↓reduceIte, one_ne, zro_eq, bI_t0, bI_f0, decide_true, decide_false, e_X10_isKind V M0, eq_true ck, eq_false c]
        exact ow_ret ⟨fq_thr d1 0, rfl⟩
  · refine eq2 mL ?_ (fun d1 F => ?_)
    · unfold f_X9_both
      simp only [ob_e, bd_e, ↓reduceIte, one_ne, zro_eq, bI_t0, bI_f0, decide_true, decide_false, e_X1_hasKind V H, eq_false c]
      exact ow_ret ⟨fq_refl _, rfl⟩
    · have M0 := hm_fq (hm_fq M F) (fq_thr d1 0)
      unfold f_X10_both
      simp only [ob_e, bd_e, ↓reduceIte, one_ne, zro_eq, bI_t0, bI_f0, decide_true, decide_false, e_X10_isKind V M0, eq_false c]
      exact ow_ret ⟨fq_thr d1 0, rfl⟩
