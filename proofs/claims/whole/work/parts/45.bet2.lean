-- PURE ROWS: the model's bet, its sum
def BF (h : Nat → Nat) (k u v j t : Nat) : Bool := if j = k then decide (nh (h (2 + k)) t u = v) else decide (v < nh (h (2 + j)) t u)
theorem bf_k {h : Nat → Nat} {n : Nat} {c : Nat → Nat} {k u v : Nat} : cnt 64 (fun t => WM h n c k t && BJ h k u v t) = PC h n c (BF h k u v) k := by
  unfold PC
  apply cnt_congr
  intro i _
  unfold WM BJ BF
  rw [if_pos rfl]
  cases decide (i < TT h k) <;> simp
theorem bf_j {h : Nat → Nat} {n : Nat} {c : Nat → Nat} {k u v j : Nat} (hj : j ≠ k) : cnt 64 (fun t => WM h n c j t && BL h j u v t) = PC h n c (BF h k u v) j := by
  unfold PC
  apply cnt_congr
  intro i _
  unfold WM BL BF
  rw [if_neg hj]
  cases decide (i < TT h j) <;> simp
def P1 (h : Nat → Nat) (n : Nat) (c : Nat → Nat) (F : Nat → Nat → Bool) (k j : Nat) : Nat := if j = k then 1 else PC h n c F j
theorem p1_le {h : Nat → Nat} (n : Nat) (c : Nat → Nat) (F : Nat → Nat → Bool) (k : Nat) : ∀ m, pn (P1 h n c F k) m ≤ 64 ^ m
  | 0 => Nat.le_refl _
  | m + 1 => by
    rw [pn, Nat.pow_succ]
    refine Nat.mul_le_mul (p1_le n c F k m) ?_
    unfold P1
    split
    · omega
    · exact cnt_le _ _
theorem pn_stay {F : Nat → Nat} {B k : Nat} (hz : B * pn F k = 0) : ∀ j, B * pn F (k + j) = 0
  | 0 => hz
  | j + 1 => by
    rw [← Nat.add_assoc, pn, ← Nat.mul_assoc, pn_stay hz j, Nat.zero_mul]
theorem be260 {h : Nat → Nat} {d : DD} (V : VH h) (M : HM d h) {n : Nat} {c : Nat → Nat} (E : WE h n c d) {k u v : Nat} (hk : k < h 0) (hv : v < 30) (J : JB h k u 30 d) (v2 v3 : Int32) (v4 : Int64) (acc B : Nat) (hB : B ≤ 64) (k227 : Int32 → Int32 → Int32 → Int64 → Int64 → DD → Option (Int64 × DD)) (k230 : Int32 → Int32 → Int32 → Int64 → Int64 → Int32 → DD → Option (Int64 × DD)) : ∀ (m j f : Nat), j + m = h 0 → m < f → f_X10_bet_260 k227 k230 f (nI k) v2 v3 v4 (lN acc) (nI v) (lN (B * pn (P1 h n c (BF h k u v) k) j)) (nI j) d = k230 (nI k) v2 v3 v4 (lN (acc + B * pn (P1 h n c (BF h k u v) k) (h 0))) (nI (v + 1)) d := by
  have v0 := V.1
  have pl : ∀ j, j ≤ 3 → B * pn (P1 h n c (BF h k u v) k) j ≤ 64 * 64 ^ 3 := fun j hj =>
    Nat.mul_le_mul hB (Nat.le_trans (p1_le n c _ k j) (Nat.pow_le_pow_right (by decide) hj))
  intro m
  induction m with
  | zero =>
    intro j f hi hf
    cases f with
    | zero => omega
    | succ f =>
      show f_X10_bet_260B k227 k230 (f_X10_bet_260 k227 k230 f) _ _ _ _ _ _ _ _ _ = _
      unfold f_X10_bet_260B
      have e : j = h 0 := by omega
      subst e
      simp (disch := omega) only [bd_e, ob_e, ow_ret_e, u1_at, u1_2, u2_at, u2_1, ↓reduceIte, false_and, true_and, and_true, and_false, not_true_eq_false, not_false_eq_true, decide_true, decide_false, Bool.true_and, Bool.false_and, Bool.and_true, Bool.and_false, Bool.or_false, Bool.false_or, Bool.true_or, Bool.or_true, ↓mI_lit, ↓mL_lit, nI_lit, lN_lit, nI_add, pk_mul, lN_add, lN_mul, nI_ltI, nI_eq, nI_clamp, ix_nI, ix_mI, nI_mI, mI_nI, lN_mL, mL_lN, mI_lt, lt_mI, pI_mI, pI_nI, pI_eq, pI_lt0, pI_e, Nat.not_lt_zero, Nat.zero_add, Nat.add_zero, ix_T, lt_T, lt_F, eq_T, eq_F, ln_88, M.1]
  | succ m ih =>
    intro j f hi hf
    cases f with
    | zero => omega
    | succ f =>
      show f_X10_bet_260B k227 k230 (f_X10_bet_260 k227 k230 f) _ _ _ _ _ _ _ _ _ = _
      unfold f_X10_bet_260B
      have hj : j < h 0 := by omega
      have s := ih (j + 1) f (by omega) (by omega)
      rw [pn, ← Nat.mul_assoc] at s
      have pj := pl j (by omega)
      by_cases p : 0 < B * pn (P1 h n c (BF h k u v) k) j
      · by_cases q : j = k
        · have e1 : P1 h n c (BF h k u v) k j = 1 := if_pos q
          rw [e1] at s
          simp (disch := omega) only [bd_e, ob_e, ow_ret_e, u1_at, u1_2, u2_at, u2_1, ↓reduceIte, false_and, true_and, and_true, and_false, not_true_eq_false, not_false_eq_true, decide_true, decide_false, Bool.true_and, Bool.false_and, Bool.and_true, Bool.and_false, Bool.or_false, Bool.false_or, Bool.true_or, Bool.or_true, ↓mI_lit, ↓mL_lit, nI_lit, lN_lit, nI_add, pk_mul, lN_add, lN_mul, nI_ltI, nI_eq, nI_clamp, ix_nI, ix_mI, nI_mI, mI_nI, lN_mL, mL_lN, mI_lt, lt_mI, pI_mI, pI_nI, pI_eq, pI_lt0, pI_e, Nat.not_lt_zero, Nat.zero_add, Nat.add_zero, ix_T, lt_T, lt_F, eq_T, eq_F, ln_88, M.1, lN_lt]
          exact s
        · have e1 : P1 h n c (BF h k u v) k j = PC h n c (BF h k u v) j := if_neg q
          rw [e1] at s
          have cl : PC h n c (BF h k u v) j ≤ 64 := cnt_le _ _
          have e99 := (J v hv).2 j hj
          simp (disch := omega) only [bd_e, ob_e, ow_ret_e, u1_at, u1_2, u2_at, u2_1, ↓reduceIte, false_and, true_and, and_true, and_false, not_true_eq_false, not_false_eq_true, decide_true, decide_false, Bool.true_and, Bool.false_and, Bool.and_true, Bool.and_false, Bool.or_false, Bool.false_or, Bool.true_or, Bool.or_true, ↓mI_lit, ↓mL_lit, nI_lit, lN_lit, nI_add, pk_mul, lN_add, lN_mul, nI_ltI, nI_eq, nI_clamp, ix_nI, ix_mI, nI_mI, mI_nI, lN_mL, mL_lN, mI_lt, lt_mI, pI_mI, pI_nI, pI_eq, pI_lt0, pI_e, Nat.not_lt_zero, Nat.zero_add, Nat.add_zero, ix_T, lt_T, lt_F, eq_T, eq_F, ln_88, ln_97, ln_99, M.1, lN_lt, E j hj, e99, mk_and, e_X10_bitsm, bf_j q, nI_l]
          exact s
      · simp (disch := omega) only [bd_e, ob_e, ow_ret_e, u1_at, u1_2, u2_at, u2_1, ↓reduceIte, false_and, true_and, and_true, and_false, not_true_eq_false, not_false_eq_true, decide_true, decide_false, Bool.true_and, Bool.false_and, Bool.and_true, Bool.and_false, Bool.or_false, Bool.false_or, Bool.true_or, Bool.or_true, ↓mI_lit, ↓mL_lit, nI_lit, lN_lit, nI_add, pk_mul, lN_add, lN_mul, nI_ltI, nI_eq, nI_clamp, ix_nI, ix_mI, nI_mI, mI_nI, lN_mL, mL_lN, mI_lt, lt_mI, pI_mI, pI_nI, pI_eq, pI_lt0, pI_e, Nat.not_lt_zero, Nat.zero_add, Nat.add_zero, ix_T, lt_T, lt_F, eq_T, eq_F, ln_88, M.1, lN_lt]
        have z := pn_stay (F := P1 h n c (BF h k u v) k) (B := B) (k := j) (by omega) (h 0 - j)
        rw [show j + (h 0 - j) = h 0 by omega] at z
        rw [z, show B * pn (P1 h n c (BF h k u v) k) j = 0 by omega]
def sv (F : Nat → Nat) : Nat → Nat → Nat
  | 0, _ => 0
  | m + 1, v => F v + sv F m (v + 1)
theorem be230 {h : Nat → Nat} {d : DD} (V : VH h) (M : HM d h) {n : Nat} {c : Nat → Nat} (E : WE h n c d) {k u : Nat} (hk : k < h 0) (J : JB h k u 30 d) (v2 v3 : Int32) (v4 : Int64) (k227 : Int32 → Int32 → Int32 → Int64 → Int64 → DD → Option (Int64 × DD)) : ∀ (m v f acc : Nat), v + m = 30 → m < f → ∃ f', f_X10_bet_230 k227 f (nI k) v2 v3 v4 (lN acc) (nI v) d = f_X10_bet_230 k227 (f' + 1) (nI k) v2 v3 v4 (lN (acc + sv (fun v => pn (PC h n c (BF h k u v)) (h 0)) m v)) (nI 30) d := by
  have v0 := V.1
  intro m
  induction m with
  | zero =>
    intro v f acc hi hf
    cases f with
    | zero => omega
    | succ f =>
      refine ⟨f, ?_⟩
      rw [show v = 30 by omega]
      rfl
  | succ m ih =>
    intro v f acc hi hf
    cases f with
    | zero => omega
    | succ f =>
      obtain ⟨f', s⟩ := ih (v + 1) f (acc + pn (PC h n c (BF h k u v)) (h 0)) (by omega) (by omega)
      refine ⟨f', ?_⟩
      show f_X10_bet_230B k227 (f_X10_bet_230 k227 f) _ _ _ _ _ _ _ = _
      unfold f_X10_bet_230B
      have e100 := (J v (by omega)).1
      have cl : PC h n c (BF h k u v) k ≤ 64 := cnt_le _ _
      have s2 := be260 V M E hk (v := v) (by omega) J v2 v3 v4 acc (PC h n c (BF h k u v) k) cl k227 (f_X10_bet_230 k227 f) (h 0) 0 FU (by omega) (by unfold FU; omega)
      rw [show pn (P1 h n c (BF h k u v) k) 0 = 1 from rfl, Nat.mul_one] at s2
      have pe : PC h n c (BF h k u v) k * pn (P1 h n c (BF h k u v) k) (h 0) = pn (PC h n c (BF h k u v)) (h 0) := by
        rw [Nat.mul_comm]
        unfold P1
        rw [pn_mul hk]
        apply pn_congr
        intro j _
        by_cases q : j = k
        · rw [if_pos q, q]
        · rw [if_neg q]
      rw [pe, s] at s2
      simp (disch := omega) only [bd_e, ob_e, ow_ret_e, u1_at, u1_2, u2_at, u2_1, ↓reduceIte, false_and, true_and, and_true, and_false, not_true_eq_false, not_false_eq_true, decide_true, decide_false, Bool.true_and, Bool.false_and, Bool.and_true, Bool.and_false, Bool.or_false, Bool.false_or, Bool.true_or, Bool.or_true, ↓mI_lit, ↓mL_lit, nI_lit, lN_lit, nI_add, pk_mul, lN_add, lN_mul, nI_ltI, nI_eq, nI_clamp, ix_nI, ix_mI, nI_mI, mI_nI, lN_mL, mL_lN, mI_lt, lt_mI, pI_mI, pI_nI, pI_eq, pI_lt0, pI_e, Nat.not_lt_zero, Nat.zero_add, Nat.add_zero, ix_T, lt_T, lt_F, eq_T, eq_F, ln_97, ln_100, E k hk, e100, mk_and, e_X10_bitsm, bf_k, nI_l]
      rw [s2, Nat.add_assoc]
      rfl
def GB (h : Nat → Nat) (n k u : Nat) : Nat := sm (fun c => sv (fun v => pn (PC h n c (BF h k u v)) (h 0)) (30 - u) u) (cm h (h 1))
def bX (v4 v6 : Int64) (v3 : Int32) (d : DD) : Option (Int64 × DD) :=
  if v4 = (0 : Int64) then
      (f_X10_throwsIf (1 : Int32) d).bind fun q8 =>
        if q8.1 = 0 then
        (f_X10_part v6 v4 v3 q8.2).bind fun q9 =>
          some (q9.1, q9.2)
        else
        some ((0 : Int64), q8.2)
      else
      (f_X10_throwsIf (0 : Int32) d).bind fun q6 =>
        if q6.1 = 0 then
        (f_X10_part v6 v4 v3 q6.2).bind fun q7 =>
          some (q7.1, q7.2)
        else
        some ((0 : Int64), q6.2)
theorem e_X10_bt {h : Nat → Nat} {d : DD} (V : VH h) (M : HM d h) {k u : Nat} (hk : k < h 0) (hu : u < 30) (v3 : Int32) (Q : Int64 → DD → Prop) (K : ∀ d', FR [96, 97, 98, 99, 100] d d' → OW (bX (lN (GS h (h 169) FT)) (lN (GB h (h 169) k u)) v3 d') Q) : OW (f_X10_bet_41 FU (nI k) (nI u) v3 (nI 0) d) Q := by
  have v2 := V.2.2.2.2.2.2.2.1
  refine be41 (d0 := d) V M hk hu v3 Q ?_ 30 0 FU d (by omega) (by unfold FU; omega) (fr_refl _ _) (fun v' hv' => by omega)
  intro da Fa Ja
  have Ma := hm_fr M Fa (by decide) (by decide) (by decide)
  simp (disch := omega) only [bd_e, ob_e, ow_ret_e, u1_at, u1_2, u2_at, u2_1, ↓reduceIte, false_and, true_and, and_true, and_false, not_true_eq_false, not_false_eq_true, decide_true, decide_false, Bool.true_and, Bool.false_and, Bool.and_true, Bool.and_false, Bool.or_false, Bool.false_or, Bool.true_or, Bool.or_true, ↓mI_lit, ↓mL_lit, nI_lit, lN_lit, nI_add, pk_mul, lN_add, lN_mul, nI_ltI, nI_eq, nI_clamp, ix_nI, ix_mI, nI_mI, mI_nI, lN_mL, mL_lN, mI_lt, lt_mI, pI_mI, pI_nI, pI_eq, pI_lt0, pI_e, Nat.not_lt_zero, Nat.zero_add, Nat.add_zero, ix_T, lt_T, lt_F, eq_T, eq_F, ln_88, Ma.1]
  refine ow_call (P := fun r d' => FR [96, 97, 98] da d' ∧ LT h (h 169) d' ∧ r = lN (GS h (h 169) FT)) ?_ ?_
  · exact e_X10_worldsByL V Ma (Nat.le_refl _)
  · intro r db Hb
    obtain ⟨Fb, Lb, rfl⟩ := Hb
    have Mb := hm_fr Ma Fb (by decide) (by decide) (by decide)
    refine ow_call (e_X10_firstWays V Mb Lb) ?_
    intro _ d2 H2
    have M2 := hm_fr Mb H2.1 (by decide) (by decide) (by decide)
    have L2 := lt_fr Lb H2.1 (by decide)
    have FF : FR [96, 97, 98, 99, 100] d d2 := fr_trans (fr_mono Fa (by decide)) (fr_trans (fr_mono Fb (by decide)) (fr_mono H2.1 (by decide)))
    have J2 : JB h k u 30 d2 := fun v' hv' => by
      refine ⟨?_, fun j hj => ?_⟩
      · rw [(H2.1 100 (by decide)).2, (Fb 100 (by decide)).2]; exact (Ja v' hv').1
      · rw [(H2.1 99 (by decide)).2, (Fb 99 (by decide)).2]; exact (Ja v' hv').2 j hj
    have v0 := V.1
    have v1 := V.2.1
    obtain ⟨lx, el⟩ := cm_head V (h 1) (Nat.le_refl _)
    have ch := cm_chx V (h 1) (Nat.le_refl _)
    have len := cm_len V (h 1)
    have l4 : 8 ^ h 1 ≤ 8 ^ 4 := Nat.pow_le_pow_right (by decide) v1
    have cv : ∀ x, x ∈ cm h (h 1) → CV h x := fun x hx => cm_cv hx
    rw [el] at ch len cv
    rw [List.length_cons] at len
    refine odo V M2 L2 [97, 98] (by decide) (by decide) (by decide) (by decide) (fun _ z => z) (fun f s d => f_X10_bet_227 f (nI k) (nI u) v3 (lN (GS h (h 169) FT)) s d) (fun s d => bX (lN (GS h (h 169) FT)) s v3 d) _ (fun l s _ => ∃ b, s = lN b ∧ b + sm (fun c => sv (fun v => pn (PC h (h 169) c (BF h k u v)) (h 0)) (30 - u) u) l = GB h (h 169) k u) ?_ ?_ lx (fw h) FU (lN 0) d2 ch cv (by unfold FU; omega) (fr_refl _ _) H2.2.1 H2.2.2 ⟨0, rfl, ?_⟩
    · intro f c l s d' C F D E j K'
      obtain ⟨b, rfl, hb⟩ := j
      show OW (f_X10_bet_227B (f_X10_bet_227 f) _ _ _ _ _ _) _
      unfold f_X10_bet_227B
      have M' := hm_fr M2 F (by decide) (by decide) (by decide)
      have J' : JB h k u 30 d' := fun v' hv' => by
        refine ⟨?_, fun j hj => ?_⟩
        · rw [(F 100 (by decide)).2]; exact (J2 v' hv').1
        · rw [(F 99 (by decide)).2]; exact (J2 v' hv').2 j hj
      obtain ⟨f', s230⟩ := be230 V M' E hk J' (nI u) v3 (lN (GS h (h 169) FT)) (f_X10_bet_227 f) (30 - u) u FU b (by omega) (by unfold FU; omega)
      rw [s230]
      show OW (f_X10_bet_230B (f_X10_bet_227 f) (f_X10_bet_230 (f_X10_bet_227 f) f') _ _ _ _ _ _ _) _
      unfold f_X10_bet_230B
      rw [if_neg (by decide)]
      refine K' _ d' F D (fun d'' _ => ⟨_, rfl, ?_⟩)
      rw [← hb]
      show b + _ + _ = b + (_ + _)
      rw [Nat.add_assoc]
    · intro s d' F j
      obtain ⟨b, rfl, hb⟩ := j
      rw [show b = GB h (h 169) k u by rw [← hb]; rfl]
      exact K d' (fr_trans FF (fr_mono F (by decide)))
    · unfold GB
      rw [el, Nat.zero_add]
