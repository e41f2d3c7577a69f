-- PURE ROWS: tell
def hT (h : Nat → Nat) (n a u s : Nat) : Nat → Nat := fun j => if j = 169 then n + 1 else if j = 170 + 3 * n then a else if j = 170 + 3 * n + 1 then u else if j = 170 + 3 * n + 2 then s else h j
def dT (d : DD) (n a u s : Nat) : DD := u1 (u1 (u1 (u1 d 13 n (nI a)) 14 n (nI u)) 15 n (nI s)) 12 0 (nI (n + 1))
def mT (d : DD) (n a u s : Nat) : DD := u1 (u1 (u1 (u1 d 88 (170 + 3 * n) (nI a)) 88 (170 + 3 * n + 1) (nI u)) 88 (170 + 3 * n + 2) (nI s)) 88 169 (nI (n + 1))
theorem e_X5_add {d : DD} {n a u s : Nat} (hn : d.1 12 0 = nI n) (h40 : n < 40) : f_X5_add 12 (nI a) (nI u) (nI s) d = some (1, dT d n a u s) := by
  unfold f_X5_add
  rw [rf_12_1, rf_12_2, rf_12_3, hn, if_pos (by rw [nI_lit, nI_ltI (by omega) (by omega)]; omega), e_X9_put, ob_e, wr1_in (by rw [ln_13]; omega)]
  dsimp only
  rw [show (u1 d 13 n (nI a)).1 12 0 = nI n by rw [u1_at, if_neg (by omega), hn], e_X9_put, ob_e, wr1_in (by rw [ln_14]; omega)]
  dsimp only
  rw [show (u1 (u1 d 13 n (nI a)) 14 n (nI u)).1 12 0 = nI n by rw [u1_at, if_neg (by omega), u1_at, if_neg (by omega), hn], e_X9_put, ob_e, wr1_in (by rw [ln_15]; omega), bd_e]
  dsimp only
  rw [show (u1 (u1 (u1 d 13 n (nI a)) 14 n (nI u)) 15 n (nI s)).1 12 0 = nI n by rw [u1_at, if_neg (by omega), u1_at, if_neg (by omega), u1_at, if_neg (by omega), hn], nI_1]
  rfl
theorem dT_other {d : DD} {n a u s b : Nat} (h : b ∉ [12, 13, 14, 15]) : (dT d n a u s).1 b = d.1 b ∧ (dT d n a u s).2 b = d.2 b := by
  simp only [List.mem_cons, List.not_mem_nil, or_false] at h
  refine ⟨?_, rfl⟩
  funext j
  unfold dT
  rw [u1_at, if_neg (by omega), u1_at, if_neg (by omega), u1_at, if_neg (by omega), u1_at, if_neg (by omega)]
theorem mT_other {d : DD} {n a u s b : Nat} (h : b ≠ 88) : (mT d n a u s).1 b = d.1 b ∧ (mT d n a u s).2 b = d.2 b := by
  refine ⟨?_, rfl⟩
  funext j
  unfold mT
  rw [u1_at, if_neg (by omega), u1_at, if_neg (by omega), u1_at, if_neg (by omega), u1_at, if_neg (by omega)]
theorem vr_tell {d d' : DD} {h : Nat → Nat} (V : VH h) (R : RH d h) {n a u s : Nat} (hn : n ≤ h 169) (h40 : n < 40) (ha : a < h 1) (hu : u < 30) (hs : s < 2 ^ h 0) (k : ∀ b, b ∈ [2, 3, 4, 5, 6, 7, 8, 9, 10, 11, 92, 94, 95] → d'.1 b = d.1 b ∧ d'.2 b = d.2 b) (k12 : ∀ j, d'.1 12 j = (dT d n a u s).1 12 j) (k13 : d'.1 13 = (dT d n a u s).1 13) (k14 : d'.1 14 = (dT d n a u s).1 14) (k15 : d'.1 15 = (dT d n a u s).1 15) (k88 : d'.1 88 = (mT d n a u s).1 88) : VH (hT h n a u s) ∧ RH d' (hT h n a u s) := by
  have H := R.1
  have M := R.2
  have t0 : hT h n a u s 169 = n + 1 := if_pos rfl
  have told : ∀ i, i < n + 1 → hT h n a u s (170 + 3 * i) = (if i = n then a else h (170 + 3 * i)) ∧ hT h n a u s (170 + 3 * i + 1) = (if i = n then u else h (170 + 3 * i + 1)) ∧ hT h n a u s (170 + 3 * i + 2) = (if i = n then s else h (170 + 3 * i + 2)) := by
    intro i hi
    unfold hT
    by_cases c : i = n
    · subst c
      refine ⟨?_, ?_, ?_⟩ <;> simp (disch := omega) only [eq_T, eq_F, ↓reduceIte]
    · refine ⟨?_, ?_, ?_⟩ <;> simp (disch := omega) only [eq_T, eq_F, ↓reduceIte]
  refine rh_told V R (fun j hj => ?_) (by rw [t0]; omega) (fun i hi => ?_) k (fun j => ?_) ?_ (fun i hi => ?_)
  · unfold hT
    rw [if_neg (by omega), if_neg (by omega), if_neg (by omega), if_neg (by omega)]
  · rw [t0] at hi
    obtain ⟨q1, q2, q3⟩ := told i hi
    rw [q1, q2, q3]
    by_cases c : i = n
    · rw [if_pos c, if_pos c, if_pos c]
      exact ⟨ha, hu, hs⟩
    · rw [if_neg c, if_neg c, if_neg c]
      exact V.2.2.2.2.2.2.2.2 i (by omega)
  · rw [k88]
    unfold mT hT
    rw [u1_at, u1_at, u1_at, u1_at]
    by_cases c0 : j = 169
    · rw [if_pos ⟨rfl, c0⟩, if_pos c0]
    · rw [if_neg (fun z => c0 z.2), if_neg c0]
      by_cases c1 : j = 170 + 3 * n + 2
      · rw [if_pos ⟨rfl, c1⟩, if_neg (by omega), if_neg (by omega), if_pos c1]
      · rw [if_neg (fun z => c1 z.2)]
        by_cases c2 : j = 170 + 3 * n + 1
        · rw [if_pos ⟨rfl, c2⟩, if_neg (by omega), if_pos c2]
        · rw [if_neg (fun z => c2 z.2)]
          by_cases c3 : j = 170 + 3 * n
          · rw [if_pos ⟨rfl, c3⟩, if_pos c3]
          · rw [if_neg (fun z => c3 z.2), if_neg c3, if_neg c2, if_neg c1]
            exact M.1 j
  · rw [t0, k12]
    unfold dT
    rw [u1_at, if_pos ⟨rfl, rfl⟩]
  · rw [t0] at hi
    obtain ⟨q1, q2, q3⟩ := told i hi
    rw [q1, q2, q3, k13, k14, k15]
    unfold dT
    by_cases c : i = n
    · subst c
      rw [if_pos rfl, if_pos rfl, if_pos rfl]
      refine ⟨?_, ?_, ?_⟩
      · rw [u1_at, if_neg (by omega), u1_at, if_neg (by omega), u1_at, if_neg (by omega), u1_at, if_pos ⟨rfl, rfl⟩]
      · rw [u1_at, if_neg (by omega), u1_at, if_neg (by omega), u1_at, if_pos ⟨rfl, rfl⟩]
      · rw [u1_at, if_neg (by omega), u1_at, if_pos ⟨rfl, rfl⟩]
    · have t := H.2.2.2.2.2.2.2.2.2.2.2.2 i (by omega)
      simp only [rf_2_2, rf_2_3, rf_2_4, rf_2_5, rf_2_6, rf_2_7, rf_2_8, rf_2_9, rf_2_10, rf_2_11, rf_12_1, rf_12_2, rf_12_3] at t
      rw [if_neg c, if_neg c, if_neg c]
      refine ⟨?_, ?_, ?_⟩
      · rw [u1_at, if_neg (by omega), u1_at, if_neg (by omega), u1_at, if_neg (by omega), u1_at, if_neg (by omega)]; exact t.1
      · rw [u1_at, if_neg (by omega), u1_at, if_neg (by omega), u1_at, if_neg (by omega), u1_at, if_neg (by omega)]; exact t.2.1
      · rw [u1_at, if_neg (by omega), u1_at, if_neg (by omega), u1_at, if_neg (by omega), u1_at, if_neg (by omega)]; exact t.2.2
theorem s_tell {d : DD} (R : RZ d) (x y z : Int32) : EQR (f_X9_tell x y z) (f_X10_tell x y z) d := by
  have RR := R
  obtain ⟨⟨h, V, H, M⟩, R2, R3, R4, R5, R6⟩ := R
  have v0 := V.1
  have v1 := V.2.1
  have v2 := V.2.2.2.2.2.2.2.1
  have p8 := p28 v0
  have sz := hc_sz H
  rw [rf_2_11] at sz
  have M0 := hm_fq M (fq_thr d 0)
  have r169 : (u1 d 86 0 0).1 88 (169 : Int32).toNatClampNeg = nI (h 169) := M0.1 169
  rcases ix_dec x (n := h 1) (by omega) with ⟨a, ha, rfl⟩ | c
  · have ca := ixt ha (by omega)
    rcases ix_dec y (n := 30) (by omega) with ⟨u, hu, rfl⟩ | c
    · have cu := ixt hu (by omega)
      rcases ix_dec z (n := 2 ^ h 0) (by omega) with ⟨s, hs, rfl⟩ | c
      · have cs' := ixt hs (by omega)
        by_cases c4 : h 169 = 40
        · refine ⟨mI, d, u1 d 86 0 0, ?_, ?_, rl_fq RR (fq_thr d 0)⟩
          · unfold f_X9_tell
            simp only [ob_e, bd_e, ↓reduceIte, one_ne, zro_eq, bI_t0, bI_f0, decide_true, decide_false, e_X1_hasPerson V H, eq_true ca, e_X9_isHour, eq_true cu, e_X1_hasSet V H, eq_true cs']
            unfold f_X5_add
            rw [sz, c4, if_neg (by decide), ob_e, if_pos rfl]
            rfl
          · unfold f_X10_tell
            simp only [ob_e, bd_e, ↓reduceIte, one_ne, zro_eq, bI_t0, bI_f0, decide_true, decide_false, e_X10_isPerson V M0, eq_true ca, e_X10_isHour, eq_true cu, e_X10_isSet V M0, eq_true cs', eq_true e169, r169]
            rw [c4, if_pos (show nI 40 = (40 : Int32) from rfl)]
            rfl
        · have n40 : h 169 < 40 := by omega
          have rc : (u1 (dT d (h 169) a u s) 86 0 0).1 88 (169 : Int32).toNatClampNeg = nI (h 169) := by
            show (u1 (dT d (h 169) a u s) 86 0 0).1 88 169 = nI (h 169)
            rw [u1_at, if_neg (by omega), (dT_other (by decide)).1, M.1]
          have Hd : HM (u1 (dT d (h 169) a u s) 86 0 0) h := by
            have q : ∀ b, b ∉ [12, 13, 14, 15] → b ≠ 86 → (u1 (dT d (h 169) a u s) 86 0 0).1 b = d.1 b := by
              intro b hb h86
              rw [← (dT_other (d := d) (n := h 169) (a := a) (u := u) (s := s) hb).1]
              funext j
              rw [u1_at, if_neg (by omega)]
            refine ⟨?_, ?_, ?_⟩
            · rw [q 88 (by decide) (by decide)]; exact M.1
            · rw [q 95 (by decide) (by decide)]; exact M.2.1
            · rw [q 94 (by decide) (by decide)]; exact M.2.2
          refine ⟨nI (h 169), dT d (h 169) a u s, mT (u1 (dT d (h 169) a u s) 86 0 0) (h 169) a u s, ?_, ?_, ?_⟩
          · unfold f_X9_tell
            simp only [ob_e, bd_e, ↓reduceIte, one_ne, zro_eq, bI_t0, bI_f0, decide_true, decide_false, e_X1_hasPerson V H, eq_true ca, e_X9_isHour, eq_true cu, e_X1_hasSet V H, eq_true cs', e_X5_add sz n40]
            have : (dT d (h 169) a u s).1 12 0 = nI (h 169 + 1) := by
              unfold dT
              rw [u1_at, if_pos ⟨rfl, rfl⟩]
            rw [this, show nI (h 169 + 1) - 1 = nI (h 169) from pI_s (h 169)]
          · have i1 : ixb ((170 : Int32) + 3 * nI (h 169)) (ln 88) := by
              rw [show (170 : Int32) = nI 170 from rfl, show (3 : Int32) = nI 3 from rfl, pk_mul, nI_add]
              exact (ix_nI (by omega)).mpr (by rw [ln_88]; omega)
            have i2 : ixb ((170 : Int32) + 3 * nI (h 169) + 1) (ln 88) := by
              rw [show (170 : Int32) = nI 170 from rfl, show (3 : Int32) = nI 3 from rfl, show (1 : Int32) = nI 1 from rfl, pk_mul, nI_add, nI_add]
              exact (ix_nI (by omega)).mpr (by rw [ln_88]; omega)
            have i3 : ixb ((170 : Int32) + 3 * nI (h 169) + 2) (ln 88) := by
              rw [show (170 : Int32) = nI 170 from rfl, show (3 : Int32) = nI 3 from rfl, show (2 : Int32) = nI 2 from rfl, pk_mul, nI_add, nI_add]
              exact (ix_nI (by omega)).mpr (by rw [ln_88]; omega)
            have n1 : ((170 : Int32) + 3 * nI (h 169)).toNatClampNeg = 170 + 3 * h 169 := by
              rw [show (170 : Int32) = nI 170 from rfl, show (3 : Int32) = nI 3 from rfl, pk_mul, nI_add, nI_clamp (by omega)]
            have n2 : ((170 : Int32) + 3 * nI (h 169) + 1).toNatClampNeg = 170 + 3 * h 169 + 1 := by
              rw [show (170 : Int32) = nI 170 from rfl, show (3 : Int32) = nI 3 from rfl, show (1 : Int32) = nI 1 from rfl, pk_mul, nI_add, nI_add, nI_clamp (by omega)]
            have n3 : ((170 : Int32) + 3 * nI (h 169) + 2).toNatClampNeg = 170 + 3 * h 169 + 2 := by
              rw [show (170 : Int32) = nI 170 from rfl, show (3 : Int32) = nI 3 from rfl, show (2 : Int32) = nI 2 from rfl, pk_mul, nI_add, nI_add, nI_clamp (by omega)]
            have n4 : (169 : Int32).toNatClampNeg = 169 := rfl
            have rc' := rc
            rw [n4] at rc'
            have ne4 : ¬ nI (h 169) = (40 : Int32) := fun q => c4 ((nI_eq (by omega) (by omega)).mp (show nI (h 169) = nI 40 from q))
            unfold f_X10_tell
            simp only [ob_e, bd_e, ↓reduceIte, one_ne, zro_eq, bI_t0, bI_f0, decide_true, decide_false, e_X10_isPerson V Hd, eq_true ca, e_X10_isHour, eq_true cu, e_X10_isSet V Hd, eq_true cs', eq_true e169, n4, rc', ne4, eq_true i1, eq_true i2, eq_true i3, n1, n2, n3]
            have q1 : (u1 (u1 (u1 (u1 (dT d (h 169) a u s) 86 0 0) 88 (170 + 3 * h 169) (nI a)) 88 (170 + 3 * h 169 + 1) (nI u)) 88 (170 + 3 * h 169 + 2) (nI s)).1 88 169 = nI (h 169) := by
              rw [u1_at, if_neg (by omega), u1_at, if_neg (by omega), u1_at, if_neg (by omega)]
              exact rc'
            rw [q1, u1_at, if_pos ⟨rfl, rfl⟩, nI_1, show nI (h 169 + 1) - 1 = nI (h 169) from pI_s (h 169)]
            rfl
          · have kk : ∀ b, b ∉ [12, 13, 14, 15] → b ≠ 86 → b ≠ 88 → (mT (u1 (dT d (h 169) a u s) 86 0 0) (h 169) a u s).1 b = d.1 b ∧ (mT (u1 (dT d (h 169) a u s) 86 0 0) (h 169) a u s).2 b = d.2 b := by
              intro b h1 h2 h3
              refine ⟨?_, rfl⟩
              rw [(mT_other h3).1, ← (dT_other (d := d) (n := h 169) (a := a) (u := u) (s := s) h1).1]
              funext j
              rw [u1_at, if_neg (by omega)]
            have kc : ∀ b, b ≠ 86 → b ≠ 88 → (mT (u1 (dT d (h 169) a u s) 86 0 0) (h 169) a u s).1 b = (dT d (h 169) a u s).1 b := by
              intro b h2 h3
              rw [(mT_other h3).1]
              funext j
              rw [u1_at, if_neg (by omega)]
            have vr : VH (hT h (h 169) a u s) ∧ RH (mT (u1 (dT d (h 169) a u s) 86 0 0) (h 169) a u s) (hT h (h 169) a u s) := by
              refine vr_tell V ⟨H, M⟩ (Nat.le_refl _) n40 ha hu hs (fun b hb => ?_) (fun j => ?_) (kc 13 (by decide) (by decide)) (kc 14 (by decide) (by decide)) (kc 15 (by decide) (by decide)) ?_
              · have : ∀ b, b ∈ [2, 3, 4, 5, 6, 7, 8, 9, 10, 11, 92, 94, 95] → b ∉ [12, 13, 14, 15] ∧ b ≠ 86 ∧ b ≠ 88 := by decide
                obtain ⟨z1, z2, z3⟩ := this b hb
                exact kk b z1 z2 z3
              · rw [kc 12 (by decide) (by decide)]
              · funext j
                unfold mT
                rw [u1_at, u1_at, u1_at, u1_at, u1_at, u1_at, u1_at, u1_at, u1_at, if_neg (show ¬ (88 = 86 ∧ j = 0) by omega), (dT_other (d := d) (by decide)).1]
            refine rz_told RR vr (fun b hb hn => ?_) (fun j hj => ?_)
            · simp only [List.mem_cons, List.not_mem_nil, or_false] at hn
              refine kk b ?_ (fun z => by rw [z] at hb; exact absurd hb (by decide)) (by omega)
              simp only [List.mem_cons, List.not_mem_nil, or_false]
              omega
            · rw [(mT_other (by decide)).1, u1_at, if_neg (by omega), (dT_other (by decide)).1]
      · refine eqr_q RR ⟨mI, d, u1 d 86 0 0, ?_, ?_, fq_thr d 0⟩
        · unfold f_X9_tell
          simp only [ob_e, bd_e, ↓reduceIte, one_ne, zro_eq, bI_t0, bI_f0, decide_true, decide_false, e_X1_hasPerson V H, eq_true ca, e_X9_isHour, eq_true cu, e_X1_hasSet V H, eq_false c]
          rfl
        · unfold f_X10_tell
          simp only [ob_e, bd_e, ↓reduceIte, one_ne, zro_eq, bI_t0, bI_f0, decide_true, decide_false, e_X10_isPerson V M0, eq_true ca, e_X10_isHour, eq_true cu, e_X10_isSet V M0, eq_false c]
          rfl
    · refine eqr_q RR ⟨mI, d, u1 d 86 0 0, ?_, ?_, fq_thr d 0⟩
      · unfold f_X9_tell
        simp only [ob_e, bd_e, ↓reduceIte, one_ne, zro_eq, bI_t0, bI_f0, decide_true, decide_false, e_X1_hasPerson V H, eq_true ca, e_X9_isHour, eq_false c]
        rfl
      · unfold f_X10_tell
        simp only [ob_e, bd_e, ↓reduceIte, one_ne, zro_eq, bI_t0, bI_f0, decide_true, decide_false, e_X10_isPerson V M0, eq_true ca, e_X10_isHour, eq_false c]
        rfl
  · refine eqr_q RR ⟨mI, d, u1 d 86 0 0, ?_, ?_, fq_thr d 0⟩
    · unfold f_X9_tell
      simp only [ob_e, bd_e, ↓reduceIte, one_ne, zro_eq, bI_t0, bI_f0, decide_true, decide_false, e_X1_hasPerson V H, eq_false c]
      rfl
    · unfold f_X10_tell
      simp only [ob_e, bd_e, ↓reduceIte, one_ne, zro_eq, bI_t0, bI_f0, decide_true, decide_false, e_X10_isPerson V M0, eq_false c]
      rfl
