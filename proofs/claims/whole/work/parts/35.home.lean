-- PURE ROWS: a house as numbers; the class's readings of it
theorem rd1_in {d : DD} {a i : Nat} (h : i < ln a) : rd1 d a (nI i) = d.1 a i := by
  have h2 := ln_small a
  unfold rd1
  rw [if_pos ((ix_nI (by omega)).mpr h), nI_clamp (by omega)]
theorem rd2_in {d : DD} {a i : Nat} (h : i < ln a) : rd2 d a (nI i) = d.2 a i := by
  have h2 := ln_small a
  unfold rd2
  rw [if_pos ((ix_nI (by omega)).mpr h), nI_clamp (by omega)]
theorem wr1_in {d : DD} {a i : Nat} {x : Int32} (h : i < ln a) : wr1 d a (nI i) x = u1 d a i x := by
  have h2 := ln_small a
  unfold wr1
  rw [if_pos ((ix_nI (by omega)).mpr h), nI_clamp (by omega)]
theorem wr2_in {d : DD} {a i : Nat} {x : Int64} (h : i < ln a) : wr2 d a (nI i) x = u2 d a i x := by
  have h2 := ln_small a
  unfold wr2
  rw [if_pos ((ix_nI (by omega)).mpr h), nI_clamp (by omega)]
def VH (h : Nat → Nat) : Prop := h 0 ≤ 3 ∧ h 1 ≤ 4 ∧ (∀ k, k < h 0 → 1 ≤ h (2 + k) ∧ h (2 + k) ≤ h (5 + k) ∧ h (5 + k) ≤ 8 ∧ h (8 + k) ≤ tn (h (2 + k)) (h (5 + k))) ∧ (∀ a, a < h 1 → 1 ≤ h (11 + a) ∧ h (11 + a) < 2 ^ (2 + 2 * h 0)) ∧ (∀ a, a < h 1 → h (15 + a) < 2 ^ 30) ∧ (∀ u, u < 30 → h (19 + u) ≤ h 1) ∧ (∀ j, j < 120 → h (49 + j) ≤ 100) ∧ h 169 ≤ 40 ∧ ∀ i, i < h 169 → h (170 + 3 * i) < h 1 ∧ h (170 + 3 * i + 1) < 30 ∧ h (170 + 3 * i + 2) < 2 ^ h 0
def HB (b : Nat) : Prop := ln (rf b 2) = 3 ∧ ln (rf b 3) = 3 ∧ ln (rf b 4) = 3 ∧ ln (rf b 5) = 3 ∧ ln (rf b 6) = 4 ∧ ln (rf b 7) = 4 ∧ ln (rf b 8) = 4 ∧ ln (rf b 9) = 120 ∧ ln (rf b 10) = 30 ∧ ln (rf (rf b 11) 1) = 40 ∧ ln (rf (rf b 11) 2) = 40 ∧ ln (rf (rf b 11) 3) = 40
theorem hb_2 : HB 2 := by unfold HB; decide +kernel
theorem hb_16 : HB 16 := by unfold HB; decide +kernel
theorem hb_30 : HB 30 := by unfold HB; decide +kernel
theorem hb_50 : HB 50 := by unfold HB; decide +kernel
def HC (b : Nat) (d : DD) (h : Nat → Nat) (nm : Nat → Int64) : Prop := d.1 b 0 = nI (h 0) ∧ d.1 b 1 = nI (h 1) ∧ (∀ k, k < h 0 → d.2 (rf b 2) k = nm k) ∧ (∀ k, k < h 0 → d.1 (rf b 3) k = nI (h (2 + k))) ∧ (∀ k, k < h 0 → d.1 (rf b 4) k = nI (h (5 + k))) ∧ (∀ k, k < h 0 → d.1 (rf b 5) k = pI (h (8 + k))) ∧ (∀ a, a < h 1 → d.2 (rf b 6) a = nm (3 + a)) ∧ (∀ a, a < h 1 → d.1 (rf b 7) a = nI (h (11 + a))) ∧ (∀ a, a < h 1 → d.1 (rf b 8) a = nI (h (15 + a))) ∧ (∀ j, j < 120 → d.1 (rf b 9) j = nI (h (49 + j) - 1)) ∧ (∀ u, u < 30 → d.1 (rf b 10) u = pI (h (19 + u))) ∧ d.1 (rf b 11) 0 = nI (h 169) ∧ ∀ i, i < h 169 → d.1 (rf (rf b 11) 1) i = nI (h (170 + 3 * i)) ∧ d.1 (rf (rf b 11) 2) i = nI (h (170 + 3 * i + 1)) ∧ d.1 (rf (rf b 11) 3) i = nI (h (170 + 3 * i + 2))
theorem hc_k {b d h nm} (H : HC b d h nm) : d.1 b 0 = nI (h 0) := H.1
theorem hc_p {b d h nm} (H : HC b d h nm) : d.1 b 1 = nI (h 1) := H.2.1
theorem hc_kn {b d h nm} (B : HB b) (V : VH h) (H : HC b d h nm) {k : Nat} (hk : k < h 0) : rd2 d (rf b 2) (nI k) = nm k := by
  rw [rd2_in (by rw [B.1]; have := V.1; omega)]; exact H.2.2.1 k hk
theorem hc_lo {b d h nm} (B : HB b) (V : VH h) (H : HC b d h nm) {k : Nat} (hk : k < h 0) : rd1 d (rf b 3) (nI k) = nI (h (2 + k)) := by
  rw [rd1_in (by rw [B.2.1]; have := V.1; omega)]; exact H.2.2.2.1 k hk
theorem hc_hi {b d h nm} (B : HB b) (V : VH h) (H : HC b d h nm) {k : Nat} (hk : k < h 0) : rd1 d (rf b 4) (nI k) = nI (h (5 + k)) := by
  rw [rd1_in (by rw [B.2.2.1]; have := V.1; omega)]; exact H.2.2.2.2.1 k hk
theorem hc_tr {b d h nm} (B : HB b) (V : VH h) (H : HC b d h nm) {k : Nat} (hk : k < h 0) : rd1 d (rf b 5) (nI k) = pI (h (8 + k)) := by
  rw [rd1_in (by rw [B.2.2.2.1]; have := V.1; omega)]; exact H.2.2.2.2.2.1 k hk
theorem hc_pn {b d h nm} (B : HB b) (V : VH h) (H : HC b d h nm) {a : Nat} (hk : a < h 1) : rd2 d (rf b 6) (nI a) = nm (3 + a) := by
  rw [rd2_in (by rw [B.2.2.2.2.1]; have := V.2.1; omega)]; exact H.2.2.2.2.2.2.1 a hk
theorem hc_wa {b d h nm} (B : HB b) (V : VH h) (H : HC b d h nm) {a : Nat} (hk : a < h 1) : rd1 d (rf b 7) (nI a) = nI (h (11 + a)) := by
  rw [rd1_in (by rw [B.2.2.2.2.2.1]; have := V.2.1; omega)]; exact H.2.2.2.2.2.2.2.1 a hk
theorem hc_lk {b d h nm} (B : HB b) (V : VH h) (H : HC b d h nm) {a : Nat} (hk : a < h 1) : rd1 d (rf b 8) (nI a) = nI (h (15 + a)) := by
  rw [rd1_in (by rw [B.2.2.2.2.2.2.1]; have := V.2.1; omega)]; exact H.2.2.2.2.2.2.2.2.1 a hk
theorem hc_wt {b d h nm} (B : HB b) (H : HC b d h nm) {j : Nat} (hk : j < 120) : rd1 d (rf b 9) (nI j) = nI (h (49 + j) - 1) := by
  rw [rd1_in (by rw [B.2.2.2.2.2.2.2.1]; exact hk)]; exact H.2.2.2.2.2.2.2.2.2.1 j hk
theorem hc_tu {b d h nm} (B : HB b) (H : HC b d h nm) {u : Nat} (hk : u < 30) : rd1 d (rf b 10) (nI u) = pI (h (19 + u)) := by
  rw [rd1_in (by rw [B.2.2.2.2.2.2.2.2.1]; exact hk)]; exact H.2.2.2.2.2.2.2.2.2.2.1 u hk
theorem hc_sz {b d h nm} (H : HC b d h nm) : d.1 (rf b 11) 0 = nI (h 169) := H.2.2.2.2.2.2.2.2.2.2.2.1
theorem hc_t1 {b d h nm} (B : HB b) (V : VH h) (H : HC b d h nm) {i : Nat} (hk : i < h 169) : rd1 d (rf (rf b 11) 1) (nI i) = nI (h (170 + 3 * i)) := by
  rw [rd1_in (by rw [B.2.2.2.2.2.2.2.2.2.1]; have := V.2.2.2.2.2.2.2.1; omega)]; exact (H.2.2.2.2.2.2.2.2.2.2.2.2 i hk).1
theorem hc_t2 {b d h nm} (B : HB b) (V : VH h) (H : HC b d h nm) {i : Nat} (hk : i < h 169) : rd1 d (rf (rf b 11) 2) (nI i) = nI (h (170 + 3 * i + 1)) := by
  rw [rd1_in (by rw [B.2.2.2.2.2.2.2.2.2.2.1]; have := V.2.2.2.2.2.2.2.1; omega)]; exact (H.2.2.2.2.2.2.2.2.2.2.2.2 i hk).2.1
theorem hc_t3 {b d h nm} (B : HB b) (V : VH h) (H : HC b d h nm) {i : Nat} (hk : i < h 169) : rd1 d (rf (rf b 11) 3) (nI i) = nI (h (170 + 3 * i + 2)) := by
  rw [rd1_in (by rw [B.2.2.2.2.2.2.2.2.2.2.2]; have := V.2.2.2.2.2.2.2.1; omega)]; exact (H.2.2.2.2.2.2.2.2.2.2.2.2 i hk).2.2
theorem fo_step {lo p q : Nat} : fo lo (min p (q + 1)) = fo lo (min p q) + (if lo ≤ q ∧ q < p then q else 0) := by
  rcases Nat.lt_or_ge q p with z | z
  · rw [Nat.min_eq_right (by omega), Nat.min_eq_right (by omega)]
    show fo lo q + (if lo ≤ q then q else 0) = _
    by_cases hl : lo ≤ q
    · rw [if_pos hl, if_pos ⟨hl, z⟩]
    · rw [if_neg hl, if_neg (fun x => hl x.1)]
  · rw [Nat.min_eq_left (by omega), Nat.min_eq_left z, if_neg (by omega), Nat.add_zero]
theorem firstOf_l (d : DD) {lo p : Nat} (hlo : lo < 1000) (hp : p < 1000) : ∀ (m q n : Nat), q + m = 9 → m < n → 1 ≤ q → f_X1_firstOf_4 n (nI lo) (nI p) (nI (fo lo (min p q))) (nI q) d = some (nI (fo lo (min p 9)), d) := by
  intro m
  induction m with
  | zero =>
    intro q n hq hn h1
    cases n with
    | zero => omega
    | succ n =>
      show f_X1_firstOf_4B (f_X1_firstOf_4 n) _ _ _ _ _ = _
      unfold f_X1_firstOf_4B
      have e : q = 9 := by omega
      subst e
      simp (disch := omega) only [bd_e, ob_e, ow_ret_e, u1_at, u1_2, u2_at, u2_1, ↓reduceIte, false_and, true_and, and_true, and_false, not_true_eq_false, not_false_eq_true, decide_true, decide_false, Bool.true_and, Bool.false_and, Bool.and_true, Bool.and_false, Bool.or_false, Bool.false_or, Bool.true_or, Bool.or_true, ↓mI_lit, ↓mL_lit, nI_lit, lN_lit, nI_add, pk_mul, lN_add, lN_mul, nI_ltI, nI_eq, nI_clamp, ix_nI, ix_mI, nI_mI, mI_nI, lN_mL, mL_lN, mI_lt, lt_mI, pI_mI, pI_nI, pI_eq, pI_lt0, pI_e, Nat.not_lt_zero, Nat.zero_add, Nat.add_zero, Nat.reduceLT]
  | succ m ih =>
    intro q n hq hn h1
    cases n with
    | zero => omega
    | succ n =>
      show f_X1_firstOf_4B (f_X1_firstOf_4 n) _ _ _ _ _ = _
      unfold f_X1_firstOf_4B
      have e : ¬ 8 < q := by omega
      have s := ih (q + 1) n (by omega) (by omega) (by omega)
      rw [fo_step] at s
      simp (disch := omega) only [bd_e, ob_e, ow_ret_e, u1_at, u1_2, u2_at, u2_1, ↓reduceIte, false_and, true_and, and_true, and_false, not_true_eq_false, not_false_eq_true, decide_true, decide_false, Bool.true_and, Bool.false_and, Bool.and_true, Bool.and_false, Bool.or_false, Bool.false_or, Bool.true_or, Bool.or_true, ↓mI_lit, ↓mL_lit, nI_lit, lN_lit, nI_add, pk_mul, lN_add, lN_mul, nI_ltI, nI_eq, nI_clamp, ix_nI, ix_mI, nI_mI, mI_nI, lN_mL, mL_lN, mI_lt, lt_mI, pI_mI, pI_nI, pI_eq, pI_lt0, pI_e, Nat.not_lt_zero, Nat.zero_add, Nat.add_zero, e]
      by_cases c1 : q < lo
      · simp only [c1, ↓reduceIte]
        rw [if_neg (by omega)] at s
        exact s
      · by_cases c2 : q < p
        · simp only [c1, c2, ↓reduceIte]
          rw [if_pos (by omega)] at s
          exact s
        · simp only [c1, c2, ↓reduceIte]
          rw [if_neg (by omega)] at s
          exact s
theorem e_X1_firstOf (d : DD) {lo p : Nat} (hlo : lo < 1000) (hp : p ≤ 9) : f_X1_firstOf (nI lo) (nI p) d = some (nI (fo lo p), d) := by
  have s := firstOf_l d hlo (p := p) (by omega) 8 1 FU (by omega) (by unfold FU; omega) (by omega)
  rw [Nat.min_eq_left hp] at s
  have z : fo lo (min p 1) = 0 := by
    rcases Nat.eq_zero_or_pos p with e | e
    · subst e; rfl
    · rw [Nat.min_eq_right (by omega)]; unfold fo fo; split <;> rfl
  rw [z] at s
  exact s
theorem e_X1_hasKind {b d h nm} (V : VH h) (H : HC b d h nm) {x : Int32} : f_X1_hasKind b x d = some ((if ixb x (h 0) then 1 else 0), d) := by
  have := V.1
  unfold f_X1_hasKind
  rw [hc_k H]
  by_cases h0 : x < 0
  · rw [if_pos h0, if_neg (fun z => z.1 h0)]
  · obtain ⟨j, hj, rfl⟩ := nI_of h0
    rw [if_neg h0]
    simp (disch := omega) only [↓mI_lit, ↓mL_lit, nI_lit, lN_lit, nI_add, pk_mul, lN_add, lN_mul, nI_ltI, nI_eq, nI_clamp, ix_nI, ix_mI, nI_mI, mI_nI, lN_mL, mL_lN, mI_lt, lt_mI, pI_mI, pI_nI, pI_eq, pI_lt0, pI_e, Nat.not_lt_zero, Nat.zero_add, Nat.add_zero]
    by_cases c : j < h 0 <;> simp only [c, ↓reduceIte]
theorem e_X1_hasPerson {b d h nm} (V : VH h) (H : HC b d h nm) {x : Int32} : f_X1_hasPerson b x d = some ((if ixb x (h 1) then 1 else 0), d) := by
  have := V.2.1
  unfold f_X1_hasPerson
  rw [hc_p H]
  by_cases h0 : x < 0
  · rw [if_pos h0, if_neg (fun z => z.1 h0)]
  · obtain ⟨j, hj, rfl⟩ := nI_of h0
    rw [if_neg h0]
    simp (disch := omega) only [↓mI_lit, ↓mL_lit, nI_lit, lN_lit, nI_add, pk_mul, lN_add, lN_mul, nI_ltI, nI_eq, nI_clamp, ix_nI, ix_mI, nI_mI, mI_nI, lN_mL, mL_lN, mI_lt, lt_mI, pI_mI, pI_nI, pI_eq, pI_lt0, pI_e, Nat.not_lt_zero, Nat.zero_add, Nat.add_zero]
    by_cases c : j < h 1 <;> simp only [c, ↓reduceIte]
theorem e_X1_hasWay {b d h nm} (V : VH h) (H : HC b d h nm) {x : Int32} : f_X1_hasWay b x d = some ((if ixb x (2 + 2 * h 0) then 1 else 0), d) := by
  have := V.1
  unfold f_X1_hasWay
  rw [hc_k H]
  by_cases h0 : x < 0
  · rw [if_pos h0, if_neg (fun z => z.1 h0)]
  · obtain ⟨j, hj, rfl⟩ := nI_of h0
    rw [if_neg h0]
    simp (disch := omega) only [↓mI_lit, ↓mL_lit, nI_lit, lN_lit, nI_add, pk_mul, lN_add, lN_mul, nI_ltI, nI_eq, nI_clamp, ix_nI, ix_mI, nI_mI, mI_nI, lN_mL, mL_lN, mI_lt, lt_mI, pI_mI, pI_nI, pI_eq, pI_lt0, pI_e, Nat.not_lt_zero, Nat.zero_add, Nat.add_zero]
    by_cases c : j < 2 + 2 * h 0 <;> simp only [c, ↓reduceIte]
theorem e_X1_hasSet {b d h nm} (V : VH h) (H : HC b d h nm) {x : Int32} : f_X1_hasSet b x d = some ((if ixb x (2 ^ h 0) then 1 else 0), d) := by
  have hv := V.1
  have hl : 2 ^ h 0 ≤ 2 ^ 3 := Nat.pow_le_pow_right (by decide) hv
  unfold f_X1_hasSet
  rw [hc_k H]
  by_cases h0 : x < 0
  · rw [if_pos h0, if_neg (fun z => z.1 h0)]
  · obtain ⟨j, hj, rfl⟩ := nI_of h0
    rw [if_neg h0]
    simp (disch := omega) only [↓mI_lit, ↓mL_lit, nI_lit, lN_lit, nI_add, pk_mul, lN_add, lN_mul, nI_ltI, nI_eq, nI_clamp, ix_nI, ix_mI, nI_mI, mI_nI, lN_mL, mL_lN, mI_lt, lt_mI, pI_mI, pI_nI, pI_eq, pI_lt0, pI_e, Nat.not_lt_zero, Nat.zero_add, Nat.add_zero, q_shl]
    by_cases c : j < 2 ^ h 0 <;> simp only [c, ↓reduceIte]
theorem e_X1_timetablesOf {b d h nm} (B : HB b) (V : VH h) (H : HC b d h nm) {k : Nat} (hk : k < h 0) : f_X1_timetablesOf b (nI k) d = some (nI (tn (h (2 + k)) (h (5 + k))), d) := by
  have hv := V.2.2.1 k hk
  unfold f_X1_timetablesOf
  simp only [e_X9_at, ob_e, hc_lo B V H hk, hc_hi B V H hk, nI_lit, nI_add]
  rw [e_X1_firstOf d (by omega) (by omega)]
  rfl
theorem e_X1_hasTimetable {b d h nm} (B : HB b) (V : VH h) (H : HC b d h nm) {k : Nat} (hk : k < h 0) {x : Int32} : f_X1_hasTimetable b (nI k) x d = some ((if ixb x (tn (h (2 + k)) (h (5 + k))) then 1 else 0), d) := by
  have hv := V.2.2.1 k hk
  have ht := tn_le (lo := h (2 + k)) hv.2.2.1
  unfold f_X1_hasTimetable
  by_cases h0 : x < 0
  · rw [if_pos h0, if_neg (fun z => z.1 h0)]
  · obtain ⟨j, hj, rfl⟩ := nI_of h0
    rw [if_neg h0, e_X1_timetablesOf B V H hk]
    simp (disch := omega) only [↓mI_lit, ↓mL_lit, nI_lit, lN_lit, nI_add, pk_mul, lN_add, lN_mul, nI_ltI, nI_eq, nI_clamp, ix_nI, ix_mI, nI_mI, mI_nI, lN_mL, mL_lN, mI_lt, lt_mI, pI_mI, pI_nI, pI_eq, pI_lt0, pI_e, Nat.not_lt_zero, Nat.zero_add, Nat.add_zero, ob_e]
    by_cases c : j < tn (h (2 + k)) (h (5 + k)) <;> simp only [c, ↓reduceIte]
theorem ix_of0 {x : Int32} {n : Nat} (h : ixb x n) (hn : n < 2 ^ 31) : ∃ j : Nat, j < n ∧ x = nI j := by
  obtain ⟨j, hj, rfl⟩ := nI_of h.1
  exact ⟨j, (ix_nI hj).mp h, rfl⟩
-- the timetables that pass in an hour
def pb (lo hi t hour : Nat) : Bool := decide (t < tn lo hi) && pa lo t hour
theorem fo_mono (lo : Nat) : ∀ {p q : Nat}, p ≤ q → fo lo p ≤ fo lo q := by
  intro p q h
  induction q with
  | zero => rw [Nat.le_zero.mp h]; exact Nat.le_refl _
  | succ q ih =>
    rcases Nat.lt_or_ge q p with z | z
    · rw [show p = q + 1 by omega]; exact Nat.le_refl _
    · have := ih z
      show fo lo p ≤ fo lo q + (if lo ≤ q then q else 0)
      omega
def pq (lo hi q t hour : Nat) : Bool := (List.range q).any (fun p => decide (lo ≤ p) && decide (p ≤ hi) && decide (t = fo lo p + hour % p))
theorem pq_s (lo hi q t hour : Nat) : pq lo hi (q + 1) t hour = (pq lo hi q t hour || (decide (lo ≤ q) && decide (q ≤ hi) && decide (t = fo lo q + hour % q))) := by
  unfold pq
  rw [List.range_succ, List.any_append]
  simp
theorem pb_pq {lo hi t hour : Nat} (h1 : 1 ≤ lo) (h8 : hi ≤ 8) : pb lo hi t hour = pq lo hi 9 t hour := by
  have key : ∀ p, (decide (t < tn lo hi) && (decide (lo ≤ p) && decide (t = fo lo p + hour % p))) = (decide (lo ≤ p) && decide (p ≤ hi) && decide (t = fo lo p + hour % p)) := by
    intro p
    by_cases c1 : lo ≤ p
    · by_cases c2 : t = fo lo p + hour % p
      · have hm : hour % p < p := Nat.mod_lt _ (by omega)
        by_cases c3 : p ≤ hi
        · have h3 := fo_mono lo (p := p + 1) (q := hi + 1) (by omega)
          have h4 : fo lo (p + 1) = fo lo p + (if lo ≤ p then p else 0) := rfl
          rw [if_pos c1] at h4
          have : t < tn lo hi := by unfold tn; omega
          rw [decide_eq_true this, decide_eq_true c1, decide_eq_true c2, decide_eq_true c3]
          rfl
        · have h3 := fo_mono lo (p := hi + 1) (q := p) (by omega)
          have : ¬ t < tn lo hi := by unfold tn; omega
          rw [decide_eq_false this, decide_eq_false c3, Bool.false_and, Bool.and_false, Bool.false_and]
      · rw [decide_eq_false c2, Bool.and_false, Bool.and_false, Bool.and_false]
    · rw [decide_eq_false c1, Bool.false_and, Bool.and_false, Bool.false_and, Bool.false_and]
  unfold pb pq pa
  have ind : ∀ l : List Nat, (decide (t < tn lo hi) && l.any (fun p => decide (lo ≤ p) && decide (t = fo lo p + hour % p))) = l.any (fun p => decide (lo ≤ p) && decide (p ≤ hi) && decide (t = fo lo p + hour % p)) := by
    intro l
    induction l with
    | nil => simp
    | cons a l ih =>
      rw [List.any_cons, List.any_cons, Bool.and_or_distrib_left, ih, key a]
  exact ind _
theorem q_rem {a b : Nat} (ha : a < 2 ^ 31) (h0 : 0 < b) (hb : b < 2 ^ 31) : nI a - nI (a / b * b) = nI (a % b) := by
  have := pk_rem ha h0 hb
  rw [pk_div ha h0 hb, pk_mul] at this
  exact this
theorem q_div {a b : Nat} (ha : a < 2 ^ 31) (h0 : 0 < b) (hb : b < 2 ^ 31) : nI a / nI b = nI (a / b) := pk_div ha h0 hb
theorem passing_l (b : Nat) (d : DD) {lo hi hour : Nat} (h1 : 1 ≤ lo) (hlo : lo ≤ hi) (hhi : hi ≤ 8) (hh : hour < 30) : ∀ (m q n : Nat), q + m = 9 → m < n → 1 ≤ q → f_X1_passing_34 b n (nI hour) (mkL (fun t => pq lo hi q t hour)) (nI lo) (nI hi) (nI (fo lo (min (hi + 1) q))) (nI q) d = some (mkL (fun t => pq lo hi 9 t hour), d) := by
  intro m
  induction m with
  | zero =>
    intro q n hq hn h1
    cases n with
    | zero => omega
    | succ n =>
      show f_X1_passing_34B b (f_X1_passing_34 b n) _ _ _ _ _ _ _ = _
      unfold f_X1_passing_34B
      have e : q = 9 := by omega
      subst e
      simp (disch := omega) only [bd_e, ob_e, ow_ret_e, u1_at, u1_2, u2_at, u2_1, ↓reduceIte, false_and, true_and, and_true, and_false, not_true_eq_false, not_false_eq_true, decide_true, decide_false, Bool.true_and, Bool.false_and, Bool.and_true, Bool.and_false, Bool.or_false, Bool.false_or, Bool.true_or, Bool.or_true, ↓mI_lit, ↓mL_lit, nI_lit, lN_lit, nI_add, pk_mul, lN_add, lN_mul, nI_ltI, nI_eq, nI_clamp, ix_nI, ix_mI, nI_mI, mI_nI, lN_mL, mL_lN, mI_lt, lt_mI, pI_mI, pI_nI, pI_eq, pI_lt0, pI_e, Nat.not_lt_zero, Nat.zero_add, Nat.add_zero, Nat.reduceLT]
  | succ m ih =>
    intro q n hq hn h1
    cases n with
    | zero => omega
    | succ n =>
      show f_X1_passing_34B b (f_X1_passing_34 b n) _ _ _ _ _ _ _ = _
      unfold f_X1_passing_34B
      have e : ¬ 8 < q := by omega
      have e0 : ¬ q = 0 := by omega
      have s := ih (q + 1) n (by omega) (by omega) (by omega)
      rw [fo_step] at s
      by_cases c1 : q < lo
      · simp (disch := omega) only [bd_e, ob_e, ow_ret_e, u1_at, u1_2, u2_at, u2_1, ↓reduceIte, false_and, true_and, and_true, and_false, not_true_eq_false, not_false_eq_true, decide_true, decide_false, Bool.true_and, Bool.false_and, Bool.and_true, Bool.and_false, Bool.or_false, Bool.false_or, Bool.true_or, Bool.or_true, ↓mI_lit, ↓mL_lit, nI_lit, lN_lit, nI_add, pk_mul, lN_add, lN_mul, nI_ltI, nI_eq, nI_clamp, ix_nI, ix_mI, nI_mI, mI_nI, lN_mL, mL_lN, mI_lt, lt_mI, pI_mI, pI_nI, pI_eq, pI_lt0, pI_e, Nat.not_lt_zero, Nat.zero_add, Nat.add_zero, e, c1]
        rw [if_neg (by omega)] at s
        rw [← s]
        congr 1
        apply mk_congr
        intro i _
        rw [pq_s, decide_eq_false (by omega), Bool.false_and, Bool.false_and, Bool.or_false]
      · by_cases c2 : hi < q
        · simp (disch := omega) only [bd_e, ob_e, ow_ret_e, u1_at, u1_2, u2_at, u2_1, ↓reduceIte, false_and, true_and, and_true, and_false, not_true_eq_false, not_false_eq_true, decide_true, decide_false, Bool.true_and, Bool.false_and, Bool.and_true, Bool.and_false, Bool.or_false, Bool.false_or, Bool.true_or, Bool.or_true, ↓mI_lit, ↓mL_lit, nI_lit, lN_lit, nI_add, pk_mul, lN_add, lN_mul, nI_ltI, nI_eq, nI_clamp, ix_nI, ix_mI, nI_mI, mI_nI, lN_mL, mL_lN, mI_lt, lt_mI, pI_mI, pI_nI, pI_eq, pI_lt0, pI_e, Nat.not_lt_zero, Nat.zero_add, Nat.add_zero, e, c1, c2]
          rw [if_neg (by omega)] at s
          rw [← s]
          congr 1
          apply mk_congr
          intro i _
          rw [pq_s, decide_eq_false (p := q ≤ hi) (by omega), Bool.and_false, Bool.false_and, Bool.or_false]
        · have hf := fo_le lo q (by omega)
          have hm : hour % q < q := Nat.mod_lt _ (by omega)
          simp (disch := omega) only [bd_e, ob_e, ow_ret_e, u1_at, u1_2, u2_at, u2_1, ↓reduceIte, false_and, true_and, and_true, and_false, not_true_eq_false, not_false_eq_true, decide_true, decide_false, Bool.true_and, Bool.false_and, Bool.and_true, Bool.and_false, Bool.or_false, Bool.false_or, Bool.true_or, Bool.or_true, ↓mI_lit, ↓mL_lit, nI_lit, lN_lit, nI_add, pk_mul, lN_add, lN_mul, nI_ltI, nI_eq, nI_clamp, ix_nI, ix_mI, nI_mI, mI_nI, lN_mL, mL_lN, mI_lt, lt_mI, pI_mI, pI_nI, pI_eq, pI_lt0, pI_e, Nat.not_lt_zero, Nat.zero_add, Nat.add_zero, e, e0, c1, c2, q_div, q_rem]
          rw [if_pos (by omega)] at s
          rw [Nat.min_eq_right (by omega)] at s ⊢
          rw [mk_bit (by omega), mk_or, ← s]
          congr 1
          apply mk_congr
          intro i _
          rw [pq_s, decide_eq_true (p := lo ≤ q) (by omega), decide_eq_true (p := q ≤ hi) (by omega), Bool.true_and, Bool.true_and]
theorem e_X1_passing {b d h nm} (B : HB b) (V : VH h) (H : HC b d h nm) {k hour : Nat} (hk : k < h 0) (hh : hour < 30) : f_X1_passing b (nI k) (nI hour) d = some (mkL (fun t => pb (h (2 + k)) (h (5 + k)) t hour), d) := by
  have hv := V.2.2.1 k hk
  unfold f_X1_passing
  rw [if_neg (nI_pos (by omega))]
  simp only [e_X9_at, ob_e, hc_lo B V H hk, hc_hi B V H hk]
  have s := passing_l b d hv.1 hv.2.1 hv.2.2.1 hh 8 1 FU (by omega) (by unfold FU; omega) (by omega)
  have z : fo (h (2 + k)) (min (h (5 + k) + 1) 1) = 0 := by
    rw [Nat.min_eq_right (by omega)]; unfold fo fo; split <;> rfl
  rw [z] at s
  have z2 : mkL (fun t => pq (h (2 + k)) (h (5 + k)) 1 t hour) = 0 := by
    rw [show (0 : Int64) = lN 0 from rfl, mk_eq0]
    intro i _
    unfold pq
    have : ¬ h (2 + k) ≤ 0 := by omega
    simp [List.range_succ, this]
  rw [z2] at s
  rw [mk_congr (Q := fun t => pq (h (2 + k)) (h (5 + k)) 9 t hour) (fun i _ => pb_pq hv.1 hv.2.2.1)]
  exact s
theorem e_X1_passing_neg {b : Nat} {d : DD} {k : Int32} {x : Int32} (hx : x < 0) : f_X1_passing b k x d = some (mkL (fun _ => false), d) := by
  unfold f_X1_passing
  rw [if_pos hx]
  show some (lN 0, d) = _
  rw [mk_0]
