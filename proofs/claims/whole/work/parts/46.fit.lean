-- PURE ROWS: the class's fitting
theorem fill1_l {p : Nat} {d0 : DD} {v : Int32} : ∀ (m j f : Nat) (d : DD), j + m = ln p → m < f → FR [p] d0 d → (∀ i, i < j → d.1 p i = v) → OW (f_J7_fill_53178_5 p f v (nI j) (nI (ln p)) d) (fun _ d' => FR [p] d0 d' ∧ ∀ i, i < ln p → d'.1 p i = v) := by
  have hs := ln_small p
  intro m
  induction m with
  | zero =>
    intro j f d hi hf F G
    cases f with
    | zero => omega
    | succ f =>
      show OW (f_J7_fill_53178_5B p (f_J7_fill_53178_5 p f) _ _ _ _) _
      unfold f_J7_fill_53178_5B
      rw [if_neg (by rw [nI_ltI (by omega) (by omega)]; omega)]
      exact ow_ret ⟨F, fun i hi' => G i (by omega)⟩
  | succ m ih =>
    intro j f d hi hf F G
    cases f with
    | zero => omega
    | succ f =>
      show OW (f_J7_fill_53178_5B p (f_J7_fill_53178_5 p f) _ _ _ _) _
      unfold f_J7_fill_53178_5B
      rw [if_pos (by rw [nI_ltI (by omega) (by omega)]; omega), if_pos ((ix_nI (by omega)).mpr (by omega)), bd_e, nI_clamp (by omega), nI_1]
      refine ih (j + 1) f _ (by omega) (by omega) (fr_u1 F List.mem_cons_self) (fun i hi' => ?_)
      rw [u1_at]
      by_cases e : i = j
      · rw [if_pos ⟨rfl, e⟩]
      · rw [if_neg (fun z => e z.2)]; exact G i (by omega)
theorem e_fill1 {p : Nat} (v : Int32) (d : DD) : OW (f_J7_fill_53178 p v d) (fun _ d' => FR [p] d d' ∧ ∀ i, i < ln p → d'.1 p i = v) := by
  have hs := ln_small p
  exact fill1_l (ln p) 0 FU d (by omega) (by unfold FU; omega) (fr_refl _ _) (fun i hi => by omega)
theorem fill2_l {p : Nat} {d0 : DD} {v : Int64} : ∀ (m j f : Nat) (d : DD), j + m = ln p → m < f → FR [p] d0 d → (∀ i, i < j → d.2 p i = v) → OW (f_J7_fill_d0a16_6 p f v (nI j) (nI (ln p)) d) (fun _ d' => FR [p] d0 d' ∧ ∀ i, i < ln p → d'.2 p i = v) := by
  have hs := ln_small p
  intro m
  induction m with
  | zero =>
    intro j f d hi hf F G
    cases f with
    | zero => omega
    | succ f =>
      show OW (f_J7_fill_d0a16_6B p (f_J7_fill_d0a16_6 p f) _ _ _ _) _
      unfold f_J7_fill_d0a16_6B
      rw [if_neg (by rw [nI_ltI (by omega) (by omega)]; omega)]
      exact ow_ret ⟨F, fun i hi' => G i (by omega)⟩
  | succ m ih =>
    intro j f d hi hf F G
    cases f with
    | zero => omega
    | succ f =>
      show OW (f_J7_fill_d0a16_6B p (f_J7_fill_d0a16_6 p f) _ _ _ _) _
      unfold f_J7_fill_d0a16_6B
      rw [if_pos (by rw [nI_ltI (by omega) (by omega)]; omega), if_pos ((ix_nI (by omega)).mpr (by omega)), bd_e, nI_clamp (by omega), nI_1]
      refine ih (j + 1) f _ (by omega) (by omega) (fr_u2 F List.mem_cons_self) (fun i hi' => ?_)
      rw [u2_at]
      by_cases e : i = j
      · rw [if_pos ⟨rfl, e⟩]
      · rw [if_neg (fun z => e z.2)]; exact G i (by omega)
theorem e_fill2 {p : Nat} (v : Int64) (d : DD) : OW (f_J7_fill_d0a16 p v d) (fun _ d' => FR [p] d d' ∧ ∀ i, i < ln p → d'.2 p i = v) := by
  have hs := ln_small p
  exact fill2_l (ln p) 0 FU d (by omega) (by unfold FU; omega) (fr_refl _ _) (fun i hi => by omega)
theorem hc_fr {S : List Nat} {d d' : DD} {h : Nat → Nat} {nm : Nat → Int64} (H : HC 2 d h nm) (F : FR S d d') (hS' : ∀ a, a ∈ S → 15 < a) : HC 2 d' h nm := by
  have hS : ∀ a, 2 ≤ a → a ≤ 15 → a ∉ S := fun a _ h2 hm => by have := hS' a hm; omega
  unfold HC at H ⊢
  simp only [rf_2_2, rf_2_3, rf_2_4, rf_2_5, rf_2_6, rf_2_7, rf_2_8, rf_2_9, rf_2_10, rf_2_11, rf_12_1, rf_12_2, rf_12_3] at H ⊢
  rw [(F 2 (hS 2 (by omega) (by omega))).1, (F 3 (hS 3 (by omega) (by omega))).2, (F 4 (hS 4 (by omega) (by omega))).1, (F 5 (hS 5 (by omega) (by omega))).1, (F 6 (hS 6 (by omega) (by omega))).1, (F 7 (hS 7 (by omega) (by omega))).2, (F 8 (hS 8 (by omega) (by omega))).1, (F 9 (hS 9 (by omega) (by omega))).1, (F 10 (hS 10 (by omega) (by omega))).1, (F 11 (hS 11 (by omega) (by omega))).1, (F 12 (hS 12 (by omega) (by omega))).1, (F 13 (hS 13 (by omega) (by omega))).1, (F 14 (hS 14 (by omega) (by omega))).1, (F 15 (hS 15 (by omega) (by omega))).1]
  exact H
def pbu (lo hi t u : Nat) : Bool := decide (1 ≤ u) && pb lo hi t (u - 1)
def f1 (h : Nat → Nat) (i a m k t : Nat) : Bool := if h (170 + 3 * i) = a ∧ k < h 0 then
  (if m = 0 then (pb (h (2 + k)) (h (5 + k)) t (h (170 + 3 * i + 1)) == (h (170 + 3 * i + 2)).testBit k) else if m = 1 then (pbu (h (2 + k)) (h (5 + k)) t (h (170 + 3 * i + 1)) == (h (170 + 3 * i + 2)).testBit k) else if m = 2 then !((h (170 + 3 * i + 2)).testBit k) else (h (170 + 3 * i + 2)).testBit k) else true
def FI (h : Nat → Nat) : Nat → Nat → Nat → Nat → Nat → Bool
  | 0, _, _, _, _ => true
  | n + 1, a, m, k, t => FI h n a m k t && f1 h n a m k t
def FD (h : Nat → Nat) (n : Nat) (d : DD) : Prop := ∀ a m k, a < 4 → m < 4 → k < 3 → d.2 73 (12 * a + 3 * m + k) = mkL (FI h n a m k)
theorem e_narrow {d : DD} {i : Nat} (hi : i < 48) {X Y : Nat → Bool} (hX : d.2 73 i = mkL X) : f_X8_narrow (nI i) (mkL Y) d = some ((), u2 d 73 i (mkL (fun t => X t && Y t))) := by
  unfold f_X8_narrow
  simp only [e_X9_longAt, ob_e]
  rw [rd2_in (by rw [ln_73]; exact hi), hX, mk_and, e_X9_putLong, ob_e, wr2_in (by rw [ln_73]; exact hi)]
theorem e_fidx {a m k : Nat} (d : DD) : f_X8_fittingIndex (nI a) (nI m) (nI k) d = some (nI (12 * a + 3 * m + k), d) := by
  unfold f_X8_fittingIndex
  rw [nI_lit, nI_lit, pk_mul, nI_add, pk_mul, nI_add, show (a * 4 + m) * 3 + k = 12 * a + 3 * m + k by omega]
theorem e_passing_ahead {b d h nm} (B : HB b) (V : VH h) (H : HC b d h nm) {k hour : Nat} (hk : k < h 0) (hh : hour < 30) : f_X1_passing b (nI k) (pI hour) d = some (mkL (fun t => pbu (h (2 + k)) (h (5 + k)) t hour), d) := by
  cases hour with
  | zero =>
    rw [pI_0, e_X1_passing_neg (by decide)]
    refine some_mk (fun i _ => ?_)
    unfold pbu
    simp
  | succ hour =>
    rw [pI_s, e_X1_passing B V H hk (by omega)]
    refine some_mk (fun i _ => ?_)
    unfold pbu
    simp
theorem heed_l {h nm} {d0 : DD} (V : VH h) (H : HC 2 d0 h nm) {n : Nat} (hn : n < h 169) (Q : Unit → DD → Prop) (K : ∀ d, FR [73] d0 d → FD h (n + 1) d → Q () d) : ∀ (m k f : Nat) (d : DD), k + m = h 0 → m < f → FR [73] d0 d → (∀ a mo j, a < 4 → mo < 4 → j < 3 → d.2 73 (12 * a + 3 * mo + j) = mkL (fun t => FI h n a mo j t && (if j < k then f1 h n a mo j t else true))) → OW (f_X8_heed_49 f (nI (h (170 + 3 * n))) (nI (h (170 + 3 * n + 1))) (nI (h (170 + 3 * n + 2))) (nI k) d) Q := by
  have v0 := V.1
  have vt := V.2.2.2.2.2.2.2.2 n hn
  have hl : 2 ^ h 0 ≤ 2 ^ 3 := Nat.pow_le_pow_right (by decide) v0
  have v1 := V.2.1
  intro m
  induction m with
  | zero =>
    intro k f d hi hf F G
    cases f with
    | zero => omega
    | succ f =>
      show OW (f_X8_heed_49B (f_X8_heed_49 f) _ _ _ _ _) Q
      unfold f_X8_heed_49B
      have H' := hc_fr H F (by decide)
      simp (disch := omega) only [bd_e, ob_e, ow_ret_e, u1_at, u1_2, u2_at, u2_1, ↓reduceIte, false_and, true_and, and_true, and_false, not_true_eq_false, not_false_eq_true, decide_true, decide_false, Bool.true_and, Bool.false_and, Bool.and_true, Bool.and_false, Bool.or_false, Bool.false_or, Bool.true_or, Bool.or_true, ↓mI_lit, ↓mL_lit, nI_lit, lN_lit, nI_add, pk_mul, lN_add, lN_mul, nI_ltI, nI_eq, nI_clamp, ix_nI, ix_mI, nI_mI, mI_nI, lN_mL, mL_lN, mI_lt, lt_mI, pI_mI, pI_nI, pI_eq, pI_lt0, pI_e, Nat.not_lt_zero, Nat.zero_add, Nat.add_zero, ix_T, lt_T, lt_F, eq_T, eq_F, hc_k H']
      refine K d F (fun a mo j ha hm hj => ?_)
      rw [G a mo j ha hm hj]
      apply mk_congr
      intro t _
      show _ = (FI h n a mo j t && f1 h n a mo j t)
      by_cases c : j < k
      · rw [if_pos c]
      · rw [if_neg c]
        have : f1 h n a mo j t = true := by
          unfold f1
          rw [if_neg (by omega)]
        rw [this]
  | succ m ih =>
    intro k f d hi hf F G
    cases f with
    | zero => omega
    | succ f =>
      show OW (f_X8_heed_49B (f_X8_heed_49 f) _ _ _ _ _) Q
      unfold f_X8_heed_49B
      have hk : k < h 0 := by omega
      have H' := hc_fr H F (by decide)
      have st : ∀ d', FR [73] d0 d' → (∀ i, i ≠ 12 * h (170 + 3 * n) + k → i ≠ 12 * h (170 + 3 * n) + 3 + k → i ≠ 12 * h (170 + 3 * n) + 3 * (if (h (170 + 3 * n + 2)).testBit k = true then 2 else 3) + k → d'.2 73 i = d.2 73 i) → d'.2 73 (12 * h (170 + 3 * n) + k) = mkL (fun t => FI h n (h (170 + 3 * n)) 0 k t && f1 h n (h (170 + 3 * n)) 0 k t) → d'.2 73 (12 * h (170 + 3 * n) + 3 + k) = mkL (fun t => FI h n (h (170 + 3 * n)) 1 k t && f1 h n (h (170 + 3 * n)) 1 k t) → d'.2 73 (12 * h (170 + 3 * n) + 3 * (if (h (170 + 3 * n + 2)).testBit k = true then 2 else 3) + k) = mkL (fun _ => false) → OW (f_X8_heed_49 f (nI (h (170 + 3 * n))) (nI (h (170 + 3 * n + 1))) (nI (h (170 + 3 * n + 2))) (nI (k + 1)) d') Q := by
        intro d' F' g0 g1 g2 g3
        refine ih (k + 1) f d' (by omega) (by omega) F' (fun a mo j ha hm hj => ?_)
        by_cases c : j = k
        · subst c
          have eR : (fun t => FI h n a mo j t && (if j < j + 1 then f1 h n a mo j t else true)) = fun t => FI h n a mo j t && f1 h n a mo j t := by
            funext t
            rw [if_pos (by omega)]
          rw [eR]
          by_cases ca : a = h (170 + 3 * n)
          · subst ca
            by_cases m0 : mo = 0
            · subst m0
              exact g1
            · by_cases m1 : mo = 1
              · subst m1
                exact g2
              · by_cases tb : (h (170 + 3 * n + 2)).testBit j = true
                · rw [if_pos tb] at g3 g0
                  by_cases m2 : mo = 2
                  · subst m2
                    rw [g3]
                    apply mk_congr
                    intro t _
                    unfold f1
                    rw [if_pos ⟨rfl, hk⟩, tb]
                    simp
                  · have m3 : mo = 3 := by omega
                    subst m3
                    rw [g0 _ (by omega) (by omega) (by omega), G _ 3 j ha hm hj]
                    apply mk_congr
                    intro t _
                    unfold f1
                    rw [if_neg (by omega), if_pos ⟨rfl, hk⟩, tb]
                    simp
                · rw [if_neg tb] at g3 g0
                  have tb' : (h (170 + 3 * n + 2)).testBit j = false := by simpa using tb
                  by_cases m2 : mo = 2
                  · subst m2
                    rw [g0 _ (by omega) (by omega) (by omega), G _ 2 j ha hm hj]
                    apply mk_congr
                    intro t _
                    unfold f1
                    rw [if_neg (by omega), if_pos ⟨rfl, hk⟩, tb']
                    simp
                  · have m3 : mo = 3 := by omega
                    subst m3
                    rw [g3]
                    apply mk_congr
                    intro t _
                    unfold f1
                    rw [if_pos ⟨rfl, hk⟩, tb']
                    simp
          · have b3 : (if (h (170 + 3 * n + 2)).testBit j = true then 2 else 3) ≤ 3 := by split <;> omega
            rw [g0 _ (by omega) (by omega) (by omega), G a mo j ha hm hj]
            apply mk_congr
            intro t _
            unfold f1
            rw [if_neg (by omega), if_neg (fun z => ca z.1.symm)]
        · have b3 : (if (h (170 + 3 * n + 2)).testBit k = true then 2 else 3) ≤ 3 := by split <;> omega
          rw [g0 _ (by omega) (by omega) (by omega), G a mo j ha hm hj]
          apply mk_congr
          intro t _
          by_cases cj : j < k
          · rw [if_pos cj, if_pos (by omega)]
          · rw [if_neg cj, if_neg (by omega)]
      have G0 := G (h (170 + 3 * n)) 0 k (by omega) (by omega) (by omega)
      have G1 := G (h (170 + 3 * n)) 1 k (by omega) (by omega) (by omega)
      have G2 := G (h (170 + 3 * n)) 2 k (by omega) (by omega) (by omega)
      have G3 := G (h (170 + 3 * n)) 3 k (by omega) (by omega) (by omega)
      simp only [if_neg (Nat.lt_irrefl k), Bool.and_true] at G0 G1 G2 G3
      have ep := e_X1_passing hb_2 V H' hk vt.2.1
      have ea := e_passing_ahead hb_2 V H' hk vt.2.1
      rw [hc_k H', if_pos (by rw [nI_ltI (by omega) (by omega)]; exact hk)]
      simp only [nI_lit]
      by_cases tb : (h (170 + 3 * n + 2)).testBit k = true
      · rw [if_pos tb] at st
        rw [if_pos ((q_uhas (by omega) (by omega)).mpr tb)]
        unfold f_X8_heed_77
        simp (disch := omega) only [nI_lit, ↓mL_lit, pI_e, ep, ea, ob_e, e_fidx, nI_eq, ix_T, lt_T, lt_F, eq_T, eq_F, ↓reduceIte]
        rw [e_narrow (X := FI h n (h (170 + 3 * n)) 0 k) (by omega) (by exact G0), ob_e]
        dsimp only
        rw [e_narrow (X := FI h n (h (170 + 3 * n)) 1 k) (by omega) (by rw [u2_at, if_neg (by omega)]; exact G1), ob_e]
        dsimp only
        rw [lN_lit, mk_0, e_narrow (X := FI h n (h (170 + 3 * n)) 2 k) (by omega) (by rw [u2_at, if_neg (by omega), u2_at, if_neg (by omega)]; exact G2), ob_e, nI_add]
        refine st _ (fr_u2 (fr_u2 (fr_u2 F (by decide)) (by decide)) (by decide)) ?_ ?_ ?_ ?_
        · intro i a1 a2 a3
          rw [u2_at, if_neg (by omega), u2_at, if_neg (by omega), u2_at, if_neg (by omega)]
        · rw [u2_at, if_neg (by omega), u2_at, if_neg (by omega), u2_at, if_pos (by omega)]
          apply mk_congr
          intro t _
          unfold f1
          rw [if_pos ⟨rfl, hk⟩, tb]
          simp
        · rw [u2_at, if_neg (by omega), u2_at, if_pos (by omega)]
          apply mk_congr
          intro t _
          unfold f1
          rw [if_pos ⟨rfl, hk⟩, tb]
          simp
        · rw [u2_at, if_pos (by omega)]
          apply mk_congr
          intro t _
          simp
      · rw [if_neg tb] at st
        have tb' : (h (170 + 3 * n + 2)).testBit k = false := by simpa using tb
        rw [if_neg (fun z => tb ((q_uhas (by omega) (by omega)).mp z))]
        unfold f_X8_heed_77
        simp (disch := omega) only [nI_lit, ↓mL_lit, pI_e, ep, ea, ob_e, e_fidx, nI_eq, ix_T, lt_T, lt_F, eq_T, eq_F, ↓reduceIte, mk_not]
        rw [e_narrow (X := FI h n (h (170 + 3 * n)) 0 k) (by omega) (by exact G0), ob_e]
        dsimp only
        rw [e_narrow (X := FI h n (h (170 + 3 * n)) 1 k) (by omega) (by rw [u2_at, if_neg (by omega)]; exact G1), ob_e]
        dsimp only
        rw [lN_lit, mk_0, e_narrow (X := FI h n (h (170 + 3 * n)) 3 k) (by omega) (by rw [u2_at, if_neg (by omega), u2_at, if_neg (by omega)]; exact G3), ob_e, nI_add]
        refine st _ (fr_u2 (fr_u2 (fr_u2 F (by decide)) (by decide)) (by decide)) ?_ ?_ ?_ ?_
        · intro i a1 a2 a3
          rw [u2_at, if_neg (by omega), u2_at, if_neg (by omega), u2_at, if_neg (by omega)]
        · rw [u2_at, if_neg (by omega), u2_at, if_neg (by omega), u2_at, if_pos (by omega)]
          apply mk_congr
          intro t _
          unfold f1
          rw [if_pos ⟨rfl, hk⟩, tb']
          simp
        · rw [u2_at, if_neg (by omega), u2_at, if_pos (by omega)]
          apply mk_congr
          intro t _
          unfold f1
          rw [if_pos ⟨rfl, hk⟩, tb']
          simp
        · rw [u2_at, if_pos (by omega)]
          apply mk_congr
          intro t _
          simp
theorem e_X8_heed {h nm} {d : DD} (V : VH h) (H : HC 2 d h nm) {n : Nat} (hn : n < h 169) (G : FD h n d) : OW (f_X8_heed (nI n) d) (fun _ d' => FR [73] d d' ∧ FD h (n + 1) d') := by
  have v0 := V.1
  have t1 := hc_t1 hb_2 V H hn
  have t2 := hc_t2 hb_2 V H hn
  have t3 := hc_t3 hb_2 V H hn
  rw [rf_2_11, rf_12_1] at t1
  rw [rf_2_11, rf_12_2] at t2
  rw [rf_2_11, rf_12_3] at t3
  unfold f_X8_heed
  simp only [e_X9_at, ob_e, t1, t2, t3]
  refine heed_l V H hn _ (fun d' F' G' => ⟨F', G'⟩) (h 0) 0 FU d (by omega) (by unfold FU; omega) (fr_refl _ _) (fun a mo j ha hm hj => ?_)
  rw [G a mo j ha hm hj]
  apply mk_congr
  intro t _
  rw [if_neg (by omega), Bool.and_true]
theorem ga12 {h nm} {d0 : DD} (V : VH h) (H : HC 2 d0 h nm) {n : Nat} (hn : n ≤ h 169) (Q : Unit → DD → Prop) (K : ∀ d, FR [73] d0 d → FD h n d → OW (f_X8_gather_34 d) Q) : ∀ (m i f : Nat) (d : DD), i + m = n → m < f → FR [73] d0 d → FD h i d → OW (f_X8_gather_12 f (nI n) (nI i) d) Q := by
  have v2 := V.2.2.2.2.2.2.2.1
  intro m
  induction m with
  | zero =>
    intro i f d hi hf F G
    cases f with
    | zero => omega
    | succ f =>
      show OW (f_X8_gather_12B (f_X8_gather_12 f) _ _ _) Q
      unfold f_X8_gather_12B
      have e : i = n := by omega
      subst e
      rw [if_neg (by rw [nI_ltI (by omega) (by omega)]; omega)]
      exact K d F G
  | succ m ih =>
    intro i f d hi hf F G
    cases f with
    | zero => omega
    | succ f =>
      show OW (f_X8_gather_12B (f_X8_gather_12 f) _ _ _) Q
      unfold f_X8_gather_12B
      rw [if_pos (by rw [nI_ltI (by omega) (by omega)]; omega), if_pos (by rw [nI_lit, nI_ltI (by omega) (by omega)]; omega)]
      refine ow_call (e_X8_heed V (hc_fr H F (by decide)) (by omega) G) ?_
      intro _ d' H'
      rw [nI_1]
      exact ih (i + 1) f d' (by omega) (by omega) (fr_trans F H'.1) H'.2
theorem e_X8_gather0 {h nm} {d : DD} (V : VH h) (H : HC 2 d h nm) {n : Nat} (hn : n ≤ h 169) (Q : Unit → DD → Prop) (K : ∀ d', FR [73] d d' → FD h n d' → OW (f_X8_gather_34 d') Q) : OW (f_X8_gather (nI n) d) Q := by
  have v2 := V.2.2.2.2.2.2.2.1
  unfold f_X8_gather
  refine ow_call (e_fill2 _ _) ?_
  intro _ d' H'
  refine ga12 V H hn Q K n 0 FU d' (by omega) (by unfold FU; omega) H'.1 (fun a m k ha hm hk => ?_)
  rw [H'.2 _ (by rw [ln_73]; omega), show (-1 : Int64) = mL from rfl, mk_m1]
  rfl
