-- PURE ROWS: trade
def gnB (h : Nat → Nat) (i j : Nat) : Bool := decide (0 < h (19 + i)) && (decide (0 < h (19 + j)) && (decide (h (19 + i) ≠ h (19 + j)) && (decide (wt h (h (19 + i) - 1) i ≤ wt h (h (19 + i) - 1) j) && (decide (wt h (h (19 + j) - 1) j ≤ wt h (h (19 + j) - 1) i) && decide (¬ (wt h (h (19 + i) - 1) j - wt h (h (19 + i) - 1) i) + (wt h (h (19 + j) - 1) i - wt h (h (19 + j) - 1) j) = 0)))))
def fpj (h : Nat → Nat) (i : Nat) : Nat → Nat → Option Nat
  | 0, _ => none
  | m + 1, j => if gnB h i j = true then some j else fpj h i m (j + 1)
def fpi (h : Nat → Nat) : Nat → Nat → Option (Nat × Nat)
  | 0, _ => none
  | m + 1, i => match fpj h i (29 - i) (i + 1) with
    | some j => some (i, j)
    | none => fpi h m (i + 1)
theorem wt_le {h : Nat → Nat} (V : VH h) {a u : Nat} (ha : a < 4) (hu : u < 30) : wt h a u ≤ 99 := by
  have := V.2.2.2.2.2.2.1 (30 * a + u) (by omega)
  unfold wt
  omega
theorem sub_neg {x y : Nat} (hx : x ≤ 99) (hy : y ≤ 99) : nI x - nI y < nI 0 ↔ x < y := by
  constructor
  · intro z
    apply Classical.byContradiction
    intro c
    rw [pk_sub (by omega), nI_ltI (by omega) (by omega)] at z
    omega
  · intro z
    exact pk_sneg (by omega) z
theorem e_isGain {h nm} {d : DD} (V : VH h) (H : HC 2 d h nm) {a b i j : Nat} (ha : a < 4) (hb : b < 4) (hi : i < 30) (hj : j < 30) : f_X1_isGain 2 (nI a) (nI i) (nI b) (nI j) d = some (bI (decide (wt h a i ≤ wt h a j) && (decide (wt h b j ≤ wt h b i) && decide (¬ (wt h a j - wt h a i) + (wt h b i - wt h b j) = 0))), d) := by
  have w1 := wt_le V ha hi
  have w2 := wt_le V ha hj
  have w3 := wt_le V hb hi
  have w4 := wt_le V hb hj
  unfold f_X1_isGain
  simp only [e_X1_wantOf hb_2 H ha hj, e_X1_wantOf hb_2 H ha hi, e_X1_wantOf hb_2 H hb hi, e_X1_wantOf hb_2 H hb hj, ob_e, bd_e, nI_lit]
  by_cases c1 : wt h a i ≤ wt h a j
  · rw [if_neg (fun z => by have := (sub_neg w2 w1).mp z; omega), decide_eq_true c1]
    by_cases c2 : wt h b j ≤ wt h b i
    · rw [if_neg (fun z => by have := (sub_neg w3 w4).mp z; omega), decide_eq_true c2, pk_sub c1, pk_sub c2, nI_add]
      by_cases c3 : (wt h a j - wt h a i) + (wt h b i - wt h b j) = 0
      · rw [if_neg (by rw [nI_ltI (by omega) (by omega)]; omega), decide_eq_false (fun z => z c3)]
        rfl
      · rw [if_pos (by rw [nI_ltI (by omega) (by omega)]; omega), decide_eq_true c3]
        rfl
    · rw [if_pos ((sub_neg w3 w4).mpr (by omega)), decide_eq_false c2]
      rfl
  · rw [if_pos ((sub_neg w2 w1).mpr (by omega)), decide_eq_false c1]
    rfl
def cS (h : Nat → Nat) (d : DD) (i j : Nat) : DD := u1 (u1 d 11 i (pI (h (19 + j)))) 11 j (pI (h (19 + i)))
def mS (h : Nat → Nat) (d : DD) (i j : Nat) : DD := u1 (u1 d 88 (19 + i) (nI (h (19 + j)))) 88 (19 + j) (nI (h (19 + i)))
theorem ct12 {h nm} {d : DD} (V : VH h) (H : HC 2 d h nm) {i : Nat} (hi : i < 30) (k2 : Int32 → DD → Option (Int32 × DD)) : ∀ (m j f : Nat), j + m = 30 → m < f → i < j → f_X1_tradeOnce_12 2 k2 f (nI i) (nI j) d = (match fpj h i m j with
    | some j' => some (1, cS h d i j')
    | none => k2 (nI (i + 1)) d) := by
  have v1 := V.2.1
  intro m
  induction m with
  | zero =>
    intro j f hj hf hij
    cases f with
    | zero => omega
    | succ f =>
      show f_X1_tradeOnce_12B 2 k2 (f_X1_tradeOnce_12 2 k2 f) _ _ _ = _
      unfold f_X1_tradeOnce_12B
      rw [if_neg (by rw [nI_lit, nI_ltI (by omega) (by omega)]; omega), nI_1]
      rfl
  | succ m ih =>
    intro j f hj hf hij
    cases f with
    | zero => omega
    | succ f =>
      show f_X1_tradeOnce_12B 2 k2 (f_X1_tradeOnce_12 2 k2 f) _ _ _ = _
      unfold f_X1_tradeOnce_12B
      have s := ih (j + 1) f (by omega) (by omega) (by omega)
      have vi := V.2.2.2.2.2.1 i hi
      have vj := V.2.2.2.2.2.1 j (by omega)
      have fe : fpj h i (m + 1) j = if gnB h i j = true then some j else fpj h i m (j + 1) := rfl
      rw [fe, if_pos (by rw [nI_lit, nI_ltI (by omega) (by omega)]; omega), e_X9_at, ob_e, hc_tu hb_2 H hi, e_X9_at, ob_e, hc_tu hb_2 H (by omega)]
      dsimp only
      rw [nI_1]
      by_cases c1 : h (19 + i) = 0
      · rw [if_pos (show pI (h (19 + i)) = -1 from (pI_mI (by omega)).mpr c1), if_neg (by unfold gnB; rw [decide_eq_false (p := 0 < h (19 + i)) (by omega)]; simp)]
        exact s
      · rw [if_neg (show ¬ pI (h (19 + i)) = -1 from fun z => c1 ((pI_mI (by omega)).mp z))]
        by_cases c2 : h (19 + j) = 0
        · rw [if_pos (show pI (h (19 + j)) = -1 from (pI_mI (by omega)).mpr c2), if_neg (by unfold gnB; rw [decide_eq_false (p := 0 < h (19 + j)) (by omega)]; simp)]
          exact s
        · rw [if_neg (show ¬ pI (h (19 + j)) = -1 from fun z => c2 ((pI_mI (by omega)).mp z))]
          by_cases c3 : h (19 + i) = h (19 + j)
          · rw [if_pos (by rw [c3]), if_neg (by unfold gnB; rw [decide_eq_false (p := h (19 + i) ≠ h (19 + j)) (fun z => z c3)]; simp)]
            exact s
          · rw [if_neg (fun z => c3 ((pI_eq (by omega) (by omega)).mp z)), pI_pos (x := h (19 + i)) (by omega), pI_pos (x := h (19 + j)) (by omega), e_isGain V H (by omega) (by omega) hi (by omega), ob_e]
            dsimp only
            have ge : gnB h i j = (decide (wt h (h (19 + i) - 1) i ≤ wt h (h (19 + i) - 1) j) && (decide (wt h (h (19 + j) - 1) j ≤ wt h (h (19 + j) - 1) i) && decide (¬ (wt h (h (19 + i) - 1) j - wt h (h (19 + i) - 1) i) + (wt h (h (19 + j) - 1) i - wt h (h (19 + j) - 1) j) = 0))) := by
              unfold gnB
              rw [decide_eq_true (p := 0 < h (19 + i)) (by omega), decide_eq_true (p := 0 < h (19 + j)) (by omega), decide_eq_true (p := h (19 + i) ≠ h (19 + j)) c3]
              simp
            rw [← ge]
            cases q : gnB h i j
            · rw [if_pos (show bI false = 0 from rfl), if_neg (by decide)]
              exact s
            · rw [if_neg (show ¬ bI true = 0 by decide), if_pos rfl, rf_2_10, e_X9_put, ob_e, e_X9_put, ob_e, wr1_in (by rw [ln_11]; omega), wr1_in (by rw [ln_11]; omega)]
              show _ = some (1, cS h d i j)
              unfold cS
              rw [pI_pos (x := h (19 + i)) (by omega), pI_pos (x := h (19 + j)) (by omega)]
theorem ct2 {h nm} {d : DD} (V : VH h) (H : HC 2 d h nm) : ∀ (m i f : Nat), i + m = 30 → m < f → f_X1_tradeOnce_2 2 f (nI i) d = (match fpi h m i with
    | some p => some (1, cS h d p.1 p.2)
    | none => some (0, d)) := by
  intro m
  induction m with
  | zero =>
    intro i f hi hf
    cases f with
    | zero => omega
    | succ f =>
      show f_X1_tradeOnce_2B 2 (f_X1_tradeOnce_2 2 f) _ _ = _
      unfold f_X1_tradeOnce_2B
      rw [if_neg (by rw [nI_lit, nI_ltI (by omega) (by omega)]; omega)]
      rfl
  | succ m ih =>
    intro i f hi hf
    cases f with
    | zero => omega
    | succ f =>
      show f_X1_tradeOnce_2B 2 (f_X1_tradeOnce_2 2 f) _ _ = _
      unfold f_X1_tradeOnce_2B
      have s := ih (i + 1) f (by omega) (by omega)
      rw [if_pos (by rw [nI_lit, nI_ltI (by omega) (by omega)]; omega), bd_e, nI_1, ct12 V H (by omega) _ (29 - i) (i + 1) FU (by omega) (by unfold FU; omega) (by omega)]
      have fe : fpi h (m + 1) i = (match fpj h i (29 - i) (i + 1) with
        | some j => some (i, j)
        | none => fpi h m (i + 1)) := rfl
      rw [fe]
      cases q : fpj h i (29 - i) (i + 1) with
      | some j' => rfl
      | none => exact s
theorem fpj_lt {h : Nat → Nat} {i : Nat} : ∀ {m j r : Nat}, fpj h i m j = some r → j ≤ r ∧ r < j + m ∧ gnB h i r = true
  | 0, _, _, e => by cases e
  | m + 1, j, r, e => by
    have fe : fpj h i (m + 1) j = if gnB h i j = true then some j else fpj h i m (j + 1) := rfl
    rw [fe] at e
    by_cases c : gnB h i j = true
    · rw [if_pos c] at e
      injection e with e
      subst e
      exact ⟨Nat.le_refl _, by omega, c⟩
    · rw [if_neg c] at e
      obtain ⟨a, b, c'⟩ := fpj_lt e
      exact ⟨by omega, by omega, c'⟩
theorem fpi_lt {h : Nat → Nat} : ∀ {m i : Nat} {p : Nat × Nat}, i + m = 30 → fpi h m i = some p → p.1 < p.2 ∧ p.2 < 30
  | 0, _, _, _, e => by cases e
  | m + 1, i, p, hi, e => by
    have fe : fpi h (m + 1) i = (match fpj h i (29 - i) (i + 1) with
        | some j => some (i, j)
        | none => fpi h m (i + 1)) := rfl
    rw [fe] at e
    cases q : fpj h i (29 - i) (i + 1) with
    | some j' =>
      rw [q] at e
      injection e with e
      subst e
      have := fpj_lt q
      exact ⟨by show i < j'; omega, by show j' < 30; omega⟩
    | none =>
      rw [q] at e
      exact fpi_lt (by omega) e
theorem mt12 {h : Nat → Nat} {d : DD} (V : VH h) (M : HM d h) {i : Nat} (hi : i < 30) (k2 : Int32 → DD → Option (Int32 × DD)) : ∀ (m j f : Nat), j + m = 30 → m < f → i < j → f_X10_trades_12 k2 f (nI i) (nI j) d = (match fpj h i m j with
    | some j' => some (1, mS h d i j')
    | none => k2 (nI (i + 1)) d) := by
  have v1 := V.2.1
  intro m
  induction m with
  | zero =>
    intro j f hj hf hij
    cases f with
    | zero => omega
    | succ f =>
      show f_X10_trades_12B k2 (f_X10_trades_12 k2 f) _ _ _ = _
      unfold f_X10_trades_12B
      rw [if_neg (by rw [nI_lit, nI_ltI (by omega) (by omega)]; omega), nI_1]
      rfl
  | succ m ih =>
    intro j f hj hf hij
    cases f with
    | zero => omega
    | succ f =>
      show f_X10_trades_12B k2 (f_X10_trades_12 k2 f) _ _ _ = _
      unfold f_X10_trades_12B
      have s := ih (j + 1) f (by omega) (by omega) (by omega)
      have vi := V.2.2.2.2.2.1 i hi
      have vj := V.2.2.2.2.2.1 j (by omega)
      have fe : fpj h i (m + 1) j = if gnB h i j = true then some j else fpj h i m (j + 1) := rfl
      have ixi : ∀ u, u < 30 → ixb ((19 : Int32) + nI u) (ln 88) := fun u hu => by
        rw [show (19 : Int32) = nI 19 from rfl, nI_add]
        exact (ix_nI (by omega)).mpr (by rw [ln_88]; omega)
      have cl : ∀ u, u < 30 → ((19 : Int32) + nI u).toNatClampNeg = 19 + u := fun u hu => by
        rw [show (19 : Int32) = nI 19 from rfl, nI_add, nI_clamp (by omega)]
      have rdi : d.1 88 ((19 : Int32) + nI i).toNatClampNeg - 1 = pI (h (19 + i)) := by
        rw [cl i hi, M.1]
        rfl
      have rdj : d.1 88 ((19 : Int32) + nI j).toNatClampNeg - 1 = pI (h (19 + j)) := by
        rw [cl j (by omega), M.1]
        rfl
      rw [fe, if_pos (by rw [nI_lit, nI_ltI (by omega) (by omega)]; omega), if_pos (ixi i hi), bd_e, if_pos (ixi j (by omega)), bd_e, rdi, rdj, nI_1]
      by_cases c1 : h (19 + i) = 0
      · rw [if_pos (show pI (h (19 + i)) < 0 from (pI_lt0 (by omega)).mpr c1), if_neg (by unfold gnB; rw [decide_eq_false (p := 0 < h (19 + i)) (by omega)]; simp)]
        exact s
      · rw [if_neg (show ¬ pI (h (19 + i)) < 0 from fun z => c1 ((pI_lt0 (by omega)).mp z))]
        by_cases c2 : h (19 + j) = 0
        · rw [if_pos (show pI (h (19 + j)) < 0 from (pI_lt0 (by omega)).mpr c2), if_neg (by unfold gnB; rw [decide_eq_false (p := 0 < h (19 + j)) (by omega)]; simp)]
          exact s
        · rw [if_neg (show ¬ pI (h (19 + j)) < 0 from fun z => c2 ((pI_lt0 (by omega)).mp z))]
          by_cases c3 : h (19 + i) = h (19 + j)
          · rw [if_pos (by rw [c3]), if_neg (by unfold gnB; rw [decide_eq_false (p := h (19 + i) ≠ h (19 + j)) (fun z => z c3)]; simp)]
            exact s
          · have w1 := wt_le V (a := h (19 + i) - 1) (u := i) (by omega) hi
            have w2 := wt_le V (a := h (19 + i) - 1) (u := j) (by omega) (by omega)
            have w3 := wt_le V (a := h (19 + j) - 1) (u := i) (by omega) hi
            have w4 := wt_le V (a := h (19 + j) - 1) (u := j) (by omega) (by omega)
            have ge : gnB h i j = (decide (wt h (h (19 + i) - 1) i ≤ wt h (h (19 + i) - 1) j) && (decide (wt h (h (19 + j) - 1) j ≤ wt h (h (19 + j) - 1) i) && decide (¬ (wt h (h (19 + i) - 1) j - wt h (h (19 + i) - 1) i) + (wt h (h (19 + j) - 1) i - wt h (h (19 + j) - 1) j) = 0))) := by
              unfold gnB
              rw [decide_eq_true (p := 0 < h (19 + i)) (by omega), decide_eq_true (p := 0 < h (19 + j)) (by omega), decide_eq_true (p := h (19 + i) ≠ h (19 + j)) c3]
              simp
            rw [if_neg (fun z => c3 ((pI_eq (by omega) (by omega)).mp z)), pI_pos (x := h (19 + i)) (by omega), pI_pos (x := h (19 + j)) (by omega)]
            simp only [e_X10_wantOf V M (show h (19 + i) - 1 < 4 by omega) (show j < 30 by omega), e_X10_wantOf V M (show h (19 + i) - 1 < 4 by omega) hi, e_X10_wantOf V M (show h (19 + j) - 1 < 4 by omega) hi, e_X10_wantOf V M (show h (19 + j) - 1 < 4 by omega) (show j < 30 by omega), ob_e, bd_e]
            rw [ge]
            by_cases g1 : wt h (h (19 + i) - 1) i ≤ wt h (h (19 + i) - 1) j
            · rw [if_neg (show ¬ nI (wt h (h (19 + i) - 1) j) - nI (wt h (h (19 + i) - 1) i) < 0 from fun z => by have := (sub_neg w2 w1).mp z; omega), decide_eq_true g1]
              by_cases g2 : wt h (h (19 + j) - 1) j ≤ wt h (h (19 + j) - 1) i
              · rw [if_neg (show ¬ nI (wt h (h (19 + j) - 1) i) - nI (wt h (h (19 + j) - 1) j) < 0 from fun z => by have := (sub_neg w3 w4).mp z; omega), decide_eq_true g2, pk_sub g1, pk_sub g2, nI_add]
                by_cases g3 : (wt h (h (19 + i) - 1) j - wt h (h (19 + i) - 1) i) + (wt h (h (19 + j) - 1) i - wt h (h (19 + j) - 1) j) = 0
                · rw [if_pos (by rw [g3]; rfl), decide_eq_false (fun z => z g3), if_neg (by decide)]
                  exact s
                · rw [if_neg (show ¬ nI (wt h (h (19 + i) - 1) j - wt h (h (19 + i) - 1) i + (wt h (h (19 + j) - 1) i - wt h (h (19 + j) - 1) j)) = 0 from fun z => g3 ((nI_eq (by omega) (by omega)).mp (show nI _ = nI 0 from z))), decide_eq_true g3, if_pos (ixi i hi), if_pos (ixi j (by omega)), cl i hi, cl j (by omega), nI_1, nI_1, show h (19 + i) - 1 + 1 = h (19 + i) by omega, show h (19 + j) - 1 + 1 = h (19 + j) by omega]
                  rfl
              · rw [if_pos (show nI (wt h (h (19 + j) - 1) i) - nI (wt h (h (19 + j) - 1) j) < 0 from (sub_neg w3 w4).mpr (by omega)), decide_eq_false g2, if_neg (by simp)]
                exact s
            · rw [if_pos (show nI (wt h (h (19 + i) - 1) j) - nI (wt h (h (19 + i) - 1) i) < 0 from (sub_neg w2 w1).mpr (by omega)), decide_eq_false g1, if_neg (by simp)]
              exact s
theorem mt2 {h : Nat → Nat} {d : DD} (V : VH h) (M : HM d h) : ∀ (m i f : Nat), i + m = 30 → m < f → f_X10_trades_2 f (nI i) d = (match fpi h m i with
    | some p => some (1, mS h d p.1 p.2)
    | none => some (0, d)) := by
  intro m
  induction m with
  | zero =>
    intro i f hi hf
    cases f with
    | zero => omega
    | succ f =>
      show f_X10_trades_2B (f_X10_trades_2 f) _ _ = _
      unfold f_X10_trades_2B
      rw [if_neg (by rw [nI_lit, nI_ltI (by omega) (by omega)]; omega)]
      rfl
  | succ m ih =>
    intro i f hi hf
    cases f with
    | zero => omega
    | succ f =>
      show f_X10_trades_2B (f_X10_trades_2 f) _ _ = _
      unfold f_X10_trades_2B
      have s := ih (i + 1) f (by omega) (by omega)
      rw [if_pos (by rw [nI_lit, nI_ltI (by omega) (by omega)]; omega), bd_e, nI_1, mt12 V M (by omega) _ (29 - i) (i + 1) FU (by omega) (by unfold FU; omega) (by omega)]
      have fe : fpi h (m + 1) i = (match fpj h i (29 - i) (i + 1) with
        | some j => some (i, j)
        | none => fpi h m (i + 1)) := rfl
      rw [fe]
      cases q : fpj h i (29 - i) (i + 1) with
      | some j' => rfl
      | none => exact s
