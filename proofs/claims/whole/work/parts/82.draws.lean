-- PURE ROWS: drawn: the draws, the checks
def nxs (x : Int32) : Int32 := x * (1103515245 : Int32) + (12345 : Int32)
def dr (x : Int32) (n : Nat) : Nat := x.toBitVec.toNat / 2 ^ 8 % n
theorem dr_lt {x : Int32} {n : Nat} (h : 0 < n) : dr x n < n := Nat.mod_lt _ h
theorem dr_q (x : Int32) {n : Nat} (h : 0 < n) (h2 : n < 2 ^ 31) : (iushr x (8 : Int32)) - (iushr x (8 : Int32)) / nI n * nI n = nI (dr x n) := by
  have hlt : x.toBitVec.toNat < 2 ^ 32 := x.toBitVec.isLt
  have e : iushr x (8 : Int32) = nI (x.toBitVec.toNat / 2 ^ 8) := by
    have := q_iush hlt (s := 8) (by decide)
    rw [← ix_of x] at this
    exact this
  rw [e, pk_rem (by omega) h h2]
  rfl
theorem e_drawNext (x : Int32) (d : DD) : f_X9_drawNext x d = some (nxs x, d) := rfl
theorem e_drawOf (x : Int32) {n : Nat} (h : 0 < n) (h2 : n < 2 ^ 31) (d : DD) : f_X9_drawOf x (nI n) d = some (nI (dr x n), d) := by
  unfold f_X9_drawOf
  rw [if_pos (show (0 : Int32) < nI n from (nI_ltI (a := 0) (by omega) h2).mpr h), if_neg (show ¬ nI n = 0 from fun z => absurd ((nI_eq h2 (by omega)).mp (show nI n = nI 0 from z)) (by omega)), dr_q x h h2]
theorem e_X10_draw {n : Nat} (h : 0 < n) (h2 : n < 2 ^ 31) (d : DD) : f_X10_draw (nI n) d = some (nI (dr (nxs (d.1 86 37)) n), u1 d 86 37 (nxs (d.1 86 37))) := by
  unfold f_X10_draw
  rw [bd_e, if_neg (show ¬ nI n = 0 from fun z => absurd ((nI_eq h2 (by omega)).mp (show nI n = nI 0 from z)) (by omega)), show (u1 d 86 37 (d.1 86 37 * (1103515245 : Int32) + (12345 : Int32))).1 86 37 = nxs (d.1 86 37) from by rw [u1_at, if_pos ⟨rfl, rfl⟩]; rfl, dr_q _ h h2]
  rfl
theorem e_X10_octet {d : DD} {a g : Nat} (ha : a < 940) (e : d.1 87 a &&& 255 = nI g) : f_X10_octet (nI a) d = some (nI g, d) := by
  unfold f_X10_octet
  rw [if_pos ((ix_nI (by omega)).mpr (by rw [ln_87]; exact ha)), nI_clamp (by omega), e]
theorem hat_l {h nm} {d : DD} (V : VH h) (H : HC 2 d h nm) : ∀ (m k f : Nat), k + m = h 0 → m < f → ((∀ j, k ≤ j → j < h 0 → 1 ≤ h (8 + j)) → f_X1_hasAllTruths_2 2 f (nI k) d = some (1, d)) ∧ ((∃ j, k ≤ j ∧ j < h 0 ∧ h (8 + j) = 0) → f_X1_hasAllTruths_2 2 f (nI k) d = some (0, d)) := by
  have v0 := V.1
  intro m
  induction m with
  | zero =>
    intro k f hk hf
    cases f with
    | zero => omega
    | succ f =>
      have e : f_X1_hasAllTruths_2 2 (f + 1) (nI k) d = some (1, d) := by
        show f_X1_hasAllTruths_2B 2 (f_X1_hasAllTruths_2 2 f) _ _ = _
        unfold f_X1_hasAllTruths_2B
        rw [hc_k H, if_neg (by rw [nI_ltI (by omega) (by omega)]; omega)]
      exact ⟨fun _ => e, fun ⟨j, h1, h2, _⟩ => by omega⟩
  | succ m ih =>
    intro k f hk hf
    cases f with
    | zero => omega
    | succ f =>
      obtain ⟨i1, i2⟩ := ih (k + 1) f (by omega) (by omega)
      have et := hc_tr hb_2 V H (k := k) (by omega)
      have v := V.2.2.1 k (by omega)
      have tle := tn_le (lo := h (2 + k)) v.2.2.1
      constructor
      · intro T
        show f_X1_hasAllTruths_2B 2 (f_X1_hasAllTruths_2 2 f) _ _ = _
        unfold f_X1_hasAllTruths_2B
        have t := T k (Nat.le_refl _) (by omega)
        rw [hc_k H, if_pos (by rw [nI_ltI (by omega) (by omega)]; omega), e_X9_at, ob_e, et, if_neg (show ¬ pI (h (8 + k)) = -1 from fun z => absurd ((pI_mI (by omega)).mp z) (by omega)), nI_1]
        exact i1 (fun j h1 h2 => T j (by omega) h2)
      · rintro ⟨j, h1, h2, h3⟩
        show f_X1_hasAllTruths_2B 2 (f_X1_hasAllTruths_2 2 f) _ _ = _
        unfold f_X1_hasAllTruths_2B
        rw [hc_k H, if_pos (by rw [nI_ltI (by omega) (by omega)]; omega), e_X9_at, ob_e, et]
        by_cases c : h (8 + k) = 0
        · rw [if_pos (show pI (h (8 + k)) = -1 from (pI_mI (by omega)).mpr c)]
        · rw [if_neg (show ¬ pI (h (8 + k)) = -1 from fun z => c ((pI_mI (by omega)).mp z)), nI_1]
          refine i2 ⟨j, ?_, h2, h3⟩
          rcases Nat.lt_or_ge k j with z | z
          · exact z
          · have : j = k := by omega
            subst this
            exact absurd h3 c
theorem aw_l {h nm} {d : DD} (V : VH h) (H : HC 2 d h nm) {g : Nat → Nat} {n : Nat} (hn : n ≤ 940) (hg : ∀ i, g i < 256) (C : ∀ i, i < n → d.1 1 i = nI (g i)) : ∀ (m k f : Nat), k + m = n → m < f → ((∀ j, k ≤ j → j < n → g j < 2 + 2 * h 0) → f_X9_areWays_2 f (nI n) (nI k) d = some (1, d)) ∧ ((∃ j, k ≤ j ∧ j < n ∧ ¬ g j < 2 + 2 * h 0) → f_X9_areWays_2 f (nI n) (nI k) d = some (0, d)) := by
  have v0 := V.1
  intro m
  induction m with
  | zero =>
    intro k f hk hf
    cases f with
    | zero => omega
    | succ f =>
      have e : f_X9_areWays_2 (f + 1) (nI n) (nI k) d = some (1, d) := by
        show f_X9_areWays_2B (f_X9_areWays_2 f) _ _ _ = _
        unfold f_X9_areWays_2B
        rw [if_neg (by rw [nI_ltI (by omega) (by omega)]; omega)]
      exact ⟨fun _ => e, fun ⟨j, h1, h2, _⟩ => by omega⟩
  | succ m ih =>
    intro k f hk hf
    cases f with
    | zero => omega
    | succ f =>
      obtain ⟨i1, i2⟩ := ih (k + 1) f (by omega) (by omega)
      have et : rd1 d 1 (nI k) = nI (g k) := by rw [rd1_in (by rw [ln_1]; omega)]; exact C k (by omega)
      have gk := hg k
      constructor
      · intro T
        show f_X9_areWays_2B (f_X9_areWays_2 f) _ _ _ = _
        unfold f_X9_areWays_2B
        have t := T k (Nat.le_refl _) (by omega)
        rw [if_pos (by rw [nI_ltI (by omega) (by omega)]; omega), e_X9_at, ob_e, et, e_X1_hasWay V H, ob_e, if_pos ((ix_nI (by omega)).mpr t), if_neg (show ¬ (1 : Int32) = 0 by decide), nI_1]
        exact i1 (fun j h1 h2 => T j (by omega) h2)
      · rintro ⟨j, h1, h2, h3⟩
        show f_X9_areWays_2B (f_X9_areWays_2 f) _ _ _ = _
        unfold f_X9_areWays_2B
        rw [if_pos (by rw [nI_ltI (by omega) (by omega)]; omega), e_X9_at, ob_e, et, e_X1_hasWay V H, ob_e]
        by_cases c : g k < 2 + 2 * h 0
        · rw [if_pos ((ix_nI (by omega)).mpr c), if_neg (show ¬ (1 : Int32) = 0 by decide), nI_1]
          refine i2 ⟨j, ?_, h2, h3⟩
          rcases Nat.lt_or_ge k j with z | z
          · exact z
          · have : j = k := by omega
            subst this
            exact absurd c h3
        · rw [if_neg (fun z => c ((ix_nI (by omega)).mp z)), if_pos rfl]
-- the model's checks
theorem m136_0 (x y : Int32) (d : DD) : f_X10_drawn_136 x y 0 d = some (0, d) := by
  unfold f_X10_drawn_136
  rw [if_pos rfl]
theorem m92_0 (x y : Int32) {k : Int32} {f : Nat} (d : DD) : f_X10_drawn_92 (f + 1) x y 0 k d = some (0, d) := by
  show f_X10_drawn_92B (f_X10_drawn_92 f) _ _ _ _ _ = _
  unfold f_X10_drawn_92B
  by_cases c : k < d.1 86 3
  · rw [if_pos c, if_pos rfl, m136_0]
  · rw [if_neg c, m136_0]
theorem m92_l {h} {d : DD} (V : VH h) (M : HM d h) {g : Nat → Nat} {n : Nat} (hn : n ≤ 940) (hg : ∀ i, g i < 256) (C : ∀ i, i < n → d.1 87 i &&& 255 = nI (g i)) (sz : d.1 86 3 = nI n) (x y : Int32) : ∀ (m k f : Nat), k + m = n → m + 1 < f → ((∀ j, k ≤ j → j < n → g j < 2 + 2 * h 0) → f_X10_drawn_92 f x y 1 (nI k) d = f_X10_drawn_136 x y 1 d) ∧ ((∃ j, k ≤ j ∧ j < n ∧ ¬ g j < 2 + 2 * h 0) → f_X10_drawn_92 f x y 1 (nI k) d = some (0, d)) := by
  have v0 := V.1
  intro m
  induction m with
  | zero =>
    intro k f hk hf
    cases f with
    | zero => omega
    | succ f =>
      have e : f_X10_drawn_92 (f + 1) x y 1 (nI k) d = f_X10_drawn_136 x y 1 d := by
        show f_X10_drawn_92B (f_X10_drawn_92 f) _ _ _ _ _ = _
        unfold f_X10_drawn_92B
        rw [sz, if_neg (by rw [nI_ltI (by omega) (by omega)]; omega)]
      exact ⟨fun _ => e, fun ⟨j, h1, h2, _⟩ => by omega⟩
  | succ m ih =>
    intro k f hk hf
    cases f with
    | zero => omega
    | succ f =>
      obtain ⟨i1, i2⟩ := ih (k + 1) f (by omega) (by omega)
      have gk := hg k
      have r0 : d.1 88 (0 : Int32).toNatClampNeg = nI (h 0) := M.1 0
      have st : f_X10_drawn_92 (f + 1) x y 1 (nI k) d = if nI (g k) < nI (2 + 2 * h 0) then f_X10_drawn_92 f x y 1 (nI (k + 1)) d else f_X10_drawn_92 f x y 0 (nI (k + 1)) d := by
        show f_X10_drawn_92B (f_X10_drawn_92 f) _ _ _ _ _ = _
        unfold f_X10_drawn_92B
        rw [sz, if_pos (by rw [nI_ltI (by omega) (by omega)]; omega), if_neg (by decide), e_X10_octet (by omega) (C k (by omega)), ob_e, if_pos (by rw [ln_88]; decide), r0, show (2 : Int32) = nI 2 from rfl, pk_mul, nI_add, nI_1]
      constructor
      · intro T
        have t := T k (Nat.le_refl _) (by omega)
        rw [st, if_pos ((nI_ltI (by omega) (by omega)).mpr t)]
        exact i1 (fun j h1 h2 => T j (by omega) h2)
      · rintro ⟨j, h1, h2, h3⟩
        rw [st]
        by_cases c : g k < 2 + 2 * h 0
        · rw [if_pos ((nI_ltI (by omega) (by omega)).mpr c)]
          refine i2 ⟨j, ?_, h2, h3⟩
          rcases Nat.lt_or_ge k j with z | z
          · exact z
          · have : j = k := by omega
            subst this
            exact absurd c h3
        · rw [if_neg (fun z => c ((nI_ltI (by omega) (by omega)).mp z))]
          obtain ⟨f', rfl⟩ : ∃ f', f = f' + 1 := ⟨f - 1, by omega⟩
          exact m92_0 x y d
theorem m53_0 {h} {d : DD} (V : VH h) (M : HM d h) (x y : Int32) : ∀ (m k f : Nat), k + m = h 0 → m < f → f_X10_drawn_53 f x y 0 (nI k) d = some (0, d) := by
  have v0 := V.1
  have r0 : d.1 88 (0 : Int32).toNatClampNeg = nI (h 0) := M.1 0
  intro m
  induction m with
  | zero =>
    intro k f hk hf
    cases f with
    | zero => omega
    | succ f =>
      show f_X10_drawn_53B (f_X10_drawn_53 f) _ _ _ _ _ = _
      unfold f_X10_drawn_53B
      rw [if_pos (by rw [ln_88]; decide), r0, if_neg (by rw [nI_ltI (by omega) (by omega)]; omega)]
      exact m92_0 (f := 4999) x y d
  | succ m ih =>
    intro k f hk hf
    cases f with
    | zero => omega
    | succ f =>
      show f_X10_drawn_53B (f_X10_drawn_53 f) _ _ _ _ _ = _
      unfold f_X10_drawn_53B
      rw [if_pos (by rw [ln_88]; decide), r0, if_pos (by rw [nI_ltI (by omega) (by omega)]; omega), if_pos rfl, nI_1]
      exact ih (k + 1) f (by omega) (by omega)
theorem m53_l {h} {d : DD} (V : VH h) (M : HM d h) (x y : Int32) : ∀ (m k f : Nat), k + m = h 0 → m < f → ((∀ j, k ≤ j → j < h 0 → 1 ≤ h (8 + j)) → f_X10_drawn_53 f x y 1 (nI k) d = f_X10_drawn_92 FU x y 1 0 d) ∧ ((∃ j, k ≤ j ∧ j < h 0 ∧ h (8 + j) = 0) → f_X10_drawn_53 f x y 1 (nI k) d = some (0, d)) := by
  have v0 := V.1
  have r0 : d.1 88 (0 : Int32).toNatClampNeg = nI (h 0) := M.1 0
  intro m
  induction m with
  | zero =>
    intro k f hk hf
    cases f with
    | zero => omega
    | succ f =>
      have e : f_X10_drawn_53 (f + 1) x y 1 (nI k) d = f_X10_drawn_92 FU x y 1 0 d := by
        show f_X10_drawn_53B (f_X10_drawn_53 f) _ _ _ _ _ = _
        unfold f_X10_drawn_53B
        rw [if_pos (by rw [ln_88]; decide), r0, if_neg (by rw [nI_ltI (by omega) (by omega)]; omega)]
      exact ⟨fun _ => e, fun ⟨j, h1, h2, _⟩ => by omega⟩
  | succ m ih =>
    intro k f hk hf
    cases f with
    | zero => omega
    | succ f =>
      obtain ⟨i1, i2⟩ := ih (k + 1) f (by omega) (by omega)
      have v := V.2.2.1 k (by omega)
      have tle := tn_le (lo := h (2 + k)) v.2.2.1
      have st : f_X10_drawn_53 (f + 1) x y 1 (nI k) d = if pI (h (8 + k)) < nI 0 then f_X10_drawn_53 f x y 0 (nI (k + 1)) d else f_X10_drawn_53 f x y 1 (nI (k + 1)) d := by
        show f_X10_drawn_53B (f_X10_drawn_53 f) _ _ _ _ _ = _
        unfold f_X10_drawn_53B
        rw [if_pos (by rw [ln_88]; decide), r0, if_pos (by rw [nI_ltI (by omega) (by omega)]; omega), if_neg (by decide), e_X10_truly M (by omega), ob_e, nI_1]
        rfl
      constructor
      · intro T
        have t := T k (Nat.le_refl _) (by omega)
        rw [st, if_neg (fun z => by rw [pI_lt0 (by omega)] at z; omega)]
        exact i1 (fun j h1 h2 => T j (by omega) h2)
      · rintro ⟨j, h1, h2, h3⟩
        rw [st]
        by_cases c : h (8 + k) = 0
        · rw [if_pos ((pI_lt0 (by omega)).mpr c)]
          exact m53_0 V M x y m (k + 1) f (by omega) (by omega)
        · rw [if_neg (fun z => c ((pI_lt0 (by omega)).mp z))]
          refine i2 ⟨j, ?_, h2, h3⟩
          rcases Nat.lt_or_ge k j with z | z
          · exact z
          · have : j = k := by omega
            subst this
            exact absurd h3 c
