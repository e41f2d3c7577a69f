-- PURE ROWS: liars, class and model
theorem mkN_or {n s : Nat} {X : Nat → Bool} (hs : s < 2 ^ n) : mkN n X ||| s = mkN n (fun i => X i || s.testBit i) := by
  apply Nat.eq_of_testBit_eq
  intro i
  rw [Nat.testBit_or, mkN_tb, mkN_tb]
  rcases Nat.lt_or_ge i n with z | z
  · rw [decide_eq_true z, Bool.true_and, Bool.true_and]
  · rw [decide_eq_false (by omega), Bool.false_and, Bool.false_and, Bool.false_or]
    exact Nat.testBit_lt_two_pow (Nat.lt_of_lt_of_le hs (Nat.pow_le_pow_right (by decide) z))
theorem mkN_and {n s : Nat} {X : Nat → Bool} : mkN n X &&& s = mkN n (fun i => X i && s.testBit i) := by
  apply Nat.eq_of_testBit_eq
  intro i
  rw [Nat.testBit_and, mkN_tb, mkN_tb, Bool.and_assoc]
def pw8 (L : List ((Nat → Nat) × (Nat → Nat → Bool))) (a w : Nat) : Bool := L.any (fun b => (b.1 a).testBit w)
theorem pw_l {h : Nat → Nat} {d : DD} {first : Nat} {L : List ((Nat → Nat) × (Nat → Nat → Bool))} (V : VH h) (X : GX h d first L) {a : Nat} (ha : a < h 1) : ∀ (m i f : Nat) (S : Nat → Bool), i + m = L.length → m < f → f_X8_possibleWays_7 f (nI a) (nI (mkN 8 S)) (nI (first + i)) d = some (nI (mkN 8 (fun w => S w || pw8 (L.drop i) a w)), d) := by
  have X4 := X.2.2.2.1
  intro m
  induction m with
  | zero =>
    intro i f S hi hf
    cases f with
    | zero => omega
    | succ f =>
      show f_X8_possibleWays_7B (f_X8_possibleWays_7 f) _ _ _ _ = _
      unfold f_X8_possibleWays_7B
      rw [X.2.2.1, if_neg (by rw [nI_ltI (by omega) (by omega)]; omega), List.drop_eq_nil_of_le (by omega), mkN_congr (P := S) (Q := fun w => S w || pw8 [] a w)]
      intro w _
      exact (Bool.or_false _).symm
  | succ m ih =>
    intro i f S hi hf
    cases f with
    | zero => omega
    | succ f =>
      show f_X8_possibleWays_7B (f_X8_possibleWays_7 f) _ _ _ _ = _
      unfold f_X8_possibleWays_7B
      have hil : i < L.length := by omega
      have e : L[i]? = some L[i] := List.getElem?_eq_getElem hil
      have hb := X.2.2.2.2 L[i] (List.mem_of_getElem? e) a
      rw [X.2.2.1, if_pos (by rw [nI_ltI (by omega) (by omega)]; omega), e_waysIn V X e ha, ob_e, bd_e]
      dsimp only
      rw [nx_or, mkN_or hb, nI_1, Nat.add_assoc first, ih (i + 1) f _ (by omega) (by omega), drop_cons e, mkN_congr]
      intro w _
      show _ = (S w || ((L[i].1 a).testBit w || pw8 (L.drop (i + 1)) a w))
      rw [Bool.or_assoc]
theorem e_possibleWays {h : Nat → Nat} {d : DD} {first : Nat} {L : List ((Nat → Nat) × (Nat → Nat → Bool))} (V : VH h) (X : GX h d first L) {a : Nat} (ha : a < h 1) : f_X8_possibleWays (nI a) d = some (nI (mkN 8 (pw8 L a)), d) := by
  have X4 := X.2.2.2.1
  unfold f_X8_possibleWays
  rw [bd_e, X.2.1]
  have s := pw_l V X ha L.length 0 FU (fun _ => false) (by omega) (by unfold FU; omega)
  rw [← mkN_0] at s
  refine Eq.trans s ?_
  rw [mkN_congr]
  intro w _
  rw [List.drop_zero, Bool.false_or]
def stb (h : Nat → Nat) (b : (Nat → Nat) × (Nat → Nat → Bool)) : Nat := mkN (h 1) (fun a => !((b.1 a).testBit 0))
theorem stb_lt {h : Nat → Nat} (V : VH h) (b : (Nat → Nat) × (Nat → Nat → Bool)) : stb h b < 16 := by
  have h1 : stb h b < 2 ^ h 1 := mkN_lt _ _
  have h2 : 2 ^ h 1 ≤ 2 ^ 4 := Nat.pow_le_pow_right (by decide) V.2.1
  omega
theorem nx_and1 {s : Nat} : (nI s &&& (1 : Int32) = 0) ↔ s.testBit 0 = false := by
  rw [show (1 : Int32) = nI 1 from rfl, nx_and, show (0 : Int32) = nI 0 from rfl]
  have h1 : s &&& 1 ≤ 1 := Nat.and_le_right
  rw [nI_eq (by omega) (by omega), Nat.and_one_is_mod, Nat.testBit_zero]
  have := Nat.mod_lt s (show 0 < 2 by decide)
  rw [decide_eq_false_iff_not]
  omega
theorem ls20 {h nm} {d : DD} {first : Nat} {L : List ((Nat → Nat) × (Nat → Nat → Bool))} (V : VH h) (H : HC 2 d h nm) (X : GX h d first L) {i : Nat} {b : (Nat → Nat) × (Nat → Nat → Bool)} (e : L[i]? = some b) (v1 : Int32) (k7 : Int32 → Int32 → DD → Option (Int32 × DD)) : ∀ (m a f : Nat), a + m = h 1 → m < f → f_X8_liarSets_20 k7 f v1 (nI (first + i)) (nI (mkN a (fun a => !((b.1 a).testBit 0)))) (nI a) d = k7 (v1 ||| nI (2 ^ stb h b)) (nI (first + i + 1)) d := by
  have v1' := V.2.1
  have sl := stb_lt V b
  intro m
  induction m with
  | zero =>
    intro a f hi hf
    cases f with
    | zero => omega
    | succ f =>
      show f_X8_liarSets_20B k7 (f_X8_liarSets_20 k7 f) _ _ _ _ _ = _
      unfold f_X8_liarSets_20B
      have ea : a = h 1 := by omega
      subst ea
      rw [hc_p H, if_neg (by rw [nI_ltI (by omega) (by omega)]; omega), bd_e, nI_1]
      simp only [nI_lit]
      unfold stb at sl
      rw [q_shl (by omega)]
      rfl
  | succ m ih =>
    intro a f hi hf
    cases f with
    | zero => omega
    | succ f =>
      show f_X8_liarSets_20B k7 (f_X8_liarSets_20 k7 f) _ _ _ _ _ = _
      unfold f_X8_liarSets_20B
      have s := ih (a + 1) f (by omega) (by omega)
      rw [mkN] at s
      rw [hc_p H, if_pos (by rw [nI_ltI (by omega) (by omega)]; omega), e_waysIn V X e (by omega), ob_e]
      dsimp only
      by_cases c : (b.1 a).testBit 0 = false
      · rw [if_pos (by rw [c]; rfl)] at s
        rw [if_pos (nx_and1.mpr c), bd_e, nI_1]
        simp only [nI_lit]
        rw [q_shl (by omega), nx_or, mkN_top]
        exact s
      · have c' : (b.1 a).testBit 0 = true := by simpa using c
        rw [if_neg (by rw [c']; decide)] at s
        rw [if_neg (fun z => c (nx_and1.mp z)), nI_1]
        exact s
def cz (h : Nat → Nat) (L : List ((Nat → Nat) × (Nat → Nat → Bool))) (j : Nat) : Bool := L.any (fun b => decide (stb h b = j))
theorem ls7 {h nm} {d : DD} {first : Nat} {L : List ((Nat → Nat) × (Nat → Nat → Bool))} (V : VH h) (H : HC 2 d h nm) (X : GX h d first L) : ∀ (m i f : Nat) (S : Nat → Bool), i + m = L.length → m < f → f_X8_liarSets_7 f (nI (mkN 16 S)) (nI (first + i)) d = some (nI (mkN 16 (fun j => S j || cz h (L.drop i) j)), d) := by
  have X4 := X.2.2.2.1
  intro m
  induction m with
  | zero =>
    intro i f S hi hf
    cases f with
    | zero => omega
    | succ f =>
      show f_X8_liarSets_7B (f_X8_liarSets_7 f) _ _ _ = _
      unfold f_X8_liarSets_7B
      rw [X.2.2.1, if_neg (by rw [nI_ltI (by omega) (by omega)]; omega), List.drop_eq_nil_of_le (by omega), mkN_congr (P := S) (Q := fun w => S w || cz h [] w)]
      intro w _
      exact (Bool.or_false _).symm
  | succ m ih =>
    intro i f S hi hf
    cases f with
    | zero => omega
    | succ f =>
      show f_X8_liarSets_7B (f_X8_liarSets_7 f) _ _ _ = _
      unfold f_X8_liarSets_7B
      have hil : i < L.length := by omega
      have e : L[i]? = some L[i] := List.getElem?_eq_getElem hil
      have v1 := V.2.1
      have s := ls20 V H X e (nI (mkN 16 S)) (f_X8_liarSets_7 f) (h 1) 0 FU (by omega) (by unfold FU; omega)
      rw [X.2.2.1, if_pos (by rw [nI_ltI (by omega) (by omega)]; omega)]
      refine Eq.trans s ?_
      rw [nx_or, mkN_set (stb_lt V _), Nat.add_assoc first, ih (i + 1) f _ (by omega) (by omega), drop_cons e, mkN_congr]
      intro j _
      show _ = (S j || (decide (stb h L[i] = j) || cz h (L.drop (i + 1)) j))
      rw [Bool.or_assoc]
theorem e_liarSets {h nm} {d : DD} {first : Nat} {L : List ((Nat → Nat) × (Nat → Nat → Bool))} (V : VH h) (H : HC 2 d h nm) (X : GX h d first L) : f_X8_liarSets d = some (nI (mkN 16 (cz h L)), d) := by
  have X4 := X.2.2.2.1
  unfold f_X8_liarSets
  rw [bd_e, X.2.1]
  have s := ls7 V H X L.length 0 FU (fun _ => false) (by omega) (by unfold FU; omega)
  rw [← mkN_0] at s
  refine Eq.trans s ?_
  rw [mkN_congr]
  intro w _
  rw [List.drop_zero, Bool.false_or]
def p4 (j : Nat) : Nat := cnt 4 (fun i => j.testBit i)
theorem p4_32 {j : Nat} (hj : j < 16) : cnt 32 (fun i => j.testBit i) = p4 j := cnt_ext (by decide) (fun i hi => Nat.testBit_lt_two_pow (Nat.lt_of_lt_of_le hj (Nat.pow_le_pow_right (n := 2) (by decide) hi)))
theorem p4_64 {j : Nat} (hj : j < 16) : cnt 64 (bl (nI j).toInt64) = p4 j := by
  rw [nI_l (by omega), cnt_congr (Q := fun i => j.testBit i) (fun i hi => bl_lN hi)]
  exact cnt_ext (by decide) (fun i hi => Nat.testBit_lt_two_pow (Nat.lt_of_lt_of_le hj (Nat.pow_le_pow_right (n := 2) (by decide) hi)))
def fmn (q : Nat → Bool) (s : Nat) : Nat → Nat
  | 0 => s
  | j + 1 => if q j = true then (if p4 j < fmn q s j then p4 j else fmn q s j) else fmn q s j
theorem p4_le (j : Nat) : p4 j ≤ 4 := cnt_le _ _
theorem fmn_le (q : Nat → Bool) {s : Nat} (hs : s ≤ 5) : ∀ n, fmn q s n ≤ 5
  | 0 => hs
  | n + 1 => by
    unfold fmn
    have := fmn_le q hs n
    have := p4_le n
    split
    · split <;> omega
    · omega
theorem fmn_lo (q : Nat → Bool) (s : Nat) : ∀ n, (∀ j, j < n → q j = true → fmn q s n ≤ p4 j) ∧ fmn q s n ≤ s ∧ (fmn q s n = s ∨ ∃ j, j < n ∧ q j = true ∧ p4 j = fmn q s n)
  | 0 => ⟨fun j hj => absurd hj (Nat.not_lt_zero j), Nat.le_refl _, Or.inl rfl⟩
  | n + 1 => by
    obtain ⟨h1, h2, h3⟩ := fmn_lo q s n
    unfold fmn
    by_cases c : q n = true
    · rw [if_pos c]
      by_cases l : p4 n < fmn q s n
      · rw [if_pos l]
        refine ⟨fun j hj hq => ?_, by omega, Or.inr ⟨n, by omega, c, rfl⟩⟩
        by_cases e : j = n
        · rw [e]; exact Nat.le_refl _
        · have := h1 j (by omega) hq
          omega
      · rw [if_neg l]
        refine ⟨fun j hj hq => ?_, h2, ?_⟩
        · by_cases e : j = n
          · rw [e]; omega
          · exact h1 j (by omega) hq
        · rcases h3 with z | ⟨j, a, b, c'⟩
          · exact Or.inl z
          · exact Or.inr ⟨j, by omega, b, c'⟩
    · rw [if_neg c]
      refine ⟨fun j hj hq => ?_, h2, ?_⟩
      · by_cases e : j = n
        · rw [e] at hq
          exact absurd hq c
        · exact h1 j (by omega) hq
      · rcases h3 with z | ⟨j, a, b, c'⟩
        · exact Or.inl z
        · exact Or.inr ⟨j, by omega, b, c'⟩
theorem few_l (d : DD) (q : Nat → Bool) : ∀ (m j f : Nat), j + m = 16 → m < f → f_X9_fewest_4 f (nI (mkN 16 q)) (nI (fmn q 4 j)) (nI j) d = some (nI (fmn q 4 16), d) := by
  have hl := mkN_lt 16 q
  intro m
  induction m with
  | zero =>
    intro j f hi hf
    cases f with
    | zero => omega
    | succ f =>
      show f_X9_fewest_4B (f_X9_fewest_4 f) _ _ _ _ = _
      unfold f_X9_fewest_4B
      rw [if_neg (by rw [nI_lit, nI_ltI (by omega) (by omega)]; omega), show j = 16 by omega]
  | succ m ih =>
    intro j f hi hf
    cases f with
    | zero => omega
    | succ f =>
      show f_X9_fewest_4B (f_X9_fewest_4 f) _ _ _ _ = _
      unfold f_X9_fewest_4B
      have s := ih (j + 1) f (by omega) (by omega)
      have fl := fmn_le q (s := 4) (by omega) j
      have pl := p4_le j
      rw [fmn] at s
      have tb : (mkN 16 q).testBit j = q j := by rw [mkN_tb, decide_eq_true (by omega), Bool.true_and]
      rw [if_pos (by rw [nI_lit, nI_ltI (by omega) (by omega)]; omega)]
      simp only [nI_lit]
      by_cases c : q j = true
      · rw [if_pos c] at s
        rw [if_pos ((q_uhas (by omega) (by omega)).mpr (by rw [tb]; exact c)), e_J6n, ob_e, p4_32 (by omega), bd_e, nI_add]
        have em : mnI (nI (fmn q 4 j)) (nI (p4 j)) = nI (if p4 j < fmn q 4 j then p4 j else fmn q 4 j) := by
          unfold mnI
          simp (disch := omega) only [nI_leI, nI_ltI]
          by_cases l : p4 j < fmn q 4 j
          · rw [if_pos l, if_pos l]
          · rw [if_neg l, if_neg l]
        rw [em]
        exact s
      · rw [if_neg c] at s
        rw [if_neg (fun z => c (by rw [← tb]; exact (q_uhas (by omega) (by omega)).mp z)), nI_add]
        exact s
theorem e_fewest (d : DD) (q : Nat → Bool) : f_X9_fewest (nI (mkN 16 q)) d = some (nI (fmn q 4 16), d) := few_l d q 16 0 FU (by omega) (by unfold FU; omega)
theorem mfew_l {d : DD} {q : Nat → Bool} (hq : ∀ j, j < 16 → d.1 101 j = bI (q j)) : ∀ (m j f : Nat), j + m = 16 → m < f → f_X10_fewestLiars_4 f (nI (fmn q 5 j)) (nI j) d = some (nI (fmn q 5 16), d) := by
  intro m
  induction m with
  | zero =>
    intro j f hi hf
    cases f with
    | zero => omega
    | succ f =>
      show f_X10_fewestLiars_4B (f_X10_fewestLiars_4 f) _ _ _ = _
      unfold f_X10_fewestLiars_4B
      rw [if_neg (by rw [nI_lit, nI_ltI (by omega) (by omega)]; omega), show j = 16 by omega]
  | succ m ih =>
    intro j f hi hf
    cases f with
    | zero => omega
    | succ f =>
      show f_X10_fewestLiars_4B (f_X10_fewestLiars_4 f) _ _ _ = _
      unfold f_X10_fewestLiars_4B
      have s := ih (j + 1) f (by omega) (by omega)
      have fl := fmn_le q (s := 5) (by omega) j
      have pl := p4_le j
      rw [fmn] at s
      rw [if_pos (by rw [nI_lit, nI_ltI (by omega) (by omega)]; omega), if_pos ((ix_nI (by omega)).mpr (by rw [ln_101]; omega)), nI_clamp (by omega), hq j (by omega)]
      cases c : q j
      · rw [c, if_neg (by decide)] at s
        rw [if_pos (by decide), nI_1]
        exact s
      · rw [c, if_pos rfl] at s
        rw [if_neg (by decide), e_X10_bits, ob_e, p4_64 (by omega)]
        dsimp only
        by_cases l : p4 j < fmn q 5 j
        · rw [if_pos l] at s
          rw [if_pos (by rw [nI_ltI (by omega) (by omega)]; exact l), e_X10_bits, ob_e, p4_64 (by omega), nI_1]
          exact s
        · rw [if_neg l] at s
          rw [if_neg (by rw [nI_ltI (by omega) (by omega)]; exact l), nI_1]
          exact s
theorem e_fewestLiars {d : DD} {q : Nat → Bool} (hq : ∀ j, j < 16 → d.1 101 j = bI (q j)) : f_X10_fewestLiars d = some (nI (fmn q 5 16), d) := mfew_l hq 16 0 FU (by omega) (by unfold FU; omega)
-- sets and their sizes
theorem p4_sub {s t : Nat} (h : ∀ i, i < 4 → s.testBit i = true → t.testBit i = true) : p4 s ≤ p4 t := cnt_mono h
theorem p4_eq {s t : Nat} (hs : s < 16) (ht : t < 16) (h : ∀ i, i < 4 → s.testBit i = true → t.testBit i = true) (e : p4 s = p4 t) : s = t := by
  apply Nat.eq_of_testBit_eq
  intro i
  rcases Nat.lt_or_ge i 4 with z | z
  · cases a : s.testBit i
    · cases b : t.testBit i
      · rfl
      · have : cnt 4 (fun i => s.testBit i) < cnt 4 (fun i => t.testBit i) := cnt_strict h z a b
        unfold p4 at e
        omega
    · exact (h i z a).symm
  · rw [Nat.testBit_lt_two_pow (Nat.lt_of_lt_of_le hs (Nat.pow_le_pow_right (n := 2) (by decide) z)), Nat.testBit_lt_two_pow (Nat.lt_of_lt_of_le ht (Nat.pow_le_pow_right (n := 2) (by decide) z))]
theorem lm_lt {h : Nat → Nat} (V : VH h) (c : Nat → Nat) : lm h c < 16 := by
  have h1 : lm h c < 2 ^ h 1 := mkN_lt _ _
  have h2 : 2 ^ h 1 ≤ 2 ^ 4 := Nat.pow_le_pow_right (by decide) V.2.1
  omega
theorem lz_ex {h : Nat → Nat} {n j : Nat} : lz h n j (cm h (h 1)) = true ↔ ∃ c, c ∈ cm h (h 1) ∧ nz h n c = true ∧ decide (lm h c = j) = true := by
  unfold lz
  rw [List.any_eq_true]
  constructor
  · rintro ⟨c, hc, z⟩
    rw [Bool.and_eq_true] at z
    exact ⟨c, hc, z.1, z.2⟩
  · rintro ⟨c, hc, z1, z2⟩
    exact ⟨c, hc, by rw [z1, z2]; rfl⟩
theorem cz_lz {h : Nat → Nat} {n : Nat} {L : List ((Nat → Nat) × (Nat → Nat → Bool))} (V : VH h) (I : LI h n (h 1) L) {j : Nat} (hj : cz h L j = true) : lz h n j (cm h (h 1)) = true := by
  obtain ⟨b, hb, e⟩ := List.any_eq_true.mp hj
  have e' := of_decide_eq_true e
  rw [lz_ex, ex_link V I]
  refine ⟨b, hb, fun i => if i < h 1 then (if (b.1 i).testBit 0 = true then 0 else (fl (fun v => (b.1 i).testBit v) 8 0).head?.getD 0) else fw h i, cb_mem (fun a ha => ?_), decide_eq_true ?_⟩
  · by_cases c : (b.1 a).testBit 0 = true
    · rw [if_pos c]
      exact ⟨by omega, c⟩
    · rw [if_neg c]
      obtain ⟨v, hv⟩ := ((I.2.2 b hb).2.2.2 a ha).1
      have v8 := bit8 (I.1 b hb a) hv
      have mem : v ∈ fl (fun v => (b.1 a).testBit v) 8 0 := (fl_mem _ _ _ _).mpr ⟨Nat.zero_le _, by omega, hv⟩
      cases q : fl (fun v => (b.1 a).testBit v) 8 0 with
      | nil => rw [q] at mem; cases mem
      | cons x l =>
        have : x ∈ fl (fun v => (b.1 a).testBit v) 8 0 := by rw [q]; exact List.mem_cons_self
        have m := (fl_mem _ _ _ _).mp this
        exact ⟨by show x < 8; omega, m.2.2⟩
  · rw [← e']
    unfold lm stb
    apply mkN_congr
    intro a ha
    simp only [if_pos ha]
    by_cases c : (b.1 a).testBit 0 = true
    · simp only [if_pos c, c]
      rfl
    · simp only [if_neg c]
      have c' : (b.1 a).testBit 0 = false := by simpa using c
      obtain ⟨v, hv⟩ := ((I.2.2 b hb).2.2.2 a ha).1
      have v8 := bit8 (I.1 b hb a) hv
      have mem : v ∈ fl (fun v => (b.1 a).testBit v) 8 0 := (fl_mem _ _ _ _).mpr ⟨Nat.zero_le _, by omega, hv⟩
      rw [c']
      cases q : fl (fun v => (b.1 a).testBit v) 8 0 with
      | nil => rw [q] at mem; cases mem
      | cons x l =>
        have : x ∈ fl (fun v => (b.1 a).testBit v) 8 0 := by rw [q]; exact List.mem_cons_self
        have m := ((fl_mem _ _ _ _).mp this).2.2
        show decide (0 < x) = true
        apply decide_eq_true
        apply Nat.pos_of_ne_zero
        intro z
        rw [z] at m
        exact c m
theorem lz_cz {h : Nat → Nat} {n : Nat} {L : List ((Nat → Nat) × (Nat → Nat → Bool))} (V : VH h) (I : LI h n (h 1) L) {j : Nat} (hj : lz h n j (cm h (h 1)) = true) : ∃ i, i < 16 ∧ cz h L i = true ∧ ∀ a, a < 4 → i.testBit a = true → j.testBit a = true := by
  rw [lz_ex, ex_link V I] at hj
  obtain ⟨b, hb, c, hc, e⟩ := hj
  have e' := of_decide_eq_true e
  refine ⟨stb h b, stb_lt V b, List.any_eq_true.mpr ⟨b, hb, decide_eq_true rfl⟩, fun a _ ha => ?_⟩
  rw [← e']
  unfold stb at ha
  unfold lm
  rw [mkN_tb, Bool.and_eq_true] at ha ⊢
  refine ⟨ha.1, ?_⟩
  have al := of_decide_eq_true ha.1
  have tb := (cb_bits hc).1 a al
  have t0 : (b.1 a).testBit 0 = false := by simpa using ha.2
  apply decide_eq_true
  apply Nat.pos_of_ne_zero
  intro z
  rw [z, t0] at tb
  cases tb
theorem few_eq {h : Nat → Nat} {n : Nat} {L : List ((Nat → Nat) × (Nat → Nat → Bool))} (V : VH h) (I : LI h n (h 1) L) (hL : L ≠ []) : fmn (cz h L) 4 16 = fmn (fun j => lz h n j (cm h (h 1))) 5 16 ∧ ∀ j, j < 16 → (cz h L j && decide (p4 j = fmn (cz h L) 4 16)) = (lz h n j (cm h (h 1)) && decide (p4 j = fmn (cz h L) 4 16)) := by
  obtain ⟨c1, c2, c3⟩ := fmn_lo (cz h L) 4 16
  obtain ⟨m1, m2, m3⟩ := fmn_lo (fun j => lz h n j (cm h (h 1))) 5 16
  have ne : ∃ j, j < 16 ∧ cz h L j = true := by
    cases L with
    | nil => exact absurd rfl hL
    | cons b l => exact ⟨stb h b, stb_lt V b, List.any_eq_true.mpr ⟨b, List.mem_cons_self, decide_eq_true rfl⟩⟩
  obtain ⟨j0, hj0, q0⟩ := ne
  have le1 : fmn (fun j => lz h n j (cm h (h 1))) 5 16 ≤ fmn (cz h L) 4 16 := by
    rcases c3 with z | ⟨j, hj, q, e⟩
    · have := m1 j0 hj0 (cz_lz V I q0)
      have := p4_le j0
      omega
    · have := m1 j hj (cz_lz V I q)
      omega
  have le2 : fmn (cz h L) 4 16 ≤ fmn (fun j => lz h n j (cm h (h 1))) 5 16 := by
    rcases m3 with z | ⟨j, hj, q, e⟩
    · omega
    · obtain ⟨i, hi, qi, sub⟩ := lz_cz V I q
      have := c1 i hi qi
      have := p4_sub sub
      omega
  refine ⟨by omega, fun j hj => ?_⟩
  by_cases e : p4 j = fmn (cz h L) 4 16
  · rw [decide_eq_true e, Bool.and_true, Bool.and_true]
    cases a : cz h L j
    · cases b : lz h n j (cm h (h 1))
      · rfl
      · obtain ⟨i, hi, qi, sub⟩ := lz_cz V I b
        have x1 := c1 i hi qi
        have x2 := p4_sub sub
        have : i = j := p4_eq hi hj sub (by omega)
        rw [this, a] at qi
        cases qi
    · exact (cz_lz V I a).symm
  · rw [decide_eq_false e, Bool.and_false, Bool.and_false]
theorem lza_gs {h : Nat → Nat} {n : Nat} : lza h n (cm h (h 1)) = decide (¬ GS h n FT = 0) := by
  unfold lza GS
  have gen : ∀ l : List (Nat → Nat), l.any (fun c => nz h n c) = decide (¬ sm (fun c => pn (PC h n c FT) (h 0)) l = 0) := by
    intro l
    induction l with
    | nil => rfl
    | cons x l ih =>
      rw [List.any_cons, ih]
      show (nz h n x || _) = decide (¬ pn (PC h n x FT) (h 0) + sm _ l = 0)
      unfold nz
      by_cases a : pn (PC h n x FT) (h 0) = 0
      · rw [decide_eq_false (fun z => z a), Bool.false_or, a, Nat.zero_add]
      · rw [decide_eq_true a, Bool.true_or, decide_eq_true (by omega)]
  exact gen _
theorem m_lies {h : Nat → Nat} {d : DD} (V : VH h) (M : HM d h) {α : Type} {f : Int32 × DD → Option (α × DD)} {Q : α → DD → Prop} (K : ∀ d2, FR [96, 97, 98, 101] d d2 → HM d2 h → (∀ j, j < 16 → d2.1 101 j = bI (lz h (h 169) j (cm h (h 1)))) → OW (f (bI (decide (¬ GS h (h 169) FT = 0)), d2)) Q) : OW ((f_X10_lies d).bind f) Q := by
  refine ow_call (e_X10_lies V M) ?_
  intro r d2 H2
  obtain ⟨F2, rfl, J⟩ := H2
  rw [lza_gs]
  exact K d2 F2 (hm_fr M F2 (by decide) (by decide) (by decide)) J
theorem q_liars {h nm} {d : DD} (V : VH h) (H : HC 2 d h nm) (M : HM d h) : ∃ r d1 d2, f_X9_liars d = some (r, d1) ∧ f_X10_liars d1 = some (r, d2) ∧ FQ d d2 := by
  refine eq2 (if GS h (h 169) FT = 0 then mI else nI (fmn (fun j => lz h (h 169) j (cm h (h 1))) 5 16)) ?_ (fun d1 F => ?_)
  · unfold f_X9_liars
    refine c_gather V H ?_
    intro d1 first L F1 H1 X I
    simp only [ob_e, bd_e, ↓reduceIte, one_ne, zro_eq, bI_t0, bI_f0, decide_true, decide_false, c_isEmpty V X I]
    by_cases e : GS h (h 169) FT = 0
    · simp only [ob_e, bd_e, ↓reduceIte, one_ne, zro_eq, bI_t0, bI_f0, decide_true, decide_false, eq_true e]
      exact ow_ret ⟨fq72 (fr_mono F1 (by decide)), rfl⟩
    · have hL : L ≠ [] := fun z => e ((gs_nil V I).mpr z)
      simp only [ob_e, bd_e, ↓reduceIte, one_ne, zro_eq, bI_t0, bI_f0, decide_true, decide_false, eq_false e, e_liarSets V H1 X, e_fewest]
      exact ow_ret ⟨fq72 (fr_mono F1 (by decide)), by rw [(few_eq V I hL).1]⟩
  · have M0 := hm_fq (hm_fq M F) (fq_thr d1 0)
    unfold f_X10_liars
    rw [bd_e]
    refine m_lies V M0 ?_
    intro d2 F2 M2 J2
    by_cases e : GS h (h 169) FT = 0
    · simp only [ob_e, bd_e, ↓reduceIte, one_ne, zro_eq, bI_t0, bI_f0, decide_true, decide_false, eq_true e, not_true_eq_false]
      exact ow_ret ⟨fq_trans (fq_thr d1 0) (fq96 (fr_mono F2 (by decide))), rfl⟩
    · simp only [ob_e, bd_e, ↓reduceIte, one_ne, zro_eq, bI_t0, bI_f0, decide_true, decide_false, eq_false e, not_false_eq_true, e_fewestLiars J2]
      exact ow_ret ⟨fq_trans (fq_thr d1 0) (fq96 (fr_mono F2 (by decide))), rfl⟩
-- the sets by number
def lsr (q : Nat → Bool) (K : Int32) : Nat → Nat → Nat → Int32
  | 0, _, n => if K = mI then nI n else mI
  | m + 1, j, n => if q j = true then (if nI n = K then nI j else lsr q K m (j + 1) (n + 1)) else lsr q K m (j + 1) n
theorem c_lset {d : DD} {q : Nat → Bool} {M : Nat} (hM : M < 100) (K : Int32) : ∀ (m j n f : Nat), j + m = 16 → m < f → f_X9_liarSet_45 f K (nI (mkN 16 q)) (nI M) (nI n) (nI j) d = some (lsr (fun j => q j && decide (p4 j = M)) K m j n, d) := by
  have hl := mkN_lt 16 q
  intro m
  induction m with
  | zero =>
    intro j n f hi hf
    cases f with
    | zero => omega
    | succ f =>
      show f_X9_liarSet_45B (f_X9_liarSet_45 f) _ _ _ _ _ _ = _
      unfold f_X9_liarSet_45B lsr
      rw [if_neg (by rw [nI_lit, nI_ltI (by omega) (by omega)]; omega)]
      by_cases c : K = mI
      · rw [if_pos c, if_pos (show K = -1 from c)]
      · rw [if_neg c, if_neg (show ¬ K = -1 from c)]
        rfl
  | succ m ih =>
    intro j n f hi hf
    cases f with
    | zero => omega
    | succ f =>
      show f_X9_liarSet_45B (f_X9_liarSet_45 f) _ _ _ _ _ _ = _
      unfold f_X9_liarSet_45B
      have pl := p4_le j
      have tb : (mkN 16 q).testBit j = q j := by rw [mkN_tb, decide_eq_true (by omega), Bool.true_and]
      rw [if_pos (by rw [nI_lit, nI_ltI (by omega) (by omega)]; omega)]
      simp only [nI_lit]
      show _ = some (if (q j && decide (p4 j = M)) = true then (if nI n = K then nI j else lsr _ K m (j + 1) (n + 1)) else lsr _ K m (j + 1) n, d)
      by_cases c : q j = true
      · rw [if_pos ((q_uhas (by omega) (by omega)).mpr (by rw [tb]; exact c)), e_J6n, ob_e, p4_32 (by omega), nI_add, nI_add, c, Bool.true_and]
        dsimp only
        by_cases e : p4 j = M
        · rw [if_pos (by rw [e]), decide_eq_true e, if_pos rfl]
          by_cases g : nI n = K
          · rw [if_pos g, if_pos g]
          · rw [if_neg g, if_neg g]
            exact ih (j + 1) (n + 1) f (by omega) (by omega)
        · rw [if_neg (fun z => e ((nI_eq (by omega) (by omega)).mp z)), decide_eq_false e, if_neg (by decide)]
          exact ih (j + 1) n f (by omega) (by omega)
      · have c' : q j = false := by simpa using c
        rw [if_neg (fun z => c (by rw [← tb]; exact (q_uhas (by omega) (by omega)).mp z)), nI_add, c', Bool.false_and, if_neg (by decide)]
        exact ih (j + 1) n f (by omega) (by omega)
theorem m_lset {d : DD} {q : Nat → Bool} (hq : ∀ j, j < 16 → d.1 101 j = bI (q j)) {M : Nat} (hM : M < 100) (K : Int32) : ∀ (m j n f : Nat), j + m = 16 → m < f → f_X10_liarSet_29 f K (nI M) (nI n) (nI j) d = some (lsr (fun j => q j && decide (p4 j = M)) K m j n, d) := by
  intro m
  induction m with
  | zero =>
    intro j n f hi hf
    cases f with
    | zero => omega
    | succ f =>
      show f_X10_liarSet_29B (f_X10_liarSet_29 f) _ _ _ _ _ = _
      unfold f_X10_liarSet_29B lsr
      rw [if_neg (by rw [nI_lit, nI_ltI (by omega) (by omega)]; omega)]
      by_cases c : K = mI
      · rw [if_pos c, if_pos (show K = -1 from c)]
      · rw [if_neg c, if_neg (show ¬ K = -1 from c)]
        rfl
  | succ m ih =>
    intro j n f hi hf
    cases f with
    | zero => omega
    | succ f =>
      show f_X10_liarSet_29B (f_X10_liarSet_29 f) _ _ _ _ _ = _
      unfold f_X10_liarSet_29B
      have pl := p4_le j
      rw [if_pos (by rw [nI_lit, nI_ltI (by omega) (by omega)]; omega), if_pos ((ix_nI (by omega)).mpr (by rw [ln_101]; omega)), nI_clamp (by omega), hq j (by omega)]
      show _ = some (if (q j && decide (p4 j = M)) = true then (if nI n = K then nI j else lsr _ K m (j + 1) (n + 1)) else lsr _ K m (j + 1) n, d)
      cases c : q j
      · rw [if_pos (by decide), nI_1, Bool.false_and, if_neg (by decide)]
        exact ih (j + 1) n f (by omega) (by omega)
      · rw [if_neg (by decide), e_X10_bits, ob_e, p4_64 (by omega), nI_1, nI_1, Bool.true_and]
        dsimp only
        by_cases e : p4 j = M
        · rw [if_pos (by rw [e]), decide_eq_true e, if_pos rfl]
          by_cases g : nI n = K
          · rw [if_pos g, if_pos g]
          · rw [if_neg g, if_neg g]
            exact ih (j + 1) (n + 1) f (by omega) (by omega)
        · rw [if_neg (fun z => e ((nI_eq (by omega) (by omega)).mp z)), decide_eq_false e, if_neg (by decide)]
          exact ih (j + 1) n f (by omega) (by omega)
theorem lsr_congr {q r : Nat → Bool} (K : Int32) : ∀ (m j n : Nat), (∀ i, i < j + m → q i = r i) → lsr q K m j n = lsr r K m j n
  | 0, _, _, _ => rfl
  | m + 1, j, n, e => by
    unfold lsr
    rw [e j (by omega), lsr_congr K m (j + 1) (n + 1) (fun i hi => e i (by omega)), lsr_congr K m (j + 1) n (fun i hi => e i (by omega))]
theorem q_liarSet {h nm} {d : DD} (V : VH h) (H : HC 2 d h nm) (M : HM d h) (x : Int32) : ∃ r d1 d2, f_X9_liarSet x d = some (r, d1) ∧ f_X10_liarSet x d1 = some (r, d2) ∧ FQ d d2 := by
  by_cases cx : x < -1
  · refine eq2 mI ?_ (fun d1 F => ?_)
    · unfold f_X9_liarSet
      rw [if_pos cx]
      exact ow_ret ⟨fq_refl _, rfl⟩
    · unfold f_X10_liarSet
      rw [bd_e, if_pos cx]
      exact ow_ret ⟨fq_thr d1 0, rfl⟩
  · have fl := fmn_le (fun j => lz h (h 169) j (cm h (h 1))) (s := 5) (by omega) 16
    refine eq2 (if GS h (h 169) FT = 0 then mI else lsr (fun j => lz h (h 169) j (cm h (h 1)) && decide (p4 j = fmn (fun j => lz h (h 169) j (cm h (h 1))) 5 16)) x 16 0 0) ?_ (fun d1 F => ?_)
    · unfold f_X9_liarSet
      rw [if_neg cx]
      refine c_gather V H ?_
      intro d1 first L F1 H1 X I
      simp only [ob_e, bd_e, ↓reduceIte, one_ne, zro_eq, bI_t0, bI_f0, decide_true, decide_false, c_isEmpty V X I]
      by_cases e : GS h (h 169) FT = 0
      · simp only [ob_e, bd_e, ↓reduceIte, one_ne, zro_eq, bI_t0, bI_f0, decide_true, decide_false, eq_true e]
        exact ow_ret ⟨fq72 (fr_mono F1 (by decide)), rfl⟩
      · have hL : L ≠ [] := fun z => e ((gs_nil V I).mpr z)
        have fe := few_eq V I hL
        simp only [ob_e, bd_e, ↓reduceIte, one_ne, zro_eq, bI_t0, bI_f0, decide_true, decide_false, eq_false e, e_liarSets V H1 X, e_fewest]
        refine ⟨_, _, c_lset (M := fmn (cz h L) 4 16) (by rw [fe.1]; omega) x 16 0 0 FU (by omega) (by unfold FU; omega), fq72 (fr_mono F1 (by decide)), ?_⟩
        rw [lsr_congr x 16 0 0 (fun i hi => fe.2 i (by omega)), fe.1]
    · have M0 := hm_fq (hm_fq M F) (fq_thr d1 0)
      unfold f_X10_liarSet
      rw [bd_e, if_neg cx]
      refine m_lies V M0 ?_
      intro d2 F2 M2 J2
      by_cases e : GS h (h 169) FT = 0
      · simp only [ob_e, bd_e, ↓reduceIte, one_ne, zro_eq, bI_t0, bI_f0, decide_true, decide_false, eq_true e, not_true_eq_false]
        exact ow_ret ⟨fq_trans (fq_thr d1 0) (fq96 (fr_mono F2 (by decide))), rfl⟩
      · simp only [ob_e, bd_e, ↓reduceIte, one_ne, zro_eq, bI_t0, bI_f0, decide_true, decide_false, eq_false e, not_false_eq_true, e_fewestLiars J2]
        exact ⟨_, _, m_lset J2 (by omega) x 16 0 0 FU (by omega) (by unfold FU; omega), fq_trans (fq_thr d1 0) (fq96 (fr_mono F2 (by decide))), rfl⟩
