-- PURE ROWS: the class's choices of a person
def mo (w k : Nat) : Nat := if w = 1 then 1 else if w = 2 + 2 * k then 2 else if w = 3 + 2 * k then 3 else 0
theorem mo_lt (w k : Nat) : mo w k < 4 := by
  unfold mo
  split
  · omega
  · split
    · omega
    · split <;> omega
theorem e_modeOf {w k : Nat} (hw : w < 100) (hk : k < 100) (d : DD) : f_X8_modeOf (nI w) (nI k) d = some (nI (mo w k), d) := by
  unfold f_X8_modeOf mo
  simp (disch := omega) only [nI_lit, pk_mul, nI_add, nI_eq]
  split
  · rfl
  · split
    · rfl
    · split <;> rfl
theorem e_fittingBy {h : Nat → Nat} {n : Nat} {d : DD} (G : FD h n d) {a w k : Nat} (ha : a < 4) (hw : w < 8) (hk : k < 3) : f_X8_fittingBy (nI a) (nI w) (nI k) d = some (mkL (FI h n a (mo w k) k), d) := by
  have hm := mo_lt w k
  unfold f_X8_fittingBy
  rw [e_modeOf (by omega) (by omega), ob_e, e_fidx, ob_e, e_X9_longAt, ob_e, rd2_in (by rw [ln_73]; omega), G a (mo w k) k ha hm hk]
def CD (d : DD) (L : List (Nat × (Nat → Nat → Bool))) : Prop := d.1 72 2 = nI L.length ∧ ∀ i b, L[i]? = some b → d.1 74 i = nI b.1 ∧ ∀ k, k < 3 → d.2 75 (3 * i + k) = mkL (b.2 k)
def sT (X Y : Nat → Nat → Bool) : Prop := ∀ k, k < 3 → mkL (X k) = mkL (Y k)
theorem iln_l {d : DD} {c n : Nat} (hc : c < 8) (hn : n < 8) (h72 : d.1 72 2 = nI n) : ∀ (m k f : Nat), k + m = 3 → m < f → ∃ b : Bool, f_X8_isLikeNew_2 f (nI c) (nI k) d = some (bI b, d) ∧ (b = true ↔ ∀ j, k ≤ j → j < 3 → d.2 75 (3 * c + j) = d.2 75 (3 * n + j)) := by
  intro m
  induction m with
  | zero =>
    intro k f hi hf
    cases f with
    | zero => omega
    | succ f =>
      refine ⟨true, ?_, ?_⟩
      · show f_X8_isLikeNew_2B (f_X8_isLikeNew_2 f) _ _ _ = _
        unfold f_X8_isLikeNew_2B
        rw [if_neg (by rw [nI_lit, nI_ltI (by omega) (by omega)]; omega)]
        rfl
      · constructor
        · intro _ j h1 h2
          omega
        · intro _
          rfl
  | succ m ih =>
    intro k f hi hf
    cases f with
    | zero => omega
    | succ f =>
      obtain ⟨b, e, hb⟩ := ih (k + 1) f (by omega) (by omega)
      have s : f_X8_isLikeNew_2 (f + 1) (nI c) (nI k) d = f_X8_isLikeNew_2B (f_X8_isLikeNew_2 f) (nI c) (nI k) d := rfl
      rw [s]
      unfold f_X8_isLikeNew_2B
      simp (disch := omega) only [bd_e, ob_e, ow_ret_e, u1_at, u1_2, u2_at, u2_1, ↓reduceIte, false_and, true_and, and_true, and_false, not_true_eq_false, not_false_eq_true, decide_true, decide_false, Bool.true_and, Bool.false_and, Bool.and_true, Bool.and_false, Bool.or_false, Bool.false_or, Bool.true_or, Bool.or_true, ↓mI_lit, ↓mL_lit, nI_lit, lN_lit, nI_add, pk_mul, lN_add, lN_mul, nI_ltI, nI_eq, nI_clamp, ix_nI, ix_mI, nI_mI, mI_nI, lN_mL, mL_lN, mI_lt, lt_mI, pI_mI, pI_nI, pI_eq, pI_lt0, pI_e, Nat.not_lt_zero, Nat.zero_add, Nat.add_zero, ix_T, lt_T, lt_F, eq_T, eq_F, e_X9_longAt, h72]
      rw [rd2_in (by rw [ln_75]; omega), rd2_in (by rw [ln_75]; omega), Nat.mul_comm c 3, Nat.mul_comm n 3]
      by_cases q : d.2 75 (3 * c + k) = d.2 75 (3 * n + k)
      · rw [if_pos q]
        refine ⟨b, e, ?_⟩
        rw [hb]
        constructor
        · intro z j h1 h2
          by_cases r : j = k
          · rw [r]; exact q
          · exact z j (by omega) h2
        · intro z j h1 h2
          exact z j (by omega) h2
      · rw [if_neg q]
        refine ⟨false, rfl, ?_⟩
        constructor
        · intro z
          cases z
        · intro z
          exact absurd (z k (Nat.le_refl _) (by omega)) q
theorem e_isLikeNew {d : DD} {c n : Nat} (hc : c < 8) (hn : n < 8) (h72 : d.1 72 2 = nI n) : ∃ b : Bool, f_X8_isLikeNew (nI c) d = some (bI b, d) ∧ (b = true ↔ ∀ j, j < 3 → d.2 75 (3 * c + j) = d.2 75 (3 * n + j)) := by
  obtain ⟨b, e, hb⟩ := iln_l hc hn h72 3 0 FU (by omega) (by unfold FU; omega)
  exact ⟨b, e, by rw [hb]; exact ⟨fun z j hj => z j (Nat.zero_le _) hj, fun z j _ hj => z j hj⟩⟩
def F7 (d d' : DD) : Prop := ∀ j, j ≠ 2 → d'.1 72 j = d.1 72 j
theorem cd_get {d : DD} {L : List (Nat × (Nat → Nat → Bool))} (h : CD d L) {i : Nat} (hi : i < L.length) : ∃ b, L[i]? = some b ∧ b ∈ L ∧ d.1 74 i = nI b.1 ∧ ∀ k, k < 3 → d.2 75 (3 * i + k) = mkL (b.2 k) := by
  have e : L[i]? = some L[i] := List.getElem?_eq_getElem hi
  exact ⟨L[i], e, List.getElem_mem hi, h.2 i _ e⟩
def FCR (L : List (Nat × (Nat → Nat → Bool))) (X : Nat → Nat → Bool) (r : Int32) (d' : DD) : Prop := (∃ i b, L[i]? = some b ∧ sT b.2 X ∧ r = nI i ∧ CD d' L) ∨ ((∀ b, b ∈ L → ¬ sT b.2 X) ∧ r = nI L.length ∧ CD d' (L ++ [(0, X)]))
theorem fc37 {d : DD} {L : List (Nat × (Nat → Nat → Bool))} {X : Nat → Nat → Bool} (hL : L.length < 8) (C : CD d L) (hX : ∀ k, k < 3 → d.2 75 (3 * L.length + k) = mkL (X k)) : ∀ (m c f : Nat), c + m = L.length → m < f → (∀ i b, i < c → L[i]? = some b → ¬ sT b.2 X) → OW (f_X8_findChoice_37 f (nI c) d) (fun r d' => FR [72, 74] d d' ∧ F7 d d' ∧ FCR L X r d') := by
  intro m
  induction m with
  | zero =>
    intro c f hi hf G
    cases f with
    | zero => omega
    | succ f =>
      show OW (f_X8_findChoice_37B (f_X8_findChoice_37 f) _ _) _
      unfold f_X8_findChoice_37B
      have e : c = L.length := by omega
      subst e
      rw [C.1, if_neg (by rw [nI_ltI (by omega) (by omega)]; omega), e_X9_put, ob_e, wr1_in (by rw [ln_74]; exact hL)]
      simp only [bd_e, u1_at, false_and, if_false, true_and, if_true, C.1, nI_lit, nI_add, Nat.reduceEqDiff, and_self, pI_e, pI_s]
      refine ow_ret ⟨fr_u1 (fr_u1 (fr_refl _ _) (by decide)) (by decide), ?_, Or.inr ⟨?_, rfl, ?_, ?_⟩⟩
      · intro j hj
        rw [u1_at, if_neg (fun z => hj z.2), u1_at, if_neg (fun z => absurd z.1 (by decide))]
      · intro b hb
        obtain ⟨i, hi', e⟩ := List.getElem_of_mem hb
        exact G i b hi' (by rw [List.getElem?_eq_getElem hi', e])
      · rw [u1_at, if_pos ⟨rfl, rfl⟩, List.length_append]
        rfl
      · intro i b e
        rcases Nat.lt_trichotomy i L.length with z | z | z
        · rw [List.getElem?_append_left z] at e
          have := C.2 i b e
          refine ⟨?_, this.2⟩
          rw [u1_at, if_neg (fun z => absurd z.1 (by decide)), u1_at, if_neg (by omega)]
          exact this.1
        · subst z
          rw [List.getElem?_append_right (Nat.le_refl _), Nat.sub_self] at e
          have : some (0, X) = some b := e
          injection this with this
          subst this
          refine ⟨?_, hX⟩
          rw [u1_at, if_neg (fun z => absurd z.1 (by decide)), u1_at, if_pos ⟨rfl, rfl⟩]
        · rw [List.getElem?_eq_none (by rw [List.length_append, List.length_singleton]; omega)] at e
          cases e
  | succ m ih =>
    intro c f hi hf G
    cases f with
    | zero => omega
    | succ f =>
      show OW (f_X8_findChoice_37B (f_X8_findChoice_37 f) _ _) _
      unfold f_X8_findChoice_37B
      obtain ⟨b, e, hb⟩ := e_isLikeNew (d := d) (c := c) (n := L.length) (by omega) hL C.1
      obtain ⟨q, eq, hq, _, q75⟩ := cd_get C (i := c) (by omega)
      have hs : b = true ↔ sT q.2 X := by
        rw [hb]
        unfold sT
        constructor
        · intro z k hk
          rw [← q75 k hk, ← hX k hk]
          exact z k hk
        · intro z k hk
          rw [q75 k hk, hX k hk]
          exact z k hk
      rw [C.1, if_pos (by rw [nI_ltI (by omega) (by omega)]; omega), e, ob_e]
      cases b with
      | false =>
        show OW (if bI false = 0 then f_X8_findChoice_37 f (nI c + 1) d else some (nI c, d)) _
        rw [if_pos (show bI false = 0 from rfl), nI_1]
        refine ih (c + 1) f (by omega) (by omega) (fun i b' hi' e' => ?_)
        by_cases r : i = c
        · subst r
          rw [eq] at e'
          injection e' with e'
          subst e'
          intro z
          exact absurd (hs.mpr z) (by decide)
        · exact G i b' (by omega) e'
      | true =>
        show OW (if bI true = 0 then f_X8_findChoice_37 f (nI c + 1) d else some (nI c, d)) _
        rw [if_neg (show ¬ bI true = 0 by decide)]
        exact ow_ret ⟨fr_refl _ _, fun j _ => rfl, Or.inl ⟨c, q, eq, hs.mp rfl, rfl, C⟩⟩
theorem fc2 {h : Nat → Nat} {n : Nat} {d0 : DD} {L : List (Nat × (Nat → Nat → Bool))} (hL : L.length < 8) (C : CD d0 L) (G : FD h n d0) {a w : Nat} (ha : a < 4) (hw : w < 8) : ∀ (m k f : Nat) (d : DD), k + m = 3 → m < f → FR [75] d0 d → (∀ i, i < 3 * L.length → d.2 75 i = d0.2 75 i) → (∀ j, j < k → d.2 75 (3 * L.length + j) = mkL (FI h n a (mo w j) j)) → OW (f_X8_findChoice_2 f (nI a) (nI w) (nI k) d) (fun r d' => FR [72, 74, 75] d0 d' ∧ F7 d0 d' ∧ FCR L (fun k => FI h n a (mo w k) k) r d') := by
  intro m
  induction m with
  | zero =>
    intro k f d hi hf F H X
    cases f with
    | zero => omega
    | succ f =>
      show OW (f_X8_findChoice_2B (f_X8_findChoice_2 f) _ _ _ _) _
      unfold f_X8_findChoice_2B
      rw [if_neg (by rw [nI_lit, nI_ltI (by omega) (by omega)]; omega)]
      have C' : CD d L := by
        refine ⟨by rw [(F 72 (by decide)).1]; exact C.1, fun i b e => ?_⟩
        have hi' : i < L.length := by
          rcases Nat.lt_or_ge i L.length with z | z
          · exact z
          · rw [List.getElem?_eq_none z] at e; cases e
        have := C.2 i b e
        exact ⟨by rw [(F 74 (by decide)).1]; exact this.1, fun j hj => by rw [H _ (by omega)]; exact this.2 j hj⟩
      refine ow_mono (fc37 hL C' (X := fun k => FI h n a (mo w k) k) (fun j hj => X j (by omega)) L.length 0 FU (by omega) (by unfold FU; omega) (fun i b hi' => by omega)) ?_
      intro r d' Hr
      refine ⟨fr_trans (fr_mono F (by decide)) (fr_mono Hr.1 (by decide)), fun j hj => ?_, Hr.2.2⟩
      rw [Hr.2.1 j hj, (F 72 (by decide)).1]
  | succ m ih =>
    intro k f d hi hf F H X
    cases f with
    | zero => omega
    | succ f =>
      show OW (f_X8_findChoice_2B (f_X8_findChoice_2 f) _ _ _ _) _
      unfold f_X8_findChoice_2B
      have G' : FD h n d := fun a' m' k' x y z => by rw [(F 73 (by decide)).2]; exact G a' m' k' x y z
      have c72 : d.1 72 2 = nI L.length := by rw [(F 72 (by decide)).1]; exact C.1
      rw [if_pos (by rw [nI_lit, nI_ltI (by omega) (by omega)]; omega), e_fittingBy G' ha hw (by omega), ob_e, e_X9_putLong, ob_e, c72]
      simp only [nI_lit, pk_mul, nI_add]
      rw [wr2_in (by rw [ln_75]; omega)]
      refine ih (k + 1) f _ (by omega) (by omega) (fr_u2 F (by decide)) (fun i hi' => ?_) (fun j hj => ?_)
      · rw [u2_at, if_neg (by omega)]
        exact H i hi'
      · rw [u2_at]
        by_cases q : j = k
        · subst q
          rw [if_pos ⟨rfl, by omega⟩]
        · rw [if_neg (by omega)]
          exact X j (by omega)
theorem e_findChoice {h : Nat → Nat} {n : Nat} {d : DD} {L : List (Nat × (Nat → Nat → Bool))} (hL : L.length < 8) (C : CD d L) (G : FD h n d) {a w : Nat} (ha : a < 4) (hw : w < 8) : OW (f_X8_findChoice (nI a) (nI w) d) (fun r d' => FR [72, 74, 75] d d' ∧ F7 d d' ∧ FCR L (fun k => FI h n a (mo w k) k) r d') := fc2 hL C G ha hw 3 0 FU d (by omega) (by unfold FU; omega) (fr_refl _ _) (fun _ _ => rfl) (fun j hj => by omega)
-- sums over small ranges
def cs : Nat → (Nat → Nat) → Nat
  | 0, _ => 0
  | n + 1, F => cs n F + F n
theorem cs_congr : ∀ {n : Nat} {F G : Nat → Nat}, (∀ i, i < n → F i = G i) → cs n F = cs n G
  | 0, _, _, _ => rfl
  | n + 1, F, G, h => by
    unfold cs
    rw [cs_congr (n := n) (fun i hi => h i (by omega)), h n (by omega)]
theorem cs_0 : ∀ {n : Nat} {F : Nat → Nat}, (∀ i, i < n → F i = 0) → cs n F = 0
  | 0, _, _ => rfl
  | n + 1, F, h => by
    unfold cs
    rw [cs_0 (n := n) (fun i hi => h i (by omega)), h n (by omega)]
theorem cs_add : ∀ {n : Nat} {F G : Nat → Nat}, cs n (fun i => F i + G i) = cs n F + cs n G
  | 0, _, _ => rfl
  | n + 1, F, G => by
    show cs n (fun i => F i + G i) + (F n + G n) = cs n F + F n + (cs n G + G n)
    rw [cs_add]
    omega
theorem cs_one {n w : Nat} {F : Nat → Nat} (hw : w < n) : cs n (fun i => if i = w then F i else 0) = F w := by
  induction n with
  | zero => omega
  | succ n ih =>
    show cs n (fun i => if i = w then F i else 0) + (if n = w then F n else 0) = F w
    by_cases e : n = w
    · subst e
      rw [if_pos rfl, cs_0 (fun i hi => if_neg (by omega)), Nat.zero_add]
    · rw [if_neg e, Nat.add_zero, ih (by omega)]
theorem sm_append {α : Type} (G : α → Nat) : ∀ (l r : List α), sm G (l ++ r) = sm G l + sm G r
  | [], r => (Nat.zero_add _).symm
  | x :: l, r => by
    show G x + sm G (l ++ r) = G x + sm G l + sm G r
    rw [sm_append G l r, Nat.add_assoc]
theorem sm_set {α : Type} (G : α → Nat) : ∀ (l : List α) (i : Nat) (x y : α), l[i]? = some x → sm G (l.set i y) + G x = sm G l + G y
  | [], i, x, y, h => by cases h
  | z :: l, 0, x, y, h => by
    have : some z = some x := h
    injection this with this
    subst this
    show G y + sm G l + G z = G z + sm G l + G y
    omega
  | z :: l, i + 1, x, y, h => by
    have := sm_set G l i x y h
    show G z + sm G (l.set i y) + G x = G z + sm G l + G y
    omega
theorem sm_congr {α : Type} {F G : α → Nat} : ∀ {l : List α}, (∀ x, x ∈ l → F x = G x) → sm F l = sm G l
  | [], _ => rfl
  | x :: l, h => by
    show F x + sm F l = G x + sm G l
    rw [h x List.mem_cons_self, sm_congr (fun y hy => h y (List.mem_cons_of_mem _ hy))]
theorem sm_0 {α : Type} {F : α → Nat} : ∀ {l : List α}, (∀ x, x ∈ l → F x = 0) → sm F l = 0
  | [], _ => rfl
  | x :: l, h => by
    show F x + sm F l = 0
    rw [h x List.mem_cons_self, sm_0 (fun y hy => h y (List.mem_cons_of_mem _ hy))]
def mw (G : Nat → Nat) (s : Nat) : Nat := cs 8 (fun v => if s.testBit v = true then G v else 0)
theorem mw_or {G : Nat → Nat} {s w : Nat} (hw : w < 8) (hb : s.testBit w = false) : mw G (s ||| 2 ^ w) = mw G s + G w := by
  unfold mw
  have e : cs 8 (fun v => if (s ||| 2 ^ w).testBit v = true then G v else 0) = cs 8 (fun v => (if s.testBit v = true then G v else 0) + (if v = w then G v else 0)) := by
    apply cs_congr
    intro v _
    rw [or_bit_tb]
    by_cases e : w = v
    · subst e
      rw [hb]
      simp
    · have e' : ¬ v = w := fun z => e z.symm
      simp [e, e']
  rw [e, cs_add, cs_one hw]
def CI (h : Nat → Nat) (n a w : Nat) (L : List (Nat × (Nat → Nat → Bool))) : Prop := L.length ≤ w ∧ (∀ G : Nat → Nat, sm (fun b => mw G b.1) L = cs w (fun v => if wb h a v = true then G v else 0)) ∧ (∀ b, b ∈ L → b.1 < 2 ^ 8 ∧ (∃ v, b.1.testBit v = true) ∧ ∀ v, b.1.testBit v = true → v < w ∧ wb h a v = true ∧ sT b.2 (fun k => FI h n a (mo v k) k)) ∧ L.Pairwise (fun x y => ¬ sT x.2 y.2)
theorem st_trans {X Y Z : Nat → Nat → Bool} (h : sT X Y) (g : sT Y Z) : sT X Z := fun k hk => (h k hk).trans (g k hk)
theorem st_symm {X Y : Nat → Nat → Bool} (h : sT X Y) : sT Y X := fun k hk => (h k hk).symm
theorem st_refl (X : Nat → Nat → Bool) : sT X X := fun _ _ => rfl
theorem ci_none {h : Nat → Nat} {n a w : Nat} {L : List (Nat × (Nat → Nat → Bool))} (I : CI h n a w L) (hb : wb h a w = false) : CI h n a (w + 1) L := by
  refine ⟨by have := I.1; omega, fun G => ?_, fun b hb' => ?_, I.2.2.2⟩
  · rw [I.2.1 G]
    show _ = cs w (fun v => if wb h a v = true then G v else 0) + (if wb h a w = true then G w else 0)
    rw [if_neg (by rw [hb]; decide), Nat.add_zero]
  · obtain ⟨h1, h2, h3⟩ := I.2.2.1 b hb'
    exact ⟨h1, h2, fun v hv => ⟨by have := (h3 v hv).1; omega, (h3 v hv).2⟩⟩
theorem ci_new {h : Nat → Nat} {n a w : Nat} {L : List (Nat × (Nat → Nat → Bool))} (I : CI h n a w L) (hw : w < 8) (hb : wb h a w = true) (hn : ∀ b, b ∈ L → ¬ sT b.2 (fun k => FI h n a (mo w k) k)) : CI h n a (w + 1) (L ++ [(2 ^ w, fun k => FI h n a (mo w k) k)]) := by
  refine ⟨by rw [List.length_append, List.length_singleton]; have := I.1; omega, fun G => ?_, fun b hb' => ?_, ?_⟩
  · rw [sm_append, I.2.1 G]
    show _ + (mw G (2 ^ w) + 0) = cs w _ + (if wb h a w = true then G w else 0)
    rw [if_pos hb]
    have := mw_or (G := G) (s := 0) hw (Nat.zero_testBit _)
    rw [Nat.zero_or] at this
    have z : mw G 0 = 0 := cs_0 (fun i _ => by rw [Nat.zero_testBit]; rfl)
    rw [this, z]
    omega
  · rcases List.mem_append.mp hb' with m | m
    · obtain ⟨h1, h2, h3⟩ := I.2.2.1 b m
      exact ⟨h1, h2, fun v hv => ⟨by have := (h3 v hv).1; omega, (h3 v hv).2⟩⟩
    · rw [List.mem_singleton] at m
      subst m
      refine ⟨Nat.pow_lt_pow_right (by decide) hw, ⟨w, Nat.testBit_two_pow_self⟩, fun v hv => ?_⟩
      have e : w = v := by
        have hv' : (2 ^ w).testBit v = true := hv
        rw [Nat.testBit_two_pow] at hv'
        simpa using hv'
      subst e
      exact ⟨by omega, hb, st_refl _⟩
  · rw [List.pairwise_append]
    refine ⟨I.2.2.2, List.pairwise_singleton _ _, fun x hx y hy => ?_⟩
    rw [List.mem_singleton] at hy
    subst hy
    exact hn x hx
theorem ci_old {h : Nat → Nat} {n a w i : Nat} {L : List (Nat × (Nat → Nat → Bool))} {b : Nat × (Nat → Nat → Bool)} (I : CI h n a w L) (hw : w < 8) (hb : wb h a w = true) (hi : L[i]? = some b) (hs : sT b.2 (fun k => FI h n a (mo w k) k)) : CI h n a (w + 1) (L.set i (b.1 ||| 2 ^ w, b.2)) := by
  have hbm : b ∈ L := List.mem_of_getElem? hi
  obtain ⟨q1, q2, q3⟩ := I.2.2.1 b hbm
  have nb : b.1.testBit w = false := by
    cases c : b.1.testBit w
    · rfl
    · have := (q3 w c).1
      omega
  refine ⟨by rw [List.length_set]; have := I.1; omega, fun G => ?_, fun b' hb' => ?_, ?_⟩
  · have s := sm_set (fun b => mw G b.1) L i b (b.1 ||| 2 ^ w, b.2) hi
    have e := I.2.1 G
    have m := mw_or (G := G) hw nb
    show _ = cs w _ + (if wb h a w = true then G w else 0)
    rw [if_pos hb]
    dsimp only at s
    omega
  · rcases List.mem_or_eq_of_mem_set hb' with m | m
    · obtain ⟨h1, h2, h3⟩ := I.2.2.1 b' m
      exact ⟨h1, h2, fun v hv => ⟨by have := (h3 v hv).1; omega, (h3 v hv).2⟩⟩
    · subst m
      refine ⟨Nat.or_lt_two_pow q1 (Nat.pow_lt_pow_right (by decide) hw), ⟨w, ?_⟩, fun v hv => ?_⟩
      · show (b.1 ||| 2 ^ w).testBit w = true
        rw [or_bit_tb]
        simp
      · have hv' : (b.1 ||| 2 ^ w).testBit v = true := hv
        rw [or_bit_tb] at hv'
        by_cases c : b.1.testBit v = true
        · exact ⟨by have := (q3 v c).1; omega, (q3 v c).2⟩
        · have e : w = v := by simpa [c] using hv'
          subst e
          exact ⟨by omega, hb, hs⟩
  · rw [List.pairwise_iff_getElem] at *
    intro x y hx hy hxy
    rw [List.length_set] at hx hy
    have e : ∀ j (hj : j < L.length), ((L.set i (b.1 ||| 2 ^ w, b.2))[j]'(by rw [List.length_set]; exact hj)).2 = L[j].2 := by
      intro j hj
      rw [List.getElem_set]
      by_cases c : i = j
      · subst c
        rw [if_pos rfl]
        have : L[i]? = some L[i] := List.getElem?_eq_getElem hj
        rw [this] at hi
        injection hi with hi
        rw [hi]
      · rw [if_neg c]
    rw [e x hx, e y hy]
    exact (List.pairwise_iff_getElem.mp I.2.2.2) x y hx hy hxy
