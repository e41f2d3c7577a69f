-- PURE ROWS: the table, whole
theorem m102_l {h : Nat → Nat} {g : Nat → Nat} {n k : Nat} {d0 : DD} (V : VH h) (M : HM d0 h) (sz : d0.1 86 3 = nI n) (hk : k < h 0) (hn : n ≤ 4) (C : ∀ i, i < n → d0.1 87 i &&& 255 = nI (g i)) (tr : Nat) (L : Nat → Nat) (Q : Int32 → DD → Prop) (K : ∀ d, MTB (tn (h (2 + k)) (h (5 + k))) (h (2 + k)) tr L g n d0 (0 * n) d → OW (f_X10_table_144 FU (nI k) (mkL (PQ (tn (h (2 + k)) (h (5 + k))) (h (2 + k)) tr L n (0 * n))) (0 : Int64) (nI (0 * n)) d) Q) : ∀ (m i f : Nat) (d : DD), i + m = n → m < f → FR [104] d0 d → (∀ q, q < i → d.1 104 q = nI (g q)) → OW (f_X10_table_102 f (nI k) (nI i) d) Q := by
  have v0 := V.1
  have v := V.2.2.1 k hk
  have tle := tn_le (lo := h (2 + k)) v.2.2.1
  intro m
  induction m with
  | zero =>
    intro i f d hi hf F h104
    cases f with
    | zero => omega
    | succ f =>
      show OW (f_X10_table_102B (f_X10_table_102 f) _ _ _) Q
      unfold f_X10_table_102B
      have e : i = n := by omega
      subst e
      have szd : d.1 86 3 = nI i := by rw [(F 86 (by decide)).1]; exact sz
      have Md : HM d h := hm_fr M F (by decide) (by decide) (by decide)
      have m95 := Md.2.1 k hk
      have I : MTB (tn (h (2 + k)) (h (5 + k))) (h (2 + k)) tr L g i d0 (0 * i) d := by
        rw [Nat.zero_mul]
        exact ⟨fr_mono F (by decide), h104, fun q hq => absurd hq (Nat.not_lt_zero q)⟩
      have q := K d I
      rw [Nat.zero_mul] at q
      rw [szd, if_neg (by rw [nI_ltI (by omega) (by omega)]; omega), if_pos ((ix_nI (by omega)).mpr (by rw [ln_95]; omega)), nI_clamp (show k < 2 ^ 31 by omega), m95, bd_e, show ((1 : Int64) <<< ((nI (tn (h (2 + k)) (h (5 + k)))).toInt64 &&& 63)) - (1 : Int64) = mkL (fun i => decide (i < tn (h (2 + k)) (h (5 + k)))) from mk_full (by omega)]
      exact q
  | succ m ih =>
    intro i f d hi hf F h104
    cases f with
    | zero => omega
    | succ f =>
      show OW (f_X10_table_102B (f_X10_table_102 f) _ _ _) Q
      unfold f_X10_table_102B
      have hi' : i < n := by omega
      have szd : d.1 86 3 = nI n := by rw [(F 86 (by decide)).1]; exact sz
      have oc : d.1 87 i &&& 255 = nI (g i) := by rw [(F 87 (by decide)).1]; exact C i hi'
      rw [szd, if_pos (by rw [nI_ltI (by omega) (by omega)]; exact hi'), e_X10_octet (by omega) oc, ob_e]
      dsimp only
      rw [if_pos ((ix_nI (by omega)).mpr (by rw [ln_104]; omega)), nI_clamp (show i < 2 ^ 31 by omega), bd_e, nI_1]
      refine ih (i + 1) f _ (by omega) (by omega) (fr_u1 F (by decide)) (fun q hq => ?_)
      rw [u1_at]
      by_cases c : q = i
      · rw [if_pos ⟨rfl, c⟩, c]
      · rw [if_neg (fun z => c z.2)]
        exact h104 q (by omega)
def gdS (h g : Nat → Nat) (q : Nat) : Prop := g q < h 1 ∧ ∀ j, j < q → g j ≠ g q
theorem m68_l {g : Nat → Nat} {d : DD} {i : Nat} (hi : i ≤ 940) (hg : ∀ i, g i < 256) (C : ∀ q, q ≤ i → d.1 87 q &&& 255 = nI (g q)) (hi2 : i < 940) (k44 : Int32 → Int32 → DD → Option (Int32 × DD)) (v1 : Int32) : ∀ (m j f : Nat), j + m = i → m < f → ((∀ q, j ≤ q → q < i → g q ≠ g i) → f_X10_table_68 k44 f v1 (nI i) (nI j) d = k44 v1 (nI (i + 1)) d) ∧ ((∃ q, j ≤ q ∧ q < i ∧ g q = g i) → f_X10_table_68 k44 f v1 (nI i) (nI j) d = some ((-1 : Int32), d)) := by
  intro m
  induction m with
  | zero =>
    intro j f hj hf
    cases f with
    | zero => omega
    | succ f =>
      have e : f_X10_table_68 k44 (f + 1) v1 (nI i) (nI j) d = k44 v1 (nI (i + 1)) d := by
        show f_X10_table_68B k44 (f_X10_table_68 k44 f) _ _ _ _ = _
        unfold f_X10_table_68B
        rw [if_neg (by rw [nI_ltI (by omega) (by omega)]; omega), nI_1]
      exact ⟨fun _ => e, fun ⟨q, h1, h2, _⟩ => by omega⟩
  | succ m ih =>
    intro j f hj hf
    cases f with
    | zero => omega
    | succ f =>
      obtain ⟨i1, i2⟩ := ih (j + 1) f (by omega) (by omega)
      have gj := hg j
      have gi := hg i
      have st : f_X10_table_68 k44 (f + 1) v1 (nI i) (nI j) d = if nI (g j) = nI (g i) then some ((-1 : Int32), d) else f_X10_table_68 k44 f v1 (nI i) (nI (j + 1)) d := by
        show f_X10_table_68B k44 (f_X10_table_68 k44 f) _ _ _ _ = _
        unfold f_X10_table_68B
        rw [if_pos (by rw [nI_ltI (by omega) (by omega)]; omega), e_X10_octet (by omega) (C j (by omega)), ob_e]
        dsimp only
        rw [e_X10_octet (by omega) (C i (by omega)), ob_e, nI_1]
      constructor
      · intro T
        rw [st, if_neg (fun z => T j (Nat.le_refl _) (by omega) ((nI_eq (by omega) (by omega)).mp z))]
        exact i1 (fun q h1 h2 => T q (by omega) h2)
      · rintro ⟨q, h1, h2, h3⟩
        rw [st]
        by_cases c : g j = g i
        · rw [if_pos (by rw [c])]
        · rw [if_neg (fun z => c ((nI_eq (by omega) (by omega)).mp z))]
          refine i2 ⟨q, ?_, h2, h3⟩
          rcases Nat.lt_or_ge j q with z | z
          · exact z
          · have : q = j := by omega
            subst this
            exact absurd h3 c
theorem m44_l {h g : Nat → Nat} {d : DD} {n : Nat} (V : VH h) (M : HM d h) (hn : n ≤ 4) (hg : ∀ i, g i < 256) (C : ∀ q, q < n → d.1 87 q &&& 255 = nI (g q)) (sz : d.1 86 3 = nI n) (v1 : Int32) : ∀ (m i f : Nat), i + m = n → m < f → ((∀ q, i ≤ q → q < n → gdS h g q) → f_X10_table_44 f v1 (nI i) d = f_X10_table_102 FU v1 0 d) ∧ ((∃ q, i ≤ q ∧ q < n ∧ ¬ gdS h g q) → f_X10_table_44 f v1 (nI i) d = some ((-1 : Int32), d)) := by
  have w1 := V.2.1
  intro m
  induction m with
  | zero =>
    intro i f hi hf
    cases f with
    | zero => omega
    | succ f =>
      have e : f_X10_table_44 (f + 1) v1 (nI i) d = f_X10_table_102 FU v1 0 d := by
        show f_X10_table_44B (f_X10_table_44 f) _ _ _ = _
        unfold f_X10_table_44B
        rw [sz, if_neg (by rw [nI_ltI (by omega) (by omega)]; omega)]
      exact ⟨fun _ => e, fun ⟨q, h1, h2, _⟩ => by omega⟩
  | succ m ih =>
    intro i f hi hf
    cases f with
    | zero => omega
    | succ f =>
      obtain ⟨i1, i2⟩ := ih (i + 1) f (by omega) (by omega)
      have gi := hg i
      obtain ⟨j1, j2⟩ := m68_l (g := g) (d := d) (i := i) (by omega) hg (fun q hq => C q (by omega)) (by omega) (f_X10_table_44 f) v1 i 0 FU (by omega) (by unfold FU; omega)
      have st : f_X10_table_44 (f + 1) v1 (nI i) d = if bI (decide (ixb (nI (g i)) (h 1))) = 0 then some ((-1 : Int32), d) else f_X10_table_68 (f_X10_table_44 f) FU v1 (nI i) 0 d := by
        show f_X10_table_44B (f_X10_table_44 f) _ _ _ = _
        unfold f_X10_table_44B
        rw [sz, if_pos (by rw [nI_ltI (by omega) (by omega)]; omega), e_X10_octet (by omega) (C i (by omega)), ob_e]
        dsimp only
        rw [e_X10_isPerson V M, ob_e]
      have pt : g i < h 1 → bI (decide (ixb (nI (g i)) (h 1))) = 1 := fun z => by
        rw [decide_eq_true ((ix_nI (by omega)).mpr z)]; rfl
      have pf : ¬ g i < h 1 → bI (decide (ixb (nI (g i)) (h 1))) = 0 := fun z => by
        rw [decide_eq_false (fun w => z ((ix_nI (by omega)).mp w))]; rfl
      constructor
      · intro T
        have t := T i (Nat.le_refl _) (by omega)
        rw [st, pt t.1, if_neg (show ¬ (1 : Int32) = 0 by decide)]
        refine (j1 (fun q _ h2 => t.2 q h2)).trans ?_
        exact i1 (fun q h1 h2 => T q (by omega) h2)
      · rintro ⟨q, h1, h2, h3⟩
        rw [st]
        by_cases c : g i < h 1
        · rw [pt c, if_neg (show ¬ (1 : Int32) = 0 by decide)]
          by_cases c2 : ∃ j, j < i ∧ g j = g i
          · obtain ⟨j, a, b⟩ := c2
            exact j2 ⟨j, Nat.zero_le j, a, b⟩
          · refine (j1 (fun j _ a b => c2 ⟨j, a, b⟩)).trans ?_
            refine i2 ⟨q, ?_, h2, h3⟩
            rcases Nat.lt_or_ge i q with z | z
            · exact z
            · have : q = i := by omega
              subst this
              exact absurd ⟨c, fun j a b => c2 ⟨j, a, b⟩⟩ h3
        · rw [pf c, if_pos rfl]
def sb (g : Nat → Nat) : Nat → Nat
  | 0 => 0
  | i + 1 => sb g i ||| 2 ^ g i
theorem sb_lt {g : Nat → Nat} : ∀ {i : Nat}, (∀ q, q < i → g q < 4) → sb g i < 2 ^ 4
  | 0, _ => (by decide : 0 < 2 ^ 4)
  | i + 1, h => Nat.or_lt_two_pow (sb_lt (fun q hq => h q (by omega))) (Nat.pow_lt_pow_right (by decide) (h i (by omega)))
theorem sb_tb {g : Nat → Nat} {a : Nat} : ∀ {i : Nat}, (sb g i).testBit a = true ↔ ∃ j, j < i ∧ g j = a
  | 0 => by
    show (0 : Nat).testBit a = true ↔ _
    rw [Nat.zero_testBit]
    exact ⟨fun z => (by cases z), fun ⟨j, hj, _⟩ => absurd hj (Nat.not_lt_zero j)⟩
  | i + 1 => by
    show (sb g i ||| 2 ^ g i).testBit a = true ↔ _
    rw [Nat.testBit_or, Bool.or_eq_true, sb_tb (i := i), Nat.testBit_two_pow, decide_eq_true_iff]
    constructor
    · rintro (⟨j, hj, e⟩ | e)
      · exact ⟨j, by omega, e⟩
      · exact ⟨i, by omega, e⟩
    · rintro ⟨j, hj, e⟩
      rcases Nat.lt_or_ge j i with z | z
      · exact Or.inl ⟨j, z, e⟩
      · have : j = i := by omega
        subst this
        exact Or.inr e
theorem as_l {h nm} {g : Nat → Nat} {d : DD} {n : Nat} (V : VH h) (H : HC 2 d h nm) (hn : n ≤ 4) (hg : ∀ i, g i < 256) (C : ∀ i, i < n → d.1 1 i = nI (g i)) : ∀ (m i f : Nat), i + m = n → m < f → (∀ q, q < i → g q < h 1) → ((∀ q, i ≤ q → q < n → gdS h g q) → f_X9_areSpeakers_16 f (nI n) (nI (sb g i)) (nI i) d = some (1, d)) ∧ ((∃ q, i ≤ q ∧ q < n ∧ ¬ gdS h g q) → f_X9_areSpeakers_16 f (nI n) (nI (sb g i)) (nI i) d = some (0, d)) := by
  have w1 := V.2.1
  intro m
  induction m with
  | zero =>
    intro i f hi hf _
    cases f with
    | zero => omega
    | succ f =>
      have e : f_X9_areSpeakers_16 (f + 1) (nI n) (nI (sb g i)) (nI i) d = some (1, d) := by
        show f_X9_areSpeakers_16B (f_X9_areSpeakers_16 f) _ _ _ _ = _
        unfold f_X9_areSpeakers_16B
        rw [if_neg (by rw [nI_ltI (by omega) (by omega)]; omega)]
      exact ⟨fun _ => e, fun ⟨q, h1, h2, _⟩ => by omega⟩
  | succ m ih =>
    intro i f hi hf P
    cases f with
    | zero => omega
    | succ f =>
      have gi := hg i
      have sl := sb_lt (g := g) (i := i) (fun q hq => by have := P q hq; omega)
      have at1 : rd1 d 1 (nI i) = nI (g i) := by rw [rd1_in (by rw [ln_1]; omega)]; exact C i (by omega)
      have st : f_X9_areSpeakers_16 (f + 1) (nI n) (nI (sb g i)) (nI i) d = if (if ixb (nI (g i)) (h 1) then (1 : Int32) else 0) = 0 then some ((0 : Int32), d) else if (iushr (nI (sb g i)) (nI (g i))) &&& (1 : Int32) = (1 : Int32) then some ((0 : Int32), d) else f_X9_areSpeakers_16 f (nI n) ((nI (sb g i)) ||| ((1 : Int32) <<< (nI (g i) &&& 31))) (nI (i + 1)) d := by
        show f_X9_areSpeakers_16B (f_X9_areSpeakers_16 f) _ _ _ _ = _
        unfold f_X9_areSpeakers_16B
        rw [if_pos (by rw [nI_ltI (by omega) (by omega)]; omega), e_X9_at, ob_e, at1]
        dsimp only
        rw [e_X1_hasPerson V H, ob_e, nI_1]
        rfl
      by_cases c : g i < h 1
      · have se : (nI (sb g i)) ||| ((1 : Int32) <<< (nI (g i) &&& 31)) = nI (sb g (i + 1)) := by
          rw [show (1 : Int32) <<< (nI (g i) &&& 31) = nI (2 ^ g i) from q_shl (by omega), nx_or]
          rfl
        have tb : ((iushr (nI (sb g i)) (nI (g i))) &&& (1 : Int32) = (1 : Int32)) ↔ ∃ j, j < i ∧ g j = g i := (q_uhas (by omega) (by omega)).trans sb_tb
        obtain ⟨i1, i2⟩ := ih (i + 1) f (by omega) (by omega) (fun q hq => by
          rcases Nat.lt_or_ge q i with z | z
          · exact P q z
          · have : q = i := by omega
            subst this
            exact c)
        rw [if_pos ((ix_nI (by omega)).mpr c), if_neg (show ¬ (1 : Int32) = 0 by decide), se] at st
        by_cases c2 : ∃ j, j < i ∧ g j = g i
        · rw [if_pos (tb.mpr c2)] at st
          refine ⟨fun T => ?_, fun _ => st⟩
          obtain ⟨j, a, b⟩ := c2
          exact absurd b ((T i (Nat.le_refl _) (by omega)).2 j a)
        · rw [if_neg (fun z => c2 (tb.mp z))] at st
          rw [st]
          refine ⟨fun T => i1 (fun q h1 h2 => T q (by omega) h2), ?_⟩
          rintro ⟨q, h1, h2, h3⟩
          refine i2 ⟨q, ?_, h2, h3⟩
          rcases Nat.lt_or_ge i q with z | z
          · exact z
          · have : q = i := by omega
            subst this
            exact absurd ⟨c, fun j a b => c2 ⟨j, a, b⟩⟩ h3
      · rw [if_neg (fun z => c ((ix_nI (by omega)).mp z)), if_pos rfl] at st
        exact ⟨fun T => absurd (T i (Nat.le_refl _) (by omega)).1 c, fun _ => st⟩
theorem isIn_14 {n : Nat} (hn : n ≤ 940) (d : DD) : f_X10_isIn (nI n) (1 : Int32) (4 : Int32) d = some (bI (decide (1 ≤ n ∧ n ≤ 4)), d) := by
  unfold f_X10_isIn
  by_cases c1 : n < 1
  · rw [if_pos (show nI n < (1 : Int32) from (nI_ltI (b := 1) (by omega) (by omega)).mpr c1), decide_eq_false (by omega)]
    rfl
  · rw [if_neg (show ¬ nI n < (1 : Int32) from fun z => c1 ((nI_ltI (b := 1) (by omega) (by omega)).mp z))]
    by_cases c2 : 4 < n
    · rw [if_pos (show (4 : Int32) < nI n from (nI_ltI (a := 4) (by omega) (by omega)).mpr c2), decide_eq_false (by omega)]
      rfl
    · rw [if_neg (show ¬ (4 : Int32) < nI n from fun z => c2 ((nI_ltI (a := 4) (by omega) (by omega)).mp z)), decide_eq_true (by omega)]
      rfl
theorem s_table {d : DD} (R : RZ d) (x : Int32) : EQR (f_X9_table x) (f_X10_table x) d := by
  have RR := R
  obtain ⟨⟨h, V, R1⟩, T, R3, R4, R5, R6⟩ := R
  obtain ⟨n, g, hn, hg, t1, t2, gc, gm⟩ := tp_g T
  have v0 := V.1
  have v1 := V.2.1
  have k1 : ∀ a, a ≠ 0 → (u1 d 0 1 0).1 a = d.1 a := by
    intro a h0
    funext j
    rw [u1_at, if_neg (by omega)]
  have RD : RH (u1 d 0 1 0) h := rh_cong R1 (fun a ha => ⟨k1 a (fun z => by rw [z] at ha; exact absurd ha (by decide)), rfl⟩)
  obtain ⟨H, M⟩ := RD
  have MT : HM (tkn (u1 d 0 1 0) 940) h := hm_keep M (tkn_1 (by decide)) (tkn_1 (by decide)) (tkn_1 (by decide))
  have t2' : (u1 d 0 1 0).1 86 2 = nI n := by rw [k1 86 (by decide)]; exact t2
  have gc' : ∀ i, i < n → (u1 d 0 1 0).1 1 i = nI (g i) := fun i hi => by rw [k1 1 (by decide)]; exact gc i hi
  have gm' : ∀ i, i < n → (tkn (u1 d 0 1 0) 940).1 87 i &&& 255 = nI (g i) := fun i hi => by rw [tkn_1 (by decide), k1 87 (by decide)]; exact gm i hi
  have szm : (tkn (u1 d 0 1 0) 940).1 86 3 = nI n := by rw [tkn_size]; exact t2'
  have no : f_X9_table x d = some ((-1 : Int32), u1 d 0 1 0) → f_X10_table x (u1 d 0 1 0) = some ((-1 : Int32), tkn (u1 d 0 1 0) 940) → EQR (f_X9_table x) (f_X10_table x) d := fun a b => ⟨(-1 : Int32), _, _, a, b, rz_emp RR 940⟩
  rcases ix_dec x (n := h 0) (by omega) with ⟨k, hk, rfl⟩ | c
  · have ck := ixt hk (by omega)
    have v := V.2.2.1 k hk
    have tle := tn_le (lo := h (2 + k)) v.2.2.1
    have et := hc_tr hb_2 V H hk
    rw [rf_2_5] at et
    have cl : f_X9_table (nI k) d = if pI (h (8 + k)) = (-1 : Int32) then some ((-1 : Int32), u1 d 0 1 0) else (f_X9_areSpeakers (nI n) (u1 d 0 1 0)).bind fun q5 => if q5.1 = 0 then some ((-1 : Int32), q5.2) else (f_X4_hold 2 (nI k) 1 (nI n) q5.2).bind fun q6 => some (q6.2.1 83 0, q6.2) := by
      unfold f_X9_table
      rw [bd_e, bd_e, e_X1_hasKind V H, ob_e]
      dsimp only
      rw [if_pos ck, if_neg (show ¬ (1 : Int32) = 0 by decide), e_X9_at, ob_e, et, t1]
    have ml : ∀ d1 : DD, HM (tkn d1 940) h → d1.1 86 2 = nI n → f_X10_table (nI k) d1 = if pI (h (8 + k)) < 0 then some ((-1 : Int32), tkn d1 940) else if bI (decide (1 ≤ n ∧ n ≤ 4)) = 0 then some ((-1 : Int32), tkn d1 940) else f_X10_table_44 FU (nI k) 0 (tkn d1 940) := by
      intro d1 M1 e1
      unfold f_X10_table
      rw [bd_e, e_X10_taken, ob_e]
      dsimp only
      rw [e_X10_isKind V M1, ob_e]
      dsimp only
      rw [decide_eq_true ck, if_neg (show ¬ bI true = 0 by decide), e_X10_truly M1 (by omega), ob_e]
      dsimp only
      rw [tkn_size, e1, isIn_14 hn, ob_e]
    by_cases z1 : h (8 + k) = 0
    · refine no ?_ ?_
      · rw [cl, if_pos (show pI (h (8 + k)) = -1 from (pI_mI (by omega)).mpr z1)]
      · rw [ml _ MT t2', if_pos (show pI (h (8 + k)) < 0 from (pI_lt0 (by omega)).mpr z1)]
    · have ncl : ¬ pI (h (8 + k)) = (-1 : Int32) := fun z => z1 ((pI_mI (by omega)).mp z)
      have nml : ¬ pI (h (8 + k)) < 0 := fun z => z1 ((pI_lt0 (by omega)).mp z)
      by_cases z2 : 1 ≤ n ∧ n ≤ 4
      · have as0 : f_X9_areSpeakers (nI n) (u1 d 0 1 0) = f_X9_areSpeakers_16 FU (nI n) 0 0 (u1 d 0 1 0) := by
          unfold f_X9_areSpeakers
          rw [if_neg (show ¬ nI n < (1 : Int32) from fun z => by have := (nI_ltI (b := 1) (by omega) (by omega)).mp z; omega), if_neg (show ¬ (4 : Int32) < nI n from fun z => by have := (nI_ltI (a := 4) (by omega) (by omega)).mp z; omega)]
        have asl := as_l V H z2.2 hg gc' n 0 FU (by omega) (by unfold FU; omega) (fun q hq => absurd hq (Nat.not_lt_zero q))
        by_cases z3 : ∀ q, q < n → gdS h g q
        · have a1 : f_X9_areSpeakers (nI n) (u1 d 0 1 0) = some (1, u1 d 0 1 0) := as0.trans (asl.1 (fun q _ hq => z3 q hq))
          have W : ∀ i, i < n → g i < h 1 := fun i hi => (z3 i hi).1
          obtain ⟨R, hR, sR, nR⟩ := ex_R (N := tn (h (2 + k)) (h (5 + k))) (lo := h (2 + k)) (tr := h (8 + k) - 1) (L := fun i => h (15 + g i)) (n := n) (by omega)
          obtain ⟨_, dc, ec, Ic⟩ := e_hold V H hk (by omega) z2.2 gc' W hR sR nR
          obtain ⟨F, c0, c1, c2, c3⟩ := Ic
          have t2c : dc.1 86 2 = nI n := by rw [(F 86 (by decide)).1]; exact t2'
          have Mc : HM dc h := hm_fr M F (by decide) (by decide) (by decide)
          have MC : HM (tkn dc 940) h := hm_keep Mc (tkn_1 (by decide)) (tkn_1 (by decide)) (tkn_1 (by decide))
          have gmc : ∀ i, i < n → (tkn dc 940).1 87 i &&& 255 = nI (g i) := fun i hi => by rw [tkn_1 (by decide), (F 87 (by decide)).1, k1 87 (by decide)]; exact gm i hi
          have szc : (tkn dc 940).1 86 3 = nI n := by rw [tkn_size]; exact t2c
          have e44 : f_X10_table_44 FU (nI k) 0 (tkn dc 940) = f_X10_table_102 FU (nI k) 0 (tkn dc 940) := (m44_l V MC z2.2 hg gmc szc (nI k) n 0 FU (by omega) (by unfold FU; omega)).1 (fun q _ hq => z3 q hq)
          have nz : ¬ mkL (PQ (tn (h (2 + k)) (h (5 + k))) (h (2 + k)) (h (8 + k) - 1) (fun i => h (15 + g i)) n (0 * n)) = (0 : Int64) := by
            rw [Nat.zero_mul]
            intro z
            have := mk_eq0.mp z 0 (by omega)
            have e : PQ (tn (h (2 + k)) (h (5 + k))) (h (2 + k)) (h (8 + k) - 1) (fun i => h (15 + g i)) n 0 0 = decide (0 < tn (h (2 + k)) (h (5 + k))) := rfl
            rw [e, decide_eq_false_iff_not] at this
            omega
          have mm := m102_l (g := g) V MC szc hk z2.2 gmc (h (8 + k) - 1) (fun i => h (15 + g i)) (MQT (tn (h (2 + k)) (h (5 + k))) (h (2 + k)) (h (8 + k) - 1) (fun i => h (15 + g i)) g n R (tkn dc 940)) (fun d' I' => m144 V MC szc hk (by omega) z2.2 W hR sR nR _ (fun d2 f2 I2 => mEnd V MC szc hk (by omega) z2.2 W I2) R 0 FU d' _ (by omega) (by unfold FU; omega) nz I') n 0 FU (tkn dc 940) (by omega) (by unfold FU; omega) (fr_refl _ _) (fun q hq => absurd hq (Nat.not_lt_zero q))
          obtain ⟨r, dm, em, er, F2, kq, m35, m36, m0, m1, m105⟩ := mm
          subst er
          refine ⟨nI ((R + 1) * n), dc, dm, ?_, ?_, ?_⟩
          · rw [cl, if_neg ncl, a1, ob_e]
            dsimp only
            rw [if_neg (show ¬ (1 : Int32) = 0 by decide), ec, ob_e]
            dsimp only
            rw [c0]
          · rw [ml dc MC t2c, if_neg nml, decide_eq_true z2, if_neg (show ¬ bI true = 0 by decide), e44]
            exact em
          · have kd : ∀ a, a ∉ [0, 83, 84, 85, 86, 104, 105, 106] → dm.1 a = d.1 a ∧ dm.2 a = d.2 a := by
              intro a ha
              have s1 : a ∉ [83, 84, 85] := fun z => ha (by
                simp only [List.mem_cons, List.not_mem_nil, or_false] at z ⊢
                omega)
              have s2 : a ∉ [86, 104, 105, 106] := fun z => ha (by
                simp only [List.mem_cons, List.not_mem_nil, or_false] at z ⊢
                omega)
              simp only [List.mem_cons, List.not_mem_nil, or_false] at ha
              refine ⟨?_, ?_⟩
              · rw [(F2 a s2).1, tkn_1 (by omega), (F a s1).1, k1 a (by omega)]
              · rw [(F2 a s2).2, tkn_2, (F a s1).2]
                rfl
            have kx : ∀ a, a ∉ [86, 104, 105, 106] → dm.1 a = dc.1 a := by
              intro a ha
              rw [(F2 a ha).1, tkn_1 (fun z => ha (by rw [z]; decide))]
            have k0 : ∀ j, j ≠ 1 → dm.1 0 j = d.1 0 j := by
              intro j hj
              rw [kx 0 (by decide), (F 0 (by decide)).1, u1_at, if_neg (by omega)]
            have jm : (R + 1) * n ≤ 37 * 4 := Nat.mul_le_mul (by omega) z2.2
            have k86 : ∀ j, 5 < j → j ≠ 35 → j ≠ 36 → dm.1 86 j = d.1 86 j := by
              intro j hj j1 j2
              rw [kq j j1 j2, tkn_86 hj, (F 86 (by decide)).1, k1 86 (by decide)]
            have sub : ∀ a, a ∈ [2, 3, 4, 5, 6, 7, 8, 9, 10, 11, 12, 13, 14, 15, 88, 92, 94, 95] → a ∉ [0, 83, 84, 85, 86, 104, 105, 106] := by decide
            refine rz_gen RR ⟨h, V, rh_cong R1 (fun a ha => kd a (sub a ha))⟩ (tp_0 ?_ ?_) (fa_cong R3 (k0 2 (by decide)) (k86 16 (by decide) (by decide) (by decide))) ⟨(R + 1) * n, true, by omega, ?_, m35, fun i hi => ?_, m36, fun _ => ⟨?_, ?_⟩, fun z => (by cases z)⟩ (k0 6 (by decide)) (fun a ha => kd a ?_)
            · rw [kx 0 (by decide), (F 0 (by decide)).1, u1_at, if_pos ⟨rfl, rfl⟩]
            · rw [kq 2 (by decide) (by decide)]
              exact tkn_len _ _
            · rw [kx 83 (by decide)]; exact c0
            · rw [kx 84 (by decide), c3 i hi, m105 i hi]
            · rw [kx 83 (by decide), c1, m0]
            · rw [kx 83 (by decide), c2, m1]
            · simp only [List.mem_cons, List.not_mem_nil, or_false]
              omega
        · obtain ⟨q, hq, nq⟩ := not_all z3
          have a0 : f_X9_areSpeakers (nI n) (u1 d 0 1 0) = some (0, u1 d 0 1 0) := as0.trans (asl.2 ⟨q, Nat.zero_le q, hq, nq⟩)
          refine no ?_ ?_
          · rw [cl, if_neg ncl, a0, ob_e]
            dsimp only
            rw [if_pos rfl]
          · rw [ml _ MT t2', if_neg nml, decide_eq_true z2, if_neg (show ¬ bI true = 0 by decide)]
            exact (m44_l V MT z2.2 hg gm' szm (nI k) n 0 FU (by omega) (by unfold FU; omega)).2 ⟨q, Nat.zero_le q, hq, nq⟩
      · have a0 : f_X9_areSpeakers (nI n) (u1 d 0 1 0) = some (0, u1 d 0 1 0) := by
          unfold f_X9_areSpeakers
          by_cases q1 : n < 1
          · rw [if_pos (show nI n < (1 : Int32) from (nI_ltI (b := 1) (by omega) (by omega)).mpr q1)]
          · rw [if_neg (show ¬ nI n < (1 : Int32) from fun z => q1 ((nI_ltI (b := 1) (by omega) (by omega)).mp z)), if_pos (show (4 : Int32) < nI n from (nI_ltI (a := 4) (by omega) (by omega)).mpr (by omega))]
        refine no ?_ ?_
        · rw [cl, if_neg ncl, a0, ob_e]
          dsimp only
          rw [if_pos rfl]
        · rw [ml _ MT t2', if_neg nml, decide_eq_false z2, if_pos (show bI false = 0 from rfl)]
  · refine no ?_ ?_
    · unfold f_X9_table
      rw [bd_e, bd_e, e_X1_hasKind V H, ob_e]
      dsimp only
      rw [if_neg c, if_pos rfl]
    · unfold f_X10_table
      rw [bd_e, e_X10_taken, ob_e]
      dsimp only
      rw [e_X10_isKind V MT, ob_e]
      dsimp only
      rw [decide_eq_false c, if_pos (show bI false = 0 from rfl)]
