-- PURE ROWS: the model's settle
theorem pa_at {lo p ph i : Nat} (h1 : 1 ≤ lo) (h2 : lo ≤ p) (h8 : p ≤ 8) (hph : ph < p) : pa lo (fo lo p + ph) i = decide (i % p = ph) := by
  have st : ∀ q, lo ≤ q → fo lo (q + 1) = fo lo q + q := fun q hq => by
    show fo lo q + (if lo ≤ q then q else 0) = _
    rw [if_pos hq]
  unfold pa
  rw [Bool.eq_iff_iff, List.any_eq_true, decide_eq_true_iff]
  constructor
  · rintro ⟨q, _, hq⟩
    rw [Bool.and_eq_true, decide_eq_true_iff, decide_eq_true_iff] at hq
    obtain ⟨a, b⟩ := hq
    have mq : i % q < q := Nat.mod_lt _ (by omega)
    have e : q = p := by
      rcases Nat.lt_trichotomy q p with z | z | z
      · have := fo_mono lo (p := q + 1) (q := p) (by omega)
        have := st q a
        omega
      · exact z
      · have := fo_mono lo (p := p + 1) (q := q) (by omega)
        have := st p h2
        omega
    rw [e] at b
    omega
  · intro e
    refine ⟨p, List.mem_range.mpr (by omega), ?_⟩
    rw [Bool.and_eq_true, decide_eq_true_iff, decide_eq_true_iff]
    exact ⟨h2, by omega⟩
theorem se51 {d : DD} {k n p ph : Nat} (hk : 36 * k + n < 108) (hp : 1 ≤ p) (hp8 : p ≤ 8) (hph : ph < p) (k2 : Int32 → DD → Option (Unit × DD)) (k23 : Int32 → Int32 → Int32 → DD → Option (Unit × DD)) (k38 : Int32 → Int32 → Int32 → Int32 → DD → Option (Unit × DD)) : ∀ (m u f : Nat), 38 ≤ u + m → m < f → u < 38 → u % p = ph → f_X10_settle_51 k2 k23 k38 f (nI k) (nI n) (nI p) (nI ph) (nI (mkN 30 (fun i => decide (i < u) && decide (i % p = ph)))) (nI u) d = k38 (nI k) (nI (n + 1)) (nI p) (nI (ph + 1)) (u1 d 94 (36 * k + n) (nI (mkN 30 (fun i => decide (i % p = ph))))) := by
  intro m
  induction m with
  | zero =>
    intro u f hu hf hu2 _
    omega
  | succ m ih =>
    intro u f hu hf hu2 hm
    cases f with
    | zero => omega
    | succ f =>
      show f_X10_settle_51B k2 k23 k38 (f_X10_settle_51 k2 k23 k38 f) _ _ _ _ _ _ _ = _
      unfold f_X10_settle_51B
      by_cases c : u < 30
      · rw [if_pos (by rw [nI_lit, nI_ltI (by omega) (by omega)]; exact c), bd_e, bd_e]
        simp only [nI_lit]
        rw [q_shl (by omega), nx_or, mkN_set c, nI_add]
        have e : mkN 30 (fun i => (decide (i < u) && decide (i % p = ph)) || decide (u = i)) = mkN 30 (fun i => decide (i < u + p) && decide (i % p = ph)) := by
          apply mkN_congr
          intro i _
          rw [Bool.eq_iff_iff]
          simp only [Bool.or_eq_true, Bool.and_eq_true, decide_eq_true_iff]
          constructor
          · rintro (⟨a, b⟩ | a)
            · exact ⟨by omega, b⟩
            · subst a
              exact ⟨by omega, hm⟩
          · rintro ⟨a, b⟩
            by_cases z : i < u
            · exact Or.inl ⟨z, b⟩
            · right
              have d1 := Nat.div_add_mod i p
              have d2 := Nat.div_add_mod u p
              rw [b] at d1
              rw [hm] at d2
              have q : i / p = u / p := by
                rcases Nat.lt_trichotomy (i / p) (u / p) with w | w | w
                · have := Nat.mul_le_mul_left p (show i / p + 1 ≤ u / p from w)
                  rw [Nat.mul_succ] at this
                  omega
                · exact w
                · have := Nat.mul_le_mul_left p (show u / p + 1 ≤ i / p from w)
                  rw [Nat.mul_succ] at this
                  omega
              rw [q] at d1
              omega
        rw [e]
        exact ih (u + p) f (by omega) (by omega) (by omega) (by rw [Nat.add_mod_right]; exact hm)
      · rw [if_neg (by rw [nI_lit, nI_ltI (by omega) (by omega)]; exact c)]
        have ix : ixb ((36 : Int32) * nI k + nI n) (ln 94) := by
          rw [show (36 : Int32) = nI 36 from rfl, pk_mul, nI_add]
          exact (ix_nI (by omega)).mpr (by rw [ln_94]; omega)
        have cl : ((36 : Int32) * nI k + nI n).toNatClampNeg = 36 * k + n := by
          rw [show (36 : Int32) = nI 36 from rfl, pk_mul, nI_add, nI_clamp (by omega)]
        rw [if_pos ix, bd_e, cl, nI_1, nI_1]
        have e : mkN 30 (fun i => decide (i < u) && decide (i % p = ph)) = mkN 30 (fun i => decide (i % p = ph)) := by
          apply mkN_congr
          intro i hi
          rw [decide_eq_true (p := i < u) (by omega), Bool.true_and]
        rw [e]
def PT (h : Nat → Nat) (d : DD) (k n : Nat) : Prop := (∀ k', k' < k → d.1 95 k' = nI (TT h k') ∧ ∀ t, t < TT h k' → d.1 94 (36 * k' + t) = nI (mkN 30 (fun u => pa (h (2 + k')) t u))) ∧ ∀ t, t < n → d.1 94 (36 * k + t) = nI (mkN 30 (fun u => pa (h (2 + k)) t u))
theorem se38 {h : Nat → Nat} {d0 : DD} (V : VH h) {k p : Nat} (hk : k < h 0) (hp : h (2 + k) ≤ p) (hp2 : p ≤ h (5 + k)) (k2 : Int32 → DD → Option (Unit × DD)) (k23 : Int32 → Int32 → Int32 → DD → Option (Unit × DD)) (Q : Unit → DD → Prop) (K : ∀ d, FR [94, 95] d0 d → PT h d k (fo (h (2 + k)) (p + 1)) → OW (k23 (nI k) (nI (fo (h (2 + k)) (p + 1))) (nI (p + 1)) d) Q) : ∀ (m ph f : Nat) (d : DD), ph + m = p → m < f → FR [94, 95] d0 d → PT h d k (fo (h (2 + k)) p + ph) → OW (f_X10_settle_38 k2 k23 f (nI k) (nI (fo (h (2 + k)) p + ph)) (nI p) (nI ph) d) Q := by
  have v0 := V.1
  have v := V.2.2.1 k hk
  have fe : fo (h (2 + k)) (p + 1) = fo (h (2 + k)) p + p := by
    show fo (h (2 + k)) p + (if h (2 + k) ≤ p then p else 0) = _
    rw [if_pos hp]
  have f36 := fo_le (h (2 + k)) (p + 1) (by omega)
  intro m
  induction m with
  | zero =>
    intro ph f d hm hf F P
    cases f with
    | zero => omega
    | succ f =>
      show OW (f_X10_settle_38B k2 k23 (f_X10_settle_38 k2 k23 f) _ _ _ _ _) Q
      unfold f_X10_settle_38B
      have e : ph = p := by omega
      subst e
      rw [if_neg (by rw [nI_ltI (by omega) (by omega)]; omega), nI_1, ← fe]
      rw [← fe] at P
      exact K d F P
  | succ m ih =>
    intro ph f d hm hf F P
    cases f with
    | zero => omega
    | succ f =>
      show OW (f_X10_settle_38B k2 k23 (f_X10_settle_38 k2 k23 f) _ _ _ _ _) Q
      unfold f_X10_settle_38B
      rw [if_pos (by rw [nI_ltI (by omega) (by omega)]; omega)]
      have s := se51 (d := d) (k := k) (n := fo (h (2 + k)) p + ph) (p := p) (ph := ph) (by omega) (by omega) (by omega) (by omega) k2 k23 (f_X10_settle_38 k2 k23 f) (38 - ph) ph FU (by omega) (by unfold FU; omega) (by omega) (Nat.mod_eq_of_lt (by omega))
      have z : (0 : Int32) = nI (mkN 30 (fun i => decide (i < ph) && decide (i % p = ph))) := by
        have : mkN 30 (fun i => decide (i < ph) && decide (i % p = ph)) = mkN 30 (fun _ => false) := by
          apply mkN_congr
          intro i _
          by_cases c : i < ph
          · rw [decide_eq_false (p := i % p = ph) (by rw [Nat.mod_eq_of_lt (by omega)]; omega), Bool.and_false]
          · rw [decide_eq_false c, Bool.false_and]
        rw [this, ← mkN_0]
        rfl
      rw [z, s]
      refine ih (ph + 1) f _ (by omega) (by omega) (fr_u1 F (by decide)) ⟨fun k' hk' => ⟨?_, fun t ht => ?_⟩, fun t ht => ?_⟩
      · rw [u1_at, if_neg (by omega)]
        exact (P.1 k' hk').1
      · have := tt_le V (k := k') (by omega)
        rw [u1_at, if_neg (by omega)]
        exact (P.1 k' hk').2 t ht
      · rw [u1_at]
        by_cases c : t = fo (h (2 + k)) p + ph
        · rw [if_pos ⟨rfl, by omega⟩, c, mkN_congr (fun i _ => (pa_at (i := i) v.1 hp (by omega) (show ph < p by omega)).symm)]
        · rw [if_neg (by omega)]
          exact P.2 t (by omega)
theorem se23 {h : Nat → Nat} {d0 : DD} (V : VH h) (h88 : ∀ j, d0.1 88 j = nI (h j)) {k : Nat} (hk : k < h 0) (k2 : Int32 → DD → Option (Unit × DD)) (Q : Unit → DD → Prop) (K : ∀ d, FR [94, 95] d0 d → PT h d (k + 1) 0 → OW (k2 (nI (k + 1)) d) Q) : ∀ (m p f : Nat) (d : DD), p + m = h (5 + k) + 1 → m < f → h (2 + k) ≤ p → FR [94, 95] d0 d → PT h d k (fo (h (2 + k)) p) → OW (f_X10_settle_23 k2 f (nI k) (nI (fo (h (2 + k)) p)) (nI p) d) Q := by
  have v0 := V.1
  have v := V.2.2.1 k hk
  intro m
  induction m with
  | zero =>
    intro p f d hm hf hp F P
    cases f with
    | zero => omega
    | succ f =>
      show OW (f_X10_settle_23B k2 (f_X10_settle_23 k2 f) _ _ _ _) Q
      unfold f_X10_settle_23B
      have ix : ixb ((5 : Int32) + nI k) (ln 88) := by
        rw [show (5 : Int32) = nI 5 from rfl, nI_add]
        exact (ix_nI (by omega)).mpr (by rw [ln_88]; omega)
      have rd : d.1 88 ((5 : Int32) + nI k).toNatClampNeg = nI (h (5 + k)) := by
        rw [show (5 : Int32) = nI 5 from rfl, nI_add, nI_clamp (by omega), (F 88 (by decide)).1]
        exact h88 _
      rw [if_pos ix, rd, if_pos (by rw [nI_ltI (by omega) (by omega)]; omega), if_pos ((ix_nI (by omega)).mpr (by rw [ln_95]; omega)), bd_e, nI_clamp (by omega), nI_1]
      refine K _ (fr_u1 F (by decide)) ⟨fun k' hk' => ⟨?_, fun t ht => ?_⟩, fun t ht => absurd ht (Nat.not_lt_zero t)⟩
      · rw [u1_at]
        by_cases c : k' = k
        · rw [if_pos ⟨rfl, c⟩, c]
          unfold TT tn
          rw [show p = h (5 + k) + 1 by omega]
        · rw [if_neg (fun z => c z.2)]
          exact (P.1 k' (by omega)).1
      · rw [u1_at, if_neg (by omega)]
        by_cases c : k' = k
        · subst c
          refine P.2 t ?_
          unfold TT tn at ht
          rw [show p = h (5 + k') + 1 by omega]
          exact ht
        · exact (P.1 k' (by omega)).2 t ht
  | succ m ih =>
    intro p f d hm hf hp F P
    cases f with
    | zero => omega
    | succ f =>
      show OW (f_X10_settle_23B k2 (f_X10_settle_23 k2 f) _ _ _ _) Q
      unfold f_X10_settle_23B
      have ix : ixb ((5 : Int32) + nI k) (ln 88) := by
        rw [show (5 : Int32) = nI 5 from rfl, nI_add]
        exact (ix_nI (by omega)).mpr (by rw [ln_88]; omega)
      have rd : d.1 88 ((5 : Int32) + nI k).toNatClampNeg = nI (h (5 + k)) := by
        rw [show (5 : Int32) = nI 5 from rfl, nI_add, nI_clamp (by omega), (F 88 (by decide)).1]
        exact h88 _
      rw [if_pos ix, rd, if_neg (by rw [nI_ltI (by omega) (by omega)]; omega)]
      exact se38 V hk hp (by omega) k2 _ Q (fun d' F' P' => ih (p + 1) f d' (by omega) (by omega) (by omega) F' P') p 0 FU d (by omega) (by unfold FU; omega) F P
theorem se2 {h : Nat → Nat} {d0 : DD} (V : VH h) (h88 : ∀ j, d0.1 88 j = nI (h j)) : ∀ (m k f : Nat) (d : DD), k + m = h 0 → m < f → FR [94, 95] d0 d → PT h d k 0 → OW (f_X10_settle_2 f (nI k) d) (fun _ d' => FR [94, 95] d0 d' ∧ HM d' h) := by
  have v0 := V.1
  intro m
  induction m with
  | zero =>
    intro k f d hm hf F P
    cases f with
    | zero => omega
    | succ f =>
      show OW (f_X10_settle_2B (f_X10_settle_2 f) _ _) _
      unfold f_X10_settle_2B
      have e : k = h 0 := by omega
      subst e
      have r0 : d.1 88 (0 : Int32).toNatClampNeg = nI (h 0) := by
        show d.1 88 0 = _
        rw [(F 88 (by decide)).1]
        exact h88 0
      rw [if_pos (show ixb (0 : Int32) (ln 88) from (ix_nI (n := 0) (by omega)).mpr (by rw [ln_88]; omega)), r0, if_neg (by rw [nI_ltI (by omega) (by omega)]; omega)]
      refine ow_ret ⟨F, ?_, fun k hk => (P.1 k hk).1, fun k t hk ht => (P.1 k hk).2 t ht⟩
      intro j
      rw [(F 88 (by decide)).1]
      exact h88 j
  | succ m ih =>
    intro k f d hm hf F P
    cases f with
    | zero => omega
    | succ f =>
      show OW (f_X10_settle_2B (f_X10_settle_2 f) _ _) _
      unfold f_X10_settle_2B
      have hk : k < h 0 := by omega
      have v := V.2.2.1 k hk
      have r0 : d.1 88 (0 : Int32).toNatClampNeg = nI (h 0) := by
        show d.1 88 0 = _
        rw [(F 88 (by decide)).1]
        exact h88 0
      have ix : ixb ((2 : Int32) + nI k) (ln 88) := by
        rw [show (2 : Int32) = nI 2 from rfl, nI_add]
        exact (ix_nI (by omega)).mpr (by rw [ln_88]; omega)
      have rd : d.1 88 ((2 : Int32) + nI k).toNatClampNeg = nI (h (2 + k)) := by
        rw [show (2 : Int32) = nI 2 from rfl, nI_add, nI_clamp (by omega), (F 88 (by decide)).1]
        exact h88 _
      rw [if_pos (show ixb (0 : Int32) (ln 88) from (ix_nI (n := 0) (by omega)).mpr (by rw [ln_88]; omega)), r0, if_pos (by rw [nI_ltI (by omega) (by omega)]; omega), if_pos ix, bd_e, rd]
      have f0 : ∀ p, p ≤ h (2 + k) → fo (h (2 + k)) p = 0 := by
        intro p
        induction p with
        | zero => intro _; rfl
        | succ p ihp =>
          intro hp
          show fo (h (2 + k)) p + (if h (2 + k) ≤ p then p else 0) = 0
          rw [ihp (by omega), if_neg (by omega)]
      have s := se23 V h88 hk _ _ (fun d' F' P' => ih (k + 1) f d' (by omega) (by omega) F' P') (h (5 + k) + 1 - h (2 + k)) (h (2 + k)) FU d (by omega) (by unfold FU; omega) (Nat.le_refl _) F (by rw [f0 _ (Nat.le_refl _)]; exact P)
      rw [f0 _ (Nat.le_refl _)] at s
      exact s
theorem e_settle {h : Nat → Nat} {d : DD} (V : VH h) (h88 : ∀ j, d.1 88 j = nI (h j)) : OW (f_X10_settle d) (fun _ d' => FR [94, 95] d d' ∧ HM d' h) := by
  have v0 := V.1
  exact se2 V h88 (h 0) 0 FU d (by omega) (by unfold FU; omega) (fr_refl _ _) ⟨fun k hk => absurd hk (Nat.not_lt_zero k), fun t ht => absurd ht (Nat.not_lt_zero t)⟩
