-- PURE ROWS: image
theorem hc_nm {b : Nat} {d : DD} {h : Nat → Nat} {nm nm' : Nat → Int64} (V : VH h) (H : HC b d h nm) (e : ∀ j, j < 7 → nm j = nm' j) : HC b d h nm' := by
  have v0 := V.1
  have v1 := V.2.1
  obtain ⟨a0, a1, a2, a3, a4, a5, a6, a7, a8, a9, a10, a11, a12⟩ := H
  exact ⟨a0, a1, fun k hk => by rw [← e k (by omega)]; exact a2 k hk, a3, a4, a5, fun k hk => by rw [← e (3 + k) (by omega)]; exact a6 k hk, a7, a8, a9, a10, a11, a12⟩
theorem im51 {k : Nat} (hk : k < 2) {d0 : DD} : ∀ (m i f : Nat) (d : DD), i + m = 7 → m < f → FR [107, 108] d0 d → (∀ j, j < i → d.2 108 (7 * k + j) = d0.2 92 j) → (∀ j, (j < 7 * k ∨ 7 * k + 7 ≤ j) → d.2 108 j = d0.2 108 j) → OW (f_X10_image_51 f (nI k) (nI i) d) (fun r d' => r = 1 ∧ FR [107, 108, 109] d0 d' ∧ d'.1 107 = d.1 107 ∧ (∀ j, j < 7 → d'.2 108 (7 * k + j) = d0.2 92 j) ∧ (∀ j, (j < 7 * k ∨ 7 * k + 7 ≤ j) → d'.2 108 j = d0.2 108 j) ∧ ∀ j, d'.1 109 j = if j = k then 1 else d0.1 109 j) := by
  intro m
  induction m with
  | zero =>
    intro i f d hi hf F G G2
    cases f with
    | zero => omega
    | succ f =>
      show OW (f_X10_image_51B (f_X10_image_51 f) _ _ _) _
      unfold f_X10_image_51B
      rw [if_neg (by rw [nI_lit, nI_ltI (by omega) (by omega)]; omega), if_pos ((ix_nI (by omega)).mpr (by rw [ln_109]; omega)), bd_e, nI_clamp (by omega), nar_b1]
      refine ow_ret ⟨rfl, fr_u1 (fr_mono F (by decide)) (by decide), ?_, fun j hj => ?_, G2, fun j => ?_⟩
      · funext j
        rw [u1_at, if_neg (by omega)]
      · exact G j (by omega)
      · rw [u1_at]
        by_cases c : j = k
        · rw [if_pos ⟨rfl, c⟩, if_pos c]
        · rw [if_neg (fun z => c z.2), if_neg c, (F 109 (by decide)).1]
  | succ m ih =>
    intro i f d hi hf F G G2
    cases f with
    | zero => omega
    | succ f =>
      show OW (f_X10_image_51B (f_X10_image_51 f) _ _ _) _
      unfold f_X10_image_51B
      have ix : ixb ((7 : Int32) * nI k + nI i) (ln 108) := by
        rw [show (7 : Int32) = nI 7 from rfl, pk_mul, nI_add]
        exact (ix_nI (by omega)).mpr (by rw [ln_108]; omega)
      have cl : ((7 : Int32) * nI k + nI i).toNatClampNeg = 7 * k + i := by
        rw [show (7 : Int32) = nI 7 from rfl, pk_mul, nI_add, nI_clamp (by omega)]
      rw [if_pos (by rw [nI_lit, nI_ltI (by omega) (by omega)]; omega), if_pos ((ix_nI (by omega)).mpr (by rw [ln_92]; omega)), if_pos ix, bd_e, cl, nI_clamp (by omega), nI_1]
      refine ow_mono (ih (i + 1) f _ (by omega) (by omega) (fr_u2 F (by decide)) (fun j hj => ?_) (fun j hj => ?_)) ?_
      · rw [u2_at]
        by_cases c : j = i
        · rw [if_pos ⟨rfl, by omega⟩, c, (F 92 (by decide)).2]
        · rw [if_neg (by omega)]
          exact G j (by omega)
      · rw [u2_at, if_neg (by omega)]
        exact G2 j hj
      · intro r d' H'
        exact H'
theorem im18 {k : Nat} (hk : k < 2) {d0 : DD} : ∀ (m i f : Nat) (d : DD), i + m = 290 → m < f → FR [107] d0 d → (∀ j, j < i → d.1 107 (290 * k + j) = d0.1 88 j) → (∀ j, (j < 290 * k ∨ 290 * k + 290 ≤ j) → d.1 107 j = d0.1 107 j) → OW (f_X10_image_18 f (nI k) (nI i) d) (fun r d' => r = 1 ∧ FR [107, 108, 109] d0 d' ∧ ((∀ j, j < 290 → d'.1 107 (290 * k + j) = d0.1 88 j) ∧ ∀ j, (j < 290 * k ∨ 290 * k + 290 ≤ j) → d'.1 107 j = d0.1 107 j) ∧ (∀ j, j < 7 → d'.2 108 (7 * k + j) = d0.2 92 j) ∧ (∀ j, (j < 7 * k ∨ 7 * k + 7 ≤ j) → d'.2 108 j = d0.2 108 j) ∧ ∀ j, d'.1 109 j = if j = k then 1 else d0.1 109 j) := by
  intro m
  induction m with
  | zero =>
    intro i f d hi hf F G G2
    cases f with
    | zero => omega
    | succ f =>
      show OW (f_X10_image_18B (f_X10_image_18 f) _ _ _) _
      unfold f_X10_image_18B
      rw [if_neg (by rw [nI_lit, nI_ltI (by omega) (by omega)]; omega)]
      refine ow_mono (im51 hk (d0 := d0) 7 0 FU d (by omega) (by unfold FU; omega) (fr_mono F (by decide)) (fun j hj => absurd hj (Nat.not_lt_zero j)) (fun j _ => by rw [(F 108 (by decide)).2])) ?_
      intro r d' H'
      refine ⟨H'.1, H'.2.1, ?_, H'.2.2.2⟩
      rw [H'.2.2.1]
      exact ⟨fun j hj => G j (by omega), G2⟩
  | succ m ih =>
    intro i f d hi hf F G G2
    cases f with
    | zero => omega
    | succ f =>
      show OW (f_X10_image_18B (f_X10_image_18 f) _ _ _) _
      unfold f_X10_image_18B
      have ix : ixb ((290 : Int32) * nI k + nI i) (ln 107) := by
        rw [show (290 : Int32) = nI 290 from rfl, pk_mul, nI_add]
        exact (ix_nI (by omega)).mpr (by rw [ln_107]; omega)
      have cl : ((290 : Int32) * nI k + nI i).toNatClampNeg = 290 * k + i := by
        rw [show (290 : Int32) = nI 290 from rfl, pk_mul, nI_add, nI_clamp (by omega)]
      rw [if_pos (by rw [nI_lit, nI_ltI (by omega) (by omega)]; omega), if_pos ((ix_nI (by omega)).mpr (by rw [ln_88]; omega)), if_pos ix, bd_e, cl, nI_clamp (by omega), nI_1]
      refine ih (i + 1) f _ (by omega) (by omega) (fr_u1 F (by decide)) (fun j hj => ?_) (fun j hj => ?_)
      · rw [u1_at]
        by_cases c : j = i
        · rw [if_pos ⟨rfl, by omega⟩, c, (F 88 (by decide)).1]
        · rw [if_neg (by omega)]
          exact G j (by omega)
      · rw [u1_at, if_neg (by omega)]
        exact G2 j hj
theorem cf_im {h nm} {d : DD} (V : VH h) (H : HC 2 d h nm) {k : Nat} (hk : k < 2) : OW (f_X1_copyFrom (16 + 14 * k) 2 d) (fun _ d' => (∀ a, (a < 16 + 14 * k ∨ 16 + 14 * k + 13 < a) → d'.1 a = d.1 a ∧ d'.2 a = d.2 a) ∧ HC (16 + 14 * k) d' h nm) := by
  have : k = 0 ∨ k = 1 := by omega
  rcases this with rfl | rfl
  · refine ow_mono (cf_16_2 V H) (fun _ d' H' => ⟨fun a ha => H'.1 a ?_, H'.2⟩)
    simp only [List.mem_cons, List.not_mem_nil, or_false]
    omega
  · refine ow_mono (cf_30_2 V H) (fun _ d' H' => ⟨fun a ha => H'.1 a ?_, H'.2⟩)
    simp only [List.mem_cons, List.not_mem_nil, or_false]
    omega
