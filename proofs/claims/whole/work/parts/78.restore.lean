-- PURE ROWS: restore
theorem vh_cong {h h' : Nat → Nat} (V : VH h) (e : ∀ j, j < 290 → h' j = h j) : VH h' := by
  obtain ⟨w0, w1, w2, w3, w4, w5, w6, w7, w8⟩ := V
  have s := e
  refine ⟨by rw [s 0 (by omega)]; exact w0, by rw [s 1 (by omega)]; exact w1, fun k hk => ?_, fun k hk => ?_, fun k hk => ?_, fun u hu => ?_, fun k hk => ?_, by rw [s 169 (by omega)]; exact w7, fun k hk => ?_⟩
  · rw [s 0 (by omega)] at hk
    rw [s (2 + k) (by omega), s (5 + k) (by omega), s (8 + k) (by omega)]
    exact w2 k hk
  · rw [s 1 (by omega)] at hk
    rw [s (11 + k) (by omega), s 0 (by omega)]
    exact w3 k hk
  · rw [s 1 (by omega)] at hk
    rw [s (15 + k) (by omega)]
    exact w4 k hk
  · rw [s 1 (by omega), s (19 + u) (by omega)]
    exact w5 u hu
  · rw [s (49 + k) (by omega)]
    exact w6 k hk
  · rw [s 169 (by omega)] at hk
    rw [s (170 + 3 * k) (by omega), s (170 + 3 * k + 1) (by omega), s (170 + 3 * k + 2) (by omega), s 0 (by omega), s 1 (by omega)]
    exact w8 k hk
theorem hc_hcong {b : Nat} {d : DD} {h h' : Nat → Nat} {nm : Nat → Int64} (V : VH h) (H : HC b d h nm) (e : ∀ j, j < 290 → h' j = h j) : HC b d h' nm := by
  have v0 := V.1
  have v1 := V.2.1
  have v2 := V.2.2.2.2.2.2.2.1
  have s := e
  unfold HC at H ⊢
  rw [s 0 (by omega), s 1 (by omega), s 169 (by omega)]
  obtain ⟨a0, a1, a2, a3, a4, a5, a6, a7, a8, a9, a10, a11, a12⟩ := H
  refine ⟨a0, a1, a2, fun k hk => ?_, fun k hk => ?_, fun k hk => ?_, a6, fun k hk => ?_, fun k hk => ?_, fun k hk => ?_, fun u hu => ?_, a11, fun k hk => ?_⟩
  · rw [s (2 + k) (by omega)]; exact a3 k hk
  · rw [s (5 + k) (by omega)]; exact a4 k hk
  · rw [s (8 + k) (by omega)]; exact a5 k hk
  · rw [s (11 + k) (by omega)]; exact a7 k hk
  · rw [s (15 + k) (by omega)]; exact a8 k hk
  · rw [s (49 + k) (by omega)]; exact a9 k hk
  · rw [s (19 + u) (by omega)]; exact a10 u hu
  · rw [s (170 + 3 * k) (by omega), s (170 + 3 * k + 1) (by omega), s (170 + 3 * k + 2) (by omega)]
    exact a12 k hk
theorem re60 {k : Nat} (hk : k < 2) {d0 : DD} {h : Nat → Nat} (V : VH h) (h88 : ∀ j, d0.1 88 j = nI (h j)) : ∀ (m i f : Nat) (d : DD), i + m = 7 → m < f → FR [92] d0 d → (∀ j, j < i → d.2 92 j = d0.2 108 (7 * k + j)) → OW (f_X10_restore_60 f (nI k) (nI i) d) (fun r d' => r = 1 ∧ FR [92, 94, 95] d0 d' ∧ (∀ j, j < 7 → d'.2 92 j = d0.2 108 (7 * k + j)) ∧ HM d' h) := by
  intro m
  induction m with
  | zero =>
    intro i f d hi hf F G
    cases f with
    | zero => omega
    | succ f =>
      show OW (f_X10_restore_60B (f_X10_restore_60 f) _ _ _) _
      unfold f_X10_restore_60B
      rw [if_neg (by rw [nI_lit, nI_ltI (by omega) (by omega)]; omega)]
      refine ow_call (e_settle V (d := d) (fun j => by rw [(F 88 (by decide)).1]; exact h88 j)) ?_
      intro _ d' H'
      refine ow_ret ⟨rfl, fr_trans (fr_mono F (by decide)) (fr_mono H'.1 (by decide)), fun j hj => ?_, H'.2⟩
      rw [(H'.1 92 (by decide)).2]
      exact G j (by omega)
  | succ m ih =>
    intro i f d hi hf F G
    cases f with
    | zero => omega
    | succ f =>
      show OW (f_X10_restore_60B (f_X10_restore_60 f) _ _ _) _
      unfold f_X10_restore_60B
      have ix : ixb ((7 : Int32) * nI k + nI i) (ln 108) := by
        rw [show (7 : Int32) = nI 7 from rfl, pk_mul, nI_add]
        exact (ix_nI (by omega)).mpr (by rw [ln_108]; omega)
      have cl : ((7 : Int32) * nI k + nI i).toNatClampNeg = 7 * k + i := by
        rw [show (7 : Int32) = nI 7 from rfl, pk_mul, nI_add, nI_clamp (by omega)]
      rw [if_pos (by rw [nI_lit, nI_ltI (by omega) (by omega)]; omega), if_pos ix, if_pos ((ix_nI (by omega)).mpr (by rw [ln_92]; omega)), bd_e, cl, nI_clamp (by omega), nI_1]
      refine ih (i + 1) f _ (by omega) (by omega) (fr_u2 F (by decide)) (fun j hj => ?_)
      rw [u2_at]
      by_cases c : j = i
      · rw [if_pos ⟨rfl, c⟩, c, (F 108 (by decide)).2]
      · rw [if_neg (fun z => c z.2)]
        exact G j (by omega)
theorem re27 {k : Nat} (hk : k < 2) {d0 : DD} {h hk' : Nat → Nat} (V : VH hk') (h88 : ∀ j, d0.1 88 j = nI (h j)) (h107 : ∀ j, j < 290 → d0.1 107 (290 * k + j) = nI (hk' j)) : ∀ (m i f : Nat) (d : DD), i + m = 290 → m < f → FR [88] d0 d → (∀ j, d.1 88 j = nI (if j < i then hk' j else h j)) → OW (f_X10_restore_27 f (nI k) (nI i) d) (fun r d' => r = 1 ∧ FR [88, 92, 94, 95] d0 d' ∧ (∀ j, j < 7 → d'.2 92 j = d0.2 108 (7 * k + j)) ∧ HM d' (fun j => if j < 290 then hk' j else h j)) := by
  intro m
  induction m with
  | zero =>
    intro i f d hi hf F G
    cases f with
    | zero => omega
    | succ f =>
      show OW (f_X10_restore_27B (f_X10_restore_27 f) _ _ _) _
      unfold f_X10_restore_27B
      rw [if_neg (by rw [nI_lit, nI_ltI (by omega) (by omega)]; omega)]
      have ei : i = 290 := by omega
      subst ei
      refine ow_mono (re60 hk (d0 := d) (h := fun j => if j < 290 then hk' j else h j) (vh_cong V (fun j hj => if_pos hj)) G 7 0 FU d (by omega) (by unfold FU; omega) (fr_refl _ _) (fun j hj => absurd hj (Nat.not_lt_zero j))) ?_
      intro r d' H'
      refine ⟨H'.1, fr_trans (fr_mono F (by decide)) (fr_mono H'.2.1 (by decide)), fun j hj => ?_, H'.2.2.2⟩
      rw [H'.2.2.1 j hj, (F 108 (by decide)).2]
  | succ m ih =>
    intro i f d hi hf F G
    cases f with
    | zero => omega
    | succ f =>
      show OW (f_X10_restore_27B (f_X10_restore_27 f) _ _ _) _
      unfold f_X10_restore_27B
      have ix : ixb ((290 : Int32) * nI k + nI i) (ln 107) := by
        rw [show (290 : Int32) = nI 290 from rfl, pk_mul, nI_add]
        exact (ix_nI (by omega)).mpr (by rw [ln_107]; omega)
      have cl : ((290 : Int32) * nI k + nI i).toNatClampNeg = 290 * k + i := by
        rw [show (290 : Int32) = nI 290 from rfl, pk_mul, nI_add, nI_clamp (by omega)]
      rw [if_pos (by rw [nI_lit, nI_ltI (by omega) (by omega)]; omega), if_pos ix, if_pos ((ix_nI (by omega)).mpr (by rw [ln_88]; omega)), bd_e, cl, nI_clamp (by omega), nI_1]
      refine ih (i + 1) f _ (by omega) (by omega) (fr_u1 F (by decide)) (fun j => ?_)
      rw [u1_at]
      by_cases c : j = i
      · rw [if_pos ⟨rfl, c⟩, if_pos (by omega), c, (F 107 (by decide)).1]
        exact h107 i (by omega)
      · rw [if_neg (fun z => c z.2), G j]
        by_cases q : j < i
        · rw [if_pos q, if_pos (by omega)]
        · rw [if_neg q, if_neg (by omega)]
