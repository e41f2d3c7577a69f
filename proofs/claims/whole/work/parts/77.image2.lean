-- PURE ROWS: image, whole
theorem ip_e {k : Nat} (hk : k < 2) (d : DD) : f_X9_imagePlace (nI k) d = some (some (16 + 14 * k), d) := by
  have : k = 0 ∨ k = 1 := by omega
  rcases this with rfl | rfl
  · rfl
  · rfl
theorem ip_n {x : Int32} (c : ¬ ixb x 2) (d : DD) : f_X9_imagePlace x d = some (none, d) := by
  unfold f_X9_imagePlace
  rw [if_neg (fun z => c (by rw [z]; exact ixt (j := 0) (by omega) (by omega))), if_neg (fun z => c (by rw [z]; exact ixt (j := 1) (by omega) (by omega)))]
theorem kd_im {k : Nat} (hk : k < 2) : kd (16 + 14 * k) = 5 := by
  have : k = 0 ∨ k = 1 := by omega
  rcases this with rfl | rfl
  · decide +kernel
  · decide +kernel
theorem s_image {d : DD} (R : RZ d) (x : Int32) : EQR (f_X9_image x) (f_X10_image x) d := by
  have RR := R
  obtain ⟨⟨h, V, H, M⟩, R2, R3, ⟨s, hs, i1, i2⟩, R5, R6⟩ := R
  rcases ix_dec x (n := 2) (by omega) with ⟨k, hk, rfl⟩ | c
  · have ck := ixt hk (by omega)
    obtain ⟨r0, dc, ec, Fc, Hc⟩ := cf_im V H hk
    have hor : s ||| 2 ^ k < 4 := by
      have : k = 0 ∨ k = 1 := by omega
      have s4 : s = 0 ∨ s = 1 ∨ s = 2 ∨ s = 3 := by omega
      rcases this with rfl | rfl <;> rcases s4 with rfl | rfl | rfl | rfl <;> decide
    have e06 : dc.1 0 6 = nI s := by rw [(Fc 0 (by omega)).1]; exact i1
    have cls : f_X9_image (nI k) d = some (1, u1 dc 0 6 (nI (s ||| 2 ^ k))) := by
      unfold f_X9_image
      rw [ip_e hk, ob_e]
      dsimp only
      rw [if_pos (kd_im hk), ec, ob_e, bd_e]
      dsimp only
      rw [e06]
      simp only [nI_lit]
      rw [q_shl (by omega), nx_or]
    have K1 : ∀ a, (a < 16 + 14 * k ∨ 16 + 14 * k + 13 < a) → a ≠ 0 → a ≠ 86 → (u1 (u1 dc 0 6 (nI (s ||| 2 ^ k))) 86 0 0).1 a = d.1 a ∧ (u1 (u1 dc 0 6 (nI (s ||| 2 ^ k))) 86 0 0).2 a = d.2 a := by
      intro a ha h0 h86
      refine ⟨?_, (Fc a ha).2⟩
      rw [← (Fc a ha).1]
      funext j
      rw [u1_at, if_neg (by omega), u1_at, if_neg (by omega)]
    have ei := e_X10_isIn0 (x := nI k) (n := 2) (by omega) (u1 (u1 dc 0 6 (nI (s ||| 2 ^ k))) 86 0 0)
    rw [show nI 0 = (0 : Int32) from rfl, show pI 2 = (1 : Int32) from rfl] at ei
    obtain ⟨r2, d2, e2, rfl, F2, ⟨g1, g2⟩, g3, g4, g5⟩ := im18 hk (d0 := u1 (u1 dc 0 6 (nI (s ||| 2 ^ k))) 86 0 0) 290 0 FU _ rfl (by unfold FU; omega) (fr_refl _ _) (fun j hj => absurd hj (Nat.not_lt_zero j)) (fun j _ => rfl)
    have mdl : f_X10_image (nI k) (u1 dc 0 6 (nI (s ||| 2 ^ k))) = some (1, d2) := by
      unfold f_X10_image
      simp only [ob_e, bd_e, ↓reduceIte, one_ne, zro_eq, bI_t0, bI_f0, decide_true, decide_false, ei, eq_true ck]
      exact e2
    have K2 : ∀ a, (a < 16 + 14 * k ∨ 16 + 14 * k + 13 < a) → a ≠ 0 → a ≠ 86 → a ∉ [107, 108, 109] → d2.1 a = d.1 a ∧ d2.2 a = d.2 a := fun a ha h0 h86 hn => ⟨by rw [(F2 a hn).1]; exact (K1 a ha h0 h86).1, by rw [(F2 a hn).2]; exact (K1 a ha h0 h86).2⟩
    have k86 : ∀ j, j ≠ 0 → d2.1 86 j = d.1 86 j := fun j hj => by
      rw [(F2 86 (by decide)).1, u1_at, if_neg (fun z => hj z.2), u1_at, if_neg (by omega), (Fc 86 (by omega)).1]
    have k0 : ∀ j, j ≠ 6 → d2.1 0 j = d.1 0 j := fun j hj => by
      rw [(F2 0 (by decide)).1, u1_at, if_neg (by omega), u1_at, if_neg (fun z => hj z.2), (Fc 0 (by omega)).1]
    have kim : ∀ a, 16 + 14 * k ≤ a → a ≤ 16 + 14 * k + 13 → d2.1 a = dc.1 a ∧ d2.2 a = dc.2 a := fun a h1 h2 => by
      have hn : a ∉ [107, 108, 109] := by
        simp only [List.mem_cons, List.not_mem_nil, or_false]
        omega
      refine ⟨?_, ?_⟩
      · rw [(F2 a hn).1]
        funext j
        rw [u1_at, if_neg (by omega), u1_at, if_neg (by omega)]
      · rw [(F2 a hn).2]
        rfl
    refine ⟨1, _, d2, cls, mdl, ⟨h, V, rh_cong ⟨H, M⟩ (fun a ha => ?_)⟩, tp_cong R2 (k0 1 (by decide)) (k86 2 (by decide)) (K2 1 (by omega) (by decide) (by decide) (by decide)).1 (K2 87 (by omega) (by decide) (by decide) (by decide)).1, fa_cong R3 (k0 2 (by decide)) (k86 16 (by decide)), ⟨s ||| 2 ^ k, hor, ?_, fun k' hk' => ⟨?_, fun z => ?_⟩⟩, tk_cong R5 (K2 83 (by omega) (by decide) (by decide) (by decide)).1 (k86 35 (by decide)) (K2 84 (by omega) (by decide) (by decide) (by decide)).1 (K2 105 (by omega) (by decide) (by decide) (by decide)).1 (k86 36 (by decide)) (K2 106 (by omega) (by decide) (by decide) (by decide)).1, rw_cong R6 (K2 93 (by omega) (by decide) (by decide) (by decide)).2⟩
    · simp only [List.mem_cons, List.not_mem_nil, or_false] at ha
      refine K2 a (by omega) (by omega) (by omega) ?_
      simp only [List.mem_cons, List.not_mem_nil, or_false]
      omega
    · rw [(F2 0 (by decide)).1, u1_at, if_neg (by omega), u1_at, if_pos ⟨rfl, rfl⟩]
    · rw [g5, or_bit_tb]
      by_cases e : k' = k
      · rw [if_pos e, e, decide_eq_true rfl, Bool.or_true]
        rfl
      · rw [if_neg e, decide_eq_false (fun q => e q.symm), Bool.or_false, (K1 109 (by omega) (by decide) (by decide)).1]
        exact (i2 k' hk').1
    · by_cases e : k' = k
      · subst e
        refine ⟨h, V, ?_, fun j hj => ?_⟩
        · have H2 := im_hc hk (d := dc) (d' := d2) Hc
          have Hs : HC (16 + 14 * k') d2 h (d.2 92) := by
            have r : k' = 0 ∨ k' = 1 := by omega
            rcases r with rfl | rfl
            · exact hc_cong Hc (kim 16 (by omega) (by omega)).1 (by rw [rf_16_2]; exact (kim 17 (by omega) (by omega)).2) (by rw [rf_16_3]; exact (kim 18 (by omega) (by omega)).1) (by rw [rf_16_4]; exact (kim 19 (by omega) (by omega)).1) (by rw [rf_16_5]; exact (kim 20 (by omega) (by omega)).1) (by rw [rf_16_6]; exact (kim 21 (by omega) (by omega)).2) (by rw [rf_16_7]; exact (kim 22 (by omega) (by omega)).1) (by rw [rf_16_8]; exact (kim 23 (by omega) (by omega)).1) (by rw [rf_16_9]; exact (kim 24 (by omega) (by omega)).1) (by rw [rf_16_10]; exact (kim 25 (by omega) (by omega)).1) (by rw [rf_16_11]; exact (kim 26 (by omega) (by omega)).1) (by rw [rf_16_11, rf_26_1]; exact (kim 27 (by omega) (by omega)).1) (by rw [rf_16_11, rf_26_2]; exact (kim 28 (by omega) (by omega)).1) (by rw [rf_16_11, rf_26_3]; exact (kim 29 (by omega) (by omega)).1)
            · exact hc_cong Hc (kim 30 (by omega) (by omega)).1 (by rw [rf_30_2]; exact (kim 31 (by omega) (by omega)).2) (by rw [rf_30_3]; exact (kim 32 (by omega) (by omega)).1) (by rw [rf_30_4]; exact (kim 33 (by omega) (by omega)).1) (by rw [rf_30_5]; exact (kim 34 (by omega) (by omega)).1) (by rw [rf_30_6]; exact (kim 35 (by omega) (by omega)).2) (by rw [rf_30_7]; exact (kim 36 (by omega) (by omega)).1) (by rw [rf_30_8]; exact (kim 37 (by omega) (by omega)).1) (by rw [rf_30_9]; exact (kim 38 (by omega) (by omega)).1) (by rw [rf_30_10]; exact (kim 39 (by omega) (by omega)).1) (by rw [rf_30_11]; exact (kim 40 (by omega) (by omega)).1) (by rw [rf_30_11, rf_40_1]; exact (kim 41 (by omega) (by omega)).1) (by rw [rf_30_11, rf_40_2]; exact (kim 42 (by omega) (by omega)).1) (by rw [rf_30_11, rf_40_3]; exact (kim 43 (by omega) (by omega)).1)
          refine hc_nm V Hs (fun j hj => ?_)
          rw [g3 j hj, (K1 92 (by omega) (by decide) (by decide)).2]
        · rw [g1 j hj, (K1 88 (by omega) (by decide) (by decide)).1]
          exact M.1 j
      · rw [or_bit_tb, decide_eq_false (fun q => e q.symm), Bool.or_false] at z
        obtain ⟨hk2, V2, H2, X2⟩ := (i2 k' hk').2 z
        refine ⟨hk2, V2, ?_, fun j hj => ?_⟩
        · have Hs : HC (16 + 14 * k') d2 hk2 (fun j => d.2 108 (7 * k' + j)) := by
            have r : k' = 0 ∨ k' = 1 := by omega
            have q : ∀ a, 16 + 14 * k' ≤ a → a ≤ 16 + 14 * k' + 13 → d2.1 a = d.1 a ∧ d2.2 a = d.2 a := fun a h1 h2 => by
              refine K2 a (by omega) (by omega) (by omega) ?_
              simp only [List.mem_cons, List.not_mem_nil, or_false]
              omega
            rcases r with rfl | rfl
            · exact hc_cong H2 (q 16 (by omega) (by omega)).1 (by rw [rf_16_2]; exact (q 17 (by omega) (by omega)).2) (by rw [rf_16_3]; exact (q 18 (by omega) (by omega)).1) (by rw [rf_16_4]; exact (q 19 (by omega) (by omega)).1) (by rw [rf_16_5]; exact (q 20 (by omega) (by omega)).1) (by rw [rf_16_6]; exact (q 21 (by omega) (by omega)).2) (by rw [rf_16_7]; exact (q 22 (by omega) (by omega)).1) (by rw [rf_16_8]; exact (q 23 (by omega) (by omega)).1) (by rw [rf_16_9]; exact (q 24 (by omega) (by omega)).1) (by rw [rf_16_10]; exact (q 25 (by omega) (by omega)).1) (by rw [rf_16_11]; exact (q 26 (by omega) (by omega)).1) (by rw [rf_16_11, rf_26_1]; exact (q 27 (by omega) (by omega)).1) (by rw [rf_16_11, rf_26_2]; exact (q 28 (by omega) (by omega)).1) (by rw [rf_16_11, rf_26_3]; exact (q 29 (by omega) (by omega)).1)
            · exact hc_cong H2 (q 30 (by omega) (by omega)).1 (by rw [rf_30_2]; exact (q 31 (by omega) (by omega)).2) (by rw [rf_30_3]; exact (q 32 (by omega) (by omega)).1) (by rw [rf_30_4]; exact (q 33 (by omega) (by omega)).1) (by rw [rf_30_5]; exact (q 34 (by omega) (by omega)).1) (by rw [rf_30_6]; exact (q 35 (by omega) (by omega)).2) (by rw [rf_30_7]; exact (q 36 (by omega) (by omega)).1) (by rw [rf_30_8]; exact (q 37 (by omega) (by omega)).1) (by rw [rf_30_9]; exact (q 38 (by omega) (by omega)).1) (by rw [rf_30_10]; exact (q 39 (by omega) (by omega)).1) (by rw [rf_30_11]; exact (q 40 (by omega) (by omega)).1) (by rw [rf_30_11, rf_40_1]; exact (q 41 (by omega) (by omega)).1) (by rw [rf_30_11, rf_40_2]; exact (q 42 (by omega) (by omega)).1) (by rw [rf_30_11, rf_40_3]; exact (q 43 (by omega) (by omega)).1)
          refine hc_nm V2 Hs (fun j hj => ?_)
          rw [g4 _ (by omega), (K1 108 (by omega) (by decide) (by decide)).2]
        · rw [g2 _ (by omega), (K1 107 (by omega) (by decide) (by decide)).1]
          exact X2 j hj
  · refine eqr_q RR ⟨0, d, u1 d 86 0 0, ?_, ?_, fq_thr d 0⟩
    · unfold f_X9_image
      rw [ip_n c, ob_e]
    · have ei := e_X10_isIn0 (x := x) (n := 2) (by omega) (u1 d 86 0 0)
      rw [show nI 0 = (0 : Int32) from rfl, show pI 2 = (1 : Int32) from rfl] at ei
      unfold f_X10_image
      simp only [ob_e, bd_e, ↓reduceIte, one_ne, zro_eq, bI_t0, bI_f0, decide_true, decide_false, ei, eq_false c]
