-- PURE ROWS: restore, whole
theorem q_ush0 {s k : Nat} (hs : s < 2 ^ 31) (hk : k < 32) : (iushr (nI s) (nI k) &&& (1 : Int32) = 0) ↔ s.testBit k = false := by
  rw [q_ushr hs hk, nx_and1, Nat.testBit_div_two_pow, Nat.zero_add]
theorem cf_re {h nm} {d : DD} {k : Nat} (hk : k < 2) (V : VH h) (H : HC (16 + 14 * k) d h nm) : OW (f_X1_copyFrom 2 (16 + 14 * k) d) (fun _ d' => FR [2, 3, 4, 5, 6, 7, 8, 9, 10, 11, 12, 13, 14, 15] d d' ∧ HC 2 d' h nm) := by
  have : k = 0 ∨ k = 1 := by omega
  rcases this with rfl | rfl
  · exact cf_2_16 V H
  · exact cf_2_30 V H
theorem s_restore {d : DD} (R : RZ d) (x : Int32) : EQR (f_X9_restore x) (f_X10_restore x) d := by
  have RR := R
  obtain ⟨⟨h, V, H, M⟩, R2, R3, ⟨s, hs, i1, i2⟩, R5, R6⟩ := R
  have ei := e_X10_isIn0 (x := x) (n := 2) (by omega)
  rcases ix_dec x (n := 2) (by omega) with ⟨k, hk, rfl⟩ | c
  · have ck := ixt hk (by omega)
    have c109 : ixb (nI k) (ln 109) := (ix_nI (by omega)).mpr (by rw [ln_109]; omega)
    by_cases tb : s.testBit k = true
    · obtain ⟨hk2, V2, H2, X2⟩ := (i2 k hk).2 tb
      obtain ⟨r0, dc, ec, Fc, Hc⟩ := cf_re hk V2 H2
      have cls : f_X9_restore (nI k) d = some (1, dc) := by
        unfold f_X9_restore
        rw [ip_e hk, ob_e]
        dsimp only
        rw [if_pos (kd_im hk), i1, if_neg (fun z => by rw [(q_ush0 (by omega) (by omega)).mp z] at tb; cases tb), ec, ob_e]
      have F0 : FR [2, 3, 4, 5, 6, 7, 8, 9, 10, 11, 12, 13, 14, 15, 86] d (u1 dc 86 0 0) := fr_u1 (fr_mono Fc (by decide)) (by decide)
      obtain ⟨r2, d2, e2, rfl, F2, g1, M2⟩ := re27 hk (d0 := u1 dc 86 0 0) (h := h) (hk' := hk2) V2 (fun j => by rw [(F0 88 (by decide)).1]; exact M.1 j) (fun j hj => by rw [(F0 107 (by decide)).1]; exact X2 j hj) 290 0 FU _ rfl (by unfold FU; omega) (fr_refl _ _) (fun j => by rw [(F0 88 (by decide)).1, if_neg (Nat.not_lt_zero j)]; exact M.1 j)
      have e109 : (u1 dc 86 0 0).1 109 k = bI true := by
        rw [(F0 109 (by decide)).1, (i2 k hk).1, tb]
      have mdl : f_X10_restore (nI k) dc = some (1, d2) := by
        have eik := ei (u1 dc 86 0 0)
        rw [show nI 0 = (0 : Int32) from rfl, show pI 2 = (1 : Int32) from rfl] at eik
        unfold f_X10_restore
        simp only [ob_e, bd_e, ↓reduceIte, one_ne, zro_eq, bI_t0, bI_f0, decide_true, decide_false, eik, eq_true ck, eq_true c109, nI_clamp (show k < 2 ^ 31 by omega), e109]
        exact e2
      have FF : FR [2, 3, 4, 5, 6, 7, 8, 9, 10, 11, 12, 13, 14, 15, 86, 88, 92, 94, 95] d d2 := fr_trans (fr_mono F0 (by decide)) (fr_mono F2 (by decide))
      have k86 : ∀ j, j ≠ 0 → d2.1 86 j = d.1 86 j := fun j hj => by
        rw [(F2 86 (by decide)).1, u1_at, if_neg (fun z => hj z.2), (Fc 86 (by decide)).1]
      have VV : VH (fun j => if j < 290 then hk2 j else h j) := vh_cong V2 (fun j hj => if_pos hj)
      have F3 : FR [86, 88, 92, 94, 95] dc d2 := fr_trans (fr_u1 (fr_refl _ _) (by decide)) (fr_mono F2 (by decide))
      refine ⟨1, dc, d2, cls, mdl, ⟨_, VV, ?_, M2⟩, tp_cong R2 ?_ (k86 2 (by decide)) (FF 1 (by decide)).1 (FF 87 (by decide)).1, fa_cong R3 ?_ (k86 16 (by decide)), im_cong ⟨s, hs, i1, i2⟩ ?_ (FF 109 (by decide)).1 (FF 107 (by decide)).1 (FF 108 (by decide)).2 (fun a h1 h2 => FF a ?_), tk_cong R5 (FF 83 (by decide)).1 (k86 35 (by decide)) (FF 84 (by decide)).1 (FF 105 (by decide)).1 (k86 36 (by decide)) (FF 106 (by decide)).1, rw_cong R6 (FF 93 (by decide)).2⟩
      · have H5 : HC 2 d2 hk2 (fun j => d.2 108 (7 * k + j)) := hc_fr Hc F3 (by decide)
        have H6 := hc_nm (nm' := d2.2 92) V2 H5 (fun j hj => by rw [g1 j hj, (F0 108 (by decide)).2])
        exact hc_hcong V2 H6 (fun j hj => if_pos hj)
      · rw [(FF 0 (by decide)).1]
      · rw [(FF 0 (by decide)).1]
      · rw [(FF 0 (by decide)).1]
      · simp only [List.mem_cons, List.not_mem_nil, or_false]
        omega
    · have tb' : s.testBit k = false := by simpa using tb
      have e109 : (u1 d 86 0 0).1 109 k = bI false := by
        rw [u1_at, if_neg (by omega), (i2 k hk).1, tb']
      refine eqr_q RR ⟨0, d, u1 d 86 0 0, ?_, ?_, fq_thr d 0⟩
      · unfold f_X9_restore
        rw [ip_e hk, ob_e]
        dsimp only
        rw [if_pos (kd_im hk), i1, if_pos ((q_ush0 (by omega) (by omega)).mpr tb')]
      · have eik := ei (u1 d 86 0 0)
        rw [show nI 0 = (0 : Int32) from rfl, show pI 2 = (1 : Int32) from rfl] at eik
        unfold f_X10_restore
        simp only [ob_e, bd_e, ↓reduceIte, one_ne, zro_eq, bI_t0, bI_f0, decide_true, decide_false, eik, eq_true ck, eq_true c109, nI_clamp (show k < 2 ^ 31 by omega), e109]
  · refine eqr_q RR ⟨0, d, u1 d 86 0 0, ?_, ?_, fq_thr d 0⟩
    · unfold f_X9_restore
      rw [ip_n c, ob_e]
    · have eik := ei (u1 d 86 0 0)
      rw [show nI 0 = (0 : Int32) from rfl, show pI 2 = (1 : Int32) from rfl] at eik
      unfold f_X10_restore
      simp only [ob_e, bd_e, ↓reduceIte, one_ne, zro_eq, bI_t0, bI_f0, decide_true, decide_false, eik, eq_false c]
