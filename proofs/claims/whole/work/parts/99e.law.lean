-- PURE ROWS: the law's loop
theorem lw_i {f g : DD → Option (Int32 × DD)} {d : DD} {K : DD → Option Unit} (E : EQR f g d) (ih : ∀ d', RZ d' → K d' = some ()) : ((f d).bind fun q1 => (g q1.2).bind fun q2 => if q1.1 = q2.1 then K q2.2 else none) = some () := by
  obtain ⟨r, d1, d2, e1, e2, R⟩ := E
  rw [e1, ob_e]
  dsimp only
  rw [e2, ob_e]
  dsimp only
  rw [if_pos rfl]
  exact ih d2 R
theorem lw_l {f g : DD → Option (Int64 × DD)} {d : DD} {K : DD → Option Unit} (E : EQR f g d) (ih : ∀ d', RZ d' → K d' = some ()) : ((f d).bind fun q1 => (g q1.2).bind fun q2 => if q1.1 = q2.1 then K q2.2 else none) = some () := by
  obtain ⟨r, d1, d2, e1, e2, R⟩ := E
  rw [e1, ob_e]
  dsimp only
  rw [e2, ob_e]
  dsimp only
  rw [if_pos rfl]
  exact ih d2 R
theorem fq_110 (d : DD) (x : Int64) : FQ d (u2 d 110 0 x) := by
  refine ⟨fun a ha => ⟨rfl, ?_⟩, fun _ _ => rfl⟩
  funext i
  rw [u2_at, if_neg (fun z => by rw [z.1] at ha; exact absurd ha (by decide))]
theorem x110 : ixb (0 : Int32) (ln 110) := (ix_nI (n := 0) (by omega)).mpr (by rw [ln_110]; omega)
theorem lw_ti {f : DD → Option (Option Int32 × DD)} {g : DD → Option (Int32 × DD)} {d : DD} {K : DD → Option Unit} (R : RZ d) (t : TQ f g d) (ih : ∀ d', RZ d' → K d' = some ()) : (((f d).bind fun q => thr q (fun d1 => some ((1 : Int32), d1)) (fun (r : Int32) (d1 : DD) => if ixb (0 : Int32) (ln 110) then bd (u2 d1 110 (0 : Int32).toNatClampNeg r.toInt64) fun d2 => some ((0 : Int32), d2) else none)).bind fun q9 => (g q9.2).bind fun q10 => (f_X10_thrown q10.2).bind fun q11 => if q11.1 = q9.1 then (if q9.1 = 0 then (if ixb (0 : Int32) (ln 110) then (if (q11.2.2 110 (0 : Int32).toNatClampNeg) = q10.1.toInt64 then K q11.2 else none) else none) else K q11.2) else none) = some () := by
  obtain ⟨o, r, ⟨d1, e1, F1⟩, T⟩ := t
  rw [e1, ob_e]
  cases o with
  | none =>
    obtain ⟨d2, e2, F2, _, t0, _⟩ := T d1 F1
    show ((some ((1 : Int32), d1)).bind _) = _
    rw [ob_e]
    dsimp only
    rw [e2, ob_e]
    dsimp only
    unfold f_X10_thrown
    rw [ob_e]
    dsimp only
    rw [show d2.1 86 0 = 1 from t0, if_pos rfl, if_neg (show ¬ (1 : Int32) = 0 by decide)]
    exact ih d2 (rl_fq R (fq_trans F1 F2))
  | some v =>
    have F1' := fq_trans F1 (fq_110 d1 v.toInt64)
    obtain ⟨d2, e2, F2, e110, t0, ev⟩ := T _ F1'
    have er := ev v rfl
    subst er
    show ((if ixb (0 : Int32) (ln 110) then bd (u2 d1 110 (0 : Int32).toNatClampNeg v.toInt64) fun d2 => some ((0 : Int32), d2) else none).bind _) = _
    rw [if_pos x110, bd_e, ob_e]
    dsimp only
    rw [show g (u2 d1 110 (0 : Int32).toNatClampNeg v.toInt64) = _ from e2, ob_e]
    dsimp only
    unfold f_X10_thrown
    rw [ob_e]
    dsimp only
    rw [show d2.1 86 0 = 0 from t0, if_pos rfl, if_pos rfl, if_pos x110, e110, if_pos (show (u2 d1 110 0 v.toInt64).2 110 (0 : Int32).toNatClampNeg = v.toInt64 from by
      show (u2 d1 110 0 v.toInt64).2 110 0 = _
      rw [u2_at, if_pos ⟨rfl, rfl⟩])]
    exact ih d2 (rl_fq R (fq_trans F1' F2))
theorem lw_tl {f : DD → Option (Option Int64 × DD)} {g : DD → Option (Int64 × DD)} {d : DD} {K : DD → Option Unit} (R : RZ d) (t : TQ f g d) (ih : ∀ d', RZ d' → K d' = some ()) : (((f d).bind fun q => thr q (fun d1 => some ((1 : Int32), d1)) (fun (r : Int64) (d1 : DD) => if ixb (0 : Int32) (ln 110) then bd (u2 d1 110 (0 : Int32).toNatClampNeg r) fun d2 => some ((0 : Int32), d2) else none)).bind fun q9 => (g q9.2).bind fun q10 => (f_X10_thrown q10.2).bind fun q11 => if q11.1 = q9.1 then (if q9.1 = 0 then (if ixb (0 : Int32) (ln 110) then (if (q11.2.2 110 (0 : Int32).toNatClampNeg) = q10.1 then K q11.2 else none) else none) else K q11.2) else none) = some () := by
  obtain ⟨o, r, ⟨d1, e1, F1⟩, T⟩ := t
  rw [e1, ob_e]
  cases o with
  | none =>
    obtain ⟨d2, e2, F2, _, t0, _⟩ := T d1 F1
    show ((some ((1 : Int32), d1)).bind _) = _
    rw [ob_e]
    dsimp only
    rw [e2, ob_e]
    dsimp only
    unfold f_X10_thrown
    rw [ob_e]
    dsimp only
    rw [show d2.1 86 0 = 1 from t0, if_pos rfl, if_neg (show ¬ (1 : Int32) = 0 by decide)]
    exact ih d2 (rl_fq R (fq_trans F1 F2))
  | some v =>
    have F1' := fq_trans F1 (fq_110 d1 v)
    obtain ⟨d2, e2, F2, e110, t0, ev⟩ := T _ F1'
    have er := ev v rfl
    subst er
    show ((if ixb (0 : Int32) (ln 110) then bd (u2 d1 110 (0 : Int32).toNatClampNeg v) fun d2 => some ((0 : Int32), d2) else none).bind _) = _
    rw [if_pos x110, bd_e, ob_e]
    dsimp only
    rw [show g (u2 d1 110 (0 : Int32).toNatClampNeg v) = _ from e2, ob_e]
    dsimp only
    unfold f_X10_thrown
    rw [ob_e]
    dsimp only
    rw [show d2.1 86 0 = 0 from t0, if_pos rfl, if_pos rfl, if_pos x110, e110, if_pos (show (u2 d1 110 0 v).2 110 (0 : Int32).toNatClampNeg = v from by
      show (u2 d1 110 0 v).2 110 0 = _
      rw [u2_at, if_pos ⟨rfl, rfl⟩])]
    exact ih d2 (rl_fq R (fq_trans F1' F2))
theorem law_exit {L i : Nat} (hL : L ≤ 3072) (hi : i ≤ 600) : ((Int32.ofNat L) - (6 : Int32)) < nI (6 * i) ↔ L < 6 * i + 6 := by
  have a := pk_sub_toInt (a := L) (b := 6) (by omega) (by omega)
  have b := nI_toInt (n := 6 * i) (by omega)
  rw [Int32.lt_iff_toInt_lt]
  rw [show (Int32.ofNat L) - (6 : Int32) = nI L - nI 6 from rfl, a, b]
  omega
theorem law_s {L : Nat} {xs : Nat → Int32} (hL : L ≤ 3072) {i : Nat} {K : Int32 → DD → Option Unit} {d : DD} (R : RZ d) (hi : 6 * i + 6 ≤ L) (ih : ∀ d', RZ d' → K (nI (6 * i) + (6 : Int32)) d' = some ()) : f_L_law_23B L xs K (nI (6 * i)) d = some () := by
  have RR := R
  obtain ⟨⟨h, V, H, M⟩, _⟩ := R
  have x0 : ixb (nI (6 * i)) L := (ix_nI (by omega)).mpr (by omega)
  have xk : ∀ k, k < 6 → ixb (nI (6 * i) + nI k) L := fun k hk => by
    rw [nI_add]
    exact (ix_nI (by omega)).mpr (by omega)
  have x1 : ixb (nI (6 * i) + (1 : Int32)) L := xk 1 (by omega)
  have x2 : ixb (nI (6 * i) + (2 : Int32)) L := xk 2 (by omega)
  have x3 : ixb (nI (6 * i) + (3 : Int32)) L := xk 3 (by omega)
  have x4 : ixb (nI (6 * i) + (4 : Int32)) L := xk 4 (by omega)
  have x5 : ixb (nI (6 * i) + (5 : Int32)) L := xk 5 (by omega)
  unfold f_L_law_23B
  rw [if_neg (fun z => by have := (law_exit hL (by omega)).mp z; omega), if_pos x0]
  generalize (xs (nI (6 * i)).toNatClampNeg) &&& (63 : Int32) = w
  by_cases c0 : w = (0 : Int32)
  · rw [if_pos c0]
    simp only [if_pos x1, if_pos x2, if_pos x3, if_pos x4, if_pos x5]
    exact lw_i (s_feed RR _ _ _ _ _) ih
  rw [if_neg c0]
  by_cases c1 : w = (1 : Int32)
  · rw [if_pos c1]
    simp only [if_pos x1]
    exact lw_i (s_end RR _) ih
  rw [if_neg c1]
  by_cases c2 : w = (2 : Int32)
  · rw [if_pos c2]
    exact lw_i (s_house RR) ih
  rw [if_neg c2]
  by_cases c3 : w = (3 : Int32)
  · rw [if_pos c3]
    exact lw_i (s_fault RR) ih
  rw [if_neg c3]
  by_cases c4 : w = (4 : Int32)
  · rw [if_pos c4]
    simp only [if_pos x1, if_pos x2]
    unfold f_L_kind
    exact lw_ti RR (t_kind V H M _ _) ih
  rw [if_neg c4]
  by_cases c5 : w = (5 : Int32)
  · rw [if_pos c5]
    simp only [if_pos x1, if_pos x2, if_pos x3]
    exact lw_i (eqr_q RR (q_passes V H M _ _ _)) ih
  rw [if_neg c5]
  by_cases c6 : w = (6 : Int32)
  · rw [if_pos c6]
    simp only [if_pos x1]
    exact lw_i (eqr_q RR (q_may V H M _)) ih
  rw [if_neg c6]
  by_cases c7 : w = (7 : Int32)
  · rw [if_pos c7]
    exact lw_i (s_tellings RR) ih
  rw [if_neg c7]
  by_cases c8 : w = (8 : Int32)
  · rw [if_pos c8]
    simp only [if_pos x1, if_pos x2, if_pos x3]
    exact lw_i (s_tell RR _ _ _) ih
  rw [if_neg c8]
  by_cases c9 : w = (9 : Int32)
  · rw [if_pos c9]
    exact lw_i (s_untell RR) ih
  rw [if_neg c9]
  by_cases c10 : w = (10 : Int32)
  · rw [if_pos c10]
    simp only [if_pos x1, if_pos x2]
    unfold f_L_telling
    exact lw_ti RR (t_telling V H M _ _) ih
  rw [if_neg c10]
  by_cases c11 : w = (11 : Int32)
  · rw [if_pos c11]
    exact lw_l (eqr_q RR (q_worlds V H M)) ih
  rw [if_neg c11]
  by_cases c12 : w = (12 : Int32)
  · rw [if_pos c12]
    simp only [if_pos x1, if_pos x2]
    exact lw_l (eqr_q RR (q_worldsOf V H M _ _)) ih
  rw [if_neg c12]
  by_cases c13 : w = (13 : Int32)
  · rw [if_pos c13]
    simp only [if_pos x1, if_pos x2]
    exact lw_l (eqr_q RR (q_waysOf V H M _ _)) ih
  rw [if_neg c13]
  by_cases c14 : w = (14 : Int32)
  · rw [if_pos c14]
    simp only [if_pos x1, if_pos x2]
    exact lw_i (eqr_q RR (q_sure V H M _ _)) ih
  rw [if_neg c14]
  by_cases c15 : w = (15 : Int32)
  · rw [if_pos c15]
    simp only [if_pos x1, if_pos x2, if_pos x3]
    unfold f_L_odds
    exact lw_tl RR (t_odds V H M _ _ _) ih
  rw [if_neg c15]
  by_cases c16 : w = (16 : Int32)
  · rw [if_pos c16]
    simp only [if_pos x1, if_pos x2]
    exact lw_i (eqr_q RR (q_hours V H M _ _)) ih
  rw [if_neg c16]
  by_cases c17 : w = (17 : Int32)
  · rw [if_pos c17]
    simp only [if_pos x1, if_pos x2, if_pos x3]
    exact lw_l (eqr_q RR (q_both V H M _ _ _)) ih
  rw [if_neg c17]
  by_cases c18 : w = (18 : Int32)
  · rw [if_pos c18]
    simp only [if_pos x1, if_pos x2, if_pos x3]
    unfold f_L_bet
    exact lw_tl RR (t_bet V H M _ _ _) ih
  rw [if_neg c18]
  by_cases c19 : w = (19 : Int32)
  · rw [if_pos c19]
    simp only [if_pos x1]
    exact lw_i (eqr_q RR (q_lying V H M _)) ih
  rw [if_neg c19]
  by_cases c20 : w = (20 : Int32)
  · rw [if_pos c20]
    exact lw_i (eqr_q RR (q_liars V H M)) ih
  rw [if_neg c20]
  by_cases c21 : w = (21 : Int32)
  · rw [if_pos c21]
    simp only [if_pos x1]
    exact lw_i (eqr_q RR (q_liarSet V H M _)) ih
  rw [if_neg c21]
  by_cases c22 : w = (22 : Int32)
  · rw [if_pos c22]
    exact lw_i (eqr_q RR (q_clash V H M)) ih
  rw [if_neg c22]
  by_cases c23 : w = (23 : Int32)
  · rw [if_pos c23]
    simp only [if_pos x1, if_pos x2, if_pos x3]
    exact lw_l (eqr_q RR (q_wouldTell V H M _ _ _)) ih
  rw [if_neg c23]
  by_cases c24 : w = (24 : Int32)
  · rw [if_pos c24]
    simp only [if_pos x1, if_pos x2]
    exact lw_l (eqr_q RR (q_left V H M _ _)) ih
  rw [if_neg c24]
  by_cases c25 : w = (25 : Int32)
  · rw [if_pos c25]
    exact lw_i (eqr_q RR (q_next V H M)) ih
  rw [if_neg c25]
  by_cases c26 : w = (26 : Int32)
  · rw [if_pos c26]
    simp only [if_pos x1]
    exact lw_i (s_table RR _) ih
  rw [if_neg c26]
  by_cases c27 : w = (27 : Int32)
  · rw [if_pos c27]
    simp only [if_pos x1]
    exact lw_i (s_said RR _) ih
  rw [if_neg c27]
  by_cases c28 : w = (28 : Int32)
  · rw [if_pos c28]
    simp only [if_pos x1]
    exact lw_i (s_ended RR _) ih
  rw [if_neg c28]
  by_cases c29 : w = (29 : Int32)
  · rw [if_pos c29]
    exact lw_i (s_rules RR) ih
  rw [if_neg c29]
  by_cases c30 : w = (30 : Int32)
  · rw [if_pos c30]
    simp only [if_pos x1]
    exact lw_i (eqr_q RR (q_turn V H M _)) ih
  rw [if_neg c30]
  by_cases c31 : w = (31 : Int32)
  · rw [if_pos c31]
    simp only [if_pos x1]
    exact lw_i (eqr_q RR (q_content V H M _)) ih
  rw [if_neg c31]
  by_cases c32 : w = (32 : Int32)
  · rw [if_pos c32]
    exact lw_i (s_trade RR) ih
  rw [if_neg c32]
  by_cases c33 : w = (33 : Int32)
  · rw [if_pos c33]
    simp only [if_pos x1, if_pos x2]
    exact lw_i (s_drawn RR _ _) ih
  rw [if_neg c33]
  by_cases c34 : w = (34 : Int32)
  · rw [if_pos c34]
    simp only [if_pos x1]
    exact lw_i (s_image RR _) ih
  rw [if_neg c34]
  by_cases c35 : w = (35 : Int32)
  · rw [if_pos c35]
    simp only [if_pos x1]
    exact lw_i (s_restore RR _) ih
  rw [if_neg c35]
  by_cases c36 : w = (36 : Int32)
  · rw [if_pos c36]
    simp only [if_pos x1]
    exact lw_i (s_count RR _) ih
  rw [if_neg c36]
  exact ih d RR
theorem law_n {L : Nat} {xs : Nat → Int32} (hL : L ≤ 3072) : ∀ (n i : Nat) (d : DD), i + n = 512 → RZ d → f_L_law_23 L xs (n + 1) (nI (6 * i)) d = some () := by
  intro n
  induction n with
  | zero =>
    intro i d hi R
    show f_L_law_23B L xs (f_L_law_23 L xs 0) _ _ = _
    unfold f_L_law_23B
    rw [if_pos ((law_exit hL (by omega)).mpr (by omega))]
  | succ n ih =>
    intro i d hi R
    show f_L_law_23B L xs (f_L_law_23 L xs (n + 1)) _ _ = _
    by_cases c : L < 6 * i + 6
    · unfold f_L_law_23B
      rw [if_pos ((law_exit hL (by omega)).mpr c)]
    · refine law_s hL R (by omega) (fun d' R' => ?_)
      rw [show nI (6 * i) + (6 : Int32) = nI (6 * (i + 1)) from by rw [show (6 : Int32) = nI 6 from rfl, nI_add, show 6 * (i + 1) = 6 * i + 6 by omega]]
      exact ih (i + 1) d' (by omega) R'
theorem law_hp (L : Nat) (xs : Nat → Int32) (hL : L ≤ 3072) : f_L_law_23 L xs 513 0 d0 = some () := law_n hL 512 0 d0 (by omega) rl_d0
