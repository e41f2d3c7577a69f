-- PURE ROWS: odds and bet, answers and throws
def TQ {α : Type} (f : DD → Option (Option α × DD)) (g : DD → Option (α × DD)) (d : DD) : Prop := ∃ o r, (∃ d1, f d = some (o, d1) ∧ FQ d d1) ∧ ∀ d1, FQ d d1 → ∃ d2, g d1 = some (r, d2) ∧ FQ d1 d2 ∧ d2.2 110 = d1.2 110 ∧ d2.1 86 0 = (match o with
  | none => 1
  | some _ => 0) ∧ ∀ v, o = some v → v = r
theorem thr1 (d : DD) : f_X10_throwsIf 1 d = some (1, u1 d 86 0 1) := by
  unfold f_X10_throwsIf
  rw [if_neg (by decide), bd_e, if_pos (by decide)]
theorem thr0 (d : DD) : f_X10_throwsIf 0 d = some (0, u1 d 86 0 0) := by
  unfold f_X10_throwsIf
  rw [if_pos (by decide), bd_e, if_pos (by decide)]
theorem tq_none {α : Type} {f : DD → Option (Option α × DD)} {g : DD → Option (α × DD)} {d : DD} (r : α) (hf : ∃ d1, f d = some (none, d1) ∧ FQ d d1) (hg : ∀ d1, FQ d d1 → ∃ d2, g d1 = some (r, d2) ∧ FQ d1 d2 ∧ d2.2 110 = d1.2 110 ∧ d2.1 86 0 = 1) : TQ f g d := by
  refine ⟨none, r, hf, fun d1 F => ?_⟩
  obtain ⟨d2, e, h1, h2, h3⟩ := hg d1 F
  exact ⟨d2, e, h1, h2, h3, fun v z => by cases z⟩
theorem tq_some {α : Type} {f : DD → Option (Option α × DD)} {g : DD → Option (α × DD)} {d : DD} (r : α) (hf : ∃ d1, f d = some (some r, d1) ∧ FQ d d1) (hg : ∀ d1, FQ d d1 → ∃ d2, g d1 = some (r, d2) ∧ FQ d1 d2 ∧ d2.2 110 = d1.2 110 ∧ d2.1 86 0 = 0) : TQ f g d := by
  refine ⟨some r, r, hf, fun d1 F => ?_⟩
  obtain ⟨d2, e, h1, h2, h3⟩ := hg d1 F
  refine ⟨d2, e, h1, h2, h3, fun v z => ?_⟩
  injection z with z
  exact z.symm
theorem u186 (d : DD) (x : Int32) : (u1 d 86 0 x).1 86 0 = x := by
  rw [u1_at, if_pos ⟨rfl, rfl⟩]
theorem sv_bd {F : Nat → Nat} {B : Nat} (h : ∀ i, F i ≤ B) : ∀ (m v : Nat), sv F m v ≤ m * B
  | 0, _ => by show 0 ≤ _; exact Nat.zero_le _
  | m + 1, v => by
    have h1 := h v
    have h2 := sv_bd h m (v + 1)
    show F v + sv F m (v + 1) ≤ _
    rw [Nat.succ_mul]
    omega
theorem gb_lt {h : Nat → Nat} (V : VH h) (n k u : Nat) : GB h n k u < 2 ^ 40 := by
  rw [gb_sv]
  have b := sv_bd (F := fun v => GS h n (BF h k u v)) (B := 8 ^ 4 * 64 ^ 3) (fun v => gs_lt V n _) (30 - u) u
  have : (30 - u) * (8 ^ 4 * 64 ^ 3) ≤ 30 * (8 ^ 4 * 64 ^ 3) := Nat.mul_le_mul_right _ (by omega)
  omega
theorem t_odds {h nm} {d : DD} (V : VH h) (H : HC 2 d h nm) (M : HM d h) (x y z : Int32) : TQ (f_X9_odds x y z) (f_X10_odds x y z) d := by
  have v0 := V.1
  have refuse : ∀ (c : ¬ (ixb x (h 0) ∧ ixb y 30 ∧ ixb z 2)), TQ (f_X9_odds x y z) (f_X10_odds x y z) d := by
    intro c
    refine tq_none (0 : Int64) ⟨d, ?_, fq_refl d⟩ (fun d1 F => ⟨u1 d1 86 0 1, ?_, fq_thr d1 1, rfl, u186 d1 1⟩)
    · unfold f_X9_odds f_X9_odds_27
      by_cases c1 : ixb x (h 0)
      · by_cases c2 : ixb y 30
        · have c3 : ¬ ixb z 2 := fun q => c ⟨c1, c2, q⟩
          rcases nix (by omega) (by omega) c3 with q | ⟨q1, q2⟩
          · simp only [ob_e, bd_e, ↓reduceIte, one_ne, zro_eq, bI_t0, bI_f0, decide_true, decide_false, e_X1_hasKind V H, eq_true c1, e_X9_isHour, eq_true c2, eq_true q]
          · have q3 : (1 : Int32) < z := q2
            simp only [ob_e, bd_e, ↓reduceIte, one_ne, zro_eq, bI_t0, bI_f0, decide_true, decide_false, e_X1_hasKind V H, eq_true c1, e_X9_isHour, eq_true c2, q1, eq_true q3]
        · simp only [ob_e, bd_e, ↓reduceIte, one_ne, zro_eq, bI_t0, bI_f0, decide_true, decide_false, e_X1_hasKind V H, eq_true c1, e_X9_isHour, eq_false c2]
      · simp only [ob_e, bd_e, ↓reduceIte, one_ne, zro_eq, bI_t0, bI_f0, decide_true, decide_false, e_X1_hasKind V H, eq_false c1]
    · have M0 := hm_fq M F
      unfold f_X10_odds
      by_cases c1 : ixb x (h 0)
      · by_cases c2 : ixb y 30
        · have c3 : ¬ ixb z 2 := fun q => c ⟨c1, c2, q⟩
          have ei := e_X10_isIn0 (x := z) (n := 2) (by omega) d1
          rw [show nI 0 = (0 : Int32) from rfl, show pI 2 = (1 : Int32) from rfl] at ei
          simp only [ob_e, bd_e, ↓reduceIte, one_ne, zro_eq, bI_t0, bI_f0, decide_true, decide_false, e_X10_isKind V M0, eq_true c1, e_X10_isHour, eq_true c2, ei, eq_false c3, thr1]
        · simp only [ob_e, bd_e, ↓reduceIte, one_ne, zro_eq, bI_t0, bI_f0, decide_true, decide_false, e_X10_isKind V M0, eq_true c1, e_X10_isHour, eq_false c2, thr1]
      · simp only [ob_e, bd_e, ↓reduceIte, one_ne, zro_eq, bI_t0, bI_f0, decide_true, decide_false, e_X10_isKind V M0, eq_false c1, thr1]
  rcases ix_dec x (n := h 0) (by omega) with ⟨k, hk, rfl⟩ | c
  · rcases ix_dec y (n := 30) (by omega) with ⟨u, hu, rfl⟩ | c
    · rcases ix_dec z (n := 2) (by omega) with ⟨w, hw, rfl⟩ | c
      · have ck := ixt hk (by omega)
        have ct := ixt hu (by omega)
        have cw := ixt hw (by omega)
        have c1 : ¬ nI w < 0 := nI_pos (by omega)
        have c2 : ¬ (1 : Int32) < nI w := by rw [show (1 : Int32) = nI 1 from rfl, nI_ltI (by omega) (by omega)]; omega
        have g1 := gs_lt V (h 169) FT
        have g2 := gs_lt V (h 169) (FK k (fun t => pb (h (2 + k)) (h (5 + k)) t u))
        have cls : OW (f_X9_odds (nI k) (nI u) (nI w) d) (fun o d1 => FQ d d1 ∧ o = if GS h (h 169) FT = 0 then none else some (lN (rdc (GS h (h 169) (FK k (fun t => pb (h (2 + k)) (h (5 + k)) t u))) (GS h (h 169) FT) (nI w)))) := by
          unfold f_X9_odds
          simp only [ob_e, bd_e, ↓reduceIte, one_ne, zro_eq, bI_t0, bI_f0, decide_true, decide_false, e_X1_hasKind V H, eq_true ck, e_X9_isHour, eq_true ct, c1, c2]
          refine c_gather V H ?_
          intro d1 first L F1 H1 X I
          simp only [ob_e, bd_e, ↓reduceIte, one_ne, zro_eq, bI_t0, bI_f0, decide_true, decide_false, c_isEmpty V X I]
          by_cases e : GS h (h 169) FT = 0
          · simp only [ob_e, bd_e, ↓reduceIte, one_ne, zro_eq, bI_t0, bI_f0, decide_true, decide_false, eq_true e]
            exact ow_ret ⟨fq72 (fr_mono F1 (by decide)), rfl⟩
          · simp only [ob_e, bd_e, ↓reduceIte, one_ne, zro_eq, bI_t0, bI_f0, decide_true, decide_false, eq_false e]
            refine ow_call (e_pickAny d1) ?_
            intro _ d2 H2
            have HH2 := hc_fr H1 H2.1 (by decide)
            have X2 := gx_fr X H2.1 (by decide) (by decide) (by decide)
            have F3 : FR [78] d2 (u2 d2 78 k (mkL (fun t => pb (h (2 + k)) (h (5 + k)) t u))) := fr_u2 (fr_refl _ _) (by decide)
            have HH3 := hc_fr HH2 F3 (by decide)
            have X3 := gx_fr X2 F3 (by decide) (by decide) (by decide)
            simp only [ob_e, e_X1_passing hb_2 V HH2 hk hu, e_pick (show k < 3 by omega), e_picked V HH3 X3 (pk_one H2.2 (show k < 3 by omega) _)]
            refine ow_call (e_total V HH3 X3) ?_
            intro r d4 H4
            obtain ⟨F4, rfl⟩ := H4
            rw [ps_gs V I (fk_hi hk _), ps_gs V I (fun _ _ _ => rfl), e_reduced (by omega) (by omega) (by omega), ob_e]
            exact ow_ret ⟨fq72 (fr_trans (fr_mono F1 (by decide)) (fr_trans (fr_mono H2.1 (by decide)) (fr_trans (fr_mono F3 (by decide)) (fr_mono F4 (by decide))))), rfl⟩
        have mdl : ∀ d1, FQ d d1 → ∃ d2, f_X10_odds (nI k) (nI u) (nI w) d1 = some ((if GS h (h 169) FT = 0 then lN 0 else lN (rdc (GS h (h 169) (FK k (fun t => pb (h (2 + k)) (h (5 + k)) t u))) (GS h (h 169) FT) (nI w))), d2) ∧ FQ d1 d2 ∧ d2.2 110 = d1.2 110 ∧ d2.1 86 0 = if GS h (h 169) FT = 0 then 1 else 0 := by
          intro d1 F
          have M1 := hm_fq M F
          have M0 := hm_fq M1 (fq_thr d1 0)
          have ei := e_X10_isIn0 (x := nI w) (n := 2) (by omega) d1
          rw [show nI 0 = (0 : Int32) from rfl, show pI 2 = (1 : Int32) from rfl] at ei
          have ow : OW (f_X10_odds (nI k) (nI u) (nI w) d1) (fun r d2 => r = (if GS h (h 169) FT = 0 then lN 0 else lN (rdc (GS h (h 169) (FK k (fun t => pb (h (2 + k)) (h (5 + k)) t u))) (GS h (h 169) FT) (nI w))) ∧ FQ d1 d2 ∧ d2.2 110 = d1.2 110 ∧ d2.1 86 0 = if GS h (h 169) FT = 0 then 1 else 0) := by
            unfold f_X10_odds
            simp only [ob_e, bd_e, ↓reduceIte, one_ne, zro_eq, bI_t0, bI_f0, decide_true, decide_false, e_X10_isKind V M1, eq_true ck, e_X10_isHour, eq_true ct, ei, eq_true cw, thr0, eq_true e169]
            refine m_all V M0 ?_
            intro d2 F2 M2
            simp only [gs0 V]
            have FF := fq_trans (fq_thr d1 0) (fq96 (fr_mono F2 (by decide)))
            by_cases e : GS h (h 169) FT = 0
            · simp only [ob_e, bd_e, ↓reduceIte, one_ne, zro_eq, bI_t0, bI_f0, decide_true, decide_false, eq_true e, thr1]
              refine ow_ret ⟨rfl, fq_trans FF (fq_thr d2 1), ?_, u186 d2 1⟩
              show d2.2 110 = _
              rw [(F2 110 (by decide)).2]
              rfl
            · have M3 := hm_fq M2 (fq_thr d2 0)
              simp only [ob_e, bd_e, ↓reduceIte, one_ne, zro_eq, bI_t0, bI_f0, decide_true, decide_false, eq_false e, thr0, e_X10_passing V M3 hk hu]
              refine ow_call (e_X10_worldsIn V M3 hk _) ?_
              intro r d4 H4
              obtain ⟨F4, rfl⟩ := H4
              rw [show (fun j t => if j = k then pb (h (2 + k)) (h (5 + k)) t u else true) = FK k (fun t => pb (h (2 + k)) (h (5 + k)) t u) from rfl, e_part (by omega) (by omega) (by omega), ob_e]
              refine ow_ret ⟨rfl, fq_trans FF (fq_trans (fq_thr d2 0) (fq96 (fr_mono F4 (by decide)))), ?_, ?_⟩
              · show d4.2 110 = _
                rw [(F4 110 (by decide)).2]
                show d2.2 110 = _
                rw [(F2 110 (by decide)).2]
                rfl
              · show d4.1 86 0 = _
                rw [(F4 86 (by decide)).1, u186]
          obtain ⟨r, d2, e, rfl, h2⟩ := ow
          exact ⟨d2, e, h2⟩
        obtain ⟨o, d1, e1, F1, rfl⟩ := cls
        by_cases e : GS h (h 169) FT = 0
        · simp only [eq_true e, if_true] at e1 mdl
          exact tq_none _ ⟨d1, e1, F1⟩ mdl
        · simp only [eq_false e, if_false] at e1 mdl
          exact tq_some _ ⟨d1, e1, F1⟩ mdl
      · exact refuse (fun q => c q.2.2)
    · exact refuse (fun q => c q.2.1)
  · exact refuse (fun q => c q.1)
theorem t_bet {h nm} {d : DD} (V : VH h) (H : HC 2 d h nm) (M : HM d h) (x y z : Int32) : TQ (f_X9_bet x y z) (f_X10_bet x y z) d := by
  have v0 := V.1
  have refuse : ∀ (c : ¬ (ixb x (h 0) ∧ ixb y 30 ∧ ixb z 2)), TQ (f_X9_bet x y z) (f_X10_bet x y z) d := by
    intro c
    refine tq_none (0 : Int64) ⟨d, ?_, fq_refl d⟩ (fun d1 F => ⟨u1 d1 86 0 1, ?_, fq_thr d1 1, rfl, u186 d1 1⟩)
    · unfold f_X9_bet f_X9_bet_27
      by_cases c1 : ixb x (h 0)
      · by_cases c2 : ixb y 30
        · have c3 : ¬ ixb z 2 := fun q => c ⟨c1, c2, q⟩
          rcases nix (by omega) (by omega) c3 with q | ⟨q1, q2⟩
          · simp only [ob_e, bd_e, ↓reduceIte, one_ne, zro_eq, bI_t0, bI_f0, decide_true, decide_false, e_X1_hasKind V H, eq_true c1, e_X9_isHour, eq_true c2, eq_true q]
          · have q3 : (1 : Int32) < z := q2
            simp only [ob_e, bd_e, ↓reduceIte, one_ne, zro_eq, bI_t0, bI_f0, decide_true, decide_false, e_X1_hasKind V H, eq_true c1, e_X9_isHour, eq_true c2, q1, eq_true q3]
        · simp only [ob_e, bd_e, ↓reduceIte, one_ne, zro_eq, bI_t0, bI_f0, decide_true, decide_false, e_X1_hasKind V H, eq_true c1, e_X9_isHour, eq_false c2]
      · simp only [ob_e, bd_e, ↓reduceIte, one_ne, zro_eq, bI_t0, bI_f0, decide_true, decide_false, e_X1_hasKind V H, eq_false c1]
    · have M0 := hm_fq M F
      unfold f_X10_bet
      by_cases c1 : ixb x (h 0)
      · by_cases c2 : ixb y 30
        · have c3 : ¬ ixb z 2 := fun q => c ⟨c1, c2, q⟩
          have ei := e_X10_isIn0 (x := z) (n := 2) (by omega) d1
          rw [show nI 0 = (0 : Int32) from rfl, show pI 2 = (1 : Int32) from rfl] at ei
          simp only [ob_e, bd_e, ↓reduceIte, one_ne, zro_eq, bI_t0, bI_f0, decide_true, decide_false, e_X10_isKind V M0, eq_true c1, e_X10_isHour, eq_true c2, ei, eq_false c3, thr1]
        · simp only [ob_e, bd_e, ↓reduceIte, one_ne, zro_eq, bI_t0, bI_f0, decide_true, decide_false, e_X10_isKind V M0, eq_true c1, e_X10_isHour, eq_false c2, thr1]
      · simp only [ob_e, bd_e, ↓reduceIte, one_ne, zro_eq, bI_t0, bI_f0, decide_true, decide_false, e_X10_isKind V M0, eq_false c1, thr1]
  rcases ix_dec x (n := h 0) (by omega) with ⟨k, hk, rfl⟩ | c
  · rcases ix_dec y (n := 30) (by omega) with ⟨u, hu, rfl⟩ | c
    · rcases ix_dec z (n := 2) (by omega) with ⟨w, hw, rfl⟩ | c
      · have ck := ixt hk (by omega)
        have ct := ixt hu (by omega)
        have cw := ixt hw (by omega)
        have c1 : ¬ nI w < 0 := nI_pos (by omega)
        have c2 : ¬ (1 : Int32) < nI w := by rw [show (1 : Int32) = nI 1 from rfl, nI_ltI (by omega) (by omega)]; omega
        have g1 := gs_lt V (h 169) FT
        have g2 := gb_lt V (h 169) k u
        have cls : OW (f_X9_bet (nI k) (nI u) (nI w) d) (fun o d1 => FQ d d1 ∧ o = if GS h (h 169) FT = 0 then none else some (lN (rdc (GB h (h 169) k u) (GS h (h 169) FT) (nI w)))) := by
          unfold f_X9_bet
          simp only [ob_e, bd_e, ↓reduceIte, one_ne, zro_eq, bI_t0, bI_f0, decide_true, decide_false, e_X1_hasKind V H, eq_true ck, e_X9_isHour, eq_true ct, c1, c2]
          refine c_gather V H ?_
          intro d1 first L F1 H1 X I
          simp only [ob_e, bd_e, ↓reduceIte, one_ne, zro_eq, bI_t0, bI_f0, decide_true, decide_false, c_isEmpty V X I]
          by_cases e : GS h (h 169) FT = 0
          · simp only [ob_e, bd_e, ↓reduceIte, one_ne, zro_eq, bI_t0, bI_f0, decide_true, decide_false, eq_true e]
            exact ow_ret ⟨fq72 (fr_mono F1 (by decide)), rfl⟩
          · simp only [ob_e, bd_e, ↓reduceIte, one_ne, zro_eq, bI_t0, bI_f0, decide_true, decide_false, eq_false e]
            refine ow_call (e_ahead V H1 X (show k < 3 by omega) hu) ?_
            intro r d2 H2
            obtain ⟨F2, rfl⟩ := H2
            have HH2 := hc_fr H1 F2 (by decide)
            have X2 := gx_fr X F2 (by decide) (by decide) (by decide)
            refine ow_call (e_total V HH2 X2) ?_
            intro r d4 H4
            obtain ⟨F4, rfl⟩ := H4
            have es : sv (fun v => PS h (CFm h k u v) L) (30 - u) u = GB h (h 169) k u := by
              rw [gb_sv]
              exact sv_congr _ _ (fun i h1 h2 => ps_bf V I hk h1 (by omega))
            rw [es, ps_gs V I (fun _ _ _ => rfl), e_reduced g2 (by omega) (by omega), ob_e]
            exact ow_ret ⟨fq72 (fr_trans (fr_mono F1 (by decide)) (fr_trans (fr_mono F2 (by decide)) (fr_mono F4 (by decide)))), rfl⟩
        have mdl : ∀ d1, FQ d d1 → ∃ d2, f_X10_bet (nI k) (nI u) (nI w) d1 = some ((if GS h (h 169) FT = 0 then lN 0 else lN (rdc (GB h (h 169) k u) (GS h (h 169) FT) (nI w))), d2) ∧ FQ d1 d2 ∧ d2.2 110 = d1.2 110 ∧ d2.1 86 0 = if GS h (h 169) FT = 0 then 1 else 0 := by
          intro d1 F
          have M1 := hm_fq M F
          have M0 := hm_fq M1 (fq_thr d1 0)
          have ei := e_X10_isIn0 (x := nI w) (n := 2) (by omega) d1
          rw [show nI 0 = (0 : Int32) from rfl, show pI 2 = (1 : Int32) from rfl] at ei
          have ow : OW (f_X10_bet (nI k) (nI u) (nI w) d1) (fun r d2 => r = (if GS h (h 169) FT = 0 then lN 0 else lN (rdc (GB h (h 169) k u) (GS h (h 169) FT) (nI w))) ∧ FQ d1 d2 ∧ d2.2 110 = d1.2 110 ∧ d2.1 86 0 = if GS h (h 169) FT = 0 then 1 else 0) := by
            unfold f_X10_bet
            simp only [ob_e, bd_e, ↓reduceIte, one_ne, zro_eq, bI_t0, bI_f0, decide_true, decide_false, e_X10_isKind V M1, eq_true ck, e_X10_isHour, eq_true ct, ei, eq_true cw, thr0]
            refine e_X10_bt V M0 hk hu (nI w) _ ?_
            intro d2 F2
            have FF := fq_trans (fq_thr d1 0) (fq96 (fr_mono F2 (by decide)))
            unfold bX
            simp only [gs0 V]
            by_cases e : GS h (h 169) FT = 0
            · simp only [ob_e, bd_e, ↓reduceIte, one_ne, zro_eq, bI_t0, bI_f0, decide_true, decide_false, eq_true e, thr1]
              refine ow_ret ⟨rfl, fq_trans FF (fq_thr d2 1), ?_, u186 d2 1⟩
              show d2.2 110 = _
              rw [(F2 110 (by decide)).2]
              rfl
            · simp only [ob_e, bd_e, ↓reduceIte, one_ne, zro_eq, bI_t0, bI_f0, decide_true, decide_false, eq_false e, thr0]
              rw [e_part g2 (by omega) (by omega), ob_e]
              refine ow_ret ⟨rfl, fq_trans FF (fq_thr d2 0), ?_, u186 d2 0⟩
              show d2.2 110 = _
              rw [(F2 110 (by decide)).2]
              rfl
          obtain ⟨r, d2, e, rfl, h2⟩ := ow
          exact ⟨d2, e, h2⟩
        obtain ⟨o, d1, e1, F1, rfl⟩ := cls
        by_cases e : GS h (h 169) FT = 0
        · simp only [eq_true e, if_true] at e1 mdl
          exact tq_none _ ⟨d1, e1, F1⟩ mdl
        · simp only [eq_false e, if_false] at e1 mdl
          exact tq_some _ ⟨d1, e1, F1⟩ mdl
      · exact refuse (fun q => c q.2.2)
    · exact refuse (fun q => c q.2.1)
  · exact refuse (fun q => c q.1)
