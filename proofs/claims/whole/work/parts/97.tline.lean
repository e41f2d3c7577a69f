-- PURE ROWS: a line of tellings
theorem e_add66 {d : DD} {n a u s : Nat} (hn : d.1 66 0 = nI n) (h40 : n < 40) : f_X5_add 66 (nI a) (nI u) (nI s) d = some (1, u1 (u1 (u1 (u1 d 67 n (nI a)) 68 n (nI u)) 69 n (nI s)) 66 0 (nI (n + 1))) := by
  unfold f_X5_add
  rw [hn, if_pos (show nI n < (40 : Int32) from (nI_ltI (b := 40) (by omega) (by omega)).mpr h40), rf_66_1, rf_66_2, rf_66_3, e_X9_put, ob_e, wr1_in (by rw [ln_67]; exact h40)]
  dsimp only
  rw [show (u1 d 67 n (nI a)).1 66 0 = nI n from by rw [u1_at, if_neg (by omega)]; exact hn, e_X9_put, ob_e, wr1_in (by rw [ln_68]; exact h40)]
  dsimp only
  rw [show (u1 (u1 d 67 n (nI a)) 68 n (nI u)).1 66 0 = nI n from by rw [u1_at, if_neg (by omega), u1_at, if_neg (by omega)]; exact hn, e_X9_put, ob_e, wr1_in (by rw [ln_69]; exact h40)]
  dsimp only
  rw [show (u1 (u1 (u1 d 67 n (nI a)) 68 n (nI u)) 69 n (nI s)).1 66 0 = nI n from by rw [u1_at, if_neg (by omega), u1_at, if_neg (by omega), u1_at, if_neg (by omega)]; exact hn, bd_e, nI_1]
theorem kl_l {G : TX} {T : Nat} {h : Nat → Nat} {nm : Nat → Int64} {c0 m0 : DD} {k : Nat} (X : VX G) (V : VH h) (H : HC 2 c0 h nm) (M0 : HM m0 h) (N : ∀ k, k < 7 → m0.2 92 k = nm k) (W : RW m0) (hk : k < 40) : ∀ (n i j s f f' : Nat) (c m : DD), 4 ≤ i + n → n < f → n < f' → i ≤ cnt (h 0) (fun x => s.testBit x) → s < 2 ^ h 0 → CFR c0 c → MF m0 m → CUR G T j c → MS G m j → m.1 86 23 = nI k → ∃ rk c', f_X6_readKinds_4 2 f (nI s) (nI i) c = some (rk, c') ∧ ((rk = (-1 : Int32) ∧ ∃ m', f_X10_readTelling_97 f' (nI s) m = some ((0 : Int32), m') ∧ FLT c0 m0 c' m') ∨ ∃ s' j' m1, rk = nI s' ∧ s' < 2 ^ h 0 ∧ so G j' = 2 ∧ j ≤ j' ∧ CFR c0 c' ∧ MF m0 m1 ∧ CUR G T j' c' ∧ MS G m1 j' ∧ (∀ a, a ≠ 44 → c'.1 a = c.1 a ∧ c'.2 a = c.2 a) ∧ c'.1 44 2 = c.1 44 2 ∧ SK m m1 ∧ f_X10_readTelling_97 f' (nI s) m = some ((1 : Int32), u1 m1 90 (3 * k + 2) (nI s'))) := by
  have v0 := V.1
  have p8 := p28 v0
  intro n
  induction n with
  | zero =>
    intro i j s f f' c m hi hf hf' hc hs Fc Fm C M h23
    have := cnt_le (h 0) (fun x => s.testBit x)
    omega
  | succ n ih =>
    intro i j s f f' c m hi hf hf' hc hs Fc Fm C M h23
    obtain ⟨f, rfl⟩ : ∃ f1, f = f1 + 1 := ⟨f - 1, by omega⟩
    obtain ⟨f', rfl⟩ : ∃ f1, f' = f1 + 1 := ⟨f' - 1, by omega⟩
    have cl := cnt_le (h 0) (fun x => s.testBit x)
    have Hc := hc_cfr H Fc
    have Mm := hm_mf M0 Fm
    have r0 : m.1 88 (0 : Int32).toNatClampNeg = nI (h 0) := Mm.1 0
    have a0 : ixb (0 : Int32) (ln 88) := (ix_nI (n := 0) (by omega)).mpr (by rw [ln_88]; omega)
    have fe : ff (fun k => m.2 92 (0 + k)) (va G j) (h 0) 0 = ff nm (va G j) (h 0) 0 := ff_congr (fun i _ hi => by
      rw [Nat.zero_add]
      exact (Fm.2.1 i (by omega)).trans (N i (by omega)))
    show ∃ rk c', f_X6_readKinds_4B 2 (f_X6_readKinds_4 2 f) _ _ _ = some (rk, c') ∧ ((rk = (-1 : Int32) ∧ ∃ m', f_X10_readTelling_97B (f_X10_readTelling_97 f') _ _ = some ((0 : Int32), m') ∧ FLT c0 m0 c' m') ∨ ∃ s' j' m1, rk = nI s' ∧ s' < 2 ^ h 0 ∧ so G j' = 2 ∧ j ≤ j' ∧ CFR c0 c' ∧ MF m0 m1 ∧ CUR G T j' c' ∧ MS G m1 j' ∧ (∀ a, a ≠ 44 → c'.1 a = c.1 a ∧ c'.2 a = c.2 a) ∧ c'.1 44 2 = c.1 44 2 ∧ SK m m1 ∧ f_X10_readTelling_97B (f_X10_readTelling_97 f') (nI s) m = some ((1 : Int32), u1 m1 90 (3 * k + 2) (nI s')))
    unfold f_X6_readKinds_4B f_X10_readTelling_97B
    rw [if_neg (show ¬ (3 : Int32) < nI i from fun z => by have := (nI_ltI (a := 3) (by omega) (by omega)).mp z; omega), e_sort C, ob_e, e_isSign M, ob_e]
    dsimp only
    by_cases s2 : so G j = 2
    · have ix : (3 : Int32) * nI k + (2 : Int32) = nI (3 * k + 2) := by rw [show (3 : Int32) = nI 3 from rfl, pk_mul, show (2 : Int32) = nI 2 from rfl, nI_add]
      refine ⟨nI s, c, if_pos (show nI (so G j) = 2 by rw [s2]; rfl), Or.inr ⟨s, j, m, rfl, hs, s2, Nat.le_refl _, Fc, Fm, C, M, fun _ _ => ⟨rfl, rfl⟩, rfl, sk_refl m, ?_⟩⟩
      rw [decide_eq_true s2, if_neg (show ¬ bI true = 0 by decide), h23, ix, if_pos ((ix_nI (by omega)).mpr (by rw [ln_90]; omega)), bd_e, nI_clamp (by omega)]
    · rw [if_neg (show ¬ nI (so G j) = 2 from fun z => s2 ((so_eq (s := 2) (by omega)).mp z)), decide_eq_false s2, if_pos (show bI false = 0 from rfl), e_peekKind hb_2 V C Hc, e_isName M (rw_mf W Fm), ob_e]
      dsimp only
      by_cases s4 : so G j = 4
      · rw [if_pos s4, decide_eq_true s4, if_neg (show ¬ bI true = 0 by decide), if_pos a0, r0, show f_X10_find (0 : Int32) (nI (h 0)) m = _ from e_find M (by omega) (fr := 0) (by omega), ob_e, fe]
        cases q : ff nm (va G j) (h 0) 0 with
        | none =>
          dsimp only
          rw [ob_e, if_pos rfl, if_pos (show fI none < (0 : Int32) by decide)]
          unfold f_X10_readTelling_143
          rw [show f_X10_bad (3 : Int32) m = _ from e_bad M 3, ob_e]
          rw [or01]
          exact ⟨-1, _, rfl, Or.inl ⟨rfl, _, rfl, flt X Fc Fm 3⟩⟩
        | some a =>
          have fl := ff_lt q
          dsimp only
          rw [ob_e, if_neg (nI_nm (by omega)), if_neg (show ¬ fI (some a) < (0 : Int32) from nI_pos (by omega)), show f_X10_has (nI s) (fI (some a)) m = _ from e_X10_has (by omega) (by omega) m, ob_e]
          dsimp only
          by_cases tb : s.testBit a = true
          · rw [if_pos (show iushr (nI s) (nI a) &&& (1 : Int32) = 1 from (q_uhas (by omega) (by omega)).mpr tb), tb, if_neg (show ¬ bI true = 0 by decide), show f_X0_refuse (3 : Int32) c = _ from e_refuse C 3, ob_e]
            unfold f_X10_readTelling_143
            rw [show f_X10_bad (3 : Int32) m = _ from e_bad M 3, ob_e]
            rw [or01]
            exact ⟨-1, _, rfl, Or.inl ⟨rfl, _, rfl, flt X Fc Fm 3⟩⟩
          · have tf : s.testBit a = false := by rw [Bool.not_eq_true] at tb; exact tb
            obtain ⟨m1, e1, S1, M1⟩ := ms_next X M (by omega)
            have C1 := cur_next C (show 2 ≤ so G j by omega)
            have hs' : s ||| 2 ^ a < 2 ^ h 0 := Nat.or_lt_two_pow hs (Nat.pow_lt_pow_right (by decide) (by omega))
            have tb' : ∀ x, (s ||| 2 ^ a).testBit x = (s.testBit x || decide (a = x)) := fun x => by rw [Nat.testBit_or, Nat.testBit_two_pow]
            have ci : i + 1 ≤ cnt (h 0) (fun x => (s ||| 2 ^ a).testBit x) := by
              have := cnt_strict (n := h 0) (P := fun x => s.testBit x) (Q := fun x => (s ||| 2 ^ a).testBit x) (j := a) (fun i _ z => by rw [tb', z]; rfl) (by omega) tf (by rw [tb', decide_eq_true rfl, Bool.or_true])
              omega
            rw [if_neg (show ¬ iushr (nI s) (nI a) &&& (1 : Int32) = 1 from fun z => tb ((q_uhas (by omega) (by omega)).mp z)), tf, if_pos (show bI false = 0 from rfl), bd_e, bd_e, bd_e, e1, ob_e, e_ix C]
            dsimp only
            rw [show (1 : Int32) <<< (nI a &&& 31) = nI (2 ^ a) from q_shl (by omega), show (1 : Int32) <<< (fI (some a) &&& 31) = nI (2 ^ a) from q_shl (by omega), nx_or, nI_1]
            obtain ⟨rk, c', ea, alt⟩ := ih (i + 1) (j + 1) (s ||| 2 ^ a) f f' (nxc c j) m1 (by omega) (by omega) (by omega) ci hs' (cfr_nx Fc) (mf_trans Fm (mf_sk S1)) C1 M1 (by rw [S1.2 23 (by decide)]; exact h23)
            refine ⟨rk, c', ea, ?_⟩
            rcases alt with alt | ⟨s', j', m', x1, x2, x3, x4, x5, x6, x7, x8, x9, x10, x11, x12⟩
            · exact Or.inl alt
            · refine Or.inr ⟨s', j', m', x1, x2, x3, by omega, x5, x6, x7, x8, fun b hb => ?_, ?_, sk_trans S1 x11, x12⟩
              · obtain ⟨y1, y2⟩ := x9 b hb
                refine ⟨y1.trans ?_, y2⟩
                funext z
                exact nx_o (fun w => hb w.1)
              · rw [x10]
                exact nx_o (by omega)
      · rw [if_neg s4, ob_e, if_pos rfl, decide_eq_false s4, if_pos (show bI false = 0 from rfl), show f_X10_bad (1 : Int32) m = _ from e_bad M 1, ob_e]
        dsimp only
        rw [or01]
        exact ⟨-1, _, rfl, Or.inl ⟨rfl, _, rfl, flt X Fc Fm 1⟩⟩
def TLI (G : TX) (T : Nat) (h : Nat → Nat) (c0 m0 : DD) (j k : Nat) (w : Nat → Nat) (c m : DD) : Prop := CFR c0 c ∧ MF m0 m ∧ CUR G T j c ∧ MS G m j ∧ c.1 44 2 = nI 0 ∧ m.1 86 16 = nI 0 ∧ k ≤ 40 ∧ c.1 66 0 = nI k ∧ m.1 86 23 = nI k ∧ (∀ q, q < 3 * k → m.1 90 q = nI (w q)) ∧ ∀ i, i < k → c.1 67 i = nI (w (3 * i)) ∧ c.1 68 i = nI (w (3 * i + 1)) ∧ c.1 69 i = nI (w (3 * i + 2)) ∧ w (3 * i) < h 1 ∧ w (3 * i + 1) < 30 ∧ w (3 * i + 2) < 2 ^ h 0
theorem t77 (v w : Int32) (c : DD) : f_X6_readLine_77 2 v w (-1 : Int32) c = some ((0 : Int32), c) := by
  unfold f_X6_readLine_77
  rw [if_pos rfl]
theorem l_tell {G : TX} {T j k : Nat} {h : Nat → Nat} {nm : Nat → Int64} {c0 m0 : DD} {w : Nat → Nat} {c m : DD} (X : VX G) (V : VH h) (H : HC 2 c0 h nm) (M0 : HM m0 h) (N : ∀ k, k < 7 → m0.2 92 k = nm k) (W : RW m0) (I : TLI G T h c0 m0 j k w c m) : LR (f_X6_readLine 2 c) (f_X10_readTelling m) c0 m0 (fun c' m' => ∃ j' w', TLI G T h c0 m0 j' (k + 1) w' c' (u1 m' 86 23 (nI (k + 1))) ∧ j + 2 ≤ j' ∧ m'.1 86 23 = nI k) := by
  obtain ⟨Fc, Fm, C, M, k2, k16, k40, c66, m23, m90, A⟩ := I
  have v0 := V.1
  have v1 := V.2.1
  have p8 := p28 v0
  have Hc := hc_cfr H Fc
  have Mm := hm_mf M0 Fm
  have r1 : m.1 88 (1 : Int32).toNatClampNeg = nI (h 1) := Mm.1 1
  have fe : ff (fun k => m.2 92 (3 + k)) (va G j) (h 1) 0 = ff (fun a => nm (3 + a)) (va G j) (h 1) 0 := ff_congr (fun i _ hi => (Fm.2.1 (3 + i) (by omega)).trans (N (3 + i) (by omega)))
  unfold f_X6_readLine f_X10_readTelling
  rw [e_peekPerson hb_2 V C Hc, e_isName M (rw_mf W Fm), ob_e]
  dsimp only
  by_cases s0 : so G j = 4
  · rw [if_pos s0, decide_eq_true s0, if_neg (show ¬ bI true = 0 by decide), if_pos e1_88, r1, show f_X10_find (3 : Int32) (nI (h 1)) m = _ from e_find M (by omega) (fr := 3) (by omega), ob_e, fe]
    cases q : ff (fun a => nm (3 + a)) (va G j) (h 1) 0 with
    | none =>
      dsimp only
      rw [ob_e, if_pos rfl, if_pos (show fI none < (0 : Int32) by decide), show f_X10_bad (3 : Int32) m = _ from e_bad M 3, ob_e]
      rw [or01]
      exact lr_bad X Fc Fm 3
    | some a =>
      have fl := ff_lt q
      dsimp only
      rw [ob_e, if_neg (nI_nm (by omega)), if_neg (show ¬ fI (some a) < (0 : Int32) from nI_pos (by omega)), c66, m23]
      by_cases hk : k < 40
      · obtain ⟨m1, e1, S1, M1⟩ := ms_next X M (by omega)
        have C1 := cur_next C (show 2 ≤ so G j by omega)
        have F1 := mf_trans Fm (mf_sk S1)
        have G1 := cfr_nx (j := j) Fc
        obtain ⟨ta, tb, tc⟩ := e_takes X M1 (lo := 0) (hi := 29) (by omega) (by omega)
        rw [if_pos (show nI k < (40 : Int32) from (nI_ltI (b := 40) (by omega) (by omega)).mpr hk), if_neg (show ¬ nI k = (40 : Int32) from fun z => by have := (nI_eq (b := 40) (by omega) (by omega)).mp z; omega), e1, ob_e, bd_e, e_ix C]
        dsimp only
        rw [show f_X0_readNumber (0 : Int32) (29 : Int32) (nxc c j) = _ from e_readNumber C1 (lo := 0) (hi := 29) (by omega) (by omega)]
        by_cases s1 : so G (j + 1) = 3
        · rw [if_pos s1]
          by_cases d1 : 0 ≤ dv G (j + 1) ∧ dv G (j + 1) ≤ 29
          · obtain ⟨m2, e2, F2, O2, P2, g2, M2⟩ := ta s1 d1
            have C2 := cur_next C1 (show 2 ≤ so G (j + 1) by omega)
            have F2' := mf_trans F1 F2
            have G2 := cfr_nx (j := j + 1) G1
            have i0 : (3 : Int32) * nI k = nI (3 * k) := by rw [show (3 : Int32) = nI 3 from rfl, pk_mul]
            have n23 : m2.1 86 23 = nI k := by rw [P2 23 (by decide), S1.2 23 (by decide)]; exact m23
            have a3 : (u1 m2 90 (3 * k) (nI a)).1 86 23 = nI k := by rw [u1_at, if_neg (by omega)]; exact n23
            have g3 : (u1 m2 90 (3 * k) (nI a)).1 86 19 = nI (dv G (j + 1)) := by rw [u1_at, if_neg (by omega)]; exact g2
            rw [if_pos d1, ob_e, show f_X10_takes (0 : Int32) (29 : Int32) m1 = _ from e2, ob_e]
            dsimp only
            rw [if_neg (nI_nm (by omega)), if_neg (show ¬ (1 : Int32) = 0 by decide), n23, i0, if_pos ((ix_nI (by omega)).mpr (by rw [ln_90]; omega)), bd_e, nI_clamp (show 3 * k < 2 ^ 31 by omega), show u1 m2 90 (3 * k) (fI (some a)) = u1 m2 90 (3 * k) (nI a) from rfl, a3, i0, nI_1, if_pos ((ix_nI (by omega)).mpr (by rw [ln_90]; omega)), bd_e, nI_clamp (show 3 * k + 1 < 2 ^ 31 by omega), g3]
            have M3 : MS G (u1 (u1 m2 90 (3 * k) (nI a)) 90 (3 * k + 1) (nI (dv G (j + 1)))) (j + 1 + 1) := ms_keep M2 (by funext i; rw [u1_at, if_neg (by omega), u1_at, if_neg (by omega)]) rfl (fun i _ => by rw [u1_at, if_neg (by omega), u1_at, if_neg (by omega)])
            have F3 : MF m0 (u1 (u1 m2 90 (3 * k) (nI a)) 90 (3 * k + 1) (nI (dv G (j + 1)))) := mf_u1 (mf_u1 F2' (by decide)) (by decide)
            obtain ⟨rk, c5, ek, alt⟩ := kl_l X V H M0 N W hk 4 0 (j + 1 + 1) 0 FU FU (nxc (nxc c j) (j + 1)) _ (by omega) (by unfold FU; omega) (by unfold FU; omega) (Nat.zero_le _) (Nat.two_pow_pos _) G2 F3 C2 M3 (by rw [u1_at, if_neg (by omega), u1_at, if_neg (by omega)]; exact n23)
            unfold f_X6_readKinds
            rw [show f_X6_readKinds_4 2 FU (0 : Int32) (0 : Int32) (nxc (nxc c j) (j + 1)) = _ from ek, ob_e]
            dsimp only
            rcases alt with ⟨rfl, m', em, Fl⟩ | ⟨s', j', m5, rfl, hs', so2, hj', G5, F5, C5, M5, Oc, Oc2, S5, em⟩
            · rw [t77, show f_X10_readTelling_97 FU (0 : Int32) _ = _ from em]
              exact ⟨0, _, _, rfl, Or.inl ⟨rfl, Or.inl rfl, Fl⟩⟩
            · have M6 : MS G (u1 m5 90 (3 * k + 2) (nI s')) j' := ms_keep M5 (by funext i; rw [u1_at, if_neg (by omega)]) rfl (fun i _ => by rw [u1_at, if_neg (by omega)])
              have F6 : MF m0 (u1 m5 90 (3 * k + 2) (nI s')) := mf_u1 F5 (by decide)
              obtain ⟨m7, e7, S7, M7⟩ := (e_sign X M6).1 so2
              have C7 := cur_next C5 (show 2 ≤ so G j' by omega)
              have n66 : (nxc c5 j').1 66 0 = nI k := by rw [nx_o (by omega), (Oc 66 (by decide)).1, nx_o (by omega), nx_o (by omega)]; exact c66
              unfold f_X6_readLine_77
              rw [if_neg (nI_nm (by omega)), e_semi C5, if_pos so2, ob_e]
              dsimp only
              rw [if_neg (show ¬ (1 : Int32) = 0 by decide), e_add66 n66 hk, ob_e]
              dsimp only
              rw [if_neg (show ¬ (1 : Int32) = 0 by decide), show f_X10_readTelling_97 FU (0 : Int32) _ = _ from em]
              have w90 : ∀ q, (u1 m7 86 23 (nI (k + 1))).1 90 q = if q = 3 * k + 2 then nI s' else if q = 3 * k + 1 then nI (dv G (j + 1)) else if q = 3 * k then nI a else m.1 90 q := by
                intro q
                rw [u1_at, if_neg (by omega), (S7.1 90 (by decide)).1, u1_at]
                by_cases q2 : q = 3 * k + 2
                · rw [if_pos ⟨rfl, q2⟩, if_pos q2]
                · rw [if_neg (fun z => q2 z.2), if_neg q2, (S5.1 90 (by decide)).1, u1_at]
                  by_cases q1 : q = 3 * k + 1
                  · rw [if_pos ⟨rfl, q1⟩, if_pos q1]
                  · rw [if_neg (fun z => q1 z.2), if_neg q1, u1_at]
                    by_cases q0 : q = 3 * k
                    · rw [if_pos ⟨rfl, q0⟩, if_pos q0]
                    · rw [if_neg (fun z => q0 z.2), if_neg q0, (O2 90 (by decide)).1, (S1.1 90 (by decide)).1]
              refine ⟨1, _, m7, rfl, Or.inr ⟨rfl, ⟨_, rfl, e7⟩, j' + 1, fun q => if q = 3 * k + 2 then s' else if q = 3 * k + 1 then dv G (j + 1) else if q = 3 * k then a else w q, ⟨cfr_u1 (cfr_u1 (cfr_u1 (cfr_u1 (cfr_nx G5) (by omega) (by omega)) (by omega) (by omega)) (by omega) (by omega)) (by omega) (by omega), mf_86 (mf_trans F6 (mf_sk S7)) (by decide), cur_keep C7 ?_ ?_ rfl ?_, ms_keep M7 ?_ rfl ?_, ?_, ?_, by omega, ?_, ?_, fun q hq => ?_, fun i hi => ?_⟩, by omega, ?_⟩⟩
              · funext z
                rw [u1_at, if_neg (by omega), u1_at, if_neg (by omega), u1_at, if_neg (by omega), u1_at, if_neg (by omega)]
              · funext z
                rw [u1_at, if_neg (by omega), u1_at, if_neg (by omega), u1_at, if_neg (by omega), u1_at, if_neg (by omega)]
              · rw [u1_at, if_neg (by omega), u1_at, if_neg (by omega), u1_at, if_neg (by omega), u1_at, if_neg (by omega)]
              · funext z
                rw [u1_at, if_neg (by omega)]
              · intro i hi
                rw [u1_at, if_neg (fun z => by rw [z.2] at hi; exact absurd hi (by decide))]
              · rw [u1_at, if_neg (by omega), u1_at, if_neg (by omega), u1_at, if_neg (by omega), u1_at, if_neg (by omega), nx_o (by omega), Oc2, nx_o (by omega), nx_o (by omega)]
                exact k2
              · rw [u1_at, if_neg (by omega), S7.2 16 (by decide), u1_at, if_neg (by omega), S5.2 16 (by decide), u1_at, if_neg (by omega), u1_at, if_neg (by omega), P2 16 (by decide), S1.2 16 (by decide)]
                exact k16
              · rw [u1_at, if_pos ⟨rfl, rfl⟩]
              · rw [u1_at, if_pos ⟨rfl, rfl⟩]
              · rw [w90]
                dsimp only
                by_cases q2 : q = 3 * k + 2
                · rw [if_pos q2, if_pos q2]
                · rw [if_neg q2, if_neg q2]
                  by_cases q1 : q = 3 * k + 1
                  · rw [if_pos q1, if_pos q1]
                  · rw [if_neg q1, if_neg q1]
                    by_cases q0 : q = 3 * k
                    · rw [if_pos q0, if_pos q0]
                    · rw [if_neg q0, if_neg q0]
                      exact m90 q (by omega)
              · dsimp only
                by_cases ci : i = k
                · subst ci
                  refine ⟨?_, ?_, ?_, ?_, ?_, ?_⟩
                  · rw [u1_at, if_neg (by omega), u1_at, if_neg (by omega), u1_at, if_neg (by omega), u1_at, if_pos ⟨rfl, rfl⟩, if_neg (by omega), if_neg (by omega), if_pos rfl]
                  · rw [u1_at, if_neg (by omega), u1_at, if_neg (by omega), u1_at, if_pos ⟨rfl, rfl⟩, if_neg (by omega), if_pos rfl]
                  · rw [u1_at, if_neg (by omega), u1_at, if_pos ⟨rfl, rfl⟩, if_pos rfl]
                  · rw [if_neg (by omega), if_neg (by omega), if_pos rfl]; omega
                  · rw [if_neg (by omega), if_pos rfl]; omega
                  · rw [if_pos rfl]; exact hs'
                · obtain ⟨b1, b2, b3, b4, b5, b6⟩ := A i (by omega)
                  have o67 : ∀ b, b = 67 ∨ b = 68 ∨ b = 69 → (nxc c5 j').1 b i = c.1 b i := by
                    intro b hb
                    rw [nx_o (by omega), (Oc b (by omega)).1, nx_o (by omega), nx_o (by omega)]
                  refine ⟨?_, ?_, ?_, ?_, ?_, ?_⟩
                  · rw [u1_at, if_neg (by omega), u1_at, if_neg (by omega), u1_at, if_neg (by omega), u1_at, if_neg (by omega), if_neg (by omega), if_neg (by omega), if_neg (by omega), o67 67 (by omega)]; exact b1
                  · rw [u1_at, if_neg (by omega), u1_at, if_neg (by omega), u1_at, if_neg (by omega), u1_at, if_neg (by omega), if_neg (by omega), if_neg (by omega), if_neg (by omega), o67 68 (by omega)]; exact b2
                  · rw [u1_at, if_neg (by omega), u1_at, if_neg (by omega), u1_at, if_neg (by omega), u1_at, if_neg (by omega), if_neg (by omega), if_neg (by omega), if_neg (by omega), o67 69 (by omega)]; exact b3
                  · rw [if_neg (by omega), if_neg (by omega), if_neg (by omega)]; exact b4
                  · rw [if_neg (by omega), if_neg (by omega), if_neg (by omega)]; exact b5
                  · rw [if_neg (by omega), if_neg (by omega), if_neg (by omega)]; exact b6
              · rw [S7.2 23 (by decide), u1_at, if_neg (by omega), S5.2 23 (by decide), u1_at, if_neg (by omega), u1_at, if_neg (by omega)]
                exact n23
          · rw [if_neg d1, ob_e, show f_X10_takes (0 : Int32) (29 : Int32) m1 = _ from tb s1 d1, ob_e]
            dsimp only
            rw [if_pos rfl, if_pos rfl, t77]
            exact lr_bad X G1 F1 2
        · rw [if_neg s1, ob_e, show f_X10_takes (0 : Int32) (29 : Int32) m1 = _ from tc s1, ob_e]
          dsimp only
          rw [if_pos rfl, if_pos rfl, t77]
          exact lr_bad X G1 F1 1
      · rw [if_neg (show ¬ nI k < (40 : Int32) from fun z => hk ((nI_ltI (b := 40) (by omega) (by omega)).mp z)), if_pos (show nI k = (40 : Int32) from (nI_eq (b := 40) (by omega) (by omega)).mpr (by omega)), show f_X0_refuse (4 : Int32) c = _ from e_refuse C 4, ob_e, show f_X10_bad (4 : Int32) m = _ from e_bad M 4, ob_e]
        rw [or01]
        exact lr_bad X Fc Fm 4
  · rw [if_neg s0, ob_e, decide_eq_false s0, if_pos (show bI false = 0 from rfl)]
    dsimp only
    rw [if_pos rfl, show f_X10_bad (1 : Int32) m = _ from e_bad M 1, ob_e]
    rw [or01]
    exact lr_bad X Fc Fm 1
