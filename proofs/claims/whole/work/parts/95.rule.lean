-- PURE ROWS: rules of turns: a line
theorem hc_cfr {c c' : DD} {h : Nat → Nat} {nm : Nat → Int64} (H : HC 2 c h nm) (C : CFR c c') : HC 2 c' h nm :=
  hc_cong H (C 2 (by omega)).1 (by rw [rf_2_2]; exact (C 3 (by omega)).2) (by rw [rf_2_3]; exact (C 4 (by omega)).1) (by rw [rf_2_4]; exact (C 5 (by omega)).1) (by rw [rf_2_5]; exact (C 6 (by omega)).1) (by rw [rf_2_6]; exact (C 7 (by omega)).2) (by rw [rf_2_7]; exact (C 8 (by omega)).1) (by rw [rf_2_8]; exact (C 9 (by omega)).1) (by rw [rf_2_9]; exact (C 10 (by omega)).1) (by rw [rf_2_10]; exact (C 11 (by omega)).1) (by rw [rf_2_11]; exact (C 12 (by omega)).1) (by rw [rf_2_11, rf_12_1]; exact (C 13 (by omega)).1) (by rw [rf_2_11, rf_12_2]; exact (C 14 (by omega)).1) (by rw [rf_2_11, rf_12_3]; exact (C 15 (by omega)).1)
theorem hm_mf {m m' : DD} {h : Nat → Nat} (M : HM m h) (F : MF m m') : HM m' h := hm_keep M (F.1 88 (by decide)).1 (F.1 94 (by decide)).1 (F.1 95 (by decide)).1
theorem rw_mf {m m' : DD} (R : RW m) (F : MF m m') : RW m' := rw_cong R (F.1 93 (by decide)).2
def LR (oc om : Option (Int32 × DD)) (c0 m0 : DD) (Q : DD → DD → Prop) : Prop := ∃ r c' m', oc = some (r, c') ∧ ((r = (0 : Int32) ∧ (om = some ((0 : Int32), m') ∨ ∃ m1, om = some ((1 : Int32), m1) ∧ f_X10_sign (59 : Int32) m1 = some ((0 : Int32), m')) ∧ FLT c0 m0 c' m') ∨ (r = (1 : Int32) ∧ (∃ m1, om = some ((1 : Int32), m1) ∧ f_X10_sign (59 : Int32) m1 = some ((1 : Int32), m')) ∧ Q c' m'))
theorem lr_bad {G : TX} {j : Nat} {c0 m0 c m : DD} {Q : DD → DD → Prop} (X : VX G) (C : CFR c0 c) (M : MF m0 m) (k : Nat) : LR (some ((0 : Int32), RF c k (pl G j))) (some ((0 : Int32), RB m k (pl G j))) c0 m0 Q := ⟨0, _, _, rfl, Or.inl ⟨rfl, Or.inl rfl, flt X C M k⟩⟩
-- the hours of a rule
def tH (a till ev : Nat) : Nat → (Nat → Nat) → Nat → (Nat → Nat)
  | 0, t, _ => t
  | n + 1, t, u => if till < u then t else tH a till ev n (if t u = 0 then fun i => if i = u then a + 1 else t i else t) (u + ev)
theorem tH_le {a till ev B : Nat} (ha : a < B) : ∀ (n : Nat) (t : Nat → Nat) (u : Nat), (∀ i, i < 30 → t i ≤ B) → ∀ i, i < 30 → tH a till ev n t u i ≤ B
  | 0, _, _, h, i, hi => h i hi
  | n + 1, t, u, h, i, hi => by
    unfold tH
    by_cases c : till < u
    · rw [if_pos c]; exact h i hi
    · rw [if_neg c]
      refine tH_le ha n _ _ (fun w hw => ?_) i hi
      by_cases c2 : t u = 0
      · rw [if_pos c2]
        split
        · omega
        · exact h w hw
      · rw [if_neg c2]; exact h w hw
theorem c96_l {a till ev : Nat} {c0 : DD} (ha : a < 4) (ht : till < 30) (he1 : 1 ≤ ev) (he : ev ≤ 30) : ∀ (n u i f : Nat) (t : Nat → Nat) (c : DD), 30 ≤ u + n → u < 100 → n < f → i ≤ u → FR [71] c0 c → (∀ w, w < 30 → t w ≤ 4) → (∀ w, w < 30 → c.1 71 w = pI (t w)) → OW (f_X3_readLine_96 2 f (nI a) (nI till) (nI ev) (nI u) (nI i) c) (fun r c' => r = 1 ∧ FR [71] c0 c' ∧ ∀ w, w < 30 → c'.1 71 w = pI (tH a till ev n t u w)) := by
  intro n
  induction n with
  | zero =>
    intro u i f t c hu hu2 hf hi F ht4 hc
    obtain ⟨f, rfl⟩ : ∃ f', f = f' + 1 := ⟨f - 1, by omega⟩
    show OW (f_X3_readLine_96B 2 (f_X3_readLine_96 2 f) _ _ _ _ _ _) _
    unfold f_X3_readLine_96B
    rw [if_pos (show nI till < nI u from (nI_ltI (by omega) (by omega)).mpr (by omega))]
    by_cases c0 : nI i < (30 : Int32)
    · rw [if_pos c0]
      exact ow_ret ⟨rfl, F, hc⟩
    · rw [if_neg c0]
      exact ow_ret ⟨rfl, F, hc⟩
  | succ n ih =>
    intro u i f t c hu hu2 hf hi F ht4 hc
    obtain ⟨f, rfl⟩ : ∃ f', f = f' + 1 := ⟨f - 1, by omega⟩
    show OW (f_X3_readLine_96B 2 (f_X3_readLine_96 2 f) _ _ _ _ _ _) _
    have te : tH a till ev (n + 1) t u = if till < u then t else tH a till ev n (if t u = 0 then fun i => if i = u then a + 1 else t i else t) (u + ev) := rfl
    unfold f_X3_readLine_96B
    rw [te]
    by_cases c1 : till < u
    · rw [if_pos c1, if_pos (show nI till < nI u from (nI_ltI (by omega) (by omega)).mpr c1)]
      by_cases c0 : nI i < (30 : Int32)
      · rw [if_pos c0]
        exact ow_ret ⟨rfl, F, hc⟩
      · rw [if_neg c0]
        exact ow_ret ⟨rfl, F, hc⟩
    · have t4 := ht4 u (by omega)
      rw [if_neg c1, if_pos (show nI i < (30 : Int32) from (nI_ltI (b := 30) (by omega) (by omega)).mpr (by omega)), if_neg (fun z => c1 ((nI_ltI (by omega) (by omega)).mp z)), e_X9_at, ob_e, rd1_in (by rw [ln_71]; omega), hc u (by omega)]
      dsimp only
      rw [nI_1, nI_add]
      by_cases c2 : t u = 0
      · rw [if_pos c2, if_pos (show pI (t u) = -1 from (pI_mI (by omega)).mpr c2), e_X9_put, ob_e, wr1_in (by rw [ln_71]; omega)]
        dsimp only
        rw [bd_e]
        refine ih (u + ev) (i + 1) f _ _ (by omega) (by omega) (by omega) (by omega) (fr_u1 F (by decide)) (fun w hw => ?_) (fun w hw => ?_)
        · split
          · omega
          · exact ht4 w hw
        · rw [u1_at]
          by_cases c3 : w = u
          · rw [if_pos ⟨rfl, c3⟩, if_pos c3, pI_s]
          · rw [if_neg (fun z => c3 z.2), if_neg c3]
            exact hc w hw
      · rw [if_neg c2, if_neg (show ¬ pI (t u) = -1 from fun z => c2 ((pI_mI (by omega)).mp z)), bd_e]
        exact ih (u + ev) (i + 1) f t c (by omega) (by omega) (by omega) (by omega) F ht4 hc
theorem m94_l {a till ev : Nat} {m0 : DD} (ha : a < 4) (ht : till < 30) (he1 : 1 ≤ ev) (he : ev ≤ 30) : ∀ (n u f : Nat) (t : Nat → Nat) (m : DD), 30 ≤ u + n → u < 100 → n < f → FR [91] m0 m → (∀ w, w < 30 → t w ≤ 4) → (∀ w, w < 30 → m.1 91 w = nI (t w)) → OW (f_X10_readRule_94 f (nI a) (nI till) (nI ev) (nI u) m) (fun r m' => r = 1 ∧ FR [91] m0 m' ∧ ∀ w, w < 30 → m'.1 91 w = nI (tH a till ev n t u w)) := by
  intro n
  induction n with
  | zero =>
    intro u f t m hu hu2 hf F ht4 hc
    obtain ⟨f, rfl⟩ : ∃ f', f = f' + 1 := ⟨f - 1, by omega⟩
    show OW (f_X10_readRule_94B (f_X10_readRule_94 f) _ _ _ _ _) _
    unfold f_X10_readRule_94B
    rw [if_pos (show nI till < nI u from (nI_ltI (by omega) (by omega)).mpr (by omega))]
    exact ow_ret ⟨rfl, F, hc⟩
  | succ n ih =>
    intro u f t m hu hu2 hf F ht4 hc
    obtain ⟨f, rfl⟩ : ∃ f', f = f' + 1 := ⟨f - 1, by omega⟩
    show OW (f_X10_readRule_94B (f_X10_readRule_94 f) _ _ _ _ _) _
    have te : tH a till ev (n + 1) t u = if till < u then t else tH a till ev n (if t u = 0 then fun i => if i = u then a + 1 else t i else t) (u + ev) := rfl
    unfold f_X10_readRule_94B
    rw [te]
    by_cases c1 : till < u
    · rw [if_pos c1, if_pos (show nI till < nI u from (nI_ltI (by omega) (by omega)).mpr c1)]
      exact ow_ret ⟨rfl, F, hc⟩
    · have t4 := ht4 u (by omega)
      have ix : ixb (nI u) (ln 91) := (ix_nI (by omega)).mpr (by rw [ln_91]; omega)
      have r : m.1 91 (nI u).toNatClampNeg = nI (t u) := by rw [nI_clamp (by omega)]; exact hc u (by omega)
      rw [if_neg c1, if_neg (fun z => c1 ((nI_ltI (by omega) (by omega)).mp z)), if_pos ix, r, nI_add, nI_1]
      by_cases c2 : t u = 0
      · rw [if_pos c2, if_pos (show nI (t u) = 0 from (nI_eq (b := 0) (by omega) (by omega)).mpr c2), if_pos ix, bd_e, bd_e, nI_clamp (by omega)]
        refine ih (u + ev) f _ _ (by omega) (by omega) (by omega) (fr_u1 F (by decide)) (fun w hw => ?_) (fun w hw => ?_)
        · split
          · omega
          · exact ht4 w hw
        · rw [u1_at]
          by_cases c3 : w = u
          · rw [if_pos ⟨rfl, c3⟩, if_pos c3]
          · rw [if_neg (fun z => c3 z.2), if_neg c3]
            exact hc w hw
      · rw [if_neg c2, if_neg (show ¬ nI (t u) = 0 from fun z => c2 ((nI_eq (b := 0) (by omega) (by omega)).mp z)), bd_e]
        exact ih (u + ev) f t m (by omega) (by omega) (by omega) F ht4 hc
theorem r28 (v : Int32) (c : DD) : f_X3_readLine_28 2 v (-1 : Int32) c = some ((0 : Int32), c) := by
  unfold f_X3_readLine_28 f_X3_readLine_48 f_X3_readLine_70
  rw [if_pos rfl, if_pos rfl, if_pos rfl]
theorem r48 (v w : Int32) (c : DD) : f_X3_readLine_48 2 v w (-1 : Int32) c = some ((0 : Int32), c) := by
  unfold f_X3_readLine_48 f_X3_readLine_70
  rw [if_pos rfl, if_pos rfl]
theorem r70 (v w x : Int32) (c : DD) : f_X3_readLine_70 2 v w x (-1 : Int32) c = some ((0 : Int32), c) := by
  unfold f_X3_readLine_70
  rw [if_pos rfl]
theorem nI_nm {k : Nat} (h : k < 1000) : ¬ nI k = (-1 : Int32) := fun z => (nI_mI (by omega)).mp z
def RI (G : TX) (T : Nat) (h : Nat → Nat) (c0 m0 : DD) (j : Nat) (t : Nat → Nat) (c m : DD) : Prop := CFR c0 c ∧ MF m0 m ∧ CUR G T j c ∧ MS G m j ∧ c.1 44 2 = nI 0 ∧ m.1 86 16 = nI 0 ∧ ∀ u, u < 30 → c.1 71 u = pI (t u) ∧ m.1 91 u = nI (t u) ∧ t u ≤ h 1
theorem cfr_nx {c c' : DD} {j : Nat} (h : CFR c c') : CFR c (nxc c' j) := cfr_u1 h (by omega) (by omega)
theorem nx_o {c : DD} {j a i : Nat} (h : ¬ (a = 44 ∧ i = 1)) : (nxc c j).1 a i = c.1 a i := by
  unfold nxc
  rw [u1_at, if_neg h]
theorem l_rule {G : TX} {T j : Nat} {h : Nat → Nat} {nm : Nat → Int64} {c0 m0 : DD} {t : Nat → Nat} {c m : DD} (X : VX G) (V : VH h) (H : HC 2 c0 h nm) (M0 : HM m0 h) (N : ∀ k, k < 7 → m0.2 92 k = nm k) (W : RW m0) (I : RI G T h c0 m0 j t c m) : LR (f_X3_readLine 2 c) (f_X10_readRule m) c0 m0 (fun c' m' => ∃ j' t', RI G T h c0 m0 j' t' c' m' ∧ j + 2 ≤ j' ∧ m'.1 86 20 = m.1 86 20) := by
  obtain ⟨Fc, Fm, C, M, k2, k16, A⟩ := I
  have v1 := V.2.1
  have Hc := hc_cfr H Fc
  have Mm := hm_mf M0 Fm
  have r1 : m.1 88 (1 : Int32).toNatClampNeg = nI (h 1) := Mm.1 1
  have fe : ff (fun k => m.2 92 (3 + k)) (va G j) (h 1) 0 = ff (fun a => nm (3 + a)) (va G j) (h 1) 0 := ff_congr (fun i _ hi => (Fm.2.1 (3 + i) (by omega)).trans (N (3 + i) (by omega)))
  unfold f_X3_readLine f_X10_readRule
  rw [e_readPerson hb_2 V C Hc, e_isName M (rw_mf W Fm), ob_e]
  dsimp only
  by_cases s0 : so G j = 4
  · rw [if_pos s0, decide_eq_true s0, if_neg (show ¬ bI true = 0 by decide), if_pos e1_88, r1, show f_X10_find (3 : Int32) (nI (h 1)) m = _ from e_find M (by omega) (fr := 3) (by omega), ob_e, fe]
    cases q : ff (fun a => nm (3 + a)) (va G j) (h 1) 0 with
    | none =>
      dsimp only
      rw [ob_e, if_pos rfl, r28, if_pos (show fI none < (0 : Int32) by decide), show f_X10_bad (3 : Int32) m = _ from e_bad M 3, ob_e]
      rw [or01]
      exact lr_bad X Fc Fm 3
    | some a =>
      have fl := ff_lt q
      obtain ⟨m1, e1, S1, M1⟩ := ms_next X M (by omega)
      have C1 := cur_next C (show 2 ≤ so G j by omega)
      have F1 := mf_trans Fm (mf_sk S1)
      have G1 := cfr_nx (j := j) Fc
      obtain ⟨ta, tb, tc⟩ := e_takes X M1 (lo := 0) (hi := 29) (by omega) (by omega)
      dsimp only
      rw [ob_e, if_neg (nI_nm (by omega)), if_neg (show ¬ fI (some a) < (0 : Int32) from nI_pos (by omega)), e1, ob_e]
      dsimp only
      rw [show f_X0_readNumber (0 : Int32) (29 : Int32) (nxc c j) = _ from e_readNumber C1 (lo := 0) (hi := 29) (by omega) (by omega)]
      by_cases s1 : so G (j + 1) = 3
      · rw [if_pos s1]
        by_cases d1 : 0 ≤ dv G (j + 1) ∧ dv G (j + 1) ≤ 29
        · obtain ⟨m2, e2, F2, O2, P2, g2, M2⟩ := ta s1 d1
          have C2 := cur_next C1 (show 2 ≤ so G (j + 1) by omega)
          have F2' := mf_trans F1 F2
          have G2 := cfr_nx (j := j + 1) G1
          obtain ⟨ua, ub, uc⟩ := e_takes X M2 (lo := dv G (j + 1)) (hi := 29) (by omega) (by omega)
          rw [if_pos d1, ob_e, show f_X10_takes (0 : Int32) (29 : Int32) m1 = _ from e2, ob_e]
          dsimp only
          rw [if_neg (show ¬ (1 : Int32) = 0 by decide), bd_e, g2]
          unfold f_X3_readLine_28
          rw [if_neg (nI_nm (by omega)), show f_X0_readNumber (nI (dv G (j + 1))) (29 : Int32) (nxc (nxc c j) (j + 1)) = _ from e_readNumber C2 (lo := dv G (j + 1)) (hi := 29) (by omega) (by omega)]
          by_cases s2 : so G (j + 1 + 1) = 3
          · rw [if_pos s2]
            by_cases d2 : dv G (j + 1) ≤ dv G (j + 1 + 1) ∧ dv G (j + 1 + 1) ≤ 29
            · obtain ⟨m3, e3, F3, O3, P3, g3, M3⟩ := ua s2 d2
              have C3 := cur_next C2 (show 2 ≤ so G (j + 1 + 1) by omega)
              have F3' := mf_trans F2' F3
              have G3 := cfr_nx (j := j + 1 + 1) G2
              obtain ⟨wa, wb, wc⟩ := e_takes X M3 (lo := 1) (hi := 30) (by omega) (by omega)
              rw [if_pos d2, ob_e, show f_X10_takes (nI (dv G (j + 1))) (29 : Int32) m2 = _ from e3, ob_e]
              dsimp only
              rw [if_neg (show ¬ (1 : Int32) = 0 by decide), bd_e, g3]
              unfold f_X3_readLine_48
              rw [if_neg (nI_nm (by omega)), show f_X0_readNumber (1 : Int32) (30 : Int32) (nxc (nxc (nxc c j) (j + 1)) (j + 1 + 1)) = _ from e_readNumber C3 (lo := 1) (hi := 30) (by omega) (by omega)]
              by_cases s3 : so G (j + 1 + 1 + 1) = 3
              · rw [if_pos s3]
                by_cases d3 : 1 ≤ dv G (j + 1 + 1 + 1) ∧ dv G (j + 1 + 1 + 1) ≤ 30
                · obtain ⟨m4, e4, F4, O4, P4, g4, M4⟩ := wa s3 d3
                  have C4 := cur_next C3 (show 2 ≤ so G (j + 1 + 1 + 1) by omega)
                  have F4' := mf_trans F3' F4
                  have G4 := cfr_nx (j := j + 1 + 1 + 1) G3
                  rw [if_pos d3, ob_e, show f_X10_takes (1 : Int32) (30 : Int32) m3 = _ from e4, ob_e]
                  dsimp only
                  rw [if_neg (show ¬ (1 : Int32) = 0 by decide), bd_e, g4]
                  unfold f_X3_readLine_70
                  rw [if_neg (nI_nm (by omega)), e_semi C4]
                  have t4 : ∀ w, w < 30 → t w ≤ 4 := fun w hw => by have := (A w hw).2.2; omega
                  have h91 : ∀ w, w < 30 → m4.1 91 w = nI (t w) := by
                    intro w hw
                    rw [(O4 91 (by decide)).1, (O3 91 (by decide)).1, (O2 91 (by decide)).1, (S1.1 91 (by decide)).1]
                    exact (A w hw).2.1
                  obtain ⟨rm, m5, e5, er, F5, A5⟩ := m94_l (m0 := m4) (a := a) (till := dv G (j + 1 + 1)) (ev := dv G (j + 1 + 1 + 1)) (by omega) (by omega) d3.1 d3.2 30 (dv G (j + 1)) FU t m4 (by omega) (by omega) (by unfold FU; omega) (fr_refl _ _) t4 h91
                  subst er
                  have M5 : MS G m5 (j + 1 + 1 + 1 + 1) := ms_keep M4 (F5 87 (by decide)).1 (F5 86 (by decide)).2 (fun i _ => by rw [(F5 86 (by decide)).1])
                  have F5' : MF m0 m5 := mf_trans F4' ⟨fun b hb => F5 b (fun z => hb (by
                    simp only [List.mem_cons, List.not_mem_nil, or_false] at z ⊢
                    omega)), fun k _ => by rw [(F5 92 (by decide)).2], fun q _ => by rw [(F5 86 (by decide)).1]⟩
                  obtain ⟨sa, sb'⟩ := e_sign X M5
                  have e5' : f_X10_readRule_94 FU (fI (some a)) (nI (dv G (j + 1 + 1))) (nI (dv G (j + 1 + 1 + 1))) (nI (dv G (j + 1))) m4 = some (1, m5) := e5
                  rw [e5']
                  by_cases s4 : so G (j + 1 + 1 + 1 + 1) = 2
                  · obtain ⟨m6, e6, S6, M6⟩ := sa s4
                    have C5 := cur_next C4 (show 2 ≤ so G (j + 1 + 1 + 1 + 1) by omega)
                    have G5 := cfr_nx (j := j + 1 + 1 + 1 + 1) G4
                    have h71 : ∀ w, w < 30 → (nxc (nxc (nxc (nxc (nxc c j) (j + 1)) (j + 1 + 1)) (j + 1 + 1 + 1)) (j + 1 + 1 + 1 + 1)).1 71 w = pI (t w) := by
                      intro w hw
                      rw [nx_o (by omega), nx_o (by omega), nx_o (by omega), nx_o (by omega), nx_o (by omega)]
                      exact (A w hw).1
                    obtain ⟨rc, c6, ec, erc, F6, A6⟩ := c96_l (c0 := nxc (nxc (nxc (nxc (nxc c j) (j + 1)) (j + 1 + 1)) (j + 1 + 1 + 1)) (j + 1 + 1 + 1 + 1)) (a := a) (till := dv G (j + 1 + 1)) (ev := dv G (j + 1 + 1 + 1)) (by omega) (by omega) d3.1 d3.2 30 (dv G (j + 1)) 0 FU t _ (by omega) (by omega) (by unfold FU; omega) (by omega) (fr_refl _ _) t4 h71
                    subst erc
                    rw [if_pos s4, ob_e]
                    dsimp only
                    rw [if_neg (show ¬ (1 : Int32) = 0 by decide), show f_X3_readLine_96 2 FU (nI a) (nI (dv G (j + 1 + 1))) (nI (dv G (j + 1 + 1 + 1))) (nI (dv G (j + 1))) (0 : Int32) _ = _ from ec]
                    have C6 : CUR G T (j + 1 + 1 + 1 + 1 + 1) c6 := cur_keep C5 (F6 46 (by decide)).1 (F6 47 (by decide)).1 (F6 48 (by decide)).2 (by rw [(F6 44 (by decide)).1])
                    have G6 : CFR c0 c6 := cfr_trans G5 (fun b hb => F6 b (fun z => by
                      simp only [List.mem_cons, List.not_mem_nil, or_false] at z
                      omega))
                    refine ⟨1, c6, m6, rfl, Or.inr ⟨rfl, ⟨m5, rfl, e6⟩, j + 1 + 1 + 1 + 1 + 1, tH a (dv G (j + 1 + 1)) (dv G (j + 1 + 1 + 1)) 30 t (dv G (j + 1)), ⟨G6, mf_trans F5' (mf_sk S6), C6, M6, ?_, ?_, fun u hu => ⟨A6 u hu, ?_, ?_⟩⟩, by omega, ?_⟩⟩
                    · rw [(F6 44 (by decide)).1, nx_o (by omega), nx_o (by omega), nx_o (by omega), nx_o (by omega), nx_o (by omega)]
                      exact k2
                    · rw [S6.2 16 (by decide), (F5 86 (by decide)).1, P4 16 (by decide), P3 16 (by decide), P2 16 (by decide), S1.2 16 (by decide)]
                      exact k16
                    · rw [(S6.1 91 (by decide)).1]
                      exact A5 u hu
                    · exact tH_le (B := h 1) (show a < h 1 by omega) 30 t _ (fun i hi => (A i hi).2.2) u hu
                    · rw [S6.2 20 (by decide), (F5 86 (by decide)).1, P4 20 (by decide), P3 20 (by decide), P2 20 (by decide), S1.2 20 (by decide)]
                  · rw [if_neg s4, ob_e]
                    dsimp only
                    rw [if_pos rfl]
                    exact ⟨0, _, _, rfl, Or.inl ⟨rfl, Or.inr ⟨m5, rfl, sb' s4⟩, flt X G4 F5' 1⟩⟩
                · rw [if_neg d3, ob_e, show f_X10_takes (1 : Int32) (30 : Int32) m3 = _ from wb s3 d3, ob_e]
                  dsimp only
                  rw [if_pos rfl, r70]
                  exact lr_bad X G3 F3' 2
              · rw [if_neg s3, ob_e, show f_X10_takes (1 : Int32) (30 : Int32) m3 = _ from wc s3, ob_e]
                dsimp only
                rw [if_pos rfl, r70]
                exact lr_bad X G3 F3' 1
            · rw [if_neg d2, ob_e, show f_X10_takes (nI (dv G (j + 1))) (29 : Int32) m2 = _ from ub s2 d2, ob_e]
              dsimp only
              rw [if_pos rfl, r48]
              exact lr_bad X G2 F2' 2
          · rw [if_neg s2, ob_e, show f_X10_takes (nI (dv G (j + 1))) (29 : Int32) m2 = _ from uc s2, ob_e]
            dsimp only
            rw [if_pos rfl, r48]
            exact lr_bad X G2 F2' 1
        · rw [if_neg d1, ob_e, show f_X10_takes (0 : Int32) (29 : Int32) m1 = _ from tb s1 d1, ob_e]
          dsimp only
          rw [if_pos rfl, r28]
          exact lr_bad X G1 F1 2
      · rw [if_neg s1, ob_e, show f_X10_takes (0 : Int32) (29 : Int32) m1 = _ from tc s1, ob_e]
        dsimp only
        rw [if_pos rfl, r28]
        exact lr_bad X G1 F1 1
  · rw [if_neg s0, ob_e, decide_eq_false s0, if_pos (show bI false = 0 from rfl)]
    dsimp only
    rw [if_pos rfl, r28, show f_X10_bad (1 : Int32) m = _ from e_bad M 1, ob_e]
    rw [or01]
    exact lr_bad X Fc Fm 1
