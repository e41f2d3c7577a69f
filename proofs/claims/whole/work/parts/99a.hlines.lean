-- PURE ROWS: a house's text: looks, turn, wants
def HOI (G : TX) (T : Nat) (c0 m0 : DD) (j : Nat) (h : Nat → Nat) (nm : Nat → Int64) (wd : Nat → Nat) (c m : DD) : Prop := CFR c0 c ∧ MF m0 m ∧ CUR G T j c ∧ MS G m j ∧ c.1 44 2 = nI 0 ∧ m.1 86 16 = nI 0 ∧ VH h ∧ h 169 = 0 ∧ CP h nm wd c ∧ MP h nm m
def HQL (G : TX) (T : Nat) (c0 m0 : DD) (j : Nat) (m : DD) : DD → DD → Prop := fun c' m' => ∃ j' h' nm' wd', HOI G T c0 m0 j' h' nm' wd' c' m' ∧ j + 1 ≤ j' ∧ m'.1 86 20 = m.1 86 20
theorem vh_15 {h : Nat → Nat} {a v : Nat} (V : VH h) (ha : a < h 1) (hv : v < 2 ^ 30) : VH (upN h (15 + a) v) := by
  obtain ⟨w0, w1, w2, w3, w4, w5, w6, w7, w8⟩ := V
  have s : ∀ q, q ≠ 15 + a → upN h (15 + a) v q = h q := fun q hq => upN_ne hq
  refine ⟨by rw [s 0 (by omega)]; exact w0, by rw [s 1 (by omega)]; exact w1, fun k hk => ?_, fun k hk => ?_, fun k hk => ?_, fun u hu => ?_, fun k hk => ?_, by rw [s 169 (by omega)]; exact w7, fun k hk => ?_⟩
  · rw [s 0 (by omega)] at hk
    rw [s (2 + k) (by omega), s (5 + k) (by omega), s (8 + k) (by omega)]
    exact w2 k hk
  · rw [s 1 (by omega)] at hk
    rw [s (11 + k) (by omega), s 0 (by omega)]
    exact w3 k hk
  · rw [s 1 (by omega)] at hk
    by_cases c : k = a
    · rw [c, upN_same]; exact hv
    · rw [s (15 + k) (by omega)]
      exact w4 k hk
  · rw [s (19 + u) (by omega), s 1 (by omega)]
    exact w5 u hu
  · rw [s (49 + k) (by omega)]
    exact w6 k hk
  · rw [s 169 (by omega)] at hk
    rw [s (170 + 3 * k) (by omega), s (170 + 3 * k + 1) (by omega), s (170 + 3 * k + 2) (by omega), s 0 (by omega), s 1 (by omega)]
    exact w8 k hk
theorem vh_19 {h : Nat → Nat} {u v : Nat} (V : VH h) (hu : u < 30) (hv : v ≤ h 1) : VH (upN h (19 + u) v) := by
  obtain ⟨w0, w1, w2, w3, w4, w5, w6, w7, w8⟩ := V
  have s : ∀ q, q ≠ 19 + u → upN h (19 + u) v q = h q := fun q hq => upN_ne hq
  refine ⟨by rw [s 0 (by omega)]; exact w0, by rw [s 1 (by omega)]; exact w1, fun k hk => ?_, fun k hk => ?_, fun k hk => ?_, fun k hk => ?_, fun k hk => ?_, by rw [s 169 (by omega)]; exact w7, fun k hk => ?_⟩
  · rw [s 0 (by omega)] at hk
    rw [s (2 + k) (by omega), s (5 + k) (by omega), s (8 + k) (by omega)]
    exact w2 k hk
  · rw [s 1 (by omega)] at hk
    rw [s (11 + k) (by omega), s 0 (by omega)]
    exact w3 k hk
  · rw [s 1 (by omega)] at hk
    rw [s (15 + k) (by omega)]
    exact w4 k hk
  · rw [s 1 (by omega)]
    by_cases c : k = u
    · rw [c, upN_same]; exact hv
    · rw [s (19 + k) (by omega)]
      exact w5 k hk
  · rw [s (49 + k) (by omega)]
    exact w6 k hk
  · rw [s 169 (by omega)] at hk
    rw [s (170 + 3 * k) (by omega), s (170 + 3 * k + 1) (by omega), s (170 + 3 * k + 2) (by omega), s 0 (by omega), s 1 (by omega)]
    exact w8 k hk
theorem vh_49 {h : Nat → Nat} {u v : Nat} (V : VH h) (hu : u < 120) (hv : v ≤ 100) : VH (upN h (49 + u) v) := by
  obtain ⟨w0, w1, w2, w3, w4, w5, w6, w7, w8⟩ := V
  have s : ∀ q, q ≠ 49 + u → upN h (49 + u) v q = h q := fun q hq => upN_ne hq
  refine ⟨by rw [s 0 (by omega)]; exact w0, by rw [s 1 (by omega)]; exact w1, fun k hk => ?_, fun k hk => ?_, fun k hk => ?_, fun k hk => ?_, fun k hk => ?_, by rw [s 169 (by omega)]; exact w7, fun k hk => ?_⟩
  · rw [s 0 (by omega)] at hk
    rw [s (2 + k) (by omega), s (5 + k) (by omega), s (8 + k) (by omega)]
    exact w2 k hk
  · rw [s 1 (by omega)] at hk
    rw [s (11 + k) (by omega), s 0 (by omega)]
    exact w3 k hk
  · rw [s 1 (by omega)] at hk
    rw [s (15 + k) (by omega)]
    exact w4 k hk
  · rw [s (19 + k) (by omega), s 1 (by omega)]
    exact w5 k hk
  · by_cases c : k = u
    · rw [c, upN_same]; exact hv
    · rw [s (49 + k) (by omega)]
      exact w6 k hk
  · rw [s 169 (by omega)] at hk
    rw [s (170 + 3 * k) (by omega), s (170 + 3 * k + 1) (by omega), s (170 + 3 * k + 2) (by omega), s 0 (by omega), s 1 (by omega)]
    exact w8 k hk
theorem cp_15 {h nm wd} {c : DD} {a v : Nat} (V : VH h) (C : CP h nm wd c) (ha : a < h 1) (hv : v < 2 ^ 30) : CP (upN h (15 + a) v) nm wd (u1 c 57 a (nI v)) := by
  have v0 := V.1
  have v1 := V.2.1
  have s : ∀ q, q ≠ 15 + a → upN h (15 + a) v q = h q := fun q hq => upN_ne hq
  obtain ⟨H, L, W⟩ := C
  refine ⟨?_, fun b hb => ?_, fun b hb => ?_⟩
  · unfold HC at H ⊢
    simp only [rf_50_2, rf_50_3, rf_50_4, rf_50_5, rf_50_6, rf_50_7, rf_50_8, rf_50_9, rf_50_10, rf_50_11, rf_60_1, rf_60_2, rf_60_3] at H ⊢
    obtain ⟨a0, a1, a2, a3, a4, a5, a6, a7, a8, a9, a10, a11, a12⟩ := H
    have k : ∀ b i, b ≠ 57 → (u1 c 57 a (nI v)).1 b i = c.1 b i := fun b i hb => by rw [u1_at, if_neg (fun z => hb z.1)]
    rw [s 0 (by omega), s 1 (by omega), s 169 (by omega)]
    refine ⟨by rw [k _ _ (by decide)]; exact a0, by rw [k _ _ (by decide)]; exact a1, a2, fun i hi => ?_, fun i hi => ?_, fun i hi => ?_, a6, fun i hi => ?_, fun i hi => ?_, fun i hi => ?_, fun i hi => ?_, by rw [k _ _ (by decide)]; exact a11, fun i hi => ?_⟩
    · rw [k _ _ (by decide), s (2 + i) (by omega)]; exact a3 i hi
    · rw [k _ _ (by decide), s (5 + i) (by omega)]; exact a4 i hi
    · rw [k _ _ (by decide), s (8 + i) (by omega)]; exact a5 i hi
    · rw [k _ _ (by decide), s (11 + i) (by omega)]; exact a7 i hi
    · rw [u1_at]
      by_cases c1 : i = a
      · rw [if_pos ⟨rfl, c1⟩, c1, upN_same]
      · rw [if_neg (fun z => c1 z.2), s (15 + i) (by omega)]; exact a8 i hi
    · rw [k _ _ (by decide), s (49 + i) (by omega)]; exact a9 i hi
    · rw [k _ _ (by decide), s (19 + i) (by omega)]; exact a10 i hi
    · rw [k _ _ (by decide), k _ _ (by decide), k _ _ (by decide), s (170 + 3 * i) (by omega), s (170 + 3 * i + 1) (by omega), s (170 + 3 * i + 2) (by omega)]; exact a12 i hi
  · rw [u1_at]
    by_cases c1 : b = a
    · rw [if_pos ⟨rfl, c1⟩, c1, upN_same]; exact ⟨rfl, hv⟩
    · rw [if_neg (fun z => c1 z.2), s (15 + b) (by omega)]; exact L b hb
  · obtain ⟨b1, b2, b3⟩ := W b hb
    exact ⟨by rw [u1_at, if_neg (by omega)]; exact b1, b2, fun u hu => by rw [s (49 + (30 * b + u)) (by omega)]; exact b3 u hu⟩
theorem cp_19 {h nm wd} {c : DD} {a w : Nat} (V : VH h) (C : CP h nm wd c) (hw : w < 30) : CP (upN h (19 + w) (a + 1)) nm wd (u1 c 59 w (nI a)) := by
  have v0 := V.1
  have v1 := V.2.1
  have s : ∀ q, q ≠ 19 + w → upN h (19 + w) (a + 1) q = h q := fun q hq => upN_ne hq
  obtain ⟨H, L, W⟩ := C
  refine ⟨?_, fun b hb => ?_, fun b hb => ?_⟩
  · unfold HC at H ⊢
    simp only [rf_50_2, rf_50_3, rf_50_4, rf_50_5, rf_50_6, rf_50_7, rf_50_8, rf_50_9, rf_50_10, rf_50_11, rf_60_1, rf_60_2, rf_60_3] at H ⊢
    obtain ⟨a0, a1, a2, a3, a4, a5, a6, a7, a8, a9, a10, a11, a12⟩ := H
    have k : ∀ b i, b ≠ 59 → (u1 c 59 w (nI a)).1 b i = c.1 b i := fun b i hb => by rw [u1_at, if_neg (fun z => hb z.1)]
    rw [s 0 (by omega), s 1 (by omega), s 169 (by omega)]
    refine ⟨by rw [k _ _ (by decide)]; exact a0, by rw [k _ _ (by decide)]; exact a1, a2, fun i hi => ?_, fun i hi => ?_, fun i hi => ?_, a6, fun i hi => ?_, fun i hi => ?_, fun i hi => ?_, fun i hi => ?_, by rw [k _ _ (by decide)]; exact a11, fun i hi => ?_⟩
    · rw [k _ _ (by decide), s (2 + i) (by omega)]; exact a3 i hi
    · rw [k _ _ (by decide), s (5 + i) (by omega)]; exact a4 i hi
    · rw [k _ _ (by decide), s (8 + i) (by omega)]; exact a5 i hi
    · rw [k _ _ (by decide), s (11 + i) (by omega)]; exact a7 i hi
    · rw [k _ _ (by decide), s (15 + i) (by omega)]; exact a8 i hi
    · rw [k _ _ (by decide), s (49 + i) (by omega)]; exact a9 i hi
    · rw [u1_at]
      by_cases c1 : i = w
      · rw [if_pos ⟨rfl, c1⟩, c1, upN_same, pI_s]
      · rw [if_neg (fun z => c1 z.2), s (19 + i) (by omega)]; exact a10 i hi
    · rw [k _ _ (by decide), k _ _ (by decide), k _ _ (by decide), s (170 + 3 * i) (by omega), s (170 + 3 * i + 1) (by omega), s (170 + 3 * i + 2) (by omega)]; exact a12 i hi
  · rw [u1_at, if_neg (by omega), s (15 + b) (by omega)]; exact L b hb
  · obtain ⟨b1, b2, b3⟩ := W b hb
    exact ⟨by rw [u1_at, if_neg (by omega)]; exact b1, b2, fun u hu => by rw [s (49 + (30 * b + u)) (by omega)]; exact b3 u hu⟩
theorem cp_49 {h nm wd} {c : DD} {a w v : Nat} (V : VH h) (C : CP h nm wd c) (ha : a < 4) (hw : w < 30) : CP (upN h (49 + (30 * a + w)) (v + 1)) nm (upN wd a (wd a ||| 2 ^ w)) (u1 (u1 c 64 a (nI (wd a ||| 2 ^ w))) 58 (30 * a + w) (nI v)) := by
  have v0 := V.1
  have v1 := V.2.1
  have s : ∀ q, q ≠ 49 + (30 * a + w) → upN h (49 + (30 * a + w)) (v + 1) q = h q := fun q hq => upN_ne hq
  obtain ⟨H, L, W⟩ := C
  refine ⟨?_, fun b hb => ?_, fun b hb => ?_⟩
  · unfold HC at H ⊢
    simp only [rf_50_2, rf_50_3, rf_50_4, rf_50_5, rf_50_6, rf_50_7, rf_50_8, rf_50_9, rf_50_10, rf_50_11, rf_60_1, rf_60_2, rf_60_3] at H ⊢
    obtain ⟨a0, a1, a2, a3, a4, a5, a6, a7, a8, a9, a10, a11, a12⟩ := H
    have k : ∀ b i, b ≠ 58 → b ≠ 64 → (u1 (u1 c 64 a (nI (wd a ||| 2 ^ w))) 58 (30 * a + w) (nI v)).1 b i = c.1 b i := fun b i hb hb2 => by rw [u1_at, if_neg (fun z => hb z.1), u1_at, if_neg (fun z => hb2 z.1)]
    rw [s 0 (by omega), s 1 (by omega), s 169 (by omega)]
    refine ⟨by rw [k _ _ (by decide) (by decide)]; exact a0, by rw [k _ _ (by decide) (by decide)]; exact a1, a2, fun i hi => ?_, fun i hi => ?_, fun i hi => ?_, a6, fun i hi => ?_, fun i hi => ?_, fun i hi => ?_, fun i hi => ?_, by rw [k _ _ (by decide) (by decide)]; exact a11, fun i hi => ?_⟩
    · rw [k _ _ (by decide) (by decide), s (2 + i) (by omega)]; exact a3 i hi
    · rw [k _ _ (by decide) (by decide), s (5 + i) (by omega)]; exact a4 i hi
    · rw [k _ _ (by decide) (by decide), s (8 + i) (by omega)]; exact a5 i hi
    · rw [k _ _ (by decide) (by decide), s (11 + i) (by omega)]; exact a7 i hi
    · rw [k _ _ (by decide) (by decide), s (15 + i) (by omega)]; exact a8 i hi
    · rw [u1_at]
      by_cases c1 : i = 30 * a + w
      · rw [if_pos ⟨rfl, c1⟩, c1, upN_same]; rfl
      · rw [if_neg (fun z => c1 z.2), u1_at, if_neg (by omega), s (49 + i) (by omega)]; exact a9 i hi
    · rw [k _ _ (by decide) (by decide), s (19 + i) (by omega)]; exact a10 i hi
    · rw [k _ _ (by decide) (by decide), k _ _ (by decide) (by decide), k _ _ (by decide) (by decide), s (170 + 3 * i) (by omega), s (170 + 3 * i + 1) (by omega), s (170 + 3 * i + 2) (by omega)]; exact a12 i hi
  · rw [u1_at, if_neg (by omega), u1_at, if_neg (by omega), s (15 + b) (by omega)]; exact L b hb
  · obtain ⟨b1, b2, b3⟩ := W b hb
    rw [u1_at, if_neg (by omega), u1_at]
    by_cases c1 : b = a
    · subst c1
      rw [if_pos ⟨rfl, rfl⟩, upN_same]
      refine ⟨rfl, Nat.or_lt_two_pow b2 (Nat.pow_lt_pow_right (by decide) hw), fun u hu => ?_⟩
      rw [Nat.testBit_or, Nat.testBit_two_pow, b3 u hu]
      by_cases c2 : w = u
      · subst c2
        rw [upN_same, decide_eq_true (p := w = w) rfl, Bool.or_true, decide_eq_true (by omega)]
      · rw [decide_eq_false c2, Bool.or_false, s (49 + (30 * b + u)) (by omega)]
    · rw [if_neg (fun z => c1 z.2), upN_ne c1]
      exact ⟨b1, b2, fun u hu => by rw [s (49 + (30 * b + u)) (by omega)]; exact b3 u hu⟩
theorem mp_up {h nm} {m : DD} {i v : Nat} (P : MP h nm m) (hi : 1 < i) : MP (upN h i v) nm (u1 m 89 i (nI v)) := by
  obtain ⟨a, b, c⟩ := P
  refine ⟨fun q hq => ?_, fun k hk => ?_, fun k hk => ?_⟩
  · rw [u1_at]
    by_cases c1 : q = i
    · rw [if_pos ⟨rfl, c1⟩, c1, upN_same]
    · rw [if_neg (fun z => c1 z.2), upN_ne c1]; exact a q hq
  · rw [upN_ne (by omega)] at hk
    exact b k hk
  · rw [upN_ne (by omega)] at hk
    exact c k hk
theorem ms_89 {G : TX} {m : DD} {j i : Nat} (M : MS G m j) (x : Int32) : MS G (u1 m 89 i x) j := ms_keep M (by funext i; rw [u1_at, if_neg (by omega)]) rfl (fun i hi => by rw [u1_at, if_neg (by omega)])
theorem u89_86 {m : DD} {i q : Nat} {x : Int32} : (u1 m 89 i x).1 86 q = m.1 86 q := by rw [u1_at, if_neg (by omega)]
theorem l_looks {G : TX} {T j : Nat} {h nm wd} {c0 m0 c m : DD} (X : VX G) (W : RW m0) (I : HOI G T c0 m0 j h nm wd c m) (s : so G j = 12) : LH (f_X2_readLooksLine c) (f_X10_readLooks m) c0 m0 (HQL G T c0 m0 j m) := by
  obtain ⟨Fc, Fm, C, M, k2, k16, V, h169, CPc, MPm⟩ := I
  have v0 := V.1
  have v1 := V.2.1
  have x1 : ixb (1 : Int32) (ln 89) := a89 (i := 1) (by omega)
  obtain ⟨m1, e1, S1, M1⟩ := ms_next X M (by omega)
  have C1 := cur_next C (show 2 ≤ so G j by omega)
  have G1 := cfr_nx (j := j) Fc
  have F1 := mf_trans Fm (mf_sk S1)
  have P1 := mp_kp MPm (kp_sk S1)
  have K1 := cp_nx (j := j) CPc
  have r1 : m1.1 89 (1 : Int32).toNatClampNeg = nI (h 1) := P1.1 1 (by omega)
  obtain ⟨ta, tb, tc⟩ := e_tName X V M1 P1 (rw_mf W F1)
  unfold f_X2_readLooksLine f_X10_readLooks
  rw [e_ix C, bd_e, e1, ob_e, e_readPerson hb_50 V C1 K1.1]
  dsimp only
  rw [if_pos x1, r1]
  by_cases s1 : so G (j + 1) = 4
  · rw [if_pos s1]
    cases q : ff (fun a => nm (3 + a)) (va G (j + 1)) (h 1) 0 with
    | none =>
      dsimp only
      rw [ob_e, if_pos rfl, tb s1 q, ob_e, if_pos rfl]
      exact lh_bad X G1 (mf_trans F1 (kp_19 m1 mI).1) 3
    | some a =>
      have fl := ff_lt q
      obtain ⟨m2, e2, K2, g2, M2⟩ := ta s1 a q
      have C2 := cur_next C1 (show 2 ≤ so G (j + 1) by omega)
      have G2 := cfr_nx (j := j + 1) G1
      have F2 := mf_trans F1 K2.1
      have P2 := mp_kp P1 K2
      have KK2 := cp_nx (j := j + 1) K1
      obtain ⟨l1, l2⟩ := KK2.2.1 a (by omega)
      dsimp only
      rw [ob_e, if_neg (nI_nm (by omega)), e_newHour C2 ln_57 (by decide) (by decide) (by omega) l2 l1, e2, ob_e]
      dsimp only
      rw [if_neg (show ¬ (1 : Int32) = 0 by decide), g2, bd_e]
      by_cases s2 : so G (j + 1 + 1) = 3
      · obtain ⟨n2, n99⟩ := ms_dv M2 s2
        rw [if_pos s2, if_pos ((ms_n M2).mpr s2), n2]
        by_cases d2 : 0 ≤ dv G (j + 1 + 1) ∧ dv G (j + 1 + 1) ≤ 29
        · have r15 : m2.1 89 (nI (15 + a)).toNatClampNeg = nI (h (15 + a)) := by rw [nI_clamp (show 15 + a < 2 ^ 31 by omega)]; exact P2.1 (15 + a) (by omega)
          have i3 : (15 : Int32) + nI a = nI (15 + a) := by rw [show (15 : Int32) = nI 15 from rfl, nI_add]
          rw [if_pos d2, if_neg (show ¬ (29 : Int32) < nI (dv G (j + 1 + 1)) from fun z => by have := (nI_ltI (a := 29) (by omega) (by omega)).mp z; omega), i3, if_pos (a89 (by omega)), r15, e_X10_has (by omega) (by omega), ob_e]
          dsimp only
          by_cases t : (h (15 + a)).testBit (dv G (j + 1 + 1)) = true
          · rw [if_pos t, t, if_neg (show ¬ bI true = 0 by decide), ob_e, if_pos rfl, show f_X10_bad (3 : Int32) m2 = _ from e_bad M2 3, ob_e]
            rw [or01]
            refine lh_bad X (cfr_u1 (cfr_nx G2) (by omega) (by omega)) F2 3
          · have tf : (h (15 + a)).testBit (dv G (j + 1 + 1)) = false := by rw [Bool.not_eq_true] at t; exact t
            have hv : h (15 + a) ||| 2 ^ dv G (j + 1 + 1) < 2 ^ 30 := Nat.or_lt_two_pow l2 (Nat.pow_lt_pow_right (by decide) (by omega))
            obtain ⟨m4, e4, S4, M4⟩ := ms_next X (ms_89 (i := 15 + a) M2 (nI (h (15 + a) ||| 2 ^ dv G (j + 1 + 1)))) (by omega)
            have C3 := cur_next C2 (show 2 ≤ so G (j + 1 + 1) by omega)
            rw [if_neg t, tf, if_pos (show bI false = 0 from rfl), if_pos (a89 (by omega)), if_pos (a89 (by omega)), ob_e, n2, r15, show (1 : Int32) <<< (nI (dv G (j + 1 + 1)) &&& 31) = nI (2 ^ dv G (j + 1 + 1)) from q_shl (by omega), nx_or, nI_clamp (show 15 + a < 2 ^ 31 by omega), bd_e, e4, ob_e]
            dsimp only
            rw [if_neg (nI_nm (by omega))]
            refine ⟨1, _, m4, rfl, Or.inr ⟨rfl, rfl, j + 1 + 1 + 1, _, nm, wd, ⟨cfr_u1 (cfr_nx G2) (by omega) (by omega), mf_trans (mf_u1 F2 (by decide)) (mf_sk S4), cur_keep C3 ?_ ?_ rfl ?_, M4, ?_, ?_, vh_15 V (by omega) hv, ?_, cp_15 V (cp_nx KK2) (by omega) hv, mp_kp (mp_up P2 (by omega)) (kp_sk S4)⟩, by omega, ?_⟩⟩
            · funext z
              rw [u1_at, if_neg (by omega)]
            · funext z
              rw [u1_at, if_neg (by omega)]
            · rw [u1_at, if_neg (by omega)]
            · rw [u1_at, if_neg (by omega), nx_o (by omega), nx_o (by omega), nx_o (by omega)]; exact k2
            · rw [S4.2 16 (by decide), u89_86, K2.2.2 16 (by decide), S1.2 16 (by decide)]; exact k16
            · rw [upN_ne (by omega)]; exact h169
            · rw [S4.2 20 (by decide), u89_86, K2.2.2 20 (by decide), S1.2 20 (by decide)]
        · rw [if_neg d2, ob_e, if_pos rfl, if_pos (show (29 : Int32) < nI (dv G (j + 1 + 1)) from (nI_ltI (a := 29) (by omega) (by omega)).mpr (by omega)), show f_X10_bad (2 : Int32) m2 = _ from e_bad M2 2, ob_e]
          rw [or01]
          exact lh_bad X G2 F2 2
      · rw [if_neg s2, ob_e, if_pos rfl, if_neg (fun z => s2 ((ms_n M2).mp z)), show f_X10_bad (1 : Int32) m2 = _ from e_bad M2 1, ob_e]
        rw [or01]
        exact lh_bad X G2 F2 1
  · rw [if_neg s1, ob_e, if_pos rfl, tc s1, ob_e, if_pos rfl]
    exact lh_bad X G1 F1 1
theorem l_turn {G : TX} {T j : Nat} {h nm wd} {c0 m0 c m : DD} (X : VX G) (W : RW m0) (I : HOI G T c0 m0 j h nm wd c m) (s : so G j = 13) : LH (f_X2_readTurnLine c) (f_X10_readTurn m) c0 m0 (HQL G T c0 m0 j m) := by
  obtain ⟨Fc, Fm, C, M, k2, k16, V, h169, CPc, MPm⟩ := I
  have v0 := V.1
  have v1 := V.2.1
  have x1 : ixb (1 : Int32) (ln 89) := a89 (i := 1) (by omega)
  obtain ⟨m1, e1, S1, M1⟩ := ms_next X M (by omega)
  have C1 := cur_next C (show 2 ≤ so G j by omega)
  have G1 := cfr_nx (j := j) Fc
  have F1 := mf_trans Fm (mf_sk S1)
  have P1 := mp_kp MPm (kp_sk S1)
  have K1 := cp_nx (j := j) CPc
  unfold f_X2_readTurnLine f_X10_readTurn
  rw [e_ix C, bd_e, e1, ob_e, show f_X0_readNumber (0 : Int32) (29 : Int32) (nxc c j) = _ from e_readNumber C1 (lo := 0) (hi := 29) (by omega) (by omega)]
  dsimp only
  by_cases s1 : so G (j + 1) = 3
  · obtain ⟨n1, n99⟩ := ms_dv M1 s1
    rw [if_pos s1, if_pos ((ms_n M1).mpr s1), n1]
    by_cases d1 : 0 ≤ dv G (j + 1) ∧ dv G (j + 1) ≤ 29
    · have C2 := cur_next C1 (show 2 ≤ so G (j + 1) by omega)
      have G2 := cfr_nx (j := j + 1) G1
      have K2 := cp_nx (j := j + 1) K1
      have tu := hc_tu (b := 50) hb_50 K2.1 (u := dv G (j + 1)) (by omega)
      rw [rf_50_10] at tu
      have tl := V.2.2.2.2.2.1 (dv G (j + 1)) (by omega)
      have i3 : (19 : Int32) + nI (dv G (j + 1)) = nI (19 + dv G (j + 1)) := by rw [show (19 : Int32) = nI 19 from rfl, nI_add]
      rw [if_pos d1, ob_e, if_neg (show ¬ (29 : Int32) < nI (dv G (j + 1)) from fun z => by have := (nI_ltI (a := 29) (by omega) (by omega)).mp z; omega), i3, if_pos (a89 (by omega)), nI_clamp (show 19 + dv G (j + 1) < 2 ^ 31 by omega), P1.1 (19 + dv G (j + 1)) (by omega)]
      dsimp only
      rw [if_neg (nI_nm (by omega)), e_X9_at, ob_e, tu]
      dsimp only
      by_cases t0 : h (19 + dv G (j + 1)) = 0
      · obtain ⟨m2, e2, S2, M2⟩ := ms_next X M1 (by omega)
        have F2 := mf_trans F1 (mf_sk S2)
        have P2 := mp_kp P1 (kp_sk S2)
        have r1 : m2.1 89 (1 : Int32).toNatClampNeg = nI (h 1) := P2.1 1 (by omega)
        obtain ⟨ta, tb, tc⟩ := e_tName X V M2 P2 (rw_mf W F2)
        rw [if_pos (show pI (h (19 + dv G (j + 1))) = -1 from (pI_mI (by omega)).mpr t0), if_neg (show ¬ (0 : Int32) < nI (h (19 + dv G (j + 1))) from fun z => by have := (nI_ltI (a := 0) (by omega) (by omega)).mp z; omega), bd_e, e2, ob_e, e_readPerson hb_50 V C2 K2.1]
        dsimp only
        rw [if_pos x1, r1]
        by_cases s2 : so G (j + 1 + 1) = 4
        · rw [if_pos s2]
          cases q : ff (fun a => nm (3 + a)) (va G (j + 1 + 1)) (h 1) 0 with
          | none =>
            dsimp only
            rw [ob_e, e_X9_put, ob_e, if_pos rfl, tb s2 q, ob_e, if_pos rfl]
            have B := flt (j := j + 1 + 1) X G2 (mf_trans F2 (kp_19 m2 mI).1) 3
            obtain ⟨B1, B2, k, p, hp, y1, y2, y3, y4⟩ := B
            refine ⟨0, _, _, rfl, Or.inl ⟨rfl, Or.inl rfl, ?_, B2, k, p, hp, ?_, ?_, y3, y4⟩⟩
            · dsimp only
              rw [wr1_in (by rw [ln_59]; omega)]
              exact cfr_u1 B1 (by omega) (by omega)
            · dsimp only
              rw [wr1_in (by rw [ln_59]; omega), u1_at, if_neg (by omega)]; exact y1
            · dsimp only
              rw [wr1_in (by rw [ln_59]; omega), u1_at, if_neg (by omega)]; exact y2
          | some a =>
            have fl := ff_lt q
            obtain ⟨m3, e3, K3, g3, M3⟩ := ta s2 a q
            have C3 := cur_next C2 (show 2 ≤ so G (j + 1 + 1) by omega)
            have G3 := cfr_nx (j := j + 1 + 1) G2
            have F3 := mf_trans F2 K3.1
            have P3 := mp_kp P2 K3
            dsimp only
            rw [ob_e, e_X9_put, ob_e, if_neg (nI_nm (by omega)), e3, ob_e]
            dsimp only
            rw [if_neg (show ¬ (1 : Int32) = 0 by decide), i3, if_pos (a89 (by omega)), g3, nI_1, nI_clamp (show 19 + dv G (j + 1) < 2 ^ 31 by omega), bd_e, wr1_in (by rw [ln_59]; omega)]
            refine ⟨1, _, _, rfl, Or.inr ⟨rfl, rfl, j + 1 + 1 + 1, _, nm, wd, ⟨cfr_u1 G3 (by omega) (by omega), mf_u1 F3 (by decide), cur_keep C3 ?_ ?_ rfl ?_, ms_89 M3 _, ?_, ?_, vh_19 V (u := dv G (j + 1)) (by omega) (show a + 1 ≤ h 1 by omega), ?_, cp_19 V (cp_nx K2) (by omega), mp_up P3 (by omega)⟩, by omega, ?_⟩⟩
            · funext z
              rw [u1_at, if_neg (by omega)]
            · funext z
              rw [u1_at, if_neg (by omega)]
            · rw [u1_at, if_neg (by omega)]
            · rw [u1_at, if_neg (by omega), nx_o (by omega), nx_o (by omega), nx_o (by omega)]; exact k2
            · rw [u89_86, K3.2.2 16 (by decide), S2.2 16 (by decide), S1.2 16 (by decide)]; exact k16
            · rw [upN_ne (by omega)]; exact h169
            · rw [u89_86, K3.2.2 20 (by decide), S2.2 20 (by decide), S1.2 20 (by decide)]
        · rw [if_neg s2, ob_e, e_X9_put, ob_e, if_pos rfl, tc s2, ob_e, if_pos rfl]
          have B := flt (j := j + 1 + 1) X G2 F2 1
          obtain ⟨B1, B2, k, p, hp, y1, y2, y3, y4⟩ := B
          refine ⟨0, _, _, rfl, Or.inl ⟨rfl, Or.inl rfl, ?_, B2, k, p, hp, ?_, ?_, y3, y4⟩⟩
          · dsimp only
            rw [wr1_in (by rw [ln_59]; omega)]
            exact cfr_u1 B1 (by omega) (by omega)
          · dsimp only
            rw [wr1_in (by rw [ln_59]; omega), u1_at, if_neg (by omega)]; exact y1
          · dsimp only
            rw [wr1_in (by rw [ln_59]; omega), u1_at, if_neg (by omega)]; exact y2
      · have C2' : CUR G T (j + 1) (u1 (nxc (nxc c j) (j + 1)) 44 1 (nI (j + 1))) := cur_keep C1 (by funext i; rw [u1_at, if_neg (by omega), nx_o (by omega)]) (by funext i; rw [u1_at, if_neg (by omega), nx_o (by omega)]) rfl (by rw [u1_at, if_pos ⟨rfl, rfl⟩]; exact C1.2.1.symm)
        rw [if_neg (show ¬ pI (h (19 + dv G (j + 1))) = -1 from fun z => t0 ((pI_mI (by omega)).mp z)), if_pos (show (0 : Int32) < nI (h (19 + dv G (j + 1))) from (nI_ltI (a := 0) (by omega) (by omega)).mpr (by omega)), show (nxc (nxc c j) (j + 1)).1 44 1 = nI (j + 1 + 1) from by unfold nxc; rw [u1_at, if_pos ⟨rfl, rfl⟩], nI_pred, bd_e, show f_X0_refuse (3 : Int32) (u1 (nxc (nxc c j) (j + 1)) 44 1 (nI (j + 1))) = _ from e_refuse C2' 3, ob_e, show f_X10_bad (3 : Int32) m1 = _ from e_bad M1 3, ob_e]
        rw [or01]
        exact lh_bad X (cfr_u1 G2 (by omega) (by omega)) F1 3
    · rw [if_neg d1, ob_e, if_pos rfl, if_pos (show (29 : Int32) < nI (dv G (j + 1)) from (nI_ltI (a := 29) (by omega) (by omega)).mpr (by omega)), show f_X10_bad (2 : Int32) m1 = _ from e_bad M1 2, ob_e]
      rw [or01]
      exact lh_bad X G1 F1 2
  · rw [if_neg s1, ob_e, if_pos rfl, if_neg (fun z => s1 ((ms_n M1).mp z)), show f_X10_bad (1 : Int32) m1 = _ from e_bad M1 1, ob_e]
    rw [or01]
    exact lh_bad X G1 F1 1
theorem w43 (v t : Int32) (c : DD) (ht : t = (-1 : Int32)) : f_X2_readWantsLine_43 v t c = some ((0 : Int32), c) := by
  unfold f_X2_readWantsLine_43 f_X2_readWantsLine_63
  rw [if_pos ht, if_pos rfl]
theorem l_wants {G : TX} {T j : Nat} {h nm wd} {c0 m0 c m : DD} (X : VX G) (W : RW m0) (I : HOI G T c0 m0 j h nm wd c m) (s : so G j = 14) : LH (f_X2_readWantsLine c) (f_X10_readWants m) c0 m0 (HQL G T c0 m0 j m) := by
  obtain ⟨Fc, Fm, C, M, k2, k16, V, h169, CPc, MPm⟩ := I
  have v0 := V.1
  have v1 := V.2.1
  have x1 : ixb (1 : Int32) (ln 89) := a89 (i := 1) (by omega)
  obtain ⟨m1, e1, S1, M1⟩ := ms_next X M (by omega)
  have C1 := cur_next C (show 2 ≤ so G j by omega)
  have G1 := cfr_nx (j := j) Fc
  have F1 := mf_trans Fm (mf_sk S1)
  have P1 := mp_kp MPm (kp_sk S1)
  have K1 := cp_nx (j := j) CPc
  have r1 : m1.1 89 (1 : Int32).toNatClampNeg = nI (h 1) := P1.1 1 (by omega)
  obtain ⟨ta, tb, tc⟩ := e_tName X V M1 P1 (rw_mf W F1)
  unfold f_X2_readWantsLine f_X10_readWants
  rw [e_ix C, bd_e, e1, ob_e, e_readPerson hb_50 V C1 K1.1]
  dsimp only
  rw [if_pos x1, r1]
  by_cases s1 : so G (j + 1) = 4
  · rw [if_pos s1]
    cases q : ff (fun a => nm (3 + a)) (va G (j + 1)) (h 1) 0 with
    | none =>
      dsimp only
      rw [ob_e, if_pos rfl, w43 _ _ _ rfl, tb s1 q, ob_e, if_pos rfl]
      exact lh_bad X G1 (mf_trans F1 (kp_19 m1 mI).1) 3
    | some a =>
      have fl := ff_lt q
      obtain ⟨m2, e2, K2, g2, M2⟩ := ta s1 a q
      have C2 := cur_next C1 (show 2 ≤ so G (j + 1) by omega)
      have G2 := cfr_nx (j := j + 1) G1
      have F2 := mf_trans F1 K2.1
      have P2 := mp_kp P1 K2
      have KK2 := cp_nx (j := j + 1) K1
      obtain ⟨l1, l2, l3⟩ := KK2.2.2 a (by omega)
      dsimp only
      rw [ob_e, if_neg (nI_nm (by omega)), e_newHour C2 ln_64 (by decide) (by decide) (by omega) l2 l1, e2, ob_e]
      dsimp only
      rw [if_neg (show ¬ (1 : Int32) = 0 by decide), g2, bd_e]
      by_cases s2 : so G (j + 1 + 1) = 3
      · obtain ⟨n2, n99⟩ := ms_dv M2 s2
        rw [if_pos s2, if_pos ((ms_n M2).mpr s2), n2]
        by_cases d2 : 0 ≤ dv G (j + 1 + 1) ∧ dv G (j + 1 + 1) ≤ 29
        · have i3 : ((49 : Int32) + ((30 : Int32) * nI a)) + nI (dv G (j + 1 + 1)) = nI (49 + (30 * a + dv G (j + 1 + 1))) := by rw [show (49 : Int32) = nI 49 from rfl, show (30 : Int32) = nI 30 from rfl, pk_mul, nI_add, nI_add]; congr 1; omega
          have r49 : m2.1 89 (nI (49 + (30 * a + dv G (j + 1 + 1)))).toNatClampNeg = nI (h (49 + (30 * a + dv G (j + 1 + 1)))) := by rw [nI_clamp (show 49 + (30 * a + dv G (j + 1 + 1)) < 2 ^ 31 by omega)]; exact P2.1 (49 + (30 * a + dv G (j + 1 + 1))) (by omega)
          have w6 := V.2.2.2.2.2.2.1 (30 * a + dv G (j + 1 + 1)) (by omega)
          rw [if_pos d2, if_neg (show ¬ (29 : Int32) < nI (dv G (j + 1 + 1)) from fun z => by have := (nI_ltI (a := 29) (by omega) (by omega)).mp z; omega), i3, bd_e, if_pos (a89 (by omega)), r49, l3 _ (by omega)]
          by_cases t : 0 < h (49 + (30 * a + dv G (j + 1 + 1)))
          · rw [if_pos (decide_eq_true t), ob_e, if_pos (show (0 : Int32) < nI (h (49 + (30 * a + dv G (j + 1 + 1)))) from (nI_ltI (a := 0) (by omega) (by omega)).mpr t), show f_X10_bad (3 : Int32) m2 = _ from e_bad M2 3, ob_e]
            rw [or01]
            dsimp only
            rw [w43 _ _ _ rfl]
            refine lh_bad X (cfr_u1 (cfr_nx G2) (by omega) (by omega)) F2 3
          · obtain ⟨m3, e3, S3, M3⟩ := ms_next X M2 (by omega)
            have F3 := mf_trans F2 (mf_sk S3)
            have P3 := mp_kp P2 (kp_sk S3)
            have C3 := cur_next C2 (show 2 ≤ so G (j + 1 + 1) by omega)
            have C3' : CUR G T (j + 1 + 1 + 1) (u1 (nxc (nxc (nxc c j) (j + 1)) (j + 1 + 1)) 64 a (nI (wd a ||| 2 ^ dv G (j + 1 + 1)))) := cur_keep C3 (by funext i; rw [u1_at, if_neg (by omega)]) (by funext i; rw [u1_at, if_neg (by omega)]) rfl (by rw [u1_at, if_neg (by omega)])
            have G3 : CFR c0 (u1 (nxc (nxc (nxc c j) (j + 1)) (j + 1 + 1)) 64 a (nI (wd a ||| 2 ^ dv G (j + 1 + 1)))) := cfr_u1 (cfr_nx G2) (by omega) (by omega)
            obtain ⟨ua, ub, uc⟩ := e_take X M3 (lo := 0) (hi := 99) (by omega) (by omega)
            rw [if_neg (fun z => t (of_decide_eq_true z)), ob_e, if_neg (show ¬ (0 : Int32) < nI (h (49 + (30 * a + dv G (j + 1 + 1)))) from fun z => t ((nI_ltI (a := 0) (by omega) (by omega)).mp z)), e3, ob_e]
            dsimp only
            unfold f_X2_readWantsLine_43
            rw [if_neg (nI_nm (by omega)), show f_X0_readNumber (0 : Int32) (99 : Int32) _ = _ from e_readNumber C3' (lo := 0) (hi := 99) (by omega) (by omega)]
            by_cases s3 : so G (j + 1 + 1 + 1) = 3
            · rw [if_pos s3]
              by_cases d3 : 0 ≤ dv G (j + 1 + 1 + 1) ∧ dv G (j + 1 + 1 + 1) ≤ 99
              · obtain ⟨m4, e4, K4, g4, M4⟩ := ua s3 d3
                have F4 := mf_trans F3 K4.1
                have P4 := mp_kp P3 K4
                have C4 := cur_next C3' (show 2 ≤ so G (j + 1 + 1 + 1) by omega)
                have i4 : (nI a * (30 : Int32)) + nI (dv G (j + 1 + 1)) = nI (30 * a + dv G (j + 1 + 1)) := by rw [show (30 : Int32) = nI 30 from rfl, pk_mul, nI_add, Nat.mul_comm]
                rw [if_pos d3, ob_e, show f_X10_takes (0 : Int32) (99 : Int32) m3 = _ from e4, ob_e]
                dsimp only
                rw [if_neg (show ¬ (1 : Int32) = 0 by decide), g4, nI_1, bd_e]
                unfold f_X2_readWantsLine_63
                rw [if_neg (nI_nm (by omega)), i4, e_X9_put, ob_e, wr1_in (by rw [ln_58]; omega), if_pos (a89 (by omega)), nI_clamp (show 49 + (30 * a + dv G (j + 1 + 1)) < 2 ^ 31 by omega)]
                dsimp only
                have cpn := cp_49 (v := dv G (j + 1 + 1 + 1)) V (cp_nx (j := j + 1 + 1) KK2) (show a < 4 by omega) (show dv G (j + 1 + 1) < 30 by omega)
                refine ⟨1, _, _, rfl, Or.inr ⟨rfl, rfl, j + 1 + 1 + 1 + 1, upN h (49 + (30 * a + dv G (j + 1 + 1))) (dv G (j + 1 + 1 + 1) + 1), nm, upN wd a (wd a ||| 2 ^ dv G (j + 1 + 1)), ⟨cfr_u1 (cfr_nx G3) (by omega) (by omega), mf_u1 F4 (by decide), cur_keep C4 ?_ ?_ rfl ?_, ms_89 M4 _, ?_, ?_, vh_49 V (by omega) (by omega), ?_, cp_keep cpn (fun b b1 b2 => ⟨?_, rfl⟩), mp_up P4 (by omega)⟩, by omega, ?_⟩⟩
                · funext z
                  rw [u1_at, if_neg (by omega)]
                · funext z
                  rw [u1_at, if_neg (by omega)]
                · rw [u1_at, if_neg (by omega)]
                · rw [u1_at, if_neg (by omega), nx_o (by omega), u1_at, if_neg (by omega), nx_o (by omega), nx_o (by omega), nx_o (by omega)]; exact k2
                · rw [u89_86, K4.2.2 16 (by decide), S3.2 16 (by decide), K2.2.2 16 (by decide), S1.2 16 (by decide)]; exact k16
                · rw [upN_ne (by omega)]; exact h169
                · funext z
                  rw [u1_at, u1_at, nx_o (by omega)]
                · rw [u89_86, K4.2.2 20 (by decide), S3.2 20 (by decide), K2.2.2 20 (by decide), S1.2 20 (by decide)]
              · rw [if_neg d3, ob_e, show f_X10_takes (0 : Int32) (99 : Int32) m3 = _ from ub s3 d3, ob_e]
                dsimp only
                unfold f_X2_readWantsLine_63
                rw [if_pos rfl, if_pos rfl]
                exact lh_bad X G3 F3 2
            · rw [if_neg s3, ob_e, show f_X10_takes (0 : Int32) (99 : Int32) m3 = _ from uc s3, ob_e]
              dsimp only
              unfold f_X2_readWantsLine_63
              rw [if_pos rfl, if_pos rfl]
              exact lh_bad X G3 F3 1
        · rw [if_neg d2, ob_e, if_pos (show (29 : Int32) < nI (dv G (j + 1 + 1)) from (nI_ltI (a := 29) (by omega) (by omega)).mpr (by omega)), show f_X10_bad (2 : Int32) m2 = _ from e_bad M2 2, ob_e]
          rw [or01]
          dsimp only
          rw [w43 _ _ _ rfl]
          exact lh_bad X G2 F2 2
      · rw [if_neg s2, ob_e, if_neg (fun z => s2 ((ms_n M2).mp z)), show f_X10_bad (1 : Int32) m2 = _ from e_bad M2 1, ob_e]
        rw [or01]
        dsimp only
        rw [w43 _ _ _ rfl]
        exact lh_bad X G2 F2 1
  · rw [if_neg s1, ob_e, if_pos rfl, w43 _ _ _ rfl, tc s1, ob_e, if_pos rfl]
    exact lh_bad X G1 F1 1
