-- PURE ROWS: a house's text: a kind's line
def hK (h : Nat → Nat) (k lo hi tr : Nat) : Nat → Nat := fun q => if q = 0 then k + 1 else if q = 2 + k then lo else if q = 5 + k then hi else if q = 8 + k then tr else h q
def nmK (nm : Nat → Int64) (k : Nat) (v : Int64) : Nat → Int64 := fun i => if i = k then v else nm i
theorem hK_o {h : Nat → Nat} {k lo hi tr q : Nat} (h0 : q ≠ 0) (h2 : q ≠ 2 + k) (h5 : q ≠ 5 + k) (h8 : q ≠ 8 + k) : hK h k lo hi tr q = h q := by
  unfold hK
  rw [if_neg h0, if_neg h2, if_neg h5, if_neg h8]
theorem hK_0 {h : Nat → Nat} {k lo hi tr : Nat} : hK h k lo hi tr 0 = k + 1 := if_pos rfl
theorem hK_2 {h : Nat → Nat} {k lo hi tr : Nat} : hK h k lo hi tr (2 + k) = lo := by
  unfold hK
  rw [if_neg (by omega), if_pos rfl]
theorem hK_5 {h : Nat → Nat} {k lo hi tr : Nat} : hK h k lo hi tr (5 + k) = hi := by
  unfold hK
  rw [if_neg (by omega), if_neg (by omega), if_pos rfl]
theorem hK_8 {h : Nat → Nat} {k lo hi tr : Nat} : hK h k lo hi tr (8 + k) = tr := by
  unfold hK
  rw [if_neg (by omega), if_neg (by omega), if_neg (by omega), if_pos rfl]
theorem vh_K {h : Nat → Nat} {lo hi tr : Nat} (V : VH h) (h0 : h 0 < 3) (h1 : h 1 = 0) (h169 : h 169 = 0) (b1 : 1 ≤ lo) (b2 : lo ≤ hi) (b3 : hi ≤ 8) (b4 : tr ≤ tn lo hi) : VH (hK h (h 0) lo hi tr) := by
  obtain ⟨w0, w1, w2, w3, w4, w5, w6, w7, w8⟩ := V
  have s : ∀ q, 11 ≤ q → hK h (h 0) lo hi tr q = h q := fun q hq => hK_o (by omega) (by omega) (by omega) (by omega)
  have s1 : hK h (h 0) lo hi tr 1 = h 1 := hK_o (by omega) (by omega) (by omega) (by omega)
  refine ⟨by rw [hK_0]; omega, by rw [s1]; exact w1, fun k hk => ?_, fun k hk => ?_, fun k hk => ?_, fun u hu => ?_, fun k hk => ?_, by rw [s 169 (by omega)]; exact w7, fun k hk => ?_⟩
  · rw [hK_0] at hk
    by_cases c : k = h 0
    · rw [c, hK_2, hK_5, hK_8]
      exact ⟨b1, b2, b3, b4⟩
    · rw [hK_o (by omega) (by omega) (by omega) (by omega), hK_o (by omega) (by omega) (by omega) (by omega), hK_o (by omega) (by omega) (by omega) (by omega)]
      exact w2 k (by omega)
  · rw [s1, h1] at hk
    exact absurd hk (Nat.not_lt_zero k)
  · rw [s1, h1] at hk
    exact absurd hk (Nat.not_lt_zero k)
  · rw [s (19 + u) (by omega), s1]
    exact w5 u hu
  · rw [s (49 + k) (by omega)]
    exact w6 k hk
  · rw [s 169 (by omega), h169] at hk
    exact absurd hk (Nat.not_lt_zero k)
theorem cp_K {h nm wd} {c c' : DD} {lo hi tr : Nat} {v : Int64} (V : VH h) (C : CP h nm wd c) (h0 : h 0 < 3) (h1 : h 1 = 0) (h169 : h 169 = 0) (e0 : c'.1 50 0 = nI (h 0 + 1)) (e1 : c'.1 50 1 = c.1 50 1) (e51 : ∀ i, c'.2 51 i = if i = h 0 then v else c.2 51 i) (e52 : ∀ i, c'.1 52 i = if i = h 0 then nI lo else c.1 52 i) (e53 : ∀ i, c'.1 53 i = if i = h 0 then nI hi else c.1 53 i) (e54 : ∀ i, c'.1 54 i = if i = h 0 then pI tr else c.1 54 i) (e : ∀ a, 55 ≤ a → a ≤ 64 → c'.1 a = c.1 a ∧ c'.2 a = c.2 a) : CP (hK h (h 0) lo hi tr) (nmK nm (h 0) v) wd c' := by
  have s : ∀ q, 11 ≤ q → hK h (h 0) lo hi tr q = h q := fun q hq => hK_o (by omega) (by omega) (by omega) (by omega)
  have s1 : hK h (h 0) lo hi tr 1 = h 1 := hK_o (by omega) (by omega) (by omega) (by omega)
  obtain ⟨H, L, W⟩ := C
  refine ⟨?_, fun b hb => ?_, fun b hb => ?_⟩
  · unfold HC at H ⊢
    simp only [rf_50_2, rf_50_3, rf_50_4, rf_50_5, rf_50_6, rf_50_7, rf_50_8, rf_50_9, rf_50_10, rf_50_11, rf_60_1, rf_60_2, rf_60_3] at H ⊢
    obtain ⟨a0, a1, a2, a3, a4, a5, a6, a7, a8, a9, a10, a11, a12⟩ := H
    rw [hK_0, s1, s 169 (by omega), h169, h1]
    refine ⟨e0, by rw [e1, a1, h1], fun i hi => ?_, fun i hi => ?_, fun i hi => ?_, fun i hi => ?_, fun i hi => absurd hi (Nat.not_lt_zero i), fun i hi => absurd hi (Nat.not_lt_zero i), fun i hi => absurd hi (Nat.not_lt_zero i), fun i hi => ?_, fun i hi => ?_, by rw [(e 60 (by omega) (by omega)).1, a11, h169], fun i hi => absurd hi (Nat.not_lt_zero i)⟩
    · rw [e51]
      unfold nmK
      by_cases c1 : i = h 0
      · rw [if_pos c1, if_pos c1]
      · rw [if_neg c1, if_neg c1]; exact a2 i (by omega)
    · rw [e52]
      by_cases c1 : i = h 0
      · rw [if_pos c1, c1, hK_2]
      · rw [if_neg c1, hK_o (by omega) (by omega) (by omega) (by omega)]; exact a3 i (by omega)
    · rw [e53]
      by_cases c1 : i = h 0
      · rw [if_pos c1, c1, hK_5]
      · rw [if_neg c1, hK_o (by omega) (by omega) (by omega) (by omega)]; exact a4 i (by omega)
    · rw [e54]
      by_cases c1 : i = h 0
      · rw [if_pos c1, c1, hK_8]
      · rw [if_neg c1, hK_o (by omega) (by omega) (by omega) (by omega)]; exact a5 i (by omega)
    · rw [(e 58 (by omega) (by omega)).1, s (49 + i) (by omega)]; exact a9 i hi
    · rw [(e 59 (by omega) (by omega)).1, s (19 + i) (by omega)]; exact a10 i hi
  · rw [(e 57 (by omega) (by omega)).1, s (15 + b) (by omega)]; exact L b hb
  · obtain ⟨b1, b2, b3⟩ := W b hb
    exact ⟨by rw [(e 64 (by omega) (by omega)).1]; exact b1, b2, fun u hu => by rw [s (49 + (30 * b + u)) (by omega)]; exact b3 u hu⟩
theorem mp_K {h nm} {m m' : DD} {lo hi tr : Nat} {v : Int64} (P : MP h nm m) (h0 : h 0 < 3) (h1 : h 1 = 0) (e89 : ∀ q, m'.1 89 q = if q = 0 then nI (h 0 + 1) else if q = 2 + h 0 then nI lo else if q = 5 + h 0 then nI hi else if q = 8 + h 0 then nI tr else m.1 89 q) (e92 : ∀ i, m'.2 92 i = if i = 7 + h 0 then v else m.2 92 i) : MP (hK h (h 0) lo hi tr) (nmK nm (h 0) v) m' := by
  obtain ⟨a, b, c⟩ := P
  have s1 : hK h (h 0) lo hi tr 1 = h 1 := hK_o (by omega) (by omega) (by omega) (by omega)
  refine ⟨fun q hq => ?_, fun k hk => ?_, fun k hk => ?_⟩
  · rw [e89]
    unfold hK
    by_cases c0 : q = 0
    · rw [if_pos c0, if_pos c0]
    · rw [if_neg c0, if_neg c0]
      by_cases c2 : q = 2 + h 0
      · rw [if_pos c2, if_pos c2]
      · rw [if_neg c2, if_neg c2]
        by_cases c5 : q = 5 + h 0
        · rw [if_pos c5, if_pos c5]
        · rw [if_neg c5, if_neg c5]
          by_cases c8 : q = 8 + h 0
          · rw [if_pos c8, if_pos c8]
          · rw [if_neg c8, if_neg c8]
            exact a q hq
  · rw [hK_0] at hk
    rw [e92]
    unfold nmK
    by_cases c1 : k = h 0
    · rw [if_pos (by omega), if_pos c1]
    · rw [if_neg (by omega), if_neg c1]
      exact b k (by omega)
  · rw [s1, h1] at hk
    exact absurd hk (Nat.not_lt_zero k)
theorem fo_z {lo : Nat} : ∀ p, p ≤ lo → fo lo p = 0
  | 0, _ => rfl
  | p + 1, h => by
    show fo lo p + (if lo ≤ p then p else 0) = 0
    rw [fo_z p (by omega), if_neg (by omega)]
theorem m192 {k lo ph p : Nat} (hk : k < 3) (hp : p ≤ 8) (hph : ph ≤ 99) : ∀ (n v f : Nat) (m : DD), v + n = p → n < f → lo ≤ v → m.1 89 (8 + k) = nI (1 + ph + fo lo v) → ∃ m', f_X10_readKind_192 f (nI k) (nI p) (nI v) m = f_X10_readKind_216 m' ∧ m'.1 89 (8 + k) = nI (1 + ph + fo lo p) ∧ (∀ a i, ¬ (a = 89 ∧ i = 8 + k) → m'.1 a i = m.1 a i) ∧ m'.2 = m.2 := by
  intro n
  induction n with
  | zero =>
    intro v f m hv hf hl e
    obtain ⟨f, rfl⟩ : ∃ f', f = f' + 1 := ⟨f - 1, by omega⟩
    have e2 : v = p := by omega
    subst e2
    refine ⟨m, ?_, e, fun _ _ _ => rfl, rfl⟩
    show f_X10_readKind_192B (f_X10_readKind_192 f) _ _ _ _ = _
    unfold f_X10_readKind_192B
    rw [if_neg (by rw [nI_ltI (by omega) (by omega)]; omega)]
  | succ n ih =>
    intro v f m hv hf hl e
    obtain ⟨f, rfl⟩ : ∃ f', f = f' + 1 := ⟨f - 1, by omega⟩
    have fe : fo lo (v + 1) = fo lo v + v := by
      show fo lo v + (if lo ≤ v then v else 0) = _
      rw [if_pos hl]
    obtain ⟨m', e1, e2, e3, e4⟩ := ih (v + 1) f (u1 m 89 (8 + k) (nI (1 + ph + fo lo v + v))) (by omega) (by omega) (by omega) (by rw [u1_at, if_pos ⟨rfl, rfl⟩, fe]; congr 1; omega)
    have i8 : (8 : Int32) + nI k = nI (8 + k) := by rw [show (8 : Int32) = nI 8 from rfl, nI_add]
    have r8 : m.1 89 (nI (8 + k)).toNatClampNeg = nI (1 + ph + fo lo v) := by rw [nI_clamp (by omega)]; exact e
    refine ⟨m', ?_, e2, fun a i h => ?_, e4⟩
    · show f_X10_readKind_192B (f_X10_readKind_192 f) _ _ _ _ = _
      unfold f_X10_readKind_192B
      rw [if_pos (by rw [nI_ltI (by omega) (by omega)]; omega), i8, if_pos (a89 (by omega)), if_pos (a89 (by omega)), r8, nI_add, nI_1, nI_clamp (show 8 + k < 2 ^ 31 by omega), bd_e]
      exact e1
    · rw [e3 a i h, u1_at, if_neg h]
theorem m216 {m : DD} {k : Nat} (e : m.1 89 0 = nI k) : f_X10_readKind_216 m = some (1, u1 m 89 0 (nI (k + 1))) := by
  have x0 : ixb (0 : Int32) (ln 89) := a89 (i := 0) (by omega)
  have r : m.1 89 (0 : Int32).toNatClampNeg = nI k := e
  unfold f_X10_readKind_216
  rw [if_pos x0, if_pos x0, r, nI_1, bd_e]
  rfl
theorem k123 (v : Int64) (t x : Int32) (c : DD) (hx : x = (-1 : Int32)) : f_X2_readKindLine_123 v t x c = some ((0 : Int32), c) := by
  unfold f_X2_readKindLine_123
  rw [if_pos hx]
theorem t46 (v w x t : Int32) (c : DD) (ht : t = (-1 : Int32)) : f_X2_readTruth_46 v w x t c = some ((0 : Int32), c) := by
  unfold f_X2_readTruth_46
  rw [if_pos ht]
def cK (c : DD) (k lo hi : Nat) (v : Int64) : DD := u1 (u1 (u1 (u1 (u2 c 51 k v) 52 k (nI lo)) 53 k (nI hi)) 54 k (-1)) 50 0 (nI (k + 1))
theorem e_123 {G : TX} {T j k lo hi : Nat} {c : DD} {v : Int64} (C : CUR G T j c) (hk : k < 3) (hh : hi < 1000) (e : c.1 50 0 = nI k) : f_X2_readKindLine_123 v (nI lo) (nI hi) c = if so G j = 6 then (f_X2_readTruth (nI k) (nI lo) (nI hi) (cK c k lo hi v)).bind fun q14 => (if q14.1 = 0 then some ((0 : Int32), q14.2) else some ((1 : Int32), q14.2)) else some ((1 : Int32), cK c k lo hi v) := by
  have r : (u1 (u1 (u1 (u2 c 51 k v) 52 k (nI lo)) 53 k (nI hi)) 54 k (-1)).1 50 0 = nI k := by rw [u1_at, if_neg (by omega), u1_at, if_neg (by omega), u1_at, if_neg (by omega)]; exact e
  have CK : CUR G T j (cK c k lo hi v) := by
    unfold cK
    refine cur_keep C ?_ ?_ ?_ ?_
    · funext z
      rw [u1_at, if_neg (by omega), u1_at, if_neg (by omega), u1_at, if_neg (by omega), u1_at, if_neg (by omega)]
      rfl
    · funext z
      rw [u1_at, if_neg (by omega), u1_at, if_neg (by omega), u1_at, if_neg (by omega), u1_at, if_neg (by omega)]
      rfl
    · show (u2 c 51 k v).2 48 = _
      funext z
      rw [u2_at, if_neg (by omega)]
    · rw [u1_at, if_neg (by omega), u1_at, if_neg (by omega), u1_at, if_neg (by omega), u1_at, if_neg (by omega)]
      rfl
  unfold f_X2_readKindLine_123
  rw [if_neg (nI_nm hh), bd_e, e, e_X9_putLong, ob_e, wr2_in (by rw [ln_51]; exact hk)]
  dsimp only
  rw [e_X9_put, ob_e, wr1_in (by rw [ln_52]; exact hk)]
  dsimp only
  rw [e_X9_put, ob_e, wr1_in (by rw [ln_53]; exact hk)]
  dsimp only
  rw [e_X9_put, ob_e, wr1_in (by rw [ln_54]; exact hk)]
  dsimp only
  rw [r, nI_1, bd_e]
  rw [show u1 (u1 (u1 (u1 (u2 c 51 k v) 52 k (nI lo)) 53 k (nI hi)) 54 k (-1)) 50 0 (nI (k + 1)) = cK c k lo hi v from rfl, e_sort CK, ob_e]
  dsimp only
  by_cases s : so G j = 6
  · rw [if_pos (show nI (so G j) = 6 by rw [s]; rfl), if_pos s]
  · rw [if_neg (show ¬ nI (so G j) = 6 from fun z => s ((so_eq (s := 6) (by omega)).mp z)), if_neg s]
theorem cK_o {c : DD} {k lo hi a i : Nat} {v : Int64} (h : a < 50 ∨ 54 < a) : (cK c k lo hi v).1 a i = c.1 a i := by
  unfold cK
  rw [u1_at, if_neg (by omega), u1_at, if_neg (by omega), u1_at, if_neg (by omega), u1_at, if_neg (by omega)]
  rfl
theorem cK_o2 {c : DD} {k lo hi a : Nat} {v : Int64} (h : a ≠ 51) : (cK c k lo hi v).2 a = c.2 a := by
  funext i
  show (u2 c 51 k v).2 a i = _
  rw [u2_at, if_neg (fun z => h z.1)]
theorem cK_cfr {c0 c : DD} {k lo hi : Nat} {v : Int64} (F : CFR c0 c) : CFR c0 (cK c k lo hi v) := by
  unfold cK
  exact cfr_u1 (cfr_u1 (cfr_u1 (cfr_u1 (cfr_u2 F (by omega) (by omega)) (by omega) (by omega)) (by omega) (by omega)) (by omega) (by omega)) (by omega) (by omega)
theorem cK_cur {G : TX} {T j k lo hi : Nat} {c : DD} {v : Int64} (C : CUR G T j c) : CUR G T j (cK c k lo hi v) := cur_keep C (by funext z; exact cK_o (by omega)) (by funext z; exact cK_o (by omega)) (cK_o2 (by omega)) (cK_o (by omega))
theorem l_kind {G : TX} {T j : Nat} {h nm wd} {c0 m0 c m : DD} (X : VX G) (W : RW m0) (I : HOI G T c0 m0 j h nm wd c m) (s : so G j = 5) : LH (f_X2_readKindLine c) (f_X10_readKind m) c0 m0 (HQL G T c0 m0 j m) := by
  obtain ⟨Fc, Fm, C, M, k2, k16, V, h169, CPc, MPm⟩ := I
  have v0 := V.1
  have v1 := V.2.1
  have x0 : ixb (0 : Int32) (ln 89) := a89 (i := 0) (by omega)
  have x1 : ixb (1 : Int32) (ln 89) := a89 (i := 1) (by omega)
  have c50 := hc_k CPc.1
  have c51 := hc_p CPc.1
  have r0 : m.1 89 (0 : Int32).toNatClampNeg = nI (h 0) := MPm.1 0 (by omega)
  have r1 : m.1 89 (1 : Int32).toNatClampNeg = nI (h 1) := MPm.1 1 (by omega)
  unfold f_X2_readKindLine f_X10_readKind
  rw [c50, c51, e_ix C, bd_e, if_pos x0, r0, bd_e, if_pos x1, r1]
  by_cases z1 : h 1 = 0
  · rw [if_neg (show ¬ (0 : Int32) < nI (h 1) from fun z => by have := (nI_ltI (a := 0) (by omega) (by omega)).mp z; omega), if_neg (show ¬ (0 : Int32) < nI (h 1) from fun z => by have := (nI_ltI (a := 0) (by omega) (by omega)).mp z; omega)]
    by_cases z0 : h 0 < 3
    · obtain ⟨m1, e1, S1, M1⟩ := ms_next X M (by omega)
      have C1 := cur_next C (show 2 ≤ so G j by omega)
      have G1 := cfr_nx (j := j) Fc
      have F1 := mf_trans Fm (mf_sk S1)
      have P1 := mp_kp MPm (kp_sk S1)
      have K1 := cp_nx (j := j) CPc
      obtain ⟨fa, fb, fc⟩ := e_fresh (to := 7 + h 0) X V M1 P1 (rw_mf W F1) (by omega) (by omega)
      rw [if_pos (show nI (h 0) < (3 : Int32) from (nI_ltI (b := 3) (by omega) (by omega)).mpr z0), if_neg (show ¬ nI (h 0) = (3 : Int32) from fun z => by have := (nI_eq (b := 3) (by omega) (by omega)).mp z; omega), e1, ob_e, show (7 : Int32) + nI (h 0) = nI (7 + h 0) from by rw [show (7 : Int32) = nI 7 from rfl, nI_add], e_peekNew V C1 K1.1]
      dsimp only
      by_cases s1 : so G (j + 1) = 4
      · rw [if_pos s1]
        by_cases nf : ff nm (va G (j + 1)) (h 0) 0 = none ∧ ff (fun a => nm (3 + a)) (va G (j + 1)) (h 1) 0 = none
        · obtain ⟨m2, e2, S2, M2⟩ := fa s1 nf
          have C2 := cur_next C1 (show 2 ≤ so G (j + 1) by omega)
          have G2 := cfr_nx (j := j + 1) G1
          have F2 : MF m0 m2 := mf_trans (mf_u2 F1 (by omega)) (mf_sk S2)
          obtain ⟨ta, tb, tc⟩ := e_take X M2 (lo := 1) (hi := 8) (by omega) (by omega)
          rw [if_pos nf, ob_e, e2, ob_e]
          dsimp only
          rw [if_neg (show ¬ (1 : Int32) = 0 by decide), if_neg (show ¬ (1 : Int32) = 0 by decide), e_value C1, ob_e]
          dsimp only
          rw [e_ix C1, bd_e, show f_X0_readNumber (1 : Int32) (8 : Int32) _ = _ from e_readNumber C2 (lo := 1) (hi := 8) (by omega) (by omega)]
          by_cases s2 : so G (j + 1 + 1) = 3
          · rw [if_pos s2]
            by_cases d2 : 1 ≤ dv G (j + 1 + 1) ∧ dv G (j + 1 + 1) ≤ 8
            · obtain ⟨m3, e3, K3, g3, M3⟩ := ta s2 d2
              have C3 := cur_next C2 (show 2 ≤ so G (j + 1 + 1) by omega)
              have G3 := cfr_nx (j := j + 1 + 1) G2
              have F3 := mf_trans F2 K3.1
              have M3' := ms_89 (i := 2 + h 0) M3 (nI (dv G (j + 1 + 1)))
              have F3' : MF m0 (u1 m3 89 (2 + h 0) (nI (dv G (j + 1 + 1)))) := mf_u1 F3 (by decide)
              obtain ⟨ua, ub, uc⟩ := e_take X M3' (lo := dv G (j + 1 + 1)) (hi := 8) (by omega) (by omega)
              have i2 : (2 : Int32) + nI (h 0) = nI (2 + h 0) := by rw [show (2 : Int32) = nI 2 from rfl, nI_add]
              have i5 : (5 : Int32) + nI (h 0) = nI (5 + h 0) := by rw [show (5 : Int32) = nI 5 from rfl, nI_add]
              have i8 : (8 : Int32) + nI (h 0) = nI (8 + h 0) := by rw [show (8 : Int32) = nI 8 from rfl, nI_add]
              rw [if_pos d2, ob_e, show f_X10_takes (1 : Int32) (8 : Int32) m2 = _ from e3, ob_e]
              dsimp only
              rw [if_neg (nI_nm (by omega)), if_neg (show ¬ (1 : Int32) = 0 by decide), i2, i5, i8, if_pos (a89 (by omega)), g3, show u1 m3 89 (nI (2 + h 0)).toNatClampNeg (nI (dv G (j + 1 + 1))) = u1 m3 89 (2 + h 0) (nI (dv G (j + 1 + 1))) from by rw [nI_clamp (by omega)], bd_e, show (u1 m3 89 (2 + h 0) (nI (dv G (j + 1 + 1)))).1 86 19 = nI (dv G (j + 1 + 1)) from by rw [u89_86]; exact g3, show f_X0_readNumber (nI (dv G (j + 1 + 1))) (8 : Int32) _ = _ from e_readNumber C3 (lo := dv G (j + 1 + 1)) (hi := 8) (by omega) (by omega)]
              by_cases s3 : so G (j + 1 + 1 + 1) = 3
              · rw [if_pos s3]
                by_cases d3 : dv G (j + 1 + 1) ≤ dv G (j + 1 + 1 + 1) ∧ dv G (j + 1 + 1 + 1) ≤ 8
                · obtain ⟨m5, e5, K5, g5, M5⟩ := ua s3 d3
                  have C4 := cur_next C3 (show 2 ≤ so G (j + 1 + 1 + 1) by omega)
                  have G4 := cfr_nx (j := j + 1 + 1 + 1) G3
                  have F5 := mf_trans F3' K5.1
                  have CK := cK_cur (k := h 0) (lo := dv G (j + 1 + 1)) (hi := dv G (j + 1 + 1 + 1)) (v := va G (j + 1)) C4
                  have GK := cK_cfr (k := h 0) (lo := dv G (j + 1 + 1)) (hi := dv G (j + 1 + 1 + 1)) (v := va G (j + 1)) G4
                  have n50 : (nxc (nxc (nxc (nxc c j) (j + 1)) (j + 1 + 1)) (j + 1 + 1 + 1)).1 50 0 = nI (h 0) := by rw [nx_o (by omega), nx_o (by omega), nx_o (by omega), nx_o (by omega)]; exact c50
                  have M6 := ms_89 (i := 8 + h 0) (ms_89 (i := 5 + h 0) M5 (nI (dv G (j + 1 + 1 + 1)))) 0
                  have F6 : MF m0 (u1 (u1 m5 89 (5 + h 0) (nI (dv G (j + 1 + 1 + 1)))) 89 (8 + h 0) 0) := mf_u1 (mf_u1 F5 (by decide)) (by decide)
                  -- what the model holds
                  have h92 : ∀ i, m5.2 92 i = if i = 7 + h 0 then va G (j + 1) else m.2 92 i := by
                    intro i
                    rw [(K5.2.1 92 (by decide)).2]
                    show m3.2 92 i = _
                    rw [(K3.2.1 92 (by decide)).2, (S2.1 92 (by decide)).2, u2_at]
                    by_cases q : i = 7 + h 0
                    · rw [if_pos ⟨rfl, q⟩, if_pos q]
                    · rw [if_neg (fun z => q z.2), if_neg q, (S1.1 92 (by decide)).2]
                  have h89 : ∀ q, m5.1 89 q = if q = 2 + h 0 then nI (dv G (j + 1 + 1)) else m.1 89 q := by
                    intro q
                    rw [(K5.2.1 89 (by decide)).1, u1_at]
                    by_cases c2 : q = 2 + h 0
                    · rw [if_pos ⟨rfl, c2⟩, if_pos c2]
                    · rw [if_neg (fun z => c2 z.2), if_neg c2, (K3.2.1 89 (by decide)).1, (S2.1 89 (by decide)).1]
                      show m1.1 89 q = _
                      rw [(S1.1 89 (by decide)).1]
                  have q16 : m5.1 86 16 = nI 0 := by
                    rw [K5.2.2 16 (by decide), u89_86, K3.2.2 16 (by decide), S2.2 16 (by decide)]
                    show m1.1 86 16 = _
                    rw [S1.2 16 (by decide)]
                    exact k16
                  have q20 : m5.1 86 20 = m.1 86 20 := by
                    rw [K5.2.2 20 (by decide), u89_86, K3.2.2 20 (by decide), S2.2 20 (by decide)]
                    show m1.1 86 20 = _
                    rw [S1.2 20 (by decide)]
                  have ckf : ∀ a, 55 ≤ a → a ≤ 64 → (cK (nxc (nxc (nxc (nxc c j) (j + 1)) (j + 1 + 1)) (j + 1 + 1 + 1)) (h 0) (dv G (j + 1 + 1)) (dv G (j + 1 + 1 + 1)) (va G (j + 1))).1 a = c.1 a ∧ (cK (nxc (nxc (nxc (nxc c j) (j + 1)) (j + 1 + 1)) (j + 1 + 1 + 1)) (h 0) (dv G (j + 1 + 1)) (dv G (j + 1 + 1 + 1)) (va G (j + 1))).2 a = c.2 a := by
                    intro a ha hb
                    refine ⟨?_, ?_⟩
                    · funext z
                      rw [cK_o (by omega), nx_o (by omega), nx_o (by omega), nx_o (by omega), nx_o (by omega)]
                    · rw [cK_o2 (by omega)]
                      rfl
                  rw [if_pos d3, ob_e, show f_X10_takes (nI (dv G (j + 1 + 1))) (8 : Int32) _ = _ from e5, ob_e]
                  dsimp only
                  rw [if_neg (show ¬ (1 : Int32) = 0 by decide), e_123 C4 z0 (by omega) n50, if_pos (a89 (by omega)), g5, show u1 m5 89 (nI (5 + h 0)).toNatClampNeg (nI (dv G (j + 1 + 1 + 1))) = u1 m5 89 (5 + h 0) (nI (dv G (j + 1 + 1 + 1))) from by rw [nI_clamp (by omega)], bd_e, if_pos (a89 (by omega))]
                  rw [show u1 (u1 m5 89 (5 + h 0) (nI (dv G (j + 1 + 1 + 1)))) 89 (nI (8 + h 0)).toNatClampNeg (0 : Int32) = u1 (u1 m5 89 (5 + h 0) (nI (dv G (j + 1 + 1 + 1)))) 89 (8 + h 0) 0 from by rw [nI_clamp (by omega)], bd_e, e_isWord M6 (s := 6) (by omega) (fun v => srt_6), ob_e]
                  dsimp only
                  by_cases s4 : so G (j + 1 + 1 + 1 + 1) = 6
                  · rw [if_pos s4, decide_eq_true s4, if_neg (show ¬ bI true = 0 by decide)]
                    obtain ⟨m7, e7, S7, M7⟩ := ms_next X M6 (by omega)
                    have F7 := mf_trans F6 (mf_sk S7)
                    have h89b : ∀ q, m7.1 89 q = if q = 8 + h 0 then 0 else if q = 5 + h 0 then nI (dv G (j + 1 + 1 + 1)) else if q = 2 + h 0 then nI (dv G (j + 1 + 1)) else m.1 89 q := by
                      intro q
                      rw [(S7.1 89 (by decide)).1, u1_at]
                      by_cases c8 : q = 8 + h 0
                      · rw [if_pos ⟨rfl, c8⟩, if_pos c8]
                      · rw [if_neg (fun z => c8 z.2), if_neg c8, u1_at]
                        by_cases c5 : q = 5 + h 0
                        · rw [if_pos ⟨rfl, c5⟩, if_pos c5]
                        · rw [if_neg (fun z => c5 z.2), if_neg c5]
                          exact h89 q
                    have r2 : m7.1 89 (nI (2 + h 0)).toNatClampNeg = nI (dv G (j + 1 + 1)) := by rw [nI_clamp (by omega), h89b, if_neg (by omega), if_neg (by omega), if_pos rfl]
                    have r5 : m7.1 89 (nI (5 + h 0)).toNatClampNeg = nI (dv G (j + 1 + 1 + 1)) := by rw [nI_clamp (by omega), h89b, if_neg (by omega), if_pos rfl]
                    have C5 := cur_next CK (show 2 ≤ so G (j + 1 + 1 + 1 + 1) by omega)
                    have G5 := cfr_nx (j := j + 1 + 1 + 1 + 1) GK
                    obtain ⟨wa, wb, wc⟩ := e_take X M7 (lo := dv G (j + 1 + 1)) (hi := dv G (j + 1 + 1 + 1)) (by omega) (by omega)
                    rw [e7, ob_e, if_pos (a89 (by omega)), if_pos (a89 (by omega)), r2, r5]
                    unfold f_X2_readTruth
                    rw [e_ix CK, bd_e, e_readNumber C5 (by omega) (by omega)]
                    by_cases s5 : so G (j + 1 + 1 + 1 + 1 + 1) = 3
                    · rw [if_pos s5]
                      by_cases d5 : dv G (j + 1 + 1) ≤ dv G (j + 1 + 1 + 1 + 1 + 1) ∧ dv G (j + 1 + 1 + 1 + 1 + 1) ≤ dv G (j + 1 + 1 + 1)
                      · obtain ⟨m8, e8, K8, g8, M8⟩ := wa s5 d5
                        have F8 := mf_trans F7 K8.1
                        have C6 := cur_next C5 (show 2 ≤ so G (j + 1 + 1 + 1 + 1 + 1) by omega)
                        have G6 := cfr_nx (j := j + 1 + 1 + 1 + 1 + 1) G5
                        obtain ⟨ya, yb, yc⟩ := e_take X M8 (lo := 0) (hi := dv G (j + 1 + 1 + 1 + 1 + 1) - 1) (by omega) (by omega)
                        have pm : nI (dv G (j + 1 + 1 + 1 + 1 + 1)) - (1 : Int32) = nI (dv G (j + 1 + 1 + 1 + 1 + 1) - 1) := by rw [show (1 : Int32) = nI 1 from rfl, pk_sub (by omega)]
                        rw [if_pos d5, ob_e, e8, ob_e]
                        dsimp only
                        rw [if_neg (nI_nm (by omega)), if_neg (show ¬ (1 : Int32) = 0 by decide), g8, bd_e, pm, show f_X0_readNumber (0 : Int32) (nI (dv G (j + 1 + 1 + 1 + 1 + 1) - 1)) _ = _ from e_readNumber C6 (lo := 0) (hi := dv G (j + 1 + 1 + 1 + 1 + 1) - 1) (by omega) (by omega)]
                        by_cases s6 : so G (j + 1 + 1 + 1 + 1 + 1 + 1) = 3
                        · rw [if_pos s6]
                          by_cases d6 : 0 ≤ dv G (j + 1 + 1 + 1 + 1 + 1 + 1) ∧ dv G (j + 1 + 1 + 1 + 1 + 1 + 1) ≤ dv G (j + 1 + 1 + 1 + 1 + 1) - 1
                          · obtain ⟨m9, e9, K9, g9, M9⟩ := ya s6 d6
                            have F9 := mf_trans F8 K9.1
                            have C7 := cur_next C6 (show 2 ≤ so G (j + 1 + 1 + 1 + 1 + 1 + 1) by omega)
                            have G7 := cfr_nx (j := j + 1 + 1 + 1 + 1 + 1 + 1) G6
                            have h89c : ∀ q, m9.1 89 q = if q = 8 + h 0 then 0 else if q = 5 + h 0 then nI (dv G (j + 1 + 1 + 1)) else if q = 2 + h 0 then nI (dv G (j + 1 + 1)) else m.1 89 q := by
                              intro q
                              rw [(K9.2.1 89 (by decide)).1, (K8.2.1 89 (by decide)).1]
                              exact h89b q
                            rw [if_pos d6, ob_e, show f_X10_takes (0 : Int32) (nI (dv G (j + 1 + 1 + 1 + 1 + 1) - 1)) m8 = _ from e9, ob_e]
                            dsimp only
                            rw [if_neg (show ¬ (1 : Int32) = 0 by decide), g9]
                            unfold f_X2_readTruth_46
                            have fl9 := fo_le (dv G (j + 1 + 1)) (dv G (j + 1 + 1 + 1 + 1 + 1)) (by omega)
                            rw [if_neg (nI_nm (by omega)), e_X1_firstOf _ (by omega) (by omega), ob_e]
                            dsimp only
                            rw [nI_add, e_X9_put, ob_e, wr1_in (by rw [ln_54]; omega), ob_e]
                            dsimp only
                            rw [if_neg (show ¬ (1 : Int32) = 0 by decide), if_pos (a89 (by omega)), show (1 : Int32) + nI (dv G (j + 1 + 1 + 1 + 1 + 1 + 1)) = nI (1 + dv G (j + 1 + 1 + 1 + 1 + 1 + 1)) from by rw [show (1 : Int32) = nI 1 from rfl, nI_add], show u1 m9 89 (nI (8 + h 0)).toNatClampNeg (nI (1 + dv G (j + 1 + 1 + 1 + 1 + 1 + 1))) = u1 m9 89 (8 + h 0) (nI (1 + dv G (j + 1 + 1 + 1 + 1 + 1 + 1))) from by rw [nI_clamp (by omega)], bd_e, if_pos (a89 (by omega)), show (u1 m9 89 (8 + h 0) (nI (1 + dv G (j + 1 + 1 + 1 + 1 + 1 + 1)))).1 89 (nI (2 + h 0)).toNatClampNeg = nI (dv G (j + 1 + 1)) from by rw [nI_clamp (by omega), u1_at, if_neg (by omega), h89c, if_neg (by omega), if_neg (by omega), if_pos rfl], bd_e]
                            obtain ⟨ma, ea, xa, xb, xc⟩ := m192 (k := h 0) (lo := dv G (j + 1 + 1)) (ph := dv G (j + 1 + 1 + 1 + 1 + 1 + 1)) (p := dv G (j + 1 + 1 + 1 + 1 + 1)) z0 (by omega) (by omega) (dv G (j + 1 + 1 + 1 + 1 + 1) - dv G (j + 1 + 1)) (dv G (j + 1 + 1)) FU (u1 m9 89 (8 + h 0) (nI (1 + dv G (j + 1 + 1 + 1 + 1 + 1 + 1)))) (by omega) (by unfold FU; omega) (Nat.le_refl _) (by rw [u1_at, if_pos ⟨rfl, rfl⟩, fo_z _ (Nat.le_refl _)]; rfl)
                            have a0 : ma.1 89 0 = nI (h 0) := by rw [xb 89 0 (by omega), u1_at, if_neg (by omega), h89c, if_neg (by omega), if_neg (by omega), if_neg (by omega)]; exact r0
                            rw [ea, m216 a0]
                            have Fa : MF m0 (u1 ma 89 0 (nI (h 0 + 1))) := by
                              refine mf_u1 (mf_trans (mf_u1 (i := 8 + h 0) (x := nI (1 + dv G (j + 1 + 1 + 1 + 1 + 1 + 1))) F9 (by decide : 89 ∈ [89, 90, 91])) ?_) (by decide)
                              refine ⟨fun b hb => ⟨?_, by rw [xc]⟩, fun q _ => by rw [xc], fun q _ => xb 86 q (by omega)⟩
                              funext z
                              exact xb b z (fun y => hb (by rw [y.1]; decide))
                            have Ma : MS G (u1 ma 89 0 (nI (h 0 + 1))) (j + 1 + 1 + 1 + 1 + 1 + 1 + 1) := by
                              refine ms_keep M9 ?_ ?_ (fun i hi => ?_)
                              · funext z
                                rw [u1_at, if_neg (by omega), xb 87 z (by omega), u1_at, if_neg (by omega)]
                              · show ma.2 86 = _
                                rw [xc]
                                rfl
                              · rw [u89_86, xb 86 i (by omega), u89_86]
                            have m86 : ∀ q, q ∈ [16, 20, 23] → (u1 ma 89 0 (nI (h 0 + 1))).1 86 q = m5.1 86 q := by
                              intro q hq
                              rw [u89_86, xb 86 q (by omega), u89_86, K9.2.2 q hq, K8.2.2 q hq, S7.2 q (by
                                simp only [List.mem_cons, List.not_mem_nil, or_false] at hq ⊢
                                omega), u89_86, u89_86]
                            have tle : fo (dv G (j + 1 + 1)) (dv G (j + 1 + 1 + 1 + 1 + 1)) + dv G (j + 1 + 1 + 1 + 1 + 1 + 1) + 1 ≤ tn (dv G (j + 1 + 1)) (dv G (j + 1 + 1 + 1)) := by
                              have f1 : fo (dv G (j + 1 + 1)) (dv G (j + 1 + 1 + 1 + 1 + 1) + 1) = fo (dv G (j + 1 + 1)) (dv G (j + 1 + 1 + 1 + 1 + 1)) + dv G (j + 1 + 1 + 1 + 1 + 1) := by
                                show fo _ _ + (if dv G (j + 1 + 1) ≤ dv G (j + 1 + 1 + 1 + 1 + 1) then _ else 0) = _
                                rw [if_pos d5.1]
                              have f2 := fo_mono (dv G (j + 1 + 1)) (p := dv G (j + 1 + 1 + 1 + 1 + 1) + 1) (q := dv G (j + 1 + 1 + 1) + 1) (by omega)
                              unfold tn
                              omega
                            refine ⟨1, _, _, rfl, Or.inr ⟨rfl, rfl, j + 1 + 1 + 1 + 1 + 1 + 1 + 1, hK h (h 0) (dv G (j + 1 + 1)) (dv G (j + 1 + 1 + 1)) (fo (dv G (j + 1 + 1)) (dv G (j + 1 + 1 + 1 + 1 + 1)) + dv G (j + 1 + 1 + 1 + 1 + 1 + 1) + 1), nmK nm (h 0) (va G (j + 1)), wd, ⟨cfr_u1 G7 (by omega) (by omega), Fa, cur_keep C7 ?_ ?_ rfl ?_, Ma, ?_, ?_, vh_K V z0 z1 h169 d2.1 d3.1 d3.2 tle, ?_, cp_K (c := c) V CPc z0 z1 h169 ?_ ?_ (fun i => ?_) (fun i => ?_) (fun i => ?_) (fun i => ?_) (fun a ha hb => ⟨?_, ?_⟩), mp_K (m := m) MPm z0 z1 (fun q => ?_) (fun i => ?_)⟩, by omega, ?_⟩⟩
                            · funext z
                              rw [u1_at, if_neg (by omega)]
                            · funext z
                              rw [u1_at, if_neg (by omega)]
                            · rw [u1_at, if_neg (by omega)]
                            · rw [u1_at, if_neg (by omega), nx_o (by omega), nx_o (by omega), nx_o (by omega), cK_o (by omega), nx_o (by omega), nx_o (by omega), nx_o (by omega), nx_o (by omega)]; exact k2
                            · rw [m86 16 (by decide)]; exact q16
                            · rw [hK_o (by omega) (by omega) (by omega) (by omega)]; exact h169
                            · rw [u1_at, if_neg (by omega), nx_o (by omega), nx_o (by omega), nx_o (by omega)]
                              unfold cK
                              rw [u1_at, if_pos ⟨rfl, rfl⟩]
                            · rw [u1_at, if_neg (by omega), nx_o (by omega), nx_o (by omega), nx_o (by omega)]
                              unfold cK
                              rw [u1_at, if_neg (by omega), u1_at, if_neg (by omega), u1_at, if_neg (by omega), u1_at, if_neg (by omega)]
                              show (nxc (nxc (nxc (nxc c j) (j + 1)) (j + 1 + 1)) (j + 1 + 1 + 1)).1 50 1 = _
                              rw [nx_o (by omega), nx_o (by omega), nx_o (by omega), nx_o (by omega)]
                            · show (u2 (nxc (nxc (nxc (nxc c j) (j + 1)) (j + 1 + 1)) (j + 1 + 1 + 1)) 51 (h 0) (va G (j + 1))).2 51 i = _
                              rw [u2_at]
                              by_cases q : i = h 0
                              · rw [if_pos ⟨rfl, q⟩, if_pos q]
                              · rw [if_neg (fun z => q z.2), if_neg q]
                                rfl
                            · rw [u1_at, if_neg (by omega), nx_o (by omega), nx_o (by omega), nx_o (by omega)]
                              unfold cK
                              rw [u1_at, if_neg (by omega), u1_at, if_neg (by omega), u1_at, if_neg (by omega), u1_at]
                              by_cases q : i = h 0
                              · rw [if_pos ⟨rfl, q⟩, if_pos q]
                              · rw [if_neg (fun z => q z.2), if_neg q]
                                show (nxc (nxc (nxc (nxc c j) (j + 1)) (j + 1 + 1)) (j + 1 + 1 + 1)).1 52 i = _
                                rw [nx_o (by omega), nx_o (by omega), nx_o (by omega), nx_o (by omega)]
                            · rw [u1_at, if_neg (by omega), nx_o (by omega), nx_o (by omega), nx_o (by omega)]
                              unfold cK
                              rw [u1_at, if_neg (by omega), u1_at, if_neg (by omega), u1_at]
                              by_cases q : i = h 0
                              · rw [if_pos ⟨rfl, q⟩, if_pos q]
                              · rw [if_neg (fun z => q z.2), if_neg q, u1_at, if_neg (by omega)]
                                show (nxc (nxc (nxc (nxc c j) (j + 1)) (j + 1 + 1)) (j + 1 + 1 + 1)).1 53 i = _
                                rw [nx_o (by omega), nx_o (by omega), nx_o (by omega), nx_o (by omega)]
                            · rw [u1_at]
                              by_cases q : i = h 0
                              · rw [if_pos ⟨rfl, q⟩, if_pos q, pI_s]
                              · rw [if_neg (fun z => q z.2), if_neg q, nx_o (by omega), nx_o (by omega), nx_o (by omega)]
                                unfold cK
                                rw [u1_at, if_neg (by omega), u1_at, if_neg (fun z => q z.2), u1_at, if_neg (by omega), u1_at, if_neg (by omega)]
                                show (nxc (nxc (nxc (nxc c j) (j + 1)) (j + 1 + 1)) (j + 1 + 1 + 1)).1 54 i = _
                                rw [nx_o (by omega), nx_o (by omega), nx_o (by omega), nx_o (by omega)]
                            · rw [← (ckf a ha hb).1]
                              funext z
                              rw [u1_at, if_neg (by omega), nx_o (by omega), nx_o (by omega), nx_o (by omega)]
                            · exact (ckf a ha hb).2
                            · rw [u1_at]
                              by_cases w0 : q = 0
                              · rw [if_pos ⟨rfl, w0⟩, if_pos w0]
                              · rw [if_neg (fun z => w0 z.2), if_neg w0]
                                by_cases w8 : q = 8 + h 0
                                · rw [if_neg (by omega), if_neg (by omega), if_pos w8, w8, xa]
                                  congr 1
                                  omega
                                · rw [xb 89 q (fun z => w8 z.2), u1_at, if_neg (fun z => w8 z.2), h89c, if_neg w8]
                                  by_cases w2 : q = 2 + h 0
                                  · rw [if_neg (by omega), if_pos w2, if_pos w2]
                                  · rw [if_neg w2, if_neg w2]
                                    by_cases w5 : q = 5 + h 0
                                    · rw [if_pos w5, if_pos w5]
                                    · rw [if_neg w5, if_neg w5, if_neg w8]
                            · show ma.2 92 i = _
                              rw [xc]
                              show m9.2 92 i = _
                              rw [(K9.2.1 92 (by decide)).2, (K8.2.1 92 (by decide)).2, (S7.1 92 (by decide)).2]
                              exact h92 i
                            · rw [m86 20 (by decide)]; exact q20
                          · rw [if_neg d6, ob_e, t46 _ _ _ _ _ rfl, ob_e, show f_X10_takes (0 : Int32) (nI (dv G (j + 1 + 1 + 1 + 1 + 1) - 1)) m8 = _ from yb s6 d6, ob_e]
                            dsimp only
                            rw [if_pos rfl, if_pos rfl]
                            exact lh_bad X G6 F8 2
                        · rw [if_neg s6, ob_e, t46 _ _ _ _ _ rfl, ob_e, show f_X10_takes (0 : Int32) (nI (dv G (j + 1 + 1 + 1 + 1 + 1) - 1)) m8 = _ from yc s6, ob_e]
                          dsimp only
                          rw [if_pos rfl, if_pos rfl]
                          exact lh_bad X G6 F8 1
                      · rw [if_neg d5, ob_e]
                        dsimp only
                        rw [if_pos rfl, t46 _ _ _ _ _ rfl, ob_e, wb s5 d5, ob_e]
                        dsimp only
                        rw [if_pos rfl, if_pos rfl]
                        exact lh_bad X G5 F7 2
                    · rw [if_neg s5, ob_e]
                      dsimp only
                      rw [if_pos rfl, t46 _ _ _ _ _ rfl, ob_e, wc s5, ob_e]
                      dsimp only
                      rw [if_pos rfl, if_pos rfl]
                      exact lh_bad X G5 F7 1
                  · have a0 : (u1 (u1 m5 89 (5 + h 0) (nI (dv G (j + 1 + 1 + 1)))) 89 (8 + h 0) 0).1 89 0 = nI (h 0) := by rw [u1_at, if_neg (by omega), u1_at, if_neg (by omega), h89, if_neg (by omega)]; exact r0
                    rw [if_neg s4, decide_eq_false s4, if_pos (show bI false = 0 from rfl), m216 a0]
                    refine ⟨1, _, _, rfl, Or.inr ⟨rfl, rfl, j + 1 + 1 + 1 + 1, hK h (h 0) (dv G (j + 1 + 1)) (dv G (j + 1 + 1 + 1)) 0, nmK nm (h 0) (va G (j + 1)), wd, ⟨GK, mf_u1 F6 (by decide), CK, ms_89 M6 _, ?_, ?_, vh_K V z0 z1 h169 d2.1 d3.1 d3.2 (Nat.zero_le _), ?_, cp_K (c := c) V CPc z0 z1 h169 ?_ ?_ (fun i => ?_) (fun i => ?_) (fun i => ?_) (fun i => ?_) ckf, mp_K (m := m) MPm z0 z1 (fun q => ?_) (fun i => ?_)⟩, by omega, ?_⟩⟩
                    · rw [cK_o (by omega), nx_o (by omega), nx_o (by omega), nx_o (by omega), nx_o (by omega)]; exact k2
                    · rw [u89_86, u89_86, u89_86]; exact q16
                    · rw [hK_o (by omega) (by omega) (by omega) (by omega)]; exact h169
                    · unfold cK
                      rw [u1_at, if_pos ⟨rfl, rfl⟩]
                    · unfold cK
                      rw [u1_at, if_neg (by omega), u1_at, if_neg (by omega), u1_at, if_neg (by omega), u1_at, if_neg (by omega)]
                      show (nxc (nxc (nxc (nxc c j) (j + 1)) (j + 1 + 1)) (j + 1 + 1 + 1)).1 50 1 = _
                      rw [nx_o (by omega), nx_o (by omega), nx_o (by omega), nx_o (by omega)]
                    · show (u2 (nxc (nxc (nxc (nxc c j) (j + 1)) (j + 1 + 1)) (j + 1 + 1 + 1)) 51 (h 0) (va G (j + 1))).2 51 i = _
                      rw [u2_at]
                      by_cases q : i = h 0
                      · rw [if_pos ⟨rfl, q⟩, if_pos q]
                      · rw [if_neg (fun z => q z.2), if_neg q]
                        rfl
                    · unfold cK
                      rw [u1_at, if_neg (by omega), u1_at, if_neg (by omega), u1_at, if_neg (by omega), u1_at]
                      by_cases q : i = h 0
                      · rw [if_pos ⟨rfl, q⟩, if_pos q]
                      · rw [if_neg (fun z => q z.2), if_neg q]
                        show (nxc (nxc (nxc (nxc c j) (j + 1)) (j + 1 + 1)) (j + 1 + 1 + 1)).1 52 i = _
                        rw [nx_o (by omega), nx_o (by omega), nx_o (by omega), nx_o (by omega)]
                    · unfold cK
                      rw [u1_at, if_neg (by omega), u1_at, if_neg (by omega), u1_at]
                      by_cases q : i = h 0
                      · rw [if_pos ⟨rfl, q⟩, if_pos q]
                      · rw [if_neg (fun z => q z.2), if_neg q, u1_at, if_neg (by omega)]
                        show (nxc (nxc (nxc (nxc c j) (j + 1)) (j + 1 + 1)) (j + 1 + 1 + 1)).1 53 i = _
                        rw [nx_o (by omega), nx_o (by omega), nx_o (by omega), nx_o (by omega)]
                    · unfold cK
                      rw [u1_at, if_neg (by omega), u1_at]
                      by_cases q : i = h 0
                      · rw [if_pos ⟨rfl, q⟩, if_pos q, pI_0]
                        rfl
                      · rw [if_neg (fun z => q z.2), if_neg q, u1_at, if_neg (by omega), u1_at, if_neg (by omega)]
                        show (nxc (nxc (nxc (nxc c j) (j + 1)) (j + 1 + 1)) (j + 1 + 1 + 1)).1 54 i = _
                        rw [nx_o (by omega), nx_o (by omega), nx_o (by omega), nx_o (by omega)]
                    · rw [u1_at]
                      by_cases w0 : q = 0
                      · rw [if_pos ⟨rfl, w0⟩, if_pos w0]
                      · rw [if_neg (fun z => w0 z.2), if_neg w0, u1_at]
                        by_cases w8 : q = 8 + h 0
                        · rw [if_pos ⟨rfl, w8⟩, if_neg (by omega), if_neg (by omega), if_pos w8]
                          rfl
                        · rw [if_neg (fun z => w8 z.2), u1_at]
                          by_cases w5 : q = 5 + h 0
                          · rw [if_pos ⟨rfl, w5⟩, if_neg (by omega), if_pos w5]
                          · rw [if_neg (fun z => w5 z.2), h89]
                            by_cases w2 : q = 2 + h 0
                            · rw [if_pos w2, if_pos w2]
                            · rw [if_neg w2, if_neg w2, if_neg w5, if_neg w8]
                    · exact h92 i
                    · rw [u89_86, u89_86, u89_86]; exact q20
                · rw [if_neg d3, ob_e, k123 _ _ _ _ rfl, show f_X10_takes (nI (dv G (j + 1 + 1))) (8 : Int32) _ = _ from ub s3 d3, ob_e]
                  dsimp only
                  rw [if_pos rfl]
                  exact lh_bad X G3 F3' 2
              · rw [if_neg s3, ob_e, k123 _ _ _ _ rfl, show f_X10_takes (nI (dv G (j + 1 + 1))) (8 : Int32) _ = _ from uc s3, ob_e]
                dsimp only
                rw [if_pos rfl]
                exact lh_bad X G3 F3' 1
            · rw [if_neg d2, ob_e, show f_X10_takes (1 : Int32) (8 : Int32) m2 = _ from tb s2 d2, ob_e]
              dsimp only
              rw [if_pos rfl, if_pos rfl, k123 _ _ _ _ rfl]
              exact lh_bad X G2 F2 2
          · rw [if_neg s2, ob_e, show f_X10_takes (1 : Int32) (8 : Int32) m2 = _ from tc s2, ob_e]
            dsimp only
            rw [if_pos rfl, if_pos rfl, k123 _ _ _ _ rfl]
            exact lh_bad X G2 F2 1
        · rw [if_neg nf, ob_e, if_pos rfl, fb s1 nf, ob_e, if_pos rfl]
          exact lh_bad X G1 F1 3
      · rw [if_neg s1, ob_e, if_pos rfl, fc s1, ob_e, if_pos rfl]
        exact lh_bad X G1 F1 1
    · rw [if_neg (show ¬ nI (h 0) < (3 : Int32) from fun z => z0 ((nI_ltI (b := 3) (by omega) (by omega)).mp z)), if_pos (show nI (h 0) = (3 : Int32) from (nI_eq (b := 3) (by omega) (by omega)).mpr (by omega)), show f_X0_refuse (4 : Int32) c = _ from e_refuse C 4, ob_e, show f_X10_bad (4 : Int32) m = _ from e_bad M 4, ob_e]
      rw [or01]
      exact lh_bad X Fc Fm 4
  · rw [if_pos (show (0 : Int32) < nI (h 1) from (nI_ltI (a := 0) (by omega) (by omega)).mpr (by omega)), if_pos (show (0 : Int32) < nI (h 1) from (nI_ltI (a := 0) (by omega) (by omega)).mpr (by omega)), show f_X0_refuse (3 : Int32) c = _ from e_refuse C 3, ob_e, show f_X10_bad (3 : Int32) m = _ from e_bad M 3, ob_e]
    rw [or01]
    exact lh_bad X Fc Fm 3
