-- PURE ROWS: a house's text: a person's line
def hPn (h : Nat → Nat) (a w : Nat) : Nat → Nat := fun q => if q = 1 then a + 1 else if q = 11 + a then w else h q
theorem hPn_o {h : Nat → Nat} {a w q : Nat} (h1 : q ≠ 1) (h2 : q ≠ 11 + a) : hPn h a w q = h q := by
  unfold hPn
  rw [if_neg h1, if_neg h2]
theorem hPn_1 {h : Nat → Nat} {a w : Nat} : hPn h a w 1 = a + 1 := if_pos rfl
theorem hPn_w {h : Nat → Nat} {a w : Nat} : hPn h a w (11 + a) = w := by
  unfold hPn
  rw [if_neg (by omega), if_pos rfl]
theorem vh_P {h : Nat → Nat} {w : Nat} (V : VH h) (a4 : h 1 < 4) (h169 : h 169 = 0) (L : ∀ a, a < 4 → h (15 + a) < 2 ^ 30) (w1 : 1 ≤ w) (w2 : w < 2 ^ (2 + 2 * h 0)) : VH (hPn h (h 1) w) := by
  obtain ⟨b0, b1, b2, b3, b4, b5, b6, b7, b8⟩ := V
  have s : ∀ q, q ≠ 1 → q ≠ 11 + h 1 → hPn h (h 1) w q = h q := fun q q1 q2 => hPn_o q1 q2
  refine ⟨by rw [s 0 (by omega) (by omega)]; exact b0, by rw [hPn_1]; omega, fun k hk => ?_, fun k hk => ?_, fun k hk => ?_, fun u hu => ?_, fun k hk => ?_, by rw [s 169 (by omega) (by omega)]; exact b7, fun k hk => ?_⟩
  · rw [s 0 (by omega) (by omega)] at hk
    rw [s (2 + k) (by omega) (by omega), s (5 + k) (by omega) (by omega), s (8 + k) (by omega) (by omega)]
    exact b2 k hk
  · rw [hPn_1] at hk
    rw [s 0 (by omega) (by omega)]
    by_cases c : k = h 1
    · rw [c, hPn_w]; exact ⟨w1, w2⟩
    · rw [s (11 + k) (by omega) (by omega)]; exact b3 k (by omega)
  · rw [hPn_1] at hk
    rw [s (15 + k) (by omega) (by omega)]
    exact L k (by omega)
  · rw [s (19 + u) (by omega) (by omega), hPn_1]
    have := b5 u hu
    omega
  · rw [s (49 + k) (by omega) (by omega)]
    exact b6 k hk
  · rw [s 169 (by omega) (by omega), h169] at hk
    exact absurd hk (Nat.not_lt_zero k)
def pC (c : DD) (a : Nat) (v : Int64) (w : Nat) : DD := u1 (u1 (u2 c 55 a v) 56 a (nI w)) 50 1 (nI (a + 1))
def pM (m : DD) (a w : Nat) : DD := u1 (u1 m 89 (11 + a) (nI w)) 89 1 (nI (a + 1))
theorem cp_P {h nm wd} {c : DD} {w : Nat} {v : Int64} (V : VH h) (C : CP h nm wd c) (a4 : h 1 < 4) (h169 : h 169 = 0) : CP (hPn h (h 1) w) (nmK nm (3 + h 1) v) wd (pC c (h 1) v w) := by
  have v0 := V.1
  have s : ∀ q, q ≠ 1 → q ≠ 11 + h 1 → hPn h (h 1) w q = h q := fun q q1 q2 => hPn_o q1 q2
  obtain ⟨H, L, W⟩ := C
  have k : ∀ b i, b ≠ 50 → b ≠ 56 → (pC c (h 1) v w).1 b i = c.1 b i := fun b i h1 h2 => by
    unfold pC
    rw [u1_at, if_neg (fun z => h1 z.1), u1_at, if_neg (fun z => h2 z.1)]
    rfl
  refine ⟨?_, fun b hb => ?_, fun b hb => ?_⟩
  · unfold HC at H ⊢
    simp only [rf_50_2, rf_50_3, rf_50_4, rf_50_5, rf_50_6, rf_50_7, rf_50_8, rf_50_9, rf_50_10, rf_50_11, rf_60_1, rf_60_2, rf_60_3] at H ⊢
    obtain ⟨a0, a1, a2, a3, a4', a5, a6, a7, a8, a9, a10, a11, a12⟩ := H
    rw [s 0 (by omega) (by omega), hPn_1, s 169 (by omega) (by omega), h169]
    refine ⟨?_, ?_, fun i hi => ?_, fun i hi => ?_, fun i hi => ?_, fun i hi => ?_, fun i hi => ?_, fun i hi => ?_, fun i hi => ?_, fun i hi => ?_, fun i hi => ?_, by rw [k _ _ (by decide) (by decide), a11, h169], fun i hi => absurd hi (Nat.not_lt_zero i)⟩
    · unfold pC
      rw [u1_at, if_neg (by omega), u1_at, if_neg (by omega)]
      exact a0
    · unfold pC
      rw [u1_at, if_pos ⟨rfl, rfl⟩]
    · unfold nmK
      rw [if_neg (by omega)]
      show (u2 c 55 (h 1) v).2 51 i = _
      rw [u2_at, if_neg (by omega)]
      exact a2 i hi
    · rw [k _ _ (by decide) (by decide), s (2 + i) (by omega) (by omega)]; exact a3 i hi
    · rw [k _ _ (by decide) (by decide), s (5 + i) (by omega) (by omega)]; exact a4' i hi
    · rw [k _ _ (by decide) (by decide), s (8 + i) (by omega) (by omega)]; exact a5 i hi
    · show (u2 c 55 (h 1) v).2 55 i = _
      rw [u2_at]
      unfold nmK
      by_cases c1 : i = h 1
      · rw [if_pos ⟨rfl, c1⟩, if_pos (by omega)]
      · rw [if_neg (fun z => c1 z.2), if_neg (by omega)]
        exact a6 i (by omega)
    · by_cases c1 : i = h 1
      · rw [c1, hPn_w]
        unfold pC
        rw [u1_at, if_neg (by omega), u1_at, if_pos ⟨rfl, rfl⟩]
      · rw [s (11 + i) (by omega) (by omega)]
        unfold pC
        rw [u1_at, if_neg (by omega), u1_at, if_neg (fun z => c1 z.2)]
        exact a7 i (by omega)
    · rw [k _ _ (by decide) (by decide), s (15 + i) (by omega) (by omega)]; exact (L i (by omega)).1
    · rw [k _ _ (by decide) (by decide), s (49 + i) (by omega) (by omega)]; exact a9 i hi
    · rw [k _ _ (by decide) (by decide), s (19 + i) (by omega) (by omega)]; exact a10 i hi
  · rw [k _ _ (by decide) (by decide), s (15 + b) (by omega) (by omega)]; exact L b hb
  · obtain ⟨b1, b2, b3⟩ := W b hb
    exact ⟨by rw [k _ _ (by decide) (by decide)]; exact b1, b2, fun u hu => by rw [s (49 + (30 * b + u)) (by omega) (by omega)]; exact b3 u hu⟩
theorem mp_P {h nm} {m : DD} {w : Nat} {v : Int64} (V : VH h) (P : MP h nm m) (e : m.2 92 (10 + h 1) = v) : MP (hPn h (h 1) w) (nmK nm (3 + h 1) v) (pM m (h 1) w) := by
  have v0 := V.1
  obtain ⟨a, b, c⟩ := P
  refine ⟨fun q hq => ?_, fun k hk => ?_, fun k hk => ?_⟩
  · unfold pM hPn
    rw [u1_at]
    by_cases c1 : q = 1
    · rw [if_pos ⟨rfl, c1⟩, if_pos c1]
    · rw [if_neg (fun z => c1 z.2), if_neg c1, u1_at]
      by_cases c2 : q = 11 + h 1
      · rw [if_pos ⟨rfl, c2⟩, if_pos c2]
      · rw [if_neg (fun z => c2 z.2), if_neg c2]
        exact a q hq
  · rw [hPn_o (by omega) (by omega)] at hk
    unfold nmK
    rw [if_neg (by omega)]
    exact b k hk
  · rw [hPn_1] at hk
    unfold nmK
    by_cases c1 : k = h 1
    · rw [if_pos (by omega), c1]; exact e
    · rw [if_neg (by omega)]; exact c k (by omega)
theorem e_109 {G : TX} {T j s w : Nat} {c : DD} (C : CUR G T j c) (hs : s < 256) (hw : w < 8) : f_X2_readWay_109 (nI s) (nI w) c = if s.testBit w = true then some ((-1 : Int32), RF c 3 (pl G j)) else some (nI w, nxc c j) := by
  unfold f_X2_readWay_109
  by_cases t : s.testBit w = true
  · rw [if_pos (show iushr (nI s) (nI w) &&& (1 : Int32) = 1 from (q_uhas (by omega) (by omega)).mpr t), if_pos t, show f_X0_refuse (3 : Int32) c = _ from e_refuse C 3, ob_e]
  · rw [if_neg (show ¬ iushr (nI s) (nI w) &&& (1 : Int32) = 1 from fun z => t ((q_uhas (by omega) (by omega)).mp z)), if_neg t, e_ix C, bd_e]
theorem m_175 {G : TX} {j s w : Nat} {m : DD} (X : VX G) (M : MS G m j) (hs : s < 256) (hw : w < 8) (k37 : Int32 → Int32 → DD → Option (Int32 × DD)) (v1 : Int32) : (s.testBit w = true → f_X10_readPerson_175 k37 v1 (nI s) (nI w) m = some ((0 : Int32), RB m 3 (pl G j))) ∧ (¬ s.testBit w = true → 2 ≤ so G j → ∃ m', f_X10_readPerson_175 k37 v1 (nI s) (nI w) m = k37 v1 (nI (s ||| 2 ^ w)) m' ∧ SK m m' ∧ MS G m' (j + 1)) := by
  unfold f_X10_readPerson_175
  rw [e_X10_has (by omega) (by omega), ob_e]
  dsimp only
  refine ⟨fun t => ?_, fun t s2 => ?_⟩
  · rw [t, if_neg (show ¬ bI true = 0 by decide), show f_X10_bad (3 : Int32) m = _ from e_bad M 3, ob_e]
    exact or01
  · obtain ⟨m', e, S, M'⟩ := ms_next X M s2
    rw [Bool.not_eq_true] at t
    refine ⟨m', ?_, S, M'⟩
    rw [t, if_pos (show bI false = 0 from rfl), bd_e, e, ob_e, show (1 : Int32) <<< (nI w &&& 31) = nI (2 ^ w) from q_shl (by omega), nx_or]
def wyS (h : Nat → Nat) (s : Nat) : Nat := if s = 0 then 2 ^ (2 + 2 * h 0) - 1 else s
theorem wyS_b {h : Nat → Nat} {s : Nat} (hs : s < 2 ^ (2 + 2 * h 0)) : 1 ≤ wyS h s ∧ wyS h s < 2 ^ (2 + 2 * h 0) := by
  have p : 2 ^ 1 ≤ 2 ^ (2 + 2 * h 0) := Nat.pow_le_pow_right (by decide) (by omega)
  unfold wyS
  split <;> omega
theorem all_w {h : Nat → Nat} (h0 : h 0 ≤ 3) : ((1 : Int32) <<< (((2 : Int32) + ((2 : Int32) * nI (h 0))) &&& 31)) - (1 : Int32) = nI (2 ^ (2 + 2 * h 0) - 1) := by
  have p : 1 ≤ 2 ^ (2 + 2 * h 0) := Nat.one_le_two_pow
  rw [show (2 : Int32) = nI 2 from rfl, pk_mul, nI_add, show (1 : Int32) <<< (nI (2 + 2 * h 0) &&& 31) = nI (2 ^ (2 + 2 * h 0)) from q_shl (by omega), show (1 : Int32) = nI 1 from rfl, pk_sub p]
theorem c123 {h nm} {c : DD} {s : Nat} {v : Int64} (V : VH h) (H : HC 50 c h nm) (a4 : h 1 < 4) (hs : s < 256) : f_X2_readPersonLine_123 v (nI s) c = some ((1 : Int32), pC c (h 1) v (wyS h s)) := by
  have v0 := V.1
  have r0 : (u2 c 55 (h 1) v).1 50 0 = nI (h 0) := (hc_k H : c.1 50 0 = nI (h 0))
  have r1 : ∀ w : Int32, (u1 (u2 c 55 (h 1) v) 56 (h 1) w).1 50 1 = nI (h 1) := fun w => by rw [u1_at, if_neg (by omega)]; exact (hc_p H : c.1 50 1 = nI (h 1))
  unfold f_X2_readPersonLine_123 wyS
  rw [hc_p H, bd_e, e_X9_putLong, ob_e, wr2_in (by rw [ln_55]; exact a4)]
  dsimp only
  by_cases z : s = 0
  · rw [if_pos (show nI s = 0 by rw [z]; rfl), r0, all_w v0, e_X9_put, ob_e, wr1_in (by rw [ln_56]; exact a4), if_pos z]
    dsimp only
    rw [r1, nI_1, bd_e]
    rfl
  · rw [if_neg (show ¬ nI s = 0 from fun y => z ((nI_eq (b := 0) (by omega) (by omega)).mp y)), e_X9_put, ob_e, wr1_in (by rw [ln_56]; exact a4), if_neg z]
    dsimp only
    rw [r1, nI_1, bd_e]
    rfl
theorem mfin {G : TX} {j s f : Nat} {h nm} {m : DD} (V : VH h) (M : MS G m j) (P : MP h nm m) (a4 : h 1 < 4) (hs : s < 256) (n8 : so G j ≠ 8) (n9 : so G j ≠ 9) (n10 : so G j ≠ 10) (n11 : so G j ≠ 11) : f_X10_readPerson_37 (f + 1) (nI (h 1)) (nI s) m = some ((1 : Int32), pM m (h 1) (wyS h s)) := by
  have v0 := V.1
  have x0 : ixb (0 : Int32) (ln 89) := a89 (i := 0) (by omega)
  have x1 : ixb (1 : Int32) (ln 89) := a89 (i := 1) (by omega)
  have xa : ixb ((11 : Int32) + nI (h 1)) (ln 89) := by
    rw [show (11 : Int32) + nI (h 1) = nI (11 + h 1) from by rw [show (11 : Int32) = nI 11 from rfl, nI_add]]
    exact a89 (by omega)
  have r0 : m.1 89 (0 : Int32).toNatClampNeg = nI (h 0) := P.1 0 (by omega)
  have cl : ((11 : Int32) + nI (h 1)).toNatClampNeg = 11 + h 1 := by rw [show (11 : Int32) = nI 11 from rfl, nI_add, nI_clamp (by omega)]
  have r1 : ∀ w : Int32, (u1 m 89 (11 + h 1) w).1 89 (1 : Int32).toNatClampNeg = nI (h 1) := fun w => by
    show (u1 m 89 (11 + h 1) w).1 89 1 = _
    rw [u1_at, if_neg (by omega)]
    exact P.1 1 (by omega)
  show f_X10_readPerson_37B (f_X10_readPerson_37 f) _ _ _ = _
  unfold f_X10_readPerson_37B wyS
  rw [e_isWord M (s := 8) (by omega) (fun v => srt_8), ob_e]
  dsimp only
  rw [decide_eq_false n8, if_pos (show bI false = 0 from rfl), e_isWord M (s := 9) (by omega) (fun v => srt_9), ob_e]
  dsimp only
  rw [decide_eq_false n9, if_pos (show bI false = 0 from rfl), e_isWord M (s := 10) (by omega) (fun v => srt_10), ob_e]
  dsimp only
  rw [decide_eq_false n10, if_pos (show bI false = 0 from rfl), e_isWord M (s := 11) (by omega) (fun v => srt_11), ob_e]
  dsimp only
  rw [decide_eq_false n11, if_pos (show bI false = 0 from rfl), if_pos x0, if_pos xa, r0, all_w v0]
  by_cases z : s = 0
  · rw [if_pos (show nI s = 0 by rw [z]; rfl), if_pos z, cl, bd_e, if_pos x1, if_pos x1, r1, nI_1, bd_e]
    rfl
  · rw [if_neg (show ¬ nI s = 0 from fun y => z ((nI_eq (b := 0) (by omega) (by omega)).mp y)), if_neg z, if_pos xa, cl, bd_e, if_pos x1, if_pos x1, r1, nI_1, bd_e]
    rfl
theorem wl_l {G : TX} {T : Nat} {h nm wd} {c0 m0 : DD} {v : Int64} {j0 : Nat} {x20 : Int32} (X : VX G) (W : RW m0) (V : VH h) (h169 : h 169 = 0) (a4 : h 1 < 4) : ∀ (n i j s f f' : Nat) (c m : DD), 9 ≤ i + n → n < f → n < f' → i ≤ cnt (2 + 2 * h 0) (fun x => s.testBit x) → s < 2 ^ (2 + 2 * h 0) → j0 ≤ j → CFR c0 c → MF m0 m → CUR G T j c → MS G m j → c.1 44 2 = nI 0 → m.1 86 16 = nI 0 → m.1 86 20 = x20 → CP h nm wd c → MP h nm m → m.2 92 (10 + h 1) = v → LH (f_X2_readPersonLine_77 f v (nI s) (nI i) c) (f_X10_readPerson_37 f' (nI (h 1)) (nI s) m) c0 m0 (fun c' m' => ∃ j' h' nm' wd', HOI G T c0 m0 j' h' nm' wd' c' m' ∧ j0 ≤ j' ∧ m'.1 86 20 = x20) := by
  have v0 := V.1
  have p8 : 2 ^ (2 + 2 * h 0) ≤ 2 ^ 8 := Nat.pow_le_pow_right (by decide) (by omega)
  intro n
  induction n with
  | zero =>
    intro i j s f f' c m hi hf hf' hc
    have := cnt_le (2 + 2 * h 0) (fun x => s.testBit x)
    omega
  | succ n ih =>
    intro i j s f f' c m hi hf hf' hc hs hj Fc Fm C M k2 k16 k20 K P ev
    obtain ⟨f, rfl⟩ : ∃ f1, f = f1 + 1 := ⟨f - 1, by omega⟩
    obtain ⟨f', rfl⟩ : ∃ f1, f' = f1 + 1 := ⟨f' - 1, by omega⟩
    have cl := cnt_le (2 + 2 * h 0) (fun x => s.testBit x)
    have hs8 : s < 256 := by omega
    -- a way whose last token stands here
    have tk : ∀ (w j1 : Nat) (c1 m1 : DD), w < 2 + 2 * h 0 → j ≤ j1 → 2 ≤ so G j1 → CFR c0 c1 → MF m0 m1 → CUR G T j1 c1 → MS G m1 j1 → c1.1 44 2 = nI 0 → m1.1 86 16 = nI 0 → m1.1 86 20 = x20 → CP h nm wd c1 → MP h nm m1 → m1.2 92 (10 + h 1) = v → LH ((f_X2_readWay_109 (nI s) (nI w) c1).bind fun q12 => if q12.1 = (-1 : Int32) then some ((0 : Int32), q12.2) else bd (nI s ||| ((1 : Int32) <<< (q12.1 &&& 31))) fun x13 => f_X2_readPersonLine_77 f v x13 (nI i + (1 : Int32)) q12.2) (f_X10_readPerson_175 (f_X10_readPerson_37 f') (nI (h 1)) (nI s) (nI w) m1) c0 m0 (fun c' m' => ∃ j' h' nm' wd', HOI G T c0 m0 j' h' nm' wd' c' m' ∧ j0 ≤ j' ∧ m'.1 86 20 = x20) := by
      intro w j1 c1 m1 hw hj1 s2 Fc1 Fm1 C1 M1 b2 b16 b20 K1 P1 ev1
      obtain ⟨ma, mb⟩ := m_175 X M1 hs8 (show w < 8 by omega) (f_X10_readPerson_37 f') (nI (h 1))
      rw [e_109 C1 hs8 (by omega)]
      by_cases t : s.testBit w = true
      · rw [if_pos t, ob_e, if_pos rfl, ma t]
        exact lh_bad X Fc1 Fm1 3
      · obtain ⟨m2, e2, S2, M2⟩ := mb t s2
        have C2 := cur_next C1 s2
        have tf : s.testBit w = false := by rw [Bool.not_eq_true] at t; exact t
        have hs' : s ||| 2 ^ w < 2 ^ (2 + 2 * h 0) := Nat.or_lt_two_pow hs (Nat.pow_lt_pow_right (by decide) hw)
        have tb' : ∀ x, (s ||| 2 ^ w).testBit x = (s.testBit x || decide (w = x)) := fun x => by rw [Nat.testBit_or, Nat.testBit_two_pow]
        have ci : i + 1 ≤ cnt (2 + 2 * h 0) (fun x => (s ||| 2 ^ w).testBit x) := by
          have := cnt_strict (n := 2 + 2 * h 0) (P := fun x => s.testBit x) (Q := fun x => (s ||| 2 ^ w).testBit x) (j := w) (fun i _ z => by rw [tb', z]; rfl) hw tf (by rw [tb', decide_eq_true rfl, Bool.or_true])
          omega
        rw [if_neg t, ob_e, if_neg (nI_nm (by omega)), bd_e, show (1 : Int32) <<< (nI w &&& 31) = nI (2 ^ w) from q_shl (by omega), nx_or, nI_1, e2]
        exact ih (i + 1) (j1 + 1) (s ||| 2 ^ w) f f' (nxc c1 j1) m2 (by omega) (by omega) (by omega) ci hs' (by omega) (cfr_nx Fc1) (mf_trans Fm1 (mf_sk S2)) C2 M2 (by rw [nx_o (by omega)]; exact b2) (by rw [S2.2 16 (by decide)]; exact b16) (by rw [S2.2 20 (by decide)]; exact b20) (cp_nx K1) (mp_kp P1 (kp_sk S2)) (by rw [(S2.1 92 (by decide)).2]; exact ev1)
    -- a way of a kind
    have tk2 : ∀ e : Nat, e < 2 → 2 ≤ so G j → LH ((f_X2_readWay_32 (nI s) (nI (10 + e)) c).bind fun q12 => if q12.1 = (-1 : Int32) then some ((0 : Int32), q12.2) else bd (nI s ||| ((1 : Int32) <<< (q12.1 &&& 31))) fun x13 => f_X2_readPersonLine_77 f v x13 (nI i + (1 : Int32)) q12.2) (f_X10_readPerson_120 (f_X10_readPerson_37 f') (nI (h 1)) (nI s) (nI (2 + e)) m) c0 m0 (fun c' m' => ∃ j' h' nm' wd', HOI G T c0 m0 j' h' nm' wd' c' m' ∧ j0 ≤ j' ∧ m'.1 86 20 = x20) := by
      intro e he s2
      obtain ⟨m1, e1, S1, M1⟩ := ms_next X M s2
      have C1 := cur_next C s2
      have G1 := cfr_nx (j := j) Fc
      have F1 := mf_trans Fm (mf_sk S1)
      have P1 := mp_kp P (kp_sk S1)
      have K1 := cp_nx (j := j) K
      have x0 : ixb (0 : Int32) (ln 89) := a89 (i := 0) (by omega)
      have r0 : m1.1 89 (0 : Int32).toNatClampNeg = nI (h 0) := P1.1 0 (by omega)
      have f0 : ff (fun k => m1.2 92 (7 + k)) (va G (j + 1)) (h 0) 0 = ff nm (va G (j + 1)) (h 0) 0 := ff_congr (fun i _ hi => P1.2.1 i (by omega))
      unfold f_X2_readWay_32 f_X10_readPerson_120
      rw [e_ix C, bd_e, e_peekKind hb_50 V C1 K1.1, if_pos (show (1 : Int32) < nI (2 + e) from (nI_ltI (a := 1) (by omega) (by omega)).mpr (by omega)), e1, ob_e]
      dsimp only
      rw [e_isName M1 (rw_mf W F1), ob_e]
      dsimp only
      by_cases s4 : so G (j + 1) = 4
      · rw [if_pos s4, decide_eq_true s4, if_neg (show ¬ bI true = 0 by decide), if_pos x0, r0, show f_X10_find (7 : Int32) (nI (h 0)) m1 = _ from e_find M1 (by omega) (fr := 7) (by omega), ob_e, f0]
        cases q : ff nm (va G (j + 1)) (h 0) 0 with
        | none =>
          dsimp only
          rw [ob_e, if_pos rfl, ob_e, if_pos rfl, if_pos (show fI none < (0 : Int32) by decide), show f_X10_bad (3 : Int32) m1 = _ from e_bad M1 3, ob_e]
          rw [or01]
          exact lh_bad X G1 F1 3
        | some k =>
          have fl := ff_lt q
          dsimp only
          rw [ob_e, if_neg (nI_nm (by omega)), if_neg (show ¬ fI (some k) < (0 : Int32) from nI_pos (by omega)), bd_e, show nI (2 + e) + ((2 : Int32) * fI (some k)) = nI (2 + e + 2 * k) from by rw [show fI (some k) = nI k from rfl, show (2 : Int32) = nI 2 from rfl, pk_mul, nI_add]]
          have he2 : (if nI (10 + e) = (11 : Int32) then f_X2_readWay_83 (nI s) (1 : Int32) ((2 : Int32) + ((2 : Int32) * nI k)) (nxc c j) else f_X2_readWay_83 (nI s) (0 : Int32) ((2 : Int32) + ((2 : Int32) * nI k)) (nxc c j)) = f_X2_readWay_109 (nI s) (nI (2 + e + 2 * k)) (nxc c j) := by
            have h2 : (2 : Int32) + ((2 : Int32) * nI k) = nI (2 + 2 * k) := by rw [show (2 : Int32) = nI 2 from rfl, pk_mul, nI_add]
            have ee : e = 0 ∨ e = 1 := by omega
            rw [h2]
            unfold f_X2_readWay_83
            rcases ee with rfl | rfl
            · rw [if_neg (by decide), bd_e, show (0 : Int32) = nI 0 from rfl, nI_add, show 2 + 2 * k + 0 = 2 + 0 + 2 * k by omega]
            · rw [if_pos (by decide), bd_e, nI_1, show 2 + 2 * k + 1 = 2 + 1 + 2 * k by omega]
          rw [he2]
          exact tk (2 + e + 2 * k) (j + 1) (nxc c j) m1 (by omega) (by omega) (by omega) G1 F1 C1 M1 (by rw [nx_o (by omega)]; exact k2) (by rw [S1.2 16 (by decide)]; exact k16) (by rw [S1.2 20 (by decide)]; exact k20) K1 P1 (by rw [(S1.1 92 (by decide)).2]; exact ev)
      · rw [if_neg s4, ob_e, if_pos rfl, ob_e, if_pos rfl, decide_eq_false s4, if_pos (show bI false = 0 from rfl), show f_X10_bad (1 : Int32) m1 = _ from e_bad M1 1, ob_e]
        rw [or01]
        exact lh_bad X G1 F1 1
    have w8 : f_X10_isWord (1953658213 : Int64) m = some (bI (decide (so G j = 8)), m) := e_isWord M (s := 8) (by omega) (fun v => srt_8)
    have w9 : f_X10_isWord (1818326117 : Int64) m = some (bI (decide (so G j = 9)), m) := e_isWord M (s := 9) (by omega) (fun v => srt_9)
    have w10 : f_X10_isWord (448444786035 : Int64) m = some (bI (decide (so G j = 10)), m) := e_isWord M (s := 10) (by omega) (fun v => srt_10)
    have w11 : f_X10_isWord (1633969267 : Int64) m = some (bI (decide (so G j = 11)), m) := e_isWord M (s := 11) (by omega) (fun v => srt_11)
    by_cases n8 : so G j = 8
    · have mo : f_X10_readPerson_37 (f' + 1) (nI (h 1)) (nI s) m = f_X10_readPerson_175 (f_X10_readPerson_37 f') (nI (h 1)) (nI s) (nI 0) m := by
        show f_X10_readPerson_37B (f_X10_readPerson_37 f') _ _ _ = _
        unfold f_X10_readPerson_37B f_X10_readPerson_77 f_X10_readPerson_120
        rw [w8, ob_e]
        dsimp only
        rw [decide_eq_true n8, if_neg (show ¬ bI true = 0 by decide), w8, ob_e]
        dsimp only
        rw [decide_eq_true n8, if_neg (show ¬ bI true = 0 by decide), if_neg (by decide)]
        rfl
      have co : f_X2_readPersonLine_77 (f + 1) v (nI s) (nI i) c = (f_X2_readWay_109 (nI s) (nI 0) c).bind fun q12 => if q12.1 = (-1 : Int32) then some ((0 : Int32), q12.2) else bd (nI s ||| ((1 : Int32) <<< (q12.1 &&& 31))) fun x13 => f_X2_readPersonLine_77 f v x13 (nI i + (1 : Int32)) q12.2 := by
        show f_X2_readPersonLine_77B (f_X2_readPersonLine_77 f) _ _ _ _ = _
        unfold f_X2_readPersonLine_77B f_X2_readWay f_X2_readWay_19
        rw [if_neg (show ¬ (8 : Int32) < nI i from fun z => by have := (nI_ltI (a := 8) (by omega) (by omega)).mp z; omega), e_sort C, ob_e]
        dsimp only
        rw [n8, if_neg (by decide), e_sort C, ob_e]
        dsimp only
        rw [n8, if_neg (by decide), if_neg (by decide), if_neg (by decide), if_pos (by decide)]
        rfl
      rw [mo, co]
      exact tk 0 j c m (by omega) (Nat.le_refl _) (by omega) Fc Fm C M k2 k16 k20 K P ev
    · by_cases n9 : so G j = 9
      · have mo : f_X10_readPerson_37 (f' + 1) (nI (h 1)) (nI s) m = f_X10_readPerson_175 (f_X10_readPerson_37 f') (nI (h 1)) (nI s) (nI 1) m := by
          show f_X10_readPerson_37B (f_X10_readPerson_37 f') _ _ _ = _
          unfold f_X10_readPerson_37B f_X10_readPerson_77 f_X10_readPerson_120
          rw [w8, ob_e]
          dsimp only
          rw [decide_eq_false n8, if_pos (show bI false = 0 from rfl), w9, ob_e]
          dsimp only
          rw [decide_eq_true n9, if_neg (show ¬ bI true = 0 by decide), w8, ob_e]
          dsimp only
          rw [decide_eq_false n8, if_pos (show bI false = 0 from rfl), w9, ob_e]
          dsimp only
          rw [decide_eq_true n9, if_neg (show ¬ bI true = 0 by decide), if_neg (by decide)]
          rfl
        have co : f_X2_readPersonLine_77 (f + 1) v (nI s) (nI i) c = (f_X2_readWay_109 (nI s) (nI 1) c).bind fun q12 => if q12.1 = (-1 : Int32) then some ((0 : Int32), q12.2) else bd (nI s ||| ((1 : Int32) <<< (q12.1 &&& 31))) fun x13 => f_X2_readPersonLine_77 f v x13 (nI i + (1 : Int32)) q12.2 := by
          show f_X2_readPersonLine_77B (f_X2_readPersonLine_77 f) _ _ _ _ = _
          unfold f_X2_readPersonLine_77B f_X2_readWay f_X2_readWay_19
          rw [if_neg (show ¬ (8 : Int32) < nI i from fun z => by have := (nI_ltI (a := 8) (by omega) (by omega)).mp z; omega), e_sort C, ob_e]
          dsimp only
          rw [n9, if_neg (by decide), e_sort C, ob_e]
          dsimp only
          rw [n9, if_pos (by decide), if_neg (by decide), if_neg (by decide), if_neg (by decide), if_pos (by decide)]
          rfl
        rw [mo, co]
        exact tk 1 j c m (by omega) (Nat.le_refl _) (by omega) Fc Fm C M k2 k16 k20 K P ev
      · by_cases n10 : so G j = 10
        · have mo : f_X10_readPerson_37 (f' + 1) (nI (h 1)) (nI s) m = f_X10_readPerson_120 (f_X10_readPerson_37 f') (nI (h 1)) (nI s) (nI (2 + 0)) m := by
            show f_X10_readPerson_37B (f_X10_readPerson_37 f') _ _ _ = _
            unfold f_X10_readPerson_37B f_X10_readPerson_77
            rw [w8, ob_e]
            dsimp only
            rw [decide_eq_false n8, if_pos (show bI false = 0 from rfl), w9, ob_e]
            dsimp only
            rw [decide_eq_false n9, if_pos (show bI false = 0 from rfl), w10, ob_e]
            dsimp only
            rw [decide_eq_true n10, if_neg (show ¬ bI true = 0 by decide), w8, ob_e]
            dsimp only
            rw [decide_eq_false n8, if_pos (show bI false = 0 from rfl), w9, ob_e]
            dsimp only
            rw [decide_eq_false n9, if_pos (show bI false = 0 from rfl), w10, ob_e]
            dsimp only
            rw [decide_eq_true n10, if_neg (show ¬ bI true = 0 by decide)]
            rfl
          have co : f_X2_readPersonLine_77 (f + 1) v (nI s) (nI i) c = (f_X2_readWay_32 (nI s) (nI (10 + 0)) c).bind fun q12 => if q12.1 = (-1 : Int32) then some ((0 : Int32), q12.2) else bd (nI s ||| ((1 : Int32) <<< (q12.1 &&& 31))) fun x13 => f_X2_readPersonLine_77 f v x13 (nI i + (1 : Int32)) q12.2 := by
            show f_X2_readPersonLine_77B (f_X2_readPersonLine_77 f) _ _ _ _ = _
            unfold f_X2_readPersonLine_77B f_X2_readWay f_X2_readWay_19
            rw [if_neg (show ¬ (8 : Int32) < nI i from fun z => by have := (nI_ltI (a := 8) (by omega) (by omega)).mp z; omega), e_sort C, ob_e]
            dsimp only
            rw [n10, if_neg (by decide), e_sort C, ob_e]
            dsimp only
            rw [n10, if_neg (by decide), if_pos (by decide)]
          rw [mo, co]
          exact tk2 0 (by omega) (by omega)
        · by_cases n11 : so G j = 11
          · have mo : f_X10_readPerson_37 (f' + 1) (nI (h 1)) (nI s) m = f_X10_readPerson_120 (f_X10_readPerson_37 f') (nI (h 1)) (nI s) (nI (2 + 1)) m := by
              show f_X10_readPerson_37B (f_X10_readPerson_37 f') _ _ _ = _
              unfold f_X10_readPerson_37B f_X10_readPerson_77
              rw [w8, ob_e]
              dsimp only
              rw [decide_eq_false n8, if_pos (show bI false = 0 from rfl), w9, ob_e]
              dsimp only
              rw [decide_eq_false n9, if_pos (show bI false = 0 from rfl), w10, ob_e]
              dsimp only
              rw [decide_eq_false n10, if_pos (show bI false = 0 from rfl), w11, ob_e]
              dsimp only
              rw [decide_eq_true n11, if_neg (show ¬ bI true = 0 by decide), w8, ob_e]
              dsimp only
              rw [decide_eq_false n8, if_pos (show bI false = 0 from rfl), w9, ob_e]
              dsimp only
              rw [decide_eq_false n9, if_pos (show bI false = 0 from rfl), w10, ob_e]
              dsimp only
              rw [decide_eq_false n10, if_pos (show bI false = 0 from rfl)]
              rfl
            have co : f_X2_readPersonLine_77 (f + 1) v (nI s) (nI i) c = (f_X2_readWay_32 (nI s) (nI (10 + 1)) c).bind fun q12 => if q12.1 = (-1 : Int32) then some ((0 : Int32), q12.2) else bd (nI s ||| ((1 : Int32) <<< (q12.1 &&& 31))) fun x13 => f_X2_readPersonLine_77 f v x13 (nI i + (1 : Int32)) q12.2 := by
              show f_X2_readPersonLine_77B (f_X2_readPersonLine_77 f) _ _ _ _ = _
              unfold f_X2_readPersonLine_77B f_X2_readWay f_X2_readWay_19
              rw [if_neg (show ¬ (8 : Int32) < nI i from fun z => by have := (nI_ltI (a := 8) (by omega) (by omega)).mp z; omega), e_sort C, ob_e]
              dsimp only
              rw [n11, if_neg (by decide), e_sort C, ob_e]
              dsimp only
              rw [n11, if_neg (by decide), if_neg (by decide), if_pos (by decide)]
            rw [mo, co]
            exact tk2 1 (by omega) (by omega)
          · obtain ⟨wb1, wb2⟩ := wyS_b (h := h) hs
            have mo := mfin (f := f') V M P a4 hs8 n8 n9 n10 n11
            have Mf : MS G (pM m (h 1) (wyS h s)) j := ms_89 (ms_89 M _) _
            have Ff : MF m0 (pM m (h 1) (wyS h s)) := mf_u1 (mf_u1 Fm (by decide)) (by decide)
            rw [mo]
            by_cases n2 : so G j = 2
            · have co : f_X2_readPersonLine_77 (f + 1) v (nI s) (nI i) c = some ((1 : Int32), pC c (h 1) v (wyS h s)) := by
                show f_X2_readPersonLine_77B (f_X2_readPersonLine_77 f) _ _ _ _ = _
                unfold f_X2_readPersonLine_77B
                rw [if_neg (show ¬ (8 : Int32) < nI i from fun z => by have := (nI_ltI (a := 8) (by omega) (by omega)).mp z; omega), e_sort C, ob_e]
                dsimp only
                rw [n2, if_pos (by decide)]
                exact c123 V K.1 a4 hs8
              rw [co]
              refine ⟨1, _, _, rfl, Or.inr ⟨rfl, rfl, j, hPn h (h 1) (wyS h s), nmK nm (3 + h 1) v, wd, ⟨cfr_u1 (cfr_u1 (cfr_u2 Fc (by omega) (by omega)) (by omega) (by omega)) (by omega) (by omega), Ff, cur_keep C ?_ ?_ ?_ ?_, Mf, ?_, ?_, vh_P V a4 h169 (fun a ha => (K.2.1 a ha).2) wb1 wb2, ?_, cp_P V K a4 h169, mp_P V P ev⟩, hj, ?_⟩⟩
              · unfold pC
                funext z
                rw [u1_at, if_neg (by omega), u1_at, if_neg (by omega)]
                rfl
              · unfold pC
                funext z
                rw [u1_at, if_neg (by omega), u1_at, if_neg (by omega)]
                rfl
              · show (u2 c 55 (h 1) v).2 48 = _
                funext z
                rw [u2_at, if_neg (by omega)]
              · unfold pC
                rw [u1_at, if_neg (by omega), u1_at, if_neg (by omega)]
                rfl
              · unfold pC
                rw [u1_at, if_neg (by omega), u1_at, if_neg (by omega)]
                exact k2
              · unfold pM
                rw [u89_86, u89_86]
                exact k16
              · rw [hPn_o (by omega) (by omega)]; exact h169
              · unfold pM
                rw [u89_86, u89_86]
                exact k20
            · have co : f_X2_readPersonLine_77 (f + 1) v (nI s) (nI i) c = some ((0 : Int32), RF c 1 (pl G j)) := by
                have sl := qS_le G (pQ G j)
                have ns : ∀ q, q < 1000 → so G j ≠ q → ¬ nI (so G j) = nI q := fun q hq ne z => ne ((so_eq hq).mp z)
                show f_X2_readPersonLine_77B (f_X2_readPersonLine_77 f) _ _ _ _ = _
                unfold f_X2_readPersonLine_77B f_X2_readWay f_X2_readWay_19
                rw [if_neg (show ¬ (8 : Int32) < nI i from fun z => by have := (nI_ltI (a := 8) (by omega) (by omega)).mp z; omega), e_sort C, ob_e]
                dsimp only
                rw [if_neg (show ¬ nI (so G j) = 2 from ns 2 (by omega) n2), e_sort C, ob_e]
                dsimp only
                rw [if_neg (show ¬ nI (so G j) = 9 from ns 9 (by omega) n9), if_neg (show ¬ nI (so G j) = 10 from ns 10 (by omega) n10), if_neg (show ¬ nI (so G j) = 11 from ns 11 (by omega) n11), if_neg (show ¬ nI (so G j) = 8 from ns 8 (by omega) n8), if_neg (show ¬ nI (so G j) = 9 from ns 9 (by omega) n9), show f_X0_refuse (1 : Int32) c = _ from e_refuse C 1, ob_e, ob_e, if_pos rfl]
              rw [co]
              exact ⟨0, _, _, rfl, Or.inl ⟨rfl, Or.inr ⟨_, rfl, (e_sign X Mf).2 n2⟩, flt X Fc Ff 1⟩⟩
theorem l_person {G : TX} {T j : Nat} {h nm wd} {c0 m0 c m : DD} (X : VX G) (W : RW m0) (I : HOI G T c0 m0 j h nm wd c m) (s : so G j = 7) : LH (f_X2_readPersonLine c) (f_X10_readPerson m) c0 m0 (HQL G T c0 m0 j m) := by
  obtain ⟨Fc, Fm, C, M, k2, k16, V, h169, CPc, MPm⟩ := I
  have v0 := V.1
  have v1 := V.2.1
  have x1 : ixb (1 : Int32) (ln 89) := a89 (i := 1) (by omega)
  have c51 := hc_p CPc.1
  have r1 : m.1 89 (1 : Int32).toNatClampNeg = nI (h 1) := MPm.1 1 (by omega)
  unfold f_X2_readPersonLine f_X10_readPerson
  rw [c51, e_ix C, bd_e, if_pos x1, r1, bd_e]
  by_cases z0 : h 1 < 4
  · obtain ⟨m1, e1, S1, M1⟩ := ms_next X M (by omega)
    have C1 := cur_next C (show 2 ≤ so G j by omega)
    have G1 := cfr_nx (j := j) Fc
    have F1 := mf_trans Fm (mf_sk S1)
    have P1 := mp_kp MPm (kp_sk S1)
    have K1 := cp_nx (j := j) CPc
    obtain ⟨fa, fb, fc⟩ := e_fresh (to := 10 + h 1) X V M1 P1 (rw_mf W F1) (by omega) (by omega)
    rw [if_pos (show nI (h 1) < (4 : Int32) from (nI_ltI (b := 4) (by omega) (by omega)).mpr z0), if_neg (show ¬ nI (h 1) = (4 : Int32) from fun z => by have := (nI_eq (b := 4) (by omega) (by omega)).mp z; omega), e1, ob_e, show (10 : Int32) + nI (h 1) = nI (10 + h 1) from by rw [show (10 : Int32) = nI 10 from rfl, nI_add], e_peekNew V C1 K1.1]
    dsimp only
    by_cases s1 : so G (j + 1) = 4
    · rw [if_pos s1]
      by_cases nf : ff nm (va G (j + 1)) (h 0) 0 = none ∧ ff (fun a => nm (3 + a)) (va G (j + 1)) (h 1) 0 = none
      · obtain ⟨m2, e2, S2, M2⟩ := fa s1 nf
        have C2 := cur_next C1 (show 2 ≤ so G (j + 1) by omega)
        have G2 := cfr_nx (j := j + 1) G1
        have F2 : MF m0 m2 := mf_trans (mf_u2 F1 (by omega)) (mf_sk S2)
        have h92 : ∀ i, m2.2 92 i = if i = 10 + h 1 then va G (j + 1) else m1.2 92 i := by
          intro i
          rw [(S2.1 92 (by decide)).2, u2_at]
          by_cases q : i = 10 + h 1
          · rw [if_pos ⟨rfl, q⟩, if_pos q]
          · rw [if_neg (fun z => q z.2), if_neg q]
        have P2 : MP h nm m2 := by
          refine ⟨fun q hq => ?_, fun k hk => ?_, fun k hk => ?_⟩
          · rw [(S2.1 89 (by decide)).1]
            exact P1.1 q hq
          · rw [h92, if_neg (by omega)]; exact P1.2.1 k hk
          · rw [h92, if_neg (by omega)]; exact P1.2.2 k hk
        rw [if_pos nf, ob_e, e2, ob_e]
        dsimp only
        rw [if_neg (show ¬ (1 : Int32) = 0 by decide), if_neg (show ¬ (1 : Int32) = 0 by decide), e_value C1, ob_e]
        dsimp only
        rw [e_ix C1, bd_e]
        refine wl_l (j0 := j + 1) (x20 := m.1 86 20) X W V h169 z0 9 0 (j + 1 + 1) 0 FU FU _ _ (by omega) (by unfold FU; omega) (by unfold FU; omega) (Nat.zero_le _) (Nat.two_pow_pos _) (by omega) G2 F2 C2 M2 ?_ ?_ ?_ (cp_nx K1) P2 (by rw [h92, if_pos rfl])
        · rw [nx_o (by omega), nx_o (by omega)]; exact k2
        · rw [S2.2 16 (by decide)]
          show m1.1 86 16 = _
          rw [S1.2 16 (by decide)]; exact k16
        · rw [S2.2 20 (by decide)]
          show m1.1 86 20 = _
          rw [S1.2 20 (by decide)]
      · rw [if_neg nf, ob_e, if_pos rfl, fb s1 nf, ob_e, if_pos rfl]
        exact lh_bad X G1 F1 3
    · rw [if_neg s1, ob_e, if_pos rfl, fc s1, ob_e, if_pos rfl]
      exact lh_bad X G1 F1 1
  · rw [if_neg (show ¬ nI (h 1) < (4 : Int32) from fun z => z0 ((nI_ltI (b := 4) (by omega) (by omega)).mp z)), if_pos (show nI (h 1) = (4 : Int32) from (nI_eq (b := 4) (by omega) (by omega)).mpr (by omega)), show f_X0_refuse (4 : Int32) c = _ from e_refuse C 4, ob_e, show f_X10_bad (4 : Int32) m = _ from e_bad M 4, ob_e]
    rw [or01]
    exact lh_bad X Fc Fm 4
