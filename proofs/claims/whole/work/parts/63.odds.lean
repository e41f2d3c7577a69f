-- PURE ROWS: Euclid; odds, bet
def eu : Nat → Nat → Nat → Nat
  | 0, x, _ => x
  | m + 1, x, y => if y = 0 then x else eu m y (x % y)
theorem eu_gcd : ∀ (k m x y : Nat), 2 * k ≤ m → y < 2 ^ k → eu m x y = Nat.gcd y x
  | 0, m, x, y, hm, hy => by
    have : y = 0 := by
      rw [Nat.pow_zero] at hy
      omega
    subst this
    rw [Nat.gcd_zero_left]
    cases m with
    | zero => rfl
    | succ m =>
      unfold eu
      rw [if_pos rfl]
  | k + 1, m, x, y, hm, hy => by
    obtain ⟨m', rfl⟩ : ∃ m', m = m' + 2 := ⟨m - 2, by omega⟩
    show (if y = 0 then x else eu (m' + 1) y (x % y)) = _
    by_cases c : y = 0
    · rw [if_pos c, c, Nat.gcd_zero_left]
    · rw [if_neg c, Nat.gcd_rec y x]
      show (if x % y = 0 then y else eu m' (x % y) (y % (x % y))) = _
      have r1 : x % y < y := Nat.mod_lt _ (by omega)
      by_cases c2 : x % y = 0
      · rw [if_pos c2, c2, Nat.gcd_zero_left]
      · rw [if_neg c2, Nat.gcd_rec (x % y) y]
        have r2 : y % (x % y) < x % y := Nat.mod_lt _ (by omega)
        have r3 : 2 * (y % (x % y)) < y := by
          have dm := Nat.div_add_mod y (x % y)
          have q1 : 1 ≤ y / (x % y) := Nat.div_pos (by omega) (by omega)
          have q2 : x % y ≤ x % y * (y / (x % y)) := Nat.le_mul_of_pos_right _ q1
          omega
        rw [Nat.pow_succ] at hy
        exact eu_gcd k m' (x % y) (y % (x % y)) (by omega) (by omega)
theorem cd_l (d : DD) : ∀ (m i f x y : Nat), i + m = 100 → m < f → x < 2 ^ 62 → y < 2 ^ 62 → f_X9_commonDivisor_9 f (lN x) (lN y) (nI i) d = some (lN (eu m x y), d) := by
  intro m
  induction m with
  | zero =>
    intro i f x y hi hf hx hy
    cases f with
    | zero => omega
    | succ f =>
      show f_X9_commonDivisor_9B (f_X9_commonDivisor_9 f) _ _ _ _ = _
      unfold f_X9_commonDivisor_9B
      rw [if_neg (by rw [nI_lit, nI_ltI (by omega) (by omega)]; omega)]
      rfl
  | succ m ih =>
    intro i f x y hi hf hx hy
    cases f with
    | zero => omega
    | succ f =>
      show f_X9_commonDivisor_9B (f_X9_commonDivisor_9 f) _ _ _ _ = _
      unfold f_X9_commonDivisor_9B
      rw [if_pos (by rw [nI_lit, nI_ltI (by omega) (by omega)]; omega)]
      show _ = some (lN (if y = 0 then x else eu m y (x % y)), d)
      by_cases c : y = 0
      · subst c
        rw [if_neg (show ¬ (0 : Int64) < lN 0 by decide), if_pos rfl]
      · have hz : ¬ lN y = 0 := fun z => c ((pk_lEQ (by omega) (by omega)).mp (show lN y = lN 0 from z))
        have hp : (0 : Int64) < lN y := (pk_lLT (a := 0) (by omega) (by omega)).mpr (by omega)
        have rl : x % y < y := Nat.mod_lt _ (by omega)
        rw [if_pos hp, if_neg hz, if_neg c, bd_e, pk_lRem (by omega) (by omega) (by omega), nI_1]
        exact ih (i + 1) f y (x % y) (by omega) (by omega) (by omega) (by omega)
theorem cm_l (d : DD) : ∀ (k f x y : Nat), 2 * k < f → y < 2 ^ k → x < 2 ^ 62 → y < 2 ^ 62 → f_X10_common_6 f (lN x) (lN y) d = some (lN (Nat.gcd y x), d)
  | 0, f, x, y, hf, hyk, hx, hy => by
    have : y = 0 := by
      rw [Nat.pow_zero] at hyk
      omega
    subst this
    cases f with
    | zero => omega
    | succ f =>
      show f_X10_common_6B (f_X10_common_6 f) _ _ _ = _
      unfold f_X10_common_6B
      rw [if_pos (show lN 0 = (0 : Int64) from rfl), Nat.gcd_zero_left]
  | k + 1, f, x, y, hf, hyk, hx, hy => by
    obtain ⟨f', rfl⟩ : ∃ f', f = f' + 2 := ⟨f - 2, by omega⟩
    show f_X10_common_6B (f_X10_common_6 (f' + 1)) _ _ _ = _
    unfold f_X10_common_6B
    by_cases c : y = 0
    · subst c
      rw [if_pos (show lN 0 = (0 : Int64) from rfl), Nat.gcd_zero_left]
    · have hz : ¬ lN y = 0 := fun z => c ((pk_lEQ (by omega) (by omega)).mp (show lN y = lN 0 from z))
      have rl : x % y < y := Nat.mod_lt _ (by omega)
      rw [if_neg hz, if_neg hz, bd_e, pk_lRem (by omega) (by omega) (by omega), Nat.gcd_rec y x]
      show f_X10_common_6B (f_X10_common_6 f') _ _ _ = _
      unfold f_X10_common_6B
      by_cases c2 : x % y = 0
      · rw [c2, if_pos (show lN 0 = (0 : Int64) from rfl), Nat.gcd_zero_left]
      · have hz2 : ¬ lN (x % y) = 0 := fun z => c2 ((pk_lEQ (by omega) (by omega)).mp (show lN (x % y) = lN 0 from z))
        have r2 : y % (x % y) < x % y := Nat.mod_lt _ (by omega)
        have r3 : 2 * (y % (x % y)) < y := by
          have dm := Nat.div_add_mod y (x % y)
          have q1 : 1 ≤ y / (x % y) := Nat.div_pos (by omega) (by omega)
          have q2 : x % y ≤ x % y * (y / (x % y)) := Nat.le_mul_of_pos_right _ q1
          omega
        rw [if_neg hz2, if_neg hz2, bd_e, pk_lRem (by omega) (by omega) (by omega), Nat.gcd_rec (x % y) y]
        rw [Nat.pow_succ] at hyk
        exact cm_l d k f' (x % y) (y % (x % y)) (by omega) (by omega) (by omega) (by omega)
def rdc (x y : Nat) (w : Int32) : Nat := if w = 0 then x / Nat.gcd x y else y / Nat.gcd x y
theorem e_reduced {x y : Nat} (hx : x < 2 ^ 40) (hy : y < 2 ^ 40) (h0 : 0 < y) (w : Int32) (d : DD) : f_X9_reduced (lN x) (lN y) w d = some (lN (rdc x y w), d) := by
  have e := cd_l d 100 0 FU y x (by omega) (by unfold FU; omega) (by omega) (by omega)
  rw [eu_gcd 40 100 y x (by omega) hx] at e
  have gp : 0 < Nat.gcd x y := Nat.gcd_pos_of_pos_right _ h0
  have gl : Nat.gcd x y ≤ y := Nat.gcd_le_right _ h0
  unfold f_X9_reduced f_X9_commonDivisor
  rw [show f_X9_commonDivisor_9 FU (lN y) (lN x) 0 d = _ from e, ob_e]
  dsimp only
  rw [if_pos (show (0 : Int64) < lN (Nat.gcd x y) from (pk_lLT (a := 0) (by omega) (by omega)).mpr gp)]
  have gz : ¬ lN (Nat.gcd x y) = 0 := fun z => by
    have := (pk_lEQ (by omega) (by omega)).mp (show lN (Nat.gcd x y) = lN 0 from z)
    omega
  unfold f_X9_reduced_26 rdc
  rw [if_neg gz, if_neg gz, pk_lDiv (by omega) gp (by omega), pk_lDiv (by omega) gp (by omega)]
  by_cases c : w = 0
  · rw [if_pos c, if_pos c]
  · rw [if_neg c, if_neg c]
theorem e_part {x y : Nat} (hx : x < 2 ^ 40) (hy : y < 2 ^ 40) (h0 : 0 < y) (w : Int32) (d : DD) : f_X10_part (lN x) (lN y) w d = some (lN (rdc x y w), d) := by
  have e := cm_l d 40 FU y x (by unfold FU; omega) hx (by omega) (by omega)
  have gp : 0 < Nat.gcd x y := Nat.gcd_pos_of_pos_right _ h0
  have gl : Nat.gcd x y ≤ y := Nat.gcd_le_right _ h0
  have gz : ¬ lN (Nat.gcd x y) = 0 := fun z => by
    have := (pk_lEQ (by omega) (by omega)).mp (show lN (Nat.gcd x y) = lN 0 from z)
    omega
  unfold f_X10_part f_X10_part_10 f_X10_common
  rw [e, ob_e, ob_e]
  dsimp only
  unfold rdc
  rw [if_neg gz, if_neg gz, pk_lDiv (by omega) gp (by omega), pk_lDiv (by omega) gp (by omega)]
  by_cases c : w = 0
  · rw [if_pos c, if_pos c]
  · rw [if_neg c, if_neg c]
