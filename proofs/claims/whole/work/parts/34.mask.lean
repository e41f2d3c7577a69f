-- PURE ROWS: sets of places as numbers and as longs
def mkN : Nat → (Nat → Bool) → Nat
  | 0, _ => 0
  | n + 1, P => mkN n P + (if P n then 2 ^ n else 0)
theorem mkN_lt : ∀ (n : Nat) (P : Nat → Bool), mkN n P < 2 ^ n
  | 0, _ => Nat.one_pos
  | n + 1, P => by
    unfold mkN
    have := mkN_lt n P
    rw [Nat.pow_succ]
    split <;> omega
theorem mkN_tb : ∀ (n : Nat) (P : Nat → Bool) (i : Nat), (mkN n P).testBit i = (decide (i < n) && P i)
  | 0, _, i => by simp [mkN]
  | n + 1, P, i => by
    unfold mkN
    have h := mkN_lt n P
    have ih := mkN_tb n P i
    by_cases hp : P n = true
    · rw [if_pos hp, Nat.add_comm]
      rcases Nat.lt_trichotomy i n with z | z | z
      · rw [Nat.testBit_two_pow_add_gt z, ih, decide_eq_true z, decide_eq_true (by omega)]
      · subst z
        rw [Nat.testBit_two_pow_add_eq, ih, decide_eq_false (by omega), decide_eq_true (by omega), hp]
        rfl
      · rw [decide_eq_false (by omega), Bool.false_and]
        apply Nat.testBit_lt_two_pow
        have := Nat.pow_lt_pow_right (a := 2) (by omega) z
        have h2 : 2 ^ (n + 1) ≤ 2 ^ i := Nat.pow_le_pow_right (by decide) z
        rw [Nat.pow_succ] at h2
        omega
    · rw [if_neg hp, Nat.add_zero, ih]
      rcases Nat.lt_trichotomy i n with z | z | z
      · rw [decide_eq_true z, decide_eq_true (by omega)]
      · subst z
        rw [decide_eq_false (by omega), decide_eq_true (by omega)]
        simp [hp]
      · rw [decide_eq_false (by omega), decide_eq_false (by omega)]
theorem mkN_congr : ∀ {n : Nat} {P Q : Nat → Bool}, (∀ i, i < n → P i = Q i) → mkN n P = mkN n Q
  | 0, _, _, _ => rfl
  | n + 1, P, Q, h => by
    unfold mkN
    rw [mkN_congr (n := n) (fun i hi => h i (by omega)), h n (by omega)]
def mkL (P : Nat → Bool) : Int64 := lN (mkN 64 P)
theorem bl_mk {P : Nat → Bool} {i : Nat} (h : i < 64) : bl (mkL P) i = P i := by
  unfold mkL
  rw [bl_lN h, mkN_tb, decide_eq_true h, Bool.true_and]
theorem mk_congr {P Q : Nat → Bool} (h : ∀ i, i < 64 → P i = Q i) : mkL P = mkL Q := by
  unfold mkL
  rw [mkN_congr h]
theorem mk_of (x : Int64) : x = mkL (bl x) := bl_ext (fun i hi => (bl_mk hi).symm)
theorem mk_ext {x : Int64} {P : Nat → Bool} (h : ∀ i, i < 64 → bl x i = P i) : x = mkL P := bl_ext (fun i hi => (h i hi).trans (bl_mk hi).symm)
theorem mk_and (P Q : Nat → Bool) : mkL P &&& mkL Q = mkL (fun i => P i && Q i) := mk_ext (fun i hi => by rw [bl_and, bl_mk hi, bl_mk hi])
theorem mk_or (P Q : Nat → Bool) : mkL P ||| mkL Q = mkL (fun i => P i || Q i) := mk_ext (fun i hi => by rw [bl_or, bl_mk hi, bl_mk hi])
theorem mk_not (P : Nat → Bool) : mkL P ^^^ mL = mkL (fun i => !(P i)) := mk_ext (fun i hi => by rw [bl_not hi, bl_mk hi])
theorem mk_0 : lN 0 = mkL (fun _ => false) := mk_ext (fun i _ => bl_0 i)
theorem mk_m1 : mL = mkL (fun _ => true) := mk_ext (fun i hi => bl_m1 i hi)
theorem mk_bit {t : Nat} (h : t < 64) : lN 1 <<< ((nI t).toInt64 &&& lN 63) = mkL (fun i => decide (i = t)) := mk_ext (fun i hi => by
  rw [bl_shl h _ hi]
  rcases Nat.lt_trichotomy i t with z | z | z
  · rw [decide_eq_false (by omega), Bool.false_and]
    symm
    simp
    omega
  · subst z
    rw [decide_eq_true (by omega), Nat.sub_self, bl_lN (by omega)]
    simp
  · rw [decide_eq_true (by omega), bl_lN (by omega), Bool.true_and]
    have e : i - t = (i - t - 1) + 1 := by omega
    rw [e, Nat.testBit_succ]
    simp
    omega)
theorem mk_full {n : Nat} (h : n < 63) : lN 1 <<< ((nI n).toInt64 &&& lN 63) - lN 1 = mkL (fun i => decide (i < n)) := by
  rw [lx_1sh n h, lN_sub (Nat.one_le_two_pow)]
  exact mk_ext (fun i hi => by rw [bl_lN hi, Nat.testBit_two_pow_sub_one])
theorem mk_eq {P Q : Nat → Bool} : mkL P = mkL Q ↔ ∀ i, i < 64 → P i = Q i := by
  constructor
  · intro h i hi
    rw [← bl_mk (P := P) hi, h, bl_mk hi]
  · exact mk_congr
theorem mk_eq0 {P : Nat → Bool} : mkL P = lN 0 ↔ ∀ i, i < 64 → P i = false := by
  rw [mk_0, mk_eq]
theorem some_mk {P Q : Nat → Bool} {d : DD} (h : ∀ i, i < 64 → P i = Q i) : some (mkL P, d) = some (mkL Q, d) := by
  rw [mk_congr h]
theorem mk_cnt (P : Nat → Bool) : cnt 64 (bl (mkL P)) = cnt 64 P := cnt_congr (fun i hi => bl_mk hi)
theorem cnt_pos : ∀ {n : Nat} {P : Nat → Bool} {i : Nat}, i < n → P i = true → 0 < cnt n P
  | 0, _, _, h, _ => absurd h (Nat.not_lt_zero _)
  | n + 1, P, i, h, hp => by
    unfold cnt
    rcases Nat.lt_or_ge i n with z | z
    · have := cnt_pos z hp
      omega
    · have : i = n := by omega
      subst this
      rw [if_pos hp]
      omega
theorem cnt_0 : ∀ {n : Nat} {P : Nat → Bool}, (∀ i, i < n → P i = false) → cnt n P = 0
  | 0, _, _ => rfl
  | n + 1, P, h => by
    unfold cnt
    rw [cnt_0 (n := n) (fun i hi => h i (by omega)), h n (by omega)]
    rfl
theorem cnt_0_iff {n : Nat} {P : Nat → Bool} : cnt n P = 0 ↔ ∀ i, i < n → P i = false := by
  constructor
  · intro h i hi
    by_cases hp : P i = true
    · have := cnt_pos hi hp
      omega
    · simpa using hp
  · exact cnt_0
theorem cnt_ext {P : Nat → Bool} {m n : Nat} (hm : m ≤ n) (h : ∀ i, m ≤ i → P i = false) : cnt n P = cnt m P := by
  obtain ⟨k, rfl⟩ := Nat.exists_eq_add_of_le hm
  rw [cnt_add, cnt_0 (n := k) (fun i _ => h (m + i) (by omega)), Nat.add_zero]
theorem bt_nI {n i : Nat} (hi : i < 32) : bt (nI n) i = n.testBit i := by
  show (BitVec.ofNat 32 n).getLsbD i = _
  rw [BitVec.getLsbD_ofNat]
  simp [hi]
theorem e_J6n (n : Nat) (d : DD) : f_J6_bitCount_0f7a4 (nI n) d = some (nI (cnt 32 (fun i => n.testBit i)), d) := by
  rw [e_J6, cnt_congr (fun i hi => bt_nI hi)]
theorem e_J13m (P : Nat → Bool) (d : DD) : f_J13_bitCount_95d88 (mkL P) d = some (nI (cnt 64 P), d) := by
  rw [e_J13, mk_cnt]
theorem e_X10_bitsm (P : Nat → Bool) (d : DD) : f_X10_bits (mkL P) d = some (nI (cnt 64 P), d) := by
  rw [e_X10_bits, mk_cnt]
-- sets of few places as numbers: one more
theorem or_bit_tb (s k i : Nat) : (s ||| 2 ^ k).testBit i = (s.testBit i || decide (k = i)) := by
  rw [Nat.testBit_or, Nat.testBit_two_pow]
theorem mkN_tb' {n : Nat} {s : Nat} (h : s < 2 ^ n) : s = mkN n (fun i => s.testBit i) := by
  apply Nat.eq_of_testBit_eq
  intro i
  rw [mkN_tb]
  rcases Nat.lt_or_ge i n with z | z
  · rw [decide_eq_true z, Bool.true_and]
  · rw [decide_eq_false (by omega), Bool.false_and]
    exact Nat.testBit_lt_two_pow (Nat.lt_of_lt_of_le h (Nat.pow_le_pow_right (by decide) z))
theorem mkN_set {n : Nat} {P : Nat → Bool} {k : Nat} (h : k < n) : mkN n P ||| 2 ^ k = mkN n (fun i => P i || decide (k = i)) := by
  apply Nat.eq_of_testBit_eq
  intro i
  rw [or_bit_tb, mkN_tb, mkN_tb]
  rcases Nat.lt_or_ge i n with z | z
  · simp [z]
  · simp [Nat.not_lt.mpr z]
    omega
theorem mkN_0 (n : Nat) : 0 = mkN n (fun _ => false) := by
  induction n with
  | zero => rfl
  | succ n ih => unfold mkN; rw [← ih]; rfl
-- timetables: fo lo p is the number of the first one of period p, of a kind from lo on
def fo (lo : Nat) : Nat → Nat
  | 0 => 0
  | p + 1 => fo lo p + (if lo ≤ p then p else 0)
def tn (lo hi : Nat) : Nat := fo lo (hi + 1)
def pa (lo t hour : Nat) : Bool := (List.range 9).any (fun p => decide (lo ≤ p) && decide (t = fo lo p + hour % p))
theorem fo_le (lo p : Nat) (hp : p ≤ 9) : fo lo p ≤ 36 := by
  have h : ∀ lo', lo' ≤ 9 → ∀ p, p ≤ 9 → fo lo' p ≤ 36 := by decide +kernel
  rcases Nat.lt_or_ge 9 lo with z | z
  · have : ∀ q, q ≤ 9 → fo lo q = 0 := by
      intro q
      induction q with
      | zero => intro _; rfl
      | succ q ih => intro hq; unfold fo; rw [ih (by omega), if_neg (by omega)]
    rw [this p hp]
    omega
  · exact h lo z p hp
theorem tn_le {lo hi : Nat} (h : hi ≤ 8) : tn lo hi ≤ 36 := fo_le lo (hi + 1) (by omega)
