-- PURE ROWS: bits of longs; the three bit counts
def bl (x : Int64) (i : Nat) : Bool := x.toBitVec.getLsbD i
theorem bl_ext {x y : Int64} (h : ∀ i, i < 64 → bl x i = bl y i) : x = y := Int64.toBitVec_inj.mp (BitVec.eq_of_getLsbD_eq (fun i hi => h i hi))
theorem bl_or (x y : Int64) (i : Nat) : bl (x ||| y) i = (bl x i || bl y i) := by unfold bl; rw [Int64.toBitVec_or, BitVec.getLsbD_or]
theorem bl_and (x y : Int64) (i : Nat) : bl (x &&& y) i = (bl x i && bl y i) := by unfold bl; rw [Int64.toBitVec_and, BitVec.getLsbD_and]
theorem bl_xor (x y : Int64) (i : Nat) : bl (x ^^^ y) i = (bl x i ^^ bl y i) := by unfold bl; rw [Int64.toBitVec_xor, BitVec.getLsbD_xor]
theorem bl_big {x : Int64} {i : Nat} (h : 64 ≤ i) : bl x i = false := BitVec.getLsbD_of_ge _ _ h
theorem bl_m1 : ∀ i, i < 64 → bl mL i = true := by decide +kernel
theorem bl_lN {n i : Nat} (hi : i < 64) : bl (lN n) i = n.testBit i := by
  show (BitVec.ofNat 64 n).getLsbD i = _
  rw [BitVec.getLsbD_ofNat]
  simp [hi]
theorem bl_not {x : Int64} {i : Nat} (hi : i < 64) : bl (x ^^^ mL) i = !(bl x i) := by
  rw [bl_xor, bl_m1 i hi]
  cases bl x i <;> rfl
theorem bl_0 (i : Nat) : bl (lN 0) i = false := BitVec.getLsbD_zero
theorem lx_and (a b : Nat) : lN a &&& lN b = lN (a &&& b) := by
  apply Int64.toBitVec_inj.1
  show BitVec.ofNat 64 a &&& BitVec.ofNat 64 b = BitVec.ofNat 64 (a &&& b)
  apply BitVec.eq_of_getLsbD_eq
  intro i hi
  simp [hi]
theorem lx_mod (a : Nat) : lN (a % 2 ^ 64) = lN a := by
  apply Int64.toBitVec_inj.1
  show BitVec.ofNat 64 (a % 2 ^ 64) = BitVec.ofNat 64 a
  apply BitVec.eq_of_getLsbD_eq
  intro i hi
  rw [BitVec.getLsbD_ofNat, BitVec.getLsbD_ofNat, Nat.testBit_mod_two_pow]
  simp [hi]
theorem s64_l : ∀ n, n < 64 → (((nI n).toInt64 &&& 63).toBitVec.smod 64).toNat = n := by decide +kernel
theorem s64_u : ∀ n, n < 64 → ((((nI n).toInt64.toUInt64 &&& Int64.toUInt64 63)).toBitVec % 64).toNat = n := by decide +kernel
theorem bl_shl {n : Nat} (hn : n < 64) (x : Int64) {i : Nat} (hi : i < 64) : bl (x <<< ((nI n).toInt64 &&& lN 63)) i = (decide (n ≤ i) && bl x (i - n)) := by
  unfold bl
  rw [Int64.toBitVec_shiftLeft]
  show (x.toBitVec <<< (((nI n).toInt64 &&& 63).toBitVec.smod 64).toNat).getLsbD i = _
  rw [s64_l n hn, BitVec.getLsbD_shiftLeft]
  rcases Nat.lt_or_ge i n with h | h
  · simp [h, Nat.not_le.mpr h]
  · simp [hi, h, Nat.not_lt.mpr h]
theorem bl_ushr {n : Nat} (hn : n < 64) (x : Int64) (i : Nat) : bl (lushr x (nI n)) i = bl x (n + i) := by
  unfold lushr
  show (x.toUInt64 >>> ((nI n).toInt64.toUInt64 &&& Int64.toUInt64 63)).toBitVec.getLsbD i = x.toUInt64.toBitVec.getLsbD (n + i)
  rw [UInt64.toBitVec_shiftRight]
  show (x.toUInt64.toBitVec >>> (((nI n).toInt64.toUInt64 &&& Int64.toUInt64 63).toBitVec % 64).toNat).getLsbD i = _
  rw [s64_u n hn, BitVec.getLsbD_ushiftRight]
theorem bl_sshr {n : Nat} (hn : n < 64) (x : Int64) {i : Nat} (hi : i < 64) : bl (x >>> ((nI n).toInt64 &&& lN 63)) i = if n + i < 64 then bl x (n + i) else bl x 63 := by
  unfold bl
  rw [Int64.toBitVec_shiftRight]
  show (x.toBitVec.sshiftRight (((nI n).toInt64 &&& 63).toBitVec.smod 64).toNat).getLsbD i = _
  rw [s64_l n hn, BitVec.getLsbD_sshiftRight, BitVec.msb_eq_getLsbD_last]
  simp [hi]
theorem lx_and1 (x : Int64) : x &&& lN 1 = lN 1 ↔ bl x 0 = true := by
  constructor
  · intro h
    have : bl (x &&& lN 1) 0 = bl (lN 1) 0 := by rw [h]
    rw [bl_and, show bl (lN 1) 0 = true from rfl, Bool.and_true] at this
    exact this
  · intro h
    apply bl_ext
    intro i hi
    rw [bl_and]
    rcases Nat.eq_zero_or_pos i with z | z
    · subst z
      rw [h]
      rfl
    · rw [(by decide +kernel : ∀ i, i < 64 → 0 < i → bl (lN 1) i = false) i hi z, Bool.and_false]
theorem lx_has {x : Int64} {n : Nat} (hn : n < 64) : (x >>> ((nI n).toInt64 &&& lN 63)) &&& lN 1 = lN 1 ↔ bl x n = true := by
  rw [lx_and1, bl_sshr hn x (by omega), if_pos (by omega), Nat.add_zero]
theorem lx_uhas {x : Int64} {n : Nat} (hn : n < 64) : (lushr x (nI n)) &&& lN 1 = lN 1 ↔ bl x n = true := by
  rw [lx_and1, bl_ushr hn, Nat.add_zero]
theorem lx_1sh : ∀ n, n < 63 → lN 1 <<< ((nI n).toInt64 &&& lN 63) = lN (2 ^ n) := by decide +kernel
theorem lx_of (x : Int64) : x = lN x.toBitVec.toNat := by
  apply Int64.toBitVec_inj.1
  show x.toBitVec = BitVec.ofNat 64 x.toBitVec.toNat
  simp
def cnt : Nat → (Nat → Bool) → Nat
  | 0, _ => 0
  | n + 1, P => cnt n P + (if P n then 1 else 0)
theorem cnt_congr : ∀ {n : Nat} {P Q : Nat → Bool}, (∀ i, i < n → P i = Q i) → cnt n P = cnt n Q
  | 0, _, _, _ => rfl
  | n + 1, P, Q, h => by
    unfold cnt
    rw [cnt_congr (n := n) (fun i hi => h i (by omega)), h n (by omega)]
theorem cnt_le : ∀ (n : Nat) (P : Nat → Bool), cnt n P ≤ n
  | 0, _ => Nat.le_refl _
  | n + 1, P => by
    unfold cnt
    have := cnt_le n P
    cases P n <;> simp <;> omega
theorem cnt_add : ∀ (m n : Nat) (P : Nat → Bool), cnt (m + n) P = cnt m P + cnt n (fun i => P (m + i))
  | m, 0, P => rfl
  | m, n + 1, P => by
    show cnt (m + n) P + (if P (m + n) then 1 else 0) = cnt m P + (cnt n (fun i => P (m + i)) + (if P (m + n) then 1 else 0))
    rw [cnt_add m n P]
    omega
-- lanes
def ld (g : Nat → Nat) : Nat → Nat → Nat
  | 0, _ => 0
  | n + 1, X => g (X % 256) + 256 * ld g n (X / 256)
def mk8 (c : Nat) : Nat → Nat
  | 0 => 0
  | n + 1 => c + 256 * mk8 c n
theorem and_split {a y c m : Nat} (ha : a < 256) (hc : c < 256) : (a + 256 * y) &&& (c + 256 * m) = (a &&& c) + 256 * (y &&& m) := by
  have h1 : ((a + 256 * y) &&& (c + 256 * m)) % 2 ^ 8 = ((a + 256 * y) % 2 ^ 8) &&& ((c + 256 * m) % 2 ^ 8) := Nat.and_mod_two_pow
  have h2 : ((a + 256 * y) &&& (c + 256 * m)) / 2 ^ 8 = ((a + 256 * y) / 2 ^ 8) &&& ((c + 256 * m) / 2 ^ 8) := Nat.and_div_two_pow
  rw [show (a + 256 * y) % 2 ^ 8 = a by omega, show (c + 256 * m) % 2 ^ 8 = c by omega] at h1
  rw [show (a + 256 * y) / 2 ^ 8 = y by omega, show (c + 256 * m) / 2 ^ 8 = m by omega] at h2
  omega
def pg1 (b : Nat) : Nat := b - ((b / 2) &&& 85)
def pg2 (b : Nat) : Nat := (pg1 b &&& 51) + ((pg1 b / 4) &&& 51)
def pg3 (b : Nat) : Nat := (pg2 b + pg2 b / 16) &&& 15
theorem pg1_c : ∀ b, b < 256 → pg1 b < 256 ∧ ∀ c, c < 2 → ((b / 2 + 128 * c) &&& 85) = ((b / 2) &&& 85) := by decide +kernel
theorem pg1_m : ∀ b, b < 256 → ∀ c, c < 4 → ((b / 4 + 64 * c) &&& 51) = ((b / 4) &&& 51) := by decide +kernel
theorem pg2_c : ∀ b, b < 256 → pg2 b ≤ 68 ∧ pg2 b % 16 ≤ 4 ∧ ∀ c, c < 5 → ((pg2 b + pg2 b / 16 + 16 * c) &&& 15) = pg3 b := by decide +kernel
theorem pg3_c : ∀ b, b < 256 → pg3 b = cnt 8 (fun i => b.testBit i) := by decide +kernel
theorem ld1_lt : ∀ n X, ld pg1 n X < 256 ^ n
  | 0, _ => Nat.one_pos
  | n + 1, X => by
    unfold ld
    have h1 := (pg1_c (X % 256) (by omega)).1
    have h2 := ld1_lt n (X / 256)
    rw [Nat.pow_succ]
    omega
theorem ld_t1 : ∀ n X, X < 256 ^ n → X - ((X / 2) &&& mk8 85 n) = ld pg1 n X
  | 0, X, h => by
    unfold ld
    rw [Nat.pow_zero] at h
    omega
  | n + 1, X, h => by
    unfold ld mk8
    rw [Nat.pow_succ] at h
    have hx : X / 2 = (X % 256 / 2 + 128 * (X / 256 % 2)) + 256 * (X / 256 / 2) := by omega
    have hb : X % 256 < 256 := by omega
    rw [hx, and_split (by omega) (by omega), (pg1_c (X % 256) hb).2 _ (by omega), ← ld_t1 n (X / 256) (by omega)]
    have h1 : (X % 256 / 2 &&& 85) ≤ X % 256 / 2 := Nat.and_le_left
    have h2 : (X / 256 / 2 &&& mk8 85 n) ≤ X / 256 / 2 := Nat.and_le_left
    unfold pg1
    omega
theorem ld_t2 : ∀ n X, (ld pg1 n X &&& mk8 51 n) + ((ld pg1 n X / 4) &&& mk8 51 n) = ld pg2 n X
  | 0, X => by simp [ld, mk8]
  | n + 1, X => by
    unfold ld mk8
    have hb : X % 256 < 256 := by omega
    have h1 := (pg1_c (X % 256) hb).1
    have hx : (pg1 (X % 256) + 256 * ld pg1 n (X / 256)) / 4 = (pg1 (X % 256) / 4 + 64 * (ld pg1 n (X / 256) % 4)) + 256 * (ld pg1 n (X / 256) / 4) := by omega
    rw [hx, and_split h1 (by omega), and_split (by omega) (by omega), pg1_m _ h1 _ (by omega), ← ld_t2 n (X / 256)]
    unfold pg2
    omega
theorem ld2_m : ∀ n X, ld pg2 n X % 16 ≤ 4
  | 0, _ => Nat.zero_le _
  | n + 1, X => by
    unfold ld
    have := (pg2_c (X % 256) (by omega)).2.1
    omega
theorem ld_t3 : ∀ n X, (ld pg2 n X + ld pg2 n X / 16) &&& mk8 15 n = ld pg3 n X
  | 0, X => by simp [ld, mk8]
  | n + 1, X => by
    unfold ld mk8
    have hb : X % 256 < 256 := by omega
    have h1 := pg2_c (X % 256) hb
    have h2 := ld2_m n (X / 256)
    have hx : (pg2 (X % 256) + 256 * ld pg2 n (X / 256)) + (pg2 (X % 256) + 256 * ld pg2 n (X / 256)) / 16 = (pg2 (X % 256) + pg2 (X % 256) / 16 + 16 * (ld pg2 n (X / 256) % 16)) + 256 * (ld pg2 n (X / 256) + ld pg2 n (X / 256) / 16) := by omega
    rw [hx, and_split (by omega) (by omega), h1.2.2 _ (by omega), ld_t3 n (X / 256)]
theorem pg3_le : ∀ b, b < 256 → pg3 b ≤ 8 := by decide +kernel
theorem cnt_8 (n X : Nat) : cnt (8 * (n + 1)) (fun i => X.testBit i) = pg3 (X % 256) + cnt (8 * n) (fun i => (X / 256).testBit i) := by
  rw [show 8 * (n + 1) = 8 + 8 * n by omega, cnt_add, pg3_c (X % 256) (by omega)]
  congr 1
  · apply cnt_congr
    intro i hi
    rw [show (256 : Nat) = 2 ^ 8 by rfl, Nat.testBit_mod_two_pow, decide_eq_true hi, Bool.true_and]
  · apply cnt_congr
    intro i _
    rw [show (256 : Nat) = 2 ^ 8 by rfl, Nat.testBit_div_two_pow, Nat.add_comm]
theorem ld3_8 (X : Nat) : ∃ c0 c1 c2 c3 c4 c5 c6 c7 : Nat, c0 ≤ 8 ∧ c1 ≤ 8 ∧ c2 ≤ 8 ∧ c3 ≤ 8 ∧ c4 ≤ 8 ∧ c5 ≤ 8 ∧ c6 ≤ 8 ∧ c7 ≤ 8 ∧ ld pg3 8 X = c0 + 256 * (c1 + 256 * (c2 + 256 * (c3 + 256 * (c4 + 256 * (c5 + 256 * (c6 + 256 * c7)))))) ∧ cnt 64 (fun i => X.testBit i) = c0 + c1 + c2 + c3 + c4 + c5 + c6 + c7 := by
  refine ⟨_, _, _, _, _, _, _, _, pg3_le _ (Nat.mod_lt X (by decide)), pg3_le _ (Nat.mod_lt (X / 256) (by decide)), pg3_le _ (Nat.mod_lt (X / 256 / 256) (by decide)), pg3_le _ (Nat.mod_lt (X / 256 / 256 / 256) (by decide)), pg3_le _ (Nat.mod_lt (X / 256 / 256 / 256 / 256) (by decide)), pg3_le _ (Nat.mod_lt (X / 256 / 256 / 256 / 256 / 256) (by decide)), pg3_le _ (Nat.mod_lt (X / 256 / 256 / 256 / 256 / 256 / 256) (by decide)), pg3_le _ (Nat.mod_lt (X / 256 / 256 / 256 / 256 / 256 / 256 / 256) (by decide)), rfl, ?_⟩
  rw [show 64 = 8 * (7 + 1) from rfl, cnt_8, cnt_8 6, cnt_8 5, cnt_8 4, cnt_8 3, cnt_8 2, cnt_8 1, cnt_8 0, show cnt (8 * 0) (fun i => (X / 256 / 256 / 256 / 256 / 256 / 256 / 256 / 256).testBit i) = 0 from rfl]
  omega
theorem ld3_4 (X : Nat) : ∃ c0 c1 c2 c3 : Nat, c0 ≤ 8 ∧ c1 ≤ 8 ∧ c2 ≤ 8 ∧ c3 ≤ 8 ∧ ld pg3 4 X = c0 + 256 * (c1 + 256 * (c2 + 256 * c3)) ∧ cnt 32 (fun i => X.testBit i) = c0 + c1 + c2 + c3 := by
  refine ⟨_, _, _, _, pg3_le _ (Nat.mod_lt X (by decide)), pg3_le _ (Nat.mod_lt (X / 256) (by decide)), pg3_le _ (Nat.mod_lt (X / 256 / 256) (by decide)), pg3_le _ (Nat.mod_lt (X / 256 / 256 / 256) (by decide)), rfl, ?_⟩
  rw [show 32 = 8 * (3 + 1) from rfl, cnt_8, cnt_8 2, cnt_8 1, cnt_8 0, show cnt (8 * 0) (fun i => (X / 256 / 256 / 256 / 256).testBit i) = 0 from rfl]
  omega
theorem q_lush {X : Nat} (h : X < 2 ^ 64) {s : Nat} (hs : s < 64) : lushr (lN X) (nI s) = lN (X / 2 ^ s) := by
  apply bl_ext
  intro i hi
  rw [bl_ushr hs, bl_lN hi, Nat.testBit_div_two_pow]
  rcases Nat.lt_or_ge (s + i) 64 with h1 | h1
  · rw [bl_lN h1, Nat.add_comm]
  · rw [bl_big h1, Nat.add_comm]
    symm
    exact Nat.testBit_lt_two_pow (Nat.lt_of_lt_of_le h (Nat.pow_le_pow_right (by decide) h1))
theorem sw_1 {X : Nat} (h : X < 2 ^ 64) : lN X - (lushr (lN X) (nI 1) &&& lN 6148914691236517205) = lN (ld pg1 8 X) := by
  rw [q_lush h (by decide), lx_and, lN_sub (Nat.le_trans Nat.and_le_left (Nat.div_le_self _ _)), ← ld_t1 8 X (by omega)]
  rfl
theorem ld_lt {g : Nat → Nat} {m : Nat} (hg : ∀ b, b < 256 → g b ≤ m) (hm : m < 256) : ∀ n X, ld g n X < 256 ^ n
  | 0, _ => Nat.one_pos
  | n + 1, X => by
    unfold ld
    have h1 := hg (X % 256) (by omega)
    have h2 := ld_lt hg hm n (X / 256)
    rw [Nat.pow_succ]
    omega
theorem sw_2 (X : Nat) : (lN (ld pg1 8 X) &&& lN 3689348814741910323) + (lushr (lN (ld pg1 8 X)) (nI 2) &&& lN 3689348814741910323) = lN (ld pg2 8 X) := by
  have h1 := ld1_lt 8 X
  rw [q_lush (by omega) (by decide), lx_and, lx_and, lN_add, ← ld_t2 8 X]
  rfl
theorem sw_3 (X : Nat) : (lN (ld pg2 8 X) + lushr (lN (ld pg2 8 X)) (nI 4)) &&& lN 1085102592571150095 = lN (ld pg3 8 X) := by
  have h1 := ld_lt (fun b hb => (pg2_c b hb).1) (by decide) 8 X
  rw [q_lush (by omega) (by decide), lN_add, lx_and, ← ld_t3 8 X]
  rfl
theorem cnt_bl (x : Int64) : cnt 64 (fun i => x.toBitVec.toNat.testBit i) = cnt 64 (bl x) := by
  apply cnt_congr
  intro i hi
  show _ = x.toBitVec.getLsbD i
  rw [BitVec.testBit_toNat]
theorem sw_mul {l S H : Nat} (hl : l < 2 ^ 56) (hS : S < 256) : ((l + 2 ^ 56 * S + 2 ^ 64 * H) % 2 ^ 64) / 2 ^ 56 = S := by omega
theorem sw_4 {c0 c1 c2 c3 c4 c5 c6 c7 : Nat} (h0 : c0 ≤ 8) (h1 : c1 ≤ 8) (h2 : c2 ≤ 8) (h3 : c3 ≤ 8) (h4 : c4 ≤ 8) (h5 : c5 ≤ 8) (h6 : c6 ≤ 8) (h7 : c7 ≤ 8) : ((c0 + 256 * (c1 + 256 * (c2 + 256 * (c3 + 256 * (c4 + 256 * (c5 + 256 * (c6 + 256 * c7))))))) * 72340172838076673 % 2 ^ 64) / 2 ^ 56 = c0+c1+c2+c3+c4+c5+c6+c7 := by
  have e : (c0 + 256 * (c1 + 256 * (c2 + 256 * (c3 + 256 * (c4 + 256 * (c5 + 256 * (c6 + 256 * c7))))))) * 72340172838076673 = (1*(c0)+256*(c0+c1)+65536*(c0+c1+c2)+16777216*(c0+c1+c2+c3)+4294967296*(c0+c1+c2+c3+c4)+1099511627776*(c0+c1+c2+c3+c4+c5)+281474976710656*(c0+c1+c2+c3+c4+c5+c6)) + 2 ^ 56 * (c0+c1+c2+c3+c4+c5+c6+c7) + 2 ^ 64 * (1*(c1+c2+c3+c4+c5+c6+c7)+256*(c2+c3+c4+c5+c6+c7)+65536*(c3+c4+c5+c6+c7)+16777216*(c4+c5+c6+c7)+4294967296*(c5+c6+c7)+1099511627776*(c6+c7)+281474976710656*(c7)) := by omega
  rw [e]
  exact sw_mul (by omega) (by omega)
theorem sw_5 {c0 c1 c2 c3 c4 c5 c6 c7 : Nat} : (c0 + 256 * (c1 + 256 * (c2 + 256 * (c3 + 256 * (c4 + 256 * (c5 + 256 * (c6 + 256 * c7))))))) / 2 ^ 8 = (c1 + 256 * (c2 + 256 * (c3 + 256 * (c4 + 256 * (c5 + 256 * (c6 + 256 * c7)))))) ∨ 8 < c0 := by omega
theorem sw_6 {d0 d1 R : Nat} (h0 : d0 < 256) (h1 : d1 < 256) : (d0 + 256 * (d1 + 256 * R)) / 2 ^ 16 = R := by omega
theorem sw_7 {d0 d1 d2 d3 R : Nat} (h0 : d0 < 256) (h1 : d1 < 256) (h2 : d2 < 256) (h3 : d3 < 256) : (d0 + 256 * (d1 + 256 * (d2 + 256 * (d3 + 256 * R)))) / 2 ^ 32 = R := by omega
theorem sw_10 {d0 d1 d2 d3 d4 R : Nat} (h : d0 + d4 < 128) : ((d0 + 256 * (d1 + 256 * (d2 + 256 * (d3 + 256 * (d4 + 256 * R))))) + (d4 + 256 * R)) % 2 ^ 7 = d0 + d4 := by omega
theorem e_X10_bits (x : Int64) (d : DD) : f_X10_bits x d = some (nI (cnt 64 (bl x)), d) := by
  have hx := lx_of x
  have hlt : x.toBitVec.toNat < 2 ^ 64 := x.toBitVec.isLt
  rw [← cnt_bl]
  generalize x.toBitVec.toNat = X at hx hlt ⊢
  subst hx
  unfold f_X10_bits
  simp only [bd_e, nI_lit, lN_lit]
  rw [sw_1 hlt, sw_2, sw_3, lN_mul, ← lx_mod, q_lush (Nat.mod_lt _ (by decide)) (by decide), lN_i]
  obtain ⟨c0, c1, c2, c3, c4, c5, c6, c7, h0, h1, h2, h3, h4, h5, h6, h7, hl, hc⟩ := ld3_8 X
  rw [hl, hc, sw_4 h0 h1 h2 h3 h4 h5 h6 h7]
theorem sw_q {c0 c1 c2 c3 c4 c5 c6 c7 : Nat} (h0 : c0 ≤ 8) (h1 : c1 ≤ 8) (h2 : c2 ≤ 8) (h3 : c3 ≤ 8) (h4 : c4 ≤ 8) (h5 : c5 ≤ 8) (h6 : c6 ≤ 8) (h7 : c7 ≤ 8) : (c0 + c1 + c2 + c3 < 256) ∧ (c1 + c2 + c3 + c4 < 256) ∧ (c2 + c3 + c4 + c5 < 256) ∧ (c3 + c4 + c5 + c6 < 256) ∧ ((c0 + c1 + c2 + c3) + (c4 + c5 + c6 + c7) < 128) ∧ ((c0 + c1 + c2 + c3) + (c4 + c5 + c6 + c7) = c0 + c1 + c2 + c3 + c4 + c5 + c6 + c7) := by
  refine ⟨?_, ?_, ?_, ?_, ?_, ?_⟩ <;> omega
theorem sw_11 {c0 c1 c2 c3 c4 c5 c6 c7 : Nat} (h0 : c0 ≤ 8) (h1 : c1 ≤ 8) (h2 : c2 ≤ 8) (h3 : c3 ≤ 8) (h4 : c4 ≤ 8) (h5 : c5 ≤ 8) (h6 : c6 ≤ 8) (h7 : c7 ≤ 8) : ∃ V1 Y4 Z Y5 U : Nat, (c0 + 256 * (c1 + 256 * (c2 + 256 * (c3 + 256 * (c4 + 256 * (c5 + 256 * (c6 + 256 * c7))))))) / 2 ^ 8 = V1 ∧ (c0 + 256 * (c1 + 256 * (c2 + 256 * (c3 + 256 * (c4 + 256 * (c5 + 256 * (c6 + 256 * c7))))))) + V1 = Y4 ∧ Y4 < 2 ^ 64 ∧ Y4 / 2 ^ 16 = Z ∧ Y4 + Z = Y5 ∧ Y5 < 2 ^ 64 ∧ Y5 / 2 ^ 32 = U ∧ (Y5 + U) % 2 ^ 7 = c0 + c1 + c2 + c3 + c4 + c5 + c6 + c7 := by
  have e1 : (c0 + 256 * (c1 + 256 * (c2 + 256 * (c3 + 256 * (c4 + 256 * (c5 + 256 * (c6 + 256 * c7))))))) / 2 ^ 8 = (c1 + 256 * (c2 + 256 * (c3 + 256 * (c4 + 256 * (c5 + 256 * (c6 + 256 * c7)))))) := sw_5.resolve_right (by omega)
  have e2 : (c0 + 256 * (c1 + 256 * (c2 + 256 * (c3 + 256 * (c4 + 256 * (c5 + 256 * (c6 + 256 * c7))))))) + (c1 + 256 * (c2 + 256 * (c3 + 256 * (c4 + 256 * (c5 + 256 * (c6 + 256 * c7)))))) = ((c0 + c1) + 256 * ((c1 + c2) + 256 * ((c2 + c3) + 256 * ((c3 + c4) + 256 * ((c4 + c5) + 256 * ((c5 + c6) + 256 * ((c6 + c7) + 256 * c7))))))) := by omega
  have e3 : ((c0 + c1) + 256 * ((c1 + c2) + 256 * ((c2 + c3) + 256 * ((c3 + c4) + 256 * ((c4 + c5) + 256 * ((c5 + c6) + 256 * ((c6 + c7) + 256 * c7))))))) < 2 ^ 64 := by omega
  have e4 : ((c0 + c1) + 256 * ((c1 + c2) + 256 * ((c2 + c3) + 256 * ((c3 + c4) + 256 * ((c4 + c5) + 256 * ((c5 + c6) + 256 * ((c6 + c7) + 256 * c7))))))) / 2 ^ 16 = ((c2 + c3) + 256 * ((c3 + c4) + 256 * ((c4 + c5) + 256 * ((c5 + c6) + 256 * ((c6 + c7) + 256 * c7))))) := sw_6 (by omega) (by omega)
  have e5 : ((c0 + c1) + 256 * ((c1 + c2) + 256 * ((c2 + c3) + 256 * ((c3 + c4) + 256 * ((c4 + c5) + 256 * ((c5 + c6) + 256 * ((c6 + c7) + 256 * c7))))))) + ((c2 + c3) + 256 * ((c3 + c4) + 256 * ((c4 + c5) + 256 * ((c5 + c6) + 256 * ((c6 + c7) + 256 * c7))))) = ((c0 + c1 + c2 + c3) + 256 * ((c1 + c2 + c3 + c4) + 256 * ((c2 + c3 + c4 + c5) + 256 * ((c3 + c4 + c5 + c6) + 256 * ((c4 + c5 + c6 + c7) + 256 * ((c5 + c6 + c7) + 256 * ((c6 + c7) + 256 * c7))))))) := by omega
  have e6 : ((c0 + c1 + c2 + c3) + 256 * ((c1 + c2 + c3 + c4) + 256 * ((c2 + c3 + c4 + c5) + 256 * ((c3 + c4 + c5 + c6) + 256 * ((c4 + c5 + c6 + c7) + 256 * ((c5 + c6 + c7) + 256 * ((c6 + c7) + 256 * c7))))))) < 2 ^ 64 := by omega
  obtain ⟨q0, q1, q2, q3, q4, q5⟩ := sw_q h0 h1 h2 h3 h4 h5 h6 h7
  have e7 : ((c0 + c1 + c2 + c3) + 256 * ((c1 + c2 + c3 + c4) + 256 * ((c2 + c3 + c4 + c5) + 256 * ((c3 + c4 + c5 + c6) + 256 * ((c4 + c5 + c6 + c7) + 256 * ((c5 + c6 + c7) + 256 * ((c6 + c7) + 256 * c7))))))) / 2 ^ 32 = ((c4 + c5 + c6 + c7) + 256 * ((c5 + c6 + c7) + 256 * ((c6 + c7) + 256 * c7))) := sw_7 q0 q1 q2 q3
  have e8 : (((c0 + c1 + c2 + c3) + 256 * ((c1 + c2 + c3 + c4) + 256 * ((c2 + c3 + c4 + c5) + 256 * ((c3 + c4 + c5 + c6) + 256 * ((c4 + c5 + c6 + c7) + 256 * ((c5 + c6 + c7) + 256 * ((c6 + c7) + 256 * c7))))))) + ((c4 + c5 + c6 + c7) + 256 * ((c5 + c6 + c7) + 256 * ((c6 + c7) + 256 * c7)))) % 2 ^ 7 = c0 + c1 + c2 + c3 + c4 + c5 + c6 + c7 := by
    rw [sw_10 q4]
    exact q5
  exact ⟨_, _, _, _, _, e1, e2, e3, e4, e5, e6, e7, e8⟩
theorem e_J13 (x : Int64) (d : DD) : f_J13_bitCount_95d88 x d = some (nI (cnt 64 (bl x)), d) := by
  have hx := lx_of x
  have hlt : x.toBitVec.toNat < 2 ^ 64 := x.toBitVec.isLt
  rw [← cnt_bl]
  generalize x.toBitVec.toNat = X at hx hlt ⊢
  subst hx
  unfold f_J13_bitCount_95d88
  simp only [bd_e, nI_lit, lN_lit]
  have hl3 : ld pg3 8 X < 2 ^ 64 := ld_lt pg3_le (by decide) 8 X
  obtain ⟨c0, c1, c2, c3, c4, c5, c6, c7, h0, h1, h2, h3, h4, h5, h6, h7, hl, hc⟩ := ld3_8 X
  obtain ⟨V1, Y4, Z, Y5, U, e1, e2, e3, e4, e5, e6, e7, e8⟩ := sw_11 h0 h1 h2 h3 h4 h5 h6 h7
  rw [← hl] at e1 e2
  rw [← hc] at e8
  rw [sw_1 hlt, sw_2, sw_3, q_lush hl3 (by decide), e1, lN_add, e2, q_lush e3 (by decide), e4, lN_add, e5, q_lush e6 (by decide), e7, lN_add, lN_i, nx_and, show (127 : Nat) = 2 ^ 7 - 1 from rfl, Nat.and_two_pow_sub_one_eq_mod, e8]
theorem cnt_bt (x : Int32) : cnt 32 (fun i => x.toBitVec.toNat.testBit i) = cnt 32 (bt x) := by
  apply cnt_congr
  intro i hi
  show _ = x.toBitVec.getLsbD i
  rw [BitVec.testBit_toNat]
theorem ix_of (x : Int32) : x = nI x.toBitVec.toNat := by
  apply Int32.toBitVec_inj.1
  show x.toBitVec = BitVec.ofNat 32 x.toBitVec.toNat
  simp
theorem q_iush {X : Nat} (h : X < 2 ^ 32) {s : Nat} (hs : s < 32) : iushr (nI X) (nI s) = nI (X / 2 ^ s) := by
  unfold iushr
  exact pk_ushrN h _ s (s_u s hs)
theorem e_J6 (x : Int32) (d : DD) : f_J6_bitCount_0f7a4 x d = some (nI (cnt 32 (bt x)), d) := by
  have hx := ix_of x
  have hlt : x.toBitVec.toNat < 2 ^ 32 := x.toBitVec.isLt
  rw [← cnt_bt]
  generalize x.toBitVec.toNat = X at hx hlt ⊢
  subst hx
  unfold f_J6_bitCount_0f7a4
  simp only [bd_e, nI_lit]
  have k1 : (X / 2 ^ 1) &&& 1431655765 ≤ X := Nat.le_trans Nat.and_le_left (Nat.div_le_self _ _)
  have k2 : X - ((X / 2 ^ 1) &&& 1431655765) = ld pg1 4 X := ld_t1 4 X (by omega)
  have k3 : (ld pg1 4 X &&& 858993459) + ((ld pg1 4 X / 2 ^ 2) &&& 858993459) = ld pg2 4 X := ld_t2 4 X
  have k4 : (ld pg2 4 X + ld pg2 4 X / 2 ^ 4) &&& 252645135 = ld pg3 4 X := ld_t3 4 X
  have l1 := ld1_lt 4 X
  have l2 := ld_lt (fun b hb => (pg2_c b hb).1) (by decide) 4 X
  obtain ⟨c0, c1, c2, c3, h0, h1, h2, h3, hl, hc⟩ := ld3_4 X
  have v5 : (c0 + 256 * (c1 + 256 * (c2 + 256 * c3))) / 2 ^ 8 = c1 + 256 * (c2 + 256 * c3) := by omega
  have v6 : (c0 + 256 * (c1 + 256 * (c2 + 256 * c3))) + (c1 + 256 * (c2 + 256 * c3)) = (c0 + c1) + 256 * ((c1 + c2) + 256 * ((c2 + c3) + 256 * c3)) := by omega
  have v8 : (c0 + c1) + 256 * ((c1 + c2) + 256 * ((c2 + c3) + 256 * c3)) < 2 ^ 32 := by omega
  rw [q_iush hlt (by decide), nx_and, pk_sub k1, k2, q_iush (by omega) (by decide), nx_and, nx_and, nI_add, k3, q_iush (by omega) (by decide), nI_add, nx_and, k4, hl, q_iush (by omega) (by decide), v5, nI_add, v6, q_iush v8 (by decide), sw_6 (by omega) (by omega), nI_add, nx_and, show (63 : Nat) = 2 ^ 6 - 1 from rfl, Nat.and_two_pow_sub_one_eq_mod, hc, show ((c0 + c1) + 256 * ((c1 + c2) + 256 * ((c2 + c3) + 256 * c3)) + ((c2 + c3) + 256 * c3)) % 2 ^ 6 = c0 + c1 + c2 + c3 by omega]
