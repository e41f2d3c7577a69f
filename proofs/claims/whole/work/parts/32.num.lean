-- PURE ROWS: outcomes, numbers, bits (the family bt is pasted from the kit's BITS)
def OW {α : Type} (o : Option (α × DD)) (Q : α → DD → Prop) : Prop := ∃ r d, o = some (r, d) ∧ Q r d
theorem ow_ret {α : Type} {r : α} {d : DD} {Q : α → DD → Prop} (h : Q r d) : OW (some (r, d)) Q := ⟨r, d, rfl, h⟩
theorem ow_ret_e {α : Type} {r : α} {d : DD} {Q : α → DD → Prop} : OW (some (r, d)) Q ↔ Q r d := by
  constructor
  · rintro ⟨r', d', h, hq⟩
    injection h with h
    injection h with h1 h2
    subst h1
    subst h2
    exact hq
  · exact ow_ret
theorem ow_bind {α β : Type} {o : Option (α × DD)} {f : α × DD → Option (β × DD)} {Q : β → DD → Prop} (h : OW o (fun r d => OW (f (r, d)) Q)) : OW (o.bind f) Q := by
  obtain ⟨r, d, h1, r', d', h2, h3⟩ := h
  exact ⟨r', d', by rw [h1]; exact h2, h3⟩
theorem ow_mono {α : Type} {o : Option (α × DD)} {Q R : α → DD → Prop} (h : OW o Q) (hq : ∀ r d, Q r d → R r d) : OW o R := by
  obtain ⟨r, d, h1, h2⟩ := h
  exact ⟨r, d, h1, hq r d h2⟩
theorem ow_call {α β : Type} {o : Option (α × DD)} {f : α × DD → Option (β × DD)} {P : α → DD → Prop} {Q : β → DD → Prop} (h : OW o P) (hq : ∀ r d, P r d → OW (f (r, d)) Q) : OW (o.bind f) Q := ow_bind (ow_mono h hq)
theorem bd_e {α β : Type} (v : α) (f : α → β) : bd v f = f v := rfl
theorem ob_e {α β : Type} (a : α) (f : α → Option β) : (some a).bind f = f a := rfl
theorem u1_at (d : DD) (a i : Nat) (x : Int32) (b j : Nat) : (u1 d a i x).1 b j = if b = a ∧ j = i then x else d.1 b j := id rfl
theorem u1_2 (d : DD) (a i : Nat) (x : Int32) : (u1 d a i x).2 = d.2 := id rfl
theorem u2_at (d : DD) (a i : Nat) (x : Int64) (b j : Nat) : (u2 d a i x).2 b j = if b = a ∧ j = i then x else d.2 b j := id rfl
theorem u2_1 (d : DD) (a i : Nat) (x : Int64) : (u2 d a i x).1 = d.1 := id rfl
theorem ln_0 : ln 0 = 0 := by decide +kernel
theorem ln_1 : ln 1 = 940 := by decide +kernel
theorem ln_2 : ln 2 = 0 := by decide +kernel
theorem ln_3 : ln 3 = 3 := by decide +kernel
theorem ln_4 : ln 4 = 3 := by decide +kernel
theorem ln_5 : ln 5 = 3 := by decide +kernel
theorem ln_6 : ln 6 = 3 := by decide +kernel
theorem ln_7 : ln 7 = 4 := by decide +kernel
theorem ln_8 : ln 8 = 4 := by decide +kernel
theorem ln_9 : ln 9 = 4 := by decide +kernel
theorem ln_10 : ln 10 = 120 := by decide +kernel
theorem ln_11 : ln 11 = 30 := by decide +kernel
theorem ln_12 : ln 12 = 0 := by decide +kernel
theorem ln_13 : ln 13 = 40 := by decide +kernel
theorem ln_14 : ln 14 = 40 := by decide +kernel
theorem ln_15 : ln 15 = 40 := by decide +kernel
theorem ln_16 : ln 16 = 0 := by decide +kernel
theorem ln_17 : ln 17 = 3 := by decide +kernel
theorem ln_18 : ln 18 = 3 := by decide +kernel
theorem ln_19 : ln 19 = 3 := by decide +kernel
theorem ln_20 : ln 20 = 3 := by decide +kernel
theorem ln_21 : ln 21 = 4 := by decide +kernel
theorem ln_22 : ln 22 = 4 := by decide +kernel
theorem ln_23 : ln 23 = 4 := by decide +kernel
theorem ln_24 : ln 24 = 120 := by decide +kernel
theorem ln_25 : ln 25 = 30 := by decide +kernel
theorem ln_26 : ln 26 = 0 := by decide +kernel
theorem ln_27 : ln 27 = 40 := by decide +kernel
theorem ln_28 : ln 28 = 40 := by decide +kernel
theorem ln_29 : ln 29 = 40 := by decide +kernel
theorem ln_30 : ln 30 = 0 := by decide +kernel
theorem ln_31 : ln 31 = 3 := by decide +kernel
theorem ln_32 : ln 32 = 3 := by decide +kernel
theorem ln_33 : ln 33 = 3 := by decide +kernel
theorem ln_34 : ln 34 = 3 := by decide +kernel
theorem ln_35 : ln 35 = 4 := by decide +kernel
theorem ln_36 : ln 36 = 4 := by decide +kernel
theorem ln_37 : ln 37 = 4 := by decide +kernel
theorem ln_38 : ln 38 = 120 := by decide +kernel
theorem ln_39 : ln 39 = 30 := by decide +kernel
theorem ln_40 : ln 40 = 0 := by decide +kernel
theorem ln_41 : ln 41 = 40 := by decide +kernel
theorem ln_42 : ln 42 = 40 := by decide +kernel
theorem ln_43 : ln 43 = 40 := by decide +kernel
theorem ln_44 : ln 44 = 0 := by decide +kernel
theorem ln_45 : ln 45 = 0 := by decide +kernel
theorem ln_46 : ln 46 = 941 := by decide +kernel
theorem ln_47 : ln 47 = 941 := by decide +kernel
theorem ln_48 : ln 48 = 941 := by decide +kernel
theorem ln_49 : ln 49 = 0 := by decide +kernel
theorem ln_50 : ln 50 = 0 := by decide +kernel
theorem ln_51 : ln 51 = 3 := by decide +kernel
theorem ln_52 : ln 52 = 3 := by decide +kernel
theorem ln_53 : ln 53 = 3 := by decide +kernel
theorem ln_54 : ln 54 = 3 := by decide +kernel
theorem ln_55 : ln 55 = 4 := by decide +kernel
theorem ln_56 : ln 56 = 4 := by decide +kernel
theorem ln_57 : ln 57 = 4 := by decide +kernel
theorem ln_58 : ln 58 = 120 := by decide +kernel
theorem ln_59 : ln 59 = 30 := by decide +kernel
theorem ln_60 : ln 60 = 0 := by decide +kernel
theorem ln_61 : ln 61 = 40 := by decide +kernel
theorem ln_62 : ln 62 = 40 := by decide +kernel
theorem ln_63 : ln 63 = 40 := by decide +kernel
theorem ln_64 : ln 64 = 4 := by decide +kernel
theorem ln_65 : ln 65 = 0 := by decide +kernel
theorem ln_66 : ln 66 = 0 := by decide +kernel
theorem ln_67 : ln 67 = 40 := by decide +kernel
theorem ln_68 : ln 68 = 40 := by decide +kernel
theorem ln_69 : ln 69 = 40 := by decide +kernel
theorem ln_70 : ln 70 = 0 := by decide +kernel
theorem ln_71 : ln 71 = 30 := by decide +kernel
theorem ln_72 : ln 72 = 0 := by decide +kernel
theorem ln_73 : ln 73 = 48 := by decide +kernel
theorem ln_74 : ln 74 = 8 := by decide +kernel
theorem ln_75 : ln 75 = 24 := by decide +kernel
theorem ln_76 : ln 76 = 781 := by decide +kernel
theorem ln_77 : ln 77 = 2343 := by decide +kernel
theorem ln_78 : ln 78 = 3 := by decide +kernel
theorem ln_79 : ln 79 = 3 := by decide +kernel
theorem ln_80 : ln 80 = 3 := by decide +kernel
theorem ln_81 : ln 81 = 8 := by decide +kernel
theorem ln_82 : ln 82 = 8 := by decide +kernel
theorem ln_83 : ln 83 = 0 := by decide +kernel
theorem ln_84 : ln 84 = 148 := by decide +kernel
theorem ln_85 : ln 85 = 36 := by decide +kernel
theorem ln_86 : ln 86 = 0 := by decide +kernel
theorem ln_87 : ln 87 = 940 := by decide +kernel
theorem ln_88 : ln 88 = 290 := by decide +kernel
theorem ln_89 : ln 89 = 169 := by decide +kernel
theorem ln_90 : ln 90 = 120 := by decide +kernel
theorem ln_91 : ln 91 = 30 := by decide +kernel
theorem ln_92 : ln 92 = 28 := by decide +kernel
theorem ln_93 : ln 93 = 10 := by decide +kernel
theorem ln_94 : ln 94 = 108 := by decide +kernel
theorem ln_95 : ln 95 = 3 := by decide +kernel
theorem ln_96 : ln 96 = 96 := by decide +kernel
theorem ln_97 : ln 97 = 3 := by decide +kernel
theorem ln_98 : ln 98 = 4 := by decide +kernel
theorem ln_99 : ln 99 = 90 := by decide +kernel
theorem ln_100 : ln 100 = 30 := by decide +kernel
theorem ln_101 : ln 101 = 16 := by decide +kernel
theorem ln_102 : ln 102 = 8 := by decide +kernel
theorem ln_103 : ln 103 = 48 := by decide +kernel
theorem ln_104 : ln 104 = 4 := by decide +kernel
theorem ln_105 : ln 105 = 400 := by decide +kernel
theorem ln_106 : ln 106 = 2 := by decide +kernel
theorem ln_107 : ln 107 = 580 := by decide +kernel
theorem ln_108 : ln 108 = 14 := by decide +kernel
theorem ln_109 : ln 109 = 2 := by decide +kernel
theorem ln_110 : ln 110 = 1 := by decide +kernel
theorem rf_0_0 : rf 0 0 = 1 := by decide +kernel
theorem rf_0_3 : rf 0 3 = 2 := by decide +kernel
theorem rf_0_4 : rf 0 4 = 16 := by decide +kernel
theorem rf_0_5 : rf 0 5 = 30 := by decide +kernel
theorem rf_0_7 : rf 0 7 = 44 := by decide +kernel
theorem rf_0_8 : rf 0 8 = 49 := by decide +kernel
theorem rf_0_9 : rf 0 9 = 65 := by decide +kernel
theorem rf_0_10 : rf 0 10 = 70 := by decide +kernel
theorem rf_0_11 : rf 0 11 = 72 := by decide +kernel
theorem rf_0_12 : rf 0 12 = 83 := by decide +kernel
theorem rf_2_2 : rf 2 2 = 3 := by decide +kernel
theorem rf_2_3 : rf 2 3 = 4 := by decide +kernel
theorem rf_2_4 : rf 2 4 = 5 := by decide +kernel
theorem rf_2_5 : rf 2 5 = 6 := by decide +kernel
theorem rf_2_6 : rf 2 6 = 7 := by decide +kernel
theorem rf_2_7 : rf 2 7 = 8 := by decide +kernel
theorem rf_2_8 : rf 2 8 = 9 := by decide +kernel
theorem rf_2_9 : rf 2 9 = 10 := by decide +kernel
theorem rf_2_10 : rf 2 10 = 11 := by decide +kernel
theorem rf_2_11 : rf 2 11 = 12 := by decide +kernel
theorem rf_12_1 : rf 12 1 = 13 := by decide +kernel
theorem rf_12_2 : rf 12 2 = 14 := by decide +kernel
theorem rf_12_3 : rf 12 3 = 15 := by decide +kernel
theorem rf_16_2 : rf 16 2 = 17 := by decide +kernel
theorem rf_16_3 : rf 16 3 = 18 := by decide +kernel
theorem rf_16_4 : rf 16 4 = 19 := by decide +kernel
theorem rf_16_5 : rf 16 5 = 20 := by decide +kernel
theorem rf_16_6 : rf 16 6 = 21 := by decide +kernel
theorem rf_16_7 : rf 16 7 = 22 := by decide +kernel
theorem rf_16_8 : rf 16 8 = 23 := by decide +kernel
theorem rf_16_9 : rf 16 9 = 24 := by decide +kernel
theorem rf_16_10 : rf 16 10 = 25 := by decide +kernel
theorem rf_16_11 : rf 16 11 = 26 := by decide +kernel
theorem rf_26_1 : rf 26 1 = 27 := by decide +kernel
theorem rf_26_2 : rf 26 2 = 28 := by decide +kernel
theorem rf_26_3 : rf 26 3 = 29 := by decide +kernel
theorem rf_30_2 : rf 30 2 = 31 := by decide +kernel
theorem rf_30_3 : rf 30 3 = 32 := by decide +kernel
theorem rf_30_4 : rf 30 4 = 33 := by decide +kernel
theorem rf_30_5 : rf 30 5 = 34 := by decide +kernel
theorem rf_30_6 : rf 30 6 = 35 := by decide +kernel
theorem rf_30_7 : rf 30 7 = 36 := by decide +kernel
theorem rf_30_8 : rf 30 8 = 37 := by decide +kernel
theorem rf_30_9 : rf 30 9 = 38 := by decide +kernel
theorem rf_30_10 : rf 30 10 = 39 := by decide +kernel
theorem rf_30_11 : rf 30 11 = 40 := by decide +kernel
theorem rf_40_1 : rf 40 1 = 41 := by decide +kernel
theorem rf_40_2 : rf 40 2 = 42 := by decide +kernel
theorem rf_40_3 : rf 40 3 = 43 := by decide +kernel
theorem rf_44_0 : rf 44 0 = 45 := by decide +kernel
theorem rf_45_1 : rf 45 1 = 46 := by decide +kernel
theorem rf_45_2 : rf 45 2 = 47 := by decide +kernel
theorem rf_45_3 : rf 45 3 = 48 := by decide +kernel
theorem rf_49_0 : rf 49 0 = 44 := by decide +kernel
theorem rf_49_1 : rf 49 1 = 50 := by decide +kernel
theorem rf_49_2 : rf 49 2 = 64 := by decide +kernel
theorem rf_50_2 : rf 50 2 = 51 := by decide +kernel
theorem rf_50_3 : rf 50 3 = 52 := by decide +kernel
theorem rf_50_4 : rf 50 4 = 53 := by decide +kernel
theorem rf_50_5 : rf 50 5 = 54 := by decide +kernel
theorem rf_50_6 : rf 50 6 = 55 := by decide +kernel
theorem rf_50_7 : rf 50 7 = 56 := by decide +kernel
theorem rf_50_8 : rf 50 8 = 57 := by decide +kernel
theorem rf_50_9 : rf 50 9 = 58 := by decide +kernel
theorem rf_50_10 : rf 50 10 = 59 := by decide +kernel
theorem rf_50_11 : rf 50 11 = 60 := by decide +kernel
theorem rf_60_1 : rf 60 1 = 61 := by decide +kernel
theorem rf_60_2 : rf 60 2 = 62 := by decide +kernel
theorem rf_60_3 : rf 60 3 = 63 := by decide +kernel
theorem rf_65_0 : rf 65 0 = 44 := by decide +kernel
theorem rf_65_1 : rf 65 1 = 66 := by decide +kernel
theorem rf_66_1 : rf 66 1 = 67 := by decide +kernel
theorem rf_66_2 : rf 66 2 = 68 := by decide +kernel
theorem rf_66_3 : rf 66 3 = 69 := by decide +kernel
theorem rf_70_0 : rf 70 0 = 44 := by decide +kernel
theorem rf_70_1 : rf 70 1 = 71 := by decide +kernel
theorem rf_72_0 : rf 72 0 = 2 := by decide +kernel
theorem rf_72_1 : rf 72 1 = 73 := by decide +kernel
theorem rf_72_3 : rf 72 3 = 74 := by decide +kernel
theorem rf_72_4 : rf 72 4 = 75 := by decide +kernel
theorem rf_72_7 : rf 72 7 = 76 := by decide +kernel
theorem rf_72_8 : rf 72 8 = 77 := by decide +kernel
theorem rf_72_9 : rf 72 9 = 78 := by decide +kernel
theorem rf_72_10 : rf 72 10 = 79 := by decide +kernel
theorem rf_72_11 : rf 72 11 = 80 := by decide +kernel
theorem rf_72_12 : rf 72 12 = 81 := by decide +kernel
theorem rf_72_13 : rf 72 13 = 82 := by decide +kernel
theorem rf_83_3 : rf 83 3 = 84 := by decide +kernel
theorem rf_83_5 : rf 83 5 = 85 := by decide +kernel
theorem rf_86_1 : rf 86 1 = 87 := by decide +kernel
theorem rf_86_6 : rf 86 6 = 88 := by decide +kernel
theorem rf_86_7 : rf 86 7 = 89 := by decide +kernel
theorem rf_86_8 : rf 86 8 = 90 := by decide +kernel
theorem rf_86_9 : rf 86 9 = 91 := by decide +kernel
theorem rf_86_10 : rf 86 10 = 92 := by decide +kernel
theorem rf_86_11 : rf 86 11 = 93 := by decide +kernel
theorem rf_86_21 : rf 86 21 = 94 := by decide +kernel
theorem rf_86_22 : rf 86 22 = 95 := by decide +kernel
theorem rf_86_24 : rf 86 24 = 96 := by decide +kernel
theorem rf_86_25 : rf 86 25 = 97 := by decide +kernel
theorem rf_86_26 : rf 86 26 = 98 := by decide +kernel
theorem rf_86_27 : rf 86 27 = 99 := by decide +kernel
theorem rf_86_28 : rf 86 28 = 100 := by decide +kernel
theorem rf_86_29 : rf 86 29 = 101 := by decide +kernel
theorem rf_86_30 : rf 86 30 = 102 := by decide +kernel
theorem rf_86_31 : rf 86 31 = 103 := by decide +kernel
theorem rf_86_32 : rf 86 32 = 104 := by decide +kernel
theorem rf_86_33 : rf 86 33 = 105 := by decide +kernel
theorem rf_86_34 : rf 86 34 = 106 := by decide +kernel
theorem rf_86_38 : rf 86 38 = 107 := by decide +kernel
theorem rf_86_39 : rf 86 39 = 108 := by decide +kernel
theorem rf_86_40 : rf 86 40 = 109 := by decide +kernel
def bt (x : Int32) (i : Nat) : Bool := x.toBitVec.getLsbD i
theorem b_ext {x y : Int32} (h : ∀ i, i < 32 → bt x i = bt y i) : x = y := Int32.toBitVec_inj.mp (BitVec.eq_of_getLsbD_eq (fun i hi => h i hi))
theorem b_or (x y : Int32) (i : Nat) : bt (x ||| y) i = (bt x i || bt y i) := by unfold bt; rw [Int32.toBitVec_or, BitVec.getLsbD_or]
theorem b_and (x y : Int32) (i : Nat) : bt (x &&& y) i = (bt x i && bt y i) := by unfold bt; rw [Int32.toBitVec_and, BitVec.getLsbD_and]
theorem b_xor (x y : Int32) (i : Nat) : bt (x ^^^ y) i = (bt x i ^^ bt y i) := by unfold bt; rw [Int32.toBitVec_xor, BitVec.getLsbD_xor]
theorem b_big {x : Int32} {i : Nat} (h : 32 ≤ i) : bt x i = false := BitVec.getLsbD_of_ge _ _ h
theorem b_255 (i : Nat) : bt 255 i = decide (i < 8) := by
  rcases Nat.lt_or_ge i 32 with h | h
  · exact (by decide +kernel : ∀ i, i < 32 → bt 255 i = decide (i < 8)) i h
  · rw [b_big h, decide_eq_false (by omega)]
theorem b_65535 (i : Nat) : bt 65535 i = decide (i < 16) := by
  rcases Nat.lt_or_ge i 32 with h | h
  · exact (by decide +kernel : ∀ i, i < 32 → bt 65535 i = decide (i < 16)) i h
  · rw [b_big h, decide_eq_false (by omega)]
theorem b_m1 : ∀ i, i < 32 → bt (-1) i = true := by decide +kernel
theorem b_0 (i : Nat) : bt 0 i = false := BitVec.getLsbD_zero
theorem s_l : ∀ n, n < 32 → ((nI n &&& 31).toBitVec.smod 32).toNat = n := by decide +kernel
theorem s_u : ∀ n, n < 32 → (((nI n).toUInt32 &&& Int32.toUInt32 31).toBitVec % 32).toNat = n := by decide +kernel
theorem b_shl (n : Nat) (hn : n < 32) (x : Int32) {i : Nat} (hi : i < 32) : bt (x <<< (nI n &&& 31)) i = (decide (n ≤ i) && bt x (i - n)) := by
  unfold bt
  rw [Int32.toBitVec_shiftLeft]
  show (x.toBitVec <<< ((nI n &&& 31).toBitVec.smod 32).toNat).getLsbD i = _
  rw [s_l n hn, BitVec.getLsbD_shiftLeft]
  rcases Nat.lt_or_ge i n with h | h
  · simp [h, Nat.not_le.mpr h]
  · simp [hi, h, Nat.not_lt.mpr h]
theorem b_ushr (n : Nat) (hn : n < 32) (x : Int32) (i : Nat) : bt ((x.toUInt32 >>> ((nI n).toUInt32 &&& Int32.toUInt32 31)).toInt32) i = bt x (n + i) := by
  show (x.toUInt32 >>> ((nI n).toUInt32 &&& Int32.toUInt32 31)).toBitVec.getLsbD i = x.toUInt32.toBitVec.getLsbD (n + i)
  rw [UInt32.toBitVec_shiftRight]
  show (x.toUInt32.toBitVec >>> (((nI n).toUInt32 &&& Int32.toUInt32 31).toBitVec % 32).toNat).getLsbD i = _
  rw [s_u n hn, BitVec.getLsbD_ushiftRight]
theorem b_sshr (n : Nat) (hn : n < 32) (x : Int32) {i : Nat} (hi : i < 32) : bt (x >>> (nI n &&& 31)) i = if n + i < 32 then bt x (n + i) else bt x 31 := by
  unfold bt
  rw [Int32.toBitVec_shiftRight]
  show (x.toBitVec.sshiftRight ((nI n &&& 31).toBitVec.smod 32).toNat).getLsbD i = _
  rw [s_l n hn, BitVec.getLsbD_sshiftRight, BitVec.msb_eq_getLsbD_last]
  simp [hi]
theorem nx_and (a b : Nat) : nI a &&& nI b = nI (a &&& b) := by
  apply Int32.toBitVec_inj.1
  show BitVec.ofNat 32 a &&& BitVec.ofNat 32 b = BitVec.ofNat 32 (a &&& b)
  apply BitVec.eq_of_getLsbD_eq
  intro i hi
  simp [hi]
theorem nx_or (a b : Nat) : nI a ||| nI b = nI (a ||| b) := by
  apply Int32.toBitVec_inj.1
  show BitVec.ofNat 32 a ||| BitVec.ofNat 32 b = BitVec.ofNat 32 (a ||| b)
  apply BitVec.eq_of_getLsbD_eq
  intro i hi
  simp [hi]
theorem nx_xor (a b : Nat) : nI a ^^^ nI b = nI (a ^^^ b) := by
  apply Int32.toBitVec_inj.1
  show BitVec.ofNat 32 a ^^^ BitVec.ofNat 32 b = BitVec.ofNat 32 (a ^^^ b)
  apply BitVec.eq_of_getLsbD_eq
  intro i hi
  simp [hi]
def mI : Int32 := -1
def mL : Int64 := -1
theorem mI_lit : (-1 : Int32) = mI := id rfl
theorem mL_lit : (-1 : Int64) = mL := id rfl
theorem nI_lit (n : Nat) : (@OfNat.ofNat Int32 n Int32.instOfNat) = nI (@OfNat.ofNat Nat n (instOfNatNat n)) := id rfl
theorem lN_lit (n : Nat) : (@OfNat.ofNat Int64 n Int64.instOfNat) = lN (@OfNat.ofNat Nat n (instOfNatNat n)) := id rfl
theorem ix_nI {n m : Nat} (h : n < 2 ^ 31) : ixb (nI n) m ↔ n < m := by
  constructor
  · intro z
    have := z.2
    rw [nI_clamp h] at this
    exact this
  · intro z
    exact ⟨nI_pos h, by rw [nI_clamp h]; exact z⟩
theorem mI_toInt : mI.toInt = -1 := by decide
theorem mL_toInt : mL.toInt = -1 := by decide
theorem nI_mI {n : Nat} (h : n < 2 ^ 31) : nI n = mI ↔ False := by
  constructor
  · intro z
    have := congrArg Int32.toInt z
    rw [nI_toInt h, mI_toInt] at this
    omega
  · exact False.elim
theorem mI_nI {n : Nat} (h : n < 2 ^ 31) : mI = nI n ↔ False := by
  rw [eq_comm]
  exact nI_mI h
theorem lN_mL {n : Nat} (h : n < 2 ^ 63) : lN n = mL ↔ False := by
  constructor
  · intro z
    have := congrArg Int64.toInt z
    rw [pk_lT h, mL_toInt] at this
    omega
  · exact False.elim
theorem mL_lN {n : Nat} (h : n < 2 ^ 63) : mL = lN n ↔ False := by
  rw [eq_comm]
  exact lN_mL h
theorem mI_lt {n : Nat} (h : n < 2 ^ 31) : mI < nI n ↔ True := by
  rw [Int32.lt_iff_toInt_lt, nI_toInt h, mI_toInt]
  constructor
  · intro _
    trivial
  · intro _
    omega
theorem lt_mI {n : Nat} (h : n < 2 ^ 31) : nI n < mI ↔ False := by
  rw [Int32.lt_iff_toInt_lt, nI_toInt h, mI_toInt]
  constructor
  · intro z
    omega
  · exact False.elim
theorem ix_mI {m : Nat} : ixb mI m ↔ False := by
  constructor
  · intro z
    exact z.1 (by decide)
  · exact False.elim
def pI (x : Nat) : Int32 := nI x - 1
theorem pI_e (x : Nat) : nI x - nI 1 = pI x := id rfl
theorem pI_0 : pI 0 = mI := by decide
theorem pI_s (x : Nat) : pI (x + 1) = nI x := nI_pred x
theorem pI_pos {x : Nat} (h : 0 < x) : pI x = nI (x - 1) := by
  cases x with
  | zero => omega
  | succ x => exact pI_s x
theorem pI_eq {x y : Nat} (hx : x < 2 ^ 31) (hy : y < 2 ^ 31) : pI x = pI y ↔ x = y := by
  constructor
  · intro z
    cases x with
    | zero =>
      cases y with
      | zero => rfl
      | succ y => rw [pI_0, pI_s] at z; exact ((mI_nI (by omega)).mp z).elim
    | succ x =>
      cases y with
      | zero => rw [pI_0, pI_s] at z; exact ((nI_mI (by omega)).mp z).elim
      | succ y => rw [pI_s, pI_s, nI_eq (by omega) (by omega)] at z; rw [z]
  · intro z
    rw [z]
theorem pI_mI {x : Nat} (hx : x < 2 ^ 31) : pI x = mI ↔ x = 0 := by
  rw [← pI_0]
  exact pI_eq hx (by omega)
theorem pI_nI {x y : Nat} (hx : x < 2 ^ 31) (hy : y < 2 ^ 31 - 1) : pI x = nI y ↔ x = y + 1 := by
  rw [← pI_s]
  exact pI_eq hx (by omega)
theorem pI_lt0 {x : Nat} (hx : x < 2 ^ 31) : pI x < nI 0 ↔ x = 0 := by
  cases x with
  | zero => rw [pI_0]; decide
  | succ x => rw [pI_s, nI_ltI (by omega) (by omega)]; omega
-- sets as numbers
theorem q_tb1 {s k : Nat} : (s >>> k) &&& 1 = 1 ↔ s.testBit k = true := by
  rw [Nat.and_one_is_mod, Nat.testBit_eq_decide_div_mod_eq, Nat.shiftRight_eq_div_pow, decide_eq_true_iff]
theorem q_tb1n {s k : Nat} : s / 2 ^ k &&& 1 = 1 ↔ s.testBit k = true := by
  rw [Nat.and_one_is_mod, Nat.testBit_eq_decide_div_mod_eq, decide_eq_true_iff]
theorem q_shr {s k : Nat} (hs : s < 2 ^ 31) (hk : k < 32) : nI s >>> (nI k &&& nI 31) = nI (s / 2 ^ k) := pk_shrN hs _ k (s_l k hk)
theorem q_ushr {s k : Nat} (hs : s < 2 ^ 31) (hk : k < 32) : iushr (nI s) (nI k) = nI (s / 2 ^ k) := by
  unfold iushr
  rw [pk_ushrN (by omega) _ k (s_u k hk)]
theorem q_has {s k : Nat} (hs : s < 2 ^ 31) (hk : k < 32) : ((nI s >>> (nI k &&& nI 31)) &&& nI 1) = nI 1 ↔ s.testBit k = true := by
  rw [q_shr hs hk, nx_and, nI_eq, q_tb1n]
  · have h1 : (s / 2 ^ k) &&& 1 ≤ 1 := Nat.and_le_right
    omega
  · omega
theorem q_uhas {s k : Nat} (hs : s < 2 ^ 31) (hk : k < 32) : (iushr (nI s) (nI k) &&& nI 1) = nI 1 ↔ s.testBit k = true := by
  rw [q_ushr hs hk, nx_and, nI_eq, q_tb1n]
  · have h1 : (s / 2 ^ k) &&& 1 ≤ 1 := Nat.and_le_right
    omega
  · omega
theorem q_shl {k : Nat} (hk : k < 32) : nI 1 <<< (nI k &&& nI 31) = nI (2 ^ k) := by
  have := pk_shlN (n := 1) (nI k &&& 31) k (s_l k hk) (by
    have := Nat.pow_lt_pow_right (a := 2) (by omega) hk
    omega)
  rw [Nat.one_mul] at this
  exact this
theorem ix_T {n m : Nat} (h : n < m ∧ m < 2 ^ 31) : ixb (nI n) m ↔ True := by
  rw [ix_nI (by omega)]
  exact ⟨fun _ => trivial, fun _ => h.1⟩
theorem lt_T {a b : Nat} (h : a < b) : (a < b) = True := eq_true h
theorem lt_F {a b : Nat} (h : ¬ a < b) : (a < b) = False := eq_false h
theorem eq_T {a b : Nat} (h : a = b) : (a = b) = True := eq_true h
theorem eq_F {a b : Nat} (h : ¬ a = b) : (a = b) = False := eq_false h
