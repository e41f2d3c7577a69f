abbrev si_X10_passing : SI := (cX10_passing, RX10, 3, (some .long), 2, 51)
def f_X10_passing (p1 : Int32) (p2 : Int32) (d : DD) : Option (Int64 × DD) :=
  (f_X10_letting (0 : Int32) p1 p2 (1 : Int32) d).bind fun q1 =>
  some (q1.1, q1.2)
set_option maxRecDepth 100000 in
set_option maxHeartbeats 4000000 in
theorem am_X10_passing (p1 : Int32) (p2 : Int32) (d : DD) : AM wrL mi_X10_passing 2 51 [.ref 86, .int p1, .int p2] d (f_X10_passing p1 p2 d) := by
  refine AM_intro (si := si_X10_passing) (lv := [(0, .ref 86), (1, .int p1), (2, .int p2)]) rfl (by decide +kernel) rfl (Nat.le_of_ble_eq_true rfl) (fun E => ?_)
  unfold f_X10_passing
  refine r_aload_n_0 dX10_passing_0 rfl ?_
  refine r_iconst dX10_passing_1 ki_0 ?_
  refine r_iload_n_1 dX10_passing_2 rfl ?_
  refine r_iload_n_2 dX10_passing_3 rfl ?_
  refine r_iconst dX10_passing_4 ki_1 ?_
  refine r_callVL (cc := 10) [] (am_X10_letting (0 : Int32) p1 p2 (1 : Int32) d) rfl rfl cf_X10_letting mw_X10_260 (by decide) dX10_passing_5 rfl (Nat.le_of_ble_eq_true rfl) ⟨rfl, rfl⟩ (fun q1 => ?_)
  exact r_lreturn dX10_passing_8 rfl
theorem cf_X10_passing : CFv mi_X10_passing 2 := ⟨iw_X10_passing, vw_X10_passing, nw_X10, cw_X10_passing, by unfold plainF; decide +kernel⟩
abbrev si_X10_worldsIn : SI := (cX10_worldsIn, RX10, 6, (some .long), 3, 78)
def f_X10_worldsIn_19B (k19 : Int32 → Int64 → Int64 → DD → Option (Int64 × DD)) (v1 : Int32) (v2 : Int64) (v4 : Int64) (d : DD) : Option (Int64 × DD) :=
  (f_X10_worldsNow v1 (-1 : Int32) d).bind fun q3 =>
  if ixb v1 (ln 97) then
  (f_X10_bits ((q3.2.2 97 v1.toNatClampNeg) &&& v2) q3.2).bind fun q4 =>
    bd (v4 + (q3.1 * q4.1.toInt64)) fun x5 =>
    (f_X10_nextWays q4.2).bind fun q6 =>
    if q6.1 = 0 then
    some (x5, q6.2)
    else
    k19 v1 v2 x5 q6.2
  else none
def f_X10_worldsIn_19 : Nat → Int32 → Int64 → Int64 → DD → Option (Int64 × DD)
  | 0, _, _, _, _ => none
  | n + 1, v1, v2, v4, d => f_X10_worldsIn_19B (f_X10_worldsIn_19 n) v1 v2 v4 d
set_option maxRecDepth 100000 in
set_option maxHeartbeats 4000000 in
theorem w_X10_worldsIn_19B {E : XE} (k19 : Int32 → Int64 → Int64 → DD → Option (Int64 × DD)) (hk19 : ∀ (v1 : Int32) (v2 : Int64) (v4 : Int64) (d : DD), AW E si_X10_worldsIn 0 0 (QM E wrL) (k19 v1 v2 v4 d) 19 [(0, .ref 86), (1, .int v1), (2, .long v2), (4, .long v4)] [] d) (v1 : Int32) (v2 : Int64) (v4 : Int64) (d : DD) : AW E si_X10_worldsIn 0 0 (QM E wrL) (f_X10_worldsIn_19B k19 v1 v2 v4 d) 19 [(0, .ref 86), (1, .int v1), (2, .long v2), (4, .long v4)] [] d := by
  unfold f_X10_worldsIn_19B
  refine r_lload_w_3 dX10_worldsIn_19 ?_
  refine r_aload_n_0 dX10_worldsIn_21 rfl ?_
  refine r_iload_n_1 dX10_worldsIn_22 rfl ?_
  refine r_iconst dX10_worldsIn_23 ki_m1 ?_
  refine r_callVL (cc := 10) [.long v4] (am_X10_worldsNow v1 (-1 : Int32) d) rfl rfl cf_X10_worldsNow mw_X10_276 (by decide) dX10_worldsIn_24 rfl (Nat.le_of_ble_eq_true rfl) ⟨rfl, rfl⟩ (fun q3 => ?_)
  refine r_aload_n_0 dX10_worldsIn_27 rfl ?_
  refine r_getr (t := 97) (cc := 10) 25 rfl rfl uX10 (by decide) rfl fw_X10_70 rfl dX10_worldsIn_28 ?_
  refine r_iload_n_1 dX10_worldsIn_31 rfl ?_
  refine r_laload rfl dX10_worldsIn_32 ?_
  refine r_lload_n_2 dX10_worldsIn_33 rfl ?_
  refine r_land dX10_worldsIn_34 ?_
  refine r_callSI [.long q3.1, .long v4] (am_X10_bits ((q3.2.2 97 v1.toNatClampNeg) &&& v2) q3.2) cf_X10_bits mw_X10_266 (by decide) dX10_worldsIn_35 rfl (Nat.le_of_ble_eq_true rfl) ⟨rfl, rfl⟩ (fun q4 => ?_)
  refine r_i2l dX10_worldsIn_38 ?_
  refine r_lmul dX10_worldsIn_39 ?_
  refine r_ladd dX10_worldsIn_40 ?_
  refine r_bdJ (fun x5 => ?_)
  refine r_lstore_w_3 dX10_worldsIn_41 (by decide) rfl ?_
  refine r_aload_n_0 dX10_worldsIn_43 rfl ?_
  refine r_callVI (cc := 10) [] (am_X10_nextWays q4.2) rfl rfl cf_X10_nextWays mw_X10_280 (by decide) dX10_worldsIn_44 rfl (Nat.le_of_ble_eq_true rfl) ⟨rfl, rfl⟩ (fun q6 => ?_)
  refine r_if_ne (tgt := 19) dX10_worldsIn_47 (by decide) ?_ ?_
  · exact hk19 v1 v2 x5 q6.2
  · refine r_lload_w_3 dX10_worldsIn_50 ?_
    exact r_lreturn dX10_worldsIn_52 rfl
theorem w_X10_worldsIn_19 {E : XE} (n : Nat) : ∀ (v1 : Int32) (v2 : Int64) (v4 : Int64) (d : DD), AW E si_X10_worldsIn 0 0 (QM E wrL) (f_X10_worldsIn_19 n v1 v2 v4 d) 19 [(0, .ref 86), (1, .int v1), (2, .long v2), (4, .long v4)] [] d := by
  induction n with
  | zero => intros; exact r_none
  | succ n ih => intro v1 v2 v4 d; exact w_X10_worldsIn_19B (f_X10_worldsIn_19 n) ih v1 v2 v4 d
def f_X10_worldsIn (p1 : Int32) (p2 : Int64) (d : DD) : Option (Int64 × DD) :=
  if ixb (169 : Int32) (ln 88) then
  (f_X10_letAll (d.1 88 (169 : Int32).toNatClampNeg) d).bind fun q1 =>
    (f_X10_firstWays q1.2).bind fun q2 =>
    f_X10_worldsIn_19 FU p1 p2 (0 : Int64) q2.2
  else none
set_option maxRecDepth 100000 in
set_option maxHeartbeats 4000000 in
theorem am_X10_worldsIn (p1 : Int32) (p2 : Int64) (d : DD) : AM wrL mi_X10_worldsIn 3 78 [.ref 86, .int p1, .long p2] d (f_X10_worldsIn p1 p2 d) := by
  refine AM_intro (si := si_X10_worldsIn) (lv := [(0, .ref 86), (1, .int p1), (2, .long p2)]) rfl (by decide +kernel) rfl (Nat.le_of_ble_eq_true rfl) (fun E => ?_)
  unfold f_X10_worldsIn
  refine r_aload_n_0 dX10_worldsIn_0 rfl ?_
  refine r_aload_n_0 dX10_worldsIn_1 rfl ?_
  refine r_getr (t := 88) (cc := 10) 6 rfl rfl uX10 (by decide) rfl fw_X10_41 rfl dX10_worldsIn_2 ?_
  refine r_sipush dX10_worldsIn_5 ks_169 ?_
  refine r_iaload rfl dX10_worldsIn_8 ?_
  refine r_callVU (cc := 10) [] (am_X10_letAll (d.1 88 (169 : Int32).toNatClampNeg) d) rfl rfl cf_X10_letAll mw_X10_270 (by decide) dX10_worldsIn_9 rfl (Nat.le_of_ble_eq_true rfl) ⟨rfl, rfl⟩ (fun q1 => ?_)
  refine r_lconst dX10_worldsIn_12 kl_0 ?_
  refine r_lstore_w_x dX10_worldsIn_13 (by decide) rfl ?_
  refine r_aload_n_1 dX10_worldsIn_15 rfl ?_
  refine r_callVU (cc := 10) [] (am_X10_firstWays q1.2) rfl rfl cf_X10_firstWays mw_X10_273 (by decide) dX10_worldsIn_16 rfl (Nat.le_of_ble_eq_true rfl) ⟨rfl, rfl⟩ (fun q2 => ?_)
  refine r_sub [1, 2, 3, 0] (lv' := [(0, .ref 86), (1, .int p1), (2, .long p2), (4, .long (0 : Int64))]) rfl ?_
  exact w_X10_worldsIn_19 FU p1 p2 (0 : Int64) q2.2
theorem cf_X10_worldsIn : CFv mi_X10_worldsIn 2 := ⟨iw_X10_worldsIn, vw_X10_worldsIn, nw_X10, cw_X10_worldsIn, by unfold plainF; decide +kernel⟩
abbrev si_X10_both : SI := (cX10_both, RX10, 6, (some .long), 4, 103)
def f_X10_both_68B (k68 : Int32 → Int32 → Int32 → Int64 → DD → Option (Int64 × DD)) (v1 : Int32) (v2 : Int32) (v3 : Int32) (v4 : Int64) (d : DD) : Option (Int64 × DD) :=
  (f_X10_worldsNow v1 v2 d).bind fun q7 =>
  if ixb v1 (ln 97) then
  (f_X10_passing v1 v3 q7.2).bind fun q8 =>
    (f_X10_bits ((q7.2.2 97 v1.toNatClampNeg) &&& q8.1) q8.2).bind fun q9 =>
    if ixb v2 (ln 97) then
    (f_X10_passing v2 v3 q9.2).bind fun q10 =>
      (f_X10_bits ((q9.2.2 97 v2.toNatClampNeg) &&& q10.1) q10.2).bind fun q11 =>
      bd (v4 + ((q7.1 * q9.1.toInt64) * q11.1.toInt64)) fun x12 =>
      (f_X10_nextWays q11.2).bind fun q13 =>
      if q13.1 = 0 then
      some (x12, q13.2)
      else
      k68 v1 v2 v3 x12 q13.2
    else none
  else none
def f_X10_both_68 : Nat → Int32 → Int32 → Int32 → Int64 → DD → Option (Int64 × DD)
  | 0, _, _, _, _, _ => none
  | n + 1, v1, v2, v3, v4, d => f_X10_both_68B (f_X10_both_68 n) v1 v2 v3 v4 d
set_option maxRecDepth 100000 in
set_option maxHeartbeats 4000000 in
theorem w_X10_both_68B {E : XE} (k68 : Int32 → Int32 → Int32 → Int64 → DD → Option (Int64 × DD)) (hk68 : ∀ (v1 : Int32) (v2 : Int32) (v3 : Int32) (v4 : Int64) (d : DD), AW E si_X10_both 0 0 (QM E wrL) (k68 v1 v2 v3 v4 d) 68 [(0, .ref 86), (1, .int v1), (2, .int v2), (3, .int v3), (4, .long v4)] [] d) (v1 : Int32) (v2 : Int32) (v3 : Int32) (v4 : Int64) (d : DD) : AW E si_X10_both 0 0 (QM E wrL) (f_X10_both_68B k68 v1 v2 v3 v4 d) 68 [(0, .ref 86), (1, .int v1), (2, .int v2), (3, .int v3), (4, .long v4)] [] d := by
  unfold f_X10_both_68B
  refine r_lload_w_4 dX10_both_68 ?_
  refine r_aload_n_0 dX10_both_70 rfl ?_
  refine r_iload_n_1 dX10_both_71 rfl ?_
  refine r_iload_n_2 dX10_both_72 rfl ?_
  refine r_callVL (cc := 10) [.long v4] (am_X10_worldsNow v1 v2 d) rfl rfl cf_X10_worldsNow mw_X10_276 (by decide) dX10_both_73 rfl (Nat.le_of_ble_eq_true rfl) ⟨rfl, rfl⟩ (fun q7 => ?_)
  refine r_aload_n_0 dX10_both_76 rfl ?_
  refine r_getr (t := 97) (cc := 10) 25 rfl rfl uX10 (by decide) rfl fw_X10_70 rfl dX10_both_77 ?_
  refine r_iload_n_1 dX10_both_80 rfl ?_
  refine r_laload rfl dX10_both_81 ?_
  refine r_aload_n_0 dX10_both_82 rfl ?_
  refine r_iload_n_1 dX10_both_83 rfl ?_
  refine r_iload_n_3 dX10_both_84 rfl ?_
  refine r_callVL (cc := 10) [.long (q7.2.2 97 v1.toNatClampNeg), .long q7.1, .long v4] (am_X10_passing v1 v3 q7.2) rfl rfl cf_X10_passing mw_X10_293 (by decide) dX10_both_85 rfl (Nat.le_of_ble_eq_true rfl) ⟨rfl, rfl⟩ (fun q8 => ?_)
  refine r_land dX10_both_88 ?_
  refine r_callSI [.long q7.1, .long v4] (am_X10_bits ((q7.2.2 97 v1.toNatClampNeg) &&& q8.1) q8.2) cf_X10_bits mw_X10_266 (by decide) dX10_both_89 rfl (Nat.le_of_ble_eq_true rfl) ⟨rfl, rfl⟩ (fun q9 => ?_)
  refine r_i2l dX10_both_92 ?_
  refine r_lmul dX10_both_93 ?_
  refine r_aload_n_0 dX10_both_94 rfl ?_
  refine r_getr (t := 97) (cc := 10) 25 rfl rfl uX10 (by decide) rfl fw_X10_70 rfl dX10_both_95 ?_
  refine r_iload_n_2 dX10_both_98 rfl ?_
  refine r_laload rfl dX10_both_99 ?_
  refine r_aload_n_0 dX10_both_100 rfl ?_
  refine r_iload_n_2 dX10_both_101 rfl ?_
  refine r_iload_n_3 dX10_both_102 rfl ?_
  refine r_callVL (cc := 10) [.long (q9.2.2 97 v2.toNatClampNeg), .long (q7.1 * q9.1.toInt64), .long v4] (am_X10_passing v2 v3 q9.2) rfl rfl cf_X10_passing mw_X10_293 (by decide) dX10_both_103 rfl (Nat.le_of_ble_eq_true rfl) ⟨rfl, rfl⟩ (fun q10 => ?_)
  refine r_land dX10_both_106 ?_
  refine r_callSI [.long (q7.1 * q9.1.toInt64), .long v4] (am_X10_bits ((q9.2.2 97 v2.toNatClampNeg) &&& q10.1) q10.2) cf_X10_bits mw_X10_266 (by decide) dX10_both_107 rfl (Nat.le_of_ble_eq_true rfl) ⟨rfl, rfl⟩ (fun q11 => ?_)
  refine r_i2l dX10_both_110 ?_
  refine r_lmul dX10_both_111 ?_
  refine r_ladd dX10_both_112 ?_
  refine r_bdJ (fun x12 => ?_)
  refine r_lstore_w_4 dX10_both_113 (by decide) rfl ?_
  refine r_aload_n_0 dX10_both_115 rfl ?_
  refine r_callVI (cc := 10) [] (am_X10_nextWays q11.2) rfl rfl cf_X10_nextWays mw_X10_280 (by decide) dX10_both_116 rfl (Nat.le_of_ble_eq_true rfl) ⟨rfl, rfl⟩ (fun q13 => ?_)
  refine r_if_ne (tgt := 68) dX10_both_119 (by decide) ?_ ?_
  · exact hk68 v1 v2 v3 x12 q13.2
  · refine r_lload_w_4 dX10_both_122 ?_
    exact r_lreturn dX10_both_124 rfl
theorem w_X10_both_68 {E : XE} (n : Nat) : ∀ (v1 : Int32) (v2 : Int32) (v3 : Int32) (v4 : Int64) (d : DD), AW E si_X10_both 0 0 (QM E wrL) (f_X10_both_68 n v1 v2 v3 v4 d) 68 [(0, .ref 86), (1, .int v1), (2, .int v2), (3, .int v3), (4, .long v4)] [] d := by
  induction n with
  | zero => intros; exact r_none
  | succ n ih => intro v1 v2 v3 v4 d; exact w_X10_both_68B (f_X10_both_68 n) ih v1 v2 v3 v4 d
def f_X10_both (p1 : Int32) (p2 : Int32) (p3 : Int32) (d : DD) : Option (Int64 × DD) :=
  bd (u1 d 86 0 (0 : Int32)) fun d1 =>
  (f_X10_isKind p1 d1).bind fun q2 =>
  if q2.1 = 0 then
  some ((-1 : Int64), q2.2)
  else
  (f_X10_isKind p2 q2.2).bind fun q3 =>
    if q3.1 = 0 then
    some ((-1 : Int64), q3.2)
    else
    (f_X10_isHour p3 q3.2).bind fun q4 =>
      if q4.1 = 0 then
      some ((-1 : Int64), q4.2)
      else
      if p1 = p2 then
        (f_X10_passing p1 p3 q4.2).bind fun q14 =>
          (f_X10_worldsIn p1 q14.1 q14.2).bind fun q15 =>
          some (q15.1, q15.2)
        else
        if ixb (169 : Int32) (ln 88) then
          (f_X10_letAll (q4.2.1 88 (169 : Int32).toNatClampNeg) q4.2).bind fun q5 =>
            (f_X10_firstWays q5.2).bind fun q6 =>
            f_X10_both_68 FU p1 p2 p3 (0 : Int64) q6.2
          else none
set_option maxRecDepth 100000 in
set_option maxHeartbeats 4000000 in
theorem am_X10_both (p1 : Int32) (p2 : Int32) (p3 : Int32) (d : DD) : AM wrL mi_X10_both 4 103 [.ref 86, .int p1, .int p2, .int p3] d (f_X10_both p1 p2 p3 d) := by
  refine AM_intro (si := si_X10_both) (lv := [(0, .ref 86), (1, .int p1), (2, .int p2), (3, .int p3)]) rfl (by decide +kernel) rfl (Nat.le_of_ble_eq_true rfl) (fun E => ?_)
  unfold f_X10_both
  refine r_aload_n_0 dX10_both_0 rfl ?_
  refine r_iconst dX10_both_1 ki_0 ?_
  refine r_puti (cc := 10) 0 tyX10 tyX10_ok nmX10 rfl (by decide +kernel) rfl rfl uX10 (by decide) rfl fw_X10_1 dX10_both_2 ?_
  refine r_bd (fun d1 => ?_)
  refine r_aload_n_0 dX10_both_5 rfl ?_
  refine r_iload_n_1 dX10_both_6 rfl ?_
  refine r_callVI (cc := 10) [] (am_X10_isKind p1 d1) rfl rfl cf_X10_isKind mw_X10_234 (by decide) dX10_both_7 rfl (Nat.le_of_ble_eq_true rfl) ⟨rfl, rfl⟩ (fun q2 => ?_)
  refine r_if_eq (tgt := 28) dX10_both_10 (by decide) ?_ ?_
  · refine r_ldc2 dX10_both_28 kw_X10_291 ?_
    exact r_lreturn dX10_both_31 rfl
  · refine r_aload_n_0 dX10_both_13 rfl ?_
    refine r_iload_n_2 dX10_both_14 rfl ?_
    refine r_callVI (cc := 10) [] (am_X10_isKind p2 q2.2) rfl rfl cf_X10_isKind mw_X10_234 (by decide) dX10_both_15 rfl (Nat.le_of_ble_eq_true rfl) ⟨rfl, rfl⟩ (fun q3 => ?_)
    refine r_if_eq (tgt := 28) dX10_both_18 (by decide) ?_ ?_
    · refine r_ldc2 dX10_both_28 kw_X10_291 ?_
      exact r_lreturn dX10_both_31 rfl
    · refine r_iload_n_3 dX10_both_21 rfl ?_
      refine r_callSI [] (am_X10_isHour p3 q3.2) cf_X10_isHour mw_X10_245 (by decide) dX10_both_22 rfl (Nat.le_of_ble_eq_true rfl) ⟨rfl, rfl⟩ (fun q4 => ?_)
      refine r_if_ne (tgt := 32) dX10_both_25 (by decide) ?_ ?_
      · refine r_iload_n_1 dX10_both_32 rfl ?_
        refine r_iload_n_2 dX10_both_33 rfl ?_
        refine r_icmp_ne (tgt := 49) dX10_both_34 (by decide) ?_ ?_
        · refine r_aload_n_0 dX10_both_49 rfl ?_
          refine r_aload_n_0 dX10_both_50 rfl ?_
          refine r_getr (t := 88) (cc := 10) 6 rfl rfl uX10 (by decide) rfl fw_X10_41 rfl dX10_both_51 ?_
          refine r_sipush dX10_both_54 ks_169 ?_
          refine r_iaload rfl dX10_both_57 ?_
          refine r_callVU (cc := 10) [] (am_X10_letAll (q4.2.1 88 (169 : Int32).toNatClampNeg) q4.2) rfl rfl cf_X10_letAll mw_X10_270 (by decide) dX10_both_58 rfl (Nat.le_of_ble_eq_true rfl) ⟨rfl, rfl⟩ (fun q5 => ?_)
          refine r_lconst dX10_both_61 kl_0 ?_
          refine r_lstore_w_x dX10_both_62 (by decide) rfl ?_
          refine r_aload_n_1 dX10_both_64 rfl ?_
          refine r_callVU (cc := 10) [] (am_X10_firstWays q5.2) rfl rfl cf_X10_firstWays mw_X10_273 (by decide) dX10_both_65 rfl (Nat.le_of_ble_eq_true rfl) ⟨rfl, rfl⟩ (fun q6 => ?_)
          refine r_sub [1, 2, 3, 4, 0] (lv' := [(0, .ref 86), (1, .int p1), (2, .int p2), (3, .int p3), (4, .long (0 : Int64))]) rfl ?_
          exact w_X10_both_68 FU p1 p2 p3 (0 : Int64) q6.2
        · refine r_aload_n_0 dX10_both_37 rfl ?_
          refine r_iload_n_1 dX10_both_38 rfl ?_
          refine r_aload_n_0 dX10_both_39 rfl ?_
          refine r_iload_n_1 dX10_both_40 rfl ?_
          refine r_iload_n_3 dX10_both_41 rfl ?_
          refine r_callVL (cc := 10) [.int p1, .ref 86] (am_X10_passing p1 p3 q4.2) rfl rfl cf_X10_passing mw_X10_293 (by decide) dX10_both_42 rfl (Nat.le_of_ble_eq_true rfl) ⟨rfl, rfl⟩ (fun q14 => ?_)
          refine r_callVL (cc := 10) [] (am_X10_worldsIn p1 q14.1 q14.2) rfl rfl cf_X10_worldsIn mw_X10_287 (by decide) dX10_both_45 rfl (Nat.le_of_ble_eq_true rfl) ⟨rfl, rfl⟩ (fun q15 => ?_)
          exact r_lreturn dX10_both_48 rfl
      · refine r_ldc2 dX10_both_28 kw_X10_291 ?_
        exact r_lreturn dX10_both_31 rfl
theorem cf_X10_both : CFv mi_X10_both 3 := ⟨iw_X10_both, vw_X10_both, nw_X10, cw_X10_both, by unfold plainF; decide +kernel⟩
abbrev si_X10_clash : SI := (cX10_clash, RX10, 2, (some .int), 4, 101)
def f_X10_clash_7B (k7 : Int32 → DD → Option (Int32 × DD)) (v1 : Int32) (d : DD) : Option (Int32 × DD) :=
  if ixb (169 : Int32) (ln 88) then
  if v1 < (d.1 88 (169 : Int32).toNatClampNeg) then
    (f_X10_worldsBy (v1 + (1 : Int32)) d).bind fun q2 =>
      if q2.1 = (0 : Int64) then
      some (v1, q2.2)
      else
      k7 (v1 + (1 : Int32)) q2.2
    else
    some ((-1 : Int32), d)
  else none
def f_X10_clash_7 : Nat → Int32 → DD → Option (Int32 × DD)
  | 0, _, _ => none
  | n + 1, v1, d => f_X10_clash_7B (f_X10_clash_7 n) v1 d
set_option maxRecDepth 100000 in
set_option maxHeartbeats 4000000 in
theorem w_X10_clash_7B {E : XE} (k7 : Int32 → DD → Option (Int32 × DD)) (hk7 : ∀ (v1 : Int32) (d : DD), AW E si_X10_clash 0 0 (QM E wrI) (k7 v1 d) 7 [(0, .ref 86), (1, .int v1)] [] d) (v1 : Int32) (d : DD) : AW E si_X10_clash 0 0 (QM E wrI) (f_X10_clash_7B k7 v1 d) 7 [(0, .ref 86), (1, .int v1)] [] d := by
  unfold f_X10_clash_7B
  refine r_iload_n_1 dX10_clash_7 rfl ?_
  refine r_aload_n_0 dX10_clash_8 rfl ?_
  refine r_getr (t := 88) (cc := 10) 6 rfl rfl uX10 (by decide) rfl fw_X10_41 rfl dX10_clash_9 ?_
  refine r_sipush dX10_clash_12 ks_169 ?_
  refine r_iaload rfl dX10_clash_15 ?_
  refine r_icmp_ge (tgt := 39) dX10_clash_16 (by decide) ?_ ?_
  · refine r_iconst dX10_clash_39 ki_m1 ?_
    exact r_ireturn dX10_clash_40 rfl
  · refine r_aload_n_0 dX10_clash_19 rfl ?_
    refine r_iload_n_1 dX10_clash_20 rfl ?_
    refine r_iconst dX10_clash_21 ki_1 ?_
    refine r_iadd dX10_clash_22 ?_
    refine r_callVL (cc := 10) [] (am_X10_worldsBy (v1 + (1 : Int32)) d) rfl rfl cf_X10_worldsBy mw_X10_283 (by decide) dX10_clash_23 rfl (Nat.le_of_ble_eq_true rfl) ⟨rfl, rfl⟩ (fun q2 => ?_)
    refine r_lconst dX10_clash_26 kl_0 ?_
    refine r_lcmp_ne (tgt := 33) dX10_clash_27 dX10_clash_28 (by decide) ?_ ?_
    · refine r_iinc_1 dX10_clash_33 ki_1 (by decide) rfl ?_
      refine r_goto (tgt := 7) dX10_clash_36 (by decide) ?_
      exact hk7 (v1 + (1 : Int32)) q2.2
    · refine r_iload_n_1 dX10_clash_31 rfl ?_
      exact r_ireturn dX10_clash_32 rfl
theorem w_X10_clash_7 {E : XE} (n : Nat) : ∀ (v1 : Int32) (d : DD), AW E si_X10_clash 0 0 (QM E wrI) (f_X10_clash_7 n v1 d) 7 [(0, .ref 86), (1, .int v1)] [] d := by
  induction n with
  | zero => intros; exact r_none
  | succ n ih => intro v1 d; exact w_X10_clash_7B (f_X10_clash_7 n) ih v1 d
def f_X10_clash (d : DD) : Option (Int32 × DD) :=
  bd (u1 d 86 0 (0 : Int32)) fun d1 =>
  f_X10_clash_7 FU (0 : Int32) d1
set_option maxRecDepth 100000 in
set_option maxHeartbeats 4000000 in
theorem am_X10_clash (d : DD) : AM wrI mi_X10_clash 4 101 [.ref 86] d (f_X10_clash d) := by
  refine AM_intro (si := si_X10_clash) (lv := [(0, .ref 86)]) rfl (by decide +kernel) rfl (Nat.le_of_ble_eq_true rfl) (fun E => ?_)
  unfold f_X10_clash
  refine r_aload_n_0 dX10_clash_0 rfl ?_
  refine r_iconst dX10_clash_1 ki_0 ?_
  refine r_puti (cc := 10) 0 tyX10 tyX10_ok nmX10 rfl (by decide +kernel) rfl rfl uX10 (by decide) rfl fw_X10_1 dX10_clash_2 ?_
  refine r_bd (fun d1 => ?_)
  refine r_iconst dX10_clash_5 ki_0 ?_
  refine r_istore_n_x dX10_clash_6 rfl (by decide) rfl ?_
  refine r_sub [1, 0] (lv' := [(0, .ref 86), (1, .int (0 : Int32))]) rfl ?_
  exact w_X10_clash_7 FU (0 : Int32) d1
theorem cf_X10_clash : CFv mi_X10_clash 0 := ⟨iw_X10_clash, vw_X10_clash, nw_X10, cw_X10_clash, by unfold plainF; decide +kernel⟩
abbrev si_X10_isPerson : SI := (cX10_isPerson, RX10, 2, (some .boolean), 1, 22)
def f_X10_isPerson (p1 : Int32) (d : DD) : Option (Int32 × DD) :=
  if ixb (1 : Int32) (ln 88) then
  (f_X10_isIn p1 (0 : Int32) ((d.1 88 (1 : Int32).toNatClampNeg) - (1 : Int32)) d).bind fun q1 =>
    if q1.1 = 0 ∨ q1.1 = 1 then some (q1.1, q1.2) else none
  else none
set_option maxRecDepth 100000 in
set_option maxHeartbeats 4000000 in
theorem am_X10_isPerson (p1 : Int32) (d : DD) : AM wrI mi_X10_isPerson 1 22 [.ref 86, .int p1] d (f_X10_isPerson p1 d) := by
  refine AM_intro (si := si_X10_isPerson) (lv := [(0, .ref 86), (1, .int p1)]) rfl (by decide +kernel) rfl (Nat.le_of_ble_eq_true rfl) (fun E => ?_)
  unfold f_X10_isPerson
  refine r_iload_n_1 dX10_isPerson_0 rfl ?_
  refine r_iconst dX10_isPerson_1 ki_0 ?_
  refine r_aload_n_0 dX10_isPerson_2 rfl ?_
  refine r_getr (t := 88) (cc := 10) 6 rfl rfl uX10 (by decide) rfl fw_X10_41 rfl dX10_isPerson_3 ?_
  refine r_iconst dX10_isPerson_6 ki_1 ?_
  refine r_iaload rfl dX10_isPerson_7 ?_
  refine r_iconst dX10_isPerson_8 ki_1 ?_
  refine r_isub dX10_isPerson_9 ?_
  refine r_callSI [] (am_X10_isIn p1 (0 : Int32) ((d.1 88 (1 : Int32).toNatClampNeg) - (1 : Int32)) d) cf_X10_isIn mw_X10_172 (by decide) dX10_isPerson_10 rfl (Nat.le_of_ble_eq_true rfl) ⟨rfl, rfl⟩ (fun q1 => ?_)
  exact r_breturn dX10_isPerson_13 rfl
theorem cf_X10_isPerson : CFv mi_X10_isPerson 1 := ⟨iw_X10_isPerson, vw_X10_isPerson, nw_X10, cw_X10_isPerson, by unfold plainF; decide +kernel⟩
abbrev si_X10_wantOf : SI := (cX10_wantOf, RX10, 4, (some .int), 0, 0)
def f_X10_wantOf (p1 : Int32) (p2 : Int32) (d : DD) : Option (Int32 × DD) :=
  if ixb (((49 : Int32) + ((30 : Int32) * p1)) + p2) (ln 88) then
  bd (d.1 88 (((49 : Int32) + ((30 : Int32) * p1)) + p2).toNatClampNeg) fun x1 =>
    if 0 < x1 then
    some (x1 - (1 : Int32), d)
    else
    some ((0 : Int32), d)
  else none
set_option maxRecDepth 100000 in
set_option maxHeartbeats 4000000 in
theorem am_X10_wantOf (p1 : Int32) (p2 : Int32) (d : DD) : AM wrI mi_X10_wantOf 0 0 [.ref 86, .int p1, .int p2] d (f_X10_wantOf p1 p2 d) := by
  refine AM_intro (si := si_X10_wantOf) (lv := [(0, .ref 86), (1, .int p1), (2, .int p2)]) rfl (by decide +kernel) rfl (Nat.le_of_ble_eq_true rfl) (fun E => ?_)
  unfold f_X10_wantOf
  refine r_aload_n_0 dX10_wantOf_0 rfl ?_
  refine r_getr (t := 88) (cc := 10) 6 rfl rfl uX10 (by decide) rfl fw_X10_41 rfl dX10_wantOf_1 ?_
  refine r_bipush dX10_wantOf_4 kb_49 ?_
  refine r_bipush dX10_wantOf_6 kb_30 ?_
  refine r_iload_n_1 dX10_wantOf_8 rfl ?_
  refine r_imul dX10_wantOf_9 ?_
  refine r_iadd dX10_wantOf_10 ?_
  refine r_iload_n_2 dX10_wantOf_11 rfl ?_
  refine r_iadd dX10_wantOf_12 ?_
  refine r_iaload rfl dX10_wantOf_13 ?_
  refine r_bdI (fun x1 => ?_)
  refine r_istore_n_x dX10_wantOf_14 rfl (by decide) rfl ?_
  refine r_iload_n_0 dX10_wantOf_15 rfl ?_
  refine r_if_le (tgt := 25) dX10_wantOf_16 (by decide) ?_ ?_
  · refine r_iconst dX10_wantOf_25 ki_0 ?_
    exact r_ireturn dX10_wantOf_26 rfl
  · refine r_iload_n_0 dX10_wantOf_19 rfl ?_
    refine r_iconst dX10_wantOf_20 ki_1 ?_
    refine r_isub dX10_wantOf_21 ?_
    refine r_goto (tgt := 26) dX10_wantOf_22 (by decide) ?_
    exact r_ireturn dX10_wantOf_26 rfl
theorem cf_X10_wantOf : CFv mi_X10_wantOf 2 := ⟨iw_X10_wantOf, vw_X10_wantOf, nw_X10, cw_X10_wantOf, by unfold plainF; decide +kernel⟩
abbrev si_X10_content : SI := (cX10_content, RX10, 4, (some .int), 2, 43)
def f_X10_content_19B (k19 : Int32 → Int32 → Int32 → DD → Option (Int32 × DD)) (v1 : Int32) (v2 : Int32) (v3 : Int32) (d : DD) : Option (Int32 × DD) :=
  if v3 < (30 : Int32) then
  if ixb ((19 : Int32) + v3) (ln 88) then
    if ((d.1 88 ((19 : Int32) + v3).toNatClampNeg) - (1 : Int32)) = v1 then
      (f_X10_wantOf v1 v3 d).bind fun q4 =>
        bd (v2 + q4.1) fun x5 =>
        k19 v1 x5 (v3 + (1 : Int32)) q4.2
      else
      bd (v2 + (0 : Int32)) fun x3 =>
        k19 v1 x3 (v3 + (1 : Int32)) d
    else none
  else
  some (v2, d)
def f_X10_content_19 : Nat → Int32 → Int32 → Int32 → DD → Option (Int32 × DD)
  | 0, _, _, _, _ => none
  | n + 1, v1, v2, v3, d => f_X10_content_19B (f_X10_content_19 n) v1 v2 v3 d
set_option maxRecDepth 100000 in
set_option maxHeartbeats 4000000 in
theorem w_X10_content_19B {E : XE} (k19 : Int32 → Int32 → Int32 → DD → Option (Int32 × DD)) (hk19 : ∀ (v1 : Int32) (v2 : Int32) (v3 : Int32) (d : DD), AW E si_X10_content 0 0 (QM E wrI) (k19 v1 v2 v3 d) 19 [(0, .ref 86), (1, .int v1), (2, .int v2), (3, .int v3)] [] d) (v1 : Int32) (v2 : Int32) (v3 : Int32) (d : DD) : AW E si_X10_content 0 0 (QM E wrI) (f_X10_content_19B k19 v1 v2 v3 d) 19 [(0, .ref 86), (1, .int v1), (2, .int v2), (3, .int v3)] [] d := by
  unfold f_X10_content_19B
  refine r_iload_n_3 dX10_content_19 rfl ?_
  refine r_bipush dX10_content_20 kb_30 ?_
  refine r_icmp_ge (tgt := 59) dX10_content_22 (by decide) ?_ ?_
  · refine r_iload_n_2 dX10_content_59 rfl ?_
    exact r_ireturn dX10_content_60 rfl
  · refine r_iload_n_2 dX10_content_25 rfl ?_
    refine r_aload_n_0 dX10_content_26 rfl ?_
    refine r_getr (t := 88) (cc := 10) 6 rfl rfl uX10 (by decide) rfl fw_X10_41 rfl dX10_content_27 ?_
    refine r_bipush dX10_content_30 kb_19 ?_
    refine r_iload_n_3 dX10_content_32 rfl ?_
    refine r_iadd dX10_content_33 ?_
    refine r_iaload rfl dX10_content_34 ?_
    refine r_iconst dX10_content_35 ki_1 ?_
    refine r_isub dX10_content_36 ?_
    refine r_iload_n_1 dX10_content_37 rfl ?_
    refine r_icmp_ne (tgt := 50) dX10_content_38 (by decide) ?_ ?_
    · refine r_iconst dX10_content_50 ki_0 ?_
      refine r_iadd dX10_content_51 ?_
      refine r_bdI (fun x3 => ?_)
      refine r_istore_n_2 dX10_content_52 rfl (by decide) rfl ?_
      refine r_iinc_3 dX10_content_53 ki_1 (by decide) rfl ?_
      refine r_goto (tgt := 19) dX10_content_56 (by decide) ?_
      exact hk19 v1 x3 (v3 + (1 : Int32)) d
    · refine r_aload_n_0 dX10_content_41 rfl ?_
      refine r_iload_n_1 dX10_content_42 rfl ?_
      refine r_iload_n_3 dX10_content_43 rfl ?_
      refine r_callVI (cc := 10) [.int v2] (am_X10_wantOf v1 v3 d) rfl rfl cf_X10_wantOf mw_X10_342 (by decide) dX10_content_44 rfl (Nat.le_of_ble_eq_true rfl) ⟨rfl, rfl⟩ (fun q4 => ?_)
      refine r_goto (tgt := 51) dX10_content_47 (by decide) ?_
      refine r_iadd dX10_content_51 ?_
      refine r_bdI (fun x5 => ?_)
      refine r_istore_n_2 dX10_content_52 rfl (by decide) rfl ?_
      refine r_iinc_3 dX10_content_53 ki_1 (by decide) rfl ?_
      refine r_goto (tgt := 19) dX10_content_56 (by decide) ?_
      exact hk19 v1 x5 (v3 + (1 : Int32)) q4.2
theorem w_X10_content_19 {E : XE} (n : Nat) : ∀ (v1 : Int32) (v2 : Int32) (v3 : Int32) (d : DD), AW E si_X10_content 0 0 (QM E wrI) (f_X10_content_19 n v1 v2 v3 d) 19 [(0, .ref 86), (1, .int v1), (2, .int v2), (3, .int v3)] [] d := by
  induction n with
  | zero => intros; exact r_none
  | succ n ih => intro v1 v2 v3 d; exact w_X10_content_19B (f_X10_content_19 n) ih v1 v2 v3 d
def f_X10_content (p1 : Int32) (d : DD) : Option (Int32 × DD) :=
  bd (u1 d 86 0 (0 : Int32)) fun d1 =>
  (f_X10_isPerson p1 d1).bind fun q2 =>
  if q2.1 = 0 then
  some ((-1 : Int32), q2.2)
  else
  f_X10_content_19 FU p1 (0 : Int32) (0 : Int32) q2.2
set_option maxRecDepth 100000 in
set_option maxHeartbeats 4000000 in
theorem am_X10_content (p1 : Int32) (d : DD) : AM wrI mi_X10_content 2 43 [.ref 86, .int p1] d (f_X10_content p1 d) := by
  refine AM_intro (si := si_X10_content) (lv := [(0, .ref 86), (1, .int p1)]) rfl (by decide +kernel) rfl (Nat.le_of_ble_eq_true rfl) (fun E => ?_)
  unfold f_X10_content
  refine r_aload_n_0 dX10_content_0 rfl ?_
  refine r_iconst dX10_content_1 ki_0 ?_
  refine r_puti (cc := 10) 0 tyX10 tyX10_ok nmX10 rfl (by decide +kernel) rfl rfl uX10 (by decide) rfl fw_X10_1 dX10_content_2 ?_
  refine r_bd (fun d1 => ?_)
  refine r_aload_n_0 dX10_content_5 rfl ?_
  refine r_iload_n_1 dX10_content_6 rfl ?_
  refine r_callVI (cc := 10) [] (am_X10_isPerson p1 d1) rfl rfl cf_X10_isPerson mw_X10_248 (by decide) dX10_content_7 rfl (Nat.le_of_ble_eq_true rfl) ⟨rfl, rfl⟩ (fun q2 => ?_)
  refine r_if_ne (tgt := 15) dX10_content_10 (by decide) ?_ ?_
  · refine r_iconst dX10_content_15 ki_0 ?_
    refine r_istore_n_x dX10_content_16 rfl (by decide) rfl ?_
    refine r_iconst dX10_content_17 ki_0 ?_
    refine r_istore_n_x dX10_content_18 rfl (by decide) rfl ?_
    refine r_sub [2, 3, 1, 0] (lv' := [(0, .ref 86), (1, .int p1), (2, .int (0 : Int32)), (3, .int (0 : Int32))]) rfl ?_
    exact w_X10_content_19 FU p1 (0 : Int32) (0 : Int32) q2.2
  · refine r_iconst dX10_content_13 ki_m1 ?_
    exact r_ireturn dX10_content_14 rfl
theorem cf_X10_content : CFv mi_X10_content 1 := ⟨iw_X10_content, vw_X10_content, nw_X10, cw_X10_content, by unfold plainF; decide +kernel⟩
abbrev si_X10_count : SI := (cX10_count, RX10, 4, (some .int), 0, 0)
def f_X10_count_9B (k9 : Int32 → Int32 → Int32 → DD → Option (Int32 × DD)) (v1 : Int32) (v2 : Int32) (v3 : Int32) (d : DD) : Option (Int32 × DD) :=
  if v3 < (30 : Int32) then
  if ixb ((19 : Int32) + v3) (ln 88) then
    if 0 < (d.1 88 ((19 : Int32) + v3).toNatClampNeg) then
      bd (v2 + (1 : Int32)) fun x3 =>
        k9 v1 x3 (v3 + (1 : Int32)) d
      else
      bd (v2 + (0 : Int32)) fun x2 =>
        k9 v1 x2 (v3 + (1 : Int32)) d
    else none
  else
  if v1 = (0 : Int32) then
    if ixb (0 : Int32) (ln 88) then
      some (d.1 88 (0 : Int32).toNatClampNeg, d)
      else none
    else if v1 = (1 : Int32) then
    if ixb (1 : Int32) (ln 88) then
      some (d.1 88 (1 : Int32).toNatClampNeg, d)
      else none
    else if v1 = (2 : Int32) then
    if ixb (169 : Int32) (ln 88) then
      some (d.1 88 (169 : Int32).toNatClampNeg, d)
      else none
    else if v1 = (3 : Int32) then
    some (v2, d)
    else if v1 = (4 : Int32) then
    some (d.1 86 2, d)
    else 
    some ((-1 : Int32), d)
def f_X10_count_9 : Nat → Int32 → Int32 → Int32 → DD → Option (Int32 × DD)
  | 0, _, _, _, _ => none
  | n + 1, v1, v2, v3, d => f_X10_count_9B (f_X10_count_9 n) v1 v2 v3 d
set_option maxRecDepth 100000 in
set_option maxHeartbeats 4000000 in
theorem w_X10_count_9B {E : XE} (k9 : Int32 → Int32 → Int32 → DD → Option (Int32 × DD)) (hk9 : ∀ (v1 : Int32) (v2 : Int32) (v3 : Int32) (d : DD), AW E si_X10_count 0 0 (QM E wrI) (k9 v1 v2 v3 d) 9 [(0, .ref 86), (1, .int v1), (2, .int v2), (3, .int v3)] [] d) (v1 : Int32) (v2 : Int32) (v3 : Int32) (d : DD) : AW E si_X10_count 0 0 (QM E wrI) (f_X10_count_9B k9 v1 v2 v3 d) 9 [(0, .ref 86), (1, .int v1), (2, .int v2), (3, .int v3)] [] d := by
  unfold f_X10_count_9B
  refine r_iload_n_3 dX10_count_9 rfl ?_
  refine r_bipush dX10_count_10 kb_30 ?_
  refine r_icmp_ge (tgt := 41) dX10_count_12 (by decide) ?_ ?_
  · refine r_iload_n_1 dX10_count_41 rfl ?_
    refine r_if (fun q => r_tsw (tgt := 76) dX10_count_42 q (by decide) (by decide) rfl (by decide) ?_) (fun q0 => ?_)
    · refine r_aload_n_0 dX10_count_76 rfl ?_
      refine r_getr (t := 88) (cc := 10) 6 rfl rfl uX10 (by decide) rfl fw_X10_41 rfl dX10_count_77 ?_
      refine r_iconst dX10_count_80 ki_0 ?_
      refine r_iaload rfl dX10_count_81 ?_
      exact r_ireturn dX10_count_82 rfl
    · refine r_if (fun q => r_tsw (tgt := 83) dX10_count_42 q (by decide) (by decide) rfl (by decide) ?_) (fun q1 => ?_)
      · refine r_aload_n_0 dX10_count_83 rfl ?_
        refine r_getr (t := 88) (cc := 10) 6 rfl rfl uX10 (by decide) rfl fw_X10_41 rfl dX10_count_84 ?_
        refine r_iconst dX10_count_87 ki_1 ?_
        refine r_iaload rfl dX10_count_88 ?_
        exact r_ireturn dX10_count_89 rfl
      · refine r_if (fun q => r_tsw (tgt := 90) dX10_count_42 q (by decide) (by decide) rfl (by decide) ?_) (fun q2 => ?_)
        · refine r_aload_n_0 dX10_count_90 rfl ?_
          refine r_getr (t := 88) (cc := 10) 6 rfl rfl uX10 (by decide) rfl fw_X10_41 rfl dX10_count_91 ?_
          refine r_sipush dX10_count_94 ks_169 ?_
          refine r_iaload rfl dX10_count_97 ?_
          exact r_ireturn dX10_count_98 rfl
        · refine r_if (fun q => r_tsw (tgt := 99) dX10_count_42 q (by decide) (by decide) rfl (by decide) ?_) (fun q3 => ?_)
          · refine r_iload_n_2 dX10_count_99 rfl ?_
            exact r_ireturn dX10_count_100 rfl
          · refine r_if (fun q => r_tsw (tgt := 101) dX10_count_42 q (by decide) (by decide) rfl (by decide) ?_) (fun q4 => ?_)
            · refine r_aload_n_0 dX10_count_101 rfl ?_
              refine r_geti (cc := 10) 2 rfl rfl uX10 (by decide) rfl fw_X10_7 dX10_count_102 ?_
              exact r_ireturn dX10_count_105 rfl
            · have tq : (v1).toInt < 0 ∨ 4 < (v1).toInt := by
                have z0 := lv_neT (a := 0) q0 (by decide)
                have z1 := lv_neT (a := 1) q1 (by decide)
                have z2 := lv_neT (a := 2) q2 (by decide)
                have z3 := lv_neT (a := 3) q3 (by decide)
                have z4 := lv_neT (a := 4) q4 (by decide)
                omega
              refine r_tswO (tgt := 106) dX10_count_42 tq (by decide) ?_
              refine r_iconst dX10_count_106 ki_m1 ?_
              exact r_ireturn dX10_count_107 rfl
  · refine r_iload_n_2 dX10_count_15 rfl ?_
    refine r_aload_n_0 dX10_count_16 rfl ?_
    refine r_getr (t := 88) (cc := 10) 6 rfl rfl uX10 (by decide) rfl fw_X10_41 rfl dX10_count_17 ?_
    refine r_bipush dX10_count_20 kb_19 ?_
    refine r_iload_n_3 dX10_count_22 rfl ?_
    refine r_iadd dX10_count_23 ?_
    refine r_iaload rfl dX10_count_24 ?_
    refine r_if_le (tgt := 32) dX10_count_25 (by decide) ?_ ?_
    · refine r_iconst dX10_count_32 ki_0 ?_
      refine r_iadd dX10_count_33 ?_
      refine r_bdI (fun x2 => ?_)
      refine r_istore_n_2 dX10_count_34 rfl (by decide) rfl ?_
      refine r_iinc_3 dX10_count_35 ki_1 (by decide) rfl ?_
      refine r_goto (tgt := 9) dX10_count_38 (by decide) ?_
      exact hk9 v1 x2 (v3 + (1 : Int32)) d
    · refine r_iconst dX10_count_28 ki_1 ?_
      refine r_goto (tgt := 33) dX10_count_29 (by decide) ?_
      refine r_iadd dX10_count_33 ?_
      refine r_bdI (fun x3 => ?_)
      refine r_istore_n_2 dX10_count_34 rfl (by decide) rfl ?_
      refine r_iinc_3 dX10_count_35 ki_1 (by decide) rfl ?_
      refine r_goto (tgt := 9) dX10_count_38 (by decide) ?_
      exact hk9 v1 x3 (v3 + (1 : Int32)) d
theorem w_X10_count_9 {E : XE} (n : Nat) : ∀ (v1 : Int32) (v2 : Int32) (v3 : Int32) (d : DD), AW E si_X10_count 0 0 (QM E wrI) (f_X10_count_9 n v1 v2 v3 d) 9 [(0, .ref 86), (1, .int v1), (2, .int v2), (3, .int v3)] [] d := by
  induction n with
  | zero => intros; exact r_none
  | succ n ih => intro v1 v2 v3 d; exact w_X10_count_9B (f_X10_count_9 n) ih v1 v2 v3 d
def f_X10_count (p1 : Int32) (d : DD) : Option (Int32 × DD) :=
  bd (u1 d 86 0 (0 : Int32)) fun d1 =>
  f_X10_count_9 FU p1 (0 : Int32) (0 : Int32) d1
set_option maxRecDepth 100000 in
set_option maxHeartbeats 4000000 in
theorem am_X10_count (p1 : Int32) (d : DD) : AM wrI mi_X10_count 0 0 [.ref 86, .int p1] d (f_X10_count p1 d) := by
  refine AM_intro (si := si_X10_count) (lv := [(0, .ref 86), (1, .int p1)]) rfl (by decide +kernel) rfl (Nat.le_of_ble_eq_true rfl) (fun E => ?_)
  unfold f_X10_count
  refine r_aload_n_0 dX10_count_0 rfl ?_
  refine r_iconst dX10_count_1 ki_0 ?_
  refine r_puti (cc := 10) 0 tyX10 tyX10_ok nmX10 rfl (by decide +kernel) rfl rfl uX10 (by decide) rfl fw_X10_1 dX10_count_2 ?_
  refine r_bd (fun d1 => ?_)
  refine r_iconst dX10_count_5 ki_0 ?_
  refine r_istore_n_x dX10_count_6 rfl (by decide) rfl ?_
  refine r_iconst dX10_count_7 ki_0 ?_
  refine r_istore_n_x dX10_count_8 rfl (by decide) rfl ?_
  refine r_sub [2, 3, 1, 0] (lv' := [(0, .ref 86), (1, .int p1), (2, .int (0 : Int32)), (3, .int (0 : Int32))]) rfl ?_
  exact w_X10_count_9 FU p1 (0 : Int32) (0 : Int32) d1
theorem cf_X10_count : CFv mi_X10_count 1 := ⟨iw_X10_count, vw_X10_count, nw_X10, cw_X10_count, by unfold plainF; decide +kernel⟩
abbrev si_X10_draw : SI := (cX10_draw, RX10, 2, (some .int), 0, 0)
def f_X10_draw (p1 : Int32) (d : DD) : Option (Int32 × DD) :=
  bd (u1 d 86 37 (((d.1 86 37) * (1103515245 : Int32)) + (12345 : Int32))) fun d1 =>
  if p1 = 0 then none else
  some ((iushr (d1.1 86 37) (8 : Int32)) - (iushr (d1.1 86 37) (8 : Int32)) / p1 * p1, d1)
set_option maxRecDepth 100000 in
set_option maxHeartbeats 4000000 in
theorem am_X10_draw (p1 : Int32) (d : DD) : AM wrI mi_X10_draw 0 0 [.ref 86, .int p1] d (f_X10_draw p1 d) := by
  refine AM_intro (si := si_X10_draw) (lv := [(0, .ref 86), (1, .int p1)]) rfl (by decide +kernel) rfl (Nat.le_of_ble_eq_true rfl) (fun E => ?_)
  unfold f_X10_draw
  refine r_aload_n_0 dX10_draw_0 rfl ?_
  refine r_aload_n_0 dX10_draw_1 rfl ?_
  refine r_geti (cc := 10) 37 rfl rfl uX10 (by decide) rfl fw_X10_348 dX10_draw_2 ?_
  refine r_ldcw dX10_draw_5 kw_X10_351 ?_
  refine r_imul dX10_draw_8 ?_
  refine r_sipush dX10_draw_9 ks_12345 ?_
  refine r_iadd dX10_draw_12 ?_
  refine r_puti (cc := 10) 37 tyX10 tyX10_ok nmX10 rfl (by decide +kernel) rfl rfl uX10 (by decide) rfl fw_X10_348 dX10_draw_13 ?_
  refine r_bd (fun d1 => ?_)
  refine r_aload_n_0 dX10_draw_16 rfl ?_
  refine r_geti (cc := 10) 37 rfl rfl uX10 (by decide) rfl fw_X10_348 dX10_draw_17 ?_
  refine r_bipush dX10_draw_20 kb_8 ?_
  refine r_iushr dX10_draw_22 ?_
  refine r_iload_n_1 dX10_draw_23 rfl ?_
  refine r_if (fun _ => r_none) (fun hy => r_irem dX10_draw_24 hy ?_)
  exact r_ireturn dX10_draw_25 rfl
theorem cf_X10_draw : CFv mi_X10_draw 1 := ⟨iw_X10_draw, vw_X10_draw, nw_X10, cw_X10_draw, by unfold plainF; decide +kernel⟩
abbrev si_X10_taken : SI := (cX10_taken, RX10, 2, none, 0, 0)
def f_X10_taken (p1 : Int32) (d : DD) : Option (Unit × DD) :=
  bd (u1 d 86 3 (d.1 86 2)) fun d1 =>
  bd (u1 d1 86 2 (0 : Int32)) fun d2 =>
  bd (u1 d2 86 4 (0 : Int32)) fun d3 =>
  bd (u1 d3 86 5 p1) fun d4 =>
  some ((), d4)
set_option maxRecDepth 100000 in
set_option maxHeartbeats 4000000 in
theorem am_X10_taken (p1 : Int32) (d : DD) : AM wrU mi_X10_taken 0 0 [.ref 86, .int p1] d (f_X10_taken p1 d) := by
  refine AM_intro (si := si_X10_taken) (lv := [(0, .ref 86), (1, .int p1)]) rfl (by decide +kernel) rfl (Nat.le_of_ble_eq_true rfl) (fun E => ?_)
  unfold f_X10_taken
  refine r_aload_n_0 dX10_taken_0 rfl ?_
  refine r_aload_n_0 dX10_taken_1 rfl ?_
  refine r_geti (cc := 10) 2 rfl rfl uX10 (by decide) rfl fw_X10_7 dX10_taken_2 ?_
  refine r_puti (cc := 10) 3 tyX10 tyX10_ok nmX10 rfl (by decide +kernel) rfl rfl uX10 (by decide) rfl fw_X10_18 dX10_taken_5 ?_
  refine r_bd (fun d1 => ?_)
  refine r_aload_n_0 dX10_taken_8 rfl ?_
  refine r_iconst dX10_taken_9 ki_0 ?_
  refine r_puti (cc := 10) 2 tyX10 tyX10_ok nmX10 rfl (by decide +kernel) rfl rfl uX10 (by decide) rfl fw_X10_7 dX10_taken_10 ?_
  refine r_bd (fun d2 => ?_)
  refine r_aload_n_0 dX10_taken_13 rfl ?_
  refine r_iconst dX10_taken_14 ki_0 ?_
  refine r_puti (cc := 10) 4 tyX10 tyX10_ok nmX10 rfl (by decide +kernel) rfl rfl uX10 (by decide) rfl fw_X10_21 dX10_taken_15 ?_
  refine r_bd (fun d3 => ?_)
  refine r_aload_n_0 dX10_taken_18 rfl ?_
  refine r_iload_n_1 dX10_taken_19 rfl ?_
  refine r_puti (cc := 10) 5 tyX10 tyX10_ok nmX10 rfl (by decide +kernel) rfl rfl uX10 (by decide) rfl fw_X10_24 dX10_taken_20 ?_
  refine r_bd (fun d4 => ?_)
  exact r_return dX10_taken_23 rfl
theorem cf_X10_taken : CFv mi_X10_taken 1 := ⟨iw_X10_taken, vw_X10_taken, nw_X10, cw_X10_taken, by unfold plainF; decide +kernel⟩
abbrev si_X10_truly : SI := (cX10_truly, RX10, 2, (some .int), 0, 0)
def f_X10_truly (p1 : Int32) (d : DD) : Option (Int32 × DD) :=
  if ixb ((8 : Int32) + p1) (ln 88) then
  some ((d.1 88 ((8 : Int32) + p1).toNatClampNeg) - (1 : Int32), d)
  else none
set_option maxRecDepth 100000 in
set_option maxHeartbeats 4000000 in
theorem am_X10_truly (p1 : Int32) (d : DD) : AM wrI mi_X10_truly 0 0 [.ref 86, .int p1] d (f_X10_truly p1 d) := by
  refine AM_intro (si := si_X10_truly) (lv := [(0, .ref 86), (1, .int p1)]) rfl (by decide +kernel) rfl (Nat.le_of_ble_eq_true rfl) (fun E => ?_)
  unfold f_X10_truly
  refine r_aload_n_0 dX10_truly_0 rfl ?_
  refine r_getr (t := 88) (cc := 10) 6 rfl rfl uX10 (by decide) rfl fw_X10_41 rfl dX10_truly_1 ?_
  refine r_bipush dX10_truly_4 kb_8 ?_
  refine r_iload_n_1 dX10_truly_6 rfl ?_
  refine r_iadd dX10_truly_7 ?_
  refine r_iaload rfl dX10_truly_8 ?_
  refine r_iconst dX10_truly_9 ki_1 ?_
  refine r_isub dX10_truly_10 ?_
  exact r_ireturn dX10_truly_11 rfl
theorem cf_X10_truly : CFv mi_X10_truly 1 := ⟨iw_X10_truly, vw_X10_truly, nw_X10, cw_X10_truly, by unfold plainF; decide +kernel⟩
abbrev si_X10_octet : SI := (cX10_octet, RX10, 2, (some .int), 0, 0)
def f_X10_octet (p1 : Int32) (d : DD) : Option (Int32 × DD) :=
  if ixb p1 (ln 87) then
  some ((d.1 87 p1.toNatClampNeg) &&& (255 : Int32), d)
  else none
set_option maxRecDepth 100000 in
set_option maxHeartbeats 4000000 in
theorem am_X10_octet (p1 : Int32) (d : DD) : AM wrI mi_X10_octet 0 0 [.ref 86, .int p1] d (f_X10_octet p1 d) := by
  refine AM_intro (si := si_X10_octet) (lv := [(0, .ref 86), (1, .int p1)]) rfl (by decide +kernel) rfl (Nat.le_of_ble_eq_true rfl) (fun E => ?_)
  unfold f_X10_octet
  refine r_aload_n_0 dX10_octet_0 rfl ?_
  refine r_getr (t := 87) (cc := 10) 1 rfl rfl uX10 (by decide) rfl fw_X10_14 rfl dX10_octet_1 ?_
  refine r_iload_n_1 dX10_octet_4 rfl ?_
  refine r_baload rfl dX10_octet_5 ?_
  refine r_sipush dX10_octet_6 ks_255 ?_
  refine r_iand dX10_octet_9 ?_
  exact r_ireturn dX10_octet_10 rfl
theorem cf_X10_octet : CFv mi_X10_octet 1 := ⟨iw_X10_octet, vw_X10_octet, nw_X10, cw_X10_octet, by unfold plainF; decide +kernel⟩
abbrev si_X10_drawn : SI := (cX10_drawn, RX10, 11, (some .boolean), 1, 22)
def f_X10_drawn_309 (k150 : Int32 → Int32 → DD → Option (Int32 × DD)) (v1 : Int32) (v4 : Int32) (v5 : Int32) (v6 : Int32) (v9 : Int32) (d : DD) : Option (Int32 × DD) :=
  if ixb ((170 : Int32) + ((3 : Int32) * v4)) (ln 88) then
  bd (u1 d 88 ((170 : Int32) + ((3 : Int32) * v4)).toNatClampNeg v5) fun d9 =>
  if ixb (((170 : Int32) + ((3 : Int32) * v4)) + (1 : Int32)) (ln 88) then
    bd (u1 d9 88 (((170 : Int32) + ((3 : Int32) * v4)) + (1 : Int32)).toNatClampNeg v6) fun d10 =>
    if ixb (((170 : Int32) + ((3 : Int32) * v4)) + (2 : Int32)) (ln 88) then
      bd (u1 d10 88 (((170 : Int32) + ((3 : Int32) * v4)) + (2 : Int32)).toNatClampNeg v9) fun d11 =>
      k150 v1 (v4 + (1 : Int32)) d11
      else none
    else none
  else none
set_option maxRecDepth 100000 in
set_option maxHeartbeats 4000000 in
theorem w_X10_drawn_309 {E : XE} (k150 : Int32 → Int32 → DD → Option (Int32 × DD)) (hk150 : ∀ (v1 : Int32) (v4 : Int32) (d : DD), AW E si_X10_drawn 0 0 (QM E wrI) (k150 v1 v4 d) 150 [(0, .ref 86), (1, .int v1), (4, .int v4)] [] d) (v1 : Int32) (v4 : Int32) (v5 : Int32) (v6 : Int32) (v9 : Int32) (d : DD) : AW E si_X10_drawn 0 0 (QM E wrI) (f_X10_drawn_309 k150 v1 v4 v5 v6 v9 d) 309 [(0, .ref 86), (1, .int v1), (4, .int v4), (5, .int v5), (6, .int v6), (9, .int v9)] [] d := by
  unfold f_X10_drawn_309
  refine r_aload_n_0 dX10_drawn_309 rfl ?_
  refine r_getr (t := 88) (cc := 10) 6 rfl rfl uX10 (by decide) rfl fw_X10_41 rfl dX10_drawn_310 ?_
  refine r_sipush dX10_drawn_313 ks_170 ?_
  refine r_iconst dX10_drawn_316 ki_3 ?_
  refine r_iload_w_2 dX10_drawn_317 ?_
  refine r_imul dX10_drawn_319 ?_
  refine r_iadd dX10_drawn_320 ?_
  refine r_iload_w_3 dX10_drawn_321 ?_
  refine r_iastore rfl dX10_drawn_323 ?_
  refine r_bd (fun d9 => ?_)
  refine r_aload_n_0 dX10_drawn_324 rfl ?_
  refine r_getr (t := 88) (cc := 10) 6 rfl rfl uX10 (by decide) rfl fw_X10_41 rfl dX10_drawn_325 ?_
  refine r_sipush dX10_drawn_328 ks_170 ?_
  refine r_iconst dX10_drawn_331 ki_3 ?_
  refine r_iload_w_2 dX10_drawn_332 ?_
  refine r_imul dX10_drawn_334 ?_
  refine r_iadd dX10_drawn_335 ?_
  refine r_iconst dX10_drawn_336 ki_1 ?_
  refine r_iadd dX10_drawn_337 ?_
  refine r_iload_w_4 dX10_drawn_338 ?_
  refine r_iastore rfl dX10_drawn_340 ?_
  refine r_bd (fun d10 => ?_)
  refine r_aload_n_0 dX10_drawn_341 rfl ?_
  refine r_getr (t := 88) (cc := 10) 6 rfl rfl uX10 (by decide) rfl fw_X10_41 rfl dX10_drawn_342 ?_
  refine r_sipush dX10_drawn_345 ks_170 ?_
  refine r_iconst dX10_drawn_348 ki_3 ?_
  refine r_iload_w_2 dX10_drawn_349 ?_
  refine r_imul dX10_drawn_351 ?_
  refine r_iadd dX10_drawn_352 ?_
  refine r_iconst dX10_drawn_353 ki_2 ?_
  refine r_iadd dX10_drawn_354 ?_
  refine r_iload_w_5 dX10_drawn_355 ?_
  refine r_iastore rfl dX10_drawn_357 ?_
  refine r_bd (fun d11 => ?_)
  refine r_iinc_2 dX10_drawn_358 ki_1 (by decide) rfl ?_
  refine r_goto (tgt := 150) dX10_drawn_361 (by decide) ?_
  refine r_sub [0, 1, 2] (lv' := [(0, .ref 86), (1, .int v1), (4, .int (v4 + (1 : Int32)))]) rfl ?_
  exact hk150 v1 (v4 + (1 : Int32)) d11
def f_X10_drawn_307 (k150 : Int32 → Int32 → DD → Option (Int32 × DD)) (v1 : Int32) (v4 : Int32) (v5 : Int32) (v6 : Int32) (t0 : Int32) (d : DD) : Option (Int32 × DD) :=
  f_X10_drawn_309 k150 v1 v4 v5 v6 t0 d
set_option maxRecDepth 100000 in
set_option maxHeartbeats 4000000 in
theorem w_X10_drawn_307 {E : XE} (k150 : Int32 → Int32 → DD → Option (Int32 × DD)) (hk150 : ∀ (v1 : Int32) (v4 : Int32) (d : DD), AW E si_X10_drawn 0 0 (QM E wrI) (k150 v1 v4 d) 150 [(0, .ref 86), (1, .int v1), (4, .int v4)] [] d) (v1 : Int32) (v4 : Int32) (v5 : Int32) (v6 : Int32) (t0 : Int32) (d : DD) : AW E si_X10_drawn 0 0 (QM E wrI) (f_X10_drawn_307 k150 v1 v4 v5 v6 t0 d) 307 [(0, .ref 86), (1, .int v1), (4, .int v4), (5, .int v5), (6, .int v6)] [.int t0] d := by
  unfold f_X10_drawn_307
  refine r_istore_w_x dX10_drawn_307 (by decide) rfl ?_
  refine r_sub [1, 2, 3, 4, 5, 0] (lv' := [(0, .ref 86), (1, .int v1), (4, .int v4), (5, .int v5), (6, .int v6), (9, .int t0)]) rfl ?_
  exact w_X10_drawn_309 k150 hk150 v1 v4 v5 v6 t0 d
def f_X10_drawn_207B (k150 : Int32 → Int32 → DD → Option (Int32 × DD)) (k207 : Int32 → Int32 → Int32 → Int32 → Int32 → Int32 → Int32 → Int32 → DD → Option (Int32 × DD)) (v1 : Int32) (v4 : Int32) (v5 : Int32) (v6 : Int32) (v7 : Int32) (v8 : Int32) (v9 : Int32) (v10 : Int32) (d : DD) : Option (Int32 × DD) :=
  if ixb (0 : Int32) (ln 88) then
  if v10 < (d.1 88 (0 : Int32).toNatClampNeg) then
    if v8 < 0 then
      bd (v9 ||| (0 : Int32)) fun x12 =>
        k207 v1 v4 v5 v6 v7 v8 x12 (v10 + (1 : Int32)) d
      else
      (f_X10_truly v10 d).bind fun q13 =>
        if ixb (((36 : Int32) * v10) + q13.1) (ln 94) then
        (f_X10_has (q13.2.1 94 (((36 : Int32) * v10) + q13.1).toNatClampNeg) v8 q13.2).bind fun q14 =>
          if q14.1 = 0 then
          bd (v9 ||| (0 : Int32)) fun x15 =>
            k207 v1 v4 v5 v6 v7 v8 x15 (v10 + (1 : Int32)) q14.2
          else
          bd (v9 ||| ((1 : Int32) <<< (v10 &&& 31))) fun x16 =>
            k207 v1 v4 v5 v6 v7 v8 x16 (v10 + (1 : Int32)) q14.2
        else none
    else
    if (1 : Int32) < v7 then
      if (v7 - v7 / (2 : Int32) * (2 : Int32)) = 0 then
        f_X10_drawn_307 k150 v1 v4 v5 v6 (v9 &&& (((1 : Int32) <<< (((v7 - (2 : Int32)) / (2 : Int32)) &&& 31)) ^^^ (-1 : Int32))) d
        else
        f_X10_drawn_307 k150 v1 v4 v5 v6 (v9 ||| ((1 : Int32) <<< (((v7 - (2 : Int32)) / (2 : Int32)) &&& 31))) d
      else
      f_X10_drawn_309 k150 v1 v4 v5 v6 v9 d
  else none
def f_X10_drawn_207 (k150 : Int32 → Int32 → DD → Option (Int32 × DD)) : Nat → Int32 → Int32 → Int32 → Int32 → Int32 → Int32 → Int32 → Int32 → DD → Option (Int32 × DD)
  | 0, _, _, _, _, _, _, _, _, _ => none
  | n + 1, v1, v4, v5, v6, v7, v8, v9, v10, d => f_X10_drawn_207B k150 (f_X10_drawn_207 k150 n) v1 v4 v5 v6 v7 v8 v9 v10 d
set_option maxRecDepth 100000 in
set_option maxHeartbeats 4000000 in
theorem w_X10_drawn_207B {E : XE} (k150 : Int32 → Int32 → DD → Option (Int32 × DD)) (hk150 : ∀ (v1 : Int32) (v4 : Int32) (d : DD), AW E si_X10_drawn 0 0 (QM E wrI) (k150 v1 v4 d) 150 [(0, .ref 86), (1, .int v1), (4, .int v4)] [] d) (k207 : Int32 → Int32 → Int32 → Int32 → Int32 → Int32 → Int32 → Int32 → DD → Option (Int32 × DD)) (hk207 : ∀ (v1 : Int32) (v4 : Int32) (v5 : Int32) (v6 : Int32) (v7 : Int32) (v8 : Int32) (v9 : Int32) (v10 : Int32) (d : DD), AW E si_X10_drawn 0 0 (QM E wrI) (k207 v1 v4 v5 v6 v7 v8 v9 v10 d) 207 [(0, .ref 86), (1, .int v1), (4, .int v4), (5, .int v5), (6, .int v6), (7, .int v7), (8, .int v8), (9, .int v9), (10, .int v10)] [] d) (v1 : Int32) (v4 : Int32) (v5 : Int32) (v6 : Int32) (v7 : Int32) (v8 : Int32) (v9 : Int32) (v10 : Int32) (d : DD) : AW E si_X10_drawn 0 0 (QM E wrI) (f_X10_drawn_207B k150 k207 v1 v4 v5 v6 v7 v8 v9 v10 d) 207 [(0, .ref 86), (1, .int v1), (4, .int v4), (5, .int v5), (6, .int v6), (7, .int v7), (8, .int v8), (9, .int v9), (10, .int v10)] [] d := by
  unfold f_X10_drawn_207B
  refine r_iload_w_8 dX10_drawn_207 ?_
  refine r_aload_n_0 dX10_drawn_209 rfl ?_
  refine r_getr (t := 88) (cc := 10) 6 rfl rfl uX10 (by decide) rfl fw_X10_41 rfl dX10_drawn_210 ?_
  refine r_iconst dX10_drawn_213 ki_0 ?_
  refine r_iaload rfl dX10_drawn_214 ?_
  refine r_icmp_ge (tgt := 267) dX10_drawn_215 (by decide) ?_ ?_
  · refine r_iload_w_5 dX10_drawn_267 ?_
    refine r_iconst dX10_drawn_269 ki_1 ?_
    refine r_icmp_le (tgt := 309) dX10_drawn_270 (by decide) ?_ ?_
    · refine r_sub [0, 1, 2, 3, 4, 7] (lv' := [(0, .ref 86), (1, .int v1), (4, .int v4), (5, .int v5), (6, .int v6), (9, .int v9)]) rfl ?_
      exact w_X10_drawn_309 k150 hk150 v1 v4 v5 v6 v9 d
    · refine r_iload_w_5 dX10_drawn_273 ?_
      refine r_iconst dX10_drawn_275 ki_2 ?_
      refine r_irem dX10_drawn_276 (by decide) ?_
      refine r_if_ne (tgt := 296) dX10_drawn_277 (by decide) ?_ ?_
      · refine r_iload_w_7 dX10_drawn_296 ?_
        refine r_iconst dX10_drawn_298 ki_1 ?_
        refine r_iload_w_5 dX10_drawn_299 ?_
        refine r_iconst dX10_drawn_301 ki_2 ?_
        refine r_isub dX10_drawn_302 ?_
        refine r_iconst dX10_drawn_303 ki_2 ?_
        refine r_idiv dX10_drawn_304 (by decide) ?_
        refine r_ishl dX10_drawn_305 ?_
        refine r_ior dX10_drawn_306 ?_
        refine r_sub [0, 1, 2, 3, 4] (lv' := [(0, .ref 86), (1, .int v1), (4, .int v4), (5, .int v5), (6, .int v6)]) rfl ?_
        exact w_X10_drawn_307 k150 hk150 v1 v4 v5 v6 (v9 ||| ((1 : Int32) <<< (((v7 - (2 : Int32)) / (2 : Int32)) &&& 31))) d
      · refine r_iload_w_7 dX10_drawn_280 ?_
        refine r_iconst dX10_drawn_282 ki_1 ?_
        refine r_iload_w_5 dX10_drawn_283 ?_
        refine r_iconst dX10_drawn_285 ki_2 ?_
        refine r_isub dX10_drawn_286 ?_
        refine r_iconst dX10_drawn_287 ki_2 ?_
        refine r_idiv dX10_drawn_288 (by decide) ?_
        refine r_ishl dX10_drawn_289 ?_
        refine r_iconst dX10_drawn_290 ki_m1 ?_
        refine r_ixor dX10_drawn_291 ?_
        refine r_iand dX10_drawn_292 ?_
        refine r_goto (tgt := 307) dX10_drawn_293 (by decide) ?_
        refine r_sub [0, 1, 2, 3, 4] (lv' := [(0, .ref 86), (1, .int v1), (4, .int v4), (5, .int v5), (6, .int v6)]) rfl ?_
        exact w_X10_drawn_307 k150 hk150 v1 v4 v5 v6 (v9 &&& (((1 : Int32) <<< (((v7 - (2 : Int32)) / (2 : Int32)) &&& 31)) ^^^ (-1 : Int32))) d
  · refine r_iload_w_7 dX10_drawn_218 ?_
    refine r_iload_w_6 dX10_drawn_220 ?_
    refine r_if_lt (tgt := 257) dX10_drawn_222 (by decide) ?_ ?_
    · refine r_iconst dX10_drawn_257 ki_0 ?_
      refine r_ior dX10_drawn_258 ?_
      refine r_bdI (fun x12 => ?_)
      refine r_istore_w_7 dX10_drawn_259 (by decide) rfl ?_
      refine r_iinc_8 dX10_drawn_261 ki_1 (by decide) rfl ?_
      refine r_goto (tgt := 207) dX10_drawn_264 (by decide) ?_
      exact hk207 v1 v4 v5 v6 v7 v8 x12 (v10 + (1 : Int32)) d
    · refine r_aload_n_0 dX10_drawn_225 rfl ?_
      refine r_getr (t := 94) (cc := 10) 21 rfl rfl uX10 (by decide) rfl fw_X10_61 rfl dX10_drawn_226 ?_
      refine r_bipush dX10_drawn_229 kb_36 ?_
      refine r_iload_w_8 dX10_drawn_231 ?_
      refine r_imul dX10_drawn_233 ?_
      refine r_aload_n_0 dX10_drawn_234 rfl ?_
      refine r_iload_w_8 dX10_drawn_235 ?_
      refine r_callVI (cc := 10) [.int ((36 : Int32) * v10), .ref 94, .int v9] (am_X10_truly v10 d) rfl rfl cf_X10_truly mw_X10_241 (by decide) dX10_drawn_237 rfl (Nat.le_of_ble_eq_true rfl) ⟨rfl, rfl⟩ (fun q13 => ?_)
      refine r_iadd dX10_drawn_240 ?_
      refine r_iaload rfl dX10_drawn_241 ?_
      refine r_iload_w_6 dX10_drawn_242 ?_
      refine r_callSI [.int v9] (am_X10_has (q13.2.1 94 (((36 : Int32) * v10) + q13.1).toNatClampNeg) v8 q13.2) cf_X10_has mw_X10_213 (by decide) dX10_drawn_244 rfl (Nat.le_of_ble_eq_true rfl) ⟨rfl, rfl⟩ (fun q14 => ?_)
      refine r_if_eq (tgt := 257) dX10_drawn_247 (by decide) ?_ ?_
      · refine r_iconst dX10_drawn_257 ki_0 ?_
        refine r_ior dX10_drawn_258 ?_
        refine r_bdI (fun x15 => ?_)
        refine r_istore_w_7 dX10_drawn_259 (by decide) rfl ?_
        refine r_iinc_8 dX10_drawn_261 ki_1 (by decide) rfl ?_
        refine r_goto (tgt := 207) dX10_drawn_264 (by decide) ?_
        exact hk207 v1 v4 v5 v6 v7 v8 x15 (v10 + (1 : Int32)) q14.2
      · refine r_iconst dX10_drawn_250 ki_1 ?_
        refine r_iload_w_8 dX10_drawn_251 ?_
        refine r_ishl dX10_drawn_253 ?_
        refine r_goto (tgt := 258) dX10_drawn_254 (by decide) ?_
        refine r_ior dX10_drawn_258 ?_
        refine r_bdI (fun x16 => ?_)
        refine r_istore_w_7 dX10_drawn_259 (by decide) rfl ?_
        refine r_iinc_8 dX10_drawn_261 ki_1 (by decide) rfl ?_
        refine r_goto (tgt := 207) dX10_drawn_264 (by decide) ?_
        exact hk207 v1 v4 v5 v6 v7 v8 x16 (v10 + (1 : Int32)) q14.2
theorem w_X10_drawn_207 {E : XE} (k150 : Int32 → Int32 → DD → Option (Int32 × DD)) (hk150 : ∀ (v1 : Int32) (v4 : Int32) (d : DD), AW E si_X10_drawn 0 0 (QM E wrI) (k150 v1 v4 d) 150 [(0, .ref 86), (1, .int v1), (4, .int v4)] [] d) (n : Nat) : ∀ (v1 : Int32) (v4 : Int32) (v5 : Int32) (v6 : Int32) (v7 : Int32) (v8 : Int32) (v9 : Int32) (v10 : Int32) (d : DD), AW E si_X10_drawn 0 0 (QM E wrI) (f_X10_drawn_207 k150 n v1 v4 v5 v6 v7 v8 v9 v10 d) 207 [(0, .ref 86), (1, .int v1), (4, .int v4), (5, .int v5), (6, .int v6), (7, .int v7), (8, .int v8), (9, .int v9), (10, .int v10)] [] d := by
  induction n with
  | zero => intros; exact r_none
  | succ n ih => intro v1 v4 v5 v6 v7 v8 v9 v10 d; exact w_X10_drawn_207B k150 hk150 (f_X10_drawn_207 k150 n) ih v1 v4 v5 v6 v7 v8 v9 v10 d
def f_X10_drawn_150B (k150 : Int32 → Int32 → DD → Option (Int32 × DD)) (v1 : Int32) (v4 : Int32) (d : DD) : Option (Int32 × DD) :=
  if v4 < v1 then
  if ixb (1 : Int32) (ln 88) then
    (f_X10_draw (d.1 88 (1 : Int32).toNatClampNeg) d).bind fun q6 =>
      (f_X10_draw (30 : Int32) q6.2).bind fun q7 =>
      (f_X10_octet q6.1 q7.2).bind fun q8 =>
      if q8.1 = (1 : Int32) then
      bd (q7.1 - (1 : Int32)) fun x17 =>
        f_X10_drawn_207 k150 FU v1 v4 q6.1 q7.1 q8.1 x17 (0 : Int32) (0 : Int32) q8.2
      else
      f_X10_drawn_207 k150 FU v1 v4 q6.1 q7.1 q8.1 q7.1 (0 : Int32) (0 : Int32) q8.2
    else none
  else
  if ixb (169 : Int32) (ln 88) then
    bd (u1 d 88 (169 : Int32).toNatClampNeg v1) fun d5 =>
    some ((1 : Int32), d5)
    else none
def f_X10_drawn_150 : Nat → Int32 → Int32 → DD → Option (Int32 × DD)
  | 0, _, _, _ => none
  | n + 1, v1, v4, d => f_X10_drawn_150B (f_X10_drawn_150 n) v1 v4 d
set_option maxRecDepth 100000 in
set_option maxHeartbeats 4000000 in
theorem w_X10_drawn_150B {E : XE} (k150 : Int32 → Int32 → DD → Option (Int32 × DD)) (hk150 : ∀ (v1 : Int32) (v4 : Int32) (d : DD), AW E si_X10_drawn 0 0 (QM E wrI) (k150 v1 v4 d) 150 [(0, .ref 86), (1, .int v1), (4, .int v4)] [] d) (v1 : Int32) (v4 : Int32) (d : DD) : AW E si_X10_drawn 0 0 (QM E wrI) (f_X10_drawn_150B k150 v1 v4 d) 150 [(0, .ref 86), (1, .int v1), (4, .int v4)] [] d := by
  unfold f_X10_drawn_150B
  refine r_iload_w_2 dX10_drawn_150 ?_
  refine r_iload_n_1 dX10_drawn_152 rfl ?_
  refine r_icmp_ge (tgt := 364) dX10_drawn_153 (by decide) ?_ ?_
  · refine r_aload_n_0 dX10_drawn_364 rfl ?_
    refine r_getr (t := 88) (cc := 10) 6 rfl rfl uX10 (by decide) rfl fw_X10_41 rfl dX10_drawn_365 ?_
    refine r_sipush dX10_drawn_368 ks_169 ?_
    refine r_iload_n_1 dX10_drawn_371 rfl ?_
    refine r_iastore rfl dX10_drawn_372 ?_
    refine r_bd (fun d5 => ?_)
    refine r_iconst dX10_drawn_373 ki_1 ?_
    exact r_zreturn dX10_drawn_374 rfl rfl
  · refine r_aload_n_0 dX10_drawn_156 rfl ?_
    refine r_aload_n_0 dX10_drawn_157 rfl ?_
    refine r_getr (t := 88) (cc := 10) 6 rfl rfl uX10 (by decide) rfl fw_X10_41 rfl dX10_drawn_158 ?_
    refine r_iconst dX10_drawn_161 ki_1 ?_
    refine r_iaload rfl dX10_drawn_162 ?_
    refine r_callVI (cc := 10) [] (am_X10_draw (d.1 88 (1 : Int32).toNatClampNeg) d) rfl rfl cf_X10_draw mw_X10_352 (by decide) dX10_drawn_163 rfl (Nat.le_of_ble_eq_true rfl) ⟨rfl, rfl⟩ (fun q6 => ?_)
    refine r_istore_w_x dX10_drawn_166 (by decide) rfl ?_
    refine r_aload_n_1 dX10_drawn_168 rfl ?_
    refine r_bipush dX10_drawn_169 kb_30 ?_
    refine r_callVI (cc := 10) [] (am_X10_draw (30 : Int32) q6.2) rfl rfl cf_X10_draw mw_X10_352 (by decide) dX10_drawn_171 rfl (Nat.le_of_ble_eq_true rfl) ⟨rfl, rfl⟩ (fun q7 => ?_)
    refine r_istore_w_x dX10_drawn_174 (by decide) rfl ?_
    refine r_aload_n_2 dX10_drawn_176 rfl ?_
    refine r_iload_w_1 dX10_drawn_177 ?_
    refine r_callVI (cc := 10) [] (am_X10_octet q6.1 q7.2) rfl rfl cf_X10_octet mw_X10_325 (by decide) dX10_drawn_179 rfl (Nat.le_of_ble_eq_true rfl) ⟨rfl, rfl⟩ (fun q8 => ?_)
    refine r_istore_w_x dX10_drawn_182 (by decide) rfl ?_
    refine r_iload_w_0 dX10_drawn_184 ?_
    refine r_iconst dX10_drawn_186 ki_1 ?_
    refine r_icmp_ne (tgt := 197) dX10_drawn_187 (by decide) ?_ ?_
    · refine r_iload_w_1 dX10_drawn_197 ?_
      refine r_istore_w_x dX10_drawn_199 (by decide) rfl ?_
      refine r_iconst dX10_drawn_201 ki_0 ?_
      refine r_istore_w_x dX10_drawn_202 (by decide) rfl ?_
      refine r_iconst dX10_drawn_204 ki_0 ?_
      refine r_istore_w_x dX10_drawn_205 (by decide) rfl ?_
      refine r_sub [6, 7, 8, 5, 4, 3, 2, 1, 0] (lv' := [(0, .ref 86), (1, .int v1), (4, .int v4), (5, .int q6.1), (6, .int q7.1), (7, .int q8.1), (8, .int q7.1), (9, .int (0 : Int32)), (10, .int (0 : Int32))]) rfl ?_
      exact w_X10_drawn_207 k150 hk150 FU v1 v4 q6.1 q7.1 q8.1 q7.1 (0 : Int32) (0 : Int32) q8.2
    · refine r_iload_w_1 dX10_drawn_190 ?_
      refine r_iconst dX10_drawn_192 ki_1 ?_
      refine r_isub dX10_drawn_193 ?_
      refine r_goto (tgt := 199) dX10_drawn_194 (by decide) ?_
      refine r_bdI (fun x17 => ?_)
      refine r_istore_w_x dX10_drawn_199 (by decide) rfl ?_
      refine r_iconst dX10_drawn_201 ki_0 ?_
      refine r_istore_w_x dX10_drawn_202 (by decide) rfl ?_
      refine r_iconst dX10_drawn_204 ki_0 ?_
      refine r_istore_w_x dX10_drawn_205 (by decide) rfl ?_
      refine r_sub [6, 7, 8, 5, 4, 3, 2, 1, 0] (lv' := [(0, .ref 86), (1, .int v1), (4, .int v4), (5, .int q6.1), (6, .int q7.1), (7, .int q8.1), (8, .int x17), (9, .int (0 : Int32)), (10, .int (0 : Int32))]) rfl ?_
      exact w_X10_drawn_207 k150 hk150 FU v1 v4 q6.1 q7.1 q8.1 x17 (0 : Int32) (0 : Int32) q8.2
theorem w_X10_drawn_150 {E : XE} (n : Nat) : ∀ (v1 : Int32) (v4 : Int32) (d : DD), AW E si_X10_drawn 0 0 (QM E wrI) (f_X10_drawn_150 n v1 v4 d) 150 [(0, .ref 86), (1, .int v1), (4, .int v4)] [] d := by
  induction n with
  | zero => intros; exact r_none
  | succ n ih => intro v1 v4 d; exact w_X10_drawn_150B (f_X10_drawn_150 n) ih v1 v4 d
def f_X10_drawn_136 (v1 : Int32) (v2 : Int32) (v3 : Int32) (d : DD) : Option (Int32 × DD) :=
  if v3 = 0 then
  some ((0 : Int32), d)
  else
  bd (u1 d 86 37 v2) fun d4 =>
    f_X10_drawn_150 FU v1 (0 : Int32) d4
set_option maxRecDepth 100000 in
set_option maxHeartbeats 4000000 in
theorem w_X10_drawn_136 {E : XE} (v1 : Int32) (v2 : Int32) (v3 : Int32) (d : DD) : AW E si_X10_drawn 0 0 (QM E wrI) (f_X10_drawn_136 v1 v2 v3 d) 136 [(0, .ref 86), (1, .int v1), (2, .int v2), (3, .int v3)] [] d := by
  unfold f_X10_drawn_136
  refine r_iload_n_3 dX10_drawn_136 rfl ?_
  refine r_if_ne (tgt := 142) dX10_drawn_137 (by decide) ?_ ?_
  · refine r_aload_n_0 dX10_drawn_142 rfl ?_
    refine r_iload_n_2 dX10_drawn_143 rfl ?_
    refine r_puti (cc := 10) 37 tyX10 tyX10_ok nmX10 rfl (by decide +kernel) rfl rfl uX10 (by decide) rfl fw_X10_348 dX10_drawn_144 ?_
    refine r_bd (fun d4 => ?_)
    refine r_iconst dX10_drawn_147 ki_0 ?_
    refine r_istore_w_x dX10_drawn_148 (by decide) rfl ?_
    refine r_sub [1, 2, 0] (lv' := [(0, .ref 86), (1, .int v1), (4, .int (0 : Int32))]) rfl ?_
    exact w_X10_drawn_150 FU v1 (0 : Int32) d4
  · refine r_iconst dX10_drawn_140 ki_0 ?_
    exact r_zreturn dX10_drawn_141 rfl rfl
def f_X10_drawn_92B (k92 : Int32 → Int32 → Int32 → Int32 → DD → Option (Int32 × DD)) (v1 : Int32) (v2 : Int32) (v3 : Int32) (v4 : Int32) (d : DD) : Option (Int32 × DD) :=
  if v4 < (d.1 86 3) then
  if v3 = 0 then
    f_X10_drawn_136 v1 v2 v3 d
    else
    (f_X10_octet v4 d).bind fun q18 =>
      if ixb (0 : Int32) (ln 88) then
      if q18.1 < ((2 : Int32) + ((2 : Int32) * (q18.2.1 88 (0 : Int32).toNatClampNeg))) then
        k92 v1 v2 (1 : Int32) (v4 + (1 : Int32)) q18.2
        else
        k92 v1 v2 (0 : Int32) (v4 + (1 : Int32)) q18.2
      else none
  else
  f_X10_drawn_136 v1 v2 v3 d
def f_X10_drawn_92 : Nat → Int32 → Int32 → Int32 → Int32 → DD → Option (Int32 × DD)
  | 0, _, _, _, _, _ => none
  | n + 1, v1, v2, v3, v4, d => f_X10_drawn_92B (f_X10_drawn_92 n) v1 v2 v3 v4 d
set_option maxRecDepth 100000 in
set_option maxHeartbeats 4000000 in
theorem w_X10_drawn_92B {E : XE} (k92 : Int32 → Int32 → Int32 → Int32 → DD → Option (Int32 × DD)) (hk92 : ∀ (v1 : Int32) (v2 : Int32) (v3 : Int32) (v4 : Int32) (d : DD), AW E si_X10_drawn 0 0 (QM E wrI) (k92 v1 v2 v3 v4 d) 92 [(0, .ref 86), (1, .int v1), (2, .int v2), (3, .int v3), (4, .int v4)] [] d) (v1 : Int32) (v2 : Int32) (v3 : Int32) (v4 : Int32) (d : DD) : AW E si_X10_drawn 0 0 (QM E wrI) (f_X10_drawn_92B k92 v1 v2 v3 v4 d) 92 [(0, .ref 86), (1, .int v1), (2, .int v2), (3, .int v3), (4, .int v4)] [] d := by
  unfold f_X10_drawn_92B
  refine r_iload_w_4 dX10_drawn_92 ?_
  refine r_aload_n_0 dX10_drawn_94 rfl ?_
  refine r_geti (cc := 10) 3 rfl rfl uX10 (by decide) rfl fw_X10_18 dX10_drawn_95 ?_
  refine r_icmp_ge (tgt := 136) dX10_drawn_98 (by decide) ?_ ?_
  · refine r_sub [0, 1, 2, 3] (lv' := [(0, .ref 86), (1, .int v1), (2, .int v2), (3, .int v3)]) rfl ?_
    exact w_X10_drawn_136 v1 v2 v3 d
  · refine r_iload_n_3 dX10_drawn_101 rfl ?_
    refine r_if_eq (tgt := 136) dX10_drawn_102 (by decide) ?_ ?_
    · refine r_sub [0, 1, 2, 3] (lv' := [(0, .ref 86), (1, .int v1), (2, .int v2), (3, .int v3)]) rfl ?_
      exact w_X10_drawn_136 v1 v2 v3 d
    · refine r_aload_n_0 dX10_drawn_105 rfl ?_
      refine r_iload_w_4 dX10_drawn_106 ?_
      refine r_callVI (cc := 10) [] (am_X10_octet v4 d) rfl rfl cf_X10_octet mw_X10_325 (by decide) dX10_drawn_108 rfl (Nat.le_of_ble_eq_true rfl) ⟨rfl, rfl⟩ (fun q18 => ?_)
      refine r_iconst dX10_drawn_111 ki_2 ?_
      refine r_iconst dX10_drawn_112 ki_2 ?_
      refine r_aload_n_0 dX10_drawn_113 rfl ?_
      refine r_getr (t := 88) (cc := 10) 6 rfl rfl uX10 (by decide) rfl fw_X10_41 rfl dX10_drawn_114 ?_
      refine r_iconst dX10_drawn_117 ki_0 ?_
      refine r_iaload rfl dX10_drawn_118 ?_
      refine r_imul dX10_drawn_119 ?_
      refine r_iadd dX10_drawn_120 ?_
      refine r_icmp_ge (tgt := 128) dX10_drawn_121 (by decide) ?_ ?_
      · refine r_iconst dX10_drawn_128 ki_0 ?_
        refine r_istore_n_3 dX10_drawn_129 rfl (by decide) rfl ?_
        refine r_iinc_4 dX10_drawn_130 ki_1 (by decide) rfl ?_
        refine r_goto (tgt := 92) dX10_drawn_133 (by decide) ?_
        exact hk92 v1 v2 (0 : Int32) (v4 + (1 : Int32)) q18.2
      · refine r_iconst dX10_drawn_124 ki_1 ?_
        refine r_goto (tgt := 129) dX10_drawn_125 (by decide) ?_
        refine r_istore_n_3 dX10_drawn_129 rfl (by decide) rfl ?_
        refine r_iinc_4 dX10_drawn_130 ki_1 (by decide) rfl ?_
        refine r_goto (tgt := 92) dX10_drawn_133 (by decide) ?_
        exact hk92 v1 v2 (1 : Int32) (v4 + (1 : Int32)) q18.2
theorem w_X10_drawn_92 {E : XE} (n : Nat) : ∀ (v1 : Int32) (v2 : Int32) (v3 : Int32) (v4 : Int32) (d : DD), AW E si_X10_drawn 0 0 (QM E wrI) (f_X10_drawn_92 n v1 v2 v3 v4 d) 92 [(0, .ref 86), (1, .int v1), (2, .int v2), (3, .int v3), (4, .int v4)] [] d := by
  induction n with
  | zero => intros; exact r_none
  | succ n ih => intro v1 v2 v3 v4 d; exact w_X10_drawn_92B (f_X10_drawn_92 n) ih v1 v2 v3 v4 d
def f_X10_drawn_53B (k53 : Int32 → Int32 → Int32 → Int32 → DD → Option (Int32 × DD)) (v1 : Int32) (v2 : Int32) (v3 : Int32) (v4 : Int32) (d : DD) : Option (Int32 × DD) :=
  if ixb (0 : Int32) (ln 88) then
  if v4 < (d.1 88 (0 : Int32).toNatClampNeg) then
    if v3 = 0 then
      k53 v1 v2 (0 : Int32) (v4 + (1 : Int32)) d
      else
      (f_X10_truly v4 d).bind fun q19 =>
        if q19.1 < 0 then
        k53 v1 v2 (0 : Int32) (v4 + (1 : Int32)) q19.2
        else
        k53 v1 v2 (1 : Int32) (v4 + (1 : Int32)) q19.2
    else
    f_X10_drawn_92 FU v1 v2 v3 (0 : Int32) d
  else none
def f_X10_drawn_53 : Nat → Int32 → Int32 → Int32 → Int32 → DD → Option (Int32 × DD)
  | 0, _, _, _, _, _ => none
  | n + 1, v1, v2, v3, v4, d => f_X10_drawn_53B (f_X10_drawn_53 n) v1 v2 v3 v4 d
set_option maxRecDepth 100000 in
set_option maxHeartbeats 4000000 in
theorem w_X10_drawn_53B {E : XE} (k53 : Int32 → Int32 → Int32 → Int32 → DD → Option (Int32 × DD)) (hk53 : ∀ (v1 : Int32) (v2 : Int32) (v3 : Int32) (v4 : Int32) (d : DD), AW E si_X10_drawn 0 0 (QM E wrI) (k53 v1 v2 v3 v4 d) 53 [(0, .ref 86), (1, .int v1), (2, .int v2), (3, .int v3), (4, .int v4)] [] d) (v1 : Int32) (v2 : Int32) (v3 : Int32) (v4 : Int32) (d : DD) : AW E si_X10_drawn 0 0 (QM E wrI) (f_X10_drawn_53B k53 v1 v2 v3 v4 d) 53 [(0, .ref 86), (1, .int v1), (2, .int v2), (3, .int v3), (4, .int v4)] [] d := by
  unfold f_X10_drawn_53B
  refine r_iload_w_4 dX10_drawn_53 ?_
  refine r_aload_n_0 dX10_drawn_55 rfl ?_
  refine r_getr (t := 88) (cc := 10) 6 rfl rfl uX10 (by decide) rfl fw_X10_41 rfl dX10_drawn_56 ?_
  refine r_iconst dX10_drawn_59 ki_0 ?_
  refine r_iaload rfl dX10_drawn_60 ?_
  refine r_icmp_ge (tgt := 89) dX10_drawn_61 (by decide) ?_ ?_
  · refine r_iconst dX10_drawn_89 ki_0 ?_
    refine r_istore_w_4 dX10_drawn_90 (by decide) rfl ?_
    exact w_X10_drawn_92 FU v1 v2 v3 (0 : Int32) d
  · refine r_iload_n_3 dX10_drawn_64 rfl ?_
    refine r_if_eq (tgt := 81) dX10_drawn_65 (by decide) ?_ ?_
    · refine r_iconst dX10_drawn_81 ki_0 ?_
      refine r_istore_n_3 dX10_drawn_82 rfl (by decide) rfl ?_
      refine r_iinc_4 dX10_drawn_83 ki_1 (by decide) rfl ?_
      refine r_goto (tgt := 53) dX10_drawn_86 (by decide) ?_
      exact hk53 v1 v2 (0 : Int32) (v4 + (1 : Int32)) d
    · refine r_aload_n_0 dX10_drawn_68 rfl ?_
      refine r_iload_w_4 dX10_drawn_69 ?_
      refine r_callVI (cc := 10) [] (am_X10_truly v4 d) rfl rfl cf_X10_truly mw_X10_241 (by decide) dX10_drawn_71 rfl (Nat.le_of_ble_eq_true rfl) ⟨rfl, rfl⟩ (fun q19 => ?_)
      refine r_if_lt (tgt := 81) dX10_drawn_74 (by decide) ?_ ?_
      · refine r_iconst dX10_drawn_81 ki_0 ?_
        refine r_istore_n_3 dX10_drawn_82 rfl (by decide) rfl ?_
        refine r_iinc_4 dX10_drawn_83 ki_1 (by decide) rfl ?_
        refine r_goto (tgt := 53) dX10_drawn_86 (by decide) ?_
        exact hk53 v1 v2 (0 : Int32) (v4 + (1 : Int32)) q19.2
      · refine r_iconst dX10_drawn_77 ki_1 ?_
        refine r_goto (tgt := 82) dX10_drawn_78 (by decide) ?_
        refine r_istore_n_3 dX10_drawn_82 rfl (by decide) rfl ?_
        refine r_iinc_4 dX10_drawn_83 ki_1 (by decide) rfl ?_
        refine r_goto (tgt := 53) dX10_drawn_86 (by decide) ?_
        exact hk53 v1 v2 (1 : Int32) (v4 + (1 : Int32)) q19.2
theorem w_X10_drawn_53 {E : XE} (n : Nat) : ∀ (v1 : Int32) (v2 : Int32) (v3 : Int32) (v4 : Int32) (d : DD), AW E si_X10_drawn 0 0 (QM E wrI) (f_X10_drawn_53 n v1 v2 v3 v4 d) 53 [(0, .ref 86), (1, .int v1), (2, .int v2), (3, .int v3), (4, .int v4)] [] d := by
  induction n with
  | zero => intros; exact r_none
  | succ n ih => intro v1 v2 v3 v4 d; exact w_X10_drawn_53B (f_X10_drawn_53 n) ih v1 v2 v3 v4 d
def f_X10_drawn (p1 : Int32) (p2 : Int32) (d : DD) : Option (Int32 × DD) :=
  bd (u1 d 86 0 (0 : Int32)) fun d1 =>
  (f_X10_taken (940 : Int32) d1).bind fun q2 =>
  (f_X10_isIn p1 (1 : Int32) (40 : Int32) q2.2).bind fun q3 =>
  if q3.1 = 0 then
  f_X10_drawn_53 FU p1 p2 (0 : Int32) (0 : Int32) q3.2
  else
  if ixb (1 : Int32) (ln 88) then
    if 0 < (q3.2.1 88 (1 : Int32).toNatClampNeg) then
      if ixb (1 : Int32) (ln 88) then
        if (q3.2.1 86 3) = (q3.2.1 88 (1 : Int32).toNatClampNeg) then
          f_X10_drawn_53 FU p1 p2 (1 : Int32) (0 : Int32) q3.2
          else
          f_X10_drawn_53 FU p1 p2 (0 : Int32) (0 : Int32) q3.2
        else none
      else
      f_X10_drawn_53 FU p1 p2 (0 : Int32) (0 : Int32) q3.2
    else none
set_option maxRecDepth 100000 in
set_option maxHeartbeats 4000000 in
theorem am_X10_drawn (p1 : Int32) (p2 : Int32) (d : DD) : AM wrI mi_X10_drawn 1 22 [.ref 86, .int p1, .int p2] d (f_X10_drawn p1 p2 d) := by
  refine AM_intro (si := si_X10_drawn) (lv := [(0, .ref 86), (1, .int p1), (2, .int p2)]) rfl (by decide +kernel) rfl (Nat.le_of_ble_eq_true rfl) (fun E => ?_)
  unfold f_X10_drawn
  refine r_aload_n_0 dX10_drawn_0 rfl ?_
  refine r_iconst dX10_drawn_1 ki_0 ?_
  refine r_puti (cc := 10) 0 tyX10 tyX10_ok nmX10 rfl (by decide +kernel) rfl rfl uX10 (by decide) rfl fw_X10_1 dX10_drawn_2 ?_
  refine r_bd (fun d1 => ?_)
  refine r_aload_n_0 dX10_drawn_5 rfl ?_
  refine r_sipush dX10_drawn_6 ks_940 ?_
  refine r_callVU (cc := 10) [] (am_X10_taken (940 : Int32) d1) rfl rfl cf_X10_taken mw_X10_219 (by decide) dX10_drawn_9 rfl (Nat.le_of_ble_eq_true rfl) ⟨rfl, rfl⟩ (fun q2 => ?_)
  refine r_iload_n_1 dX10_drawn_12 rfl ?_
  refine r_iconst dX10_drawn_13 ki_1 ?_
  refine r_bipush dX10_drawn_14 kb_40 ?_
  refine r_callSI [] (am_X10_isIn p1 (1 : Int32) (40 : Int32) q2.2) cf_X10_isIn mw_X10_172 (by decide) dX10_drawn_16 rfl (Nat.le_of_ble_eq_true rfl) ⟨rfl, rfl⟩ (fun q3 => ?_)
  refine r_if_eq (tgt := 48) dX10_drawn_19 (by decide) ?_ ?_
  · refine r_iconst dX10_drawn_48 ki_0 ?_
    refine r_istore_n_x dX10_drawn_49 rfl (by decide) rfl ?_
    refine r_iconst dX10_drawn_50 ki_0 ?_
    refine r_istore_w_x dX10_drawn_51 (by decide) rfl ?_
    refine r_sub [2, 3, 4, 1, 0] (lv' := [(0, .ref 86), (1, .int p1), (2, .int p2), (3, .int (0 : Int32)), (4, .int (0 : Int32))]) rfl ?_
    exact w_X10_drawn_53 FU p1 p2 (0 : Int32) (0 : Int32) q3.2
  · refine r_aload_n_0 dX10_drawn_22 rfl ?_
    refine r_getr (t := 88) (cc := 10) 6 rfl rfl uX10 (by decide) rfl fw_X10_41 rfl dX10_drawn_23 ?_
    refine r_iconst dX10_drawn_26 ki_1 ?_
    refine r_iaload rfl dX10_drawn_27 ?_
    refine r_if_le (tgt := 48) dX10_drawn_28 (by decide) ?_ ?_
    · refine r_iconst dX10_drawn_48 ki_0 ?_
      refine r_istore_n_x dX10_drawn_49 rfl (by decide) rfl ?_
      refine r_iconst dX10_drawn_50 ki_0 ?_
      refine r_istore_w_x dX10_drawn_51 (by decide) rfl ?_
      refine r_sub [2, 3, 4, 1, 0] (lv' := [(0, .ref 86), (1, .int p1), (2, .int p2), (3, .int (0 : Int32)), (4, .int (0 : Int32))]) rfl ?_
      exact w_X10_drawn_53 FU p1 p2 (0 : Int32) (0 : Int32) q3.2
    · refine r_aload_n_0 dX10_drawn_31 rfl ?_
      refine r_geti (cc := 10) 3 rfl rfl uX10 (by decide) rfl fw_X10_18 dX10_drawn_32 ?_
      refine r_aload_n_0 dX10_drawn_35 rfl ?_
      refine r_getr (t := 88) (cc := 10) 6 rfl rfl uX10 (by decide) rfl fw_X10_41 rfl dX10_drawn_36 ?_
      refine r_iconst dX10_drawn_39 ki_1 ?_
      refine r_iaload rfl dX10_drawn_40 ?_
      refine r_icmp_ne (tgt := 48) dX10_drawn_41 (by decide) ?_ ?_
      · refine r_iconst dX10_drawn_48 ki_0 ?_
        refine r_istore_n_x dX10_drawn_49 rfl (by decide) rfl ?_
        refine r_iconst dX10_drawn_50 ki_0 ?_
        refine r_istore_w_x dX10_drawn_51 (by decide) rfl ?_
        refine r_sub [2, 3, 4, 1, 0] (lv' := [(0, .ref 86), (1, .int p1), (2, .int p2), (3, .int (0 : Int32)), (4, .int (0 : Int32))]) rfl ?_
        exact w_X10_drawn_53 FU p1 p2 (0 : Int32) (0 : Int32) q3.2
      · refine r_iconst dX10_drawn_44 ki_1 ?_
        refine r_goto (tgt := 49) dX10_drawn_45 (by decide) ?_
        refine r_istore_n_x dX10_drawn_49 rfl (by decide) rfl ?_
        refine r_iconst dX10_drawn_50 ki_0 ?_
        refine r_istore_w_x dX10_drawn_51 (by decide) rfl ?_
        refine r_sub [2, 3, 4, 1, 0] (lv' := [(0, .ref 86), (1, .int p1), (2, .int p2), (3, .int (1 : Int32)), (4, .int (0 : Int32))]) rfl ?_
        exact w_X10_drawn_53 FU p1 p2 (1 : Int32) (0 : Int32) q3.2
theorem cf_X10_drawn : CFv mi_X10_drawn 2 := ⟨iw_X10_drawn, vw_X10_drawn, nw_X10, cw_X10_drawn, by unfold plainF; decide +kernel⟩
abbrev si_X10_end : SI := (cX10_end, RX10, 2, (some .boolean), 0, 0)
def f_X10_end (p1 : Int32) (d : DD) : Option (Int32 × DD) :=
  bd (u1 d 86 0 (0 : Int32)) fun d1 =>
  if p1 < 0 then
  some ((0 : Int32), d1)
  else
  if (d1.1 86 2) < p1 then
    some ((0 : Int32), d1)
    else
    bd (u1 d1 86 2 p1) fun d2 =>
      some ((1 : Int32), d2)
set_option maxRecDepth 100000 in
set_option maxHeartbeats 4000000 in
theorem am_X10_end (p1 : Int32) (d : DD) : AM wrI mi_X10_end 0 0 [.ref 86, .int p1] d (f_X10_end p1 d) := by
  refine AM_intro (si := si_X10_end) (lv := [(0, .ref 86), (1, .int p1)]) rfl (by decide +kernel) rfl (Nat.le_of_ble_eq_true rfl) (fun E => ?_)
  unfold f_X10_end
  refine r_aload_n_0 dX10_end_0 rfl ?_
  refine r_iconst dX10_end_1 ki_0 ?_
  refine r_puti (cc := 10) 0 tyX10 tyX10_ok nmX10 rfl (by decide +kernel) rfl rfl uX10 (by decide) rfl fw_X10_1 dX10_end_2 ?_
  refine r_bd (fun d1 => ?_)
  refine r_iload_n_1 dX10_end_5 rfl ?_
  refine r_if_lt (tgt := 17) dX10_end_6 (by decide) ?_ ?_
  · refine r_iconst dX10_end_17 ki_0 ?_
    exact r_zreturn dX10_end_18 rfl rfl
  · refine r_iload_n_1 dX10_end_9 rfl ?_
    refine r_aload_n_0 dX10_end_10 rfl ?_
    refine r_geti (cc := 10) 2 rfl rfl uX10 (by decide) rfl fw_X10_7 dX10_end_11 ?_
    refine r_icmp_le (tgt := 19) dX10_end_14 (by decide) ?_ ?_
    · refine r_aload_n_0 dX10_end_19 rfl ?_
      refine r_iload_n_1 dX10_end_20 rfl ?_
      refine r_puti (cc := 10) 2 tyX10 tyX10_ok nmX10 rfl (by decide +kernel) rfl rfl uX10 (by decide) rfl fw_X10_7 dX10_end_21 ?_
      refine r_bd (fun d2 => ?_)
      refine r_iconst dX10_end_24 ki_1 ?_
      exact r_zreturn dX10_end_25 rfl rfl
    · refine r_iconst dX10_end_17 ki_0 ?_
      exact r_zreturn dX10_end_18 rfl rfl
theorem cf_X10_end : CFv mi_X10_end 1 := ⟨iw_X10_end, vw_X10_end, nw_X10, cw_X10_end, by unfold plainF; decide +kernel⟩
abbrev si_X10_ended : SI := (cX10_ended, RX10, 2, (some .int), 1, 22)
def f_X10_ended (p1 : Int32) (d : DD) : Option (Int32 × DD) :=
  bd (u1 d 86 0 (0 : Int32)) fun d1 =>
  if (d1.1 86 36) = 0 then
  some ((-1 : Int32), d1)
  else
  (f_X10_isIn p1 (0 : Int32) (1 : Int32) d1).bind fun q2 =>
    if q2.1 = 0 then
    some ((-1 : Int32), q2.2)
    else
    if ixb p1 (ln 106) then
      some (q2.2.1 106 p1.toNatClampNeg, q2.2)
      else none
set_option maxRecDepth 100000 in
set_option maxHeartbeats 4000000 in
theorem am_X10_ended (p1 : Int32) (d : DD) : AM wrI mi_X10_ended 1 22 [.ref 86, .int p1] d (f_X10_ended p1 d) := by
  refine AM_intro (si := si_X10_ended) (lv := [(0, .ref 86), (1, .int p1)]) rfl (by decide +kernel) rfl (Nat.le_of_ble_eq_true rfl) (fun E => ?_)
  unfold f_X10_ended
  refine r_aload_n_0 dX10_ended_0 rfl ?_
  refine r_iconst dX10_ended_1 ki_0 ?_
  refine r_puti (cc := 10) 0 tyX10 tyX10_ok nmX10 rfl (by decide +kernel) rfl rfl uX10 (by decide) rfl fw_X10_1 dX10_ended_2 ?_
  refine r_bd (fun d1 => ?_)
  refine r_aload_n_0 dX10_ended_5 rfl ?_
  refine r_getz (cc := 10) 36 rfl rfl uX10 (by decide) rfl fw_X10_335 dX10_ended_6 ?_
  refine r_if_eq (tgt := 30) dX10_ended_9 (by decide) ?_ ?_
  · refine r_iconst dX10_ended_30 ki_m1 ?_
    exact r_ireturn dX10_ended_31 rfl
  · refine r_iload_n_1 dX10_ended_12 rfl ?_
    refine r_iconst dX10_ended_13 ki_0 ?_
    refine r_iconst dX10_ended_14 ki_1 ?_
    refine r_callSI [] (am_X10_isIn p1 (0 : Int32) (1 : Int32) d1) cf_X10_isIn mw_X10_172 (by decide) dX10_ended_15 rfl (Nat.le_of_ble_eq_true rfl) ⟨rfl, rfl⟩ (fun q2 => ?_)
    refine r_if_eq (tgt := 30) dX10_ended_18 (by decide) ?_ ?_
    · refine r_iconst dX10_ended_30 ki_m1 ?_
      exact r_ireturn dX10_ended_31 rfl
    · refine r_aload_n_0 dX10_ended_21 rfl ?_
      refine r_getr (t := 106) (cc := 10) 34 rfl rfl uX10 (by decide) rfl fw_X10_98 rfl dX10_ended_22 ?_
      refine r_iload_n_1 dX10_ended_25 rfl ?_
      refine r_iaload rfl dX10_ended_26 ?_
      refine r_goto (tgt := 31) dX10_ended_27 (by decide) ?_
      exact r_ireturn dX10_ended_31 rfl
theorem cf_X10_ended : CFv mi_X10_ended 1 := ⟨iw_X10_ended, vw_X10_ended, nw_X10, cw_X10_ended, by unfold plainF; decide +kernel⟩
abbrev si_X10_fault : SI := (cX10_fault, RX10, 1, (some .int), 0, 0)
def f_X10_fault (d : DD) : Option (Int32 × DD) :=
  bd (u1 d 86 0 (0 : Int32)) fun d1 =>
  some (d1.1 86 16, d1)
set_option maxRecDepth 100000 in
set_option maxHeartbeats 4000000 in
theorem am_X10_fault (d : DD) : AM wrI mi_X10_fault 0 0 [.ref 86] d (f_X10_fault d) := by
  refine AM_intro (si := si_X10_fault) (lv := [(0, .ref 86)]) rfl (by decide +kernel) rfl (Nat.le_of_ble_eq_true rfl) (fun E => ?_)
  unfold f_X10_fault
  refine r_aload_n_0 dX10_fault_0 rfl ?_
  refine r_iconst dX10_fault_1 ki_0 ?_
  refine r_puti (cc := 10) 0 tyX10 tyX10_ok nmX10 rfl (by decide +kernel) rfl rfl uX10 (by decide) rfl fw_X10_1 dX10_fault_2 ?_
  refine r_bd (fun d1 => ?_)
  refine r_aload_n_0 dX10_fault_5 rfl ?_
  refine r_geti (cc := 10) 16 rfl rfl uX10 (by decide) rfl fw_X10_157 dX10_fault_6 ?_
  exact r_ireturn dX10_fault_9 rfl
theorem cf_X10_fault : CFv mi_X10_fault 0 := ⟨iw_X10_fault, vw_X10_fault, nw_X10, cw_X10_fault, by unfold plainF; decide +kernel⟩
abbrev si_X10_four : SI := (cX10_four, RX10, 3, none, 0, 0)
def f_X10_four_3B (k3 : Int32 → Int32 → DD → Option (Unit × DD)) (v1 : Int32) (v2 : Int32) (d : DD) : Option (Unit × DD) :=
  if v2 < 0 then
  some ((), d)
  else
  if ixb (d.1 86 2) (ln 87) then
    bd (u1 d 87 (d.1 86 2).toNatClampNeg (vp_nar .byte ((v1 >>> (v2 &&& 31)).toInt8.toInt32))) fun d1 =>
    bd (u1 d1 86 2 ((d1.1 86 2) + (1 : Int32))) fun d2 =>
      k3 v1 (v2 + (-8 : Int32)) d2
    else none
def f_X10_four_3 : Nat → Int32 → Int32 → DD → Option (Unit × DD)
  | 0, _, _, _ => none
  | n + 1, v1, v2, d => f_X10_four_3B (f_X10_four_3 n) v1 v2 d
set_option maxRecDepth 100000 in
set_option maxHeartbeats 4000000 in
theorem w_X10_four_3B {E : XE} (k3 : Int32 → Int32 → DD → Option (Unit × DD)) (hk3 : ∀ (v1 : Int32) (v2 : Int32) (d : DD), AW E si_X10_four 0 0 (QM E wrU) (k3 v1 v2 d) 3 [(0, .ref 86), (1, .int v1), (2, .int v2)] [] d) (v1 : Int32) (v2 : Int32) (d : DD) : AW E si_X10_four 0 0 (QM E wrU) (f_X10_four_3B k3 v1 v2 d) 3 [(0, .ref 86), (1, .int v1), (2, .int v2)] [] d := by
  unfold f_X10_four_3B
  refine r_iload_n_2 dX10_four_3 rfl ?_
  refine r_if_lt (tgt := 36) dX10_four_4 (by decide) ?_ ?_
  · exact r_return dX10_four_36 rfl
  · refine r_aload_n_0 dX10_four_7 rfl ?_
    refine r_getr (t := 87) (cc := 10) 1 rfl rfl uX10 (by decide) rfl fw_X10_14 rfl dX10_four_8 ?_
    refine r_aload_n_0 dX10_four_11 rfl ?_
    refine r_geti (cc := 10) 2 rfl rfl uX10 (by decide) rfl fw_X10_7 dX10_four_12 ?_
    refine r_iload_n_1 dX10_four_15 rfl ?_
    refine r_iload_n_2 dX10_four_16 rfl ?_
    refine r_ishr dX10_four_17 ?_
    refine r_i2b dX10_four_18 ?_
    refine r_bastore rfl dX10_four_19 ?_
    refine r_bd (fun d1 => ?_)
    refine r_aload_n_0 dX10_four_20 rfl ?_
    refine r_dupa dX10_four_21 ?_
    refine r_geti (cc := 10) 2 rfl rfl uX10 (by decide) rfl fw_X10_7 dX10_four_22 ?_
    refine r_iconst dX10_four_25 ki_1 ?_
    refine r_iadd dX10_four_26 ?_
    refine r_puti (cc := 10) 2 tyX10 tyX10_ok nmX10 rfl (by decide +kernel) rfl rfl uX10 (by decide) rfl fw_X10_7 dX10_four_27 ?_
    refine r_bd (fun d2 => ?_)
    refine r_iinc_2 dX10_four_30 ki_m8 (by decide) rfl ?_
    refine r_goto (tgt := 3) dX10_four_33 (by decide) ?_
    exact hk3 v1 (v2 + (-8 : Int32)) d2
theorem w_X10_four_3 {E : XE} (n : Nat) : ∀ (v1 : Int32) (v2 : Int32) (d : DD), AW E si_X10_four 0 0 (QM E wrU) (f_X10_four_3 n v1 v2 d) 3 [(0, .ref 86), (1, .int v1), (2, .int v2)] [] d := by
  induction n with
  | zero => intros; exact r_none
  | succ n ih => intro v1 v2 d; exact w_X10_four_3B (f_X10_four_3 n) ih v1 v2 d
def f_X10_four (p1 : Int32) (d : DD) : Option (Unit × DD) :=
  f_X10_four_3 FU p1 (24 : Int32) d
set_option maxRecDepth 100000 in
set_option maxHeartbeats 4000000 in
theorem am_X10_four (p1 : Int32) (d : DD) : AM wrU mi_X10_four 0 0 [.ref 86, .int p1] d (f_X10_four p1 d) := by
  refine AM_intro (si := si_X10_four) (lv := [(0, .ref 86), (1, .int p1)]) rfl (by decide +kernel) rfl (Nat.le_of_ble_eq_true rfl) (fun E => ?_)
  unfold f_X10_four
  refine r_bipush dX10_four_0 kb_24 ?_
  refine r_istore_n_x dX10_four_2 rfl (by decide) rfl ?_
  refine r_sub [1, 2, 0] (lv' := [(0, .ref 86), (1, .int p1), (2, .int (24 : Int32))]) rfl ?_
  exact w_X10_four_3 FU p1 (24 : Int32) d
theorem cf_X10_four : CFv mi_X10_four 1 := ⟨iw_X10_four, vw_X10_four, nw_X10, cw_X10_four, by unfold plainF; decide +kernel⟩
abbrev si_X10_feed : SI := (cX10_feed, RX10, 6, (some .int), 1, 22)
def f_X10_feed (p1 : Int32) (p2 : Int32) (p3 : Int32) (p4 : Int32) (p5 : Int32) (d : DD) : Option (Int32 × DD) :=
  bd (u1 d 86 0 (0 : Int32)) fun d1 =>
  if (940 : Int32) < ((d1.1 86 2) + (20 : Int32)) then
  some ((-1 : Int32), d1)
  else
  (f_X10_four p1 d1).bind fun q2 =>
    (f_X10_four p2 q2.2).bind fun q3 =>
    (f_X10_four p3 q3.2).bind fun q4 =>
    (f_X10_four p4 q4.2).bind fun q5 =>
    (f_X10_four p5 q5.2).bind fun q6 =>
    some (q6.2.1 86 2, q6.2)
set_option maxRecDepth 100000 in
set_option maxHeartbeats 4000000 in
theorem am_X10_feed (p1 : Int32) (p2 : Int32) (p3 : Int32) (p4 : Int32) (p5 : Int32) (d : DD) : AM wrI mi_X10_feed 1 22 [.ref 86, .int p1, .int p2, .int p3, .int p4, .int p5] d (f_X10_feed p1 p2 p3 p4 p5 d) := by
  refine AM_intro (si := si_X10_feed) (lv := [(0, .ref 86), (1, .int p1), (2, .int p2), (3, .int p3), (4, .int p4), (5, .int p5)]) rfl (by decide +kernel) rfl (Nat.le_of_ble_eq_true rfl) (fun E => ?_)
  unfold f_X10_feed
  refine r_aload_n_0 dX10_feed_0 rfl ?_
  refine r_iconst dX10_feed_1 ki_0 ?_
  refine r_puti (cc := 10) 0 tyX10 tyX10_ok nmX10 rfl (by decide +kernel) rfl rfl uX10 (by decide) rfl fw_X10_1 dX10_feed_2 ?_
  refine r_bd (fun d1 => ?_)
  refine r_aload_n_0 dX10_feed_5 rfl ?_
  refine r_geti (cc := 10) 2 rfl rfl uX10 (by decide) rfl fw_X10_7 dX10_feed_6 ?_
  refine r_bipush dX10_feed_9 kb_20 ?_
  refine r_iadd dX10_feed_11 ?_
  refine r_sipush dX10_feed_12 ks_940 ?_
  refine r_icmp_le (tgt := 20) dX10_feed_15 (by decide) ?_ ?_
  · refine r_aload_n_0 dX10_feed_20 rfl ?_
    refine r_iload_n_1 dX10_feed_21 rfl ?_
    refine r_callVU (cc := 10) [] (am_X10_four p1 d1) rfl rfl cf_X10_four mw_X10_10 (by decide) dX10_feed_22 rfl (Nat.le_of_ble_eq_true rfl) ⟨rfl, rfl⟩ (fun q2 => ?_)
    refine r_aload_n_0 dX10_feed_25 rfl ?_
    refine r_iload_n_2 dX10_feed_26 rfl ?_
    refine r_callVU (cc := 10) [] (am_X10_four p2 q2.2) rfl rfl cf_X10_four mw_X10_10 (by decide) dX10_feed_27 rfl (Nat.le_of_ble_eq_true rfl) ⟨rfl, rfl⟩ (fun q3 => ?_)
    refine r_aload_n_0 dX10_feed_30 rfl ?_
    refine r_iload_n_3 dX10_feed_31 rfl ?_
    refine r_callVU (cc := 10) [] (am_X10_four p3 q3.2) rfl rfl cf_X10_four mw_X10_10 (by decide) dX10_feed_32 rfl (Nat.le_of_ble_eq_true rfl) ⟨rfl, rfl⟩ (fun q4 => ?_)
    refine r_aload_n_0 dX10_feed_35 rfl ?_
    refine r_iload_w_4 dX10_feed_36 ?_
    refine r_callVU (cc := 10) [] (am_X10_four p4 q4.2) rfl rfl cf_X10_four mw_X10_10 (by decide) dX10_feed_38 rfl (Nat.le_of_ble_eq_true rfl) ⟨rfl, rfl⟩ (fun q5 => ?_)
    refine r_aload_n_0 dX10_feed_41 rfl ?_
    refine r_iload_w_5 dX10_feed_42 ?_
    refine r_callVU (cc := 10) [] (am_X10_four p5 q5.2) rfl rfl cf_X10_four mw_X10_10 (by decide) dX10_feed_44 rfl (Nat.le_of_ble_eq_true rfl) ⟨rfl, rfl⟩ (fun q6 => ?_)
    refine r_aload_n_0 dX10_feed_47 rfl ?_
    refine r_geti (cc := 10) 2 rfl rfl uX10 (by decide) rfl fw_X10_7 dX10_feed_48 ?_
    exact r_ireturn dX10_feed_51 rfl
  · refine r_iconst dX10_feed_18 ki_m1 ?_
    exact r_ireturn dX10_feed_19 rfl
theorem cf_X10_feed : CFv mi_X10_feed 5 := ⟨iw_X10_feed, vw_X10_feed, nw_X10, cw_X10_feed, by unfold plainF; decide +kernel⟩
abbrev si_X10_fewestLiars : SI := (cX10_fewestLiars, RX10, 3, (some .int), 1, 23)
def f_X10_fewestLiars_4B (k4 : Int32 → Int32 → DD → Option (Int32 × DD)) (v1 : Int32) (v2 : Int32) (d : DD) : Option (Int32 × DD) :=
  if v2 < (16 : Int32) then
  if ixb v2 (ln 101) then
    if (d.1 101 v2.toNatClampNeg) = 0 then
      k4 v1 (v2 + (1 : Int32)) d
      else
      (f_X10_bits v2.toInt64 d).bind fun q1 =>
        if q1.1 < v1 then
        (f_X10_bits v2.toInt64 q1.2).bind fun q2 =>
          k4 q2.1 (v2 + (1 : Int32)) q2.2
        else
        k4 v1 (v2 + (1 : Int32)) q1.2
    else none
  else
  some (v1, d)
def f_X10_fewestLiars_4 : Nat → Int32 → Int32 → DD → Option (Int32 × DD)
  | 0, _, _, _ => none
  | n + 1, v1, v2, d => f_X10_fewestLiars_4B (f_X10_fewestLiars_4 n) v1 v2 d
set_option maxRecDepth 100000 in
set_option maxHeartbeats 4000000 in
theorem w_X10_fewestLiars_4B {E : XE} (k4 : Int32 → Int32 → DD → Option (Int32 × DD)) (hk4 : ∀ (v1 : Int32) (v2 : Int32) (d : DD), AW E si_X10_fewestLiars 0 0 (QM E wrI) (k4 v1 v2 d) 4 [(0, .ref 86), (1, .int v1), (2, .int v2)] [] d) (v1 : Int32) (v2 : Int32) (d : DD) : AW E si_X10_fewestLiars 0 0 (QM E wrI) (f_X10_fewestLiars_4B k4 v1 v2 d) 4 [(0, .ref 86), (1, .int v1), (2, .int v2)] [] d := by
  unfold f_X10_fewestLiars_4B
  refine r_iload_n_2 dX10_fewestLiars_4 rfl ?_
  refine r_bipush dX10_fewestLiars_5 kb_16 ?_
  refine r_icmp_ge (tgt := 40) dX10_fewestLiars_7 (by decide) ?_ ?_
  · refine r_iload_n_1 dX10_fewestLiars_40 rfl ?_
    exact r_ireturn dX10_fewestLiars_41 rfl
  · refine r_aload_n_0 dX10_fewestLiars_10 rfl ?_
    refine r_getr (t := 101) (cc := 10) 29 rfl rfl uX10 (by decide) rfl fw_X10_82 rfl dX10_fewestLiars_11 ?_
    refine r_iload_n_2 dX10_fewestLiars_14 rfl ?_
    refine r_zaload rfl dX10_fewestLiars_15 ?_
    refine r_if_eq (tgt := 34) dX10_fewestLiars_16 (by decide) ?_ ?_
    · refine r_iinc_2 dX10_fewestLiars_34 ki_1 (by decide) rfl ?_
      refine r_goto (tgt := 4) dX10_fewestLiars_37 (by decide) ?_
      exact hk4 v1 (v2 + (1 : Int32)) d
    · refine r_iload_n_2 dX10_fewestLiars_19 rfl ?_
      refine r_i2l dX10_fewestLiars_20 ?_
      refine r_callSI [] (am_X10_bits v2.toInt64 d) cf_X10_bits mw_X10_266 (by decide) dX10_fewestLiars_21 rfl (Nat.le_of_ble_eq_true rfl) ⟨rfl, rfl⟩ (fun q1 => ?_)
      refine r_iload_n_1 dX10_fewestLiars_24 rfl ?_
      refine r_icmp_ge (tgt := 34) dX10_fewestLiars_25 (by decide) ?_ ?_
      · refine r_iinc_2 dX10_fewestLiars_34 ki_1 (by decide) rfl ?_
        refine r_goto (tgt := 4) dX10_fewestLiars_37 (by decide) ?_
        exact hk4 v1 (v2 + (1 : Int32)) q1.2
      · refine r_iload_n_2 dX10_fewestLiars_28 rfl ?_
        refine r_i2l dX10_fewestLiars_29 ?_
        refine r_callSI [] (am_X10_bits v2.toInt64 q1.2) cf_X10_bits mw_X10_266 (by decide) dX10_fewestLiars_30 rfl (Nat.le_of_ble_eq_true rfl) ⟨rfl, rfl⟩ (fun q2 => ?_)
        refine r_istore_n_1 dX10_fewestLiars_33 rfl (by decide) rfl ?_
        refine r_iinc_2 dX10_fewestLiars_34 ki_1 (by decide) rfl ?_
        refine r_goto (tgt := 4) dX10_fewestLiars_37 (by decide) ?_
        exact hk4 q2.1 (v2 + (1 : Int32)) q2.2
theorem w_X10_fewestLiars_4 {E : XE} (n : Nat) : ∀ (v1 : Int32) (v2 : Int32) (d : DD), AW E si_X10_fewestLiars 0 0 (QM E wrI) (f_X10_fewestLiars_4 n v1 v2 d) 4 [(0, .ref 86), (1, .int v1), (2, .int v2)] [] d := by
  induction n with
  | zero => intros; exact r_none
  | succ n ih => intro v1 v2 d; exact w_X10_fewestLiars_4B (f_X10_fewestLiars_4 n) ih v1 v2 d
def f_X10_fewestLiars (d : DD) : Option (Int32 × DD) :=
  f_X10_fewestLiars_4 FU (5 : Int32) (0 : Int32) d
set_option maxRecDepth 100000 in
set_option maxHeartbeats 4000000 in
theorem am_X10_fewestLiars (d : DD) : AM wrI mi_X10_fewestLiars 1 23 [.ref 86] d (f_X10_fewestLiars d) := by
  refine AM_intro (si := si_X10_fewestLiars) (lv := [(0, .ref 86)]) rfl (by decide +kernel) rfl (Nat.le_of_ble_eq_true rfl) (fun E => ?_)
  unfold f_X10_fewestLiars
  refine r_iconst dX10_fewestLiars_0 ki_5 ?_
  refine r_istore_n_x dX10_fewestLiars_1 rfl (by decide) rfl ?_
  refine r_iconst dX10_fewestLiars_2 ki_0 ?_
  refine r_istore_n_x dX10_fewestLiars_3 rfl (by decide) rfl ?_
  refine r_sub [2, 1, 0] (lv' := [(0, .ref 86), (1, .int (5 : Int32)), (2, .int (0 : Int32))]) rfl ?_
  exact w_X10_fewestLiars_4 FU (5 : Int32) (0 : Int32) d
theorem cf_X10_fewestLiars : CFv mi_X10_fewestLiars 0 := ⟨iw_X10_fewestLiars, vw_X10_fewestLiars, nw_X10, cw_X10_fewestLiars, by unfold plainF; decide +kernel⟩
abbrev si_X10_find : SI := (cX10_find, RX10, 4, (some .int), 0, 0)
def f_X10_find_2B (k2 : Int32 → Int32 → Int32 → DD → Option (Int32 × DD)) (v1 : Int32) (v2 : Int32) (v3 : Int32) (d : DD) : Option (Int32 × DD) :=
  if v3 < v2 then
  if ixb (v1 + v3) (ln 92) then
    if (d.2 92 (v1 + v3).toNatClampNeg) = (d.2 86 18) then
      some (v3, d)
      else
      k2 v1 v2 (v3 + (1 : Int32)) d
    else none
  else
  some ((-1 : Int32), d)
def f_X10_find_2 : Nat → Int32 → Int32 → Int32 → DD → Option (Int32 × DD)
  | 0, _, _, _, _ => none
  | n + 1, v1, v2, v3, d => f_X10_find_2B (f_X10_find_2 n) v1 v2 v3 d
set_option maxRecDepth 100000 in
set_option maxHeartbeats 4000000 in
theorem w_X10_find_2B {E : XE} (k2 : Int32 → Int32 → Int32 → DD → Option (Int32 × DD)) (hk2 : ∀ (v1 : Int32) (v2 : Int32) (v3 : Int32) (d : DD), AW E si_X10_find 0 0 (QM E wrI) (k2 v1 v2 v3 d) 2 [(0, .ref 86), (1, .int v1), (2, .int v2), (3, .int v3)] [] d) (v1 : Int32) (v2 : Int32) (v3 : Int32) (d : DD) : AW E si_X10_find 0 0 (QM E wrI) (f_X10_find_2B k2 v1 v2 v3 d) 2 [(0, .ref 86), (1, .int v1), (2, .int v2), (3, .int v3)] [] d := by
  unfold f_X10_find_2B
  refine r_iload_n_3 dX10_find_2 rfl ?_
  refine r_iload_n_2 dX10_find_3 rfl ?_
  refine r_icmp_ge (tgt := 31) dX10_find_4 (by decide) ?_ ?_
  · refine r_iconst dX10_find_31 ki_m1 ?_
    exact r_ireturn dX10_find_32 rfl
  · refine r_aload_n_0 dX10_find_7 rfl ?_
    refine r_getr (t := 92) (cc := 10) 10 rfl rfl uX10 (by decide) rfl fw_X10_54 rfl dX10_find_8 ?_
    refine r_iload_n_1 dX10_find_11 rfl ?_
    refine r_iload_n_3 dX10_find_12 rfl ?_
    refine r_iadd dX10_find_13 ?_
    refine r_laload rfl dX10_find_14 ?_
    refine r_aload_n_0 dX10_find_15 rfl ?_
    refine r_getl (cc := 10) 18 rfl rfl uX10 (by decide) rfl fw_X10_153 dX10_find_16 ?_
    refine r_lcmp_ne (tgt := 25) dX10_find_19 dX10_find_20 (by decide) ?_ ?_
    · refine r_iinc_3 dX10_find_25 ki_1 (by decide) rfl ?_
      refine r_goto (tgt := 2) dX10_find_28 (by decide) ?_
      exact hk2 v1 v2 (v3 + (1 : Int32)) d
    · refine r_iload_n_3 dX10_find_23 rfl ?_
      exact r_ireturn dX10_find_24 rfl
theorem w_X10_find_2 {E : XE} (n : Nat) : ∀ (v1 : Int32) (v2 : Int32) (v3 : Int32) (d : DD), AW E si_X10_find 0 0 (QM E wrI) (f_X10_find_2 n v1 v2 v3 d) 2 [(0, .ref 86), (1, .int v1), (2, .int v2), (3, .int v3)] [] d := by
  induction n with
  | zero => intros; exact r_none
  | succ n ih => intro v1 v2 v3 d; exact w_X10_find_2B (f_X10_find_2 n) ih v1 v2 v3 d
def f_X10_find (p1 : Int32) (p2 : Int32) (d : DD) : Option (Int32 × DD) :=
  f_X10_find_2 FU p1 p2 (0 : Int32) d
set_option maxRecDepth 100000 in
set_option maxHeartbeats 4000000 in
theorem am_X10_find (p1 : Int32) (p2 : Int32) (d : DD) : AM wrI mi_X10_find 0 0 [.ref 86, .int p1, .int p2] d (f_X10_find p1 p2 d) := by
  refine AM_intro (si := si_X10_find) (lv := [(0, .ref 86), (1, .int p1), (2, .int p2)]) rfl (by decide +kernel) rfl (Nat.le_of_ble_eq_true rfl) (fun E => ?_)
  unfold f_X10_find
  refine r_iconst dX10_find_0 ki_0 ?_
  refine r_istore_n_x dX10_find_1 rfl (by decide) rfl ?_
  refine r_sub [1, 2, 3, 0] (lv' := [(0, .ref 86), (1, .int p1), (2, .int p2), (3, .int (0 : Int32))]) rfl ?_
  exact w_X10_find_2 FU p1 p2 (0 : Int32) d
theorem cf_X10_find : CFv mi_X10_find 2 := ⟨iw_X10_find, vw_X10_find, nw_X10, cw_X10_find, by unfold plainF; decide +kernel⟩
abbrev si_X10_isName : SI := (cX10_isName, RX10, 3, (some .boolean), 0, 0)
def f_X10_isName_16B (k16 : Int32 → Int32 → DD → Option (Int32 × DD)) (v1 : Int32) (v2 : Int32) (d : DD) : Option (Int32 × DD) :=
  if v2 < (10 : Int32) then
  if v1 = 0 then
    k16 (0 : Int32) (v2 + (1 : Int32)) d
    else
    if ixb v2 (ln 93) then
      if (d.2 86 18) = (d.2 93 v2.toNatClampNeg) then
        k16 (0 : Int32) (v2 + (1 : Int32)) d
        else
        k16 (1 : Int32) (v2 + (1 : Int32)) d
      else none
  else
  if v1 = 0 ∨ v1 = 1 then some (v1, d) else none
def f_X10_isName_16 : Nat → Int32 → Int32 → DD → Option (Int32 × DD)
  | 0, _, _, _ => none
  | n + 1, v1, v2, d => f_X10_isName_16B (f_X10_isName_16 n) v1 v2 d
set_option maxRecDepth 100000 in
set_option maxHeartbeats 4000000 in
theorem w_X10_isName_16B {E : XE} (k16 : Int32 → Int32 → DD → Option (Int32 × DD)) (hk16 : ∀ (v1 : Int32) (v2 : Int32) (d : DD), AW E si_X10_isName 0 0 (QM E wrI) (k16 v1 v2 d) 16 [(0, .ref 86), (1, .int v1), (2, .int v2)] [] d) (v1 : Int32) (v2 : Int32) (d : DD) : AW E si_X10_isName 0 0 (QM E wrI) (f_X10_isName_16B k16 v1 v2 d) 16 [(0, .ref 86), (1, .int v1), (2, .int v2)] [] d := by
  unfold f_X10_isName_16B
  refine r_iload_n_2 dX10_isName_16 rfl ?_
  refine r_bipush dX10_isName_17 kb_10 ?_
  refine r_icmp_ge (tgt := 52) dX10_isName_19 (by decide) ?_ ?_
  · refine r_iload_n_1 dX10_isName_52 rfl ?_
    exact r_breturn dX10_isName_53 rfl
  · refine r_iload_n_1 dX10_isName_22 rfl ?_
    refine r_if_eq (tgt := 44) dX10_isName_23 (by decide) ?_ ?_
    · refine r_iconst dX10_isName_44 ki_0 ?_
      refine r_istore_n_1 dX10_isName_45 rfl (by decide) rfl ?_
      refine r_iinc_2 dX10_isName_46 ki_1 (by decide) rfl ?_
      refine r_goto (tgt := 16) dX10_isName_49 (by decide) ?_
      exact hk16 (0 : Int32) (v2 + (1 : Int32)) d
    · refine r_aload_n_0 dX10_isName_26 rfl ?_
      refine r_getl (cc := 10) 18 rfl rfl uX10 (by decide) rfl fw_X10_153 dX10_isName_27 ?_
      refine r_aload_n_0 dX10_isName_30 rfl ?_
      refine r_getr (t := 93) (cc := 10) 11 rfl rfl uX10 (by decide) rfl fw_X10_58 rfl dX10_isName_31 ?_
      refine r_iload_n_2 dX10_isName_34 rfl ?_
      refine r_laload rfl dX10_isName_35 ?_
      refine r_lcmp_eq (tgt := 44) dX10_isName_36 dX10_isName_37 (by decide) ?_ ?_
      · refine r_iconst dX10_isName_44 ki_0 ?_
        refine r_istore_n_1 dX10_isName_45 rfl (by decide) rfl ?_
        refine r_iinc_2 dX10_isName_46 ki_1 (by decide) rfl ?_
        refine r_goto (tgt := 16) dX10_isName_49 (by decide) ?_
        exact hk16 (0 : Int32) (v2 + (1 : Int32)) d
      · refine r_iconst dX10_isName_40 ki_1 ?_
        refine r_goto (tgt := 45) dX10_isName_41 (by decide) ?_
        refine r_istore_n_1 dX10_isName_45 rfl (by decide) rfl ?_
        refine r_iinc_2 dX10_isName_46 ki_1 (by decide) rfl ?_
        refine r_goto (tgt := 16) dX10_isName_49 (by decide) ?_
        exact hk16 (1 : Int32) (v2 + (1 : Int32)) d
theorem w_X10_isName_16 {E : XE} (n : Nat) : ∀ (v1 : Int32) (v2 : Int32) (d : DD), AW E si_X10_isName 0 0 (QM E wrI) (f_X10_isName_16 n v1 v2 d) 16 [(0, .ref 86), (1, .int v1), (2, .int v2)] [] d := by
  induction n with
  | zero => intros; exact r_none
  | succ n ih => intro v1 v2 d; exact w_X10_isName_16B (f_X10_isName_16 n) ih v1 v2 d
def f_X10_isName (d : DD) : Option (Int32 × DD) :=
  if (d.1 86 12) = (1 : Int32) then
  f_X10_isName_16 FU (1 : Int32) (0 : Int32) d
  else
  f_X10_isName_16 FU (0 : Int32) (0 : Int32) d
set_option maxRecDepth 100000 in
set_option maxHeartbeats 4000000 in
theorem am_X10_isName (d : DD) : AM wrI mi_X10_isName 0 0 [.ref 86] d (f_X10_isName d) := by
  refine AM_intro (si := si_X10_isName) (lv := [(0, .ref 86)]) rfl (by decide +kernel) rfl (Nat.le_of_ble_eq_true rfl) (fun E => ?_)
  unfold f_X10_isName
  refine r_aload_n_0 dX10_isName_0 rfl ?_
  refine r_geti (cc := 10) 12 rfl rfl uX10 (by decide) rfl fw_X10_140 dX10_isName_1 ?_
  refine r_iconst dX10_isName_4 ki_1 ?_
  refine r_icmp_ne (tgt := 12) dX10_isName_5 (by decide) ?_ ?_
  · refine r_iconst dX10_isName_12 ki_0 ?_
    refine r_istore_n_x dX10_isName_13 rfl (by decide) rfl ?_
    refine r_iconst dX10_isName_14 ki_0 ?_
    refine r_istore_n_x dX10_isName_15 rfl (by decide) rfl ?_
    refine r_sub [2, 1, 0] (lv' := [(0, .ref 86), (1, .int (0 : Int32)), (2, .int (0 : Int32))]) rfl ?_
    exact w_X10_isName_16 FU (0 : Int32) (0 : Int32) d
  · refine r_iconst dX10_isName_8 ki_1 ?_
    refine r_goto (tgt := 13) dX10_isName_9 (by decide) ?_
    refine r_istore_n_x dX10_isName_13 rfl (by decide) rfl ?_
    refine r_iconst dX10_isName_14 ki_0 ?_
    refine r_istore_n_x dX10_isName_15 rfl (by decide) rfl ?_
    refine r_sub [2, 1, 0] (lv' := [(0, .ref 86), (1, .int (1 : Int32)), (2, .int (0 : Int32))]) rfl ?_
    exact w_X10_isName_16 FU (1 : Int32) (0 : Int32) d
theorem cf_X10_isName : CFv mi_X10_isName 0 := ⟨iw_X10_isName, vw_X10_isName, nw_X10, cw_X10_isName, by unfold plainF; decide +kernel⟩
abbrev si_X10_peek : SI := (cX10_peek, RX10, 1, (some .int), 0, 0)
def f_X10_peek (d : DD) : Option (Int32 × DD) :=
  if (d.1 86 4) < (d.1 86 3) then
  if ixb (d.1 86 4) (ln 87) then
    some ((d.1 87 (d.1 86 4).toNatClampNeg) &&& (255 : Int32), d)
    else none
  else
  some ((-1 : Int32), d)
set_option maxRecDepth 100000 in
set_option maxHeartbeats 4000000 in
theorem am_X10_peek (d : DD) : AM wrI mi_X10_peek 0 0 [.ref 86] d (f_X10_peek d) := by
  refine AM_intro (si := si_X10_peek) (lv := [(0, .ref 86)]) rfl (by decide +kernel) rfl (Nat.le_of_ble_eq_true rfl) (fun E => ?_)
  unfold f_X10_peek
  refine r_aload_n_0 dX10_peek_0 rfl ?_
  refine r_geti (cc := 10) 4 rfl rfl uX10 (by decide) rfl fw_X10_21 dX10_peek_1 ?_
  refine r_aload_n_0 dX10_peek_4 rfl ?_
  refine r_geti (cc := 10) 3 rfl rfl uX10 (by decide) rfl fw_X10_18 dX10_peek_5 ?_
  refine r_icmp_ge (tgt := 27) dX10_peek_8 (by decide) ?_ ?_
  · refine r_iconst dX10_peek_27 ki_m1 ?_
    exact r_ireturn dX10_peek_28 rfl
  · refine r_aload_n_0 dX10_peek_11 rfl ?_
    refine r_getr (t := 87) (cc := 10) 1 rfl rfl uX10 (by decide) rfl fw_X10_14 rfl dX10_peek_12 ?_
    refine r_aload_n_0 dX10_peek_15 rfl ?_
    refine r_geti (cc := 10) 4 rfl rfl uX10 (by decide) rfl fw_X10_21 dX10_peek_16 ?_
    refine r_baload rfl dX10_peek_19 ?_
    refine r_sipush dX10_peek_20 ks_255 ?_
    refine r_iand dX10_peek_23 ?_
    refine r_goto (tgt := 28) dX10_peek_24 (by decide) ?_
    exact r_ireturn dX10_peek_28 rfl
theorem cf_X10_peek : CFv mi_X10_peek 0 := ⟨iw_X10_peek, vw_X10_peek, nw_X10, cw_X10_peek, by unfold plainF; decide +kernel⟩
abbrev si_X10_isSmall : SI := (cX10_isSmall, RX10, 1, (some .boolean), 0, 0)
def f_X10_isSmall (p0 : Int32) (d : DD) : Option (Int32 × DD) :=
  if p0 < (97 : Int32) then
  some ((0 : Int32), d)
  else
  if (122 : Int32) < p0 then
    some ((0 : Int32), d)
    else
    some ((1 : Int32), d)
set_option maxRecDepth 100000 in
set_option maxHeartbeats 4000000 in
theorem am_X10_isSmall (p0 : Int32) (d : DD) : AM wrI mi_X10_isSmall 0 0 [.int p0] d (f_X10_isSmall p0 d) := by
  refine AM_intro (si := si_X10_isSmall) (lv := [(0, .int p0)]) rfl (by decide +kernel) rfl (Nat.le_of_ble_eq_true rfl) (fun E => ?_)
  unfold f_X10_isSmall
  refine r_iload_n_0 dX10_isSmall_0 rfl ?_
  refine r_bipush dX10_isSmall_1 kb_97 ?_
  refine r_icmp_lt (tgt := 16) dX10_isSmall_3 (by decide) ?_ ?_
  · refine r_iconst dX10_isSmall_16 ki_0 ?_
    exact r_zreturn dX10_isSmall_17 rfl rfl
  · refine r_iload_n_0 dX10_isSmall_6 rfl ?_
    refine r_bipush dX10_isSmall_7 kb_122 ?_
    refine r_icmp_gt (tgt := 16) dX10_isSmall_9 (by decide) ?_ ?_
    · refine r_iconst dX10_isSmall_16 ki_0 ?_
      exact r_zreturn dX10_isSmall_17 rfl rfl
    · refine r_iconst dX10_isSmall_12 ki_1 ?_
      refine r_goto (tgt := 17) dX10_isSmall_13 (by decide) ?_
      exact r_zreturn dX10_isSmall_17 rfl rfl
theorem cf_X10_isSmall : CFs mi_X10_isSmall 1 := ⟨sw_X10_isSmall, nw_X10, cw_X10_isSmall, by unfold plainF; decide +kernel⟩
abbrev si_X10_isDigit : SI := (cX10_isDigit, RX10, 1, (some .boolean), 0, 0)
def f_X10_isDigit (p0 : Int32) (d : DD) : Option (Int32 × DD) :=
  if p0 < (48 : Int32) then
  some ((0 : Int32), d)
  else
  if (57 : Int32) < p0 then
    some ((0 : Int32), d)
    else
    some ((1 : Int32), d)
set_option maxRecDepth 100000 in
set_option maxHeartbeats 4000000 in
theorem am_X10_isDigit (p0 : Int32) (d : DD) : AM wrI mi_X10_isDigit 0 0 [.int p0] d (f_X10_isDigit p0 d) := by
  refine AM_intro (si := si_X10_isDigit) (lv := [(0, .int p0)]) rfl (by decide +kernel) rfl (Nat.le_of_ble_eq_true rfl) (fun E => ?_)
  unfold f_X10_isDigit
  refine r_iload_n_0 dX10_isDigit_0 rfl ?_
  refine r_bipush dX10_isDigit_1 kb_48 ?_
  refine r_icmp_lt (tgt := 16) dX10_isDigit_3 (by decide) ?_ ?_
  · refine r_iconst dX10_isDigit_16 ki_0 ?_
    exact r_zreturn dX10_isDigit_17 rfl rfl
  · refine r_iload_n_0 dX10_isDigit_6 rfl ?_
    refine r_bipush dX10_isDigit_7 kb_57 ?_
    refine r_icmp_gt (tgt := 16) dX10_isDigit_9 (by decide) ?_ ?_
    · refine r_iconst dX10_isDigit_16 ki_0 ?_
      exact r_zreturn dX10_isDigit_17 rfl rfl
    · refine r_iconst dX10_isDigit_12 ki_1 ?_
      refine r_goto (tgt := 17) dX10_isDigit_13 (by decide) ?_
      exact r_zreturn dX10_isDigit_17 rfl rfl
theorem cf_X10_isDigit : CFs mi_X10_isDigit 1 := ⟨sw_X10_isDigit, nw_X10, cw_X10_isDigit, by unfold plainF; decide +kernel⟩
abbrev si_X10_skip : SI := (cX10_skip, RX10, 4, none, 1, 20)
def f_X10_skip_18 (k0 : DD → Option (Unit × DD)) (d : DD) : Option (Unit × DD) :=
  bd (u1 d 86 4 ((d.1 86 4) + (1 : Int32))) fun d2 =>
  k0 d2
set_option maxRecDepth 100000 in
set_option maxHeartbeats 4000000 in
theorem w_X10_skip_18 {E : XE} (k0 : DD → Option (Unit × DD)) (hk0 : ∀ (d : DD), AW E si_X10_skip 0 0 (QM E wrU) (k0 d) 0 [(0, .ref 86)] [] d) (d : DD) : AW E si_X10_skip 0 0 (QM E wrU) (f_X10_skip_18 k0 d) 18 [(0, .ref 86)] [] d := by
  unfold f_X10_skip_18
  refine r_aload_n_0 dX10_skip_18 rfl ?_
  refine r_dupa dX10_skip_19 ?_
  refine r_geti (cc := 10) 4 rfl rfl uX10 (by decide) rfl fw_X10_21 dX10_skip_20 ?_
  refine r_iconst dX10_skip_23 ki_1 ?_
  refine r_iadd dX10_skip_24 ?_
  refine r_puti (cc := 10) 4 tyX10 tyX10_ok nmX10 rfl (by decide +kernel) rfl rfl uX10 (by decide) rfl fw_X10_21 dX10_skip_25 ?_
  refine r_bd (fun d2 => ?_)
  refine r_goto (tgt := 0) dX10_skip_28 (by decide) ?_
  exact hk0 d2
def f_X10_skip_251 (k157 : Int32 → Int32 → DD → Option (Unit × DD)) (v2 : Int32) (v3 : Int32) (d : DD) : Option (Unit × DD) :=
  bd (u1 d 86 14 ((d.1 86 14) + (1 : Int32))) fun d13 =>
  bd (u1 d13 86 4 ((d13.1 86 4) + (1 : Int32))) fun d14 =>
  k157 v2 v3 d14
set_option maxRecDepth 100000 in
set_option maxHeartbeats 4000000 in
theorem w_X10_skip_251 {E : XE} (k157 : Int32 → Int32 → DD → Option (Unit × DD)) (hk157 : ∀ (v2 : Int32) (v3 : Int32) (d : DD), AW E si_X10_skip 0 0 (QM E wrU) (k157 v2 v3 d) 157 [(0, .ref 86), (2, .int v2), (3, .int v3)] [] d) (v2 : Int32) (v3 : Int32) (d : DD) : AW E si_X10_skip 0 0 (QM E wrU) (f_X10_skip_251 k157 v2 v3 d) 251 [(0, .ref 86), (2, .int v2), (3, .int v3)] [] d := by
  unfold f_X10_skip_251
  refine r_aload_n_0 dX10_skip_251 rfl ?_
  refine r_dupa dX10_skip_252 ?_
  refine r_geti (cc := 10) 14 rfl rfl uX10 (by decide) rfl fw_X10_137 dX10_skip_253 ?_
  refine r_iconst dX10_skip_256 ki_1 ?_
  refine r_iadd dX10_skip_257 ?_
  refine r_puti (cc := 10) 14 tyX10 tyX10_ok nmX10 rfl (by decide +kernel) rfl rfl uX10 (by decide) rfl fw_X10_137 dX10_skip_258 ?_
  refine r_bd (fun d13 => ?_)
  refine r_aload_n_0 dX10_skip_261 rfl ?_
  refine r_dupa dX10_skip_262 ?_
  refine r_geti (cc := 10) 4 rfl rfl uX10 (by decide) rfl fw_X10_21 dX10_skip_263 ?_
  refine r_iconst dX10_skip_266 ki_1 ?_
  refine r_iadd dX10_skip_267 ?_
  refine r_puti (cc := 10) 4 tyX10 tyX10_ok nmX10 rfl (by decide +kernel) rfl rfl uX10 (by decide) rfl fw_X10_21 dX10_skip_268 ?_
  refine r_bd (fun d14 => ?_)
  refine r_goto (tgt := 157) dX10_skip_271 (by decide) ?_
  exact hk157 v2 v3 d14
def f_X10_skip_224 (k157 : Int32 → Int32 → DD → Option (Unit × DD)) (v2 : Int32) (v3 : Int32) (d : DD) : Option (Unit × DD) :=
  if (d.1 86 14) < (2 : Int32) then
  (f_X10_peek d).bind fun q15 =>
    bd (u1 q15.2 86 15 ((((10 : Int32) * (d.1 86 15)) + q15.1) - (48 : Int32))) fun d16 =>
    f_X10_skip_251 k157 v2 v3 d16
  else
  f_X10_skip_251 k157 v2 v3 d
set_option maxRecDepth 100000 in
set_option maxHeartbeats 4000000 in
theorem w_X10_skip_224 {E : XE} (k157 : Int32 → Int32 → DD → Option (Unit × DD)) (hk157 : ∀ (v2 : Int32) (v3 : Int32) (d : DD), AW E si_X10_skip 0 0 (QM E wrU) (k157 v2 v3 d) 157 [(0, .ref 86), (2, .int v2), (3, .int v3)] [] d) (v2 : Int32) (v3 : Int32) (d : DD) : AW E si_X10_skip 0 0 (QM E wrU) (f_X10_skip_224 k157 v2 v3 d) 224 [(0, .ref 86), (2, .int v2), (3, .int v3)] [] d := by
  unfold f_X10_skip_224
  refine r_aload_n_0 dX10_skip_224 rfl ?_
  refine r_geti (cc := 10) 14 rfl rfl uX10 (by decide) rfl fw_X10_137 dX10_skip_225 ?_
  refine r_iconst dX10_skip_228 ki_2 ?_
  refine r_icmp_ge (tgt := 251) dX10_skip_229 (by decide) ?_ ?_
  · exact w_X10_skip_251 k157 hk157 v2 v3 d
  · refine r_aload_n_0 dX10_skip_232 rfl ?_
    refine r_bipush dX10_skip_233 kb_10 ?_
    refine r_aload_n_0 dX10_skip_235 rfl ?_
    refine r_geti (cc := 10) 15 rfl rfl uX10 (by decide) rfl fw_X10_150 dX10_skip_236 ?_
    refine r_imul dX10_skip_239 ?_
    refine r_aload_n_0 dX10_skip_240 rfl ?_
    refine r_callVI (cc := 10) [.int ((10 : Int32) * (d.1 86 15)), .ref 86] (am_X10_peek d) rfl rfl cf_X10_peek mw_X10_130 (by decide) dX10_skip_241 rfl (Nat.le_of_ble_eq_true rfl) ⟨rfl, rfl⟩ (fun q15 => ?_)
    refine r_iadd dX10_skip_244 ?_
    refine r_bipush dX10_skip_245 kb_48 ?_
    refine r_isub dX10_skip_247 ?_
    refine r_puti (cc := 10) 15 tyX10 tyX10_ok nmX10 rfl (by decide +kernel) rfl rfl uX10 (by decide) rfl fw_X10_150 dX10_skip_248 ?_
    refine r_bd (fun d16 => ?_)
    exact w_X10_skip_251 k157 hk157 v2 v3 d16
def f_X10_skip_197 (k157 : Int32 → Int32 → DD → Option (Unit × DD)) (v2 : Int32) (t0 : Int32) (d : DD) : Option (Unit × DD) :=
  if (d.1 86 14) < (6 : Int32) then
  (f_X10_peek d).bind fun q17 =>
    bd (u2 q17.2 86 18 (((d.2 86 18) <<< ((8 : Int32).toInt64 &&& 63)) ||| q17.1.toInt64)) fun d18 =>
    f_X10_skip_224 k157 v2 t0 d18
  else
  f_X10_skip_224 k157 v2 t0 d
set_option maxRecDepth 100000 in
set_option maxHeartbeats 4000000 in
theorem w_X10_skip_197 {E : XE} (k157 : Int32 → Int32 → DD → Option (Unit × DD)) (hk157 : ∀ (v2 : Int32) (v3 : Int32) (d : DD), AW E si_X10_skip 0 0 (QM E wrU) (k157 v2 v3 d) 157 [(0, .ref 86), (2, .int v2), (3, .int v3)] [] d) (v2 : Int32) (t0 : Int32) (d : DD) : AW E si_X10_skip 0 0 (QM E wrU) (f_X10_skip_197 k157 v2 t0 d) 197 [(0, .ref 86), (2, .int v2)] [.int t0] d := by
  unfold f_X10_skip_197
  refine r_istore_n_x dX10_skip_197 rfl (by decide) rfl ?_
  refine r_aload_n_1 dX10_skip_198 rfl ?_
  refine r_geti (cc := 10) 14 rfl rfl uX10 (by decide) rfl fw_X10_137 dX10_skip_199 ?_
  refine r_bipush dX10_skip_202 kb_6 ?_
  refine r_icmp_ge (tgt := 224) dX10_skip_204 (by decide) ?_ ?_
  · refine r_sub [1, 2, 0] (lv' := [(0, .ref 86), (2, .int v2), (3, .int t0)]) rfl ?_
    exact w_X10_skip_224 k157 hk157 v2 t0 d
  · refine r_aload_n_1 dX10_skip_207 rfl ?_
    refine r_aload_n_1 dX10_skip_208 rfl ?_
    refine r_getl (cc := 10) 18 rfl rfl uX10 (by decide) rfl fw_X10_153 dX10_skip_209 ?_
    refine r_bipush dX10_skip_212 kb_8 ?_
    refine r_lshl dX10_skip_214 ?_
    refine r_aload_n_1 dX10_skip_215 rfl ?_
    refine r_callVI (cc := 10) [.long ((d.2 86 18) <<< ((8 : Int32).toInt64 &&& 63)), .ref 86] (am_X10_peek d) rfl rfl cf_X10_peek mw_X10_130 (by decide) dX10_skip_216 rfl (Nat.le_of_ble_eq_true rfl) ⟨rfl, rfl⟩ (fun q17 => ?_)
    refine r_i2l dX10_skip_219 ?_
    refine r_lor dX10_skip_220 ?_
    refine r_putl (cc := 10) 18 tyX10 tyX10_ok nmX10 rfl (by decide +kernel) rfl rfl uX10 (by decide) rfl fw_X10_153 dX10_skip_221 ?_
    refine r_bd (fun d18 => ?_)
    refine r_sub [1, 2, 0] (lv' := [(0, .ref 86), (2, .int v2), (3, .int t0)]) rfl ?_
    exact w_X10_skip_224 k157 hk157 v2 t0 d18
def f_X10_skip_196 (k157 : Int32 → Int32 → DD → Option (Unit × DD)) (v2 : Int32) (d : DD) : Option (Unit × DD) :=
  f_X10_skip_197 k157 v2 (0 : Int32) d
set_option maxRecDepth 100000 in
set_option maxHeartbeats 4000000 in
theorem w_X10_skip_196 {E : XE} (k157 : Int32 → Int32 → DD → Option (Unit × DD)) (hk157 : ∀ (v2 : Int32) (v3 : Int32) (d : DD), AW E si_X10_skip 0 0 (QM E wrU) (k157 v2 v3 d) 157 [(0, .ref 86), (2, .int v2), (3, .int v3)] [] d) (v2 : Int32) (d : DD) : AW E si_X10_skip 0 0 (QM E wrU) (f_X10_skip_196 k157 v2 d) 196 [(0, .ref 86), (2, .int v2)] [] d := by
  unfold f_X10_skip_196
  refine r_iconst dX10_skip_196 ki_0 ?_
  exact w_X10_skip_197 k157 hk157 v2 (0 : Int32) d
def f_X10_skip_177 (k157 : Int32 → Int32 → DD → Option (Unit × DD)) (v2 : Int32) (v3 : Int32) (d : DD) : Option (Unit × DD) :=
  if v3 = 0 then
  f_X10_skip_196 k157 v2 d
  else
  (f_X10_peek d).bind fun q19 =>
    (f_X10_isSmall q19.1 q19.2).bind fun q20 =>
    if q20.1 = v2 then
    f_X10_skip_197 k157 v2 (1 : Int32) q20.2
    else
    f_X10_skip_196 k157 v2 q20.2
set_option maxRecDepth 100000 in
set_option maxHeartbeats 4000000 in
theorem w_X10_skip_177 {E : XE} (k157 : Int32 → Int32 → DD → Option (Unit × DD)) (hk157 : ∀ (v2 : Int32) (v3 : Int32) (d : DD), AW E si_X10_skip 0 0 (QM E wrU) (k157 v2 v3 d) 157 [(0, .ref 86), (2, .int v2), (3, .int v3)] [] d) (v2 : Int32) (v3 : Int32) (d : DD) : AW E si_X10_skip 0 0 (QM E wrU) (f_X10_skip_177 k157 v2 v3 d) 177 [(0, .ref 86), (2, .int v2), (3, .int v3)] [] d := by
  unfold f_X10_skip_177
  refine r_iload_n_2 dX10_skip_177 rfl ?_
  refine r_if_eq (tgt := 196) dX10_skip_178 (by decide) ?_ ?_
  · refine r_sub [0, 1] (lv' := [(0, .ref 86), (2, .int v2)]) rfl ?_
    exact w_X10_skip_196 k157 hk157 v2 d
  · refine r_aload_n_0 dX10_skip_181 rfl ?_
    refine r_callVI (cc := 10) [] (am_X10_peek d) rfl rfl cf_X10_peek mw_X10_130 (by decide) dX10_skip_182 rfl (Nat.le_of_ble_eq_true rfl) ⟨rfl, rfl⟩ (fun q19 => ?_)
    refine r_callSI [] (am_X10_isSmall q19.1 q19.2) cf_X10_isSmall mw_X10_143 (by decide) dX10_skip_185 rfl (Nat.le_of_ble_eq_true rfl) ⟨rfl, rfl⟩ (fun q20 => ?_)
    refine r_iload_n_1 dX10_skip_188 rfl ?_
    refine r_icmp_ne (tgt := 196) dX10_skip_189 (by decide) ?_ ?_
    · refine r_sub [0, 1] (lv' := [(0, .ref 86), (2, .int v2)]) rfl ?_
      exact w_X10_skip_196 k157 hk157 v2 q20.2
    · refine r_iconst dX10_skip_192 ki_1 ?_
      refine r_goto (tgt := 197) dX10_skip_193 (by decide) ?_
      refine r_sub [0, 1] (lv' := [(0, .ref 86), (2, .int v2)]) rfl ?_
      exact w_X10_skip_197 k157 hk157 v2 (1 : Int32) q20.2
def f_X10_skip_157B (k157 : Int32 → Int32 → DD → Option (Unit × DD)) (v2 : Int32) (v3 : Int32) (d : DD) : Option (Unit × DD) :=
  (f_X10_peek d).bind fun q11 =>
  (f_X10_isSmall q11.1 q11.2).bind fun q12 =>
  if q12.1 = 0 then
  (f_X10_peek q12.2).bind fun q21 =>
    (f_X10_isDigit q21.1 q21.2).bind fun q22 =>
    if q22.1 = 0 then
    if v3 = 0 then
      bd (u1 q22.2 86 12 (4 : Int32)) fun d23 =>
        some ((), d23)
      else
      if v2 = 0 then
        if (2 : Int32) < (q22.2.1 86 14) then
          bd (u1 q22.2 86 12 (4 : Int32)) fun d26 =>
            some ((), d26)
          else
          if v2 = 0 then
            bd (u1 q22.2 86 12 (2 : Int32)) fun d24 =>
              some ((), d24)
            else
            bd (u1 q22.2 86 12 (1 : Int32)) fun d25 =>
              some ((), d25)
        else
        if (6 : Int32) < (q22.2.1 86 14) then
          bd (u1 q22.2 86 12 (4 : Int32)) fun d29 =>
            some ((), d29)
          else
          if v2 = 0 then
            bd (u1 q22.2 86 12 (2 : Int32)) fun d27 =>
              some ((), d27)
            else
            bd (u1 q22.2 86 12 (1 : Int32)) fun d28 =>
              some ((), d28)
    else
    f_X10_skip_177 k157 v2 v3 q22.2
  else
  f_X10_skip_177 k157 v2 v3 q12.2
def f_X10_skip_157 : Nat → Int32 → Int32 → DD → Option (Unit × DD)
  | 0, _, _, _ => none
  | n + 1, v2, v3, d => f_X10_skip_157B (f_X10_skip_157 n) v2 v3 d
set_option maxRecDepth 100000 in
set_option maxHeartbeats 4000000 in
theorem w_X10_skip_157B {E : XE} (k157 : Int32 → Int32 → DD → Option (Unit × DD)) (hk157 : ∀ (v2 : Int32) (v3 : Int32) (d : DD), AW E si_X10_skip 0 0 (QM E wrU) (k157 v2 v3 d) 157 [(0, .ref 86), (2, .int v2), (3, .int v3)] [] d) (v2 : Int32) (v3 : Int32) (d : DD) : AW E si_X10_skip 0 0 (QM E wrU) (f_X10_skip_157B k157 v2 v3 d) 157 [(0, .ref 86), (2, .int v2), (3, .int v3)] [] d := by
  unfold f_X10_skip_157B
  refine r_aload_n_0 dX10_skip_157 rfl ?_
  refine r_callVI (cc := 10) [] (am_X10_peek d) rfl rfl cf_X10_peek mw_X10_130 (by decide) dX10_skip_158 rfl (Nat.le_of_ble_eq_true rfl) ⟨rfl, rfl⟩ (fun q11 => ?_)
  refine r_callSI [] (am_X10_isSmall q11.1 q11.2) cf_X10_isSmall mw_X10_143 (by decide) dX10_skip_161 rfl (Nat.le_of_ble_eq_true rfl) ⟨rfl, rfl⟩ (fun q12 => ?_)
  refine r_if_ne (tgt := 177) dX10_skip_164 (by decide) ?_ ?_
  · exact w_X10_skip_177 k157 hk157 v2 v3 q12.2
  · refine r_aload_n_0 dX10_skip_167 rfl ?_
    refine r_callVI (cc := 10) [] (am_X10_peek q12.2) rfl rfl cf_X10_peek mw_X10_130 (by decide) dX10_skip_168 rfl (Nat.le_of_ble_eq_true rfl) ⟨rfl, rfl⟩ (fun q21 => ?_)
    refine r_callSI [] (am_X10_isDigit q21.1 q21.2) cf_X10_isDigit mw_X10_147 (by decide) dX10_skip_171 rfl (Nat.le_of_ble_eq_true rfl) ⟨rfl, rfl⟩ (fun q22 => ?_)
    refine r_if_eq (tgt := 274) dX10_skip_174 (by decide) ?_ ?_
    · refine r_aload_n_0 dX10_skip_274 rfl ?_
      refine r_iload_n_2 dX10_skip_275 rfl ?_
      refine r_if_eq (tgt := 296) dX10_skip_276 (by decide) ?_ ?_
      · refine r_iconst dX10_skip_296 ki_4 ?_
        refine r_goto (tgt := 309) dX10_skip_297 (by decide) ?_
        refine r_puti (cc := 10) 12 tyX10 tyX10_ok nmX10 rfl (by decide +kernel) rfl rfl uX10 (by decide) rfl fw_X10_140 dX10_skip_309 ?_
        refine r_bd (fun d23 => ?_)
        exact r_return dX10_skip_312 rfl
      · refine r_aload_n_0 dX10_skip_279 rfl ?_
        refine r_geti (cc := 10) 14 rfl rfl uX10 (by decide) rfl fw_X10_137 dX10_skip_280 ?_
        refine r_iload_n_1 dX10_skip_283 rfl ?_
        refine r_if_eq (tgt := 292) dX10_skip_284 (by decide) ?_ ?_
        · refine r_iconst dX10_skip_292 ki_2 ?_
          refine r_icmp_le (tgt := 300) dX10_skip_293 (by decide) ?_ ?_
          · refine r_iload_n_1 dX10_skip_300 rfl ?_
            refine r_if_eq (tgt := 308) dX10_skip_301 (by decide) ?_ ?_
            · refine r_iconst dX10_skip_308 ki_2 ?_
              refine r_puti (cc := 10) 12 tyX10 tyX10_ok nmX10 rfl (by decide +kernel) rfl rfl uX10 (by decide) rfl fw_X10_140 dX10_skip_309 ?_
              refine r_bd (fun d24 => ?_)
              exact r_return dX10_skip_312 rfl
            · refine r_iconst dX10_skip_304 ki_1 ?_
              refine r_goto (tgt := 309) dX10_skip_305 (by decide) ?_
              refine r_puti (cc := 10) 12 tyX10 tyX10_ok nmX10 rfl (by decide +kernel) rfl rfl uX10 (by decide) rfl fw_X10_140 dX10_skip_309 ?_
              refine r_bd (fun d25 => ?_)
              exact r_return dX10_skip_312 rfl
          · refine r_iconst dX10_skip_296 ki_4 ?_
            refine r_goto (tgt := 309) dX10_skip_297 (by decide) ?_
            refine r_puti (cc := 10) 12 tyX10 tyX10_ok nmX10 rfl (by decide +kernel) rfl rfl uX10 (by decide) rfl fw_X10_140 dX10_skip_309 ?_
            refine r_bd (fun d26 => ?_)
            exact r_return dX10_skip_312 rfl
        · refine r_bipush dX10_skip_287 kb_6 ?_
          refine r_goto (tgt := 293) dX10_skip_289 (by decide) ?_
          refine r_icmp_le (tgt := 300) dX10_skip_293 (by decide) ?_ ?_
          · refine r_iload_n_1 dX10_skip_300 rfl ?_
            refine r_if_eq (tgt := 308) dX10_skip_301 (by decide) ?_ ?_
            · refine r_iconst dX10_skip_308 ki_2 ?_
              refine r_puti (cc := 10) 12 tyX10 tyX10_ok nmX10 rfl (by decide +kernel) rfl rfl uX10 (by decide) rfl fw_X10_140 dX10_skip_309 ?_
              refine r_bd (fun d27 => ?_)
              exact r_return dX10_skip_312 rfl
            · refine r_iconst dX10_skip_304 ki_1 ?_
              refine r_goto (tgt := 309) dX10_skip_305 (by decide) ?_
              refine r_puti (cc := 10) 12 tyX10 tyX10_ok nmX10 rfl (by decide +kernel) rfl rfl uX10 (by decide) rfl fw_X10_140 dX10_skip_309 ?_
              refine r_bd (fun d28 => ?_)
              exact r_return dX10_skip_312 rfl
          · refine r_iconst dX10_skip_296 ki_4 ?_
            refine r_goto (tgt := 309) dX10_skip_297 (by decide) ?_
            refine r_puti (cc := 10) 12 tyX10 tyX10_ok nmX10 rfl (by decide +kernel) rfl rfl uX10 (by decide) rfl fw_X10_140 dX10_skip_309 ?_
            refine r_bd (fun d29 => ?_)
            exact r_return dX10_skip_312 rfl
    · exact w_X10_skip_177 k157 hk157 v2 v3 q22.2
theorem w_X10_skip_157 {E : XE} (n : Nat) : ∀ (v2 : Int32) (v3 : Int32) (d : DD), AW E si_X10_skip 0 0 (QM E wrU) (f_X10_skip_157 n v2 v3 d) 157 [(0, .ref 86), (2, .int v2), (3, .int v3)] [] d := by
  induction n with
  | zero => intros; exact r_none
  | succ n ih => intro v2 v3 d; exact w_X10_skip_157B (f_X10_skip_157 n) ih v2 v3 d
def f_X10_skip_140 (v1 : Int32) (d : DD) : Option (Unit × DD) :=
  (f_X10_isSmall v1 d).bind fun q8 =>
  bd (u2 q8.2 86 18 (0 : Int64)) fun d9 =>
  bd (u1 d9 86 15 (0 : Int32)) fun d10 =>
  f_X10_skip_157 FU q8.1 (1 : Int32) d10
set_option maxRecDepth 100000 in
set_option maxHeartbeats 4000000 in
theorem w_X10_skip_140 {E : XE} (v1 : Int32) (d : DD) : AW E si_X10_skip 0 0 (QM E wrU) (f_X10_skip_140 v1 d) 140 [(0, .ref 86), (1, .int v1)] [] d := by
  unfold f_X10_skip_140
  refine r_iload_n_1 dX10_skip_140 rfl ?_
  refine r_callSI [] (am_X10_isSmall v1 d) cf_X10_isSmall mw_X10_143 (by decide) dX10_skip_141 rfl (Nat.le_of_ble_eq_true rfl) ⟨rfl, rfl⟩ (fun q8 => ?_)
  refine r_istore_n_x dX10_skip_144 rfl (by decide) rfl ?_
  refine r_iconst dX10_skip_145 ki_1 ?_
  refine r_istore_n_x dX10_skip_146 rfl (by decide) rfl ?_
  refine r_aload_n_2 dX10_skip_147 rfl ?_
  refine r_lconst dX10_skip_148 kl_0 ?_
  refine r_putl (cc := 10) 18 tyX10 tyX10_ok nmX10 rfl (by decide +kernel) rfl rfl uX10 (by decide) rfl fw_X10_153 dX10_skip_149 ?_
  refine r_bd (fun d9 => ?_)
  refine r_aload_n_2 dX10_skip_152 rfl ?_
  refine r_iconst dX10_skip_153 ki_0 ?_
  refine r_puti (cc := 10) 15 tyX10 tyX10_ok nmX10 rfl (by decide +kernel) rfl rfl uX10 (by decide) rfl fw_X10_150 dX10_skip_154 ?_
  refine r_bd (fun d10 => ?_)
  refine r_sub [2, 1, 0] (lv' := [(0, .ref 86), (2, .int q8.1), (3, .int (1 : Int32))]) rfl ?_
  exact w_X10_skip_157 FU q8.1 (1 : Int32) d10
def f_X10_skip_80 (d : DD) : Option (Unit × DD) :=
  (f_X10_peek d).bind fun q6 =>
  if q6.1 < 0 then
  bd (u1 q6.2 86 12 (0 : Int32)) fun d37 =>
    some ((), d37)
  else
  (f_X10_isSmall q6.1 q6.2).bind fun q7 =>
    if q7.1 = 0 then
    (f_X10_isDigit q6.1 q7.2).bind fun q30 =>
      if q30.1 = 0 then
      if q6.1 = (59 : Int32) then
        bd (u1 q30.2 86 12 (3 : Int32)) fun d34 =>
          bd (u1 d34 86 15 q6.1) fun d35 =>
          bd (u1 d35 86 4 ((d35.1 86 4) + (1 : Int32))) fun d36 =>
          some ((), d36)
        else
        bd (u1 q30.2 86 12 (4 : Int32)) fun d31 =>
          bd (u1 d31 86 15 q6.1) fun d32 =>
          bd (u1 d32 86 4 ((d32.1 86 4) + (1 : Int32))) fun d33 =>
          some ((), d33)
      else
      f_X10_skip_140 q6.1 q30.2
    else
    f_X10_skip_140 q6.1 q7.2
set_option maxRecDepth 100000 in
set_option maxHeartbeats 4000000 in
theorem w_X10_skip_80 {E : XE} (d : DD) : AW E si_X10_skip 0 0 (QM E wrU) (f_X10_skip_80 d) 80 [(0, .ref 86)] [] d := by
  unfold f_X10_skip_80
  refine r_aload_n_0 dX10_skip_80 rfl ?_
  refine r_callVI (cc := 10) [] (am_X10_peek d) rfl rfl cf_X10_peek mw_X10_130 (by decide) dX10_skip_81 rfl (Nat.le_of_ble_eq_true rfl) ⟨rfl, rfl⟩ (fun q6 => ?_)
  refine r_istore_n_x dX10_skip_84 rfl (by decide) rfl ?_
  refine r_iload_n_0 dX10_skip_85 rfl ?_
  refine r_if_ge (tgt := 95) dX10_skip_86 (by decide) ?_ ?_
  · refine r_iload_n_0 dX10_skip_95 rfl ?_
    refine r_callSI [] (am_X10_isSmall q6.1 q6.2) cf_X10_isSmall mw_X10_143 (by decide) dX10_skip_96 rfl (Nat.le_of_ble_eq_true rfl) ⟨rfl, rfl⟩ (fun q7 => ?_)
    refine r_if_ne (tgt := 140) dX10_skip_99 (by decide) ?_ ?_
    · refine r_sub [1, 0] (lv' := [(0, .ref 86), (1, .int q6.1)]) rfl ?_
      exact w_X10_skip_140 q6.1 q7.2
    · refine r_iload_n_0 dX10_skip_102 rfl ?_
      refine r_callSI [] (am_X10_isDigit q6.1 q7.2) cf_X10_isDigit mw_X10_147 (by decide) dX10_skip_103 rfl (Nat.le_of_ble_eq_true rfl) ⟨rfl, rfl⟩ (fun q30 => ?_)
      refine r_if_ne (tgt := 140) dX10_skip_106 (by decide) ?_ ?_
      · refine r_sub [1, 0] (lv' := [(0, .ref 86), (1, .int q6.1)]) rfl ?_
        exact w_X10_skip_140 q6.1 q30.2
      · refine r_aload_n_1 dX10_skip_109 rfl ?_
        refine r_iload_n_0 dX10_skip_110 rfl ?_
        refine r_bipush dX10_skip_111 kb_59 ?_
        refine r_icmp_ne (tgt := 120) dX10_skip_113 (by decide) ?_ ?_
        · refine r_iconst dX10_skip_120 ki_4 ?_
          refine r_puti (cc := 10) 12 tyX10 tyX10_ok nmX10 rfl (by decide +kernel) rfl rfl uX10 (by decide) rfl fw_X10_140 dX10_skip_121 ?_
          refine r_bd (fun d31 => ?_)
          refine r_aload_n_1 dX10_skip_124 rfl ?_
          refine r_iload_n_0 dX10_skip_125 rfl ?_
          refine r_puti (cc := 10) 15 tyX10 tyX10_ok nmX10 rfl (by decide +kernel) rfl rfl uX10 (by decide) rfl fw_X10_150 dX10_skip_126 ?_
          refine r_bd (fun d32 => ?_)
          refine r_aload_n_1 dX10_skip_129 rfl ?_
          refine r_dupa dX10_skip_130 ?_
          refine r_geti (cc := 10) 4 rfl rfl uX10 (by decide) rfl fw_X10_21 dX10_skip_131 ?_
          refine r_iconst dX10_skip_134 ki_1 ?_
          refine r_iadd dX10_skip_135 ?_
          refine r_puti (cc := 10) 4 tyX10 tyX10_ok nmX10 rfl (by decide +kernel) rfl rfl uX10 (by decide) rfl fw_X10_21 dX10_skip_136 ?_
          refine r_bd (fun d33 => ?_)
          exact r_return dX10_skip_139 rfl
        · refine r_iconst dX10_skip_116 ki_3 ?_
          refine r_goto (tgt := 121) dX10_skip_117 (by decide) ?_
          refine r_puti (cc := 10) 12 tyX10 tyX10_ok nmX10 rfl (by decide +kernel) rfl rfl uX10 (by decide) rfl fw_X10_140 dX10_skip_121 ?_
          refine r_bd (fun d34 => ?_)
          refine r_aload_n_1 dX10_skip_124 rfl ?_
          refine r_iload_n_0 dX10_skip_125 rfl ?_
          refine r_puti (cc := 10) 15 tyX10 tyX10_ok nmX10 rfl (by decide +kernel) rfl rfl uX10 (by decide) rfl fw_X10_150 dX10_skip_126 ?_
          refine r_bd (fun d35 => ?_)
          refine r_aload_n_1 dX10_skip_129 rfl ?_
          refine r_dupa dX10_skip_130 ?_
          refine r_geti (cc := 10) 4 rfl rfl uX10 (by decide) rfl fw_X10_21 dX10_skip_131 ?_
          refine r_iconst dX10_skip_134 ki_1 ?_
          refine r_iadd dX10_skip_135 ?_
          refine r_puti (cc := 10) 4 tyX10 tyX10_ok nmX10 rfl (by decide +kernel) rfl rfl uX10 (by decide) rfl fw_X10_21 dX10_skip_136 ?_
          refine r_bd (fun d36 => ?_)
          exact r_return dX10_skip_139 rfl
  · refine r_aload_n_1 dX10_skip_89 rfl ?_
    refine r_iconst dX10_skip_90 ki_0 ?_
    refine r_puti (cc := 10) 12 tyX10 tyX10_ok nmX10 rfl (by decide +kernel) rfl rfl uX10 (by decide) rfl fw_X10_140 dX10_skip_91 ?_
    refine r_bd (fun d37 => ?_)
    exact r_return dX10_skip_94 rfl
def f_X10_skip_0B (k0 : DD → Option (Unit × DD)) (d : DD) : Option (Unit × DD) :=
  (f_X10_peek d).bind fun q1 =>
  if q1.1 = (32 : Int32) then
  f_X10_skip_18 k0 q1.2
  else
  (f_X10_peek q1.2).bind fun q3 =>
    if q3.1 = (10 : Int32) then
    f_X10_skip_18 k0 q3.2
    else
    bd (u1 q3.2 86 13 (q3.2.1 86 4)) fun d4 =>
      bd (u1 d4 86 14 (0 : Int32)) fun d5 =>
      if (d5.1 86 5) < (d5.1 86 3) then
      if (d5.1 86 4) < (d5.1 86 5) then
        f_X10_skip_80 d5
        else
        bd (u1 d5 86 13 (d5.1 86 5)) fun d38 =>
          bd (u1 d38 86 12 (4 : Int32)) fun d39 =>
          some ((), d39)
      else
      f_X10_skip_80 d5
def f_X10_skip_0 : Nat → DD → Option (Unit × DD)
  | 0, _ => none
  | n + 1, d => f_X10_skip_0B (f_X10_skip_0 n) d
set_option maxRecDepth 100000 in
set_option maxHeartbeats 4000000 in
theorem w_X10_skip_0B {E : XE} (k0 : DD → Option (Unit × DD)) (hk0 : ∀ (d : DD), AW E si_X10_skip 0 0 (QM E wrU) (k0 d) 0 [(0, .ref 86)] [] d) (d : DD) : AW E si_X10_skip 0 0 (QM E wrU) (f_X10_skip_0B k0 d) 0 [(0, .ref 86)] [] d := by
  unfold f_X10_skip_0B
  refine r_aload_n_0 dX10_skip_0 rfl ?_
  refine r_callVI (cc := 10) [] (am_X10_peek d) rfl rfl cf_X10_peek mw_X10_130 (by decide) dX10_skip_1 rfl (Nat.le_of_ble_eq_true rfl) ⟨rfl, rfl⟩ (fun q1 => ?_)
  refine r_bipush dX10_skip_4 kb_32 ?_
  refine r_icmp_eq (tgt := 18) dX10_skip_6 (by decide) ?_ ?_
  · exact w_X10_skip_18 k0 hk0 q1.2
  · refine r_aload_n_0 dX10_skip_9 rfl ?_
    refine r_callVI (cc := 10) [] (am_X10_peek q1.2) rfl rfl cf_X10_peek mw_X10_130 (by decide) dX10_skip_10 rfl (Nat.le_of_ble_eq_true rfl) ⟨rfl, rfl⟩ (fun q3 => ?_)
    refine r_bipush dX10_skip_13 kb_10 ?_
    refine r_icmp_ne (tgt := 31) dX10_skip_15 (by decide) ?_ ?_
    · refine r_aload_n_0 dX10_skip_31 rfl ?_
      refine r_aload_n_0 dX10_skip_32 rfl ?_
      refine r_geti (cc := 10) 4 rfl rfl uX10 (by decide) rfl fw_X10_21 dX10_skip_33 ?_
      refine r_puti (cc := 10) 13 tyX10 tyX10_ok nmX10 rfl (by decide +kernel) rfl rfl uX10 (by decide) rfl fw_X10_134 dX10_skip_36 ?_
      refine r_bd (fun d4 => ?_)
      refine r_aload_n_0 dX10_skip_39 rfl ?_
      refine r_iconst dX10_skip_40 ki_0 ?_
      refine r_puti (cc := 10) 14 tyX10 tyX10_ok nmX10 rfl (by decide +kernel) rfl rfl uX10 (by decide) rfl fw_X10_137 dX10_skip_41 ?_
      refine r_bd (fun d5 => ?_)
      refine r_aload_n_0 dX10_skip_44 rfl ?_
      refine r_geti (cc := 10) 3 rfl rfl uX10 (by decide) rfl fw_X10_18 dX10_skip_45 ?_
      refine r_aload_n_0 dX10_skip_48 rfl ?_
      refine r_geti (cc := 10) 5 rfl rfl uX10 (by decide) rfl fw_X10_24 dX10_skip_49 ?_
      refine r_icmp_le (tgt := 80) dX10_skip_52 (by decide) ?_ ?_
      · exact w_X10_skip_80 d5
      · refine r_aload_n_0 dX10_skip_55 rfl ?_
        refine r_geti (cc := 10) 4 rfl rfl uX10 (by decide) rfl fw_X10_21 dX10_skip_56 ?_
        refine r_aload_n_0 dX10_skip_59 rfl ?_
        refine r_geti (cc := 10) 5 rfl rfl uX10 (by decide) rfl fw_X10_24 dX10_skip_60 ?_
        refine r_icmp_lt (tgt := 80) dX10_skip_63 (by decide) ?_ ?_
        · exact w_X10_skip_80 d5
        · refine r_aload_n_0 dX10_skip_66 rfl ?_
          refine r_aload_n_0 dX10_skip_67 rfl ?_
          refine r_geti (cc := 10) 5 rfl rfl uX10 (by decide) rfl fw_X10_24 dX10_skip_68 ?_
          refine r_puti (cc := 10) 13 tyX10 tyX10_ok nmX10 rfl (by decide +kernel) rfl rfl uX10 (by decide) rfl fw_X10_134 dX10_skip_71 ?_
          refine r_bd (fun d38 => ?_)
          refine r_aload_n_0 dX10_skip_74 rfl ?_
          refine r_iconst dX10_skip_75 ki_4 ?_
          refine r_puti (cc := 10) 12 tyX10 tyX10_ok nmX10 rfl (by decide +kernel) rfl rfl uX10 (by decide) rfl fw_X10_140 dX10_skip_76 ?_
          refine r_bd (fun d39 => ?_)
          exact r_return dX10_skip_79 rfl
    · exact w_X10_skip_18 k0 hk0 q3.2
theorem w_X10_skip_0 {E : XE} (n : Nat) : ∀ (d : DD), AW E si_X10_skip 0 0 (QM E wrU) (f_X10_skip_0 n d) 0 [(0, .ref 86)] [] d := by
  induction n with
  | zero => intros; exact r_none
  | succ n ih => intro d; exact w_X10_skip_0B (f_X10_skip_0 n) ih d
def f_X10_skip (d : DD) : Option (Unit × DD) :=
  f_X10_skip_0 FU d
set_option maxRecDepth 100000 in
set_option maxHeartbeats 4000000 in
theorem am_X10_skip (d : DD) : AM wrU mi_X10_skip 1 20 [.ref 86] d (f_X10_skip d) := by
  refine AM_intro (si := si_X10_skip) (lv := [(0, .ref 86)]) rfl (by decide +kernel) rfl (Nat.le_of_ble_eq_true rfl) (fun E => ?_)
  unfold f_X10_skip
  exact w_X10_skip_0 FU d
theorem cf_X10_skip : CFv mi_X10_skip 0 := ⟨iw_X10_skip, vw_X10_skip, nw_X10, cw_X10_skip, by unfold plainF; decide +kernel⟩
abbrev si_X10_fresh : SI := (cX10_fresh, RX10, 2, (some .boolean), 2, 43)
def f_X10_fresh_43 (d : DD) : Option (Int32 × DD) :=
  (f_X10_bad (3 : Int32) d).bind fun q3 =>
  if q3.1 = 0 ∨ q3.1 = 1 then some (q3.1, q3.2) else none
set_option maxRecDepth 100000 in
set_option maxHeartbeats 4000000 in
theorem w_X10_fresh_43 {E : XE} (d : DD) : AW E si_X10_fresh 0 0 (QM E wrI) (f_X10_fresh_43 d) 43 [(0, .ref 86)] [] d := by
  unfold f_X10_fresh_43
  refine r_aload_n_0 dX10_fresh_43 rfl ?_
  refine r_iconst dX10_fresh_44 ki_3 ?_
  refine r_callVI (cc := 10) [] (am_X10_bad (3 : Int32) d) rfl rfl cf_X10_bad mw_X10_166 (by decide) dX10_fresh_45 rfl (Nat.le_of_ble_eq_true rfl) ⟨rfl, rfl⟩ (fun q3 => ?_)
  exact r_breturn dX10_fresh_48 rfl
def f_X10_fresh (p1 : Int32) (d : DD) : Option (Int32 × DD) :=
  (f_X10_isName d).bind fun q1 =>
  if q1.1 = 0 then
  (f_X10_bad (1 : Int32) q1.2).bind fun q7 =>
    if q7.1 = 0 ∨ q7.1 = 1 then some (q7.1, q7.2) else none
  else
  if ixb (0 : Int32) (ln 89) then
    (f_X10_find (7 : Int32) (q1.2.1 89 (0 : Int32).toNatClampNeg) q1.2).bind fun q2 =>
      if q2.1 < 0 then
      if ixb (1 : Int32) (ln 89) then
        (f_X10_find (10 : Int32) (q2.2.1 89 (1 : Int32).toNatClampNeg) q2.2).bind fun q4 =>
          if q4.1 < 0 then
          if ixb p1 (ln 92) then
            bd (u2 q4.2 92 p1.toNatClampNeg (q4.2.2 86 18)) fun d5 =>
            (f_X10_skip d5).bind fun q6 =>
              some ((1 : Int32), q6.2)
            else none
          else
          f_X10_fresh_43 q4.2
        else none
      else
      f_X10_fresh_43 q2.2
    else none
set_option maxRecDepth 100000 in
set_option maxHeartbeats 4000000 in
theorem am_X10_fresh (p1 : Int32) (d : DD) : AM wrI mi_X10_fresh 2 43 [.ref 86, .int p1] d (f_X10_fresh p1 d) := by
  refine AM_intro (si := si_X10_fresh) (lv := [(0, .ref 86), (1, .int p1)]) rfl (by decide +kernel) rfl (Nat.le_of_ble_eq_true rfl) (fun E => ?_)
  unfold f_X10_fresh
  refine r_aload_n_0 dX10_fresh_0 rfl ?_
  refine r_callVI (cc := 10) [] (am_X10_isName d) rfl rfl cf_X10_isName mw_X10_179 (by decide) dX10_fresh_1 rfl (Nat.le_of_ble_eq_true rfl) ⟨rfl, rfl⟩ (fun q1 => ?_)
  refine r_if_ne (tgt := 13) dX10_fresh_4 (by decide) ?_ ?_
  · refine r_aload_n_0 dX10_fresh_13 rfl ?_
    refine r_bipush dX10_fresh_14 kb_7 ?_
    refine r_aload_n_0 dX10_fresh_16 rfl ?_
    refine r_getr (t := 89) (cc := 10) 7 rfl rfl uX10 (by decide) rfl fw_X10_45 rfl dX10_fresh_17 ?_
    refine r_iconst dX10_fresh_20 ki_0 ?_
    refine r_iaload rfl dX10_fresh_21 ?_
    refine r_callVI (cc := 10) [] (am_X10_find (7 : Int32) (q1.2.1 89 (0 : Int32).toNatClampNeg) q1.2) rfl rfl cf_X10_find mw_X10_183 (by decide) dX10_fresh_22 rfl (Nat.le_of_ble_eq_true rfl) ⟨rfl, rfl⟩ (fun q2 => ?_)
    refine r_if_ge (tgt := 43) dX10_fresh_25 (by decide) ?_ ?_
    · refine r_sub [0] (lv' := [(0, .ref 86)]) rfl ?_
      exact w_X10_fresh_43 q2.2
    · refine r_aload_n_0 dX10_fresh_28 rfl ?_
      refine r_bipush dX10_fresh_29 kb_10 ?_
      refine r_aload_n_0 dX10_fresh_31 rfl ?_
      refine r_getr (t := 89) (cc := 10) 7 rfl rfl uX10 (by decide) rfl fw_X10_45 rfl dX10_fresh_32 ?_
      refine r_iconst dX10_fresh_35 ki_1 ?_
      refine r_iaload rfl dX10_fresh_36 ?_
      refine r_callVI (cc := 10) [] (am_X10_find (10 : Int32) (q2.2.1 89 (1 : Int32).toNatClampNeg) q2.2) rfl rfl cf_X10_find mw_X10_183 (by decide) dX10_fresh_37 rfl (Nat.le_of_ble_eq_true rfl) ⟨rfl, rfl⟩ (fun q4 => ?_)
      refine r_if_lt (tgt := 49) dX10_fresh_40 (by decide) ?_ ?_
      · refine r_aload_n_0 dX10_fresh_49 rfl ?_
        refine r_getr (t := 92) (cc := 10) 10 rfl rfl uX10 (by decide) rfl fw_X10_54 rfl dX10_fresh_50 ?_
        refine r_iload_n_1 dX10_fresh_53 rfl ?_
        refine r_aload_n_0 dX10_fresh_54 rfl ?_
        refine r_getl (cc := 10) 18 rfl rfl uX10 (by decide) rfl fw_X10_153 dX10_fresh_55 ?_
        refine r_lastore rfl dX10_fresh_58 ?_
        refine r_bd (fun d5 => ?_)
        refine r_aload_n_0 dX10_fresh_59 rfl ?_
        refine r_callVU (cc := 10) [] (am_X10_skip d5) rfl rfl cf_X10_skip mw_X10_169 (by decide) dX10_fresh_60 rfl (Nat.le_of_ble_eq_true rfl) ⟨rfl, rfl⟩ (fun q6 => ?_)
        refine r_iconst dX10_fresh_63 ki_1 ?_
        exact r_zreturn dX10_fresh_64 rfl rfl
      · refine r_sub [0] (lv' := [(0, .ref 86)]) rfl ?_
        exact w_X10_fresh_43 q4.2
  · refine r_aload_n_0 dX10_fresh_7 rfl ?_
    refine r_iconst dX10_fresh_8 ki_1 ?_
    refine r_callVI (cc := 10) [] (am_X10_bad (1 : Int32) q1.2) rfl rfl cf_X10_bad mw_X10_166 (by decide) dX10_fresh_9 rfl (Nat.le_of_ble_eq_true rfl) ⟨rfl, rfl⟩ (fun q7 => ?_)
    exact r_breturn dX10_fresh_12 rfl
theorem cf_X10_fresh : CFv mi_X10_fresh 1 := ⟨iw_X10_fresh, vw_X10_fresh, nw_X10, cw_X10_fresh, by unfold plainF; decide +kernel⟩
abbrev si_X10_sureOf : SI := (cX10_sureOf, RX10, 7, (some .int), 4, 103)
def f_X10_sureOf (p1 : Int32) (p2 : Int32) (p3 : Int64) (d : DD) : Option (Int32 × DD) :=
  (f_X10_passing p1 p2 d).bind fun q1 =>
  (f_X10_worldsIn p1 q1.1 q1.2).bind fun q2 =>
  if q2.1 = p3 then
  some ((1 : Int32), q2.2)
  else
  if q2.1 = (0 : Int64) then
    some ((0 : Int32), q2.2)
    else
    some ((2 : Int32), q2.2)
set_option maxRecDepth 100000 in
set_option maxHeartbeats 4000000 in
theorem am_X10_sureOf (p1 : Int32) (p2 : Int32) (p3 : Int64) (d : DD) : AM wrI mi_X10_sureOf 4 103 [.ref 86, .int p1, .int p2, .long p3] d (f_X10_sureOf p1 p2 p3 d) := by
  refine AM_intro (si := si_X10_sureOf) (lv := [(0, .ref 86), (1, .int p1), (2, .int p2), (3, .long p3)]) rfl (by decide +kernel) rfl (Nat.le_of_ble_eq_true rfl) (fun E => ?_)
  unfold f_X10_sureOf
  refine r_aload_n_0 dX10_sureOf_0 rfl ?_
  refine r_iload_n_1 dX10_sureOf_1 rfl ?_
  refine r_aload_n_0 dX10_sureOf_2 rfl ?_
  refine r_iload_n_1 dX10_sureOf_3 rfl ?_
  refine r_iload_n_2 dX10_sureOf_4 rfl ?_
  refine r_callVL (cc := 10) [.int p1, .ref 86] (am_X10_passing p1 p2 d) rfl rfl cf_X10_passing mw_X10_293 (by decide) dX10_sureOf_5 rfl (Nat.le_of_ble_eq_true rfl) ⟨rfl, rfl⟩ (fun q1 => ?_)
  refine r_callVL (cc := 10) [] (am_X10_worldsIn p1 q1.1 q1.2) rfl rfl cf_X10_worldsIn mw_X10_287 (by decide) dX10_sureOf_8 rfl (Nat.le_of_ble_eq_true rfl) ⟨rfl, rfl⟩ (fun q2 => ?_)
  refine r_lstore_w_x dX10_sureOf_11 (by decide) rfl ?_
  refine r_lload_w_0 dX10_sureOf_13 ?_
  refine r_lload_n_4 dX10_sureOf_15 rfl ?_
  refine r_lcmp_ne (tgt := 24) dX10_sureOf_16 dX10_sureOf_17 (by decide) ?_ ?_
  · refine r_lload_w_0 dX10_sureOf_24 ?_
    refine r_lconst dX10_sureOf_26 kl_0 ?_
    refine r_lcmp_ne (tgt := 35) dX10_sureOf_27 dX10_sureOf_28 (by decide) ?_ ?_
    · refine r_iconst dX10_sureOf_35 ki_2 ?_
      exact r_ireturn dX10_sureOf_36 rfl
    · refine r_iconst dX10_sureOf_31 ki_0 ?_
      refine r_goto (tgt := 36) dX10_sureOf_32 (by decide) ?_
      exact r_ireturn dX10_sureOf_36 rfl
  · refine r_iconst dX10_sureOf_20 ki_1 ?_
    refine r_goto (tgt := 36) dX10_sureOf_21 (by decide) ?_
    exact r_ireturn dX10_sureOf_36 rfl
theorem cf_X10_sureOf : CFv mi_X10_sureOf 3 := ⟨iw_X10_sureOf, vw_X10_sureOf, nw_X10, cw_X10_sureOf, by unfold plainF; decide +kernel⟩
abbrev si_X10_hours : SI := (cX10_hours, RX10, 7, (some .int), 5, 129)
def f_X10_hours_51B (k51 : Int32 → Int32 → Int64 → Int32 → Int32 → DD → Option (Int32 × DD)) (v1 : Int32) (v2 : Int32) (v3 : Int64) (v5 : Int32) (v6 : Int32) (d : DD) : Option (Int32 × DD) :=
  if v6 < (30 : Int32) then
  (f_X10_sureOf v1 v6 v3 d).bind fun q5 =>
    if q5.1 = v2 then
    bd (v5 ||| ((1 : Int32) <<< (v6 &&& 31))) fun x7 =>
      k51 v1 v2 v3 x7 (v6 + (1 : Int32)) q5.2
    else
    bd (v5 ||| (0 : Int32)) fun x6 =>
      k51 v1 v2 v3 x6 (v6 + (1 : Int32)) q5.2
  else
  some (v5, d)
def f_X10_hours_51 : Nat → Int32 → Int32 → Int64 → Int32 → Int32 → DD → Option (Int32 × DD)
  | 0, _, _, _, _, _, _ => none
  | n + 1, v1, v2, v3, v5, v6, d => f_X10_hours_51B (f_X10_hours_51 n) v1 v2 v3 v5 v6 d
set_option maxRecDepth 100000 in
set_option maxHeartbeats 4000000 in
theorem w_X10_hours_51B {E : XE} (k51 : Int32 → Int32 → Int64 → Int32 → Int32 → DD → Option (Int32 × DD)) (hk51 : ∀ (v1 : Int32) (v2 : Int32) (v3 : Int64) (v5 : Int32) (v6 : Int32) (d : DD), AW E si_X10_hours 0 0 (QM E wrI) (k51 v1 v2 v3 v5 v6 d) 51 [(0, .ref 86), (1, .int v1), (2, .int v2), (3, .long v3), (5, .int v5), (6, .int v6)] [] d) (v1 : Int32) (v2 : Int32) (v3 : Int64) (v5 : Int32) (v6 : Int32) (d : DD) : AW E si_X10_hours 0 0 (QM E wrI) (f_X10_hours_51B k51 v1 v2 v3 v5 v6 d) 51 [(0, .ref 86), (1, .int v1), (2, .int v2), (3, .long v3), (5, .int v5), (6, .int v6)] [] d := by
  unfold f_X10_hours_51B
  refine r_iload_w_5 dX10_hours_51 ?_
  refine r_bipush dX10_hours_53 kb_30 ?_
  refine r_icmp_ge (tgt := 89) dX10_hours_55 (by decide) ?_ ?_
  · refine r_iload_w_4 dX10_hours_89 ?_
    exact r_ireturn dX10_hours_91 rfl
  · refine r_iload_w_4 dX10_hours_58 ?_
    refine r_aload_n_0 dX10_hours_60 rfl ?_
    refine r_iload_n_1 dX10_hours_61 rfl ?_
    refine r_iload_w_5 dX10_hours_62 ?_
    refine r_lload_n_3 dX10_hours_64 rfl ?_
    refine r_callVI (cc := 10) [.int v5] (am_X10_sureOf v1 v6 v3 d) rfl rfl cf_X10_sureOf mw_X10_296 (by decide) dX10_hours_65 rfl (Nat.le_of_ble_eq_true rfl) ⟨rfl, rfl⟩ (fun q5 => ?_)
    refine r_iload_n_2 dX10_hours_68 rfl ?_
    refine r_icmp_ne (tgt := 79) dX10_hours_69 (by decide) ?_ ?_
    · refine r_iconst dX10_hours_79 ki_0 ?_
      refine r_ior dX10_hours_80 ?_
      refine r_bdI (fun x6 => ?_)
      refine r_istore_w_4 dX10_hours_81 (by decide) rfl ?_
      refine r_iinc_5 dX10_hours_83 ki_1 (by decide) rfl ?_
      refine r_goto (tgt := 51) dX10_hours_86 (by decide) ?_
      exact hk51 v1 v2 v3 x6 (v6 + (1 : Int32)) q5.2
    · refine r_iconst dX10_hours_72 ki_1 ?_
      refine r_iload_w_5 dX10_hours_73 ?_
      refine r_ishl dX10_hours_75 ?_
      refine r_goto (tgt := 80) dX10_hours_76 (by decide) ?_
      refine r_ior dX10_hours_80 ?_
      refine r_bdI (fun x7 => ?_)
      refine r_istore_w_4 dX10_hours_81 (by decide) rfl ?_
      refine r_iinc_5 dX10_hours_83 ki_1 (by decide) rfl ?_
      refine r_goto (tgt := 51) dX10_hours_86 (by decide) ?_
      exact hk51 v1 v2 v3 x7 (v6 + (1 : Int32)) q5.2
theorem w_X10_hours_51 {E : XE} (n : Nat) : ∀ (v1 : Int32) (v2 : Int32) (v3 : Int64) (v5 : Int32) (v6 : Int32) (d : DD), AW E si_X10_hours 0 0 (QM E wrI) (f_X10_hours_51 n v1 v2 v3 v5 v6 d) 51 [(0, .ref 86), (1, .int v1), (2, .int v2), (3, .long v3), (5, .int v5), (6, .int v6)] [] d := by
  induction n with
  | zero => intros; exact r_none
  | succ n ih => intro v1 v2 v3 v5 v6 d; exact w_X10_hours_51B (f_X10_hours_51 n) ih v1 v2 v3 v5 v6 d
def f_X10_hours (p1 : Int32) (p2 : Int32) (d : DD) : Option (Int32 × DD) :=
  bd (u1 d 86 0 (0 : Int32)) fun d1 =>
  (f_X10_isKind p1 d1).bind fun q2 =>
  if q2.1 = 0 then
  some ((-1 : Int32), q2.2)
  else
  (f_X10_isIn p2 (0 : Int32) (2 : Int32) q2.2).bind fun q3 =>
    if q3.1 = 0 then
    some ((-1 : Int32), q3.2)
    else
    if ixb (169 : Int32) (ln 88) then
      (f_X10_worldsBy (q3.2.1 88 (169 : Int32).toNatClampNeg) q3.2).bind fun q4 =>
        if q4.1 = (0 : Int64) then
        some ((-1 : Int32), q4.2)
        else
        f_X10_hours_51 FU p1 p2 q4.1 (0 : Int32) (0 : Int32) q4.2
      else none
set_option maxRecDepth 100000 in
set_option maxHeartbeats 4000000 in
theorem am_X10_hours (p1 : Int32) (p2 : Int32) (d : DD) : AM wrI mi_X10_hours 5 129 [.ref 86, .int p1, .int p2] d (f_X10_hours p1 p2 d) := by
  refine AM_intro (si := si_X10_hours) (lv := [(0, .ref 86), (1, .int p1), (2, .int p2)]) rfl (by decide +kernel) rfl (Nat.le_of_ble_eq_true rfl) (fun E => ?_)
  unfold f_X10_hours
  refine r_aload_n_0 dX10_hours_0 rfl ?_
  refine r_iconst dX10_hours_1 ki_0 ?_
  refine r_puti (cc := 10) 0 tyX10 tyX10_ok nmX10 rfl (by decide +kernel) rfl rfl uX10 (by decide) rfl fw_X10_1 dX10_hours_2 ?_
  refine r_bd (fun d1 => ?_)
  refine r_aload_n_0 dX10_hours_5 rfl ?_
  refine r_iload_n_1 dX10_hours_6 rfl ?_
  refine r_callVI (cc := 10) [] (am_X10_isKind p1 d1) rfl rfl cf_X10_isKind mw_X10_234 (by decide) dX10_hours_7 rfl (Nat.le_of_ble_eq_true rfl) ⟨rfl, rfl⟩ (fun q2 => ?_)
  refine r_if_eq (tgt := 22) dX10_hours_10 (by decide) ?_ ?_
  · refine r_iconst dX10_hours_22 ki_m1 ?_
    exact r_ireturn dX10_hours_23 rfl
  · refine r_iload_n_2 dX10_hours_13 rfl ?_
    refine r_iconst dX10_hours_14 ki_0 ?_
    refine r_iconst dX10_hours_15 ki_2 ?_
    refine r_callSI [] (am_X10_isIn p2 (0 : Int32) (2 : Int32) q2.2) cf_X10_isIn mw_X10_172 (by decide) dX10_hours_16 rfl (Nat.le_of_ble_eq_true rfl) ⟨rfl, rfl⟩ (fun q3 => ?_)
    refine r_if_ne (tgt := 24) dX10_hours_19 (by decide) ?_ ?_
    · refine r_aload_n_0 dX10_hours_24 rfl ?_
      refine r_aload_n_0 dX10_hours_25 rfl ?_
      refine r_getr (t := 88) (cc := 10) 6 rfl rfl uX10 (by decide) rfl fw_X10_41 rfl dX10_hours_26 ?_
      refine r_sipush dX10_hours_29 ks_169 ?_
      refine r_iaload rfl dX10_hours_32 ?_
      refine r_callVL (cc := 10) [] (am_X10_worldsBy (q3.2.1 88 (169 : Int32).toNatClampNeg) q3.2) rfl rfl cf_X10_worldsBy mw_X10_283 (by decide) dX10_hours_33 rfl (Nat.le_of_ble_eq_true rfl) ⟨rfl, rfl⟩ (fun q4 => ?_)
      refine r_lstore_n_x dX10_hours_36 rfl (by decide) rfl ?_
      refine r_lload_n_0 dX10_hours_37 rfl ?_
      refine r_lconst dX10_hours_38 kl_0 ?_
      refine r_lcmp_ne (tgt := 45) dX10_hours_39 dX10_hours_40 (by decide) ?_ ?_
      · refine r_iconst dX10_hours_45 ki_0 ?_
        refine r_istore_w_x dX10_hours_46 (by decide) rfl ?_
        refine r_iconst dX10_hours_48 ki_0 ?_
        refine r_istore_w_x dX10_hours_49 (by decide) rfl ?_
        refine r_sub [3, 4, 5, 2, 1, 0] (lv' := [(0, .ref 86), (1, .int p1), (2, .int p2), (3, .long q4.1), (5, .int (0 : Int32)), (6, .int (0 : Int32))]) rfl ?_
        exact w_X10_hours_51 FU p1 p2 q4.1 (0 : Int32) (0 : Int32) q4.2
      · refine r_iconst dX10_hours_43 ki_m1 ?_
        exact r_ireturn dX10_hours_44 rfl
    · refine r_iconst dX10_hours_22 ki_m1 ?_
      exact r_ireturn dX10_hours_23 rfl
theorem cf_X10_hours : CFv mi_X10_hours 2 := ⟨iw_X10_hours, vw_X10_hours, nw_X10, cw_X10_hours, by unfold plainF; decide +kernel⟩
abbrev si_X10_isWord : SI := (cX10_isWord, RX10, 3, (some .boolean), 0, 0)
def f_X10_isWord (p1 : Int64) (d : DD) : Option (Int32 × DD) :=
  if (d.1 86 12) = (1 : Int32) then
  if (d.2 86 18) = p1 then
    some ((1 : Int32), d)
    else
    some ((0 : Int32), d)
  else
  some ((0 : Int32), d)
set_option maxRecDepth 100000 in
set_option maxHeartbeats 4000000 in
theorem am_X10_isWord (p1 : Int64) (d : DD) : AM wrI mi_X10_isWord 0 0 [.ref 86, .long p1] d (f_X10_isWord p1 d) := by
  refine AM_intro (si := si_X10_isWord) (lv := [(0, .ref 86), (1, .long p1)]) rfl (by decide +kernel) rfl (Nat.le_of_ble_eq_true rfl) (fun E => ?_)
  unfold f_X10_isWord
  refine r_aload_n_0 dX10_isWord_0 rfl ?_
  refine r_geti (cc := 10) 12 rfl rfl uX10 (by decide) rfl fw_X10_140 dX10_isWord_1 ?_
  refine r_iconst dX10_isWord_4 ki_1 ?_
  refine r_icmp_ne (tgt := 21) dX10_isWord_5 (by decide) ?_ ?_
  · refine r_iconst dX10_isWord_21 ki_0 ?_
    exact r_zreturn dX10_isWord_22 rfl rfl
  · refine r_aload_n_0 dX10_isWord_8 rfl ?_
    refine r_getl (cc := 10) 18 rfl rfl uX10 (by decide) rfl fw_X10_153 dX10_isWord_9 ?_
    refine r_lload_n_1 dX10_isWord_12 rfl ?_
    refine r_lcmp_ne (tgt := 21) dX10_isWord_13 dX10_isWord_14 (by decide) ?_ ?_
    · refine r_iconst dX10_isWord_21 ki_0 ?_
      exact r_zreturn dX10_isWord_22 rfl rfl
    · refine r_iconst dX10_isWord_17 ki_1 ?_
      refine r_goto (tgt := 22) dX10_isWord_18 (by decide) ?_
      exact r_zreturn dX10_isWord_22 rfl rfl
theorem cf_X10_isWord : CFv mi_X10_isWord 1 := ⟨iw_X10_isWord, vw_X10_isWord, nw_X10, cw_X10_isWord, by unfold plainF; decide +kernel⟩
abbrev si_X10_takes : SI := (cX10_takes, RX10, 3, (some .boolean), 2, 43)
def f_X10_takes (p1 : Int32) (p2 : Int32) (d : DD) : Option (Int32 × DD) :=
  if (d.1 86 12) = (2 : Int32) then
  (f_X10_isIn (d.1 86 15) p1 p2 d).bind fun q1 =>
    if q1.1 = 0 then
    (f_X10_bad (2 : Int32) q1.2).bind fun q4 =>
      if q4.1 = 0 ∨ q4.1 = 1 then some (q4.1, q4.2) else none
    else
    bd (u1 q1.2 86 19 (q1.2.1 86 15)) fun d2 =>
      (f_X10_skip d2).bind fun q3 =>
      some ((1 : Int32), q3.2)
  else
  (f_X10_bad (1 : Int32) d).bind fun q5 =>
    if q5.1 = 0 ∨ q5.1 = 1 then some (q5.1, q5.2) else none
set_option maxRecDepth 100000 in
set_option maxHeartbeats 4000000 in
theorem am_X10_takes (p1 : Int32) (p2 : Int32) (d : DD) : AM wrI mi_X10_takes 2 43 [.ref 86, .int p1, .int p2] d (f_X10_takes p1 p2 d) := by
  refine AM_intro (si := si_X10_takes) (lv := [(0, .ref 86), (1, .int p1), (2, .int p2)]) rfl (by decide +kernel) rfl (Nat.le_of_ble_eq_true rfl) (fun E => ?_)
  unfold f_X10_takes
  refine r_aload_n_0 dX10_takes_0 rfl ?_
  refine r_geti (cc := 10) 12 rfl rfl uX10 (by decide) rfl fw_X10_140 dX10_takes_1 ?_
  refine r_iconst dX10_takes_4 ki_2 ?_
  refine r_icmp_eq (tgt := 14) dX10_takes_5 (by decide) ?_ ?_
  · refine r_aload_n_0 dX10_takes_14 rfl ?_
    refine r_geti (cc := 10) 15 rfl rfl uX10 (by decide) rfl fw_X10_150 dX10_takes_15 ?_
    refine r_iload_n_1 dX10_takes_18 rfl ?_
    refine r_iload_n_2 dX10_takes_19 rfl ?_
    refine r_callSI [] (am_X10_isIn (d.1 86 15) p1 p2 d) cf_X10_isIn mw_X10_172 (by decide) dX10_takes_20 rfl (Nat.le_of_ble_eq_true rfl) ⟨rfl, rfl⟩ (fun q1 => ?_)
    refine r_if_ne (tgt := 32) dX10_takes_23 (by decide) ?_ ?_
    · refine r_aload_n_0 dX10_takes_32 rfl ?_
      refine r_aload_n_0 dX10_takes_33 rfl ?_
      refine r_geti (cc := 10) 15 rfl rfl uX10 (by decide) rfl fw_X10_150 dX10_takes_34 ?_
      refine r_puti (cc := 10) 19 tyX10 tyX10_ok nmX10 rfl (by decide +kernel) rfl rfl uX10 (by decide) rfl fw_X10_176 dX10_takes_37 ?_
      refine r_bd (fun d2 => ?_)
      refine r_aload_n_0 dX10_takes_40 rfl ?_
      refine r_callVU (cc := 10) [] (am_X10_skip d2) rfl rfl cf_X10_skip mw_X10_169 (by decide) dX10_takes_41 rfl (Nat.le_of_ble_eq_true rfl) ⟨rfl, rfl⟩ (fun q3 => ?_)
      refine r_iconst dX10_takes_44 ki_1 ?_
      exact r_zreturn dX10_takes_45 rfl rfl
    · refine r_aload_n_0 dX10_takes_26 rfl ?_
      refine r_iconst dX10_takes_27 ki_2 ?_
      refine r_callVI (cc := 10) [] (am_X10_bad (2 : Int32) q1.2) rfl rfl cf_X10_bad mw_X10_166 (by decide) dX10_takes_28 rfl (Nat.le_of_ble_eq_true rfl) ⟨rfl, rfl⟩ (fun q4 => ?_)
      exact r_breturn dX10_takes_31 rfl
  · refine r_aload_n_0 dX10_takes_8 rfl ?_
    refine r_iconst dX10_takes_9 ki_1 ?_
    refine r_callVI (cc := 10) [] (am_X10_bad (1 : Int32) d) rfl rfl cf_X10_bad mw_X10_166 (by decide) dX10_takes_10 rfl (Nat.le_of_ble_eq_true rfl) ⟨rfl, rfl⟩ (fun q5 => ?_)
    exact r_breturn dX10_takes_13 rfl
theorem cf_X10_takes : CFv mi_X10_takes 2 := ⟨iw_X10_takes, vw_X10_takes, nw_X10, cw_X10_takes, by unfold plainF; decide +kernel⟩
abbrev si_X10_readKind : SI := (cX10_readKind, RX10, 4, (some .boolean), 3, 65)
def f_X10_readKind_216 (d : DD) : Option (Int32 × DD) :=
  if ixb (0 : Int32) (ln 89) then
  if ixb (0 : Int32) (ln 89) then
    bd (u1 d 89 (0 : Int32).toNatClampNeg ((d.1 89 (0 : Int32).toNatClampNeg) + (1 : Int32))) fun d10 =>
    some ((1 : Int32), d10)
    else none
  else none
set_option maxRecDepth 100000 in
set_option maxHeartbeats 4000000 in
theorem w_X10_readKind_216 {E : XE} (d : DD) : AW E si_X10_readKind 0 0 (QM E wrI) (f_X10_readKind_216 d) 216 [(0, .ref 86)] [] d := by
  unfold f_X10_readKind_216
  refine r_aload_n_0 dX10_readKind_216 rfl ?_
  refine r_getr (t := 89) (cc := 10) 7 rfl rfl uX10 (by decide) rfl fw_X10_45 rfl dX10_readKind_217 ?_
  refine r_iconst dX10_readKind_220 ki_0 ?_
  refine r_dup2ia dX10_readKind_221 ?_
  refine r_iaload rfl dX10_readKind_222 ?_
  refine r_iconst dX10_readKind_223 ki_1 ?_
  refine r_iadd dX10_readKind_224 ?_
  refine r_iastore rfl dX10_readKind_225 ?_
  refine r_bd (fun d10 => ?_)
  refine r_iconst dX10_readKind_226 ki_1 ?_
  exact r_zreturn dX10_readKind_227 rfl rfl
def f_X10_readKind_192B (k192 : Int32 → Int32 → Int32 → DD → Option (Int32 × DD)) (v1 : Int32) (v2 : Int32) (v3 : Int32) (d : DD) : Option (Int32 × DD) :=
  if v3 < v2 then
  if ixb ((8 : Int32) + v1) (ln 89) then
    if ixb ((8 : Int32) + v1) (ln 89) then
      bd (u1 d 89 ((8 : Int32) + v1).toNatClampNeg ((d.1 89 ((8 : Int32) + v1).toNatClampNeg) + v3)) fun d17 =>
      k192 v1 v2 (v3 + (1 : Int32)) d17
      else none
    else none
  else
  f_X10_readKind_216 d
def f_X10_readKind_192 : Nat → Int32 → Int32 → Int32 → DD → Option (Int32 × DD)
  | 0, _, _, _, _ => none
  | n + 1, v1, v2, v3, d => f_X10_readKind_192B (f_X10_readKind_192 n) v1 v2 v3 d
set_option maxRecDepth 100000 in
set_option maxHeartbeats 4000000 in
theorem w_X10_readKind_192B {E : XE} (k192 : Int32 → Int32 → Int32 → DD → Option (Int32 × DD)) (hk192 : ∀ (v1 : Int32) (v2 : Int32) (v3 : Int32) (d : DD), AW E si_X10_readKind 0 0 (QM E wrI) (k192 v1 v2 v3 d) 192 [(0, .ref 86), (1, .int v1), (2, .int v2), (3, .int v3)] [] d) (v1 : Int32) (v2 : Int32) (v3 : Int32) (d : DD) : AW E si_X10_readKind 0 0 (QM E wrI) (f_X10_readKind_192B k192 v1 v2 v3 d) 192 [(0, .ref 86), (1, .int v1), (2, .int v2), (3, .int v3)] [] d := by
  unfold f_X10_readKind_192B
  refine r_iload_n_3 dX10_readKind_192 rfl ?_
  refine r_iload_n_2 dX10_readKind_193 rfl ?_
  refine r_icmp_ge (tgt := 216) dX10_readKind_194 (by decide) ?_ ?_
  · refine r_sub [0] (lv' := [(0, .ref 86)]) rfl ?_
    exact w_X10_readKind_216 d
  · refine r_aload_n_0 dX10_readKind_197 rfl ?_
    refine r_getr (t := 89) (cc := 10) 7 rfl rfl uX10 (by decide) rfl fw_X10_45 rfl dX10_readKind_198 ?_
    refine r_bipush dX10_readKind_201 kb_8 ?_
    refine r_iload_n_1 dX10_readKind_203 rfl ?_
    refine r_iadd dX10_readKind_204 ?_
    refine r_dup2ia dX10_readKind_205 ?_
    refine r_iaload rfl dX10_readKind_206 ?_
    refine r_iload_n_3 dX10_readKind_207 rfl ?_
    refine r_iadd dX10_readKind_208 ?_
    refine r_iastore rfl dX10_readKind_209 ?_
    refine r_bd (fun d17 => ?_)
    refine r_iinc_3 dX10_readKind_210 ki_1 (by decide) rfl ?_
    refine r_goto (tgt := 192) dX10_readKind_213 (by decide) ?_
    exact hk192 v1 v2 (v3 + (1 : Int32)) d17
theorem w_X10_readKind_192 {E : XE} (n : Nat) : ∀ (v1 : Int32) (v2 : Int32) (v3 : Int32) (d : DD), AW E si_X10_readKind 0 0 (QM E wrI) (f_X10_readKind_192 n v1 v2 v3 d) 192 [(0, .ref 86), (1, .int v1), (2, .int v2), (3, .int v3)] [] d := by
  induction n with
  | zero => intros; exact r_none
  | succ n ih => intro v1 v2 v3 d; exact w_X10_readKind_192B (f_X10_readKind_192 n) ih v1 v2 v3 d
def f_X10_readKind (d : DD) : Option (Int32 × DD) :=
  if ixb (0 : Int32) (ln 89) then
  bd (d.1 89 (0 : Int32).toNatClampNeg) fun x1 =>
    if ixb (1 : Int32) (ln 89) then
    if 0 < (d.1 89 (1 : Int32).toNatClampNeg) then
      (f_X10_bad (3 : Int32) d).bind fun q19 =>
        if q19.1 = 0 ∨ q19.1 = 1 then some (q19.1, q19.2) else none
      else
      if x1 = (3 : Int32) then
        (f_X10_bad (4 : Int32) d).bind fun q18 =>
          if q18.1 = 0 ∨ q18.1 = 1 then some (q18.1, q18.2) else none
        else
        (f_X10_skip d).bind fun q2 =>
          (f_X10_fresh ((7 : Int32) + x1) q2.2).bind fun q3 =>
          if q3.1 = 0 then
          some ((0 : Int32), q3.2)
          else
          (f_X10_takes (1 : Int32) (8 : Int32) q3.2).bind fun q4 =>
            if q4.1 = 0 then
            some ((0 : Int32), q4.2)
            else
            if ixb ((2 : Int32) + x1) (ln 89) then
              bd (u1 q4.2 89 ((2 : Int32) + x1).toNatClampNeg (q4.2.1 86 19)) fun d5 =>
              (f_X10_takes (d5.1 86 19) (8 : Int32) d5).bind fun q6 =>
                if q6.1 = 0 then
                some ((0 : Int32), q6.2)
                else
                if ixb ((5 : Int32) + x1) (ln 89) then
                  bd (u1 q6.2 89 ((5 : Int32) + x1).toNatClampNeg (q6.2.1 86 19)) fun d7 =>
                  if ixb ((8 : Int32) + x1) (ln 89) then
                    bd (u1 d7 89 ((8 : Int32) + x1).toNatClampNeg (0 : Int32)) fun d8 =>
                    (f_X10_isWord (25209 : Int64) d8).bind fun q9 =>
                      if q9.1 = 0 then
                      f_X10_readKind_216 q9.2
                      else
                      (f_X10_skip q9.2).bind fun q11 =>
                        if ixb ((2 : Int32) + x1) (ln 89) then
                        if ixb ((5 : Int32) + x1) (ln 89) then
                          (f_X10_takes (q11.2.1 89 ((2 : Int32) + x1).toNatClampNeg) (q11.2.1 89 ((5 : Int32) + x1).toNatClampNeg) q11.2).bind fun q12 =>
                            if q12.1 = 0 then
                            some ((0 : Int32), q12.2)
                            else
                            bd (q12.2.1 86 19) fun x13 =>
                              (f_X10_takes (0 : Int32) (x13 - (1 : Int32)) q12.2).bind fun q14 =>
                              if q14.1 = 0 then
                              some ((0 : Int32), q14.2)
                              else
                              if ixb ((8 : Int32) + x1) (ln 89) then
                                bd (u1 q14.2 89 ((8 : Int32) + x1).toNatClampNeg ((1 : Int32) + (q14.2.1 86 19))) fun d15 =>
                                if ixb ((2 : Int32) + x1) (ln 89) then
                                  bd (d15.1 89 ((2 : Int32) + x1).toNatClampNeg) fun x16 =>
                                    f_X10_readKind_192 FU x1 x13 x16 d15
                                  else none
                                else none
                          else none
                        else none
                    else none
                  else none
              else none
    else none
  else none
set_option maxRecDepth 100000 in
set_option maxHeartbeats 4000000 in
theorem am_X10_readKind (d : DD) : AM wrI mi_X10_readKind 3 65 [.ref 86] d (f_X10_readKind d) := by
  refine AM_intro (si := si_X10_readKind) (lv := [(0, .ref 86)]) rfl (by decide +kernel) rfl (Nat.le_of_ble_eq_true rfl) (fun E => ?_)
  unfold f_X10_readKind
  refine r_aload_n_0 dX10_readKind_0 rfl ?_
  refine r_getr (t := 89) (cc := 10) 7 rfl rfl uX10 (by decide) rfl fw_X10_45 rfl dX10_readKind_1 ?_
  refine r_iconst dX10_readKind_4 ki_0 ?_
  refine r_iaload rfl dX10_readKind_5 ?_
  refine r_bdI (fun x1 => ?_)
  refine r_istore_n_x dX10_readKind_6 rfl (by decide) rfl ?_
  refine r_aload_n_1 dX10_readKind_7 rfl ?_
  refine r_getr (t := 89) (cc := 10) 7 rfl rfl uX10 (by decide) rfl fw_X10_45 rfl dX10_readKind_8 ?_
  refine r_iconst dX10_readKind_11 ki_1 ?_
  refine r_iaload rfl dX10_readKind_12 ?_
  refine r_if_le (tgt := 22) dX10_readKind_13 (by decide) ?_ ?_
  · refine r_iload_n_0 dX10_readKind_22 rfl ?_
    refine r_iconst dX10_readKind_23 ki_3 ?_
    refine r_icmp_ne (tgt := 33) dX10_readKind_24 (by decide) ?_ ?_
    · refine r_aload_n_1 dX10_readKind_33 rfl ?_
      refine r_callVU (cc := 10) [] (am_X10_skip d) rfl rfl cf_X10_skip mw_X10_169 (by decide) dX10_readKind_34 rfl (Nat.le_of_ble_eq_true rfl) ⟨rfl, rfl⟩ (fun q2 => ?_)
      refine r_aload_n_1 dX10_readKind_37 rfl ?_
      refine r_bipush dX10_readKind_38 kb_7 ?_
      refine r_iload_n_0 dX10_readKind_40 rfl ?_
      refine r_iadd dX10_readKind_41 ?_
      refine r_callVI (cc := 10) [] (am_X10_fresh ((7 : Int32) + x1) q2.2) rfl rfl cf_X10_fresh mw_X10_206 (by decide) dX10_readKind_42 rfl (Nat.le_of_ble_eq_true rfl) ⟨rfl, rfl⟩ (fun q3 => ?_)
      refine r_if_ne (tgt := 50) dX10_readKind_45 (by decide) ?_ ?_
      · refine r_aload_n_1 dX10_readKind_50 rfl ?_
        refine r_iconst dX10_readKind_51 ki_1 ?_
        refine r_bipush dX10_readKind_52 kb_8 ?_
        refine r_callVI (cc := 10) [] (am_X10_takes (1 : Int32) (8 : Int32) q3.2) rfl rfl cf_X10_takes mw_X10_209 (by decide) dX10_readKind_54 rfl (Nat.le_of_ble_eq_true rfl) ⟨rfl, rfl⟩ (fun q4 => ?_)
        refine r_if_ne (tgt := 62) dX10_readKind_57 (by decide) ?_ ?_
        · refine r_aload_n_1 dX10_readKind_62 rfl ?_
          refine r_getr (t := 89) (cc := 10) 7 rfl rfl uX10 (by decide) rfl fw_X10_45 rfl dX10_readKind_63 ?_
          refine r_iconst dX10_readKind_66 ki_2 ?_
          refine r_iload_n_0 dX10_readKind_67 rfl ?_
          refine r_iadd dX10_readKind_68 ?_
          refine r_aload_n_1 dX10_readKind_69 rfl ?_
          refine r_geti (cc := 10) 19 rfl rfl uX10 (by decide) rfl fw_X10_176 dX10_readKind_70 ?_
          refine r_iastore rfl dX10_readKind_73 ?_
          refine r_bd (fun d5 => ?_)
          refine r_aload_n_1 dX10_readKind_74 rfl ?_
          refine r_aload_n_1 dX10_readKind_75 rfl ?_
          refine r_geti (cc := 10) 19 rfl rfl uX10 (by decide) rfl fw_X10_176 dX10_readKind_76 ?_
          refine r_bipush dX10_readKind_79 kb_8 ?_
          refine r_callVI (cc := 10) [] (am_X10_takes (d5.1 86 19) (8 : Int32) d5) rfl rfl cf_X10_takes mw_X10_209 (by decide) dX10_readKind_81 rfl (Nat.le_of_ble_eq_true rfl) ⟨rfl, rfl⟩ (fun q6 => ?_)
          refine r_if_ne (tgt := 89) dX10_readKind_84 (by decide) ?_ ?_
          · refine r_aload_n_1 dX10_readKind_89 rfl ?_
            refine r_getr (t := 89) (cc := 10) 7 rfl rfl uX10 (by decide) rfl fw_X10_45 rfl dX10_readKind_90 ?_
            refine r_iconst dX10_readKind_93 ki_5 ?_
            refine r_iload_n_0 dX10_readKind_94 rfl ?_
            refine r_iadd dX10_readKind_95 ?_
            refine r_aload_n_1 dX10_readKind_96 rfl ?_
            refine r_geti (cc := 10) 19 rfl rfl uX10 (by decide) rfl fw_X10_176 dX10_readKind_97 ?_
            refine r_iastore rfl dX10_readKind_100 ?_
            refine r_bd (fun d7 => ?_)
            refine r_aload_n_1 dX10_readKind_101 rfl ?_
            refine r_getr (t := 89) (cc := 10) 7 rfl rfl uX10 (by decide) rfl fw_X10_45 rfl dX10_readKind_102 ?_
            refine r_bipush dX10_readKind_105 kb_8 ?_
            refine r_iload_n_0 dX10_readKind_107 rfl ?_
            refine r_iadd dX10_readKind_108 ?_
            refine r_iconst dX10_readKind_109 ki_0 ?_
            refine r_iastore rfl dX10_readKind_110 ?_
            refine r_bd (fun d8 => ?_)
            refine r_aload_n_1 dX10_readKind_111 rfl ?_
            refine r_ldc2 dX10_readKind_112 kw_X10_112 ?_
            refine r_callVI (cc := 10) [] (am_X10_isWord (25209 : Int64) d8) rfl rfl cf_X10_isWord mw_X10_187 (by decide) dX10_readKind_115 rfl (Nat.le_of_ble_eq_true rfl) ⟨rfl, rfl⟩ (fun q9 => ?_)
            refine r_if_eq (tgt := 216) dX10_readKind_118 (by decide) ?_ ?_
            · refine r_sub [1] (lv' := [(0, .ref 86)]) rfl ?_
              exact w_X10_readKind_216 q9.2
            · refine r_aload_n_1 dX10_readKind_121 rfl ?_
              refine r_callVU (cc := 10) [] (am_X10_skip q9.2) rfl rfl cf_X10_skip mw_X10_169 (by decide) dX10_readKind_122 rfl (Nat.le_of_ble_eq_true rfl) ⟨rfl, rfl⟩ (fun q11 => ?_)
              refine r_aload_n_1 dX10_readKind_125 rfl ?_
              refine r_aload_n_1 dX10_readKind_126 rfl ?_
              refine r_getr (t := 89) (cc := 10) 7 rfl rfl uX10 (by decide) rfl fw_X10_45 rfl dX10_readKind_127 ?_
              refine r_iconst dX10_readKind_130 ki_2 ?_
              refine r_iload_n_0 dX10_readKind_131 rfl ?_
              refine r_iadd dX10_readKind_132 ?_
              refine r_iaload rfl dX10_readKind_133 ?_
              refine r_aload_n_1 dX10_readKind_134 rfl ?_
              refine r_getr (t := 89) (cc := 10) 7 rfl rfl uX10 (by decide) rfl fw_X10_45 rfl dX10_readKind_135 ?_
              refine r_iconst dX10_readKind_138 ki_5 ?_
              refine r_iload_n_0 dX10_readKind_139 rfl ?_
              refine r_iadd dX10_readKind_140 ?_
              refine r_iaload rfl dX10_readKind_141 ?_
              refine r_callVI (cc := 10) [] (am_X10_takes (q11.2.1 89 ((2 : Int32) + x1).toNatClampNeg) (q11.2.1 89 ((5 : Int32) + x1).toNatClampNeg) q11.2) rfl rfl cf_X10_takes mw_X10_209 (by decide) dX10_readKind_142 rfl (Nat.le_of_ble_eq_true rfl) ⟨rfl, rfl⟩ (fun q12 => ?_)
              refine r_if_ne (tgt := 150) dX10_readKind_145 (by decide) ?_ ?_
              · refine r_aload_n_1 dX10_readKind_150 rfl ?_
                refine r_geti (cc := 10) 19 rfl rfl uX10 (by decide) rfl fw_X10_176 dX10_readKind_151 ?_
                refine r_bdI (fun x13 => ?_)
                refine r_istore_n_x dX10_readKind_154 rfl (by decide) rfl ?_
                refine r_aload_n_2 dX10_readKind_155 rfl ?_
                refine r_iconst dX10_readKind_156 ki_0 ?_
                refine r_iload_n_0 dX10_readKind_157 rfl ?_
                refine r_iconst dX10_readKind_158 ki_1 ?_
                refine r_isub dX10_readKind_159 ?_
                refine r_callVI (cc := 10) [] (am_X10_takes (0 : Int32) (x13 - (1 : Int32)) q12.2) rfl rfl cf_X10_takes mw_X10_209 (by decide) dX10_readKind_160 rfl (Nat.le_of_ble_eq_true rfl) ⟨rfl, rfl⟩ (fun q14 => ?_)
                refine r_if_ne (tgt := 168) dX10_readKind_163 (by decide) ?_ ?_
                · refine r_aload_n_2 dX10_readKind_168 rfl ?_
                  refine r_getr (t := 89) (cc := 10) 7 rfl rfl uX10 (by decide) rfl fw_X10_45 rfl dX10_readKind_169 ?_
                  refine r_bipush dX10_readKind_172 kb_8 ?_
                  refine r_iload_n_1 dX10_readKind_174 rfl ?_
                  refine r_iadd dX10_readKind_175 ?_
                  refine r_iconst dX10_readKind_176 ki_1 ?_
                  refine r_aload_n_2 dX10_readKind_177 rfl ?_
                  refine r_geti (cc := 10) 19 rfl rfl uX10 (by decide) rfl fw_X10_176 dX10_readKind_178 ?_
                  refine r_iadd dX10_readKind_181 ?_
                  refine r_iastore rfl dX10_readKind_182 ?_
                  refine r_bd (fun d15 => ?_)
                  refine r_aload_n_2 dX10_readKind_183 rfl ?_
                  refine r_getr (t := 89) (cc := 10) 7 rfl rfl uX10 (by decide) rfl fw_X10_45 rfl dX10_readKind_184 ?_
                  refine r_iconst dX10_readKind_187 ki_2 ?_
                  refine r_iload_n_1 dX10_readKind_188 rfl ?_
                  refine r_iadd dX10_readKind_189 ?_
                  refine r_iaload rfl dX10_readKind_190 ?_
                  refine r_bdI (fun x16 => ?_)
                  refine r_istore_n_x dX10_readKind_191 rfl (by decide) rfl ?_
                  refine r_sub [3, 2, 1, 0] (lv' := [(0, .ref 86), (1, .int x1), (2, .int x13), (3, .int x16)]) rfl ?_
                  exact w_X10_readKind_192 FU x1 x13 x16 d15
                · refine r_iconst dX10_readKind_166 ki_0 ?_
                  exact r_zreturn dX10_readKind_167 rfl rfl
              · refine r_iconst dX10_readKind_148 ki_0 ?_
                exact r_zreturn dX10_readKind_149 rfl rfl
          · refine r_iconst dX10_readKind_87 ki_0 ?_
            exact r_zreturn dX10_readKind_88 rfl rfl
        · refine r_iconst dX10_readKind_60 ki_0 ?_
          exact r_zreturn dX10_readKind_61 rfl rfl
      · refine r_iconst dX10_readKind_48 ki_0 ?_
        exact r_zreturn dX10_readKind_49 rfl rfl
    · refine r_aload_n_1 dX10_readKind_27 rfl ?_
      refine r_iconst dX10_readKind_28 ki_4 ?_
      refine r_callVI (cc := 10) [] (am_X10_bad (4 : Int32) d) rfl rfl cf_X10_bad mw_X10_166 (by decide) dX10_readKind_29 rfl (Nat.le_of_ble_eq_true rfl) ⟨rfl, rfl⟩ (fun q18 => ?_)
      exact r_breturn dX10_readKind_32 rfl
  · refine r_aload_n_1 dX10_readKind_16 rfl ?_
    refine r_iconst dX10_readKind_17 ki_3 ?_
    refine r_callVI (cc := 10) [] (am_X10_bad (3 : Int32) d) rfl rfl cf_X10_bad mw_X10_166 (by decide) dX10_readKind_18 rfl (Nat.le_of_ble_eq_true rfl) ⟨rfl, rfl⟩ (fun q19 => ?_)
    exact r_breturn dX10_readKind_21 rfl
theorem cf_X10_readKind : CFv mi_X10_readKind 0 := ⟨iw_X10_readKind, vw_X10_readKind, nw_X10, cw_X10_readKind, by unfold plainF; decide +kernel⟩
abbrev si_X10_readPerson : SI := (cX10_readPerson, RX10, 5, (some .boolean), 3, 64)
def f_X10_readPerson_175 (k37 : Int32 → Int32 → DD → Option (Int32 × DD)) (v1 : Int32) (v2 : Int32) (v3 : Int32) (d : DD) : Option (Int32 × DD) :=
  (f_X10_has v2 v3 d).bind fun q8 =>
  if q8.1 = 0 then
  bd (v2 ||| ((1 : Int32) <<< (v3 &&& 31))) fun x9 =>
    (f_X10_skip q8.2).bind fun q10 =>
    k37 v1 x9 q10.2
  else
  (f_X10_bad (3 : Int32) q8.2).bind fun q11 =>
    if q11.1 = 0 ∨ q11.1 = 1 then some (q11.1, q11.2) else none
set_option maxRecDepth 100000 in
set_option maxHeartbeats 4000000 in
theorem w_X10_readPerson_175 {E : XE} (k37 : Int32 → Int32 → DD → Option (Int32 × DD)) (hk37 : ∀ (v1 : Int32) (v2 : Int32) (d : DD), AW E si_X10_readPerson 0 0 (QM E wrI) (k37 v1 v2 d) 37 [(0, .ref 86), (1, .int v1), (2, .int v2)] [] d) (v1 : Int32) (v2 : Int32) (v3 : Int32) (d : DD) : AW E si_X10_readPerson 0 0 (QM E wrI) (f_X10_readPerson_175 k37 v1 v2 v3 d) 175 [(0, .ref 86), (1, .int v1), (2, .int v2), (3, .int v3)] [] d := by
  unfold f_X10_readPerson_175
  refine r_iload_n_2 dX10_readPerson_175 rfl ?_
  refine r_iload_n_3 dX10_readPerson_176 rfl ?_
  refine r_callSI [] (am_X10_has v2 v3 d) cf_X10_has mw_X10_213 (by decide) dX10_readPerson_177 rfl (Nat.le_of_ble_eq_true rfl) ⟨rfl, rfl⟩ (fun q8 => ?_)
  refine r_if_eq (tgt := 189) dX10_readPerson_180 (by decide) ?_ ?_
  · refine r_iload_n_2 dX10_readPerson_189 rfl ?_
    refine r_iconst dX10_readPerson_190 ki_1 ?_
    refine r_iload_n_3 dX10_readPerson_191 rfl ?_
    refine r_ishl dX10_readPerson_192 ?_
    refine r_ior dX10_readPerson_193 ?_
    refine r_bdI (fun x9 => ?_)
    refine r_istore_n_2 dX10_readPerson_194 rfl (by decide) rfl ?_
    refine r_aload_n_0 dX10_readPerson_195 rfl ?_
    refine r_callVU (cc := 10) [] (am_X10_skip q8.2) rfl rfl cf_X10_skip mw_X10_169 (by decide) dX10_readPerson_196 rfl (Nat.le_of_ble_eq_true rfl) ⟨rfl, rfl⟩ (fun q10 => ?_)
    refine r_goto (tgt := 37) dX10_readPerson_199 (by decide) ?_
    refine r_sub [0, 1, 2] (lv' := [(0, .ref 86), (1, .int v1), (2, .int x9)]) rfl ?_
    exact hk37 v1 x9 q10.2
  · refine r_aload_n_0 dX10_readPerson_183 rfl ?_
    refine r_iconst dX10_readPerson_184 ki_3 ?_
    refine r_callVI (cc := 10) [] (am_X10_bad (3 : Int32) q8.2) rfl rfl cf_X10_bad mw_X10_166 (by decide) dX10_readPerson_185 rfl (Nat.le_of_ble_eq_true rfl) ⟨rfl, rfl⟩ (fun q11 => ?_)
    exact r_breturn dX10_readPerson_188 rfl
def f_X10_readPerson_120 (k37 : Int32 → Int32 → DD → Option (Int32 × DD)) (v1 : Int32) (v2 : Int32) (t0 : Int32) (d : DD) : Option (Int32 × DD) :=
  if (1 : Int32) < t0 then
  (f_X10_skip d).bind fun q12 =>
    (f_X10_isName q12.2).bind fun q13 =>
    if q13.1 = 0 then
    (f_X10_bad (1 : Int32) q13.2).bind fun q17 =>
      if q17.1 = 0 ∨ q17.1 = 1 then some (q17.1, q17.2) else none
    else
    if ixb (0 : Int32) (ln 89) then
      (f_X10_find (7 : Int32) (q13.2.1 89 (0 : Int32).toNatClampNeg) q13.2).bind fun q14 =>
        if q14.1 < 0 then
        (f_X10_bad (3 : Int32) q14.2).bind fun q16 =>
          if q16.1 = 0 ∨ q16.1 = 1 then some (q16.1, q16.2) else none
        else
        bd (t0 + ((2 : Int32) * q14.1)) fun x15 =>
          f_X10_readPerson_175 k37 v1 v2 x15 q14.2
      else none
  else
  f_X10_readPerson_175 k37 v1 v2 t0 d
set_option maxRecDepth 100000 in
set_option maxHeartbeats 4000000 in
theorem w_X10_readPerson_120 {E : XE} (k37 : Int32 → Int32 → DD → Option (Int32 × DD)) (hk37 : ∀ (v1 : Int32) (v2 : Int32) (d : DD), AW E si_X10_readPerson 0 0 (QM E wrI) (k37 v1 v2 d) 37 [(0, .ref 86), (1, .int v1), (2, .int v2)] [] d) (v1 : Int32) (v2 : Int32) (t0 : Int32) (d : DD) : AW E si_X10_readPerson 0 0 (QM E wrI) (f_X10_readPerson_120 k37 v1 v2 t0 d) 120 [(0, .ref 86), (1, .int v1), (2, .int v2)] [.int t0] d := by
  unfold f_X10_readPerson_120
  refine r_istore_n_x dX10_readPerson_120 rfl (by decide) rfl ?_
  refine r_iload_n_0 dX10_readPerson_121 rfl ?_
  refine r_iconst dX10_readPerson_122 ki_1 ?_
  refine r_icmp_le (tgt := 175) dX10_readPerson_123 (by decide) ?_ ?_
  · refine r_sub [1, 2, 3, 0] (lv' := [(0, .ref 86), (1, .int v1), (2, .int v2), (3, .int t0)]) rfl ?_
    exact w_X10_readPerson_175 k37 hk37 v1 v2 t0 d
  · refine r_aload_n_1 dX10_readPerson_126 rfl ?_
    refine r_callVU (cc := 10) [] (am_X10_skip d) rfl rfl cf_X10_skip mw_X10_169 (by decide) dX10_readPerson_127 rfl (Nat.le_of_ble_eq_true rfl) ⟨rfl, rfl⟩ (fun q12 => ?_)
    refine r_aload_n_1 dX10_readPerson_130 rfl ?_
    refine r_callVI (cc := 10) [] (am_X10_isName q12.2) rfl rfl cf_X10_isName mw_X10_179 (by decide) dX10_readPerson_131 rfl (Nat.le_of_ble_eq_true rfl) ⟨rfl, rfl⟩ (fun q13 => ?_)
    refine r_if_ne (tgt := 143) dX10_readPerson_134 (by decide) ?_ ?_
    · refine r_aload_n_1 dX10_readPerson_143 rfl ?_
      refine r_bipush dX10_readPerson_144 kb_7 ?_
      refine r_aload_n_1 dX10_readPerson_146 rfl ?_
      refine r_getr (t := 89) (cc := 10) 7 rfl rfl uX10 (by decide) rfl fw_X10_45 rfl dX10_readPerson_147 ?_
      refine r_iconst dX10_readPerson_150 ki_0 ?_
      refine r_iaload rfl dX10_readPerson_151 ?_
      refine r_callVI (cc := 10) [] (am_X10_find (7 : Int32) (q13.2.1 89 (0 : Int32).toNatClampNeg) q13.2) rfl rfl cf_X10_find mw_X10_183 (by decide) dX10_readPerson_152 rfl (Nat.le_of_ble_eq_true rfl) ⟨rfl, rfl⟩ (fun q14 => ?_)
      refine r_istore_w_x dX10_readPerson_155 (by decide) rfl ?_
      refine r_iload_w_0 dX10_readPerson_157 ?_
      refine r_if_ge (tgt := 168) dX10_readPerson_159 (by decide) ?_ ?_
      · refine r_iload_n_1 dX10_readPerson_168 rfl ?_
        refine r_iconst dX10_readPerson_169 ki_2 ?_
        refine r_iload_w_0 dX10_readPerson_170 ?_
        refine r_imul dX10_readPerson_172 ?_
        refine r_iadd dX10_readPerson_173 ?_
        refine r_bdI (fun x15 => ?_)
        refine r_istore_n_1 dX10_readPerson_174 rfl (by decide) rfl ?_
        refine r_sub [2, 3, 4, 1] (lv' := [(0, .ref 86), (1, .int v1), (2, .int v2), (3, .int x15)]) rfl ?_
        exact w_X10_readPerson_175 k37 hk37 v1 v2 x15 q14.2
      · refine r_aload_n_2 dX10_readPerson_162 rfl ?_
        refine r_iconst dX10_readPerson_163 ki_3 ?_
        refine r_callVI (cc := 10) [] (am_X10_bad (3 : Int32) q14.2) rfl rfl cf_X10_bad mw_X10_166 (by decide) dX10_readPerson_164 rfl (Nat.le_of_ble_eq_true rfl) ⟨rfl, rfl⟩ (fun q16 => ?_)
        exact r_breturn dX10_readPerson_167 rfl
    · refine r_aload_n_1 dX10_readPerson_137 rfl ?_
      refine r_iconst dX10_readPerson_138 ki_1 ?_
      refine r_callVI (cc := 10) [] (am_X10_bad (1 : Int32) q13.2) rfl rfl cf_X10_bad mw_X10_166 (by decide) dX10_readPerson_139 rfl (Nat.le_of_ble_eq_true rfl) ⟨rfl, rfl⟩ (fun q17 => ?_)
      exact r_breturn dX10_readPerson_142 rfl
def f_X10_readPerson_77 (k37 : Int32 → Int32 → DD → Option (Int32 × DD)) (v1 : Int32) (v2 : Int32) (d : DD) : Option (Int32 × DD) :=
  (f_X10_isWord (1953658213 : Int64) d).bind fun q5 =>
  if q5.1 = 0 then
  (f_X10_isWord (1818326117 : Int64) q5.2).bind fun q6 =>
    if q6.1 = 0 then
    (f_X10_isWord (448444786035 : Int64) q6.2).bind fun q7 =>
      if q7.1 = 0 then
      f_X10_readPerson_120 k37 v1 v2 (3 : Int32) q7.2
      else
      f_X10_readPerson_120 k37 v1 v2 (2 : Int32) q7.2
    else
    f_X10_readPerson_120 k37 v1 v2 (1 : Int32) q6.2
  else
  f_X10_readPerson_120 k37 v1 v2 (0 : Int32) q5.2
set_option maxRecDepth 100000 in
set_option maxHeartbeats 4000000 in
theorem w_X10_readPerson_77 {E : XE} (k37 : Int32 → Int32 → DD → Option (Int32 × DD)) (hk37 : ∀ (v1 : Int32) (v2 : Int32) (d : DD), AW E si_X10_readPerson 0 0 (QM E wrI) (k37 v1 v2 d) 37 [(0, .ref 86), (1, .int v1), (2, .int v2)] [] d) (v1 : Int32) (v2 : Int32) (d : DD) : AW E si_X10_readPerson 0 0 (QM E wrI) (f_X10_readPerson_77 k37 v1 v2 d) 77 [(0, .ref 86), (1, .int v1), (2, .int v2)] [] d := by
  unfold f_X10_readPerson_77
  refine r_aload_n_0 dX10_readPerson_77 rfl ?_
  refine r_ldc2 dX10_readPerson_78 kw_X10_116 ?_
  refine r_callVI (cc := 10) [] (am_X10_isWord (1953658213 : Int64) d) rfl rfl cf_X10_isWord mw_X10_187 (by decide) dX10_readPerson_81 rfl (Nat.le_of_ble_eq_true rfl) ⟨rfl, rfl⟩ (fun q5 => ?_)
  refine r_if_eq (tgt := 91) dX10_readPerson_84 (by decide) ?_ ?_
  · refine r_aload_n_0 dX10_readPerson_91 rfl ?_
    refine r_ldc2 dX10_readPerson_92 kw_X10_118 ?_
    refine r_callVI (cc := 10) [] (am_X10_isWord (1818326117 : Int64) q5.2) rfl rfl cf_X10_isWord mw_X10_187 (by decide) dX10_readPerson_95 rfl (Nat.le_of_ble_eq_true rfl) ⟨rfl, rfl⟩ (fun q6 => ?_)
    refine r_if_eq (tgt := 105) dX10_readPerson_98 (by decide) ?_ ?_
    · refine r_aload_n_0 dX10_readPerson_105 rfl ?_
      refine r_ldc2 dX10_readPerson_106 kw_X10_120 ?_
      refine r_callVI (cc := 10) [] (am_X10_isWord (448444786035 : Int64) q6.2) rfl rfl cf_X10_isWord mw_X10_187 (by decide) dX10_readPerson_109 rfl (Nat.le_of_ble_eq_true rfl) ⟨rfl, rfl⟩ (fun q7 => ?_)
      refine r_if_eq (tgt := 119) dX10_readPerson_112 (by decide) ?_ ?_
      · refine r_iconst dX10_readPerson_119 ki_3 ?_
        exact w_X10_readPerson_120 k37 hk37 v1 v2 (3 : Int32) q7.2
      · refine r_iconst dX10_readPerson_115 ki_2 ?_
        refine r_goto (tgt := 120) dX10_readPerson_116 (by decide) ?_
        exact w_X10_readPerson_120 k37 hk37 v1 v2 (2 : Int32) q7.2
    · refine r_iconst dX10_readPerson_101 ki_1 ?_
      refine r_goto (tgt := 120) dX10_readPerson_102 (by decide) ?_
      exact w_X10_readPerson_120 k37 hk37 v1 v2 (1 : Int32) q6.2
  · refine r_iconst dX10_readPerson_87 ki_0 ?_
    refine r_goto (tgt := 120) dX10_readPerson_88 (by decide) ?_
    exact w_X10_readPerson_120 k37 hk37 v1 v2 (0 : Int32) q5.2
def f_X10_readPerson_37B (k37 : Int32 → Int32 → DD → Option (Int32 × DD)) (v1 : Int32) (v2 : Int32) (d : DD) : Option (Int32 × DD) :=
  (f_X10_isWord (1953658213 : Int64) d).bind fun q4 =>
  if q4.1 = 0 then
  (f_X10_isWord (1818326117 : Int64) q4.2).bind fun q18 =>
    if q18.1 = 0 then
    (f_X10_isWord (448444786035 : Int64) q18.2).bind fun q19 =>
      if q19.1 = 0 then
      (f_X10_isWord (1633969267 : Int64) q19.2).bind fun q20 =>
        if q20.1 = 0 then
        if v2 = 0 then
          if ixb (0 : Int32) (ln 89) then
            if ixb ((11 : Int32) + v1) (ln 89) then
              bd (u1 q20.2 89 ((11 : Int32) + v1).toNatClampNeg (((1 : Int32) <<< (((2 : Int32) + ((2 : Int32) * (q20.2.1 89 (0 : Int32).toNatClampNeg))) &&& 31)) - (1 : Int32))) fun d23 =>
              if ixb (1 : Int32) (ln 89) then
                if ixb (1 : Int32) (ln 89) then
                  bd (u1 d23 89 (1 : Int32).toNatClampNeg ((d23.1 89 (1 : Int32).toNatClampNeg) + (1 : Int32))) fun d24 =>
                  some ((1 : Int32), d24)
                  else none
                else none
              else none
            else none
          else
          if ixb ((11 : Int32) + v1) (ln 89) then
            bd (u1 q20.2 89 ((11 : Int32) + v1).toNatClampNeg v2) fun d21 =>
            if ixb (1 : Int32) (ln 89) then
              if ixb (1 : Int32) (ln 89) then
                bd (u1 d21 89 (1 : Int32).toNatClampNeg ((d21.1 89 (1 : Int32).toNatClampNeg) + (1 : Int32))) fun d22 =>
                some ((1 : Int32), d22)
                else none
              else none
            else none
        else
        f_X10_readPerson_77 k37 v1 v2 q20.2
      else
      f_X10_readPerson_77 k37 v1 v2 q19.2
    else
    f_X10_readPerson_77 k37 v1 v2 q18.2
  else
  f_X10_readPerson_77 k37 v1 v2 q4.2
def f_X10_readPerson_37 : Nat → Int32 → Int32 → DD → Option (Int32 × DD)
  | 0, _, _, _ => none
  | n + 1, v1, v2, d => f_X10_readPerson_37B (f_X10_readPerson_37 n) v1 v2 d
set_option maxRecDepth 100000 in
set_option maxHeartbeats 4000000 in
theorem w_X10_readPerson_37B {E : XE} (k37 : Int32 → Int32 → DD → Option (Int32 × DD)) (hk37 : ∀ (v1 : Int32) (v2 : Int32) (d : DD), AW E si_X10_readPerson 0 0 (QM E wrI) (k37 v1 v2 d) 37 [(0, .ref 86), (1, .int v1), (2, .int v2)] [] d) (v1 : Int32) (v2 : Int32) (d : DD) : AW E si_X10_readPerson 0 0 (QM E wrI) (f_X10_readPerson_37B k37 v1 v2 d) 37 [(0, .ref 86), (1, .int v1), (2, .int v2)] [] d := by
  unfold f_X10_readPerson_37B
  refine r_aload_n_0 dX10_readPerson_37 rfl ?_
  refine r_ldc2 dX10_readPerson_38 kw_X10_116 ?_
  refine r_callVI (cc := 10) [] (am_X10_isWord (1953658213 : Int64) d) rfl rfl cf_X10_isWord mw_X10_187 (by decide) dX10_readPerson_41 rfl (Nat.le_of_ble_eq_true rfl) ⟨rfl, rfl⟩ (fun q4 => ?_)
  refine r_if_ne (tgt := 77) dX10_readPerson_44 (by decide) ?_ ?_
  · exact w_X10_readPerson_77 k37 hk37 v1 v2 q4.2
  · refine r_aload_n_0 dX10_readPerson_47 rfl ?_
    refine r_ldc2 dX10_readPerson_48 kw_X10_118 ?_
    refine r_callVI (cc := 10) [] (am_X10_isWord (1818326117 : Int64) q4.2) rfl rfl cf_X10_isWord mw_X10_187 (by decide) dX10_readPerson_51 rfl (Nat.le_of_ble_eq_true rfl) ⟨rfl, rfl⟩ (fun q18 => ?_)
    refine r_if_ne (tgt := 77) dX10_readPerson_54 (by decide) ?_ ?_
    · exact w_X10_readPerson_77 k37 hk37 v1 v2 q18.2
    · refine r_aload_n_0 dX10_readPerson_57 rfl ?_
      refine r_ldc2 dX10_readPerson_58 kw_X10_120 ?_
      refine r_callVI (cc := 10) [] (am_X10_isWord (448444786035 : Int64) q18.2) rfl rfl cf_X10_isWord mw_X10_187 (by decide) dX10_readPerson_61 rfl (Nat.le_of_ble_eq_true rfl) ⟨rfl, rfl⟩ (fun q19 => ?_)
      refine r_if_ne (tgt := 77) dX10_readPerson_64 (by decide) ?_ ?_
      · exact w_X10_readPerson_77 k37 hk37 v1 v2 q19.2
      · refine r_aload_n_0 dX10_readPerson_67 rfl ?_
        refine r_ldc2 dX10_readPerson_68 kw_X10_122 ?_
        refine r_callVI (cc := 10) [] (am_X10_isWord (1633969267 : Int64) q19.2) rfl rfl cf_X10_isWord mw_X10_187 (by decide) dX10_readPerson_71 rfl (Nat.le_of_ble_eq_true rfl) ⟨rfl, rfl⟩ (fun q20 => ?_)
        refine r_if_eq (tgt := 202) dX10_readPerson_74 (by decide) ?_ ?_
        · refine r_aload_n_0 dX10_readPerson_202 rfl ?_
          refine r_getr (t := 89) (cc := 10) 7 rfl rfl uX10 (by decide) rfl fw_X10_45 rfl dX10_readPerson_203 ?_
          refine r_bipush dX10_readPerson_206 kb_11 ?_
          refine r_iload_n_1 dX10_readPerson_208 rfl ?_
          refine r_iadd dX10_readPerson_209 ?_
          refine r_iload_n_2 dX10_readPerson_210 rfl ?_
          refine r_if_ne (tgt := 231) dX10_readPerson_211 (by decide) ?_ ?_
          · refine r_iload_n_2 dX10_readPerson_231 rfl ?_
            refine r_iastore rfl dX10_readPerson_232 ?_
            refine r_bd (fun d21 => ?_)
            refine r_aload_n_0 dX10_readPerson_233 rfl ?_
            refine r_getr (t := 89) (cc := 10) 7 rfl rfl uX10 (by decide) rfl fw_X10_45 rfl dX10_readPerson_234 ?_
            refine r_iconst dX10_readPerson_237 ki_1 ?_
            refine r_dup2ia dX10_readPerson_238 ?_
            refine r_iaload rfl dX10_readPerson_239 ?_
            refine r_iconst dX10_readPerson_240 ki_1 ?_
            refine r_iadd dX10_readPerson_241 ?_
            refine r_iastore rfl dX10_readPerson_242 ?_
            refine r_bd (fun d22 => ?_)
            refine r_iconst dX10_readPerson_243 ki_1 ?_
            exact r_zreturn dX10_readPerson_244 rfl rfl
          · refine r_iconst dX10_readPerson_214 ki_1 ?_
            refine r_iconst dX10_readPerson_215 ki_2 ?_
            refine r_iconst dX10_readPerson_216 ki_2 ?_
            refine r_aload_n_0 dX10_readPerson_217 rfl ?_
            refine r_getr (t := 89) (cc := 10) 7 rfl rfl uX10 (by decide) rfl fw_X10_45 rfl dX10_readPerson_218 ?_
            refine r_iconst dX10_readPerson_221 ki_0 ?_
            refine r_iaload rfl dX10_readPerson_222 ?_
            refine r_imul dX10_readPerson_223 ?_
            refine r_iadd dX10_readPerson_224 ?_
            refine r_ishl dX10_readPerson_225 ?_
            refine r_iconst dX10_readPerson_226 ki_1 ?_
            refine r_isub dX10_readPerson_227 ?_
            refine r_goto (tgt := 232) dX10_readPerson_228 (by decide) ?_
            refine r_iastore rfl dX10_readPerson_232 ?_
            refine r_bd (fun d23 => ?_)
            refine r_aload_n_0 dX10_readPerson_233 rfl ?_
            refine r_getr (t := 89) (cc := 10) 7 rfl rfl uX10 (by decide) rfl fw_X10_45 rfl dX10_readPerson_234 ?_
            refine r_iconst dX10_readPerson_237 ki_1 ?_
            refine r_dup2ia dX10_readPerson_238 ?_
            refine r_iaload rfl dX10_readPerson_239 ?_
            refine r_iconst dX10_readPerson_240 ki_1 ?_
            refine r_iadd dX10_readPerson_241 ?_
            refine r_iastore rfl dX10_readPerson_242 ?_
            refine r_bd (fun d24 => ?_)
            refine r_iconst dX10_readPerson_243 ki_1 ?_
            exact r_zreturn dX10_readPerson_244 rfl rfl
        · exact w_X10_readPerson_77 k37 hk37 v1 v2 q20.2
theorem w_X10_readPerson_37 {E : XE} (n : Nat) : ∀ (v1 : Int32) (v2 : Int32) (d : DD), AW E si_X10_readPerson 0 0 (QM E wrI) (f_X10_readPerson_37 n v1 v2 d) 37 [(0, .ref 86), (1, .int v1), (2, .int v2)] [] d := by
  induction n with
  | zero => intros; exact r_none
  | succ n ih => intro v1 v2 d; exact w_X10_readPerson_37B (f_X10_readPerson_37 n) ih v1 v2 d
def f_X10_readPerson (d : DD) : Option (Int32 × DD) :=
  if ixb (1 : Int32) (ln 89) then
  bd (d.1 89 (1 : Int32).toNatClampNeg) fun x1 =>
    if x1 = (4 : Int32) then
    (f_X10_bad (4 : Int32) d).bind fun q25 =>
      if q25.1 = 0 ∨ q25.1 = 1 then some (q25.1, q25.2) else none
    else
    (f_X10_skip d).bind fun q2 =>
      (f_X10_fresh ((10 : Int32) + x1) q2.2).bind fun q3 =>
      if q3.1 = 0 then
      some ((0 : Int32), q3.2)
      else
      f_X10_readPerson_37 FU x1 (0 : Int32) q3.2
  else none
set_option maxRecDepth 100000 in
set_option maxHeartbeats 4000000 in
theorem am_X10_readPerson (d : DD) : AM wrI mi_X10_readPerson 3 64 [.ref 86] d (f_X10_readPerson d) := by
  refine AM_intro (si := si_X10_readPerson) (lv := [(0, .ref 86)]) rfl (by decide +kernel) rfl (Nat.le_of_ble_eq_true rfl) (fun E => ?_)
  unfold f_X10_readPerson
  refine r_aload_n_0 dX10_readPerson_0 rfl ?_
  refine r_getr (t := 89) (cc := 10) 7 rfl rfl uX10 (by decide) rfl fw_X10_45 rfl dX10_readPerson_1 ?_
  refine r_iconst dX10_readPerson_4 ki_1 ?_
  refine r_iaload rfl dX10_readPerson_5 ?_
  refine r_bdI (fun x1 => ?_)
  refine r_istore_n_x dX10_readPerson_6 rfl (by decide) rfl ?_
  refine r_iload_n_0 dX10_readPerson_7 rfl ?_
  refine r_iconst dX10_readPerson_8 ki_4 ?_
  refine r_icmp_ne (tgt := 18) dX10_readPerson_9 (by decide) ?_ ?_
  · refine r_aload_n_1 dX10_readPerson_18 rfl ?_
    refine r_callVU (cc := 10) [] (am_X10_skip d) rfl rfl cf_X10_skip mw_X10_169 (by decide) dX10_readPerson_19 rfl (Nat.le_of_ble_eq_true rfl) ⟨rfl, rfl⟩ (fun q2 => ?_)
    refine r_aload_n_1 dX10_readPerson_22 rfl ?_
    refine r_bipush dX10_readPerson_23 kb_10 ?_
    refine r_iload_n_0 dX10_readPerson_25 rfl ?_
    refine r_iadd dX10_readPerson_26 ?_
    refine r_callVI (cc := 10) [] (am_X10_fresh ((10 : Int32) + x1) q2.2) rfl rfl cf_X10_fresh mw_X10_206 (by decide) dX10_readPerson_27 rfl (Nat.le_of_ble_eq_true rfl) ⟨rfl, rfl⟩ (fun q3 => ?_)
    refine r_if_ne (tgt := 35) dX10_readPerson_30 (by decide) ?_ ?_
    · refine r_iconst dX10_readPerson_35 ki_0 ?_
      refine r_istore_n_x dX10_readPerson_36 rfl (by decide) rfl ?_
      refine r_sub [2, 1, 0] (lv' := [(0, .ref 86), (1, .int x1), (2, .int (0 : Int32))]) rfl ?_
      exact w_X10_readPerson_37 FU x1 (0 : Int32) q3.2
    · refine r_iconst dX10_readPerson_33 ki_0 ?_
      exact r_zreturn dX10_readPerson_34 rfl rfl
  · refine r_aload_n_1 dX10_readPerson_12 rfl ?_
    refine r_iconst dX10_readPerson_13 ki_4 ?_
    refine r_callVI (cc := 10) [] (am_X10_bad (4 : Int32) d) rfl rfl cf_X10_bad mw_X10_166 (by decide) dX10_readPerson_14 rfl (Nat.le_of_ble_eq_true rfl) ⟨rfl, rfl⟩ (fun q25 => ?_)
    exact r_breturn dX10_readPerson_17 rfl
theorem cf_X10_readPerson : CFv mi_X10_readPerson 0 := ⟨iw_X10_readPerson, vw_X10_readPerson, nw_X10, cw_X10_readPerson, by unfold plainF; decide +kernel⟩
abbrev si_X10_takesName : SI := (cX10_takesName, RX10, 3, (some .boolean), 2, 43)
def f_X10_takesName (p1 : Int32) (p2 : Int32) (d : DD) : Option (Int32 × DD) :=
  (f_X10_isName d).bind fun q1 =>
  if q1.1 = 0 then
  (f_X10_bad (1 : Int32) q1.2).bind fun q6 =>
    if q6.1 = 0 ∨ q6.1 = 1 then some (q6.1, q6.2) else none
  else
  (f_X10_find p1 p2 q1.2).bind fun q2 =>
    bd (u1 q2.2 86 19 q2.1) fun d3 =>
    if (d3.1 86 19) < 0 then
    (f_X10_bad (3 : Int32) d3).bind fun q5 =>
      if q5.1 = 0 ∨ q5.1 = 1 then some (q5.1, q5.2) else none
    else
    (f_X10_skip d3).bind fun q4 =>
      some ((1 : Int32), q4.2)
set_option maxRecDepth 100000 in
set_option maxHeartbeats 4000000 in
theorem am_X10_takesName (p1 : Int32) (p2 : Int32) (d : DD) : AM wrI mi_X10_takesName 2 43 [.ref 86, .int p1, .int p2] d (f_X10_takesName p1 p2 d) := by
  refine AM_intro (si := si_X10_takesName) (lv := [(0, .ref 86), (1, .int p1), (2, .int p2)]) rfl (by decide +kernel) rfl (Nat.le_of_ble_eq_true rfl) (fun E => ?_)
  unfold f_X10_takesName
  refine r_aload_n_0 dX10_takesName_0 rfl ?_
  refine r_callVI (cc := 10) [] (am_X10_isName d) rfl rfl cf_X10_isName mw_X10_179 (by decide) dX10_takesName_1 rfl (Nat.le_of_ble_eq_true rfl) ⟨rfl, rfl⟩ (fun q1 => ?_)
  refine r_if_ne (tgt := 13) dX10_takesName_4 (by decide) ?_ ?_
  · refine r_aload_n_0 dX10_takesName_13 rfl ?_
    refine r_aload_n_0 dX10_takesName_14 rfl ?_
    refine r_iload_n_1 dX10_takesName_15 rfl ?_
    refine r_iload_n_2 dX10_takesName_16 rfl ?_
    refine r_callVI (cc := 10) [.ref 86] (am_X10_find p1 p2 q1.2) rfl rfl cf_X10_find mw_X10_183 (by decide) dX10_takesName_17 rfl (Nat.le_of_ble_eq_true rfl) ⟨rfl, rfl⟩ (fun q2 => ?_)
    refine r_puti (cc := 10) 19 tyX10 tyX10_ok nmX10 rfl (by decide +kernel) rfl rfl uX10 (by decide) rfl fw_X10_176 dX10_takesName_20 ?_
    refine r_bd (fun d3 => ?_)
    refine r_aload_n_0 dX10_takesName_23 rfl ?_
    refine r_geti (cc := 10) 19 rfl rfl uX10 (by decide) rfl fw_X10_176 dX10_takesName_24 ?_
    refine r_if_ge (tgt := 36) dX10_takesName_27 (by decide) ?_ ?_
    · refine r_aload_n_0 dX10_takesName_36 rfl ?_
      refine r_callVU (cc := 10) [] (am_X10_skip d3) rfl rfl cf_X10_skip mw_X10_169 (by decide) dX10_takesName_37 rfl (Nat.le_of_ble_eq_true rfl) ⟨rfl, rfl⟩ (fun q4 => ?_)
      refine r_iconst dX10_takesName_40 ki_1 ?_
      exact r_zreturn dX10_takesName_41 rfl rfl
    · refine r_aload_n_0 dX10_takesName_30 rfl ?_
      refine r_iconst dX10_takesName_31 ki_3 ?_
      refine r_callVI (cc := 10) [] (am_X10_bad (3 : Int32) d3) rfl rfl cf_X10_bad mw_X10_166 (by decide) dX10_takesName_32 rfl (Nat.le_of_ble_eq_true rfl) ⟨rfl, rfl⟩ (fun q5 => ?_)
      exact r_breturn dX10_takesName_35 rfl
  · refine r_aload_n_0 dX10_takesName_7 rfl ?_
    refine r_iconst dX10_takesName_8 ki_1 ?_
    refine r_callVI (cc := 10) [] (am_X10_bad (1 : Int32) q1.2) rfl rfl cf_X10_bad mw_X10_166 (by decide) dX10_takesName_9 rfl (Nat.le_of_ble_eq_true rfl) ⟨rfl, rfl⟩ (fun q6 => ?_)
    exact r_breturn dX10_takesName_12 rfl
theorem cf_X10_takesName : CFv mi_X10_takesName 2 := ⟨iw_X10_takesName, vw_X10_takesName, nw_X10, cw_X10_takesName, by unfold plainF; decide +kernel⟩
abbrev si_X10_readLooks : SI := (cX10_readLooks, RX10, 2, (some .boolean), 3, 65)
def f_X10_readLooks (d : DD) : Option (Int32 × DD) :=
  (f_X10_skip d).bind fun q1 =>
  if ixb (1 : Int32) (ln 89) then
  (f_X10_takesName (10 : Int32) (q1.2.1 89 (1 : Int32).toNatClampNeg) q1.2).bind fun q2 =>
    if q2.1 = 0 then
    some ((0 : Int32), q2.2)
    else
    bd (q2.2.1 86 19) fun x3 =>
      if (q2.2.1 86 12) = (2 : Int32) then
      if (29 : Int32) < (q2.2.1 86 15) then
        (f_X10_bad (2 : Int32) q2.2).bind fun q8 =>
          if q8.1 = 0 ∨ q8.1 = 1 then some (q8.1, q8.2) else none
        else
        if ixb ((15 : Int32) + x3) (ln 89) then
          (f_X10_has (q2.2.1 89 ((15 : Int32) + x3).toNatClampNeg) (q2.2.1 86 15) q2.2).bind fun q4 =>
            if q4.1 = 0 then
            if ixb ((15 : Int32) + x3) (ln 89) then
              if ixb ((15 : Int32) + x3) (ln 89) then
                bd (u1 q4.2 89 ((15 : Int32) + x3).toNatClampNeg ((q4.2.1 89 ((15 : Int32) + x3).toNatClampNeg) ||| ((1 : Int32) <<< ((q4.2.1 86 15) &&& 31)))) fun d5 =>
                (f_X10_skip d5).bind fun q6 =>
                  some ((1 : Int32), q6.2)
                else none
              else none
            else
            (f_X10_bad (3 : Int32) q4.2).bind fun q7 =>
              if q7.1 = 0 ∨ q7.1 = 1 then some (q7.1, q7.2) else none
          else none
      else
      (f_X10_bad (1 : Int32) q2.2).bind fun q9 =>
        if q9.1 = 0 ∨ q9.1 = 1 then some (q9.1, q9.2) else none
  else none
set_option maxRecDepth 100000 in
set_option maxHeartbeats 4000000 in
theorem am_X10_readLooks (d : DD) : AM wrI mi_X10_readLooks 3 65 [.ref 86] d (f_X10_readLooks d) := by
  refine AM_intro (si := si_X10_readLooks) (lv := [(0, .ref 86)]) rfl (by decide +kernel) rfl (Nat.le_of_ble_eq_true rfl) (fun E => ?_)
  unfold f_X10_readLooks
  refine r_aload_n_0 dX10_readLooks_0 rfl ?_
  refine r_callVU (cc := 10) [] (am_X10_skip d) rfl rfl cf_X10_skip mw_X10_169 (by decide) dX10_readLooks_1 rfl (Nat.le_of_ble_eq_true rfl) ⟨rfl, rfl⟩ (fun q1 => ?_)
  refine r_aload_n_0 dX10_readLooks_4 rfl ?_
  refine r_bipush dX10_readLooks_5 kb_10 ?_
  refine r_aload_n_0 dX10_readLooks_7 rfl ?_
  refine r_getr (t := 89) (cc := 10) 7 rfl rfl uX10 (by decide) rfl fw_X10_45 rfl dX10_readLooks_8 ?_
  refine r_iconst dX10_readLooks_11 ki_1 ?_
  refine r_iaload rfl dX10_readLooks_12 ?_
  refine r_callVI (cc := 10) [] (am_X10_takesName (10 : Int32) (q1.2.1 89 (1 : Int32).toNatClampNeg) q1.2) rfl rfl cf_X10_takesName mw_X10_216 (by decide) dX10_readLooks_13 rfl (Nat.le_of_ble_eq_true rfl) ⟨rfl, rfl⟩ (fun q2 => ?_)
  refine r_if_ne (tgt := 21) dX10_readLooks_16 (by decide) ?_ ?_
  · refine r_aload_n_0 dX10_readLooks_21 rfl ?_
    refine r_geti (cc := 10) 19 rfl rfl uX10 (by decide) rfl fw_X10_176 dX10_readLooks_22 ?_
    refine r_bdI (fun x3 => ?_)
    refine r_istore_n_x dX10_readLooks_25 rfl (by decide) rfl ?_
    refine r_aload_n_1 dX10_readLooks_26 rfl ?_
    refine r_geti (cc := 10) 12 rfl rfl uX10 (by decide) rfl fw_X10_140 dX10_readLooks_27 ?_
    refine r_iconst dX10_readLooks_30 ki_2 ?_
    refine r_icmp_eq (tgt := 40) dX10_readLooks_31 (by decide) ?_ ?_
    · refine r_aload_n_1 dX10_readLooks_40 rfl ?_
      refine r_geti (cc := 10) 15 rfl rfl uX10 (by decide) rfl fw_X10_150 dX10_readLooks_41 ?_
      refine r_bipush dX10_readLooks_44 kb_29 ?_
      refine r_icmp_le (tgt := 55) dX10_readLooks_46 (by decide) ?_ ?_
      · refine r_aload_n_1 dX10_readLooks_55 rfl ?_
        refine r_getr (t := 89) (cc := 10) 7 rfl rfl uX10 (by decide) rfl fw_X10_45 rfl dX10_readLooks_56 ?_
        refine r_bipush dX10_readLooks_59 kb_15 ?_
        refine r_iload_n_0 dX10_readLooks_61 rfl ?_
        refine r_iadd dX10_readLooks_62 ?_
        refine r_iaload rfl dX10_readLooks_63 ?_
        refine r_aload_n_1 dX10_readLooks_64 rfl ?_
        refine r_geti (cc := 10) 15 rfl rfl uX10 (by decide) rfl fw_X10_150 dX10_readLooks_65 ?_
        refine r_callSI [] (am_X10_has (q2.2.1 89 ((15 : Int32) + x3).toNatClampNeg) (q2.2.1 86 15) q2.2) cf_X10_has mw_X10_213 (by decide) dX10_readLooks_68 rfl (Nat.le_of_ble_eq_true rfl) ⟨rfl, rfl⟩ (fun q4 => ?_)
        refine r_if_eq (tgt := 80) dX10_readLooks_71 (by decide) ?_ ?_
        · refine r_aload_n_1 dX10_readLooks_80 rfl ?_
          refine r_getr (t := 89) (cc := 10) 7 rfl rfl uX10 (by decide) rfl fw_X10_45 rfl dX10_readLooks_81 ?_
          refine r_bipush dX10_readLooks_84 kb_15 ?_
          refine r_iload_n_0 dX10_readLooks_86 rfl ?_
          refine r_iadd dX10_readLooks_87 ?_
          refine r_dup2ia dX10_readLooks_88 ?_
          refine r_iaload rfl dX10_readLooks_89 ?_
          refine r_iconst dX10_readLooks_90 ki_1 ?_
          refine r_aload_n_1 dX10_readLooks_91 rfl ?_
          refine r_geti (cc := 10) 15 rfl rfl uX10 (by decide) rfl fw_X10_150 dX10_readLooks_92 ?_
          refine r_ishl dX10_readLooks_95 ?_
          refine r_ior dX10_readLooks_96 ?_
          refine r_iastore rfl dX10_readLooks_97 ?_
          refine r_bd (fun d5 => ?_)
          refine r_aload_n_1 dX10_readLooks_98 rfl ?_
          refine r_callVU (cc := 10) [] (am_X10_skip d5) rfl rfl cf_X10_skip mw_X10_169 (by decide) dX10_readLooks_99 rfl (Nat.le_of_ble_eq_true rfl) ⟨rfl, rfl⟩ (fun q6 => ?_)
          refine r_iconst dX10_readLooks_102 ki_1 ?_
          exact r_zreturn dX10_readLooks_103 rfl rfl
        · refine r_aload_n_1 dX10_readLooks_74 rfl ?_
          refine r_iconst dX10_readLooks_75 ki_3 ?_
          refine r_callVI (cc := 10) [] (am_X10_bad (3 : Int32) q4.2) rfl rfl cf_X10_bad mw_X10_166 (by decide) dX10_readLooks_76 rfl (Nat.le_of_ble_eq_true rfl) ⟨rfl, rfl⟩ (fun q7 => ?_)
          exact r_breturn dX10_readLooks_79 rfl
      · refine r_aload_n_1 dX10_readLooks_49 rfl ?_
        refine r_iconst dX10_readLooks_50 ki_2 ?_
        refine r_callVI (cc := 10) [] (am_X10_bad (2 : Int32) q2.2) rfl rfl cf_X10_bad mw_X10_166 (by decide) dX10_readLooks_51 rfl (Nat.le_of_ble_eq_true rfl) ⟨rfl, rfl⟩ (fun q8 => ?_)
        exact r_breturn dX10_readLooks_54 rfl
    · refine r_aload_n_1 dX10_readLooks_34 rfl ?_
      refine r_iconst dX10_readLooks_35 ki_1 ?_
      refine r_callVI (cc := 10) [] (am_X10_bad (1 : Int32) q2.2) rfl rfl cf_X10_bad mw_X10_166 (by decide) dX10_readLooks_36 rfl (Nat.le_of_ble_eq_true rfl) ⟨rfl, rfl⟩ (fun q9 => ?_)
      exact r_breturn dX10_readLooks_39 rfl
  · refine r_iconst dX10_readLooks_19 ki_0 ?_
    exact r_zreturn dX10_readLooks_20 rfl rfl
theorem cf_X10_readLooks : CFv mi_X10_readLooks 0 := ⟨iw_X10_readLooks, vw_X10_readLooks, nw_X10, cw_X10_readLooks, by unfold plainF; decide +kernel⟩
