abbrev si_X2_readPersonLine : SI := (cX2_readPersonLine, RX2, 6, (some .boolean), 4, 90)
def f_X2_readPersonLine_123 (v1 : Int64) (v3 : Int32) (d : DD) : Option (Int32 × DD) :=
  bd (d.1 50 1) fun x5 =>
  (f_X9_putLong 55 x5 v1 d).bind fun q6 =>
  if v3 = 0 then
  (f_X9_put 56 x5 (((1 : Int32) <<< (((2 : Int32) + ((2 : Int32) * (q6.2.1 50 0))) &&& 31)) - (1 : Int32)) q6.2).bind fun q9 =>
    bd (u1 q9.2 50 1 ((q9.2.1 50 1) + (1 : Int32))) fun d10 =>
    some ((1 : Int32), d10)
  else
  (f_X9_put 56 x5 v3 q6.2).bind fun q7 =>
    bd (u1 q7.2 50 1 ((q7.2.1 50 1) + (1 : Int32))) fun d8 =>
    some ((1 : Int32), d8)
set_option maxRecDepth 100000 in
set_option maxHeartbeats 4000000 in
theorem w_X2_readPersonLine_123 {E : XE} (v1 : Int64) (v3 : Int32) (d : DD) : AW E si_X2_readPersonLine 0 0 (QM E wrI) (f_X2_readPersonLine_123 v1 v3 d) 123 [(0, .ref 49), (1, .long v1), (3, .int v3)] [] d := by
  unfold f_X2_readPersonLine_123
  refine r_aload_n_0 dX2_readPersonLine_123 rfl ?_
  refine r_getr (t := 50) (cc := 2) 1 rfl rfl uX2 (by decide) rfl fw_X2_12 rfl dX2_readPersonLine_124 ?_
  refine r_geti (cc := 1) 1 rfl rfl uX1 (by decide) rfl fw_X2_64 dX2_readPersonLine_127 ?_
  refine r_bdI (fun x5 => ?_)
  refine r_istore_w_x dX2_readPersonLine_130 (by decide) rfl ?_
  refine r_aload_n_1 dX2_readPersonLine_132 rfl ?_
  refine r_getr (t := 50) (cc := 2) 1 rfl rfl uX2 (by decide) rfl fw_X2_12 rfl dX2_readPersonLine_133 ?_
  refine r_getr (t := 55) (cc := 1) 6 rfl rfl uX1 (by decide) rfl fw_X2_119 rfl dX2_readPersonLine_136 ?_
  refine r_iload_w_0 dX2_readPersonLine_139 ?_
  refine r_lload_n_2 dX2_readPersonLine_141 rfl ?_
  refine r_callSNU [] (am_X9_putLong 55 rfl x5 v1 d) cf_X9_putLong wn_X2_90 (by decide) dX2_readPersonLine_142 rfl (Nat.le_of_ble_eq_true rfl) ⟨rfl, rfl⟩ (fun q6 => ?_)
  refine r_aload_n_1 dX2_readPersonLine_145 rfl ?_
  refine r_getr (t := 50) (cc := 2) 1 rfl rfl uX2 (by decide) rfl fw_X2_12 rfl dX2_readPersonLine_146 ?_
  refine r_getr (t := 56) (cc := 1) 7 rfl rfl uX1 (by decide) rfl fw_X2_122 rfl dX2_readPersonLine_149 ?_
  refine r_iload_w_0 dX2_readPersonLine_152 ?_
  refine r_iload_n_3 dX2_readPersonLine_154 rfl ?_
  refine r_if_ne (tgt := 176) dX2_readPersonLine_155 (by decide) ?_ ?_
  · refine r_iload_n_3 dX2_readPersonLine_176 rfl ?_
    refine r_callSNU [] (am_X9_put 56 rfl x5 v3 q6.2) cf_X9_put wn_X2_97 (by decide) dX2_readPersonLine_177 rfl (Nat.le_of_ble_eq_true rfl) ⟨rfl, rfl⟩ (fun q7 => ?_)
    refine r_aload_n_1 dX2_readPersonLine_180 rfl ?_
    refine r_getr (t := 50) (cc := 2) 1 rfl rfl uX2 (by decide) rfl fw_X2_12 rfl dX2_readPersonLine_181 ?_
    refine r_dupa dX2_readPersonLine_184 ?_
    refine r_geti (cc := 1) 1 rfl rfl uX1 (by decide) rfl fw_X2_64 dX2_readPersonLine_185 ?_
    refine r_iconst dX2_readPersonLine_188 ki_1 ?_
    refine r_iadd dX2_readPersonLine_189 ?_
    refine r_puti (cc := 1) 1 tyX1 tyX1_ok nmX1 rfl (by decide +kernel) rfl rfl uX1 (by decide) rfl fw_X2_64 dX2_readPersonLine_190 ?_
    refine r_bd (fun d8 => ?_)
    refine r_iconst dX2_readPersonLine_193 ki_1 ?_
    exact r_zreturn dX2_readPersonLine_194 rfl rfl
  · refine r_iconst dX2_readPersonLine_158 ki_1 ?_
    refine r_iconst dX2_readPersonLine_159 ki_2 ?_
    refine r_iconst dX2_readPersonLine_160 ki_2 ?_
    refine r_aload_n_1 dX2_readPersonLine_161 rfl ?_
    refine r_getr (t := 50) (cc := 2) 1 rfl rfl uX2 (by decide) rfl fw_X2_12 rfl dX2_readPersonLine_162 ?_
    refine r_geti (cc := 1) 0 rfl rfl uX1 (by decide) rfl fw_X2_68 dX2_readPersonLine_165 ?_
    refine r_imul dX2_readPersonLine_168 ?_
    refine r_iadd dX2_readPersonLine_169 ?_
    refine r_ishl dX2_readPersonLine_170 ?_
    refine r_iconst dX2_readPersonLine_171 ki_1 ?_
    refine r_isub dX2_readPersonLine_172 ?_
    refine r_goto (tgt := 177) dX2_readPersonLine_173 (by decide) ?_
    refine r_callSNU [] (am_X9_put 56 rfl x5 (((1 : Int32) <<< (((2 : Int32) + ((2 : Int32) * (q6.2.1 50 0))) &&& 31)) - (1 : Int32)) q6.2) cf_X9_put wn_X2_97 (by decide) dX2_readPersonLine_177 rfl (Nat.le_of_ble_eq_true rfl) ⟨rfl, rfl⟩ (fun q9 => ?_)
    refine r_aload_n_1 dX2_readPersonLine_180 rfl ?_
    refine r_getr (t := 50) (cc := 2) 1 rfl rfl uX2 (by decide) rfl fw_X2_12 rfl dX2_readPersonLine_181 ?_
    refine r_dupa dX2_readPersonLine_184 ?_
    refine r_geti (cc := 1) 1 rfl rfl uX1 (by decide) rfl fw_X2_64 dX2_readPersonLine_185 ?_
    refine r_iconst dX2_readPersonLine_188 ki_1 ?_
    refine r_iadd dX2_readPersonLine_189 ?_
    refine r_puti (cc := 1) 1 tyX1 tyX1_ok nmX1 rfl (by decide +kernel) rfl rfl uX1 (by decide) rfl fw_X2_64 dX2_readPersonLine_190 ?_
    refine r_bd (fun d10 => ?_)
    refine r_iconst dX2_readPersonLine_193 ki_1 ?_
    exact r_zreturn dX2_readPersonLine_194 rfl rfl
def f_X2_readPersonLine_77B (k77 : Int64 → Int32 → Int32 → DD → Option (Int32 × DD)) (v1 : Int64) (v3 : Int32) (v4 : Int32) (d : DD) : Option (Int32 × DD) :=
  if (8 : Int32) < v4 then
  f_X2_readPersonLine_123 v1 v3 d
  else
  (f_X0_sort d).bind fun q11 =>
    if q11.1 = (2 : Int32) then
    f_X2_readPersonLine_123 v1 v3 q11.2
    else
    (f_X2_readWay v3 q11.2).bind fun q12 =>
      if q12.1 = (-1 : Int32) then
      some ((0 : Int32), q12.2)
      else
      bd (v3 ||| ((1 : Int32) <<< (q12.1 &&& 31))) fun x13 =>
        k77 v1 x13 (v4 + (1 : Int32)) q12.2
def f_X2_readPersonLine_77 : Nat → Int64 → Int32 → Int32 → DD → Option (Int32 × DD)
  | 0, _, _, _, _ => none
  | n + 1, v1, v3, v4, d => f_X2_readPersonLine_77B (f_X2_readPersonLine_77 n) v1 v3 v4 d
set_option maxRecDepth 100000 in
set_option maxHeartbeats 4000000 in
theorem w_X2_readPersonLine_77B {E : XE} (k77 : Int64 → Int32 → Int32 → DD → Option (Int32 × DD)) (hk77 : ∀ (v1 : Int64) (v3 : Int32) (v4 : Int32) (d : DD), AW E si_X2_readPersonLine 0 0 (QM E wrI) (k77 v1 v3 v4 d) 77 [(0, .ref 49), (1, .long v1), (3, .int v3), (4, .int v4)] [] d) (v1 : Int64) (v3 : Int32) (v4 : Int32) (d : DD) : AW E si_X2_readPersonLine 0 0 (QM E wrI) (f_X2_readPersonLine_77B k77 v1 v3 v4 d) 77 [(0, .ref 49), (1, .long v1), (3, .int v3), (4, .int v4)] [] d := by
  unfold f_X2_readPersonLine_77B
  refine r_iload_w_3 dX2_readPersonLine_77 ?_
  refine r_bipush dX2_readPersonLine_79 kb_8 ?_
  refine r_icmp_gt (tgt := 123) dX2_readPersonLine_81 (by decide) ?_ ?_
  · refine r_sub [0, 1, 2] (lv' := [(0, .ref 49), (1, .long v1), (3, .int v3)]) rfl ?_
    exact w_X2_readPersonLine_123 v1 v3 d
  · refine r_aload_n_0 dX2_readPersonLine_84 rfl ?_
    refine r_getr (t := 44) (cc := 2) 0 rfl rfl uX2 (by decide) rfl fw_X2_22 rfl dX2_readPersonLine_85 ?_
    refine r_callVI (cc := 0) [] (am_X0_sort d) rfl rfl cf_X0_sort mw_X2_35 (by decide) dX2_readPersonLine_88 rfl (Nat.le_of_ble_eq_true rfl) ⟨rfl, rfl⟩ (fun q11 => ?_)
    refine r_iconst dX2_readPersonLine_91 ki_2 ?_
    refine r_icmp_eq (tgt := 123) dX2_readPersonLine_92 (by decide) ?_ ?_
    · refine r_sub [0, 1, 2] (lv' := [(0, .ref 49), (1, .long v1), (3, .int v3)]) rfl ?_
      exact w_X2_readPersonLine_123 v1 v3 q11.2
    · refine r_aload_n_0 dX2_readPersonLine_95 rfl ?_
      refine r_iload_n_2 dX2_readPersonLine_96 rfl ?_
      refine r_callVI (cc := 2) [] (am_X2_readWay v3 q11.2) rfl rfl cf_X2_readWay mw_X2_116 (by decide) dX2_readPersonLine_97 rfl (Nat.le_of_ble_eq_true rfl) ⟨rfl, rfl⟩ (fun q12 => ?_)
      refine r_istore_w_x dX2_readPersonLine_100 (by decide) rfl ?_
      refine r_iload_w_0 dX2_readPersonLine_102 ?_
      refine r_iconst dX2_readPersonLine_104 ki_m1 ?_
      refine r_icmp_ne (tgt := 110) dX2_readPersonLine_105 (by decide) ?_ ?_
      · refine r_iload_n_3 dX2_readPersonLine_110 rfl ?_
        refine r_iconst dX2_readPersonLine_111 ki_1 ?_
        refine r_iload_w_0 dX2_readPersonLine_112 ?_
        refine r_ishl dX2_readPersonLine_114 ?_
        refine r_ior dX2_readPersonLine_115 ?_
        refine r_bdI (fun x13 => ?_)
        refine r_istore_n_3 dX2_readPersonLine_116 rfl (by decide) rfl ?_
        refine r_iinc_4 dX2_readPersonLine_117 ki_1 (by decide) rfl ?_
        refine r_goto (tgt := 77) dX2_readPersonLine_120 (by decide) ?_
        refine r_sub [1, 2, 3, 4] (lv' := [(0, .ref 49), (1, .long v1), (3, .int x13), (4, .int (v4 + (1 : Int32)))]) rfl ?_
        exact hk77 v1 x13 (v4 + (1 : Int32)) q12.2
      · refine r_iconst dX2_readPersonLine_108 ki_0 ?_
        exact r_zreturn dX2_readPersonLine_109 rfl rfl
theorem w_X2_readPersonLine_77 {E : XE} (n : Nat) : ∀ (v1 : Int64) (v3 : Int32) (v4 : Int32) (d : DD), AW E si_X2_readPersonLine 0 0 (QM E wrI) (f_X2_readPersonLine_77 n v1 v3 v4 d) 77 [(0, .ref 49), (1, .long v1), (3, .int v3), (4, .int v4)] [] d := by
  induction n with
  | zero => intros; exact r_none
  | succ n ih => intro v1 v3 v4 d; exact w_X2_readPersonLine_77B (f_X2_readPersonLine_77 n) ih v1 v3 v4 d
def f_X2_readPersonLine (d : DD) : Option (Int32 × DD) :=
  if (d.1 50 1) < (4 : Int32) then
  bd (u1 d 44 1 ((d.1 44 1) + (1 : Int32))) fun d1 =>
    (f_X0_peekNewName 50 d1).bind fun q2 =>
    if q2.1 = 0 then
    some ((0 : Int32), q2.2)
    else
    (f_X0_value q2.2).bind fun q3 =>
      bd (u1 q3.2 44 1 ((q3.2.1 44 1) + (1 : Int32))) fun d4 =>
      f_X2_readPersonLine_77 FU q3.1 (0 : Int32) (0 : Int32) d4
  else
  (f_X0_refuse (4 : Int32) d).bind fun q14 =>
    some ((0 : Int32), q14.2)
set_option maxRecDepth 100000 in
set_option maxHeartbeats 4000000 in
theorem am_X2_readPersonLine (d : DD) : AM wrI mi_X2_readPersonLine 4 90 [.ref 49] d (f_X2_readPersonLine d) := by
  refine AM_intro (si := si_X2_readPersonLine) (lv := [(0, .ref 49)]) rfl (by decide +kernel) rfl (Nat.le_of_ble_eq_true rfl) (fun E => ?_)
  unfold f_X2_readPersonLine
  refine r_aload_n_0 dX2_readPersonLine_0 rfl ?_
  refine r_getr (t := 50) (cc := 2) 1 rfl rfl uX2 (by decide) rfl fw_X2_12 rfl dX2_readPersonLine_1 ?_
  refine r_geti (cc := 1) 1 rfl rfl uX1 (by decide) rfl fw_X2_64 dX2_readPersonLine_4 ?_
  refine r_iconst dX2_readPersonLine_7 ki_4 ?_
  refine r_icmp_lt (tgt := 22) dX2_readPersonLine_8 (by decide) ?_ ?_
  · refine r_aload_n_0 dX2_readPersonLine_22 rfl ?_
    refine r_getr (t := 44) (cc := 2) 0 rfl rfl uX2 (by decide) rfl fw_X2_22 rfl dX2_readPersonLine_23 ?_
    refine r_dupa dX2_readPersonLine_26 ?_
    refine r_geti (cc := 0) 1 rfl rfl uX0 (by decide) rfl fw_X2_71 dX2_readPersonLine_27 ?_
    refine r_iconst dX2_readPersonLine_30 ki_1 ?_
    refine r_iadd dX2_readPersonLine_31 ?_
    refine r_puti (cc := 0) 1 tyX0 tyX0_ok nmX0 rfl (by decide +kernel) rfl rfl uX0 (by decide) rfl fw_X2_71 dX2_readPersonLine_32 ?_
    refine r_bd (fun d1 => ?_)
    refine r_aload_n_0 dX2_readPersonLine_35 rfl ?_
    refine r_getr (t := 44) (cc := 2) 0 rfl rfl uX2 (by decide) rfl fw_X2_22 rfl dX2_readPersonLine_36 ?_
    refine r_aload_n_0 dX2_readPersonLine_39 rfl ?_
    refine r_getr (t := 50) (cc := 2) 1 rfl rfl uX2 (by decide) rfl fw_X2_12 rfl dX2_readPersonLine_40 ?_
    refine r_callVI (cc := 0) [] (am_X0_peekNewName 50 rfl d1) rfl rfl cf_X0_peekNewName mw_X2_74 (by decide) dX2_readPersonLine_43 rfl (Nat.le_of_ble_eq_true rfl) ⟨rfl, rfl⟩ (fun q2 => ?_)
    refine r_if_ne (tgt := 51) dX2_readPersonLine_46 (by decide) ?_ ?_
    · refine r_aload_n_0 dX2_readPersonLine_51 rfl ?_
      refine r_getr (t := 44) (cc := 2) 0 rfl rfl uX2 (by decide) rfl fw_X2_22 rfl dX2_readPersonLine_52 ?_
      refine r_callVL (cc := 0) [] (am_X0_value q2.2) rfl rfl cf_X0_value mw_X2_78 (by decide) dX2_readPersonLine_55 rfl (Nat.le_of_ble_eq_true rfl) ⟨rfl, rfl⟩ (fun q3 => ?_)
      refine r_lstore_n_x dX2_readPersonLine_58 rfl (by decide) rfl ?_
      refine r_aload_n_1 dX2_readPersonLine_59 rfl ?_
      refine r_getr (t := 44) (cc := 2) 0 rfl rfl uX2 (by decide) rfl fw_X2_22 rfl dX2_readPersonLine_60 ?_
      refine r_dupa dX2_readPersonLine_63 ?_
      refine r_geti (cc := 0) 1 rfl rfl uX0 (by decide) rfl fw_X2_71 dX2_readPersonLine_64 ?_
      refine r_iconst dX2_readPersonLine_67 ki_1 ?_
      refine r_iadd dX2_readPersonLine_68 ?_
      refine r_puti (cc := 0) 1 tyX0 tyX0_ok nmX0 rfl (by decide +kernel) rfl rfl uX0 (by decide) rfl fw_X2_71 dX2_readPersonLine_69 ?_
      refine r_bd (fun d4 => ?_)
      refine r_iconst dX2_readPersonLine_72 ki_0 ?_
      refine r_istore_n_x dX2_readPersonLine_73 rfl (by decide) rfl ?_
      refine r_iconst dX2_readPersonLine_74 ki_0 ?_
      refine r_istore_w_x dX2_readPersonLine_75 (by decide) rfl ?_
      refine r_sub [3, 2, 1, 0] (lv' := [(0, .ref 49), (1, .long q3.1), (3, .int (0 : Int32)), (4, .int (0 : Int32))]) rfl ?_
      exact w_X2_readPersonLine_77 FU q3.1 (0 : Int32) (0 : Int32) d4
    · refine r_iconst dX2_readPersonLine_49 ki_0 ?_
      exact r_zreturn dX2_readPersonLine_50 rfl rfl
  · refine r_aload_n_0 dX2_readPersonLine_11 rfl ?_
    refine r_getr (t := 44) (cc := 2) 0 rfl rfl uX2 (by decide) rfl fw_X2_22 rfl dX2_readPersonLine_12 ?_
    refine r_iconst dX2_readPersonLine_15 ki_4 ?_
    refine r_callVI (cc := 0) [] (am_X0_refuse (4 : Int32) d) rfl rfl cf_X0_refuse mw_X2_57 (by decide) dX2_readPersonLine_16 rfl (Nat.le_of_ble_eq_true rfl) ⟨rfl, rfl⟩ (fun q14 => ?_)
    refine r_popi dX2_readPersonLine_19 ?_
    refine r_iconst dX2_readPersonLine_20 ki_0 ?_
    exact r_zreturn dX2_readPersonLine_21 rfl rfl
theorem cf_X2_readPersonLine : CFv mi_X2_readPersonLine 0 := ⟨iw_X2_readPersonLine, vw_X2_readPersonLine, nw_X2, cw_X2_readPersonLine, by unfold plainF; decide +kernel⟩
abbrev si_X2_readNewHour : SI := (cX2_readNewHour, RX2, 5, (some .int), 3, 65)
def f_X2_readNewHour (p1 : Nat) (p2 : Int32) (d : DD) : Option (Int32 × DD) :=
  (f_X0_readNumber (0 : Int32) (29 : Int32) d).bind fun q1 =>
  if q1.1 = (-1 : Int32) then
  some ((-1 : Int32), q1.2)
  else
  (f_X9_at p1 p2 q1.2).bind fun q2 =>
    if ((iushr q2.1 q1.1) &&& (1 : Int32)) = (1 : Int32) then
    bd (u1 q2.2 44 1 ((q2.2.1 44 1) - (1 : Int32))) fun d4 =>
      (f_X0_refuse (3 : Int32) d4).bind fun q5 =>
      some (q5.1, q5.2)
    else
    (f_X9_put p1 p2 (q2.1 ||| ((1 : Int32) <<< (q1.1 &&& 31))) q2.2).bind fun q3 =>
      some (q1.1, q3.2)
set_option maxRecDepth 100000 in
set_option maxHeartbeats 4000000 in
theorem am_X2_readNewHour (p1 : Nat) (hp1 : kd p1 = 0) (p2 : Int32) (d : DD) : AM wrI mi_X2_readNewHour 3 65 [.ref 49, .ref p1, .int p2] d (f_X2_readNewHour p1 p2 d) := by
  refine AM_intro (si := si_X2_readNewHour) (lv := [(0, .ref 49), (1, .ref p1), (2, .int p2)]) rfl (by decide +kernel) rfl (Nat.le_of_ble_eq_true rfl) (fun E => ?_)
  unfold f_X2_readNewHour
  refine r_aload_n_0 dX2_readNewHour_0 rfl ?_
  refine r_getr (t := 44) (cc := 2) 0 rfl rfl uX2 (by decide) rfl fw_X2_22 rfl dX2_readNewHour_1 ?_
  refine r_iconst dX2_readNewHour_4 ki_0 ?_
  refine r_bipush dX2_readNewHour_5 kb_29 ?_
  refine r_callVI (cc := 0) [] (am_X0_readNumber (0 : Int32) (29 : Int32) d) rfl rfl cf_X0_readNumber mw_X2_82 (by decide) dX2_readNewHour_7 rfl (Nat.le_of_ble_eq_true rfl) ⟨rfl, rfl⟩ (fun q1 => ?_)
  refine r_istore_n_x dX2_readNewHour_10 rfl (by decide) rfl ?_
  refine r_iload_n_0 dX2_readNewHour_11 rfl ?_
  refine r_iconst dX2_readNewHour_12 ki_m1 ?_
  refine r_icmp_ne (tgt := 18) dX2_readNewHour_13 (by decide) ?_ ?_
  · refine r_aload_n_2 dX2_readNewHour_18 rfl ?_
    refine r_iload_n_3 dX2_readNewHour_19 rfl ?_
    refine r_callSNI [] (am_X9_at p1 hp1 p2 q1.2) cf_X9_at wn_X2_139 (by decide) dX2_readNewHour_20 rfl (Nat.le_of_ble_eq_true rfl) ⟨rfl, rfl⟩ (fun q2 => ?_)
    refine r_istore_w_x dX2_readNewHour_23 (by decide) rfl ?_
    refine r_iload_w_0 dX2_readNewHour_25 ?_
    refine r_iload_n_1 dX2_readNewHour_27 rfl ?_
    refine r_iushr dX2_readNewHour_28 ?_
    refine r_iconst dX2_readNewHour_29 ki_1 ?_
    refine r_iand dX2_readNewHour_30 ?_
    refine r_iconst dX2_readNewHour_31 ki_1 ?_
    refine r_icmp_ne (tgt := 57) dX2_readNewHour_32 (by decide) ?_ ?_
    · refine r_aload_n_3 dX2_readNewHour_57 rfl ?_
      refine r_iload_n_4 dX2_readNewHour_58 rfl ?_
      refine r_iload_w_0 dX2_readNewHour_59 ?_
      refine r_iconst dX2_readNewHour_61 ki_1 ?_
      refine r_iload_n_1 dX2_readNewHour_62 rfl ?_
      refine r_ishl dX2_readNewHour_63 ?_
      refine r_ior dX2_readNewHour_64 ?_
      refine r_callSNU [] (am_X9_put p1 hp1 p2 (q2.1 ||| ((1 : Int32) <<< (q1.1 &&& 31))) q2.2) cf_X9_put wn_X2_97 (by decide) dX2_readNewHour_65 rfl (Nat.le_of_ble_eq_true rfl) ⟨rfl, rfl⟩ (fun q3 => ?_)
      refine r_iload_n_1 dX2_readNewHour_68 rfl ?_
      exact r_ireturn dX2_readNewHour_69 rfl
    · refine r_aload_n_2 dX2_readNewHour_35 rfl ?_
      refine r_getr (t := 44) (cc := 2) 0 rfl rfl uX2 (by decide) rfl fw_X2_22 rfl dX2_readNewHour_36 ?_
      refine r_dupa dX2_readNewHour_39 ?_
      refine r_geti (cc := 0) 1 rfl rfl uX0 (by decide) rfl fw_X2_71 dX2_readNewHour_40 ?_
      refine r_iconst dX2_readNewHour_43 ki_1 ?_
      refine r_isub dX2_readNewHour_44 ?_
      refine r_puti (cc := 0) 1 tyX0 tyX0_ok nmX0 rfl (by decide +kernel) rfl rfl uX0 (by decide) rfl fw_X2_71 dX2_readNewHour_45 ?_
      refine r_bd (fun d4 => ?_)
      refine r_aload_n_2 dX2_readNewHour_48 rfl ?_
      refine r_getr (t := 44) (cc := 2) 0 rfl rfl uX2 (by decide) rfl fw_X2_22 rfl dX2_readNewHour_49 ?_
      refine r_iconst dX2_readNewHour_52 ki_3 ?_
      refine r_callVI (cc := 0) [] (am_X0_refuse (3 : Int32) d4) rfl rfl cf_X0_refuse mw_X2_57 (by decide) dX2_readNewHour_53 rfl (Nat.le_of_ble_eq_true rfl) ⟨rfl, rfl⟩ (fun q5 => ?_)
      exact r_ireturn dX2_readNewHour_56 rfl
  · refine r_iconst dX2_readNewHour_16 ki_m1 ?_
    exact r_ireturn dX2_readNewHour_17 rfl
theorem cf_X2_readNewHour : CFv mi_X2_readNewHour 2 := ⟨iw_X2_readNewHour, vw_X2_readNewHour, nw_X2, cw_X2_readNewHour, by unfold plainF; decide +kernel⟩
abbrev si_X2_readLooksLine : SI := (cX2_readLooksLine, RX2, 2, (some .boolean), 4, 89)
def f_X2_readLooksLine (d : DD) : Option (Int32 × DD) :=
  bd (u1 d 44 1 ((d.1 44 1) + (1 : Int32))) fun d1 =>
  (f_X0_readPerson 50 d1).bind fun q2 =>
  if q2.1 = (-1 : Int32) then
  some ((0 : Int32), q2.2)
  else
  (f_X2_readNewHour 57 q2.1 q2.2).bind fun q3 =>
    if q3.1 = (-1 : Int32) then
    some ((0 : Int32), q3.2)
    else
    some ((1 : Int32), q3.2)
set_option maxRecDepth 100000 in
set_option maxHeartbeats 4000000 in
theorem am_X2_readLooksLine (d : DD) : AM wrI mi_X2_readLooksLine 4 89 [.ref 49] d (f_X2_readLooksLine d) := by
  refine AM_intro (si := si_X2_readLooksLine) (lv := [(0, .ref 49)]) rfl (by decide +kernel) rfl (Nat.le_of_ble_eq_true rfl) (fun E => ?_)
  unfold f_X2_readLooksLine
  refine r_aload_n_0 dX2_readLooksLine_0 rfl ?_
  refine r_getr (t := 44) (cc := 2) 0 rfl rfl uX2 (by decide) rfl fw_X2_22 rfl dX2_readLooksLine_1 ?_
  refine r_dupa dX2_readLooksLine_4 ?_
  refine r_geti (cc := 0) 1 rfl rfl uX0 (by decide) rfl fw_X2_71 dX2_readLooksLine_5 ?_
  refine r_iconst dX2_readLooksLine_8 ki_1 ?_
  refine r_iadd dX2_readLooksLine_9 ?_
  refine r_puti (cc := 0) 1 tyX0 tyX0_ok nmX0 rfl (by decide +kernel) rfl rfl uX0 (by decide) rfl fw_X2_71 dX2_readLooksLine_10 ?_
  refine r_bd (fun d1 => ?_)
  refine r_aload_n_0 dX2_readLooksLine_13 rfl ?_
  refine r_getr (t := 44) (cc := 2) 0 rfl rfl uX2 (by decide) rfl fw_X2_22 rfl dX2_readLooksLine_14 ?_
  refine r_aload_n_0 dX2_readLooksLine_17 rfl ?_
  refine r_getr (t := 50) (cc := 2) 1 rfl rfl uX2 (by decide) rfl fw_X2_12 rfl dX2_readLooksLine_18 ?_
  refine r_callVI (cc := 0) [] (am_X0_readPerson 50 rfl d1) rfl rfl cf_X0_readPerson mw_X2_129 (by decide) dX2_readLooksLine_21 rfl (Nat.le_of_ble_eq_true rfl) ⟨rfl, rfl⟩ (fun q2 => ?_)
  refine r_istore_n_x dX2_readLooksLine_24 rfl (by decide) rfl ?_
  refine r_iload_n_0 dX2_readLooksLine_25 rfl ?_
  refine r_iconst dX2_readLooksLine_26 ki_m1 ?_
  refine r_icmp_eq (tgt := 50) dX2_readLooksLine_27 (by decide) ?_ ?_
  · refine r_iconst dX2_readLooksLine_50 ki_0 ?_
    exact r_zreturn dX2_readLooksLine_51 rfl rfl
  · refine r_aload_n_1 dX2_readLooksLine_30 rfl ?_
    refine r_aload_n_1 dX2_readLooksLine_31 rfl ?_
    refine r_getr (t := 50) (cc := 2) 1 rfl rfl uX2 (by decide) rfl fw_X2_12 rfl dX2_readLooksLine_32 ?_
    refine r_getr (t := 57) (cc := 1) 8 rfl rfl uX1 (by decide) rfl fw_X2_132 rfl dX2_readLooksLine_35 ?_
    refine r_iload_n_0 dX2_readLooksLine_38 rfl ?_
    refine r_callVI (cc := 2) [] (am_X2_readNewHour 57 rfl q2.1 q2.2) rfl rfl cf_X2_readNewHour mw_X2_135 (by decide) dX2_readLooksLine_39 rfl (Nat.le_of_ble_eq_true rfl) ⟨rfl, rfl⟩ (fun q3 => ?_)
    refine r_iconst dX2_readLooksLine_42 ki_m1 ?_
    refine r_icmp_eq (tgt := 50) dX2_readLooksLine_43 (by decide) ?_ ?_
    · refine r_iconst dX2_readLooksLine_50 ki_0 ?_
      exact r_zreturn dX2_readLooksLine_51 rfl rfl
    · refine r_iconst dX2_readLooksLine_46 ki_1 ?_
      refine r_goto (tgt := 51) dX2_readLooksLine_47 (by decide) ?_
      exact r_zreturn dX2_readLooksLine_51 rfl rfl
theorem cf_X2_readLooksLine : CFv mi_X2_readLooksLine 0 := ⟨iw_X2_readLooksLine, vw_X2_readLooksLine, nw_X2, cw_X2_readLooksLine, by unfold plainF; decide +kernel⟩
abbrev si_X2_readTurnLine : SI := (cX2_readTurnLine, RX2, 3, (some .boolean), 4, 88)
def f_X2_readTurnLine (d : DD) : Option (Int32 × DD) :=
  bd (u1 d 44 1 ((d.1 44 1) + (1 : Int32))) fun d1 =>
  (f_X0_readNumber (0 : Int32) (29 : Int32) d1).bind fun q2 =>
  if q2.1 = (-1 : Int32) then
  some ((0 : Int32), q2.2)
  else
  (f_X9_at 59 q2.1 q2.2).bind fun q3 =>
    if q3.1 = (-1 : Int32) then
    (f_X0_readPerson 50 q3.2).bind fun q4 =>
      (f_X9_put 59 q2.1 q4.1 q4.2).bind fun q5 =>
      if q4.1 = (-1 : Int32) then
      some ((0 : Int32), q5.2)
      else
      some ((1 : Int32), q5.2)
    else
    bd (u1 q3.2 44 1 ((q3.2.1 44 1) - (1 : Int32))) fun d6 =>
      (f_X0_refuse (3 : Int32) d6).bind fun q7 =>
      some ((0 : Int32), q7.2)
set_option maxRecDepth 100000 in
set_option maxHeartbeats 4000000 in
theorem am_X2_readTurnLine (d : DD) : AM wrI mi_X2_readTurnLine 4 88 [.ref 49] d (f_X2_readTurnLine d) := by
  refine AM_intro (si := si_X2_readTurnLine) (lv := [(0, .ref 49)]) rfl (by decide +kernel) rfl (Nat.le_of_ble_eq_true rfl) (fun E => ?_)
  unfold f_X2_readTurnLine
  refine r_aload_n_0 dX2_readTurnLine_0 rfl ?_
  refine r_getr (t := 44) (cc := 2) 0 rfl rfl uX2 (by decide) rfl fw_X2_22 rfl dX2_readTurnLine_1 ?_
  refine r_dupa dX2_readTurnLine_4 ?_
  refine r_geti (cc := 0) 1 rfl rfl uX0 (by decide) rfl fw_X2_71 dX2_readTurnLine_5 ?_
  refine r_iconst dX2_readTurnLine_8 ki_1 ?_
  refine r_iadd dX2_readTurnLine_9 ?_
  refine r_puti (cc := 0) 1 tyX0 tyX0_ok nmX0 rfl (by decide +kernel) rfl rfl uX0 (by decide) rfl fw_X2_71 dX2_readTurnLine_10 ?_
  refine r_bd (fun d1 => ?_)
  refine r_aload_n_0 dX2_readTurnLine_13 rfl ?_
  refine r_getr (t := 44) (cc := 2) 0 rfl rfl uX2 (by decide) rfl fw_X2_22 rfl dX2_readTurnLine_14 ?_
  refine r_iconst dX2_readTurnLine_17 ki_0 ?_
  refine r_bipush dX2_readTurnLine_18 kb_29 ?_
  refine r_callVI (cc := 0) [] (am_X0_readNumber (0 : Int32) (29 : Int32) d1) rfl rfl cf_X0_readNumber mw_X2_82 (by decide) dX2_readTurnLine_20 rfl (Nat.le_of_ble_eq_true rfl) ⟨rfl, rfl⟩ (fun q2 => ?_)
  refine r_istore_n_x dX2_readTurnLine_23 rfl (by decide) rfl ?_
  refine r_iload_n_0 dX2_readTurnLine_24 rfl ?_
  refine r_iconst dX2_readTurnLine_25 ki_m1 ?_
  refine r_icmp_ne (tgt := 31) dX2_readTurnLine_26 (by decide) ?_ ?_
  · refine r_aload_n_1 dX2_readTurnLine_31 rfl ?_
    refine r_getr (t := 50) (cc := 2) 1 rfl rfl uX2 (by decide) rfl fw_X2_12 rfl dX2_readTurnLine_32 ?_
    refine r_getr (t := 59) (cc := 1) 10 rfl rfl uX1 (by decide) rfl fw_X2_142 rfl dX2_readTurnLine_35 ?_
    refine r_iload_n_0 dX2_readTurnLine_38 rfl ?_
    refine r_callSNI [] (am_X9_at 59 rfl q2.1 q2.2) cf_X9_at wn_X2_139 (by decide) dX2_readTurnLine_39 rfl (Nat.le_of_ble_eq_true rfl) ⟨rfl, rfl⟩ (fun q3 => ?_)
    refine r_iconst dX2_readTurnLine_42 ki_m1 ?_
    refine r_icmp_eq (tgt := 70) dX2_readTurnLine_43 (by decide) ?_ ?_
    · refine r_aload_n_1 dX2_readTurnLine_70 rfl ?_
      refine r_getr (t := 44) (cc := 2) 0 rfl rfl uX2 (by decide) rfl fw_X2_22 rfl dX2_readTurnLine_71 ?_
      refine r_aload_n_1 dX2_readTurnLine_74 rfl ?_
      refine r_getr (t := 50) (cc := 2) 1 rfl rfl uX2 (by decide) rfl fw_X2_12 rfl dX2_readTurnLine_75 ?_
      refine r_callVI (cc := 0) [] (am_X0_readPerson 50 rfl q3.2) rfl rfl cf_X0_readPerson mw_X2_129 (by decide) dX2_readTurnLine_78 rfl (Nat.le_of_ble_eq_true rfl) ⟨rfl, rfl⟩ (fun q4 => ?_)
      refine r_istore_n_x dX2_readTurnLine_81 rfl (by decide) rfl ?_
      refine r_aload_n_2 dX2_readTurnLine_82 rfl ?_
      refine r_getr (t := 50) (cc := 2) 1 rfl rfl uX2 (by decide) rfl fw_X2_12 rfl dX2_readTurnLine_83 ?_
      refine r_getr (t := 59) (cc := 1) 10 rfl rfl uX1 (by decide) rfl fw_X2_142 rfl dX2_readTurnLine_86 ?_
      refine r_iload_n_1 dX2_readTurnLine_89 rfl ?_
      refine r_iload_n_0 dX2_readTurnLine_90 rfl ?_
      refine r_callSNU [] (am_X9_put 59 rfl q2.1 q4.1 q4.2) cf_X9_put wn_X2_97 (by decide) dX2_readTurnLine_91 rfl (Nat.le_of_ble_eq_true rfl) ⟨rfl, rfl⟩ (fun q5 => ?_)
      refine r_iload_n_0 dX2_readTurnLine_94 rfl ?_
      refine r_iconst dX2_readTurnLine_95 ki_m1 ?_
      refine r_icmp_eq (tgt := 103) dX2_readTurnLine_96 (by decide) ?_ ?_
      · refine r_iconst dX2_readTurnLine_103 ki_0 ?_
        exact r_zreturn dX2_readTurnLine_104 rfl rfl
      · refine r_iconst dX2_readTurnLine_99 ki_1 ?_
        refine r_goto (tgt := 104) dX2_readTurnLine_100 (by decide) ?_
        exact r_zreturn dX2_readTurnLine_104 rfl rfl
    · refine r_aload_n_1 dX2_readTurnLine_46 rfl ?_
      refine r_getr (t := 44) (cc := 2) 0 rfl rfl uX2 (by decide) rfl fw_X2_22 rfl dX2_readTurnLine_47 ?_
      refine r_dupa dX2_readTurnLine_50 ?_
      refine r_geti (cc := 0) 1 rfl rfl uX0 (by decide) rfl fw_X2_71 dX2_readTurnLine_51 ?_
      refine r_iconst dX2_readTurnLine_54 ki_1 ?_
      refine r_isub dX2_readTurnLine_55 ?_
      refine r_puti (cc := 0) 1 tyX0 tyX0_ok nmX0 rfl (by decide +kernel) rfl rfl uX0 (by decide) rfl fw_X2_71 dX2_readTurnLine_56 ?_
      refine r_bd (fun d6 => ?_)
      refine r_aload_n_1 dX2_readTurnLine_59 rfl ?_
      refine r_getr (t := 44) (cc := 2) 0 rfl rfl uX2 (by decide) rfl fw_X2_22 rfl dX2_readTurnLine_60 ?_
      refine r_iconst dX2_readTurnLine_63 ki_3 ?_
      refine r_callVI (cc := 0) [] (am_X0_refuse (3 : Int32) d6) rfl rfl cf_X0_refuse mw_X2_57 (by decide) dX2_readTurnLine_64 rfl (Nat.le_of_ble_eq_true rfl) ⟨rfl, rfl⟩ (fun q7 => ?_)
      refine r_popi dX2_readTurnLine_67 ?_
      refine r_iconst dX2_readTurnLine_68 ki_0 ?_
      exact r_zreturn dX2_readTurnLine_69 rfl rfl
  · refine r_iconst dX2_readTurnLine_29 ki_0 ?_
    exact r_zreturn dX2_readTurnLine_30 rfl rfl
theorem cf_X2_readTurnLine : CFv mi_X2_readTurnLine 0 := ⟨iw_X2_readTurnLine, vw_X2_readTurnLine, nw_X2, cw_X2_readTurnLine, by unfold plainF; decide +kernel⟩
abbrev si_X2_readWantsLine : SI := (cX2_readWantsLine, RX2, 4, (some .boolean), 4, 89)
def f_X2_readWantsLine_63 (v1 : Int32) (v2 : Int32) (t0 : Int32) (d : DD) : Option (Int32 × DD) :=
  if t0 = (-1 : Int32) then
  some ((0 : Int32), d)
  else
  (f_X9_put 58 ((v1 * (30 : Int32)) + v2) t0 d).bind fun q5 =>
    some ((1 : Int32), q5.2)
set_option maxRecDepth 100000 in
set_option maxHeartbeats 4000000 in
theorem w_X2_readWantsLine_63 {E : XE} (v1 : Int32) (v2 : Int32) (t0 : Int32) (d : DD) : AW E si_X2_readWantsLine 0 0 (QM E wrI) (f_X2_readWantsLine_63 v1 v2 t0 d) 63 [(0, .ref 49), (1, .int v1), (2, .int v2)] [.int t0] d := by
  unfold f_X2_readWantsLine_63
  refine r_istore_n_x dX2_readWantsLine_63 rfl (by decide) rfl ?_
  refine r_iload_n_0 dX2_readWantsLine_64 rfl ?_
  refine r_iconst dX2_readWantsLine_65 ki_m1 ?_
  refine r_icmp_ne (tgt := 71) dX2_readWantsLine_66 (by decide) ?_ ?_
  · refine r_aload_n_1 dX2_readWantsLine_71 rfl ?_
    refine r_getr (t := 50) (cc := 2) 1 rfl rfl uX2 (by decide) rfl fw_X2_12 rfl dX2_readWantsLine_72 ?_
    refine r_getr (t := 58) (cc := 1) 9 rfl rfl uX1 (by decide) rfl fw_X2_145 rfl dX2_readWantsLine_75 ?_
    refine r_iload_n_2 dX2_readWantsLine_78 rfl ?_
    refine r_bipush dX2_readWantsLine_79 kb_30 ?_
    refine r_imul dX2_readWantsLine_81 ?_
    refine r_iload_n_3 dX2_readWantsLine_82 rfl ?_
    refine r_iadd dX2_readWantsLine_83 ?_
    refine r_iload_n_0 dX2_readWantsLine_84 rfl ?_
    refine r_callSNU [] (am_X9_put 58 rfl ((v1 * (30 : Int32)) + v2) t0 d) cf_X9_put wn_X2_97 (by decide) dX2_readWantsLine_85 rfl (Nat.le_of_ble_eq_true rfl) ⟨rfl, rfl⟩ (fun q5 => ?_)
    refine r_iconst dX2_readWantsLine_88 ki_1 ?_
    exact r_zreturn dX2_readWantsLine_89 rfl rfl
  · refine r_iconst dX2_readWantsLine_69 ki_0 ?_
    exact r_zreturn dX2_readWantsLine_70 rfl rfl
def f_X2_readWantsLine_43 (v1 : Int32) (t0 : Int32) (d : DD) : Option (Int32 × DD) :=
  if t0 = (-1 : Int32) then
  f_X2_readWantsLine_63 v1 t0 (-1 : Int32) d
  else
  (f_X0_readNumber (0 : Int32) (99 : Int32) d).bind fun q4 =>
    f_X2_readWantsLine_63 v1 t0 q4.1 q4.2
set_option maxRecDepth 100000 in
set_option maxHeartbeats 4000000 in
theorem w_X2_readWantsLine_43 {E : XE} (v1 : Int32) (t0 : Int32) (d : DD) : AW E si_X2_readWantsLine 0 0 (QM E wrI) (f_X2_readWantsLine_43 v1 t0 d) 43 [(0, .ref 49), (1, .int v1)] [.int t0] d := by
  unfold f_X2_readWantsLine_43
  refine r_istore_n_x dX2_readWantsLine_43 rfl (by decide) rfl ?_
  refine r_iload_n_0 dX2_readWantsLine_44 rfl ?_
  refine r_iconst dX2_readWantsLine_45 ki_m1 ?_
  refine r_icmp_ne (tgt := 53) dX2_readWantsLine_46 (by decide) ?_ ?_
  · refine r_aload_n_1 dX2_readWantsLine_53 rfl ?_
    refine r_getr (t := 44) (cc := 2) 0 rfl rfl uX2 (by decide) rfl fw_X2_22 rfl dX2_readWantsLine_54 ?_
    refine r_iconst dX2_readWantsLine_57 ki_0 ?_
    refine r_bipush dX2_readWantsLine_58 kb_99 ?_
    refine r_callVI (cc := 0) [] (am_X0_readNumber (0 : Int32) (99 : Int32) d) rfl rfl cf_X0_readNumber mw_X2_82 (by decide) dX2_readWantsLine_60 rfl (Nat.le_of_ble_eq_true rfl) ⟨rfl, rfl⟩ (fun q4 => ?_)
    refine r_sub [1, 2, 0] (lv' := [(0, .ref 49), (1, .int v1), (2, .int t0)]) rfl ?_
    exact w_X2_readWantsLine_63 v1 t0 q4.1 q4.2
  · refine r_iconst dX2_readWantsLine_49 ki_m1 ?_
    refine r_goto (tgt := 63) dX2_readWantsLine_50 (by decide) ?_
    refine r_sub [1, 2, 0] (lv' := [(0, .ref 49), (1, .int v1), (2, .int t0)]) rfl ?_
    exact w_X2_readWantsLine_63 v1 t0 (-1 : Int32) d
def f_X2_readWantsLine (d : DD) : Option (Int32 × DD) :=
  bd (u1 d 44 1 ((d.1 44 1) + (1 : Int32))) fun d1 =>
  (f_X0_readPerson 50 d1).bind fun q2 =>
  if q2.1 = (-1 : Int32) then
  f_X2_readWantsLine_43 q2.1 (-1 : Int32) q2.2
  else
  (f_X2_readNewHour 64 q2.1 q2.2).bind fun q3 =>
    f_X2_readWantsLine_43 q2.1 q3.1 q3.2
set_option maxRecDepth 100000 in
set_option maxHeartbeats 4000000 in
theorem am_X2_readWantsLine (d : DD) : AM wrI mi_X2_readWantsLine 4 89 [.ref 49] d (f_X2_readWantsLine d) := by
  refine AM_intro (si := si_X2_readWantsLine) (lv := [(0, .ref 49)]) rfl (by decide +kernel) rfl (Nat.le_of_ble_eq_true rfl) (fun E => ?_)
  unfold f_X2_readWantsLine
  refine r_aload_n_0 dX2_readWantsLine_0 rfl ?_
  refine r_getr (t := 44) (cc := 2) 0 rfl rfl uX2 (by decide) rfl fw_X2_22 rfl dX2_readWantsLine_1 ?_
  refine r_dupa dX2_readWantsLine_4 ?_
  refine r_geti (cc := 0) 1 rfl rfl uX0 (by decide) rfl fw_X2_71 dX2_readWantsLine_5 ?_
  refine r_iconst dX2_readWantsLine_8 ki_1 ?_
  refine r_iadd dX2_readWantsLine_9 ?_
  refine r_puti (cc := 0) 1 tyX0 tyX0_ok nmX0 rfl (by decide +kernel) rfl rfl uX0 (by decide) rfl fw_X2_71 dX2_readWantsLine_10 ?_
  refine r_bd (fun d1 => ?_)
  refine r_aload_n_0 dX2_readWantsLine_13 rfl ?_
  refine r_getr (t := 44) (cc := 2) 0 rfl rfl uX2 (by decide) rfl fw_X2_22 rfl dX2_readWantsLine_14 ?_
  refine r_aload_n_0 dX2_readWantsLine_17 rfl ?_
  refine r_getr (t := 50) (cc := 2) 1 rfl rfl uX2 (by decide) rfl fw_X2_12 rfl dX2_readWantsLine_18 ?_
  refine r_callVI (cc := 0) [] (am_X0_readPerson 50 rfl d1) rfl rfl cf_X0_readPerson mw_X2_129 (by decide) dX2_readWantsLine_21 rfl (Nat.le_of_ble_eq_true rfl) ⟨rfl, rfl⟩ (fun q2 => ?_)
  refine r_istore_n_x dX2_readWantsLine_24 rfl (by decide) rfl ?_
  refine r_iload_n_0 dX2_readWantsLine_25 rfl ?_
  refine r_iconst dX2_readWantsLine_26 ki_m1 ?_
  refine r_icmp_ne (tgt := 34) dX2_readWantsLine_27 (by decide) ?_ ?_
  · refine r_aload_n_1 dX2_readWantsLine_34 rfl ?_
    refine r_aload_n_1 dX2_readWantsLine_35 rfl ?_
    refine r_getr (t := 64) (cc := 2) 2 rfl rfl uX2 (by decide) rfl fw_X2_18 rfl dX2_readWantsLine_36 ?_
    refine r_iload_n_0 dX2_readWantsLine_39 rfl ?_
    refine r_callVI (cc := 2) [] (am_X2_readNewHour 64 rfl q2.1 q2.2) rfl rfl cf_X2_readNewHour mw_X2_135 (by decide) dX2_readWantsLine_40 rfl (Nat.le_of_ble_eq_true rfl) ⟨rfl, rfl⟩ (fun q3 => ?_)
    refine r_sub [1, 0] (lv' := [(0, .ref 49), (1, .int q2.1)]) rfl ?_
    exact w_X2_readWantsLine_43 q2.1 q3.1 q3.2
  · refine r_iconst dX2_readWantsLine_30 ki_m1 ?_
    refine r_goto (tgt := 43) dX2_readWantsLine_31 (by decide) ?_
    refine r_sub [1, 0] (lv' := [(0, .ref 49), (1, .int q2.1)]) rfl ?_
    exact w_X2_readWantsLine_43 q2.1 (-1 : Int32) q2.2
theorem cf_X2_readWantsLine : CFv mi_X2_readWantsLine 0 := ⟨iw_X2_readWantsLine, vw_X2_readWantsLine, nw_X2, cw_X2_readWantsLine, by unfold plainF; decide +kernel⟩
abbrev si_X2_readAll : SI := (cX2_readAll, RX2, 4, (some .int), 5, 115)
def f_X2_readAll_149 (k19 : Int32 → Int32 → DD → Option (Int32 × DD)) (v1 : Int32) (v2 : Int32) (v3 : Int32) (d : DD) : Option (Int32 × DD) :=
  if v3 = 0 then
  some ((-1 : Int32), d)
  else
  (f_X0_readSemicolon d).bind fun q6 =>
    if q6.1 = 0 then
    some ((-1 : Int32), q6.2)
    else
    k19 (v1 + (1 : Int32)) (v2 + (1 : Int32)) q6.2
set_option maxRecDepth 100000 in
set_option maxHeartbeats 4000000 in
theorem w_X2_readAll_149 {E : XE} (k19 : Int32 → Int32 → DD → Option (Int32 × DD)) (hk19 : ∀ (v1 : Int32) (v2 : Int32) (d : DD), AW E si_X2_readAll 0 0 (QM E wrI) (k19 v1 v2 d) 19 [(0, .ref 49), (1, .int v1), (2, .int v2)] [] d) (v1 : Int32) (v2 : Int32) (v3 : Int32) (d : DD) : AW E si_X2_readAll 0 0 (QM E wrI) (f_X2_readAll_149 k19 v1 v2 v3 d) 149 [(0, .ref 49), (1, .int v1), (2, .int v2), (3, .int v3)] [] d := by
  unfold f_X2_readAll_149
  refine r_iload_n_3 dX2_readAll_149 rfl ?_
  refine r_if_eq (tgt := 163) dX2_readAll_150 (by decide) ?_ ?_
  · refine r_iconst dX2_readAll_163 ki_m1 ?_
    exact r_ireturn dX2_readAll_164 rfl
  · refine r_aload_n_0 dX2_readAll_153 rfl ?_
    refine r_getr (t := 44) (cc := 2) 0 rfl rfl uX2 (by decide) rfl fw_X2_22 rfl dX2_readAll_154 ?_
    refine r_callVI (cc := 0) [] (am_X0_readSemicolon d) rfl rfl cf_X0_readSemicolon mw_X2_61 (by decide) dX2_readAll_157 rfl (Nat.le_of_ble_eq_true rfl) ⟨rfl, rfl⟩ (fun q6 => ?_)
    refine r_if_ne (tgt := 165) dX2_readAll_160 (by decide) ?_ ?_
    · refine r_iinc_1 dX2_readAll_165 ki_1 (by decide) rfl ?_
      refine r_iinc_2 dX2_readAll_168 ki_1 (by decide) rfl ?_
      refine r_goto (tgt := 19) dX2_readAll_171 (by decide) ?_
      refine r_sub [0, 1, 2] (lv' := [(0, .ref 49), (1, .int (v1 + (1 : Int32))), (2, .int (v2 + (1 : Int32)))]) rfl ?_
      exact hk19 (v1 + (1 : Int32)) (v2 + (1 : Int32)) q6.2
    · refine r_iconst dX2_readAll_163 ki_m1 ?_
      exact r_ireturn dX2_readAll_164 rfl
def f_X2_readAll_19B (k19 : Int32 → Int32 → DD → Option (Int32 × DD)) (v1 : Int32) (v2 : Int32) (d : DD) : Option (Int32 × DD) :=
  if v2 < (940 : Int32) then
  (f_X0_sort d).bind fun q3 =>
    if q3.1 = 0 then
    some (v1, q3.2)
    else
    (f_X0_sort q3.2).bind fun q4 =>
      if q4.1 = (5 : Int32) then
      (f_X2_readKindLine q4.2).bind fun q5 =>
        f_X2_readAll_149 k19 v1 v2 q5.1 q5.2
      else if q4.1 = (6 : Int32) then
      (f_X0_refuse (1 : Int32) q4.2).bind fun q7 =>
        f_X2_readAll_149 k19 v1 v2 (0 : Int32) q7.2
      else if q4.1 = (7 : Int32) then
      (f_X2_readPersonLine q4.2).bind fun q8 =>
        f_X2_readAll_149 k19 v1 v2 q8.1 q8.2
      else if q4.1 = (8 : Int32) then
      (f_X0_refuse (1 : Int32) q4.2).bind fun q9 =>
        f_X2_readAll_149 k19 v1 v2 (0 : Int32) q9.2
      else if q4.1 = (9 : Int32) then
      (f_X0_refuse (1 : Int32) q4.2).bind fun q10 =>
        f_X2_readAll_149 k19 v1 v2 (0 : Int32) q10.2
      else if q4.1 = (10 : Int32) then
      (f_X0_refuse (1 : Int32) q4.2).bind fun q11 =>
        f_X2_readAll_149 k19 v1 v2 (0 : Int32) q11.2
      else if q4.1 = (11 : Int32) then
      (f_X0_refuse (1 : Int32) q4.2).bind fun q12 =>
        f_X2_readAll_149 k19 v1 v2 (0 : Int32) q12.2
      else if q4.1 = (12 : Int32) then
      (f_X2_readLooksLine q4.2).bind fun q13 =>
        f_X2_readAll_149 k19 v1 v2 q13.1 q13.2
      else if q4.1 = (13 : Int32) then
      (f_X2_readTurnLine q4.2).bind fun q14 =>
        f_X2_readAll_149 k19 v1 v2 q14.1 q14.2
      else if q4.1 = (14 : Int32) then
      (f_X2_readWantsLine q4.2).bind fun q15 =>
        f_X2_readAll_149 k19 v1 v2 q15.1 q15.2
      else 
      (f_X0_refuse (1 : Int32) q4.2).bind fun q16 =>
        f_X2_readAll_149 k19 v1 v2 (0 : Int32) q16.2
  else
  some (v1, d)
def f_X2_readAll_19 : Nat → Int32 → Int32 → DD → Option (Int32 × DD)
  | 0, _, _, _ => none
  | n + 1, v1, v2, d => f_X2_readAll_19B (f_X2_readAll_19 n) v1 v2 d
set_option maxRecDepth 100000 in
set_option maxHeartbeats 4000000 in
theorem w_X2_readAll_19B {E : XE} (k19 : Int32 → Int32 → DD → Option (Int32 × DD)) (hk19 : ∀ (v1 : Int32) (v2 : Int32) (d : DD), AW E si_X2_readAll 0 0 (QM E wrI) (k19 v1 v2 d) 19 [(0, .ref 49), (1, .int v1), (2, .int v2)] [] d) (v1 : Int32) (v2 : Int32) (d : DD) : AW E si_X2_readAll 0 0 (QM E wrI) (f_X2_readAll_19B k19 v1 v2 d) 19 [(0, .ref 49), (1, .int v1), (2, .int v2)] [] d := by
  unfold f_X2_readAll_19B
  refine r_iload_n_2 dX2_readAll_19 rfl ?_
  refine r_sipush dX2_readAll_20 ks_940 ?_
  refine r_icmp_ge (tgt := 174) dX2_readAll_23 (by decide) ?_ ?_
  · refine r_iload_n_1 dX2_readAll_174 rfl ?_
    exact r_ireturn dX2_readAll_175 rfl
  · refine r_aload_n_0 dX2_readAll_26 rfl ?_
    refine r_getr (t := 44) (cc := 2) 0 rfl rfl uX2 (by decide) rfl fw_X2_22 rfl dX2_readAll_27 ?_
    refine r_callVI (cc := 0) [] (am_X0_sort d) rfl rfl cf_X0_sort mw_X2_35 (by decide) dX2_readAll_30 rfl (Nat.le_of_ble_eq_true rfl) ⟨rfl, rfl⟩ (fun q3 => ?_)
    refine r_if_eq (tgt := 174) dX2_readAll_33 (by decide) ?_ ?_
    · refine r_iload_n_1 dX2_readAll_174 rfl ?_
      exact r_ireturn dX2_readAll_175 rfl
    · refine r_iconst dX2_readAll_36 ki_0 ?_
      refine r_istore_n_x dX2_readAll_37 rfl (by decide) rfl ?_
      refine r_aload_n_1 dX2_readAll_38 rfl ?_
      refine r_getr (t := 44) (cc := 2) 0 rfl rfl uX2 (by decide) rfl fw_X2_22 rfl dX2_readAll_39 ?_
      refine r_callVI (cc := 0) [] (am_X0_sort q3.2) rfl rfl cf_X0_sort mw_X2_35 (by decide) dX2_readAll_42 rfl (Nat.le_of_ble_eq_true rfl) ⟨rfl, rfl⟩ (fun q4 => ?_)
      refine r_if (fun q => r_tsw (tgt := 100) dX2_readAll_45 q (by decide) (by decide) rfl (by decide) ?_) (fun q5 => ?_)
      · refine r_aload_n_1 dX2_readAll_100 rfl ?_
        refine r_callVI (cc := 2) [] (am_X2_readKindLine q4.2) rfl rfl cf_X2_readKindLine mw_X2_41 (by decide) dX2_readAll_101 rfl (Nat.le_of_ble_eq_true rfl) ⟨rfl, rfl⟩ (fun q5 => ?_)
        refine r_istore_n_0 dX2_readAll_104 rfl (by decide) rfl ?_
        refine r_goto (tgt := 149) dX2_readAll_105 (by decide) ?_
        refine r_sub [1, 2, 3, 0] (lv' := [(0, .ref 49), (1, .int v1), (2, .int v2), (3, .int q5.1)]) rfl ?_
        exact w_X2_readAll_149 k19 hk19 v1 v2 q5.1 q5.2
      · refine r_if (fun q => r_tsw (tgt := 140) dX2_readAll_45 q (by decide) (by decide) rfl (by decide) ?_) (fun q6 => ?_)
        · refine r_aload_n_1 dX2_readAll_140 rfl ?_
          refine r_getr (t := 44) (cc := 2) 0 rfl rfl uX2 (by decide) rfl fw_X2_22 rfl dX2_readAll_141 ?_
          refine r_iconst dX2_readAll_144 ki_1 ?_
          refine r_callVI (cc := 0) [] (am_X0_refuse (1 : Int32) q4.2) rfl rfl cf_X0_refuse mw_X2_57 (by decide) dX2_readAll_145 rfl (Nat.le_of_ble_eq_true rfl) ⟨rfl, rfl⟩ (fun q7 => ?_)
          refine r_popi dX2_readAll_148 ?_
          refine r_sub [1, 2, 3, 0] (lv' := [(0, .ref 49), (1, .int v1), (2, .int v2), (3, .int (0 : Int32))]) rfl ?_
          exact w_X2_readAll_149 k19 hk19 v1 v2 (0 : Int32) q7.2
        · refine r_if (fun q => r_tsw (tgt := 108) dX2_readAll_45 q (by decide) (by decide) rfl (by decide) ?_) (fun q7 => ?_)
          · refine r_aload_n_1 dX2_readAll_108 rfl ?_
            refine r_callVI (cc := 2) [] (am_X2_readPersonLine q4.2) rfl rfl cf_X2_readPersonLine mw_X2_45 (by decide) dX2_readAll_109 rfl (Nat.le_of_ble_eq_true rfl) ⟨rfl, rfl⟩ (fun q8 => ?_)
            refine r_istore_n_0 dX2_readAll_112 rfl (by decide) rfl ?_
            refine r_goto (tgt := 149) dX2_readAll_113 (by decide) ?_
            refine r_sub [1, 2, 3, 0] (lv' := [(0, .ref 49), (1, .int v1), (2, .int v2), (3, .int q8.1)]) rfl ?_
            exact w_X2_readAll_149 k19 hk19 v1 v2 q8.1 q8.2
          · refine r_if (fun q => r_tsw (tgt := 140) dX2_readAll_45 q (by decide) (by decide) rfl (by decide) ?_) (fun q8 => ?_)
            · refine r_aload_n_1 dX2_readAll_140 rfl ?_
              refine r_getr (t := 44) (cc := 2) 0 rfl rfl uX2 (by decide) rfl fw_X2_22 rfl dX2_readAll_141 ?_
              refine r_iconst dX2_readAll_144 ki_1 ?_
              refine r_callVI (cc := 0) [] (am_X0_refuse (1 : Int32) q4.2) rfl rfl cf_X0_refuse mw_X2_57 (by decide) dX2_readAll_145 rfl (Nat.le_of_ble_eq_true rfl) ⟨rfl, rfl⟩ (fun q9 => ?_)
              refine r_popi dX2_readAll_148 ?_
              refine r_sub [1, 2, 3, 0] (lv' := [(0, .ref 49), (1, .int v1), (2, .int v2), (3, .int (0 : Int32))]) rfl ?_
              exact w_X2_readAll_149 k19 hk19 v1 v2 (0 : Int32) q9.2
            · refine r_if (fun q => r_tsw (tgt := 140) dX2_readAll_45 q (by decide) (by decide) rfl (by decide) ?_) (fun q9 => ?_)
              · refine r_aload_n_1 dX2_readAll_140 rfl ?_
                refine r_getr (t := 44) (cc := 2) 0 rfl rfl uX2 (by decide) rfl fw_X2_22 rfl dX2_readAll_141 ?_
                refine r_iconst dX2_readAll_144 ki_1 ?_
                refine r_callVI (cc := 0) [] (am_X0_refuse (1 : Int32) q4.2) rfl rfl cf_X0_refuse mw_X2_57 (by decide) dX2_readAll_145 rfl (Nat.le_of_ble_eq_true rfl) ⟨rfl, rfl⟩ (fun q10 => ?_)
                refine r_popi dX2_readAll_148 ?_
                refine r_sub [1, 2, 3, 0] (lv' := [(0, .ref 49), (1, .int v1), (2, .int v2), (3, .int (0 : Int32))]) rfl ?_
                exact w_X2_readAll_149 k19 hk19 v1 v2 (0 : Int32) q10.2
              · refine r_if (fun q => r_tsw (tgt := 140) dX2_readAll_45 q (by decide) (by decide) rfl (by decide) ?_) (fun q10 => ?_)
                · refine r_aload_n_1 dX2_readAll_140 rfl ?_
                  refine r_getr (t := 44) (cc := 2) 0 rfl rfl uX2 (by decide) rfl fw_X2_22 rfl dX2_readAll_141 ?_
                  refine r_iconst dX2_readAll_144 ki_1 ?_
                  refine r_callVI (cc := 0) [] (am_X0_refuse (1 : Int32) q4.2) rfl rfl cf_X0_refuse mw_X2_57 (by decide) dX2_readAll_145 rfl (Nat.le_of_ble_eq_true rfl) ⟨rfl, rfl⟩ (fun q11 => ?_)
                  refine r_popi dX2_readAll_148 ?_
                  refine r_sub [1, 2, 3, 0] (lv' := [(0, .ref 49), (1, .int v1), (2, .int v2), (3, .int (0 : Int32))]) rfl ?_
                  exact w_X2_readAll_149 k19 hk19 v1 v2 (0 : Int32) q11.2
                · refine r_if (fun q => r_tsw (tgt := 140) dX2_readAll_45 q (by decide) (by decide) rfl (by decide) ?_) (fun q11 => ?_)
                  · refine r_aload_n_1 dX2_readAll_140 rfl ?_
                    refine r_getr (t := 44) (cc := 2) 0 rfl rfl uX2 (by decide) rfl fw_X2_22 rfl dX2_readAll_141 ?_
                    refine r_iconst dX2_readAll_144 ki_1 ?_
                    refine r_callVI (cc := 0) [] (am_X0_refuse (1 : Int32) q4.2) rfl rfl cf_X0_refuse mw_X2_57 (by decide) dX2_readAll_145 rfl (Nat.le_of_ble_eq_true rfl) ⟨rfl, rfl⟩ (fun q12 => ?_)
                    refine r_popi dX2_readAll_148 ?_
                    refine r_sub [1, 2, 3, 0] (lv' := [(0, .ref 49), (1, .int v1), (2, .int v2), (3, .int (0 : Int32))]) rfl ?_
                    exact w_X2_readAll_149 k19 hk19 v1 v2 (0 : Int32) q12.2
                  · refine r_if (fun q => r_tsw (tgt := 116) dX2_readAll_45 q (by decide) (by decide) rfl (by decide) ?_) (fun q12 => ?_)
                    · refine r_aload_n_1 dX2_readAll_116 rfl ?_
                      refine r_callVI (cc := 2) [] (am_X2_readLooksLine q4.2) rfl rfl cf_X2_readLooksLine mw_X2_48 (by decide) dX2_readAll_117 rfl (Nat.le_of_ble_eq_true rfl) ⟨rfl, rfl⟩ (fun q13 => ?_)
                      refine r_istore_n_0 dX2_readAll_120 rfl (by decide) rfl ?_
                      refine r_goto (tgt := 149) dX2_readAll_121 (by decide) ?_
                      refine r_sub [1, 2, 3, 0] (lv' := [(0, .ref 49), (1, .int v1), (2, .int v2), (3, .int q13.1)]) rfl ?_
                      exact w_X2_readAll_149 k19 hk19 v1 v2 q13.1 q13.2
                    · refine r_if (fun q => r_tsw (tgt := 124) dX2_readAll_45 q (by decide) (by decide) rfl (by decide) ?_) (fun q13 => ?_)
                      · refine r_aload_n_1 dX2_readAll_124 rfl ?_
                        refine r_callVI (cc := 2) [] (am_X2_readTurnLine q4.2) rfl rfl cf_X2_readTurnLine mw_X2_51 (by decide) dX2_readAll_125 rfl (Nat.le_of_ble_eq_true rfl) ⟨rfl, rfl⟩ (fun q14 => ?_)
                        refine r_istore_n_0 dX2_readAll_128 rfl (by decide) rfl ?_
                        refine r_goto (tgt := 149) dX2_readAll_129 (by decide) ?_
                        refine r_sub [1, 2, 3, 0] (lv' := [(0, .ref 49), (1, .int v1), (2, .int v2), (3, .int q14.1)]) rfl ?_
                        exact w_X2_readAll_149 k19 hk19 v1 v2 q14.1 q14.2
                      · refine r_if (fun q => r_tsw (tgt := 132) dX2_readAll_45 q (by decide) (by decide) rfl (by decide) ?_) (fun q14 => ?_)
                        · refine r_aload_n_1 dX2_readAll_132 rfl ?_
                          refine r_callVI (cc := 2) [] (am_X2_readWantsLine q4.2) rfl rfl cf_X2_readWantsLine mw_X2_54 (by decide) dX2_readAll_133 rfl (Nat.le_of_ble_eq_true rfl) ⟨rfl, rfl⟩ (fun q15 => ?_)
                          refine r_istore_n_0 dX2_readAll_136 rfl (by decide) rfl ?_
                          refine r_goto (tgt := 149) dX2_readAll_137 (by decide) ?_
                          refine r_sub [1, 2, 3, 0] (lv' := [(0, .ref 49), (1, .int v1), (2, .int v2), (3, .int q15.1)]) rfl ?_
                          exact w_X2_readAll_149 k19 hk19 v1 v2 q15.1 q15.2
                        · have tq : (q4.1).toInt < 5 ∨ 14 < (q4.1).toInt := by
                            have z5 := lv_neT (a := 5) q5 (by decide)
                            have z6 := lv_neT (a := 6) q6 (by decide)
                            have z7 := lv_neT (a := 7) q7 (by decide)
                            have z8 := lv_neT (a := 8) q8 (by decide)
                            have z9 := lv_neT (a := 9) q9 (by decide)
                            have z10 := lv_neT (a := 10) q10 (by decide)
                            have z11 := lv_neT (a := 11) q11 (by decide)
                            have z12 := lv_neT (a := 12) q12 (by decide)
                            have z13 := lv_neT (a := 13) q13 (by decide)
                            have z14 := lv_neT (a := 14) q14 (by decide)
                            omega
                          refine r_tswO (tgt := 140) dX2_readAll_45 tq (by decide) ?_
                          refine r_aload_n_1 dX2_readAll_140 rfl ?_
                          refine r_getr (t := 44) (cc := 2) 0 rfl rfl uX2 (by decide) rfl fw_X2_22 rfl dX2_readAll_141 ?_
                          refine r_iconst dX2_readAll_144 ki_1 ?_
                          refine r_callVI (cc := 0) [] (am_X0_refuse (1 : Int32) q4.2) rfl rfl cf_X0_refuse mw_X2_57 (by decide) dX2_readAll_145 rfl (Nat.le_of_ble_eq_true rfl) ⟨rfl, rfl⟩ (fun q16 => ?_)
                          refine r_popi dX2_readAll_148 ?_
                          refine r_sub [1, 2, 3, 0] (lv' := [(0, .ref 49), (1, .int v1), (2, .int v2), (3, .int (0 : Int32))]) rfl ?_
                          exact w_X2_readAll_149 k19 hk19 v1 v2 (0 : Int32) q16.2
theorem w_X2_readAll_19 {E : XE} (n : Nat) : ∀ (v1 : Int32) (v2 : Int32) (d : DD), AW E si_X2_readAll 0 0 (QM E wrI) (f_X2_readAll_19 n v1 v2 d) 19 [(0, .ref 49), (1, .int v1), (2, .int v2)] [] d := by
  induction n with
  | zero => intros; exact r_none
  | succ n ih => intro v1 v2 d; exact w_X2_readAll_19B (f_X2_readAll_19 n) ih v1 v2 d
def f_X2_readAll (d : DD) : Option (Int32 × DD) :=
  (f_X1_clear 50 d).bind fun q1 =>
  (f_J7_fill_53178 64 (0 : Int32) q1.2).bind fun q2 =>
  f_X2_readAll_19 FU (0 : Int32) (0 : Int32) q2.2
set_option maxRecDepth 100000 in
set_option maxHeartbeats 4000000 in
theorem am_X2_readAll (d : DD) : AM wrI mi_X2_readAll 5 115 [.ref 49] d (f_X2_readAll d) := by
  refine AM_intro (si := si_X2_readAll) (lv := [(0, .ref 49)]) rfl (by decide +kernel) rfl (Nat.le_of_ble_eq_true rfl) (fun E => ?_)
  unfold f_X2_readAll
  refine r_aload_n_0 dX2_readAll_0 rfl ?_
  refine r_getr (t := 50) (cc := 2) 1 rfl rfl uX2 (by decide) rfl fw_X2_12 rfl dX2_readAll_1 ?_
  refine r_callVU (cc := 1) [] (am_X1_clear 50 rfl d) rfl rfl cf_X1_clear mw_X2_26 (by decide) dX2_readAll_4 rfl (Nat.le_of_ble_eq_true rfl) ⟨rfl, rfl⟩ (fun q1 => ?_)
  refine r_aload_n_0 dX2_readAll_7 rfl ?_
  refine r_getr (t := 64) (cc := 2) 2 rfl rfl uX2 (by decide) rfl fw_X2_18 rfl dX2_readAll_8 ?_
  refine r_iconst dX2_readAll_11 ki_0 ?_
  refine r_callSU [] (am_J7_fill_53178 64 rfl (0 : Int32) q1.2) cf_J7_fill_53178 mw_X2_29 (by decide) dX2_readAll_12 rfl (Nat.le_of_ble_eq_true rfl) ⟨rfl, rfl⟩ (fun q2 => ?_)
  refine r_iconst dX2_readAll_15 ki_0 ?_
  refine r_istore_n_x dX2_readAll_16 rfl (by decide) rfl ?_
  refine r_iconst dX2_readAll_17 ki_0 ?_
  refine r_istore_n_x dX2_readAll_18 rfl (by decide) rfl ?_
  refine r_sub [2, 1, 0] (lv' := [(0, .ref 49), (1, .int (0 : Int32)), (2, .int (0 : Int32))]) rfl ?_
  exact w_X2_readAll_19 FU (0 : Int32) (0 : Int32) q2.2
theorem cf_X2_readAll : CFv mi_X2_readAll 0 := ⟨iw_X2_readAll, vw_X2_readAll, nw_X2, cw_X2_readAll, by unfold plainF; decide +kernel⟩
abbrev si_X3_readLine : SI := (cX3_readLine, RX3, 8, (some .boolean), 4, 88)
def f_X3_readLine_96B (p1 : Nat) (k96 : Int32 → Int32 → Int32 → Int32 → Int32 → DD → Option (Int32 × DD)) (v2 : Int32) (v4 : Int32) (v5 : Int32) (v6 : Int32) (v7 : Int32) (d : DD) : Option (Int32 × DD) :=
  if v7 < (30 : Int32) then
  if v4 < v6 then
    some ((1 : Int32), d)
    else
    (f_X9_at 71 v6 d).bind fun q6 =>
      if q6.1 = (-1 : Int32) then
      (f_X9_put 71 v6 v2 q6.2).bind fun q8 =>
        bd (v6 + v5) fun x9 =>
        k96 v2 v4 v5 x9 (v7 + (1 : Int32)) q8.2
      else
      bd (v6 + v5) fun x7 =>
        k96 v2 v4 v5 x7 (v7 + (1 : Int32)) q6.2
  else
  some ((1 : Int32), d)
def f_X3_readLine_96 (p1 : Nat) : Nat → Int32 → Int32 → Int32 → Int32 → Int32 → DD → Option (Int32 × DD)
  | 0, _, _, _, _, _, _ => none
  | n + 1, v2, v4, v5, v6, v7, d => f_X3_readLine_96B p1 (f_X3_readLine_96 p1 n) v2 v4 v5 v6 v7 d
set_option maxRecDepth 100000 in
set_option maxHeartbeats 4000000 in
theorem w_X3_readLine_96B {E : XE} (p1 : Nat) (hp1 : kd p1 = 5) (k96 : Int32 → Int32 → Int32 → Int32 → Int32 → DD → Option (Int32 × DD)) (hk96 : ∀ (v2 : Int32) (v4 : Int32) (v5 : Int32) (v6 : Int32) (v7 : Int32) (d : DD), AW E si_X3_readLine 0 0 (QM E wrI) (k96 v2 v4 v5 v6 v7 d) 96 [(0, .ref 70), (2, .int v2), (4, .int v4), (5, .int v5), (6, .int v6), (7, .int v7)] [] d) (v2 : Int32) (v4 : Int32) (v5 : Int32) (v6 : Int32) (v7 : Int32) (d : DD) : AW E si_X3_readLine 0 0 (QM E wrI) (f_X3_readLine_96B p1 k96 v2 v4 v5 v6 v7 d) 96 [(0, .ref 70), (2, .int v2), (4, .int v4), (5, .int v5), (6, .int v6), (7, .int v7)] [] d := by
  unfold f_X3_readLine_96B
  refine r_iload_w_5 dX3_readLine_96 ?_
  refine r_bipush dX3_readLine_98 kb_30 ?_
  refine r_icmp_ge (tgt := 146) dX3_readLine_100 (by decide) ?_ ?_
  · refine r_iconst dX3_readLine_146 ki_1 ?_
    exact r_zreturn dX3_readLine_147 rfl rfl
  · refine r_iload_w_4 dX3_readLine_103 ?_
    refine r_iload_w_2 dX3_readLine_105 ?_
    refine r_icmp_gt (tgt := 146) dX3_readLine_107 (by decide) ?_ ?_
    · refine r_iconst dX3_readLine_146 ki_1 ?_
      exact r_zreturn dX3_readLine_147 rfl rfl
    · refine r_aload_n_0 dX3_readLine_110 rfl ?_
      refine r_getr (t := 71) (cc := 3) 1 rfl rfl uX3 (by decide) rfl fw_X3_9 rfl dX3_readLine_111 ?_
      refine r_iload_w_4 dX3_readLine_114 ?_
      refine r_callSNI [] (am_X9_at 71 rfl v6 d) cf_X9_at wn_X3_47 (by decide) dX3_readLine_116 rfl (Nat.le_of_ble_eq_true rfl) ⟨rfl, rfl⟩ (fun q6 => ?_)
      refine r_iconst dX3_readLine_119 ki_m1 ?_
      refine r_icmp_ne (tgt := 133) dX3_readLine_120 (by decide) ?_ ?_
      · refine r_iload_w_4 dX3_readLine_133 ?_
        refine r_iload_w_3 dX3_readLine_135 ?_
        refine r_iadd dX3_readLine_137 ?_
        refine r_bdI (fun x7 => ?_)
        refine r_istore_w_4 dX3_readLine_138 (by decide) rfl ?_
        refine r_iinc_5 dX3_readLine_140 ki_1 (by decide) rfl ?_
        refine r_goto (tgt := 96) dX3_readLine_143 (by decide) ?_
        exact hk96 v2 v4 v5 x7 (v7 + (1 : Int32)) q6.2
      · refine r_aload_n_0 dX3_readLine_123 rfl ?_
        refine r_getr (t := 71) (cc := 3) 1 rfl rfl uX3 (by decide) rfl fw_X3_9 rfl dX3_readLine_124 ?_
        refine r_iload_w_4 dX3_readLine_127 ?_
        refine r_iload_n_1 dX3_readLine_129 rfl ?_
        refine r_callSNU [] (am_X9_put 71 rfl v6 v2 q6.2) cf_X9_put wn_X3_51 (by decide) dX3_readLine_130 rfl (Nat.le_of_ble_eq_true rfl) ⟨rfl, rfl⟩ (fun q8 => ?_)
        refine r_iload_w_4 dX3_readLine_133 ?_
        refine r_iload_w_3 dX3_readLine_135 ?_
        refine r_iadd dX3_readLine_137 ?_
        refine r_bdI (fun x9 => ?_)
        refine r_istore_w_4 dX3_readLine_138 (by decide) rfl ?_
        refine r_iinc_5 dX3_readLine_140 ki_1 (by decide) rfl ?_
        refine r_goto (tgt := 96) dX3_readLine_143 (by decide) ?_
        exact hk96 v2 v4 v5 x9 (v7 + (1 : Int32)) q8.2
theorem w_X3_readLine_96 {E : XE} (p1 : Nat) (hp1 : kd p1 = 5) (n : Nat) : ∀ (v2 : Int32) (v4 : Int32) (v5 : Int32) (v6 : Int32) (v7 : Int32) (d : DD), AW E si_X3_readLine 0 0 (QM E wrI) (f_X3_readLine_96 p1 n v2 v4 v5 v6 v7 d) 96 [(0, .ref 70), (2, .int v2), (4, .int v4), (5, .int v5), (6, .int v6), (7, .int v7)] [] d := by
  induction n with
  | zero => intros; exact r_none
  | succ n ih => intro v2 v4 v5 v6 v7 d; exact w_X3_readLine_96B p1 hp1 (f_X3_readLine_96 p1 n) ih v2 v4 v5 v6 v7 d
def f_X3_readLine_70 (p1 : Nat) (v2 : Int32) (v3 : Int32) (v4 : Int32) (t0 : Int32) (d : DD) : Option (Int32 × DD) :=
  if t0 = (-1 : Int32) then
  some ((0 : Int32), d)
  else
  (f_X0_readSemicolon d).bind fun q5 =>
    if q5.1 = 0 then
    some ((0 : Int32), q5.2)
    else
    f_X3_readLine_96 p1 FU v2 v4 t0 v3 (0 : Int32) q5.2
set_option maxRecDepth 100000 in
set_option maxHeartbeats 4000000 in
theorem w_X3_readLine_70 {E : XE} (p1 : Nat) (hp1 : kd p1 = 5) (v2 : Int32) (v3 : Int32) (v4 : Int32) (t0 : Int32) (d : DD) : AW E si_X3_readLine 0 0 (QM E wrI) (f_X3_readLine_70 p1 v2 v3 v4 t0 d) 70 [(0, .ref 70), (2, .int v2), (3, .int v3), (4, .int v4)] [.int t0] d := by
  unfold f_X3_readLine_70
  refine r_istore_w_x dX3_readLine_70 (by decide) rfl ?_
  refine r_iload_w_0 dX3_readLine_72 ?_
  refine r_iconst dX3_readLine_74 ki_m1 ?_
  refine r_icmp_eq (tgt := 88) dX3_readLine_75 (by decide) ?_ ?_
  · refine r_iconst dX3_readLine_88 ki_0 ?_
    exact r_zreturn dX3_readLine_89 rfl rfl
  · refine r_aload_n_1 dX3_readLine_78 rfl ?_
    refine r_getr (t := 44) (cc := 3) 0 rfl rfl uX3 (by decide) rfl fw_X3_15 rfl dX3_readLine_79 ?_
    refine r_callVI (cc := 0) [] (am_X0_readSemicolon d) rfl rfl cf_X0_readSemicolon mw_X3_43 (by decide) dX3_readLine_82 rfl (Nat.le_of_ble_eq_true rfl) ⟨rfl, rfl⟩ (fun q5 => ?_)
    refine r_if_ne (tgt := 90) dX3_readLine_85 (by decide) ?_ ?_
    · refine r_iload_n_3 dX3_readLine_90 rfl ?_
      refine r_istore_w_x dX3_readLine_91 (by decide) rfl ?_
      refine r_iconst dX3_readLine_93 ki_0 ?_
      refine r_istore_w_x dX3_readLine_94 (by decide) rfl ?_
      refine r_sub [3, 4, 6, 2, 1, 0] (lv' := [(0, .ref 70), (2, .int v2), (4, .int v4), (5, .int t0), (6, .int v3), (7, .int (0 : Int32))]) rfl ?_
      exact w_X3_readLine_96 p1 hp1 FU v2 v4 t0 v3 (0 : Int32) q5.2
    · refine r_iconst dX3_readLine_88 ki_0 ?_
      exact r_zreturn dX3_readLine_89 rfl rfl
def f_X3_readLine_48 (p1 : Nat) (v2 : Int32) (v3 : Int32) (t0 : Int32) (d : DD) : Option (Int32 × DD) :=
  if t0 = (-1 : Int32) then
  f_X3_readLine_70 p1 v2 v3 t0 (-1 : Int32) d
  else
  (f_X0_readNumber (1 : Int32) (30 : Int32) d).bind fun q4 =>
    f_X3_readLine_70 p1 v2 v3 t0 q4.1 q4.2
set_option maxRecDepth 100000 in
set_option maxHeartbeats 4000000 in
theorem w_X3_readLine_48 {E : XE} (p1 : Nat) (hp1 : kd p1 = 5) (v2 : Int32) (v3 : Int32) (t0 : Int32) (d : DD) : AW E si_X3_readLine 0 0 (QM E wrI) (f_X3_readLine_48 p1 v2 v3 t0 d) 48 [(0, .ref 70), (2, .int v2), (3, .int v3)] [.int t0] d := by
  unfold f_X3_readLine_48
  refine r_istore_w_x dX3_readLine_48 (by decide) rfl ?_
  refine r_iload_w_0 dX3_readLine_50 ?_
  refine r_iconst dX3_readLine_52 ki_m1 ?_
  refine r_icmp_ne (tgt := 60) dX3_readLine_53 (by decide) ?_ ?_
  · refine r_aload_n_1 dX3_readLine_60 rfl ?_
    refine r_getr (t := 44) (cc := 3) 0 rfl rfl uX3 (by decide) rfl fw_X3_15 rfl dX3_readLine_61 ?_
    refine r_iconst dX3_readLine_64 ki_1 ?_
    refine r_bipush dX3_readLine_65 kb_30 ?_
    refine r_callVI (cc := 0) [] (am_X0_readNumber (1 : Int32) (30 : Int32) d) rfl rfl cf_X0_readNumber mw_X3_39 (by decide) dX3_readLine_67 rfl (Nat.le_of_ble_eq_true rfl) ⟨rfl, rfl⟩ (fun q4 => ?_)
    refine r_sub [1, 2, 3, 0] (lv' := [(0, .ref 70), (2, .int v2), (3, .int v3), (4, .int t0)]) rfl ?_
    exact w_X3_readLine_70 p1 hp1 v2 v3 t0 q4.1 q4.2
  · refine r_iconst dX3_readLine_56 ki_m1 ?_
    refine r_goto (tgt := 70) dX3_readLine_57 (by decide) ?_
    refine r_sub [1, 2, 3, 0] (lv' := [(0, .ref 70), (2, .int v2), (3, .int v3), (4, .int t0)]) rfl ?_
    exact w_X3_readLine_70 p1 hp1 v2 v3 t0 (-1 : Int32) d
def f_X3_readLine_28 (p1 : Nat) (v2 : Int32) (t0 : Int32) (d : DD) : Option (Int32 × DD) :=
  if t0 = (-1 : Int32) then
  f_X3_readLine_48 p1 v2 t0 (-1 : Int32) d
  else
  (f_X0_readNumber t0 (29 : Int32) d).bind fun q3 =>
    f_X3_readLine_48 p1 v2 t0 q3.1 q3.2
set_option maxRecDepth 100000 in
set_option maxHeartbeats 4000000 in
theorem w_X3_readLine_28 {E : XE} (p1 : Nat) (hp1 : kd p1 = 5) (v2 : Int32) (t0 : Int32) (d : DD) : AW E si_X3_readLine 0 0 (QM E wrI) (f_X3_readLine_28 p1 v2 t0 d) 28 [(0, .ref 70), (2, .int v2)] [.int t0] d := by
  unfold f_X3_readLine_28
  refine r_istore_n_x dX3_readLine_28 rfl (by decide) rfl ?_
  refine r_iload_n_0 dX3_readLine_29 rfl ?_
  refine r_iconst dX3_readLine_30 ki_m1 ?_
  refine r_icmp_ne (tgt := 38) dX3_readLine_31 (by decide) ?_ ?_
  · refine r_aload_n_1 dX3_readLine_38 rfl ?_
    refine r_getr (t := 44) (cc := 3) 0 rfl rfl uX3 (by decide) rfl fw_X3_15 rfl dX3_readLine_39 ?_
    refine r_iload_n_0 dX3_readLine_42 rfl ?_
    refine r_bipush dX3_readLine_43 kb_29 ?_
    refine r_callVI (cc := 0) [] (am_X0_readNumber t0 (29 : Int32) d) rfl rfl cf_X0_readNumber mw_X3_39 (by decide) dX3_readLine_45 rfl (Nat.le_of_ble_eq_true rfl) ⟨rfl, rfl⟩ (fun q3 => ?_)
    refine r_sub [1, 2, 0] (lv' := [(0, .ref 70), (2, .int v2), (3, .int t0)]) rfl ?_
    exact w_X3_readLine_48 p1 hp1 v2 t0 q3.1 q3.2
  · refine r_iconst dX3_readLine_34 ki_m1 ?_
    refine r_goto (tgt := 48) dX3_readLine_35 (by decide) ?_
    refine r_sub [1, 2, 0] (lv' := [(0, .ref 70), (2, .int v2), (3, .int t0)]) rfl ?_
    exact w_X3_readLine_48 p1 hp1 v2 t0 (-1 : Int32) d
def f_X3_readLine (p1 : Nat) (d : DD) : Option (Int32 × DD) :=
  (f_X0_readPerson p1 d).bind fun q1 =>
  if q1.1 = (-1 : Int32) then
  f_X3_readLine_28 p1 q1.1 (-1 : Int32) q1.2
  else
  (f_X0_readNumber (0 : Int32) (29 : Int32) q1.2).bind fun q2 =>
    f_X3_readLine_28 p1 q1.1 q2.1 q2.2
set_option maxRecDepth 100000 in
set_option maxHeartbeats 4000000 in
theorem am_X3_readLine (p1 : Nat) (hp1 : kd p1 = 5) (d : DD) : AM wrI mi_X3_readLine 4 88 [.ref 70, .ref p1] d (f_X3_readLine p1 d) := by
  refine AM_intro (si := si_X3_readLine) (lv := [(0, .ref 70), (1, .ref p1)]) rfl (by decide +kernel) rfl (Nat.le_of_ble_eq_true rfl) (fun E => ?_)
  unfold f_X3_readLine
  refine r_aload_n_0 dX3_readLine_0 rfl ?_
  refine r_getr (t := 44) (cc := 3) 0 rfl rfl uX3 (by decide) rfl fw_X3_15 rfl dX3_readLine_1 ?_
  refine r_aload_n_1 dX3_readLine_4 rfl ?_
  refine r_callVI (cc := 0) [] (am_X0_readPerson p1 hp1 d) rfl rfl cf_X0_readPerson mw_X3_35 (by decide) dX3_readLine_5 rfl (Nat.le_of_ble_eq_true rfl) ⟨rfl, rfl⟩ (fun q1 => ?_)
  refine r_istore_n_x dX3_readLine_8 rfl (by decide) rfl ?_
  refine r_iload_n_0 dX3_readLine_9 rfl ?_
  refine r_iconst dX3_readLine_10 ki_m1 ?_
  refine r_icmp_ne (tgt := 18) dX3_readLine_11 (by decide) ?_ ?_
  · refine r_aload_n_1 dX3_readLine_18 rfl ?_
    refine r_getr (t := 44) (cc := 3) 0 rfl rfl uX3 (by decide) rfl fw_X3_15 rfl dX3_readLine_19 ?_
    refine r_iconst dX3_readLine_22 ki_0 ?_
    refine r_bipush dX3_readLine_23 kb_29 ?_
    refine r_callVI (cc := 0) [] (am_X0_readNumber (0 : Int32) (29 : Int32) q1.2) rfl rfl cf_X0_readNumber mw_X3_39 (by decide) dX3_readLine_25 rfl (Nat.le_of_ble_eq_true rfl) ⟨rfl, rfl⟩ (fun q2 => ?_)
    refine r_sub [1, 0] (lv' := [(0, .ref 70), (2, .int q1.1)]) rfl ?_
    exact w_X3_readLine_28 p1 hp1 q1.1 q2.1 q2.2
  · refine r_iconst dX3_readLine_14 ki_m1 ?_
    refine r_goto (tgt := 28) dX3_readLine_15 (by decide) ?_
    refine r_sub [1, 0] (lv' := [(0, .ref 70), (2, .int q1.1)]) rfl ?_
    exact w_X3_readLine_28 p1 hp1 q1.1 (-1 : Int32) q1.2
theorem cf_X3_readLine : CFv mi_X3_readLine 1 := ⟨iw_X3_readLine, vw_X3_readLine, nw_X3, cw_X3_readLine, by unfold plainF; decide +kernel⟩
abbrev si_X3_readAll : SI := (cX3_readAll, RX3, 4, (some .int), 5, 115)
def f_X3_readAll_12B (p1 : Nat) (k12 : Int32 → Int32 → DD → Option (Int32 × DD)) (v2 : Int32) (v3 : Int32) (d : DD) : Option (Int32 × DD) :=
  if v3 < (940 : Int32) then
  (f_X0_sort d).bind fun q2 =>
    if q2.1 = 0 then
    some (v2, q2.2)
    else
    (f_X3_readLine p1 q2.2).bind fun q3 =>
      if q3.1 = 0 then
      some ((-1 : Int32), q3.2)
      else
      k12 (v2 + (1 : Int32)) (v3 + (1 : Int32)) q3.2
  else
  some (v2, d)
def f_X3_readAll_12 (p1 : Nat) : Nat → Int32 → Int32 → DD → Option (Int32 × DD)
  | 0, _, _, _ => none
  | n + 1, v2, v3, d => f_X3_readAll_12B p1 (f_X3_readAll_12 p1 n) v2 v3 d
set_option maxRecDepth 100000 in
set_option maxHeartbeats 4000000 in
theorem w_X3_readAll_12B {E : XE} (p1 : Nat) (hp1 : kd p1 = 5) (k12 : Int32 → Int32 → DD → Option (Int32 × DD)) (hk12 : ∀ (v2 : Int32) (v3 : Int32) (d : DD), AW E si_X3_readAll 0 0 (QM E wrI) (k12 v2 v3 d) 12 [(0, .ref 70), (1, .ref p1), (2, .int v2), (3, .int v3)] [] d) (v2 : Int32) (v3 : Int32) (d : DD) : AW E si_X3_readAll 0 0 (QM E wrI) (f_X3_readAll_12B p1 k12 v2 v3 d) 12 [(0, .ref 70), (1, .ref p1), (2, .int v2), (3, .int v3)] [] d := by
  unfold f_X3_readAll_12B
  refine r_iload_n_3 dX3_readAll_12 rfl ?_
  refine r_sipush dX3_readAll_13 ks_940 ?_
  refine r_icmp_ge (tgt := 48) dX3_readAll_16 (by decide) ?_ ?_
  · refine r_iload_n_2 dX3_readAll_48 rfl ?_
    exact r_ireturn dX3_readAll_49 rfl
  · refine r_aload_n_0 dX3_readAll_19 rfl ?_
    refine r_getr (t := 44) (cc := 3) 0 rfl rfl uX3 (by decide) rfl fw_X3_15 rfl dX3_readAll_20 ?_
    refine r_callVI (cc := 0) [] (am_X0_sort d) rfl rfl cf_X0_sort mw_X3_25 (by decide) dX3_readAll_23 rfl (Nat.le_of_ble_eq_true rfl) ⟨rfl, rfl⟩ (fun q2 => ?_)
    refine r_if_eq (tgt := 48) dX3_readAll_26 (by decide) ?_ ?_
    · refine r_iload_n_2 dX3_readAll_48 rfl ?_
      exact r_ireturn dX3_readAll_49 rfl
    · refine r_aload_n_0 dX3_readAll_29 rfl ?_
      refine r_aload_n_1 dX3_readAll_30 rfl ?_
      refine r_callVI (cc := 3) [] (am_X3_readLine p1 hp1 q2.2) rfl rfl cf_X3_readLine mw_X3_31 (by decide) dX3_readAll_31 rfl (Nat.le_of_ble_eq_true rfl) ⟨rfl, rfl⟩ (fun q3 => ?_)
      refine r_if_ne (tgt := 39) dX3_readAll_34 (by decide) ?_ ?_
      · refine r_iinc_2 dX3_readAll_39 ki_1 (by decide) rfl ?_
        refine r_iinc_3 dX3_readAll_42 ki_1 (by decide) rfl ?_
        refine r_goto (tgt := 12) dX3_readAll_45 (by decide) ?_
        exact hk12 (v2 + (1 : Int32)) (v3 + (1 : Int32)) q3.2
      · refine r_iconst dX3_readAll_37 ki_m1 ?_
        exact r_ireturn dX3_readAll_38 rfl
theorem w_X3_readAll_12 {E : XE} (p1 : Nat) (hp1 : kd p1 = 5) (n : Nat) : ∀ (v2 : Int32) (v3 : Int32) (d : DD), AW E si_X3_readAll 0 0 (QM E wrI) (f_X3_readAll_12 p1 n v2 v3 d) 12 [(0, .ref 70), (1, .ref p1), (2, .int v2), (3, .int v3)] [] d := by
  induction n with
  | zero => intros; exact r_none
  | succ n ih => intro v2 v3 d; exact w_X3_readAll_12B p1 hp1 (f_X3_readAll_12 p1 n) ih v2 v3 d
def f_X3_readAll (p1 : Nat) (d : DD) : Option (Int32 × DD) :=
  (f_J7_fill_53178 71 (-1 : Int32) d).bind fun q1 =>
  f_X3_readAll_12 p1 FU (0 : Int32) (0 : Int32) q1.2
set_option maxRecDepth 100000 in
set_option maxHeartbeats 4000000 in
theorem am_X3_readAll (p1 : Nat) (hp1 : kd p1 = 5) (d : DD) : AM wrI mi_X3_readAll 5 115 [.ref 70, .ref p1] d (f_X3_readAll p1 d) := by
  refine AM_intro (si := si_X3_readAll) (lv := [(0, .ref 70), (1, .ref p1)]) rfl (by decide +kernel) rfl (Nat.le_of_ble_eq_true rfl) (fun E => ?_)
  unfold f_X3_readAll
  refine r_aload_n_0 dX3_readAll_0 rfl ?_
  refine r_getr (t := 71) (cc := 3) 1 rfl rfl uX3 (by decide) rfl fw_X3_9 rfl dX3_readAll_1 ?_
  refine r_iconst dX3_readAll_4 ki_m1 ?_
  refine r_callSU [] (am_J7_fill_53178 71 rfl (-1 : Int32) d) cf_J7_fill_53178 mw_X3_19 (by decide) dX3_readAll_5 rfl (Nat.le_of_ble_eq_true rfl) ⟨rfl, rfl⟩ (fun q1 => ?_)
  refine r_iconst dX3_readAll_8 ki_0 ?_
  refine r_istore_n_x dX3_readAll_9 rfl (by decide) rfl ?_
  refine r_iconst dX3_readAll_10 ki_0 ?_
  refine r_istore_n_x dX3_readAll_11 rfl (by decide) rfl ?_
  refine r_sub [2, 3, 1, 0] (lv' := [(0, .ref 70), (1, .ref p1), (2, .int (0 : Int32)), (3, .int (0 : Int32))]) rfl ?_
  exact w_X3_readAll_12 p1 hp1 FU (0 : Int32) (0 : Int32) q1.2
theorem cf_X3_readAll : CFv mi_X3_readAll 1 := ⟨iw_X3_readAll, vw_X3_readAll, nw_X3, cw_X3_readAll, by unfold plainF; decide +kernel⟩
abbrev si_X4_noteHours : SI := (cX4_noteHours, RX4, 7, none, 1, 22)
def f_X4_noteHours_39B (k7 : Int32 → Int32 → Int32 → DD → Option (Unit × DD)) (k16 : Int32 → Int32 → Int32 → Int32 → DD → Option (Unit × DD)) (k39 : Int32 → Int32 → Int32 → Int32 → Int32 → Int32 → DD → Option (Unit × DD)) (v1 : Int32) (v2 : Int32) (v3 : Int32) (v4 : Int32) (v5 : Int32) (v6 : Int32) (d : DD) : Option (Unit × DD) :=
  if v6 < (30 : Int32) then
  bd (v5 ||| ((1 : Int32) <<< (v6 &&& 31))) fun x4 =>
    bd (v6 + v3) fun x5 =>
    k39 v1 v2 v3 v4 x4 x5 d
  else
  (f_X9_put 85 (d.1 83 4) v5 d).bind fun q2 =>
    bd (u1 q2.2 83 4 ((q2.2.1 83 4) + (1 : Int32))) fun d3 =>
    k16 v1 v2 v3 (v4 + (1 : Int32)) d3
def f_X4_noteHours_39 (k7 : Int32 → Int32 → Int32 → DD → Option (Unit × DD)) (k16 : Int32 → Int32 → Int32 → Int32 → DD → Option (Unit × DD)) : Nat → Int32 → Int32 → Int32 → Int32 → Int32 → Int32 → DD → Option (Unit × DD)
  | 0, _, _, _, _, _, _, _ => none
  | n + 1, v1, v2, v3, v4, v5, v6, d => f_X4_noteHours_39B k7 k16 (f_X4_noteHours_39 k7 k16 n) v1 v2 v3 v4 v5 v6 d
set_option maxRecDepth 100000 in
set_option maxHeartbeats 4000000 in
theorem w_X4_noteHours_39B {E : XE} (k7 : Int32 → Int32 → Int32 → DD → Option (Unit × DD)) (hk7 : ∀ (v1 : Int32) (v2 : Int32) (v3 : Int32) (d : DD), AW E si_X4_noteHours 0 0 (QM E wrU) (k7 v1 v2 v3 d) 7 [(0, .ref 83), (1, .int v1), (2, .int v2), (3, .int v3)] [] d) (k16 : Int32 → Int32 → Int32 → Int32 → DD → Option (Unit × DD)) (hk16 : ∀ (v1 : Int32) (v2 : Int32) (v3 : Int32) (v4 : Int32) (d : DD), AW E si_X4_noteHours 0 0 (QM E wrU) (k16 v1 v2 v3 v4 d) 16 [(0, .ref 83), (1, .int v1), (2, .int v2), (3, .int v3), (4, .int v4)] [] d) (k39 : Int32 → Int32 → Int32 → Int32 → Int32 → Int32 → DD → Option (Unit × DD)) (hk39 : ∀ (v1 : Int32) (v2 : Int32) (v3 : Int32) (v4 : Int32) (v5 : Int32) (v6 : Int32) (d : DD), AW E si_X4_noteHours 0 0 (QM E wrU) (k39 v1 v2 v3 v4 v5 v6 d) 39 [(0, .ref 83), (1, .int v1), (2, .int v2), (3, .int v3), (4, .int v4), (5, .int v5), (6, .int v6)] [] d) (v1 : Int32) (v2 : Int32) (v3 : Int32) (v4 : Int32) (v5 : Int32) (v6 : Int32) (d : DD) : AW E si_X4_noteHours 0 0 (QM E wrU) (f_X4_noteHours_39B k7 k16 k39 v1 v2 v3 v4 v5 v6 d) 39 [(0, .ref 83), (1, .int v1), (2, .int v2), (3, .int v3), (4, .int v4), (5, .int v5), (6, .int v6)] [] d := by
  unfold f_X4_noteHours_39B
  refine r_iload_w_6 dX4_noteHours_39 ?_
  refine r_bipush dX4_noteHours_41 kb_30 ?_
  refine r_icmp_ge (tgt := 64) dX4_noteHours_43 (by decide) ?_ ?_
  · refine r_aload_n_0 dX4_noteHours_64 rfl ?_
    refine r_getr (t := 85) (cc := 4) 5 rfl rfl uX4 (by decide) rfl fw_X4_28 rfl dX4_noteHours_65 ?_
    refine r_aload_n_0 dX4_noteHours_68 rfl ?_
    refine r_geti (cc := 4) 4 rfl rfl uX4 (by decide) rfl fw_X4_25 dX4_noteHours_69 ?_
    refine r_iload_w_5 dX4_noteHours_72 ?_
    refine r_callSNU [] (am_X9_put 85 rfl (d.1 83 4) v5 d) cf_X9_put wn_X4_67 (by decide) dX4_noteHours_74 rfl (Nat.le_of_ble_eq_true rfl) ⟨rfl, rfl⟩ (fun q2 => ?_)
    refine r_aload_n_0 dX4_noteHours_77 rfl ?_
    refine r_dupa dX4_noteHours_78 ?_
    refine r_geti (cc := 4) 4 rfl rfl uX4 (by decide) rfl fw_X4_25 dX4_noteHours_79 ?_
    refine r_iconst dX4_noteHours_82 ki_1 ?_
    refine r_iadd dX4_noteHours_83 ?_
    refine r_puti (cc := 4) 4 tyX4 tyX4_ok nmX4 rfl (by decide +kernel) rfl rfl uX4 (by decide) rfl fw_X4_25 dX4_noteHours_84 ?_
    refine r_bd (fun d3 => ?_)
    refine r_iinc_4 dX4_noteHours_87 ki_1 (by decide) rfl ?_
    refine r_goto (tgt := 16) dX4_noteHours_90 (by decide) ?_
    refine r_sub [0, 1, 2, 3, 4] (lv' := [(0, .ref 83), (1, .int v1), (2, .int v2), (3, .int v3), (4, .int (v4 + (1 : Int32)))]) rfl ?_
    exact hk16 v1 v2 v3 (v4 + (1 : Int32)) d3
  · refine r_iload_w_5 dX4_noteHours_46 ?_
    refine r_iconst dX4_noteHours_48 ki_1 ?_
    refine r_iload_w_6 dX4_noteHours_49 ?_
    refine r_ishl dX4_noteHours_51 ?_
    refine r_ior dX4_noteHours_52 ?_
    refine r_bdI (fun x4 => ?_)
    refine r_istore_w_5 dX4_noteHours_53 (by decide) rfl ?_
    refine r_iload_w_6 dX4_noteHours_55 ?_
    refine r_iload_n_3 dX4_noteHours_57 rfl ?_
    refine r_iadd dX4_noteHours_58 ?_
    refine r_bdI (fun x5 => ?_)
    refine r_istore_w_6 dX4_noteHours_59 (by decide) rfl ?_
    refine r_goto (tgt := 39) dX4_noteHours_61 (by decide) ?_
    exact hk39 v1 v2 v3 v4 x4 x5 d
theorem w_X4_noteHours_39 {E : XE} (k7 : Int32 → Int32 → Int32 → DD → Option (Unit × DD)) (hk7 : ∀ (v1 : Int32) (v2 : Int32) (v3 : Int32) (d : DD), AW E si_X4_noteHours 0 0 (QM E wrU) (k7 v1 v2 v3 d) 7 [(0, .ref 83), (1, .int v1), (2, .int v2), (3, .int v3)] [] d) (k16 : Int32 → Int32 → Int32 → Int32 → DD → Option (Unit × DD)) (hk16 : ∀ (v1 : Int32) (v2 : Int32) (v3 : Int32) (v4 : Int32) (d : DD), AW E si_X4_noteHours 0 0 (QM E wrU) (k16 v1 v2 v3 v4 d) 16 [(0, .ref 83), (1, .int v1), (2, .int v2), (3, .int v3), (4, .int v4)] [] d) (n : Nat) : ∀ (v1 : Int32) (v2 : Int32) (v3 : Int32) (v4 : Int32) (v5 : Int32) (v6 : Int32) (d : DD), AW E si_X4_noteHours 0 0 (QM E wrU) (f_X4_noteHours_39 k7 k16 n v1 v2 v3 v4 v5 v6 d) 39 [(0, .ref 83), (1, .int v1), (2, .int v2), (3, .int v3), (4, .int v4), (5, .int v5), (6, .int v6)] [] d := by
  induction n with
  | zero => intros; exact r_none
  | succ n ih => intro v1 v2 v3 v4 v5 v6 d; exact w_X4_noteHours_39B k7 hk7 k16 hk16 (f_X4_noteHours_39 k7 k16 n) ih v1 v2 v3 v4 v5 v6 d
def f_X4_noteHours_16B (k7 : Int32 → Int32 → Int32 → DD → Option (Unit × DD)) (k16 : Int32 → Int32 → Int32 → Int32 → DD → Option (Unit × DD)) (v1 : Int32) (v2 : Int32) (v3 : Int32) (v4 : Int32) (d : DD) : Option (Unit × DD) :=
  if v4 < v3 then
  if v3 < v1 then
    k7 v1 v2 (v3 + (1 : Int32)) d
    else
    if v2 < v3 then
      k7 v1 v2 (v3 + (1 : Int32)) d
      else
      f_X4_noteHours_39 k7 k16 FU v1 v2 v3 v4 (0 : Int32) v4 d
  else
  k7 v1 v2 (v3 + (1 : Int32)) d
def f_X4_noteHours_16 (k7 : Int32 → Int32 → Int32 → DD → Option (Unit × DD)) : Nat → Int32 → Int32 → Int32 → Int32 → DD → Option (Unit × DD)
  | 0, _, _, _, _, _ => none
  | n + 1, v1, v2, v3, v4, d => f_X4_noteHours_16B k7 (f_X4_noteHours_16 k7 n) v1 v2 v3 v4 d
set_option maxRecDepth 100000 in
set_option maxHeartbeats 4000000 in
theorem w_X4_noteHours_16B {E : XE} (k7 : Int32 → Int32 → Int32 → DD → Option (Unit × DD)) (hk7 : ∀ (v1 : Int32) (v2 : Int32) (v3 : Int32) (d : DD), AW E si_X4_noteHours 0 0 (QM E wrU) (k7 v1 v2 v3 d) 7 [(0, .ref 83), (1, .int v1), (2, .int v2), (3, .int v3)] [] d) (k16 : Int32 → Int32 → Int32 → Int32 → DD → Option (Unit × DD)) (hk16 : ∀ (v1 : Int32) (v2 : Int32) (v3 : Int32) (v4 : Int32) (d : DD), AW E si_X4_noteHours 0 0 (QM E wrU) (k16 v1 v2 v3 v4 d) 16 [(0, .ref 83), (1, .int v1), (2, .int v2), (3, .int v3), (4, .int v4)] [] d) (v1 : Int32) (v2 : Int32) (v3 : Int32) (v4 : Int32) (d : DD) : AW E si_X4_noteHours 0 0 (QM E wrU) (f_X4_noteHours_16B k7 k16 v1 v2 v3 v4 d) 16 [(0, .ref 83), (1, .int v1), (2, .int v2), (3, .int v3), (4, .int v4)] [] d := by
  unfold f_X4_noteHours_16B
  refine r_iload_w_4 dX4_noteHours_16 ?_
  refine r_iload_n_3 dX4_noteHours_18 rfl ?_
  refine r_icmp_ge (tgt := 93) dX4_noteHours_19 (by decide) ?_ ?_
  · refine r_iinc_3 dX4_noteHours_93 ki_1 (by decide) rfl ?_
    refine r_goto (tgt := 7) dX4_noteHours_96 (by decide) ?_
    refine r_sub [0, 1, 2, 3] (lv' := [(0, .ref 83), (1, .int v1), (2, .int v2), (3, .int (v3 + (1 : Int32)))]) rfl ?_
    exact hk7 v1 v2 (v3 + (1 : Int32)) d
  · refine r_iload_n_3 dX4_noteHours_22 rfl ?_
    refine r_iload_n_1 dX4_noteHours_23 rfl ?_
    refine r_icmp_lt (tgt := 93) dX4_noteHours_24 (by decide) ?_ ?_
    · refine r_iinc_3 dX4_noteHours_93 ki_1 (by decide) rfl ?_
      refine r_goto (tgt := 7) dX4_noteHours_96 (by decide) ?_
      refine r_sub [0, 1, 2, 3] (lv' := [(0, .ref 83), (1, .int v1), (2, .int v2), (3, .int (v3 + (1 : Int32)))]) rfl ?_
      exact hk7 v1 v2 (v3 + (1 : Int32)) d
    · refine r_iload_n_3 dX4_noteHours_27 rfl ?_
      refine r_iload_n_2 dX4_noteHours_28 rfl ?_
      refine r_icmp_gt (tgt := 93) dX4_noteHours_29 (by decide) ?_ ?_
      · refine r_iinc_3 dX4_noteHours_93 ki_1 (by decide) rfl ?_
        refine r_goto (tgt := 7) dX4_noteHours_96 (by decide) ?_
        refine r_sub [0, 1, 2, 3] (lv' := [(0, .ref 83), (1, .int v1), (2, .int v2), (3, .int (v3 + (1 : Int32)))]) rfl ?_
        exact hk7 v1 v2 (v3 + (1 : Int32)) d
      · refine r_iconst dX4_noteHours_32 ki_0 ?_
        refine r_istore_w_x dX4_noteHours_33 (by decide) rfl ?_
        refine r_iload_w_5 dX4_noteHours_35 ?_
        refine r_istore_w_x dX4_noteHours_37 (by decide) rfl ?_
        refine r_sub [2, 3, 4, 5, 6, 1, 0] (lv' := [(0, .ref 83), (1, .int v1), (2, .int v2), (3, .int v3), (4, .int v4), (5, .int (0 : Int32)), (6, .int v4)]) rfl ?_
        exact w_X4_noteHours_39 k7 hk7 k16 hk16 FU v1 v2 v3 v4 (0 : Int32) v4 d
theorem w_X4_noteHours_16 {E : XE} (k7 : Int32 → Int32 → Int32 → DD → Option (Unit × DD)) (hk7 : ∀ (v1 : Int32) (v2 : Int32) (v3 : Int32) (d : DD), AW E si_X4_noteHours 0 0 (QM E wrU) (k7 v1 v2 v3 d) 7 [(0, .ref 83), (1, .int v1), (2, .int v2), (3, .int v3)] [] d) (n : Nat) : ∀ (v1 : Int32) (v2 : Int32) (v3 : Int32) (v4 : Int32) (d : DD), AW E si_X4_noteHours 0 0 (QM E wrU) (f_X4_noteHours_16 k7 n v1 v2 v3 v4 d) 16 [(0, .ref 83), (1, .int v1), (2, .int v2), (3, .int v3), (4, .int v4)] [] d := by
  induction n with
  | zero => intros; exact r_none
  | succ n ih => intro v1 v2 v3 v4 d; exact w_X4_noteHours_16B k7 hk7 (f_X4_noteHours_16 k7 n) ih v1 v2 v3 v4 d
def f_X4_noteHours_7B (k7 : Int32 → Int32 → Int32 → DD → Option (Unit × DD)) (v1 : Int32) (v2 : Int32) (v3 : Int32) (d : DD) : Option (Unit × DD) :=
  if (8 : Int32) < v3 then
  some ((), d)
  else
  f_X4_noteHours_16 k7 FU v1 v2 v3 (0 : Int32) d
def f_X4_noteHours_7 : Nat → Int32 → Int32 → Int32 → DD → Option (Unit × DD)
  | 0, _, _, _, _ => none
  | n + 1, v1, v2, v3, d => f_X4_noteHours_7B (f_X4_noteHours_7 n) v1 v2 v3 d
set_option maxRecDepth 100000 in
set_option maxHeartbeats 4000000 in
theorem w_X4_noteHours_7B {E : XE} (k7 : Int32 → Int32 → Int32 → DD → Option (Unit × DD)) (hk7 : ∀ (v1 : Int32) (v2 : Int32) (v3 : Int32) (d : DD), AW E si_X4_noteHours 0 0 (QM E wrU) (k7 v1 v2 v3 d) 7 [(0, .ref 83), (1, .int v1), (2, .int v2), (3, .int v3)] [] d) (v1 : Int32) (v2 : Int32) (v3 : Int32) (d : DD) : AW E si_X4_noteHours 0 0 (QM E wrU) (f_X4_noteHours_7B k7 v1 v2 v3 d) 7 [(0, .ref 83), (1, .int v1), (2, .int v2), (3, .int v3)] [] d := by
  unfold f_X4_noteHours_7B
  refine r_iload_n_3 dX4_noteHours_7 rfl ?_
  refine r_bipush dX4_noteHours_8 kb_8 ?_
  refine r_icmp_gt (tgt := 99) dX4_noteHours_10 (by decide) ?_ ?_
  · exact r_return dX4_noteHours_99 rfl
  · refine r_iconst dX4_noteHours_13 ki_0 ?_
    refine r_istore_w_x dX4_noteHours_14 (by decide) rfl ?_
    refine r_sub [1, 2, 3, 4, 0] (lv' := [(0, .ref 83), (1, .int v1), (2, .int v2), (3, .int v3), (4, .int (0 : Int32))]) rfl ?_
    exact w_X4_noteHours_16 k7 hk7 FU v1 v2 v3 (0 : Int32) d
theorem w_X4_noteHours_7 {E : XE} (n : Nat) : ∀ (v1 : Int32) (v2 : Int32) (v3 : Int32) (d : DD), AW E si_X4_noteHours 0 0 (QM E wrU) (f_X4_noteHours_7 n v1 v2 v3 d) 7 [(0, .ref 83), (1, .int v1), (2, .int v2), (3, .int v3)] [] d := by
  induction n with
  | zero => intros; exact r_none
  | succ n ih => intro v1 v2 v3 d; exact w_X4_noteHours_7B (f_X4_noteHours_7 n) ih v1 v2 v3 d
def f_X4_noteHours (p1 : Int32) (p2 : Int32) (d : DD) : Option (Unit × DD) :=
  bd (u1 d 83 4 (0 : Int32)) fun d1 =>
  f_X4_noteHours_7 FU p1 p2 (1 : Int32) d1
set_option maxRecDepth 100000 in
set_option maxHeartbeats 4000000 in
theorem am_X4_noteHours (p1 : Int32) (p2 : Int32) (d : DD) : AM wrU mi_X4_noteHours 1 22 [.ref 83, .int p1, .int p2] d (f_X4_noteHours p1 p2 d) := by
  refine AM_intro (si := si_X4_noteHours) (lv := [(0, .ref 83), (1, .int p1), (2, .int p2)]) rfl (by decide +kernel) rfl (Nat.le_of_ble_eq_true rfl) (fun E => ?_)
  unfold f_X4_noteHours
  refine r_aload_n_0 dX4_noteHours_0 rfl ?_
  refine r_iconst dX4_noteHours_1 ki_0 ?_
  refine r_puti (cc := 4) 4 tyX4 tyX4_ok nmX4 rfl (by decide +kernel) rfl rfl uX4 (by decide) rfl fw_X4_25 dX4_noteHours_2 ?_
  refine r_bd (fun d1 => ?_)
  refine r_iconst dX4_noteHours_5 ki_1 ?_
  refine r_istore_n_x dX4_noteHours_6 rfl (by decide) rfl ?_
  refine r_sub [1, 2, 3, 0] (lv' := [(0, .ref 83), (1, .int p1), (2, .int p2), (3, .int (1 : Int32))]) rfl ?_
  exact w_X4_noteHours_7 FU p1 p2 (1 : Int32) d1
theorem cf_X4_noteHours : CFv mi_X4_noteHours 2 := ⟨iw_X4_noteHours, vw_X4_noteHours, nw_X4, cw_X4_noteHours, by unfold plainF; decide +kernel⟩
abbrev si_X4_isAlone : SI := (cX4_isAlone, RX4, 8, (some .boolean), 1, 21)
def f_X4_isAlone_69 (v5 : Int32) (d : DD) : Option (Int32 × DD) :=
  if v5 = (1 : Int32) then
  some ((1 : Int32), d)
  else
  some ((0 : Int32), d)
set_option maxRecDepth 100000 in
set_option maxHeartbeats 4000000 in
theorem w_X4_isAlone_69 {E : XE} (v5 : Int32) (d : DD) : AW E si_X4_isAlone 0 0 (QM E wrI) (f_X4_isAlone_69 v5 d) 69 [(5, .int v5)] [] d := by
  unfold f_X4_isAlone_69
  refine r_iload_w_0 dX4_isAlone_69 ?_
  refine r_iconst dX4_isAlone_71 ki_1 ?_
  refine r_icmp_ne (tgt := 79) dX4_isAlone_72 (by decide) ?_ ?_
  · refine r_iconst dX4_isAlone_79 ki_0 ?_
    exact r_zreturn dX4_isAlone_80 rfl rfl
  · refine r_iconst dX4_isAlone_75 ki_1 ?_
    refine r_goto (tgt := 80) dX4_isAlone_76 (by decide) ?_
    exact r_zreturn dX4_isAlone_80 rfl rfl
def f_X4_isAlone_6B (k6 : Int64 → Int32 → Int32 → Int32 → Int32 → DD → Option (Int32 × DD)) (v1 : Int64) (v3 : Int32) (v4 : Int32) (v5 : Int32) (v6 : Int32) (d : DD) : Option (Int32 × DD) :=
  if v6 < (d.1 83 4) then
  if v5 < (2 : Int32) then
    (f_X9_at 85 v6 d).bind fun q1 =>
      (f_X9_at 85 v3 q1.2).bind fun q2 =>
      bd ((q1.1 ^^^ q2.1) &&& v4) fun x3 =>
      if ((lushr v1 v6) &&& (1 : Int64)) = (1 : Int64) then
      if x3 = 0 then
        k6 v1 v3 v4 (v5 + (1 : Int32)) (v6 + (1 : Int32)) q2.2
        else
        k6 v1 v3 v4 v5 (v6 + (1 : Int32)) q2.2
      else
      k6 v1 v3 v4 v5 (v6 + (1 : Int32)) q2.2
    else
    f_X4_isAlone_69 v5 d
  else
  f_X4_isAlone_69 v5 d
def f_X4_isAlone_6 : Nat → Int64 → Int32 → Int32 → Int32 → Int32 → DD → Option (Int32 × DD)
  | 0, _, _, _, _, _, _ => none
  | n + 1, v1, v3, v4, v5, v6, d => f_X4_isAlone_6B (f_X4_isAlone_6 n) v1 v3 v4 v5 v6 d
set_option maxRecDepth 100000 in
set_option maxHeartbeats 4000000 in
theorem w_X4_isAlone_6B {E : XE} (k6 : Int64 → Int32 → Int32 → Int32 → Int32 → DD → Option (Int32 × DD)) (hk6 : ∀ (v1 : Int64) (v3 : Int32) (v4 : Int32) (v5 : Int32) (v6 : Int32) (d : DD), AW E si_X4_isAlone 0 0 (QM E wrI) (k6 v1 v3 v4 v5 v6 d) 6 [(0, .ref 83), (1, .long v1), (3, .int v3), (4, .int v4), (5, .int v5), (6, .int v6)] [] d) (v1 : Int64) (v3 : Int32) (v4 : Int32) (v5 : Int32) (v6 : Int32) (d : DD) : AW E si_X4_isAlone 0 0 (QM E wrI) (f_X4_isAlone_6B k6 v1 v3 v4 v5 v6 d) 6 [(0, .ref 83), (1, .long v1), (3, .int v3), (4, .int v4), (5, .int v5), (6, .int v6)] [] d := by
  unfold f_X4_isAlone_6B
  refine r_iload_w_5 dX4_isAlone_6 ?_
  refine r_aload_n_0 dX4_isAlone_8 rfl ?_
  refine r_geti (cc := 4) 4 rfl rfl uX4 (by decide) rfl fw_X4_25 dX4_isAlone_9 ?_
  refine r_icmp_ge (tgt := 69) dX4_isAlone_12 (by decide) ?_ ?_
  · refine r_sub [4] (lv' := [(5, .int v5)]) rfl ?_
    exact w_X4_isAlone_69 v5 d
  · refine r_iload_w_4 dX4_isAlone_15 ?_
    refine r_iconst dX4_isAlone_17 ki_2 ?_
    refine r_icmp_ge (tgt := 69) dX4_isAlone_18 (by decide) ?_ ?_
    · refine r_sub [4] (lv' := [(5, .int v5)]) rfl ?_
      exact w_X4_isAlone_69 v5 d
    · refine r_aload_n_0 dX4_isAlone_21 rfl ?_
      refine r_getr (t := 85) (cc := 4) 5 rfl rfl uX4 (by decide) rfl fw_X4_28 rfl dX4_isAlone_22 ?_
      refine r_iload_w_5 dX4_isAlone_25 ?_
      refine r_callSNI [] (am_X9_at 85 rfl v6 d) cf_X9_at wn_X4_36 (by decide) dX4_isAlone_27 rfl (Nat.le_of_ble_eq_true rfl) ⟨rfl, rfl⟩ (fun q1 => ?_)
      refine r_aload_n_0 dX4_isAlone_30 rfl ?_
      refine r_getr (t := 85) (cc := 4) 5 rfl rfl uX4 (by decide) rfl fw_X4_28 rfl dX4_isAlone_31 ?_
      refine r_iload_n_2 dX4_isAlone_34 rfl ?_
      refine r_callSNI [.int q1.1] (am_X9_at 85 rfl v3 q1.2) cf_X9_at wn_X4_36 (by decide) dX4_isAlone_35 rfl (Nat.le_of_ble_eq_true rfl) ⟨rfl, rfl⟩ (fun q2 => ?_)
      refine r_ixor dX4_isAlone_38 ?_
      refine r_iload_w_3 dX4_isAlone_39 ?_
      refine r_iand dX4_isAlone_41 ?_
      refine r_bdI (fun x3 => ?_)
      refine r_istore_w_x dX4_isAlone_42 (by decide) rfl ?_
      refine r_lload_n_2 dX4_isAlone_44 rfl ?_
      refine r_iload_w_6 dX4_isAlone_45 ?_
      refine r_lushr dX4_isAlone_47 ?_
      refine r_lconst dX4_isAlone_48 kl_1 ?_
      refine r_land dX4_isAlone_49 ?_
      refine r_lconst dX4_isAlone_50 kl_1 ?_
      refine r_lcmp_ne (tgt := 63) dX4_isAlone_51 dX4_isAlone_52 (by decide) ?_ ?_
      · refine r_iinc_6 dX4_isAlone_63 ki_1 (by decide) rfl ?_
        refine r_goto (tgt := 6) dX4_isAlone_66 (by decide) ?_
        refine r_sub [1, 2, 3, 4, 5, 6] (lv' := [(0, .ref 83), (1, .long v1), (3, .int v3), (4, .int v4), (5, .int v5), (6, .int (v6 + (1 : Int32)))]) rfl ?_
        exact hk6 v1 v3 v4 v5 (v6 + (1 : Int32)) q2.2
      · refine r_iload_w_0 dX4_isAlone_55 ?_
        refine r_if_ne (tgt := 63) dX4_isAlone_57 (by decide) ?_ ?_
        · refine r_iinc_6 dX4_isAlone_63 ki_1 (by decide) rfl ?_
          refine r_goto (tgt := 6) dX4_isAlone_66 (by decide) ?_
          refine r_sub [1, 2, 3, 4, 5, 6] (lv' := [(0, .ref 83), (1, .long v1), (3, .int v3), (4, .int v4), (5, .int v5), (6, .int (v6 + (1 : Int32)))]) rfl ?_
          exact hk6 v1 v3 v4 v5 (v6 + (1 : Int32)) q2.2
        · refine r_iinc_5 dX4_isAlone_60 ki_1 (by decide) rfl ?_
          refine r_iinc_6 dX4_isAlone_63 ki_1 (by decide) rfl ?_
          refine r_goto (tgt := 6) dX4_isAlone_66 (by decide) ?_
          refine r_sub [1, 2, 3, 4, 5, 6] (lv' := [(0, .ref 83), (1, .long v1), (3, .int v3), (4, .int v4), (5, .int (v5 + (1 : Int32))), (6, .int (v6 + (1 : Int32)))]) rfl ?_
          exact hk6 v1 v3 v4 (v5 + (1 : Int32)) (v6 + (1 : Int32)) q2.2
theorem w_X4_isAlone_6 {E : XE} (n : Nat) : ∀ (v1 : Int64) (v3 : Int32) (v4 : Int32) (v5 : Int32) (v6 : Int32) (d : DD), AW E si_X4_isAlone 0 0 (QM E wrI) (f_X4_isAlone_6 n v1 v3 v4 v5 v6 d) 6 [(0, .ref 83), (1, .long v1), (3, .int v3), (4, .int v4), (5, .int v5), (6, .int v6)] [] d := by
  induction n with
  | zero => intros; exact r_none
  | succ n ih => intro v1 v3 v4 v5 v6 d; exact w_X4_isAlone_6B (f_X4_isAlone_6 n) ih v1 v3 v4 v5 v6 d
def f_X4_isAlone (p1 : Int64) (p3 : Int32) (p4 : Int32) (d : DD) : Option (Int32 × DD) :=
  f_X4_isAlone_6 FU p1 p3 p4 (0 : Int32) (0 : Int32) d
set_option maxRecDepth 100000 in
set_option maxHeartbeats 4000000 in
theorem am_X4_isAlone (p1 : Int64) (p3 : Int32) (p4 : Int32) (d : DD) : AM wrI mi_X4_isAlone 1 21 [.ref 83, .long p1, .int p3, .int p4] d (f_X4_isAlone p1 p3 p4 d) := by
  refine AM_intro (si := si_X4_isAlone) (lv := [(0, .ref 83), (1, .long p1), (3, .int p3), (4, .int p4)]) rfl (by decide +kernel) rfl (Nat.le_of_ble_eq_true rfl) (fun E => ?_)
  unfold f_X4_isAlone
  refine r_iconst dX4_isAlone_0 ki_0 ?_
  refine r_istore_w_x dX4_isAlone_1 (by decide) rfl ?_
  refine r_iconst dX4_isAlone_3 ki_0 ?_
  refine r_istore_w_x dX4_isAlone_4 (by decide) rfl ?_
  refine r_sub [2, 3, 4, 5, 1, 0] (lv' := [(0, .ref 83), (1, .long p1), (3, .int p3), (4, .int p4), (5, .int (0 : Int32)), (6, .int (0 : Int32))]) rfl ?_
  exact w_X4_isAlone_6 FU p1 p3 p4 (0 : Int32) (0 : Int32) d
theorem cf_X4_isAlone : CFv mi_X4_isAlone 3 := ⟨iw_X4_isAlone, vw_X4_isAlone, nw_X4, cw_X4_isAlone, by unfold plainF; decide +kernel⟩
abbrev si_X4_say : SI := (cX4_say, RX4, 9, (some .long), 2, 48)
def f_X4_say_47B (k47 : Int64 → Int32 → Int32 → Int64 → Int32 → DD → Option (Int64 × DD)) (v1 : Int64) (v4 : Int32) (v5 : Int32) (v6 : Int64) (v8 : Int32) (d : DD) : Option (Int64 × DD) :=
  if v8 < (d.1 83 4) then
  if ((lushr v1 v8) &&& (1 : Int64)) = (1 : Int64) then
    (f_X4_isAlone v1 v8 v4 d).bind fun q4 =>
      if q4.1 = v5 then
      bd (v6 ||| ((1 : Int64) <<< (v8.toInt64 &&& 63))) fun x5 =>
        k47 v1 v4 v5 x5 (v8 + (1 : Int32)) q4.2
      else
      k47 v1 v4 v5 v6 (v8 + (1 : Int32)) q4.2
    else
    k47 v1 v4 v5 v6 (v8 + (1 : Int32)) d
  else
  some (v6, d)
def f_X4_say_47 : Nat → Int64 → Int32 → Int32 → Int64 → Int32 → DD → Option (Int64 × DD)
  | 0, _, _, _, _, _, _ => none
  | n + 1, v1, v4, v5, v6, v8, d => f_X4_say_47B (f_X4_say_47 n) v1 v4 v5 v6 v8 d
set_option maxRecDepth 100000 in
set_option maxHeartbeats 4000000 in
theorem w_X4_say_47B {E : XE} (k47 : Int64 → Int32 → Int32 → Int64 → Int32 → DD → Option (Int64 × DD)) (hk47 : ∀ (v1 : Int64) (v4 : Int32) (v5 : Int32) (v6 : Int64) (v8 : Int32) (d : DD), AW E si_X4_say 0 0 (QM E wrL) (k47 v1 v4 v5 v6 v8 d) 47 [(0, .ref 83), (1, .long v1), (4, .int v4), (5, .int v5), (6, .long v6), (8, .int v8)] [] d) (v1 : Int64) (v4 : Int32) (v5 : Int32) (v6 : Int64) (v8 : Int32) (d : DD) : AW E si_X4_say 0 0 (QM E wrL) (f_X4_say_47B k47 v1 v4 v5 v6 v8 d) 47 [(0, .ref 83), (1, .long v1), (4, .int v4), (5, .int v5), (6, .long v6), (8, .int v8)] [] d := by
  unfold f_X4_say_47B
  refine r_iload_w_5 dX4_say_47 ?_
  refine r_aload_n_0 dX4_say_49 rfl ?_
  refine r_geti (cc := 4) 4 rfl rfl uX4 (by decide) rfl fw_X4_25 dX4_say_50 ?_
  refine r_icmp_ge (tgt := 96) dX4_say_53 (by decide) ?_ ?_
  · refine r_lload_w_4 dX4_say_96 ?_
    exact r_lreturn dX4_say_98 rfl
  · refine r_lload_n_1 dX4_say_56 rfl ?_
    refine r_iload_w_5 dX4_say_57 ?_
    refine r_lushr dX4_say_59 ?_
    refine r_lconst dX4_say_60 kl_1 ?_
    refine r_land dX4_say_61 ?_
    refine r_lconst dX4_say_62 kl_1 ?_
    refine r_lcmp_ne (tgt := 90) dX4_say_63 dX4_say_64 (by decide) ?_ ?_
    · refine r_iinc_5 dX4_say_90 ki_1 (by decide) rfl ?_
      refine r_goto (tgt := 47) dX4_say_93 (by decide) ?_
      exact hk47 v1 v4 v5 v6 (v8 + (1 : Int32)) d
    · refine r_aload_n_0 dX4_say_67 rfl ?_
      refine r_lload_n_1 dX4_say_68 rfl ?_
      refine r_iload_w_5 dX4_say_69 ?_
      refine r_iload_w_2 dX4_say_71 ?_
      refine r_callVI (cc := 4) [] (am_X4_isAlone v1 v8 v4 d) rfl rfl cf_X4_isAlone mw_X4_63 (by decide) dX4_say_73 rfl (Nat.le_of_ble_eq_true rfl) ⟨rfl, rfl⟩ (fun q4 => ?_)
      refine r_iload_w_3 dX4_say_76 ?_
      refine r_icmp_ne (tgt := 90) dX4_say_78 (by decide) ?_ ?_
      · refine r_iinc_5 dX4_say_90 ki_1 (by decide) rfl ?_
        refine r_goto (tgt := 47) dX4_say_93 (by decide) ?_
        exact hk47 v1 v4 v5 v6 (v8 + (1 : Int32)) q4.2
      · refine r_lload_w_4 dX4_say_81 ?_
        refine r_lconst dX4_say_83 kl_1 ?_
        refine r_iload_w_5 dX4_say_84 ?_
        refine r_lshl dX4_say_86 ?_
        refine r_lor dX4_say_87 ?_
        refine r_bdJ (fun x5 => ?_)
        refine r_lstore_w_4 dX4_say_88 (by decide) rfl ?_
        refine r_iinc_5 dX4_say_90 ki_1 (by decide) rfl ?_
        refine r_goto (tgt := 47) dX4_say_93 (by decide) ?_
        exact hk47 v1 v4 v5 x5 (v8 + (1 : Int32)) q4.2
theorem w_X4_say_47 {E : XE} (n : Nat) : ∀ (v1 : Int64) (v4 : Int32) (v5 : Int32) (v6 : Int64) (v8 : Int32) (d : DD), AW E si_X4_say 0 0 (QM E wrL) (f_X4_say_47 n v1 v4 v5 v6 v8 d) 47 [(0, .ref 83), (1, .long v1), (4, .int v4), (5, .int v5), (6, .long v6), (8, .int v8)] [] d := by
  induction n with
  | zero => intros; exact r_none
  | succ n ih => intro v1 v4 v5 v6 v8 d; exact w_X4_say_47B (f_X4_say_47 n) ih v1 v4 v5 v6 v8 d
def f_X4_say (p1 : Int64) (p3 : Int32) (p4 : Int32) (d : DD) : Option (Int64 × DD) :=
  (f_X4_isAlone p1 p3 p4 d).bind fun q1 =>
  if q1.1 = 0 then
  (f_X9_put 84 (q1.2.1 83 0) (0 : Int32) q1.2).bind fun q2 =>
    bd (u1 q2.2 83 0 ((q2.2.1 83 0) + (1 : Int32))) fun d3 =>
    f_X4_say_47 FU p1 p4 q1.1 (0 : Int64) (0 : Int32) d3
  else
  (f_X9_put 84 (q1.2.1 83 0) (1 : Int32) q1.2).bind fun q6 =>
    bd (u1 q6.2 83 0 ((q6.2.1 83 0) + (1 : Int32))) fun d7 =>
    f_X4_say_47 FU p1 p4 q1.1 (0 : Int64) (0 : Int32) d7
set_option maxRecDepth 100000 in
set_option maxHeartbeats 4000000 in
theorem am_X4_say (p1 : Int64) (p3 : Int32) (p4 : Int32) (d : DD) : AM wrL mi_X4_say 2 48 [.ref 83, .long p1, .int p3, .int p4] d (f_X4_say p1 p3 p4 d) := by
  refine AM_intro (si := si_X4_say) (lv := [(0, .ref 83), (1, .long p1), (3, .int p3), (4, .int p4)]) rfl (by decide +kernel) rfl (Nat.le_of_ble_eq_true rfl) (fun E => ?_)
  unfold f_X4_say
  refine r_aload_n_0 dX4_say_0 rfl ?_
  refine r_lload_n_1 dX4_say_1 rfl ?_
  refine r_iload_n_2 dX4_say_2 rfl ?_
  refine r_iload_w_3 dX4_say_3 ?_
  refine r_callVI (cc := 4) [] (am_X4_isAlone p1 p3 p4 d) rfl rfl cf_X4_isAlone mw_X4_63 (by decide) dX4_say_5 rfl (Nat.le_of_ble_eq_true rfl) ⟨rfl, rfl⟩ (fun q1 => ?_)
  refine r_istore_w_x dX4_say_8 (by decide) rfl ?_
  refine r_aload_n_1 dX4_say_10 rfl ?_
  refine r_getr (t := 84) (cc := 4) 3 rfl rfl uX4 (by decide) rfl fw_X4_21 rfl dX4_say_11 ?_
  refine r_aload_n_1 dX4_say_14 rfl ?_
  refine r_geti (cc := 4) 0 rfl rfl uX4 (by decide) rfl fw_X4_9 dX4_say_15 ?_
  refine r_iload_w_0 dX4_say_18 ?_
  refine r_if_eq (tgt := 27) dX4_say_20 (by decide) ?_ ?_
  · refine r_iconst dX4_say_27 ki_0 ?_
    refine r_callSNU [] (am_X9_put 84 rfl (q1.2.1 83 0) (0 : Int32) q1.2) cf_X9_put wn_X4_67 (by decide) dX4_say_28 rfl (Nat.le_of_ble_eq_true rfl) ⟨rfl, rfl⟩ (fun q2 => ?_)
    refine r_aload_n_1 dX4_say_31 rfl ?_
    refine r_dupa dX4_say_32 ?_
    refine r_geti (cc := 4) 0 rfl rfl uX4 (by decide) rfl fw_X4_9 dX4_say_33 ?_
    refine r_iconst dX4_say_36 ki_1 ?_
    refine r_iadd dX4_say_37 ?_
    refine r_puti (cc := 4) 0 tyX4 tyX4_ok nmX4 rfl (by decide +kernel) rfl rfl uX4 (by decide) rfl fw_X4_9 dX4_say_38 ?_
    refine r_bd (fun d3 => ?_)
    refine r_lconst dX4_say_41 kl_0 ?_
    refine r_lstore_w_x dX4_say_42 (by decide) rfl ?_
    refine r_iconst dX4_say_44 ki_0 ?_
    refine r_istore_w_x dX4_say_45 (by decide) rfl ?_
    refine r_sub [3, 4, 6, 2, 1, 0] (lv' := [(0, .ref 83), (1, .long p1), (4, .int p4), (5, .int q1.1), (6, .long (0 : Int64)), (8, .int (0 : Int32))]) rfl ?_
    exact w_X4_say_47 FU p1 p4 q1.1 (0 : Int64) (0 : Int32) d3
  · refine r_iconst dX4_say_23 ki_1 ?_
    refine r_goto (tgt := 28) dX4_say_24 (by decide) ?_
    refine r_callSNU [] (am_X9_put 84 rfl (q1.2.1 83 0) (1 : Int32) q1.2) cf_X9_put wn_X4_67 (by decide) dX4_say_28 rfl (Nat.le_of_ble_eq_true rfl) ⟨rfl, rfl⟩ (fun q6 => ?_)
    refine r_aload_n_1 dX4_say_31 rfl ?_
    refine r_dupa dX4_say_32 ?_
    refine r_geti (cc := 4) 0 rfl rfl uX4 (by decide) rfl fw_X4_9 dX4_say_33 ?_
    refine r_iconst dX4_say_36 ki_1 ?_
    refine r_iadd dX4_say_37 ?_
    refine r_puti (cc := 4) 0 tyX4 tyX4_ok nmX4 rfl (by decide +kernel) rfl rfl uX4 (by decide) rfl fw_X4_9 dX4_say_38 ?_
    refine r_bd (fun d7 => ?_)
    refine r_lconst dX4_say_41 kl_0 ?_
    refine r_lstore_w_x dX4_say_42 (by decide) rfl ?_
    refine r_iconst dX4_say_44 ki_0 ?_
    refine r_istore_w_x dX4_say_45 (by decide) rfl ?_
    refine r_sub [3, 4, 6, 2, 1, 0] (lv' := [(0, .ref 83), (1, .long p1), (4, .int p4), (5, .int q1.1), (6, .long (0 : Int64)), (8, .int (0 : Int32))]) rfl ?_
    exact w_X4_say_47 FU p1 p4 q1.1 (0 : Int64) (0 : Int32) d7
theorem cf_X4_say : CFv mi_X4_say 3 := ⟨iw_X4_say, vw_X4_say, nw_X4, cw_X4_say, by unfold plainF; decide +kernel⟩
abbrev si_X4_hold : SI := (cX4_hold, RX4, 13, none, 3, 76)
def f_X4_hold_144B (p1 : Nat) (p3 : Nat) (k144 : Int32 → Int32 → Int64 → Int32 → DD → Option (Unit × DD)) (v4 : Int32) (v5 : Int32) (v6 : Int64) (v9 : Int32) (d : DD) : Option (Unit × DD) :=
  if v9 < v4 then
  (f_X9_at p3 v9 d).bind fun q10 =>
    (f_X9_at (rf p1 8) q10.1 q10.2).bind fun q11 =>
    (f_X4_isAlone v6 v5 q11.1 q11.2).bind fun q12 =>
    if q12.1 = 0 then
    k144 v4 v5 v6 (v9 + (1 : Int32)) q12.2
    else
    bd (u1 q12.2 83 2 ((q12.2.1 83 2) ||| ((1 : Int32) <<< (q10.1 &&& 31)))) fun d13 =>
      k144 v4 v5 v6 (v9 + (1 : Int32)) d13
  else
  some ((), d)
def f_X4_hold_144 (p1 : Nat) (p3 : Nat) : Nat → Int32 → Int32 → Int64 → Int32 → DD → Option (Unit × DD)
  | 0, _, _, _, _, _ => none
  | n + 1, v4, v5, v6, v9, d => f_X4_hold_144B p1 p3 (f_X4_hold_144 p1 p3 n) v4 v5 v6 v9 d
set_option maxRecDepth 100000 in
set_option maxHeartbeats 4000000 in
theorem w_X4_hold_144B {E : XE} (p1 : Nat) (hp1 : kd p1 = 5) (p3 : Nat) (hp3 : kd p3 = 0) (k144 : Int32 → Int32 → Int64 → Int32 → DD → Option (Unit × DD)) (hk144 : ∀ (v4 : Int32) (v5 : Int32) (v6 : Int64) (v9 : Int32) (d : DD), AW E si_X4_hold 0 0 (QM E wrU) (k144 v4 v5 v6 v9 d) 144 [(0, .ref 83), (1, .ref p1), (3, .ref p3), (4, .int v4), (5, .int v5), (6, .long v6), (9, .int v9)] [] d) (v4 : Int32) (v5 : Int32) (v6 : Int64) (v9 : Int32) (d : DD) : AW E si_X4_hold 0 0 (QM E wrU) (f_X4_hold_144B p1 p3 k144 v4 v5 v6 v9 d) 144 [(0, .ref 83), (1, .ref p1), (3, .ref p3), (4, .int v4), (5, .int v5), (6, .long v6), (9, .int v9)] [] d := by
  unfold f_X4_hold_144B
  refine r_iload_w_6 dX4_hold_144 ?_
  refine r_iload_w_3 dX4_hold_146 ?_
  refine r_icmp_ge (tgt := 198) dX4_hold_148 (by decide) ?_ ?_
  · exact r_return dX4_hold_198 rfl
  · refine r_aload_n_2 dX4_hold_151 rfl ?_
    refine r_iload_w_6 dX4_hold_152 ?_
    refine r_callSNI [] (am_X9_at p3 hp3 v9 d) cf_X9_at wn_X4_36 (by decide) dX4_hold_154 rfl (Nat.le_of_ble_eq_true rfl) ⟨rfl, rfl⟩ (fun q10 => ?_)
    refine r_istore_w_x dX4_hold_157 (by decide) rfl ?_
    refine r_aload_n_1 dX4_hold_159 rfl ?_
    refine r_lload_w_6 dX4_hold_160 ?_
    refine r_iload_w_5 dX4_hold_162 ?_
    refine r_aload_n_2 dX4_hold_164 rfl ?_
    refine r_getr (t := (rf p1 8)) (cc := 1) 8 hp1 rfl uX1 (by decide) rfl fw_X4_50 rfl dX4_hold_165 ?_
    refine r_iload_w_0 dX4_hold_168 ?_
    refine r_callSNI [.int v5, .long v6, .ref 83] (am_X9_at (rf p1 8) (kr_1_8 hp1) q10.1 q10.2) cf_X9_at wn_X4_36 (by decide) dX4_hold_170 rfl (Nat.le_of_ble_eq_true rfl) ⟨rfl, rfl⟩ (fun q11 => ?_)
    refine r_callVI (cc := 4) [] (am_X4_isAlone v6 v5 q11.1 q11.2) rfl rfl cf_X4_isAlone mw_X4_63 (by decide) dX4_hold_173 rfl (Nat.le_of_ble_eq_true rfl) ⟨rfl, rfl⟩ (fun q12 => ?_)
    refine r_if_eq (tgt := 192) dX4_hold_176 (by decide) ?_ ?_
    · refine r_iinc_7 dX4_hold_192 ki_1 (by decide) rfl ?_
      refine r_goto (tgt := 144) dX4_hold_195 (by decide) ?_
      refine r_sub [1, 2, 3, 4, 5, 6, 7] (lv' := [(0, .ref 83), (1, .ref p1), (3, .ref p3), (4, .int v4), (5, .int v5), (6, .long v6), (9, .int (v9 + (1 : Int32)))]) rfl ?_
      exact hk144 v4 v5 v6 (v9 + (1 : Int32)) q12.2
    · refine r_aload_n_1 dX4_hold_179 rfl ?_
      refine r_dupa dX4_hold_180 ?_
      refine r_geti (cc := 4) 2 rfl rfl uX4 (by decide) rfl fw_X4_18 dX4_hold_181 ?_
      refine r_iconst dX4_hold_184 ki_1 ?_
      refine r_iload_w_0 dX4_hold_185 ?_
      refine r_ishl dX4_hold_187 ?_
      refine r_ior dX4_hold_188 ?_
      refine r_puti (cc := 4) 2 tyX4 tyX4_ok nmX4 rfl (by decide +kernel) rfl rfl uX4 (by decide) rfl fw_X4_18 dX4_hold_189 ?_
      refine r_bd (fun d13 => ?_)
      refine r_iinc_7 dX4_hold_192 ki_1 (by decide) rfl ?_
      refine r_goto (tgt := 144) dX4_hold_195 (by decide) ?_
      refine r_sub [1, 2, 3, 4, 5, 6, 7] (lv' := [(0, .ref 83), (1, .ref p1), (3, .ref p3), (4, .int v4), (5, .int v5), (6, .long v6), (9, .int (v9 + (1 : Int32)))]) rfl ?_
      exact hk144 v4 v5 v6 (v9 + (1 : Int32)) d13
theorem w_X4_hold_144 {E : XE} (p1 : Nat) (hp1 : kd p1 = 5) (p3 : Nat) (hp3 : kd p3 = 0) (n : Nat) : ∀ (v4 : Int32) (v5 : Int32) (v6 : Int64) (v9 : Int32) (d : DD), AW E si_X4_hold 0 0 (QM E wrU) (f_X4_hold_144 p1 p3 n v4 v5 v6 v9 d) 144 [(0, .ref 83), (1, .ref p1), (3, .ref p3), (4, .int v4), (5, .int v5), (6, .long v6), (9, .int v9)] [] d := by
  induction n with
  | zero => intros; exact r_none
  | succ n ih => intro v4 v5 v6 v9 d; exact w_X4_hold_144B p1 hp1 p3 hp3 (f_X4_hold_144 p1 p3 n) ih v4 v5 v6 v9 d
def f_X4_hold_127 (p1 : Nat) (p3 : Nat) (v4 : Int32) (v5 : Int32) (v6 : Int64) (d : DD) : Option (Unit × DD) :=
  (f_J13_bitCount_95d88 v6 d).bind fun q7 =>
  bd (u1 q7.2 83 1 q7.1) fun d8 =>
  bd (u1 d8 83 2 (0 : Int32)) fun d9 =>
  f_X4_hold_144 p1 p3 FU v4 v5 v6 (0 : Int32) d9
set_option maxRecDepth 100000 in
set_option maxHeartbeats 4000000 in
theorem w_X4_hold_127 {E : XE} (p1 : Nat) (hp1 : kd p1 = 5) (p3 : Nat) (hp3 : kd p3 = 0) (v4 : Int32) (v5 : Int32) (v6 : Int64) (d : DD) : AW E si_X4_hold 0 0 (QM E wrU) (f_X4_hold_127 p1 p3 v4 v5 v6 d) 127 [(0, .ref 83), (1, .ref p1), (3, .ref p3), (4, .int v4), (5, .int v5), (6, .long v6)] [] d := by
  unfold f_X4_hold_127
  refine r_aload_n_0 dX4_hold_127 rfl ?_
  refine r_lload_w_5 dX4_hold_128 ?_
  refine r_callSI [.ref 83] (am_J13_bitCount_95d88 v6 d) cf_J13_bitCount_95d88 mw_X4_57 (by decide) dX4_hold_130 rfl (Nat.le_of_ble_eq_true rfl) ⟨rfl, rfl⟩ (fun q7 => ?_)
  refine r_puti (cc := 4) 1 tyX4 tyX4_ok nmX4 rfl (by decide +kernel) rfl rfl uX4 (by decide) rfl fw_X4_15 dX4_hold_133 ?_
  refine r_bd (fun d8 => ?_)
  refine r_aload_n_0 dX4_hold_136 rfl ?_
  refine r_iconst dX4_hold_137 ki_0 ?_
  refine r_puti (cc := 4) 2 tyX4 tyX4_ok nmX4 rfl (by decide +kernel) rfl rfl uX4 (by decide) rfl fw_X4_18 dX4_hold_138 ?_
  refine r_bd (fun d9 => ?_)
  refine r_iconst dX4_hold_141 ki_0 ?_
  refine r_istore_w_x dX4_hold_142 (by decide) rfl ?_
  refine r_sub [1, 2, 3, 4, 5, 6, 0] (lv' := [(0, .ref 83), (1, .ref p1), (3, .ref p3), (4, .int v4), (5, .int v5), (6, .long v6), (9, .int (0 : Int32))]) rfl ?_
  exact w_X4_hold_144 p1 hp1 p3 hp3 FU v4 v5 v6 (0 : Int32) d9
def f_X4_hold_70B (p1 : Nat) (p3 : Nat) (k51 : Int32 → Int32 → Int64 → Int32 → Int32 → DD → Option (Unit × DD)) (k70 : Int32 → Int32 → Int64 → Int32 → Int64 → Int32 → DD → Option (Unit × DD)) (v4 : Int32) (v5 : Int32) (v6 : Int64) (v9 : Int32) (v10 : Int64) (v12 : Int32) (d : DD) : Option (Unit × DD) :=
  if v12 < v4 then
  (f_X9_at p3 v12 d).bind fun q14 =>
    (f_X9_at (rf p1 8) q14.1 q14.2).bind fun q15 =>
    (f_X4_say v6 v5 q15.1 q15.2).bind fun q16 =>
    k70 v4 v5 q16.1 v9 v10 (v12 + (1 : Int32)) q16.2
  else
  if v6 = v10 then
    k51 v4 v5 v6 (0 : Int32) (v9 + (1 : Int32)) d
    else
    k51 v4 v5 v6 (1 : Int32) (v9 + (1 : Int32)) d
def f_X4_hold_70 (p1 : Nat) (p3 : Nat) (k51 : Int32 → Int32 → Int64 → Int32 → Int32 → DD → Option (Unit × DD)) : Nat → Int32 → Int32 → Int64 → Int32 → Int64 → Int32 → DD → Option (Unit × DD)
  | 0, _, _, _, _, _, _, _ => none
  | n + 1, v4, v5, v6, v9, v10, v12, d => f_X4_hold_70B p1 p3 k51 (f_X4_hold_70 p1 p3 k51 n) v4 v5 v6 v9 v10 v12 d
set_option maxRecDepth 100000 in
set_option maxHeartbeats 4000000 in
theorem w_X4_hold_70B {E : XE} (p1 : Nat) (hp1 : kd p1 = 5) (p3 : Nat) (hp3 : kd p3 = 0) (k51 : Int32 → Int32 → Int64 → Int32 → Int32 → DD → Option (Unit × DD)) (hk51 : ∀ (v4 : Int32) (v5 : Int32) (v6 : Int64) (v8 : Int32) (v9 : Int32) (d : DD), AW E si_X4_hold 0 0 (QM E wrU) (k51 v4 v5 v6 v8 v9 d) 51 [(0, .ref 83), (1, .ref p1), (3, .ref p3), (4, .int v4), (5, .int v5), (6, .long v6), (8, .int v8), (9, .int v9)] [] d) (k70 : Int32 → Int32 → Int64 → Int32 → Int64 → Int32 → DD → Option (Unit × DD)) (hk70 : ∀ (v4 : Int32) (v5 : Int32) (v6 : Int64) (v9 : Int32) (v10 : Int64) (v12 : Int32) (d : DD), AW E si_X4_hold 0 0 (QM E wrU) (k70 v4 v5 v6 v9 v10 v12 d) 70 [(0, .ref 83), (1, .ref p1), (3, .ref p3), (4, .int v4), (5, .int v5), (6, .long v6), (9, .int v9), (10, .long v10), (12, .int v12)] [] d) (v4 : Int32) (v5 : Int32) (v6 : Int64) (v9 : Int32) (v10 : Int64) (v12 : Int32) (d : DD) : AW E si_X4_hold 0 0 (QM E wrU) (f_X4_hold_70B p1 p3 k51 k70 v4 v5 v6 v9 v10 v12 d) 70 [(0, .ref 83), (1, .ref p1), (3, .ref p3), (4, .int v4), (5, .int v5), (6, .long v6), (9, .int v9), (10, .long v10), (12, .int v12)] [] d := by
  unfold f_X4_hold_70B
  refine r_iload_w_8 dX4_hold_70 ?_
  refine r_iload_w_3 dX4_hold_72 ?_
  refine r_icmp_ge (tgt := 106) dX4_hold_74 (by decide) ?_ ?_
  · refine r_lload_w_5 dX4_hold_106 ?_
    refine r_lload_w_7 dX4_hold_108 ?_
    refine r_lcmp_eq (tgt := 118) dX4_hold_110 dX4_hold_111 (by decide) ?_ ?_
    · refine r_iconst dX4_hold_118 ki_0 ?_
      refine r_istore_w_x dX4_hold_119 (by decide) rfl ?_
      refine r_iinc_7 dX4_hold_121 ki_1 (by decide) rfl ?_
      refine r_goto (tgt := 51) dX4_hold_124 (by decide) ?_
      refine r_sub [1, 2, 3, 4, 5, 6, 0, 7] (lv' := [(0, .ref 83), (1, .ref p1), (3, .ref p3), (4, .int v4), (5, .int v5), (6, .long v6), (8, .int (0 : Int32)), (9, .int (v9 + (1 : Int32)))]) rfl ?_
      exact hk51 v4 v5 v6 (0 : Int32) (v9 + (1 : Int32)) d
    · refine r_iconst dX4_hold_114 ki_1 ?_
      refine r_goto (tgt := 119) dX4_hold_115 (by decide) ?_
      refine r_istore_w_x dX4_hold_119 (by decide) rfl ?_
      refine r_iinc_7 dX4_hold_121 ki_1 (by decide) rfl ?_
      refine r_goto (tgt := 51) dX4_hold_124 (by decide) ?_
      refine r_sub [1, 2, 3, 4, 5, 6, 0, 7] (lv' := [(0, .ref 83), (1, .ref p1), (3, .ref p3), (4, .int v4), (5, .int v5), (6, .long v6), (8, .int (1 : Int32)), (9, .int (v9 + (1 : Int32)))]) rfl ?_
      exact hk51 v4 v5 v6 (1 : Int32) (v9 + (1 : Int32)) d
  · refine r_aload_n_0 dX4_hold_77 rfl ?_
    refine r_lload_w_5 dX4_hold_78 ?_
    refine r_iload_w_4 dX4_hold_80 ?_
    refine r_aload_n_1 dX4_hold_82 rfl ?_
    refine r_getr (t := (rf p1 8)) (cc := 1) 8 hp1 rfl uX1 (by decide) rfl fw_X4_50 rfl dX4_hold_83 ?_
    refine r_aload_n_2 dX4_hold_86 rfl ?_
    refine r_iload_w_8 dX4_hold_87 ?_
    refine r_callSNI [.ref (rf p1 8), .int v5, .long v6, .ref 83] (am_X9_at p3 hp3 v12 d) cf_X9_at wn_X4_36 (by decide) dX4_hold_89 rfl (Nat.le_of_ble_eq_true rfl) ⟨rfl, rfl⟩ (fun q14 => ?_)
    refine r_callSNI [.int v5, .long v6, .ref 83] (am_X9_at (rf p1 8) (kr_1_8 hp1) q14.1 q14.2) cf_X9_at wn_X4_36 (by decide) dX4_hold_92 rfl (Nat.le_of_ble_eq_true rfl) ⟨rfl, rfl⟩ (fun q15 => ?_)
    refine r_callVL (cc := 4) [] (am_X4_say v6 v5 q15.1 q15.2) rfl rfl cf_X4_say mw_X4_53 (by decide) dX4_hold_95 rfl (Nat.le_of_ble_eq_true rfl) ⟨rfl, rfl⟩ (fun q16 => ?_)
    refine r_lstore_w_5 dX4_hold_98 (by decide) rfl ?_
    refine r_iinc_8 dX4_hold_100 ki_1 (by decide) rfl ?_
    refine r_goto (tgt := 70) dX4_hold_103 (by decide) ?_
    exact hk70 v4 v5 q16.1 v9 v10 (v12 + (1 : Int32)) q16.2
theorem w_X4_hold_70 {E : XE} (p1 : Nat) (hp1 : kd p1 = 5) (p3 : Nat) (hp3 : kd p3 = 0) (k51 : Int32 → Int32 → Int64 → Int32 → Int32 → DD → Option (Unit × DD)) (hk51 : ∀ (v4 : Int32) (v5 : Int32) (v6 : Int64) (v8 : Int32) (v9 : Int32) (d : DD), AW E si_X4_hold 0 0 (QM E wrU) (k51 v4 v5 v6 v8 v9 d) 51 [(0, .ref 83), (1, .ref p1), (3, .ref p3), (4, .int v4), (5, .int v5), (6, .long v6), (8, .int v8), (9, .int v9)] [] d) (n : Nat) : ∀ (v4 : Int32) (v5 : Int32) (v6 : Int64) (v9 : Int32) (v10 : Int64) (v12 : Int32) (d : DD), AW E si_X4_hold 0 0 (QM E wrU) (f_X4_hold_70 p1 p3 k51 n v4 v5 v6 v9 v10 v12 d) 70 [(0, .ref 83), (1, .ref p1), (3, .ref p3), (4, .int v4), (5, .int v5), (6, .long v6), (9, .int v9), (10, .long v10), (12, .int v12)] [] d := by
  induction n with
  | zero => intros; exact r_none
  | succ n ih => intro v4 v5 v6 v9 v10 v12 d; exact w_X4_hold_70B p1 hp1 p3 hp3 k51 hk51 (f_X4_hold_70 p1 p3 k51 n) ih v4 v5 v6 v9 v10 v12 d
def f_X4_hold_51B (p1 : Nat) (p3 : Nat) (k51 : Int32 → Int32 → Int64 → Int32 → Int32 → DD → Option (Unit × DD)) (v4 : Int32) (v5 : Int32) (v6 : Int64) (v8 : Int32) (v9 : Int32) (d : DD) : Option (Unit × DD) :=
  if v9 < (37 : Int32) then
  if v8 = 0 then
    f_X4_hold_127 p1 p3 v4 v5 v6 d
    else
    f_X4_hold_70 p1 p3 k51 FU v4 v5 v6 v9 v6 (0 : Int32) d
  else
  f_X4_hold_127 p1 p3 v4 v5 v6 d
def f_X4_hold_51 (p1 : Nat) (p3 : Nat) : Nat → Int32 → Int32 → Int64 → Int32 → Int32 → DD → Option (Unit × DD)
  | 0, _, _, _, _, _, _ => none
  | n + 1, v4, v5, v6, v8, v9, d => f_X4_hold_51B p1 p3 (f_X4_hold_51 p1 p3 n) v4 v5 v6 v8 v9 d
set_option maxRecDepth 100000 in
set_option maxHeartbeats 4000000 in
theorem w_X4_hold_51B {E : XE} (p1 : Nat) (hp1 : kd p1 = 5) (p3 : Nat) (hp3 : kd p3 = 0) (k51 : Int32 → Int32 → Int64 → Int32 → Int32 → DD → Option (Unit × DD)) (hk51 : ∀ (v4 : Int32) (v5 : Int32) (v6 : Int64) (v8 : Int32) (v9 : Int32) (d : DD), AW E si_X4_hold 0 0 (QM E wrU) (k51 v4 v5 v6 v8 v9 d) 51 [(0, .ref 83), (1, .ref p1), (3, .ref p3), (4, .int v4), (5, .int v5), (6, .long v6), (8, .int v8), (9, .int v9)] [] d) (v4 : Int32) (v5 : Int32) (v6 : Int64) (v8 : Int32) (v9 : Int32) (d : DD) : AW E si_X4_hold 0 0 (QM E wrU) (f_X4_hold_51B p1 p3 k51 v4 v5 v6 v8 v9 d) 51 [(0, .ref 83), (1, .ref p1), (3, .ref p3), (4, .int v4), (5, .int v5), (6, .long v6), (8, .int v8), (9, .int v9)] [] d := by
  unfold f_X4_hold_51B
  refine r_iload_w_7 dX4_hold_51 ?_
  refine r_bipush dX4_hold_53 kb_37 ?_
  refine r_icmp_ge (tgt := 127) dX4_hold_55 (by decide) ?_ ?_
  · refine r_sub [0, 1, 2, 3, 4, 5] (lv' := [(0, .ref 83), (1, .ref p1), (3, .ref p3), (4, .int v4), (5, .int v5), (6, .long v6)]) rfl ?_
    exact w_X4_hold_127 p1 hp1 p3 hp3 v4 v5 v6 d
  · refine r_iload_w_6 dX4_hold_58 ?_
    refine r_if_eq (tgt := 127) dX4_hold_60 (by decide) ?_ ?_
    · refine r_sub [0, 1, 2, 3, 4, 5] (lv' := [(0, .ref 83), (1, .ref p1), (3, .ref p3), (4, .int v4), (5, .int v5), (6, .long v6)]) rfl ?_
      exact w_X4_hold_127 p1 hp1 p3 hp3 v4 v5 v6 d
    · refine r_lload_w_5 dX4_hold_63 ?_
      refine r_lstore_w_x dX4_hold_65 (by decide) rfl ?_
      refine r_iconst dX4_hold_67 ki_0 ?_
      refine r_istore_w_x dX4_hold_68 (by decide) rfl ?_
      refine r_sub [2, 3, 4, 5, 6, 7, 9, 1, 0] (lv' := [(0, .ref 83), (1, .ref p1), (3, .ref p3), (4, .int v4), (5, .int v5), (6, .long v6), (9, .int v9), (10, .long v6), (12, .int (0 : Int32))]) rfl ?_
      exact w_X4_hold_70 p1 hp1 p3 hp3 k51 hk51 FU v4 v5 v6 v9 v6 (0 : Int32) d
theorem w_X4_hold_51 {E : XE} (p1 : Nat) (hp1 : kd p1 = 5) (p3 : Nat) (hp3 : kd p3 = 0) (n : Nat) : ∀ (v4 : Int32) (v5 : Int32) (v6 : Int64) (v8 : Int32) (v9 : Int32) (d : DD), AW E si_X4_hold 0 0 (QM E wrU) (f_X4_hold_51 p1 p3 n v4 v5 v6 v8 v9 d) 51 [(0, .ref 83), (1, .ref p1), (3, .ref p3), (4, .int v4), (5, .int v5), (6, .long v6), (8, .int v8), (9, .int v9)] [] d := by
  induction n with
  | zero => intros; exact r_none
  | succ n ih => intro v4 v5 v6 v8 v9 d; exact w_X4_hold_51B p1 hp1 p3 hp3 (f_X4_hold_51 p1 p3 n) ih v4 v5 v6 v8 v9 d
def f_X4_hold (p1 : Nat) (p2 : Int32) (p3 : Nat) (p4 : Int32) (d : DD) : Option (Unit × DD) :=
  (f_X9_at (rf p1 3) p2 d).bind fun q1 =>
  (f_X9_at (rf p1 4) p2 q1.2).bind fun q2 =>
  (f_X4_noteHours q1.1 q2.1 q2.2).bind fun q3 =>
  (f_X9_at (rf p1 5) p2 q3.2).bind fun q4 =>
  bd (((1 : Int64) <<< ((q4.2.1 83 4).toInt64 &&& 63)) - (1 : Int64)) fun x5 =>
  bd (u1 q4.2 83 0 (0 : Int32)) fun d6 =>
  f_X4_hold_51 p1 p3 FU p4 q4.1 x5 (1 : Int32) (0 : Int32) d6
set_option maxRecDepth 100000 in
set_option maxHeartbeats 4000000 in
theorem am_X4_hold (p1 : Nat) (hp1 : kd p1 = 5) (p2 : Int32) (p3 : Nat) (hp3 : kd p3 = 0) (p4 : Int32) (d : DD) : AM wrU mi_X4_hold 3 76 [.ref 83, .ref p1, .int p2, .ref p3, .int p4] d (f_X4_hold p1 p2 p3 p4 d) := by
  refine AM_intro (si := si_X4_hold) (lv := [(0, .ref 83), (1, .ref p1), (2, .int p2), (3, .ref p3), (4, .int p4)]) rfl (by decide +kernel) rfl (Nat.le_of_ble_eq_true rfl) (fun E => ?_)
  unfold f_X4_hold
  refine r_aload_n_0 dX4_hold_0 rfl ?_
  refine r_aload_n_1 dX4_hold_1 rfl ?_
  refine r_getr (t := (rf p1 3)) (cc := 1) 3 hp1 rfl uX1 (by decide) rfl fw_X4_31 rfl dX4_hold_2 ?_
  refine r_iload_n_2 dX4_hold_5 rfl ?_
  refine r_callSNI [.ref 83] (am_X9_at (rf p1 3) (kr_1_3 hp1) p2 d) cf_X9_at wn_X4_36 (by decide) dX4_hold_6 rfl (Nat.le_of_ble_eq_true rfl) ⟨rfl, rfl⟩ (fun q1 => ?_)
  refine r_aload_n_1 dX4_hold_9 rfl ?_
  refine r_getr (t := (rf p1 4)) (cc := 1) 4 hp1 rfl uX1 (by decide) rfl fw_X4_40 rfl dX4_hold_10 ?_
  refine r_iload_n_2 dX4_hold_13 rfl ?_
  refine r_callSNI [.int q1.1, .ref 83] (am_X9_at (rf p1 4) (kr_1_4 hp1) p2 q1.2) cf_X9_at wn_X4_36 (by decide) dX4_hold_14 rfl (Nat.le_of_ble_eq_true rfl) ⟨rfl, rfl⟩ (fun q2 => ?_)
  refine r_callVU (cc := 4) [] (am_X4_noteHours q1.1 q2.1 q2.2) rfl rfl cf_X4_noteHours mw_X4_43 (by decide) dX4_hold_17 rfl (Nat.le_of_ble_eq_true rfl) ⟨rfl, rfl⟩ (fun q3 => ?_)
  refine r_aload_n_1 dX4_hold_20 rfl ?_
  refine r_getr (t := (rf p1 5)) (cc := 1) 5 hp1 rfl uX1 (by decide) rfl fw_X4_47 rfl dX4_hold_21 ?_
  refine r_iload_n_2 dX4_hold_24 rfl ?_
  refine r_callSNI [] (am_X9_at (rf p1 5) (kr_1_5 hp1) p2 q3.2) cf_X9_at wn_X4_36 (by decide) dX4_hold_25 rfl (Nat.le_of_ble_eq_true rfl) ⟨rfl, rfl⟩ (fun q4 => ?_)
  refine r_istore_w_x dX4_hold_28 (by decide) rfl ?_
  refine r_lconst dX4_hold_30 kl_1 ?_
  refine r_aload_n_1 dX4_hold_31 rfl ?_
  refine r_geti (cc := 4) 4 rfl rfl uX4 (by decide) rfl fw_X4_25 dX4_hold_32 ?_
  refine r_lshl dX4_hold_35 ?_
  refine r_lconst dX4_hold_36 kl_1 ?_
  refine r_lsub dX4_hold_37 ?_
  refine r_bdJ (fun x5 => ?_)
  refine r_lstore_w_x dX4_hold_38 (by decide) rfl ?_
  refine r_iconst dX4_hold_40 ki_1 ?_
  refine r_istore_w_x dX4_hold_41 (by decide) rfl ?_
  refine r_aload_n_3 dX4_hold_43 rfl ?_
  refine r_iconst dX4_hold_44 ki_0 ?_
  refine r_puti (cc := 4) 0 tyX4 tyX4_ok nmX4 rfl (by decide +kernel) rfl rfl uX4 (by decide) rfl fw_X4_9 dX4_hold_45 ?_
  refine r_bd (fun d6 => ?_)
  refine r_iconst dX4_hold_48 ki_0 ?_
  refine r_istore_w_x dX4_hold_49 (by decide) rfl ?_
  refine r_sub [4, 5, 7, 8, 3, 2, 1, 0] (lv' := [(0, .ref 83), (1, .ref p1), (3, .ref p3), (4, .int p4), (5, .int q4.1), (6, .long x5), (8, .int (1 : Int32)), (9, .int (0 : Int32))]) rfl ?_
  exact w_X4_hold_51 p1 hp1 p3 hp3 FU p4 q4.1 x5 (1 : Int32) (0 : Int32) d6
theorem cf_X4_hold : CFv mi_X4_hold 4 := ⟨iw_X4_hold, vw_X4_hold, nw_X4, cw_X4_hold, by unfold plainF; decide +kernel⟩
abbrev si_X5_add : SI := (cX5_add, RX5, 4, (some .boolean), 1, 22)
def f_X5_add (p0 : Nat) (p1 : Int32) (p2 : Int32) (p3 : Int32) (d : DD) : Option (Int32 × DD) :=
  if (d.1 p0 0) < (40 : Int32) then
  (f_X9_put (rf p0 1) (d.1 p0 0) p1 d).bind fun q1 =>
    (f_X9_put (rf p0 2) (q1.2.1 p0 0) p2 q1.2).bind fun q2 =>
    (f_X9_put (rf p0 3) (q2.2.1 p0 0) p3 q2.2).bind fun q3 =>
    bd (u1 q3.2 p0 0 ((q3.2.1 p0 0) + (1 : Int32))) fun d4 =>
    some ((1 : Int32), d4)
  else
  some ((0 : Int32), d)
set_option maxRecDepth 100000 in
set_option maxHeartbeats 4000000 in
theorem am_X5_add (p0 : Nat) (hp0 : kd p0 = 9) (p1 : Int32) (p2 : Int32) (p3 : Int32) (d : DD) : AM wrI mi_X5_add 1 22 [.ref p0, .int p1, .int p2, .int p3] d (f_X5_add p0 p1 p2 p3 d) := by
  refine AM_intro (si := si_X5_add) (lv := [(0, .ref p0), (1, .int p1), (2, .int p2), (3, .int p3)]) rfl (by decide +kernel) rfl (Nat.le_of_ble_eq_true rfl) (fun E => ?_)
  unfold f_X5_add
  refine r_aload_n_0 dX5_add_0 rfl ?_
  refine r_geti (cc := 5) 0 hp0 rfl uX5 (by decide) rfl fw_X5_9 dX5_add_1 ?_
  refine r_bipush dX5_add_4 kb_40 ?_
  refine r_icmp_lt (tgt := 11) dX5_add_6 (by decide) ?_ ?_
  · refine r_aload_n_0 dX5_add_11 rfl ?_
    refine r_getr (t := (rf p0 1)) (cc := 5) 1 hp0 rfl uX5 (by decide) rfl fw_X5_15 rfl dX5_add_12 ?_
    refine r_aload_n_0 dX5_add_15 rfl ?_
    refine r_geti (cc := 5) 0 hp0 rfl uX5 (by decide) rfl fw_X5_9 dX5_add_16 ?_
    refine r_iload_n_1 dX5_add_19 rfl ?_
    refine r_callSNU [] (am_X9_put (rf p0 1) (kr_5_1 hp0) (d.1 p0 0) p1 d) cf_X9_put wn_X5_25 (by decide) dX5_add_20 rfl (Nat.le_of_ble_eq_true rfl) ⟨rfl, rfl⟩ (fun q1 => ?_)
    refine r_aload_n_0 dX5_add_23 rfl ?_
    refine r_getr (t := (rf p0 2)) (cc := 5) 2 hp0 rfl uX5 (by decide) rfl fw_X5_19 rfl dX5_add_24 ?_
    refine r_aload_n_0 dX5_add_27 rfl ?_
    refine r_geti (cc := 5) 0 hp0 rfl uX5 (by decide) rfl fw_X5_9 dX5_add_28 ?_
    refine r_iload_n_2 dX5_add_31 rfl ?_
    refine r_callSNU [] (am_X9_put (rf p0 2) (kr_5_2 hp0) (q1.2.1 p0 0) p2 q1.2) cf_X9_put wn_X5_25 (by decide) dX5_add_32 rfl (Nat.le_of_ble_eq_true rfl) ⟨rfl, rfl⟩ (fun q2 => ?_)
    refine r_aload_n_0 dX5_add_35 rfl ?_
    refine r_getr (t := (rf p0 3)) (cc := 5) 3 hp0 rfl uX5 (by decide) rfl fw_X5_22 rfl dX5_add_36 ?_
    refine r_aload_n_0 dX5_add_39 rfl ?_
    refine r_geti (cc := 5) 0 hp0 rfl uX5 (by decide) rfl fw_X5_9 dX5_add_40 ?_
    refine r_iload_n_3 dX5_add_43 rfl ?_
    refine r_callSNU [] (am_X9_put (rf p0 3) (kr_5_3 hp0) (q2.2.1 p0 0) p3 q2.2) cf_X9_put wn_X5_25 (by decide) dX5_add_44 rfl (Nat.le_of_ble_eq_true rfl) ⟨rfl, rfl⟩ (fun q3 => ?_)
    refine r_aload_n_0 dX5_add_47 rfl ?_
    refine r_dupa dX5_add_48 ?_
    refine r_geti (cc := 5) 0 hp0 rfl uX5 (by decide) rfl fw_X5_9 dX5_add_49 ?_
    refine r_iconst dX5_add_52 ki_1 ?_
    refine r_iadd dX5_add_53 ?_
    refine r_puti (cc := 5) 0 tyX5 tyX5_ok nmX5 rfl (by decide +kernel) hp0 rfl uX5 (by decide) rfl fw_X5_9 dX5_add_54 ?_
    refine r_bd (fun d4 => ?_)
    refine r_iconst dX5_add_57 ki_1 ?_
    exact r_zreturn dX5_add_58 rfl rfl
  · refine r_iconst dX5_add_9 ki_0 ?_
    exact r_zreturn dX5_add_10 rfl rfl
theorem cf_X5_add : CFv mi_X5_add 3 := ⟨iw_X5_add, vw_X5_add, nw_X5, cw_X5_add, by unfold plainF; decide +kernel⟩
abbrev si_X6_readKinds : SI := (cX6_readKinds, RX6, 5, (some .int), 3, 66)
def f_X6_readKinds_4B (p1 : Nat) (k4 : Int32 → Int32 → DD → Option (Int32 × DD)) (v2 : Int32) (v3 : Int32) (d : DD) : Option (Int32 × DD) :=
  if (3 : Int32) < v3 then
  some (v2, d)
  else
  (f_X0_sort d).bind fun q1 =>
    if q1.1 = (2 : Int32) then
    some (v2, q1.2)
    else
    (f_X0_peekKind p1 q1.2).bind fun q2 =>
      if q2.1 = (-1 : Int32) then
      some ((-1 : Int32), q2.2)
      else
      if ((iushr v2 q2.1) &&& (1 : Int32)) = (1 : Int32) then
        (f_X0_refuse (3 : Int32) q2.2).bind fun q5 =>
          some (q5.1, q5.2)
        else
        bd (v2 ||| ((1 : Int32) <<< (q2.1 &&& 31))) fun x3 =>
          bd (u1 q2.2 44 1 ((q2.2.1 44 1) + (1 : Int32))) fun d4 =>
          k4 x3 (v3 + (1 : Int32)) d4
def f_X6_readKinds_4 (p1 : Nat) : Nat → Int32 → Int32 → DD → Option (Int32 × DD)
  | 0, _, _, _ => none
  | n + 1, v2, v3, d => f_X6_readKinds_4B p1 (f_X6_readKinds_4 p1 n) v2 v3 d
set_option maxRecDepth 100000 in
set_option maxHeartbeats 4000000 in
theorem w_X6_readKinds_4B {E : XE} (p1 : Nat) (hp1 : kd p1 = 5) (k4 : Int32 → Int32 → DD → Option (Int32 × DD)) (hk4 : ∀ (v2 : Int32) (v3 : Int32) (d : DD), AW E si_X6_readKinds 0 0 (QM E wrI) (k4 v2 v3 d) 4 [(0, .ref 65), (1, .ref p1), (2, .int v2), (3, .int v3)] [] d) (v2 : Int32) (v3 : Int32) (d : DD) : AW E si_X6_readKinds 0 0 (QM E wrI) (f_X6_readKinds_4B p1 k4 v2 v3 d) 4 [(0, .ref 65), (1, .ref p1), (2, .int v2), (3, .int v3)] [] d := by
  unfold f_X6_readKinds_4B
  refine r_iload_n_3 dX6_readKinds_4 rfl ?_
  refine r_iconst dX6_readKinds_5 ki_3 ?_
  refine r_icmp_gt (tgt := 83) dX6_readKinds_6 (by decide) ?_ ?_
  · refine r_iload_n_2 dX6_readKinds_83 rfl ?_
    exact r_ireturn dX6_readKinds_84 rfl
  · refine r_aload_n_0 dX6_readKinds_9 rfl ?_
    refine r_getr (t := 44) (cc := 6) 0 rfl rfl uX6 (by decide) rfl fw_X6_18 rfl dX6_readKinds_10 ?_
    refine r_callVI (cc := 0) [] (am_X0_sort d) rfl rfl cf_X0_sort mw_X6_26 (by decide) dX6_readKinds_13 rfl (Nat.le_of_ble_eq_true rfl) ⟨rfl, rfl⟩ (fun q1 => ?_)
    refine r_iconst dX6_readKinds_16 ki_2 ?_
    refine r_icmp_eq (tgt := 83) dX6_readKinds_17 (by decide) ?_ ?_
    · refine r_iload_n_2 dX6_readKinds_83 rfl ?_
      exact r_ireturn dX6_readKinds_84 rfl
    · refine r_aload_n_0 dX6_readKinds_20 rfl ?_
      refine r_getr (t := 44) (cc := 6) 0 rfl rfl uX6 (by decide) rfl fw_X6_18 rfl dX6_readKinds_21 ?_
      refine r_aload_n_1 dX6_readKinds_24 rfl ?_
      refine r_callVI (cc := 0) [] (am_X0_peekKind p1 hp1 q1.2) rfl rfl cf_X0_peekKind mw_X6_64 (by decide) dX6_readKinds_25 rfl (Nat.le_of_ble_eq_true rfl) ⟨rfl, rfl⟩ (fun q2 => ?_)
      refine r_istore_w_x dX6_readKinds_28 (by decide) rfl ?_
      refine r_iload_w_0 dX6_readKinds_30 ?_
      refine r_iconst dX6_readKinds_32 ki_m1 ?_
      refine r_icmp_ne (tgt := 38) dX6_readKinds_33 (by decide) ?_ ?_
      · refine r_iload_n_3 dX6_readKinds_38 rfl ?_
        refine r_iload_w_0 dX6_readKinds_39 ?_
        refine r_iushr dX6_readKinds_41 ?_
        refine r_iconst dX6_readKinds_42 ki_1 ?_
        refine r_iand dX6_readKinds_43 ?_
        refine r_iconst dX6_readKinds_44 ki_1 ?_
        refine r_icmp_ne (tgt := 57) dX6_readKinds_45 (by decide) ?_ ?_
        · refine r_iload_n_3 dX6_readKinds_57 rfl ?_
          refine r_iconst dX6_readKinds_58 ki_1 ?_
          refine r_iload_w_0 dX6_readKinds_59 ?_
          refine r_ishl dX6_readKinds_61 ?_
          refine r_ior dX6_readKinds_62 ?_
          refine r_bdI (fun x3 => ?_)
          refine r_istore_n_3 dX6_readKinds_63 rfl (by decide) rfl ?_
          refine r_aload_n_1 dX6_readKinds_64 rfl ?_
          refine r_getr (t := 44) (cc := 6) 0 rfl rfl uX6 (by decide) rfl fw_X6_18 rfl dX6_readKinds_65 ?_
          refine r_dupa dX6_readKinds_68 ?_
          refine r_geti (cc := 0) 1 rfl rfl uX0 (by decide) rfl fw_X6_44 dX6_readKinds_69 ?_
          refine r_iconst dX6_readKinds_72 ki_1 ?_
          refine r_iadd dX6_readKinds_73 ?_
          refine r_puti (cc := 0) 1 tyX0 tyX0_ok nmX0 rfl (by decide +kernel) rfl rfl uX0 (by decide) rfl fw_X6_44 dX6_readKinds_74 ?_
          refine r_bd (fun d4 => ?_)
          refine r_iinc_4 dX6_readKinds_77 ki_1 (by decide) rfl ?_
          refine r_goto (tgt := 4) dX6_readKinds_80 (by decide) ?_
          refine r_sub [1, 2, 3, 4] (lv' := [(0, .ref 65), (1, .ref p1), (2, .int x3), (3, .int (v3 + (1 : Int32)))]) rfl ?_
          exact hk4 x3 (v3 + (1 : Int32)) d4
        · refine r_aload_n_1 dX6_readKinds_48 rfl ?_
          refine r_getr (t := 44) (cc := 6) 0 rfl rfl uX6 (by decide) rfl fw_X6_18 rfl dX6_readKinds_49 ?_
          refine r_iconst dX6_readKinds_52 ki_3 ?_
          refine r_callVI (cc := 0) [] (am_X0_refuse (3 : Int32) q2.2) rfl rfl cf_X0_refuse mw_X6_40 (by decide) dX6_readKinds_53 rfl (Nat.le_of_ble_eq_true rfl) ⟨rfl, rfl⟩ (fun q5 => ?_)
          exact r_ireturn dX6_readKinds_56 rfl
      · refine r_iconst dX6_readKinds_36 ki_m1 ?_
        exact r_ireturn dX6_readKinds_37 rfl
theorem w_X6_readKinds_4 {E : XE} (p1 : Nat) (hp1 : kd p1 = 5) (n : Nat) : ∀ (v2 : Int32) (v3 : Int32) (d : DD), AW E si_X6_readKinds 0 0 (QM E wrI) (f_X6_readKinds_4 p1 n v2 v3 d) 4 [(0, .ref 65), (1, .ref p1), (2, .int v2), (3, .int v3)] [] d := by
  induction n with
  | zero => intros; exact r_none
  | succ n ih => intro v2 v3 d; exact w_X6_readKinds_4B p1 hp1 (f_X6_readKinds_4 p1 n) ih v2 v3 d
def f_X6_readKinds (p1 : Nat) (d : DD) : Option (Int32 × DD) :=
  f_X6_readKinds_4 p1 FU (0 : Int32) (0 : Int32) d
set_option maxRecDepth 100000 in
set_option maxHeartbeats 4000000 in
theorem am_X6_readKinds (p1 : Nat) (hp1 : kd p1 = 5) (d : DD) : AM wrI mi_X6_readKinds 3 66 [.ref 65, .ref p1] d (f_X6_readKinds p1 d) := by
  refine AM_intro (si := si_X6_readKinds) (lv := [(0, .ref 65), (1, .ref p1)]) rfl (by decide +kernel) rfl (Nat.le_of_ble_eq_true rfl) (fun E => ?_)
  unfold f_X6_readKinds
  refine r_iconst dX6_readKinds_0 ki_0 ?_
  refine r_istore_n_x dX6_readKinds_1 rfl (by decide) rfl ?_
  refine r_iconst dX6_readKinds_2 ki_0 ?_
  refine r_istore_n_x dX6_readKinds_3 rfl (by decide) rfl ?_
  refine r_sub [2, 3, 1, 0] (lv' := [(0, .ref 65), (1, .ref p1), (2, .int (0 : Int32)), (3, .int (0 : Int32))]) rfl ?_
  exact w_X6_readKinds_4 p1 hp1 FU (0 : Int32) (0 : Int32) d
theorem cf_X6_readKinds : CFv mi_X6_readKinds 1 := ⟨iw_X6_readKinds, vw_X6_readKinds, nw_X6, cw_X6_readKinds, by unfold plainF; decide +kernel⟩
abbrev si_X6_readLine : SI := (cX6_readLine, RX6, 5, (some .boolean), 4, 90)
def f_X6_readLine_77 (p1 : Nat) (v2 : Int32) (v3 : Int32) (t0 : Int32) (d : DD) : Option (Int32 × DD) :=
  if t0 = (-1 : Int32) then
  some ((0 : Int32), d)
  else
  (f_X0_readSemicolon d).bind fun q5 =>
    if q5.1 = 0 then
    some ((0 : Int32), q5.2)
    else
    (f_X5_add 66 v2 v3 t0 q5.2).bind fun q6 =>
      if q6.1 = 0 then
      some ((0 : Int32), q6.2)
      else
      some ((1 : Int32), q6.2)
set_option maxRecDepth 100000 in
set_option maxHeartbeats 4000000 in
theorem w_X6_readLine_77 {E : XE} (p1 : Nat) (hp1 : kd p1 = 5) (v2 : Int32) (v3 : Int32) (t0 : Int32) (d : DD) : AW E si_X6_readLine 0 0 (QM E wrI) (f_X6_readLine_77 p1 v2 v3 t0 d) 77 [(0, .ref 65), (2, .int v2), (3, .int v3)] [.int t0] d := by
  unfold f_X6_readLine_77
  refine r_istore_w_x dX6_readLine_77 (by decide) rfl ?_
  refine r_iload_w_0 dX6_readLine_79 ?_
  refine r_iconst dX6_readLine_81 ki_m1 ?_
  refine r_icmp_eq (tgt := 113) dX6_readLine_82 (by decide) ?_ ?_
  · refine r_iconst dX6_readLine_113 ki_0 ?_
    exact r_zreturn dX6_readLine_114 rfl rfl
  · refine r_aload_n_1 dX6_readLine_85 rfl ?_
    refine r_getr (t := 44) (cc := 6) 0 rfl rfl uX6 (by decide) rfl fw_X6_18 rfl dX6_readLine_86 ?_
    refine r_callVI (cc := 0) [] (am_X0_readSemicolon d) rfl rfl cf_X0_readSemicolon mw_X6_54 (by decide) dX6_readLine_89 rfl (Nat.le_of_ble_eq_true rfl) ⟨rfl, rfl⟩ (fun q5 => ?_)
    refine r_if_eq (tgt := 113) dX6_readLine_92 (by decide) ?_ ?_
    · refine r_iconst dX6_readLine_113 ki_0 ?_
      exact r_zreturn dX6_readLine_114 rfl rfl
    · refine r_aload_n_1 dX6_readLine_95 rfl ?_
      refine r_getr (t := 66) (cc := 6) 1 rfl rfl uX6 (by decide) rfl fw_X6_12 rfl dX6_readLine_96 ?_
      refine r_iload_n_2 dX6_readLine_99 rfl ?_
      refine r_iload_n_3 dX6_readLine_100 rfl ?_
      refine r_iload_w_0 dX6_readLine_101 ?_
      refine r_callVI (cc := 5) [] (am_X5_add 66 rfl v2 v3 t0 q5.2) rfl rfl cf_X5_add mw_X6_58 (by decide) dX6_readLine_103 rfl (Nat.le_of_ble_eq_true rfl) ⟨rfl, rfl⟩ (fun q6 => ?_)
      refine r_if_eq (tgt := 113) dX6_readLine_106 (by decide) ?_ ?_
      · refine r_iconst dX6_readLine_113 ki_0 ?_
        exact r_zreturn dX6_readLine_114 rfl rfl
      · refine r_iconst dX6_readLine_109 ki_1 ?_
        refine r_goto (tgt := 114) dX6_readLine_110 (by decide) ?_
        exact r_zreturn dX6_readLine_114 rfl rfl
def f_X6_readLine (p1 : Nat) (d : DD) : Option (Int32 × DD) :=
  (f_X0_peekPerson p1 d).bind fun q1 =>
  if q1.1 = (-1 : Int32) then
  some ((0 : Int32), q1.2)
  else
  if (q1.2.1 66 0) < (40 : Int32) then
    bd (u1 q1.2 44 1 ((q1.2.1 44 1) + (1 : Int32))) fun d2 =>
      (f_X0_readNumber (0 : Int32) (29 : Int32) d2).bind fun q3 =>
      if q3.1 = (-1 : Int32) then
      f_X6_readLine_77 p1 q1.1 q3.1 (-1 : Int32) q3.2
      else
      (f_X6_readKinds p1 q3.2).bind fun q4 =>
        f_X6_readLine_77 p1 q1.1 q3.1 q4.1 q4.2
    else
    (f_X0_refuse (4 : Int32) q1.2).bind fun q7 =>
      some ((0 : Int32), q7.2)
set_option maxRecDepth 100000 in
set_option maxHeartbeats 4000000 in
theorem am_X6_readLine (p1 : Nat) (hp1 : kd p1 = 5) (d : DD) : AM wrI mi_X6_readLine 4 90 [.ref 65, .ref p1] d (f_X6_readLine p1 d) := by
  refine AM_intro (si := si_X6_readLine) (lv := [(0, .ref 65), (1, .ref p1)]) rfl (by decide +kernel) rfl (Nat.le_of_ble_eq_true rfl) (fun E => ?_)
  unfold f_X6_readLine
  refine r_aload_n_0 dX6_readLine_0 rfl ?_
  refine r_getr (t := 44) (cc := 6) 0 rfl rfl uX6 (by decide) rfl fw_X6_18 rfl dX6_readLine_1 ?_
  refine r_aload_n_1 dX6_readLine_4 rfl ?_
  refine r_callVI (cc := 0) [] (am_X0_peekPerson p1 hp1 d) rfl rfl cf_X0_peekPerson mw_X6_36 (by decide) dX6_readLine_5 rfl (Nat.le_of_ble_eq_true rfl) ⟨rfl, rfl⟩ (fun q1 => ?_)
  refine r_istore_n_x dX6_readLine_8 rfl (by decide) rfl ?_
  refine r_iload_n_0 dX6_readLine_9 rfl ?_
  refine r_iconst dX6_readLine_10 ki_m1 ?_
  refine r_icmp_ne (tgt := 16) dX6_readLine_11 (by decide) ?_ ?_
  · refine r_aload_n_1 dX6_readLine_16 rfl ?_
    refine r_getr (t := 66) (cc := 6) 1 rfl rfl uX6 (by decide) rfl fw_X6_12 rfl dX6_readLine_17 ?_
    refine r_geti (cc := 5) 0 rfl rfl uX5 (by decide) rfl fw_X6_22 dX6_readLine_20 ?_
    refine r_bipush dX6_readLine_23 kb_40 ?_
    refine r_icmp_lt (tgt := 39) dX6_readLine_25 (by decide) ?_ ?_
    · refine r_aload_n_1 dX6_readLine_39 rfl ?_
      refine r_getr (t := 44) (cc := 6) 0 rfl rfl uX6 (by decide) rfl fw_X6_18 rfl dX6_readLine_40 ?_
      refine r_dupa dX6_readLine_43 ?_
      refine r_geti (cc := 0) 1 rfl rfl uX0 (by decide) rfl fw_X6_44 dX6_readLine_44 ?_
      refine r_iconst dX6_readLine_47 ki_1 ?_
      refine r_iadd dX6_readLine_48 ?_
      refine r_puti (cc := 0) 1 tyX0 tyX0_ok nmX0 rfl (by decide +kernel) rfl rfl uX0 (by decide) rfl fw_X6_44 dX6_readLine_49 ?_
      refine r_bd (fun d2 => ?_)
      refine r_aload_n_1 dX6_readLine_52 rfl ?_
      refine r_getr (t := 44) (cc := 6) 0 rfl rfl uX6 (by decide) rfl fw_X6_18 rfl dX6_readLine_53 ?_
      refine r_iconst dX6_readLine_56 ki_0 ?_
      refine r_bipush dX6_readLine_57 kb_29 ?_
      refine r_callVI (cc := 0) [] (am_X0_readNumber (0 : Int32) (29 : Int32) d2) rfl rfl cf_X0_readNumber mw_X6_47 (by decide) dX6_readLine_59 rfl (Nat.le_of_ble_eq_true rfl) ⟨rfl, rfl⟩ (fun q3 => ?_)
      refine r_istore_n_x dX6_readLine_62 rfl (by decide) rfl ?_
      refine r_iload_n_0 dX6_readLine_63 rfl ?_
      refine r_iconst dX6_readLine_64 ki_m1 ?_
      refine r_icmp_ne (tgt := 72) dX6_readLine_65 (by decide) ?_ ?_
      · refine r_aload_n_2 dX6_readLine_72 rfl ?_
        refine r_aload_n_3 dX6_readLine_73 rfl ?_
        refine r_callVI (cc := 6) [] (am_X6_readKinds p1 hp1 q3.2) rfl rfl cf_X6_readKinds mw_X6_51 (by decide) dX6_readLine_74 rfl (Nat.le_of_ble_eq_true rfl) ⟨rfl, rfl⟩ (fun q4 => ?_)
        refine r_sub [2, 1, 0] (lv' := [(0, .ref 65), (2, .int q1.1), (3, .int q3.1)]) rfl ?_
        exact w_X6_readLine_77 p1 hp1 q1.1 q3.1 q4.1 q4.2
      · refine r_iconst dX6_readLine_68 ki_m1 ?_
        refine r_goto (tgt := 77) dX6_readLine_69 (by decide) ?_
        refine r_sub [2, 1, 0] (lv' := [(0, .ref 65), (2, .int q1.1), (3, .int q3.1)]) rfl ?_
        exact w_X6_readLine_77 p1 hp1 q1.1 q3.1 (-1 : Int32) q3.2
    · refine r_aload_n_1 dX6_readLine_28 rfl ?_
      refine r_getr (t := 44) (cc := 6) 0 rfl rfl uX6 (by decide) rfl fw_X6_18 rfl dX6_readLine_29 ?_
      refine r_iconst dX6_readLine_32 ki_4 ?_
      refine r_callVI (cc := 0) [] (am_X0_refuse (4 : Int32) q1.2) rfl rfl cf_X0_refuse mw_X6_40 (by decide) dX6_readLine_33 rfl (Nat.le_of_ble_eq_true rfl) ⟨rfl, rfl⟩ (fun q7 => ?_)
      refine r_popi dX6_readLine_36 ?_
      refine r_iconst dX6_readLine_37 ki_0 ?_
      exact r_zreturn dX6_readLine_38 rfl rfl
  · refine r_iconst dX6_readLine_14 ki_0 ?_
    exact r_zreturn dX6_readLine_15 rfl rfl
theorem cf_X6_readLine : CFv mi_X6_readLine 1 := ⟨iw_X6_readLine, vw_X6_readLine, nw_X6, cw_X6_readLine, by unfold plainF; decide +kernel⟩
abbrev si_X6_readAll : SI := (cX6_readAll, RX6, 3, (some .int), 5, 114)
def f_X6_readAll_10B (p1 : Nat) (k10 : Int32 → DD → Option (Int32 × DD)) (v2 : Int32) (d : DD) : Option (Int32 × DD) :=
  if v2 < (940 : Int32) then
  (f_X0_sort d).bind fun q2 =>
    if q2.1 = 0 then
    some (q2.2.1 66 0, q2.2)
    else
    (f_X6_readLine p1 q2.2).bind fun q3 =>
      if q3.1 = 0 then
      some ((-1 : Int32), q3.2)
      else
      k10 (v2 + (1 : Int32)) q3.2
  else
  some (d.1 66 0, d)
def f_X6_readAll_10 (p1 : Nat) : Nat → Int32 → DD → Option (Int32 × DD)
  | 0, _, _ => none
  | n + 1, v2, d => f_X6_readAll_10B p1 (f_X6_readAll_10 p1 n) v2 d
set_option maxRecDepth 100000 in
set_option maxHeartbeats 4000000 in
theorem w_X6_readAll_10B {E : XE} (p1 : Nat) (hp1 : kd p1 = 5) (k10 : Int32 → DD → Option (Int32 × DD)) (hk10 : ∀ (v2 : Int32) (d : DD), AW E si_X6_readAll 0 0 (QM E wrI) (k10 v2 d) 10 [(0, .ref 65), (1, .ref p1), (2, .int v2)] [] d) (v2 : Int32) (d : DD) : AW E si_X6_readAll 0 0 (QM E wrI) (f_X6_readAll_10B p1 k10 v2 d) 10 [(0, .ref 65), (1, .ref p1), (2, .int v2)] [] d := by
  unfold f_X6_readAll_10B
  refine r_iload_n_2 dX6_readAll_10 rfl ?_
  refine r_sipush dX6_readAll_11 ks_940 ?_
  refine r_icmp_ge (tgt := 43) dX6_readAll_14 (by decide) ?_ ?_
  · refine r_aload_n_0 dX6_readAll_43 rfl ?_
    refine r_getr (t := 66) (cc := 6) 1 rfl rfl uX6 (by decide) rfl fw_X6_12 rfl dX6_readAll_44 ?_
    refine r_geti (cc := 5) 0 rfl rfl uX5 (by decide) rfl fw_X6_22 dX6_readAll_47 ?_
    exact r_ireturn dX6_readAll_50 rfl
  · refine r_aload_n_0 dX6_readAll_17 rfl ?_
    refine r_getr (t := 44) (cc := 6) 0 rfl rfl uX6 (by decide) rfl fw_X6_18 rfl dX6_readAll_18 ?_
    refine r_callVI (cc := 0) [] (am_X0_sort d) rfl rfl cf_X0_sort mw_X6_26 (by decide) dX6_readAll_21 rfl (Nat.le_of_ble_eq_true rfl) ⟨rfl, rfl⟩ (fun q2 => ?_)
    refine r_if_eq (tgt := 43) dX6_readAll_24 (by decide) ?_ ?_
    · refine r_aload_n_0 dX6_readAll_43 rfl ?_
      refine r_getr (t := 66) (cc := 6) 1 rfl rfl uX6 (by decide) rfl fw_X6_12 rfl dX6_readAll_44 ?_
      refine r_geti (cc := 5) 0 rfl rfl uX5 (by decide) rfl fw_X6_22 dX6_readAll_47 ?_
      exact r_ireturn dX6_readAll_50 rfl
    · refine r_aload_n_0 dX6_readAll_27 rfl ?_
      refine r_aload_n_1 dX6_readAll_28 rfl ?_
      refine r_callVI (cc := 6) [] (am_X6_readLine p1 hp1 q2.2) rfl rfl cf_X6_readLine mw_X6_32 (by decide) dX6_readAll_29 rfl (Nat.le_of_ble_eq_true rfl) ⟨rfl, rfl⟩ (fun q3 => ?_)
      refine r_if_ne (tgt := 37) dX6_readAll_32 (by decide) ?_ ?_
      · refine r_iinc_2 dX6_readAll_37 ki_1 (by decide) rfl ?_
        refine r_goto (tgt := 10) dX6_readAll_40 (by decide) ?_
        exact hk10 (v2 + (1 : Int32)) q3.2
      · refine r_iconst dX6_readAll_35 ki_m1 ?_
        exact r_ireturn dX6_readAll_36 rfl
theorem w_X6_readAll_10 {E : XE} (p1 : Nat) (hp1 : kd p1 = 5) (n : Nat) : ∀ (v2 : Int32) (d : DD), AW E si_X6_readAll 0 0 (QM E wrI) (f_X6_readAll_10 p1 n v2 d) 10 [(0, .ref 65), (1, .ref p1), (2, .int v2)] [] d := by
  induction n with
  | zero => intros; exact r_none
  | succ n ih => intro v2 d; exact w_X6_readAll_10B p1 hp1 (f_X6_readAll_10 p1 n) ih v2 d
def f_X6_readAll (p1 : Nat) (d : DD) : Option (Int32 × DD) :=
  bd (u1 d 66 0 (0 : Int32)) fun d1 =>
  f_X6_readAll_10 p1 FU (0 : Int32) d1
set_option maxRecDepth 100000 in
set_option maxHeartbeats 4000000 in
theorem am_X6_readAll (p1 : Nat) (hp1 : kd p1 = 5) (d : DD) : AM wrI mi_X6_readAll 5 114 [.ref 65, .ref p1] d (f_X6_readAll p1 d) := by
  refine AM_intro (si := si_X6_readAll) (lv := [(0, .ref 65), (1, .ref p1)]) rfl (by decide +kernel) rfl (Nat.le_of_ble_eq_true rfl) (fun E => ?_)
  unfold f_X6_readAll
  refine r_aload_n_0 dX6_readAll_0 rfl ?_
  refine r_getr (t := 66) (cc := 6) 1 rfl rfl uX6 (by decide) rfl fw_X6_12 rfl dX6_readAll_1 ?_
  refine r_iconst dX6_readAll_4 ki_0 ?_
  refine r_puti (cc := 5) 0 tyX5 tyX5_ok nmX5 rfl (by decide +kernel) rfl rfl uX5 (by decide) rfl fw_X6_22 dX6_readAll_5 ?_
  refine r_bd (fun d1 => ?_)
  refine r_iconst dX6_readAll_8 ki_0 ?_
  refine r_istore_n_x dX6_readAll_9 rfl (by decide) rfl ?_
  refine r_sub [1, 2, 0] (lv' := [(0, .ref 65), (1, .ref p1), (2, .int (0 : Int32))]) rfl ?_
  exact w_X6_readAll_10 p1 hp1 FU (0 : Int32) d1
theorem cf_X6_readAll : CFv mi_X6_readAll 1 := ⟨iw_X6_readAll, vw_X6_readAll, nw_X6, cw_X6_readAll, by unfold plainF; decide +kernel⟩
abbrev si_X8_branchTime : SI := (cX8_branchTime, RX8, 3, (some .long), 1, 21)
def f_X8_branchTime (p1 : Int32) (p2 : Int32) (d : DD) : Option (Int64 × DD) :=
  (f_X9_longAt 77 ((p1 * (3 : Int32)) + p2) d).bind fun q1 =>
  some (q1.1, q1.2)
set_option maxRecDepth 100000 in
set_option maxHeartbeats 4000000 in
theorem am_X8_branchTime (p1 : Int32) (p2 : Int32) (d : DD) : AM wrL mi_X8_branchTime 1 21 [.ref 72, .int p1, .int p2] d (f_X8_branchTime p1 p2 d) := by
  refine AM_intro (si := si_X8_branchTime) (lv := [(0, .ref 72), (1, .int p1), (2, .int p2)]) rfl (by decide +kernel) rfl (Nat.le_of_ble_eq_true rfl) (fun E => ?_)
  unfold f_X8_branchTime
  refine r_aload_n_0 dX8_branchTime_0 rfl ?_
  refine r_getr (t := 77) (cc := 8) 8 rfl rfl uX8 (by decide) rfl fw_X8_35 rfl dX8_branchTime_1 ?_
  refine r_iload_n_1 dX8_branchTime_4 rfl ?_
  refine r_iconst dX8_branchTime_5 ki_3 ?_
  refine r_imul dX8_branchTime_6 ?_
  refine r_iload_n_2 dX8_branchTime_7 rfl ?_
  refine r_iadd dX8_branchTime_8 ?_
  refine r_callSNL [] (am_X9_longAt 77 rfl ((p1 * (3 : Int32)) + p2) d) cf_X9_longAt wn_X8_123 (by decide) dX8_branchTime_9 rfl (Nat.le_of_ble_eq_true rfl) ⟨rfl, rfl⟩ (fun q1 => ?_)
  exact r_lreturn dX8_branchTime_12 rfl
theorem cf_X8_branchTime : CFv mi_X8_branchTime 2 := ⟨iw_X8_branchTime, vw_X8_branchTime, nw_X8, cw_X8_branchTime, by unfold plainF; decide +kernel⟩
abbrev si_X8_addBranch : SI := (cX8_addBranch, RX8, 7, none, 2, 43)
def f_X8_addBranch_14B (k14 : Int32 → Int32 → Int32 → Int32 → DD → Option (Unit × DD)) (v1 : Int32) (v2 : Int32) (v3 : Int32) (v4 : Int32) (d : DD) : Option (Unit × DD) :=
  if v4 < (3 : Int32) then
  (f_X8_branchTime v1 v4 d).bind fun q5 =>
    (f_X9_longAt 75 ((v2 * (3 : Int32)) + v4) q5.2).bind fun q6 =>
    bd (q5.1 &&& q6.1) fun x7 =>
    if x7 = (0 : Int64) then
    some ((), q6.2)
    else
    (f_X9_putLong 77 (((q6.2.1 72 6) * (3 : Int32)) + v4) x7 q6.2).bind fun q8 =>
      k14 v1 v2 v3 (v4 + (1 : Int32)) q8.2
  else
  (f_X9_at 76 v1 d).bind fun q1 =>
    (f_X9_at 74 v2 q1.2).bind fun q2 =>
    (f_X9_put 76 (d.1 72 6) (q1.1 ||| (q2.1 <<< (((8 : Int32) * v3) &&& 31))) q2.2).bind fun q3 =>
    bd (u1 q3.2 72 6 ((q3.2.1 72 6) + (1 : Int32))) fun d4 =>
    some ((), d4)
def f_X8_addBranch_14 : Nat → Int32 → Int32 → Int32 → Int32 → DD → Option (Unit × DD)
  | 0, _, _, _, _, _ => none
  | n + 1, v1, v2, v3, v4, d => f_X8_addBranch_14B (f_X8_addBranch_14 n) v1 v2 v3 v4 d
set_option maxRecDepth 100000 in
set_option maxHeartbeats 4000000 in
theorem w_X8_addBranch_14B {E : XE} (k14 : Int32 → Int32 → Int32 → Int32 → DD → Option (Unit × DD)) (hk14 : ∀ (v1 : Int32) (v2 : Int32) (v3 : Int32) (v4 : Int32) (d : DD), AW E si_X8_addBranch 0 0 (QM E wrU) (k14 v1 v2 v3 v4 d) 14 [(0, .ref 72), (1, .int v1), (2, .int v2), (3, .int v3), (4, .int v4)] [] d) (v1 : Int32) (v2 : Int32) (v3 : Int32) (v4 : Int32) (d : DD) : AW E si_X8_addBranch 0 0 (QM E wrU) (f_X8_addBranch_14B k14 v1 v2 v3 v4 d) 14 [(0, .ref 72), (1, .int v1), (2, .int v2), (3, .int v3), (4, .int v4)] [] d := by
  unfold f_X8_addBranch_14B
  refine r_iload_w_4 dX8_addBranch_14 ?_
  refine r_iconst dX8_addBranch_16 ki_3 ?_
  refine r_icmp_ge (tgt := 75) dX8_addBranch_17 (by decide) ?_ ?_
  · refine r_aload_n_0 dX8_addBranch_75 rfl ?_
    refine r_getr (t := 76) (cc := 8) 7 rfl rfl uX8 (by decide) rfl fw_X8_32 rfl dX8_addBranch_76 ?_
    refine r_aload_n_0 dX8_addBranch_79 rfl ?_
    refine r_geti (cc := 8) 6 rfl rfl uX8 (by decide) rfl fw_X8_29 dX8_addBranch_80 ?_
    refine r_aload_n_0 dX8_addBranch_83 rfl ?_
    refine r_getr (t := 76) (cc := 8) 7 rfl rfl uX8 (by decide) rfl fw_X8_32 rfl dX8_addBranch_84 ?_
    refine r_iload_n_1 dX8_addBranch_87 rfl ?_
    refine r_callSNI [.int (d.1 72 6), .ref 76] (am_X9_at 76 rfl v1 d) cf_X9_at wn_X8_98 (by decide) dX8_addBranch_88 rfl (Nat.le_of_ble_eq_true rfl) ⟨rfl, rfl⟩ (fun q1 => ?_)
    refine r_aload_n_0 dX8_addBranch_91 rfl ?_
    refine r_getr (t := 74) (cc := 8) 3 rfl rfl uX8 (by decide) rfl fw_X8_19 rfl dX8_addBranch_92 ?_
    refine r_iload_n_2 dX8_addBranch_95 rfl ?_
    refine r_callSNI [.int q1.1, .int (d.1 72 6), .ref 76] (am_X9_at 74 rfl v2 q1.2) cf_X9_at wn_X8_98 (by decide) dX8_addBranch_96 rfl (Nat.le_of_ble_eq_true rfl) ⟨rfl, rfl⟩ (fun q2 => ?_)
    refine r_bipush dX8_addBranch_99 kb_8 ?_
    refine r_iload_n_3 dX8_addBranch_101 rfl ?_
    refine r_imul dX8_addBranch_102 ?_
    refine r_ishl dX8_addBranch_103 ?_
    refine r_ior dX8_addBranch_104 ?_
    refine r_callSNU [] (am_X9_put 76 rfl (d.1 72 6) (q1.1 ||| (q2.1 <<< (((8 : Int32) * v3) &&& 31))) q2.2) cf_X9_put wn_X8_131 (by decide) dX8_addBranch_105 rfl (Nat.le_of_ble_eq_true rfl) ⟨rfl, rfl⟩ (fun q3 => ?_)
    refine r_aload_n_0 dX8_addBranch_108 rfl ?_
    refine r_dupa dX8_addBranch_109 ?_
    refine r_geti (cc := 8) 6 rfl rfl uX8 (by decide) rfl fw_X8_29 dX8_addBranch_110 ?_
    refine r_iconst dX8_addBranch_113 ki_1 ?_
    refine r_iadd dX8_addBranch_114 ?_
    refine r_puti (cc := 8) 6 tyX8 tyX8_ok nmX8 rfl (by decide +kernel) rfl rfl uX8 (by decide) rfl fw_X8_29 dX8_addBranch_115 ?_
    refine r_bd (fun d4 => ?_)
    exact r_return dX8_addBranch_118 rfl
  · refine r_aload_n_0 dX8_addBranch_20 rfl ?_
    refine r_iload_n_1 dX8_addBranch_21 rfl ?_
    refine r_iload_w_4 dX8_addBranch_22 ?_
    refine r_callVL (cc := 8) [] (am_X8_branchTime v1 v4 d) rfl rfl cf_X8_branchTime mw_X8_161 (by decide) dX8_addBranch_24 rfl (Nat.le_of_ble_eq_true rfl) ⟨rfl, rfl⟩ (fun q5 => ?_)
    refine r_aload_n_0 dX8_addBranch_27 rfl ?_
    refine r_getr (t := 75) (cc := 8) 4 rfl rfl uX8 (by decide) rfl fw_X8_23 rfl dX8_addBranch_28 ?_
    refine r_iload_n_2 dX8_addBranch_31 rfl ?_
    refine r_iconst dX8_addBranch_32 ki_3 ?_
    refine r_imul dX8_addBranch_33 ?_
    refine r_iload_w_4 dX8_addBranch_34 ?_
    refine r_iadd dX8_addBranch_36 ?_
    refine r_callSNL [.long q5.1] (am_X9_longAt 75 rfl ((v2 * (3 : Int32)) + v4) q5.2) cf_X9_longAt wn_X8_123 (by decide) dX8_addBranch_37 rfl (Nat.le_of_ble_eq_true rfl) ⟨rfl, rfl⟩ (fun q6 => ?_)
    refine r_land dX8_addBranch_40 ?_
    refine r_bdJ (fun x7 => ?_)
    refine r_lstore_w_x dX8_addBranch_41 (by decide) rfl ?_
    refine r_lload_w_0 dX8_addBranch_43 ?_
    refine r_lconst dX8_addBranch_45 kl_0 ?_
    refine r_lcmp_ne (tgt := 51) dX8_addBranch_46 dX8_addBranch_47 (by decide) ?_ ?_
    · refine r_aload_n_1 dX8_addBranch_51 rfl ?_
      refine r_getr (t := 77) (cc := 8) 8 rfl rfl uX8 (by decide) rfl fw_X8_35 rfl dX8_addBranch_52 ?_
      refine r_aload_n_1 dX8_addBranch_55 rfl ?_
      refine r_geti (cc := 8) 6 rfl rfl uX8 (by decide) rfl fw_X8_29 dX8_addBranch_56 ?_
      refine r_iconst dX8_addBranch_59 ki_3 ?_
      refine r_imul dX8_addBranch_60 ?_
      refine r_iload_w_5 dX8_addBranch_61 ?_
      refine r_iadd dX8_addBranch_63 ?_
      refine r_lload_w_0 dX8_addBranch_64 ?_
      refine r_callSNU [] (am_X9_putLong 77 rfl (((q6.2.1 72 6) * (3 : Int32)) + v4) x7 q6.2) cf_X9_putLong wn_X8_127 (by decide) dX8_addBranch_66 rfl (Nat.le_of_ble_eq_true rfl) ⟨rfl, rfl⟩ (fun q8 => ?_)
      refine r_iinc_5 dX8_addBranch_69 ki_1 (by decide) rfl ?_
      refine r_goto (tgt := 14) dX8_addBranch_72 (by decide) ?_
      refine r_sub [1, 2, 3, 4, 5] (lv' := [(0, .ref 72), (1, .int v1), (2, .int v2), (3, .int v3), (4, .int (v4 + (1 : Int32)))]) rfl ?_
      exact hk14 v1 v2 v3 (v4 + (1 : Int32)) q8.2
    · exact r_return dX8_addBranch_50 rfl
theorem w_X8_addBranch_14 {E : XE} (n : Nat) : ∀ (v1 : Int32) (v2 : Int32) (v3 : Int32) (v4 : Int32) (d : DD), AW E si_X8_addBranch 0 0 (QM E wrU) (f_X8_addBranch_14 n v1 v2 v3 v4 d) 14 [(0, .ref 72), (1, .int v1), (2, .int v2), (3, .int v3), (4, .int v4)] [] d := by
  induction n with
  | zero => intros; exact r_none
  | succ n ih => intro v1 v2 v3 v4 d; exact w_X8_addBranch_14B (f_X8_addBranch_14 n) ih v1 v2 v3 v4 d
def f_X8_addBranch (p1 : Int32) (p2 : Int32) (p3 : Int32) (d : DD) : Option (Unit × DD) :=
  if (d.1 72 6) < (781 : Int32) then
  f_X8_addBranch_14 FU p1 p2 p3 (0 : Int32) d
  else
  some ((), d)
set_option maxRecDepth 100000 in
set_option maxHeartbeats 4000000 in
theorem am_X8_addBranch (p1 : Int32) (p2 : Int32) (p3 : Int32) (d : DD) : AM wrU mi_X8_addBranch 2 43 [.ref 72, .int p1, .int p2, .int p3] d (f_X8_addBranch p1 p2 p3 d) := by
  refine AM_intro (si := si_X8_addBranch) (lv := [(0, .ref 72), (1, .int p1), (2, .int p2), (3, .int p3)]) rfl (by decide +kernel) rfl (Nat.le_of_ble_eq_true rfl) (fun E => ?_)
  unfold f_X8_addBranch
  refine r_aload_n_0 dX8_addBranch_0 rfl ?_
  refine r_geti (cc := 8) 6 rfl rfl uX8 (by decide) rfl fw_X8_29 dX8_addBranch_1 ?_
  refine r_sipush dX8_addBranch_4 ks_781 ?_
  refine r_icmp_lt (tgt := 11) dX8_addBranch_7 (by decide) ?_ ?_
  · refine r_iconst dX8_addBranch_11 ki_0 ?_
    refine r_istore_w_x dX8_addBranch_12 (by decide) rfl ?_
    refine r_sub [1, 2, 3, 4, 0] (lv' := [(0, .ref 72), (1, .int p1), (2, .int p2), (3, .int p3), (4, .int (0 : Int32))]) rfl ?_
    exact w_X8_addBranch_14 FU p1 p2 p3 (0 : Int32) d
  · exact r_return dX8_addBranch_10 rfl
theorem cf_X8_addBranch : CFv mi_X8_addBranch 3 := ⟨iw_X8_addBranch, vw_X8_addBranch, nw_X8, cw_X8_addBranch, by unfold plainF; decide +kernel⟩
abbrev si_X8_addTold : SI := (cX8_addTold, RX8, 5, none, 1, 23)
def f_X8_addTold_19B (k2 : Int32 → Int32 → DD → Option (Unit × DD)) (k19 : Int32 → Int32 → Int32 → DD → Option (Unit × DD)) (v1 : Int32) (v2 : Int32) (v3 : Int32) (d : DD) : Option (Unit × DD) :=
  if v3 < ((1 : Int32) <<< ((d.1 2 0) &&& 31)) then
  (f_X9_toldBy v2 v3 d).bind fun q1 =>
    (f_X9_longAt 82 q1.1 q1.2).bind fun q2 =>
    (f_X9_longAt 81 v3 q2.2).bind fun q3 =>
    (f_X9_putLong 82 q1.1 (q2.1 + q3.1) q3.2).bind fun q4 =>
    k19 v1 v2 (v3 + (1 : Int32)) q4.2
  else
  k2 v1 (v2 + (1 : Int32)) d
def f_X8_addTold_19 (k2 : Int32 → Int32 → DD → Option (Unit × DD)) : Nat → Int32 → Int32 → Int32 → DD → Option (Unit × DD)
  | 0, _, _, _, _ => none
  | n + 1, v1, v2, v3, d => f_X8_addTold_19B k2 (f_X8_addTold_19 k2 n) v1 v2 v3 d
set_option maxRecDepth 100000 in
set_option maxHeartbeats 4000000 in
theorem w_X8_addTold_19B {E : XE} (k2 : Int32 → Int32 → DD → Option (Unit × DD)) (hk2 : ∀ (v1 : Int32) (v2 : Int32) (d : DD), AW E si_X8_addTold 0 0 (QM E wrU) (k2 v1 v2 d) 2 [(0, .ref 72), (1, .int v1), (2, .int v2)] [] d) (k19 : Int32 → Int32 → Int32 → DD → Option (Unit × DD)) (hk19 : ∀ (v1 : Int32) (v2 : Int32) (v3 : Int32) (d : DD), AW E si_X8_addTold 0 0 (QM E wrU) (k19 v1 v2 v3 d) 19 [(0, .ref 72), (1, .int v1), (2, .int v2), (3, .int v3)] [] d) (v1 : Int32) (v2 : Int32) (v3 : Int32) (d : DD) : AW E si_X8_addTold 0 0 (QM E wrU) (f_X8_addTold_19B k2 k19 v1 v2 v3 d) 19 [(0, .ref 72), (1, .int v1), (2, .int v2), (3, .int v3)] [] d := by
  unfold f_X8_addTold_19B
  refine r_iload_n_3 dX8_addTold_19 rfl ?_
  refine r_iconst dX8_addTold_20 ki_1 ?_
  refine r_aload_n_0 dX8_addTold_21 rfl ?_
  refine r_getr (t := 2) (cc := 8) 0 rfl rfl uX8 (by decide) rfl fw_X8_53 rfl dX8_addTold_22 ?_
  refine r_geti (cc := 1) 0 rfl rfl uX1 (by decide) rfl fw_X8_108 dX8_addTold_25 ?_
  refine r_ishl dX8_addTold_28 ?_
  refine r_icmp_ge (tgt := 72) dX8_addTold_29 (by decide) ?_ ?_
  · refine r_iinc_2 dX8_addTold_72 ki_1 (by decide) rfl ?_
    refine r_goto (tgt := 2) dX8_addTold_75 (by decide) ?_
    refine r_sub [0, 1, 2] (lv' := [(0, .ref 72), (1, .int v1), (2, .int (v2 + (1 : Int32)))]) rfl ?_
    exact hk2 v1 (v2 + (1 : Int32)) d
  · refine r_iload_n_2 dX8_addTold_32 rfl ?_
    refine r_iload_n_3 dX8_addTold_33 rfl ?_
    refine r_callSNI [] (am_X9_toldBy v2 v3 d) cf_X9_toldBy wn_X8_201 (by decide) dX8_addTold_34 rfl (Nat.le_of_ble_eq_true rfl) ⟨rfl, rfl⟩ (fun q1 => ?_)
    refine r_istore_w_x dX8_addTold_37 (by decide) rfl ?_
    refine r_aload_n_1 dX8_addTold_39 rfl ?_
    refine r_getr (t := 82) (cc := 8) 13 rfl rfl uX8 (by decide) rfl fw_X8_50 rfl dX8_addTold_40 ?_
    refine r_iload_w_0 dX8_addTold_43 ?_
    refine r_aload_n_1 dX8_addTold_45 rfl ?_
    refine r_getr (t := 82) (cc := 8) 13 rfl rfl uX8 (by decide) rfl fw_X8_50 rfl dX8_addTold_46 ?_
    refine r_iload_w_0 dX8_addTold_49 ?_
    refine r_callSNL [.int q1.1, .ref 82] (am_X9_longAt 82 rfl q1.1 q1.2) cf_X9_longAt wn_X8_123 (by decide) dX8_addTold_51 rfl (Nat.le_of_ble_eq_true rfl) ⟨rfl, rfl⟩ (fun q2 => ?_)
    refine r_aload_n_1 dX8_addTold_54 rfl ?_
    refine r_getr (t := 81) (cc := 8) 12 rfl rfl uX8 (by decide) rfl fw_X8_47 rfl dX8_addTold_55 ?_
    refine r_iload_n_4 dX8_addTold_58 rfl ?_
    refine r_callSNL [.long q2.1, .int q1.1, .ref 82] (am_X9_longAt 81 rfl v3 q2.2) cf_X9_longAt wn_X8_123 (by decide) dX8_addTold_59 rfl (Nat.le_of_ble_eq_true rfl) ⟨rfl, rfl⟩ (fun q3 => ?_)
    refine r_ladd dX8_addTold_62 ?_
    refine r_callSNU [] (am_X9_putLong 82 rfl q1.1 (q2.1 + q3.1) q3.2) cf_X9_putLong wn_X8_127 (by decide) dX8_addTold_63 rfl (Nat.le_of_ble_eq_true rfl) ⟨rfl, rfl⟩ (fun q4 => ?_)
    refine r_iinc_4 dX8_addTold_66 ki_1 (by decide) rfl ?_
    refine r_goto (tgt := 19) dX8_addTold_69 (by decide) ?_
    refine r_sub [1, 2, 3, 4] (lv' := [(0, .ref 72), (1, .int v1), (2, .int v2), (3, .int (v3 + (1 : Int32)))]) rfl ?_
    exact hk19 v1 v2 (v3 + (1 : Int32)) q4.2
theorem w_X8_addTold_19 {E : XE} (k2 : Int32 → Int32 → DD → Option (Unit × DD)) (hk2 : ∀ (v1 : Int32) (v2 : Int32) (d : DD), AW E si_X8_addTold 0 0 (QM E wrU) (k2 v1 v2 d) 2 [(0, .ref 72), (1, .int v1), (2, .int v2)] [] d) (n : Nat) : ∀ (v1 : Int32) (v2 : Int32) (v3 : Int32) (d : DD), AW E si_X8_addTold 0 0 (QM E wrU) (f_X8_addTold_19 k2 n v1 v2 v3 d) 19 [(0, .ref 72), (1, .int v1), (2, .int v2), (3, .int v3)] [] d := by
  induction n with
  | zero => intros; exact r_none
  | succ n ih => intro v1 v2 v3 d; exact w_X8_addTold_19B k2 hk2 (f_X8_addTold_19 k2 n) ih v1 v2 v3 d
def f_X8_addTold_2B (k2 : Int32 → Int32 → DD → Option (Unit × DD)) (v1 : Int32) (v2 : Int32) (d : DD) : Option (Unit × DD) :=
  if v2 < (8 : Int32) then
  if ((iushr v1 v2) &&& (1 : Int32)) = (1 : Int32) then
    f_X8_addTold_19 k2 FU v1 v2 (0 : Int32) d
    else
    k2 v1 (v2 + (1 : Int32)) d
  else
  some ((), d)
def f_X8_addTold_2 : Nat → Int32 → Int32 → DD → Option (Unit × DD)
  | 0, _, _, _ => none
  | n + 1, v1, v2, d => f_X8_addTold_2B (f_X8_addTold_2 n) v1 v2 d
set_option maxRecDepth 100000 in
set_option maxHeartbeats 4000000 in
theorem w_X8_addTold_2B {E : XE} (k2 : Int32 → Int32 → DD → Option (Unit × DD)) (hk2 : ∀ (v1 : Int32) (v2 : Int32) (d : DD), AW E si_X8_addTold 0 0 (QM E wrU) (k2 v1 v2 d) 2 [(0, .ref 72), (1, .int v1), (2, .int v2)] [] d) (v1 : Int32) (v2 : Int32) (d : DD) : AW E si_X8_addTold 0 0 (QM E wrU) (f_X8_addTold_2B k2 v1 v2 d) 2 [(0, .ref 72), (1, .int v1), (2, .int v2)] [] d := by
  unfold f_X8_addTold_2B
  refine r_iload_n_2 dX8_addTold_2 rfl ?_
  refine r_bipush dX8_addTold_3 kb_8 ?_
  refine r_icmp_ge (tgt := 78) dX8_addTold_5 (by decide) ?_ ?_
  · exact r_return dX8_addTold_78 rfl
  · refine r_iload_n_1 dX8_addTold_8 rfl ?_
    refine r_iload_n_2 dX8_addTold_9 rfl ?_
    refine r_iushr dX8_addTold_10 ?_
    refine r_iconst dX8_addTold_11 ki_1 ?_
    refine r_iand dX8_addTold_12 ?_
    refine r_iconst dX8_addTold_13 ki_1 ?_
    refine r_icmp_ne (tgt := 72) dX8_addTold_14 (by decide) ?_ ?_
    · refine r_iinc_2 dX8_addTold_72 ki_1 (by decide) rfl ?_
      refine r_goto (tgt := 2) dX8_addTold_75 (by decide) ?_
      exact hk2 v1 (v2 + (1 : Int32)) d
    · refine r_iconst dX8_addTold_17 ki_0 ?_
      refine r_istore_n_x dX8_addTold_18 rfl (by decide) rfl ?_
      refine r_sub [1, 2, 3, 0] (lv' := [(0, .ref 72), (1, .int v1), (2, .int v2), (3, .int (0 : Int32))]) rfl ?_
      exact w_X8_addTold_19 k2 hk2 FU v1 v2 (0 : Int32) d
theorem w_X8_addTold_2 {E : XE} (n : Nat) : ∀ (v1 : Int32) (v2 : Int32) (d : DD), AW E si_X8_addTold 0 0 (QM E wrU) (f_X8_addTold_2 n v1 v2 d) 2 [(0, .ref 72), (1, .int v1), (2, .int v2)] [] d := by
  induction n with
  | zero => intros; exact r_none
  | succ n ih => intro v1 v2 d; exact w_X8_addTold_2B (f_X8_addTold_2 n) ih v1 v2 d
def f_X8_addTold (p1 : Int32) (d : DD) : Option (Unit × DD) :=
  f_X8_addTold_2 FU p1 (0 : Int32) d
set_option maxRecDepth 100000 in
set_option maxHeartbeats 4000000 in
theorem am_X8_addTold (p1 : Int32) (d : DD) : AM wrU mi_X8_addTold 1 23 [.ref 72, .int p1] d (f_X8_addTold p1 d) := by
  refine AM_intro (si := si_X8_addTold) (lv := [(0, .ref 72), (1, .int p1)]) rfl (by decide +kernel) rfl (Nat.le_of_ble_eq_true rfl) (fun E => ?_)
  unfold f_X8_addTold
  refine r_iconst dX8_addTold_0 ki_0 ?_
  refine r_istore_n_x dX8_addTold_1 rfl (by decide) rfl ?_
  refine r_sub [1, 2, 0] (lv' := [(0, .ref 72), (1, .int p1), (2, .int (0 : Int32))]) rfl ?_
  exact w_X8_addTold_2 FU p1 (0 : Int32) d
theorem cf_X8_addTold : CFv mi_X8_addTold 1 := ⟨iw_X8_addTold, vw_X8_addTold, nw_X8, cw_X8_addTold, by unfold plainF; decide +kernel⟩
abbrev si_X8_pick : SI := (cX8_pick, RX8, 4, none, 1, 23)
def f_X8_pick (p1 : Int32) (p2 : Int64) (d : DD) : Option (Unit × DD) :=
  (f_X9_putLong 78 p1 p2 d).bind fun q1 =>
  some ((), q1.2)
set_option maxRecDepth 100000 in
set_option maxHeartbeats 4000000 in
theorem am_X8_pick (p1 : Int32) (p2 : Int64) (d : DD) : AM wrU mi_X8_pick 1 23 [.ref 72, .int p1, .long p2] d (f_X8_pick p1 p2 d) := by
  refine AM_intro (si := si_X8_pick) (lv := [(0, .ref 72), (1, .int p1), (2, .long p2)]) rfl (by decide +kernel) rfl (Nat.le_of_ble_eq_true rfl) (fun E => ?_)
  unfold f_X8_pick
  refine r_aload_n_0 dX8_pick_0 rfl ?_
  refine r_getr (t := 78) (cc := 8) 9 rfl rfl uX8 (by decide) rfl fw_X8_38 rfl dX8_pick_1 ?_
  refine r_iload_n_1 dX8_pick_4 rfl ?_
  refine r_lload_n_2 dX8_pick_5 rfl ?_
  refine r_callSNU [] (am_X9_putLong 78 rfl p1 p2 d) cf_X9_putLong wn_X8_127 (by decide) dX8_pick_6 rfl (Nat.le_of_ble_eq_true rfl) ⟨rfl, rfl⟩ (fun q1 => ?_)
  exact r_return dX8_pick_9 rfl
theorem cf_X8_pick : CFv mi_X8_pick 2 := ⟨iw_X8_pick, vw_X8_pick, nw_X8, cw_X8_pick, by unfold plainF; decide +kernel⟩
abbrev si_X8_waysIn : SI := (cX8_waysIn, RX8, 3, (some .int), 1, 21)
def f_X8_waysIn (p1 : Int32) (p2 : Int32) (d : DD) : Option (Int32 × DD) :=
  (f_X9_at 76 p1 d).bind fun q1 =>
  some ((iushr q1.1 ((8 : Int32) * p2)) &&& (255 : Int32), q1.2)
set_option maxRecDepth 100000 in
set_option maxHeartbeats 4000000 in
theorem am_X8_waysIn (p1 : Int32) (p2 : Int32) (d : DD) : AM wrI mi_X8_waysIn 1 21 [.ref 72, .int p1, .int p2] d (f_X8_waysIn p1 p2 d) := by
  refine AM_intro (si := si_X8_waysIn) (lv := [(0, .ref 72), (1, .int p1), (2, .int p2)]) rfl (by decide +kernel) rfl (Nat.le_of_ble_eq_true rfl) (fun E => ?_)
  unfold f_X8_waysIn
  refine r_aload_n_0 dX8_waysIn_0 rfl ?_
  refine r_getr (t := 76) (cc := 8) 7 rfl rfl uX8 (by decide) rfl fw_X8_32 rfl dX8_waysIn_1 ?_
  refine r_iload_n_1 dX8_waysIn_4 rfl ?_
  refine r_callSNI [] (am_X9_at 76 rfl p1 d) cf_X9_at wn_X8_98 (by decide) dX8_waysIn_5 rfl (Nat.le_of_ble_eq_true rfl) ⟨rfl, rfl⟩ (fun q1 => ?_)
  refine r_bipush dX8_waysIn_8 kb_8 ?_
  refine r_iload_n_2 dX8_waysIn_10 rfl ?_
  refine r_imul dX8_waysIn_11 ?_
  refine r_iushr dX8_waysIn_12 ?_
  refine r_sipush dX8_waysIn_13 ks_255 ?_
  refine r_iand dX8_waysIn_16 ?_
  exact r_ireturn dX8_waysIn_17 rfl
theorem cf_X8_waysIn : CFv mi_X8_waysIn 2 := ⟨iw_X8_waysIn, vw_X8_waysIn, nw_X8, cw_X8_waysIn, by unfold plainF; decide +kernel⟩
abbrev si_X8_waysBut : SI := (cX8_waysBut, RX8, 6, (some .long), 2, 43)
def f_X8_waysBut_5B (k5 : Int32 → Int32 → Int64 → Int32 → DD → Option (Int64 × DD)) (v1 : Int32) (v2 : Int32) (v3 : Int64) (v5 : Int32) (d : DD) : Option (Int64 × DD) :=
  if v5 < (d.1 2 1) then
  if v5 = v2 then
    k5 v1 v2 v3 (v5 + (1 : Int32)) d
    else
    (f_X8_waysIn v1 v5 d).bind fun q1 =>
      (f_J6_bitCount_0f7a4 q1.1 q1.2).bind fun q2 =>
      bd (v3 * q2.1.toInt64) fun x3 =>
      k5 v1 v2 x3 (v5 + (1 : Int32)) q2.2
  else
  some (v3, d)
def f_X8_waysBut_5 : Nat → Int32 → Int32 → Int64 → Int32 → DD → Option (Int64 × DD)
  | 0, _, _, _, _, _ => none
  | n + 1, v1, v2, v3, v5, d => f_X8_waysBut_5B (f_X8_waysBut_5 n) v1 v2 v3 v5 d
set_option maxRecDepth 100000 in
set_option maxHeartbeats 4000000 in
theorem w_X8_waysBut_5B {E : XE} (k5 : Int32 → Int32 → Int64 → Int32 → DD → Option (Int64 × DD)) (hk5 : ∀ (v1 : Int32) (v2 : Int32) (v3 : Int64) (v5 : Int32) (d : DD), AW E si_X8_waysBut 0 0 (QM E wrL) (k5 v1 v2 v3 v5 d) 5 [(0, .ref 72), (1, .int v1), (2, .int v2), (3, .long v3), (5, .int v5)] [] d) (v1 : Int32) (v2 : Int32) (v3 : Int64) (v5 : Int32) (d : DD) : AW E si_X8_waysBut 0 0 (QM E wrL) (f_X8_waysBut_5B k5 v1 v2 v3 v5 d) 5 [(0, .ref 72), (1, .int v1), (2, .int v2), (3, .long v3), (5, .int v5)] [] d := by
  unfold f_X8_waysBut_5B
  refine r_iload_w_4 dX8_waysBut_5 ?_
  refine r_aload_n_0 dX8_waysBut_7 rfl ?_
  refine r_getr (t := 2) (cc := 8) 0 rfl rfl uX8 (by decide) rfl fw_X8_53 rfl dX8_waysBut_8 ?_
  refine r_geti (cc := 1) 1 rfl rfl uX1 (by decide) rfl fw_X8_86 dX8_waysBut_11 ?_
  refine r_icmp_ge (tgt := 43) dX8_waysBut_14 (by decide) ?_ ?_
  · refine r_lload_n_3 dX8_waysBut_43 rfl ?_
    exact r_lreturn dX8_waysBut_44 rfl
  · refine r_iload_w_4 dX8_waysBut_17 ?_
    refine r_iload_n_2 dX8_waysBut_19 rfl ?_
    refine r_icmp_eq (tgt := 37) dX8_waysBut_20 (by decide) ?_ ?_
    · refine r_iinc_4 dX8_waysBut_37 ki_1 (by decide) rfl ?_
      refine r_goto (tgt := 5) dX8_waysBut_40 (by decide) ?_
      exact hk5 v1 v2 v3 (v5 + (1 : Int32)) d
    · refine r_lload_n_3 dX8_waysBut_23 rfl ?_
      refine r_aload_n_0 dX8_waysBut_24 rfl ?_
      refine r_iload_n_1 dX8_waysBut_25 rfl ?_
      refine r_iload_w_4 dX8_waysBut_26 ?_
      refine r_callVI (cc := 8) [.long v3] (am_X8_waysIn v1 v5 d) rfl rfl cf_X8_waysIn mw_X8_164 (by decide) dX8_waysBut_28 rfl (Nat.le_of_ble_eq_true rfl) ⟨rfl, rfl⟩ (fun q1 => ?_)
      refine r_callSI [.long v3] (am_J6_bitCount_0f7a4 q1.1 q1.2) cf_J6_bitCount_0f7a4 mw_X8_167 (by decide) dX8_waysBut_31 rfl (Nat.le_of_ble_eq_true rfl) ⟨rfl, rfl⟩ (fun q2 => ?_)
      refine r_i2l dX8_waysBut_34 ?_
      refine r_lmul dX8_waysBut_35 ?_
      refine r_bdJ (fun x3 => ?_)
      refine r_lstore_n_3 dX8_waysBut_36 rfl (by decide) rfl ?_
      refine r_iinc_4 dX8_waysBut_37 ki_1 (by decide) rfl ?_
      refine r_goto (tgt := 5) dX8_waysBut_40 (by decide) ?_
      exact hk5 v1 v2 x3 (v5 + (1 : Int32)) q2.2
theorem w_X8_waysBut_5 {E : XE} (n : Nat) : ∀ (v1 : Int32) (v2 : Int32) (v3 : Int64) (v5 : Int32) (d : DD), AW E si_X8_waysBut 0 0 (QM E wrL) (f_X8_waysBut_5 n v1 v2 v3 v5 d) 5 [(0, .ref 72), (1, .int v1), (2, .int v2), (3, .long v3), (5, .int v5)] [] d := by
  induction n with
  | zero => intros; exact r_none
  | succ n ih => intro v1 v2 v3 v5 d; exact w_X8_waysBut_5B (f_X8_waysBut_5 n) ih v1 v2 v3 v5 d
def f_X8_waysBut (p1 : Int32) (p2 : Int32) (d : DD) : Option (Int64 × DD) :=
  f_X8_waysBut_5 FU p1 p2 (1 : Int64) (0 : Int32) d
set_option maxRecDepth 100000 in
set_option maxHeartbeats 4000000 in
theorem am_X8_waysBut (p1 : Int32) (p2 : Int32) (d : DD) : AM wrL mi_X8_waysBut 2 43 [.ref 72, .int p1, .int p2] d (f_X8_waysBut p1 p2 d) := by
  refine AM_intro (si := si_X8_waysBut) (lv := [(0, .ref 72), (1, .int p1), (2, .int p2)]) rfl (by decide +kernel) rfl (Nat.le_of_ble_eq_true rfl) (fun E => ?_)
  unfold f_X8_waysBut
  refine r_lconst dX8_waysBut_0 kl_1 ?_
  refine r_lstore_n_x dX8_waysBut_1 rfl (by decide) rfl ?_
  refine r_iconst dX8_waysBut_2 ki_0 ?_
  refine r_istore_w_x dX8_waysBut_3 (by decide) rfl ?_
  refine r_sub [2, 3, 4, 1, 0] (lv' := [(0, .ref 72), (1, .int p1), (2, .int p2), (3, .long (1 : Int64)), (5, .int (0 : Int32))]) rfl ?_
  exact w_X8_waysBut_5 FU p1 p2 (1 : Int64) (0 : Int32) d
theorem cf_X8_waysBut : CFv mi_X8_waysBut 2 := ⟨iw_X8_waysBut, vw_X8_waysBut, nw_X8, cw_X8_waysBut, by unfold plainF; decide +kernel⟩
abbrev si_X8_timesPicked : SI := (cX8_timesPicked, RX8, 5, (some .long), 2, 43)
def f_X8_timesPicked_5B (k5 : Int32 → Int64 → Int32 → DD → Option (Int64 × DD)) (v1 : Int32) (v2 : Int64) (v4 : Int32) (d : DD) : Option (Int64 × DD) :=
  if v4 < (3 : Int32) then
  (f_X8_branchTime v1 v4 d).bind fun q1 =>
    (f_X9_longAt 78 v4 q1.2).bind fun q2 =>
    (f_J13_bitCount_95d88 (q1.1 &&& q2.1) q2.2).bind fun q3 =>
    bd (v2 * q3.1.toInt64) fun x4 =>
    k5 v1 x4 (v4 + (1 : Int32)) q3.2
  else
  some (v2, d)
def f_X8_timesPicked_5 : Nat → Int32 → Int64 → Int32 → DD → Option (Int64 × DD)
  | 0, _, _, _, _ => none
  | n + 1, v1, v2, v4, d => f_X8_timesPicked_5B (f_X8_timesPicked_5 n) v1 v2 v4 d
set_option maxRecDepth 100000 in
set_option maxHeartbeats 4000000 in
theorem w_X8_timesPicked_5B {E : XE} (k5 : Int32 → Int64 → Int32 → DD → Option (Int64 × DD)) (hk5 : ∀ (v1 : Int32) (v2 : Int64) (v4 : Int32) (d : DD), AW E si_X8_timesPicked 0 0 (QM E wrL) (k5 v1 v2 v4 d) 5 [(0, .ref 72), (1, .int v1), (2, .long v2), (4, .int v4)] [] d) (v1 : Int32) (v2 : Int64) (v4 : Int32) (d : DD) : AW E si_X8_timesPicked 0 0 (QM E wrL) (f_X8_timesPicked_5B k5 v1 v2 v4 d) 5 [(0, .ref 72), (1, .int v1), (2, .long v2), (4, .int v4)] [] d := by
  unfold f_X8_timesPicked_5B
  refine r_iload_w_3 dX8_timesPicked_5 ?_
  refine r_iconst dX8_timesPicked_7 ki_3 ?_
  refine r_icmp_ge (tgt := 41) dX8_timesPicked_8 (by decide) ?_ ?_
  · refine r_lload_n_2 dX8_timesPicked_41 rfl ?_
    exact r_lreturn dX8_timesPicked_42 rfl
  · refine r_lload_n_2 dX8_timesPicked_11 rfl ?_
    refine r_aload_n_0 dX8_timesPicked_12 rfl ?_
    refine r_iload_n_1 dX8_timesPicked_13 rfl ?_
    refine r_iload_w_3 dX8_timesPicked_14 ?_
    refine r_callVL (cc := 8) [.long v2] (am_X8_branchTime v1 v4 d) rfl rfl cf_X8_branchTime mw_X8_161 (by decide) dX8_timesPicked_16 rfl (Nat.le_of_ble_eq_true rfl) ⟨rfl, rfl⟩ (fun q1 => ?_)
    refine r_aload_n_0 dX8_timesPicked_19 rfl ?_
    refine r_getr (t := 78) (cc := 8) 9 rfl rfl uX8 (by decide) rfl fw_X8_38 rfl dX8_timesPicked_20 ?_
    refine r_iload_w_3 dX8_timesPicked_23 ?_
    refine r_callSNL [.long q1.1, .long v2] (am_X9_longAt 78 rfl v4 q1.2) cf_X9_longAt wn_X8_123 (by decide) dX8_timesPicked_25 rfl (Nat.le_of_ble_eq_true rfl) ⟨rfl, rfl⟩ (fun q2 => ?_)
    refine r_land dX8_timesPicked_28 ?_
    refine r_callSI [.long v2] (am_J13_bitCount_95d88 (q1.1 &&& q2.1) q2.2) cf_J13_bitCount_95d88 mw_X8_172 (by decide) dX8_timesPicked_29 rfl (Nat.le_of_ble_eq_true rfl) ⟨rfl, rfl⟩ (fun q3 => ?_)
    refine r_i2l dX8_timesPicked_32 ?_
    refine r_lmul dX8_timesPicked_33 ?_
    refine r_bdJ (fun x4 => ?_)
    refine r_lstore_n_2 dX8_timesPicked_34 rfl (by decide) rfl ?_
    refine r_iinc_3 dX8_timesPicked_35 ki_1 (by decide) rfl ?_
    refine r_goto (tgt := 5) dX8_timesPicked_38 (by decide) ?_
    exact hk5 v1 x4 (v4 + (1 : Int32)) q3.2
theorem w_X8_timesPicked_5 {E : XE} (n : Nat) : ∀ (v1 : Int32) (v2 : Int64) (v4 : Int32) (d : DD), AW E si_X8_timesPicked 0 0 (QM E wrL) (f_X8_timesPicked_5 n v1 v2 v4 d) 5 [(0, .ref 72), (1, .int v1), (2, .long v2), (4, .int v4)] [] d := by
  induction n with
  | zero => intros; exact r_none
  | succ n ih => intro v1 v2 v4 d; exact w_X8_timesPicked_5B (f_X8_timesPicked_5 n) ih v1 v2 v4 d
def f_X8_timesPicked (p1 : Int32) (d : DD) : Option (Int64 × DD) :=
  f_X8_timesPicked_5 FU p1 (1 : Int64) (0 : Int32) d
set_option maxRecDepth 100000 in
set_option maxHeartbeats 4000000 in
theorem am_X8_timesPicked (p1 : Int32) (d : DD) : AM wrL mi_X8_timesPicked 2 43 [.ref 72, .int p1] d (f_X8_timesPicked p1 d) := by
  refine AM_intro (si := si_X8_timesPicked) (lv := [(0, .ref 72), (1, .int p1)]) rfl (by decide +kernel) rfl (Nat.le_of_ble_eq_true rfl) (fun E => ?_)
  unfold f_X8_timesPicked
  refine r_lconst dX8_timesPicked_0 kl_1 ?_
  refine r_lstore_n_x dX8_timesPicked_1 rfl (by decide) rfl ?_
  refine r_iconst dX8_timesPicked_2 ki_0 ?_
  refine r_istore_w_x dX8_timesPicked_3 (by decide) rfl ?_
  refine r_sub [2, 3, 1, 0] (lv' := [(0, .ref 72), (1, .int p1), (2, .long (1 : Int64)), (4, .int (0 : Int32))]) rfl ?_
  exact w_X8_timesPicked_5 FU p1 (1 : Int64) (0 : Int32) d
theorem cf_X8_timesPicked : CFv mi_X8_timesPicked 1 := ⟨iw_X8_timesPicked, vw_X8_timesPicked, nw_X8, cw_X8_timesPicked, by unfold plainF; decide +kernel⟩
abbrev si_X8_picked : SI := (cX8_picked, RX8, 4, (some .long), 3, 68)
def f_X8_picked_7B (k7 : Int64 → Int32 → DD → Option (Int64 × DD)) (v1 : Int64) (v3 : Int32) (d : DD) : Option (Int64 × DD) :=
  if v3 < (d.1 72 6) then
  (f_X8_waysBut v3 (-1 : Int32) d).bind fun q2 =>
    (f_X8_timesPicked v3 q2.2).bind fun q3 =>
    bd (v1 + (q2.1 * q3.1)) fun x4 =>
    k7 x4 (v3 + (1 : Int32)) q3.2
  else
  some (v1, d)
def f_X8_picked_7 : Nat → Int64 → Int32 → DD → Option (Int64 × DD)
  | 0, _, _, _ => none
  | n + 1, v1, v3, d => f_X8_picked_7B (f_X8_picked_7 n) v1 v3 d
set_option maxRecDepth 100000 in
set_option maxHeartbeats 4000000 in
theorem w_X8_picked_7B {E : XE} (k7 : Int64 → Int32 → DD → Option (Int64 × DD)) (hk7 : ∀ (v1 : Int64) (v3 : Int32) (d : DD), AW E si_X8_picked 0 0 (QM E wrL) (k7 v1 v3 d) 7 [(0, .ref 72), (1, .long v1), (3, .int v3)] [] d) (v1 : Int64) (v3 : Int32) (d : DD) : AW E si_X8_picked 0 0 (QM E wrL) (f_X8_picked_7B k7 v1 v3 d) 7 [(0, .ref 72), (1, .long v1), (3, .int v3)] [] d := by
  unfold f_X8_picked_7B
  refine r_iload_n_2 dX8_picked_7 rfl ?_
  refine r_aload_n_0 dX8_picked_8 rfl ?_
  refine r_geti (cc := 8) 6 rfl rfl uX8 (by decide) rfl fw_X8_29 dX8_picked_9 ?_
  refine r_icmp_ge (tgt := 36) dX8_picked_12 (by decide) ?_ ?_
  · refine r_lload_n_1 dX8_picked_36 rfl ?_
    exact r_lreturn dX8_picked_37 rfl
  · refine r_lload_n_1 dX8_picked_15 rfl ?_
    refine r_aload_n_0 dX8_picked_16 rfl ?_
    refine r_iload_n_2 dX8_picked_17 rfl ?_
    refine r_iconst dX8_picked_18 ki_m1 ?_
    refine r_callVL (cc := 8) [.long v1] (am_X8_waysBut v3 (-1 : Int32) d) rfl rfl cf_X8_waysBut mw_X8_177 (by decide) dX8_picked_19 rfl (Nat.le_of_ble_eq_true rfl) ⟨rfl, rfl⟩ (fun q2 => ?_)
    refine r_aload_n_0 dX8_picked_22 rfl ?_
    refine r_iload_n_2 dX8_picked_23 rfl ?_
    refine r_callVL (cc := 8) [.long q2.1, .long v1] (am_X8_timesPicked v3 q2.2) rfl rfl cf_X8_timesPicked mw_X8_180 (by decide) dX8_picked_24 rfl (Nat.le_of_ble_eq_true rfl) ⟨rfl, rfl⟩ (fun q3 => ?_)
    refine r_lmul dX8_picked_27 ?_
    refine r_ladd dX8_picked_28 ?_
    refine r_bdJ (fun x4 => ?_)
    refine r_lstore_n_1 dX8_picked_29 rfl (by decide) rfl ?_
    refine r_iinc_2 dX8_picked_30 ki_1 (by decide) rfl ?_
    refine r_goto (tgt := 7) dX8_picked_33 (by decide) ?_
    exact hk7 x4 (v3 + (1 : Int32)) q3.2
theorem w_X8_picked_7 {E : XE} (n : Nat) : ∀ (v1 : Int64) (v3 : Int32) (d : DD), AW E si_X8_picked 0 0 (QM E wrL) (f_X8_picked_7 n v1 v3 d) 7 [(0, .ref 72), (1, .long v1), (3, .int v3)] [] d := by
  induction n with
  | zero => intros; exact r_none
  | succ n ih => intro v1 v3 d; exact w_X8_picked_7B (f_X8_picked_7 n) ih v1 v3 d
def f_X8_picked (d : DD) : Option (Int64 × DD) :=
  bd (d.1 72 5) fun x1 =>
  f_X8_picked_7 FU (0 : Int64) x1 d
set_option maxRecDepth 100000 in
set_option maxHeartbeats 4000000 in
theorem am_X8_picked (d : DD) : AM wrL mi_X8_picked 3 68 [.ref 72] d (f_X8_picked d) := by
  refine AM_intro (si := si_X8_picked) (lv := [(0, .ref 72)]) rfl (by decide +kernel) rfl (Nat.le_of_ble_eq_true rfl) (fun E => ?_)
  unfold f_X8_picked
  refine r_lconst dX8_picked_0 kl_0 ?_
  refine r_lstore_n_x dX8_picked_1 rfl (by decide) rfl ?_
  refine r_aload_n_1 dX8_picked_2 rfl ?_
  refine r_geti (cc := 8) 5 rfl rfl uX8 (by decide) rfl fw_X8_26 dX8_picked_3 ?_
  refine r_bdI (fun x1 => ?_)
  refine r_istore_n_x dX8_picked_6 rfl (by decide) rfl ?_
  refine r_sub [2, 1, 0] (lv' := [(0, .ref 72), (1, .long (0 : Int64)), (3, .int x1)]) rfl ?_
  exact w_X8_picked_7 FU (0 : Int64) x1 d
theorem cf_X8_picked : CFv mi_X8_picked 0 := ⟨iw_X8_picked, vw_X8_picked, nw_X8, cw_X8_picked, by unfold plainF; decide +kernel⟩
abbrev si_X8_ahead : SI := (cX8_ahead, RX8, 11, (some .long), 4, 91)
def f_X8_ahead_67 (k13 : Int32 → Int64 → Int32 → DD → Option (Int64 × DD)) (k23 : Int32 → Int64 → Int32 → Int32 → DD → Option (Int64 × DD)) (v1 : Int32) (v3 : Int64) (v5 : Int32) (v6 : Int32) (v7 : Int64) (t0 : Int64) (d : DD) : Option (Int64 × DD) :=
  if v6 = v1 then
  (f_X8_pick v6 (t0 &&& (v7 ^^^ (-1 : Int64))) d).bind fun q8 =>
    (f_X9_putLong 79 v6 (t0 ||| v7) q8.2).bind fun q9 =>
    k23 v1 v3 v5 (v6 + (1 : Int32)) q9.2
  else
  (f_X8_pick v6 ((t0 ||| v7) ^^^ (-1 : Int64)) d).bind fun q6 =>
    (f_X9_putLong 79 v6 (t0 ||| v7) q6.2).bind fun q7 =>
    k23 v1 v3 v5 (v6 + (1 : Int32)) q7.2
set_option maxRecDepth 100000 in
set_option maxHeartbeats 4000000 in
theorem w_X8_ahead_67 {E : XE} (k13 : Int32 → Int64 → Int32 → DD → Option (Int64 × DD)) (hk13 : ∀ (v1 : Int32) (v3 : Int64) (v5 : Int32) (d : DD), AW E si_X8_ahead 0 0 (QM E wrL) (k13 v1 v3 v5 d) 13 [(0, .ref 72), (1, .int v1), (3, .long v3), (5, .int v5)] [] d) (k23 : Int32 → Int64 → Int32 → Int32 → DD → Option (Int64 × DD)) (hk23 : ∀ (v1 : Int32) (v3 : Int64) (v5 : Int32) (v6 : Int32) (d : DD), AW E si_X8_ahead 0 0 (QM E wrL) (k23 v1 v3 v5 v6 d) 23 [(0, .ref 72), (1, .int v1), (3, .long v3), (5, .int v5), (6, .int v6)] [] d) (v1 : Int32) (v3 : Int64) (v5 : Int32) (v6 : Int32) (v7 : Int64) (t0 : Int64) (d : DD) : AW E si_X8_ahead 0 0 (QM E wrL) (f_X8_ahead_67 k13 k23 v1 v3 v5 v6 v7 t0 d) 67 [(0, .ref 72), (1, .int v1), (3, .long v3), (5, .int v5), (6, .int v6), (7, .long v7)] [.long t0] d := by
  unfold f_X8_ahead_67
  refine r_lstore_w_x dX8_ahead_67 (by decide) rfl ?_
  refine r_aload_n_1 dX8_ahead_69 rfl ?_
  refine r_iload_w_5 dX8_ahead_70 ?_
  refine r_iload_w_5 dX8_ahead_72 ?_
  refine r_iload_n_2 dX8_ahead_74 rfl ?_
  refine r_icmp_ne (tgt := 90) dX8_ahead_75 (by decide) ?_ ?_
  · refine r_lload_w_0 dX8_ahead_90 ?_
    refine r_lload_w_6 dX8_ahead_92 ?_
    refine r_lor dX8_ahead_94 ?_
    refine r_ldc2 dX8_ahead_95 kw_X8_72 ?_
    refine r_lxor dX8_ahead_98 ?_
    refine r_callVU (cc := 8) [] (am_X8_pick v6 ((t0 ||| v7) ^^^ (-1 : Int64)) d) rfl rfl cf_X8_pick mw_X8_191 (by decide) dX8_ahead_99 rfl (Nat.le_of_ble_eq_true rfl) ⟨rfl, rfl⟩ (fun q6 => ?_)
    refine r_aload_n_1 dX8_ahead_102 rfl ?_
    refine r_getr (t := 79) (cc := 8) 10 rfl rfl uX8 (by decide) rfl fw_X8_41 rfl dX8_ahead_103 ?_
    refine r_iload_w_5 dX8_ahead_106 ?_
    refine r_lload_w_0 dX8_ahead_108 ?_
    refine r_lload_w_6 dX8_ahead_110 ?_
    refine r_lor dX8_ahead_112 ?_
    refine r_callSNU [] (am_X9_putLong 79 rfl v6 (t0 ||| v7) q6.2) cf_X9_putLong wn_X8_127 (by decide) dX8_ahead_113 rfl (Nat.le_of_ble_eq_true rfl) ⟨rfl, rfl⟩ (fun q7 => ?_)
    refine r_iinc_5 dX8_ahead_116 ki_1 (by decide) rfl ?_
    refine r_goto (tgt := 23) dX8_ahead_119 (by decide) ?_
    refine r_sub [1, 2, 3, 4, 5] (lv' := [(0, .ref 72), (1, .int v1), (3, .long v3), (5, .int v5), (6, .int (v6 + (1 : Int32)))]) rfl ?_
    exact hk23 v1 v3 v5 (v6 + (1 : Int32)) q7.2
  · refine r_lload_w_0 dX8_ahead_78 ?_
    refine r_lload_w_6 dX8_ahead_80 ?_
    refine r_ldc2 dX8_ahead_82 kw_X8_72 ?_
    refine r_lxor dX8_ahead_85 ?_
    refine r_land dX8_ahead_86 ?_
    refine r_goto (tgt := 99) dX8_ahead_87 (by decide) ?_
    refine r_callVU (cc := 8) [] (am_X8_pick v6 (t0 &&& (v7 ^^^ (-1 : Int64))) d) rfl rfl cf_X8_pick mw_X8_191 (by decide) dX8_ahead_99 rfl (Nat.le_of_ble_eq_true rfl) ⟨rfl, rfl⟩ (fun q8 => ?_)
    refine r_aload_n_1 dX8_ahead_102 rfl ?_
    refine r_getr (t := 79) (cc := 8) 10 rfl rfl uX8 (by decide) rfl fw_X8_41 rfl dX8_ahead_103 ?_
    refine r_iload_w_5 dX8_ahead_106 ?_
    refine r_lload_w_0 dX8_ahead_108 ?_
    refine r_lload_w_6 dX8_ahead_110 ?_
    refine r_lor dX8_ahead_112 ?_
    refine r_callSNU [] (am_X9_putLong 79 rfl v6 (t0 ||| v7) q8.2) cf_X9_putLong wn_X8_127 (by decide) dX8_ahead_113 rfl (Nat.le_of_ble_eq_true rfl) ⟨rfl, rfl⟩ (fun q9 => ?_)
    refine r_iinc_5 dX8_ahead_116 ki_1 (by decide) rfl ?_
    refine r_goto (tgt := 23) dX8_ahead_119 (by decide) ?_
    refine r_sub [1, 2, 3, 4, 5] (lv' := [(0, .ref 72), (1, .int v1), (3, .long v3), (5, .int v5), (6, .int (v6 + (1 : Int32)))]) rfl ?_
    exact hk23 v1 v3 v5 (v6 + (1 : Int32)) q9.2
def f_X8_ahead_23B (k13 : Int32 → Int64 → Int32 → DD → Option (Int64 × DD)) (k23 : Int32 → Int64 → Int32 → Int32 → DD → Option (Int64 × DD)) (v1 : Int32) (v3 : Int64) (v5 : Int32) (v6 : Int32) (d : DD) : Option (Int64 × DD) :=
  if v6 < (3 : Int32) then
  (f_X9_longAt 79 v6 d).bind fun q5 =>
    if v6 < (q5.2.1 2 0) then
    (f_X1_passing 2 v6 v5 q5.2).bind fun q10 =>
      f_X8_ahead_67 k13 k23 v1 v3 v5 v6 q5.1 q10.1 q10.2
    else
    f_X8_ahead_67 k13 k23 v1 v3 v5 v6 q5.1 (0 : Int64) q5.2
  else
  (f_X9_longAt 78 v1 d).bind fun q2 =>
    if q2.1 = (0 : Int64) then
    k13 v1 v3 (v5 + (1 : Int32)) q2.2
    else
    (f_X8_picked q2.2).bind fun q3 =>
      bd (v3 + q3.1) fun x4 =>
      k13 v1 x4 (v5 + (1 : Int32)) q3.2
def f_X8_ahead_23 (k13 : Int32 → Int64 → Int32 → DD → Option (Int64 × DD)) : Nat → Int32 → Int64 → Int32 → Int32 → DD → Option (Int64 × DD)
  | 0, _, _, _, _, _ => none
  | n + 1, v1, v3, v5, v6, d => f_X8_ahead_23B k13 (f_X8_ahead_23 k13 n) v1 v3 v5 v6 d
set_option maxRecDepth 100000 in
set_option maxHeartbeats 4000000 in
theorem w_X8_ahead_23B {E : XE} (k13 : Int32 → Int64 → Int32 → DD → Option (Int64 × DD)) (hk13 : ∀ (v1 : Int32) (v3 : Int64) (v5 : Int32) (d : DD), AW E si_X8_ahead 0 0 (QM E wrL) (k13 v1 v3 v5 d) 13 [(0, .ref 72), (1, .int v1), (3, .long v3), (5, .int v5)] [] d) (k23 : Int32 → Int64 → Int32 → Int32 → DD → Option (Int64 × DD)) (hk23 : ∀ (v1 : Int32) (v3 : Int64) (v5 : Int32) (v6 : Int32) (d : DD), AW E si_X8_ahead 0 0 (QM E wrL) (k23 v1 v3 v5 v6 d) 23 [(0, .ref 72), (1, .int v1), (3, .long v3), (5, .int v5), (6, .int v6)] [] d) (v1 : Int32) (v3 : Int64) (v5 : Int32) (v6 : Int32) (d : DD) : AW E si_X8_ahead 0 0 (QM E wrL) (f_X8_ahead_23B k13 k23 v1 v3 v5 v6 d) 23 [(0, .ref 72), (1, .int v1), (3, .long v3), (5, .int v5), (6, .int v6)] [] d := by
  unfold f_X8_ahead_23B
  refine r_iload_w_4 dX8_ahead_23 ?_
  refine r_iconst dX8_ahead_25 ki_3 ?_
  refine r_icmp_ge (tgt := 122) dX8_ahead_26 (by decide) ?_ ?_
  · refine r_aload_n_0 dX8_ahead_122 rfl ?_
    refine r_getr (t := 78) (cc := 8) 9 rfl rfl uX8 (by decide) rfl fw_X8_38 rfl dX8_ahead_123 ?_
    refine r_iload_n_1 dX8_ahead_126 rfl ?_
    refine r_callSNL [] (am_X9_longAt 78 rfl v1 d) cf_X9_longAt wn_X8_123 (by decide) dX8_ahead_127 rfl (Nat.le_of_ble_eq_true rfl) ⟨rfl, rfl⟩ (fun q2 => ?_)
    refine r_lconst dX8_ahead_130 kl_0 ?_
    refine r_lcmp_eq (tgt := 142) dX8_ahead_131 dX8_ahead_132 (by decide) ?_ ?_
    · refine r_iinc_3 dX8_ahead_142 ki_1 (by decide) rfl ?_
      refine r_goto (tgt := 13) dX8_ahead_145 (by decide) ?_
      refine r_sub [0, 1, 2, 3] (lv' := [(0, .ref 72), (1, .int v1), (3, .long v3), (5, .int (v5 + (1 : Int32)))]) rfl ?_
      exact hk13 v1 v3 (v5 + (1 : Int32)) q2.2
    · refine r_lload_n_2 dX8_ahead_135 rfl ?_
      refine r_aload_n_0 dX8_ahead_136 rfl ?_
      refine r_callVL (cc := 8) [.long v3] (am_X8_picked q2.2) rfl rfl cf_X8_picked mw_X8_187 (by decide) dX8_ahead_137 rfl (Nat.le_of_ble_eq_true rfl) ⟨rfl, rfl⟩ (fun q3 => ?_)
      refine r_ladd dX8_ahead_140 ?_
      refine r_bdJ (fun x4 => ?_)
      refine r_lstore_n_2 dX8_ahead_141 rfl (by decide) rfl ?_
      refine r_iinc_3 dX8_ahead_142 ki_1 (by decide) rfl ?_
      refine r_goto (tgt := 13) dX8_ahead_145 (by decide) ?_
      refine r_sub [0, 1, 2, 3] (lv' := [(0, .ref 72), (1, .int v1), (3, .long x4), (5, .int (v5 + (1 : Int32)))]) rfl ?_
      exact hk13 v1 x4 (v5 + (1 : Int32)) q3.2
  · refine r_aload_n_0 dX8_ahead_29 rfl ?_
    refine r_getr (t := 79) (cc := 8) 10 rfl rfl uX8 (by decide) rfl fw_X8_41 rfl dX8_ahead_30 ?_
    refine r_iload_w_4 dX8_ahead_33 ?_
    refine r_callSNL [] (am_X9_longAt 79 rfl v6 d) cf_X9_longAt wn_X8_123 (by decide) dX8_ahead_35 rfl (Nat.le_of_ble_eq_true rfl) ⟨rfl, rfl⟩ (fun q5 => ?_)
    refine r_lstore_w_x dX8_ahead_38 (by decide) rfl ?_
    refine r_iload_w_5 dX8_ahead_40 ?_
    refine r_aload_n_1 dX8_ahead_42 rfl ?_
    refine r_getr (t := 2) (cc := 8) 0 rfl rfl uX8 (by decide) rfl fw_X8_53 rfl dX8_ahead_43 ?_
    refine r_geti (cc := 1) 0 rfl rfl uX1 (by decide) rfl fw_X8_108 dX8_ahead_46 ?_
    refine r_icmp_ge (tgt := 66) dX8_ahead_49 (by decide) ?_ ?_
    · refine r_lconst dX8_ahead_66 kl_0 ?_
      refine r_sub [1, 2, 3, 4, 5, 0] (lv' := [(0, .ref 72), (1, .int v1), (3, .long v3), (5, .int v5), (6, .int v6), (7, .long q5.1)]) rfl ?_
      exact w_X8_ahead_67 k13 hk13 k23 hk23 v1 v3 v5 v6 q5.1 (0 : Int64) q5.2
    · refine r_aload_n_1 dX8_ahead_52 rfl ?_
      refine r_getr (t := 2) (cc := 8) 0 rfl rfl uX8 (by decide) rfl fw_X8_53 rfl dX8_ahead_53 ?_
      refine r_iload_w_5 dX8_ahead_56 ?_
      refine r_iload_w_4 dX8_ahead_58 ?_
      refine r_callVL (cc := 1) [] (am_X1_passing 2 rfl v6 v5 q5.2) rfl rfl cf_X1_passing mw_X8_111 (by decide) dX8_ahead_60 rfl (Nat.le_of_ble_eq_true rfl) ⟨rfl, rfl⟩ (fun q10 => ?_)
      refine r_goto (tgt := 67) dX8_ahead_63 (by decide) ?_
      refine r_sub [1, 2, 3, 4, 5, 0] (lv' := [(0, .ref 72), (1, .int v1), (3, .long v3), (5, .int v5), (6, .int v6), (7, .long q5.1)]) rfl ?_
      exact w_X8_ahead_67 k13 hk13 k23 hk23 v1 v3 v5 v6 q5.1 q10.1 q10.2
theorem w_X8_ahead_23 {E : XE} (k13 : Int32 → Int64 → Int32 → DD → Option (Int64 × DD)) (hk13 : ∀ (v1 : Int32) (v3 : Int64) (v5 : Int32) (d : DD), AW E si_X8_ahead 0 0 (QM E wrL) (k13 v1 v3 v5 d) 13 [(0, .ref 72), (1, .int v1), (3, .long v3), (5, .int v5)] [] d) (n : Nat) : ∀ (v1 : Int32) (v3 : Int64) (v5 : Int32) (v6 : Int32) (d : DD), AW E si_X8_ahead 0 0 (QM E wrL) (f_X8_ahead_23 k13 n v1 v3 v5 v6 d) 23 [(0, .ref 72), (1, .int v1), (3, .long v3), (5, .int v5), (6, .int v6)] [] d := by
  induction n with
  | zero => intros; exact r_none
  | succ n ih => intro v1 v3 v5 v6 d; exact w_X8_ahead_23B k13 hk13 (f_X8_ahead_23 k13 n) ih v1 v3 v5 v6 d
def f_X8_ahead_13B (k13 : Int32 → Int64 → Int32 → DD → Option (Int64 × DD)) (v1 : Int32) (v3 : Int64) (v5 : Int32) (d : DD) : Option (Int64 × DD) :=
  if v5 < (30 : Int32) then
  f_X8_ahead_23 k13 FU v1 v3 v5 (0 : Int32) d
  else
  some (v3, d)
def f_X8_ahead_13 : Nat → Int32 → Int64 → Int32 → DD → Option (Int64 × DD)
  | 0, _, _, _, _ => none
  | n + 1, v1, v3, v5, d => f_X8_ahead_13B (f_X8_ahead_13 n) v1 v3 v5 d
set_option maxRecDepth 100000 in
set_option maxHeartbeats 4000000 in
theorem w_X8_ahead_13B {E : XE} (k13 : Int32 → Int64 → Int32 → DD → Option (Int64 × DD)) (hk13 : ∀ (v1 : Int32) (v3 : Int64) (v5 : Int32) (d : DD), AW E si_X8_ahead 0 0 (QM E wrL) (k13 v1 v3 v5 d) 13 [(0, .ref 72), (1, .int v1), (3, .long v3), (5, .int v5)] [] d) (v1 : Int32) (v3 : Int64) (v5 : Int32) (d : DD) : AW E si_X8_ahead 0 0 (QM E wrL) (f_X8_ahead_13B k13 v1 v3 v5 d) 13 [(0, .ref 72), (1, .int v1), (3, .long v3), (5, .int v5)] [] d := by
  unfold f_X8_ahead_13B
  refine r_iload_w_3 dX8_ahead_13 ?_
  refine r_bipush dX8_ahead_15 kb_30 ?_
  refine r_icmp_ge (tgt := 148) dX8_ahead_17 (by decide) ?_ ?_
  · refine r_lload_n_2 dX8_ahead_148 rfl ?_
    exact r_lreturn dX8_ahead_149 rfl
  · refine r_iconst dX8_ahead_20 ki_0 ?_
    refine r_istore_w_x dX8_ahead_21 (by decide) rfl ?_
    refine r_sub [1, 2, 3, 4, 0] (lv' := [(0, .ref 72), (1, .int v1), (3, .long v3), (5, .int v5), (6, .int (0 : Int32))]) rfl ?_
    exact w_X8_ahead_23 k13 hk13 FU v1 v3 v5 (0 : Int32) d
theorem w_X8_ahead_13 {E : XE} (n : Nat) : ∀ (v1 : Int32) (v3 : Int64) (v5 : Int32) (d : DD), AW E si_X8_ahead 0 0 (QM E wrL) (f_X8_ahead_13 n v1 v3 v5 d) 13 [(0, .ref 72), (1, .int v1), (3, .long v3), (5, .int v5)] [] d := by
  induction n with
  | zero => intros; exact r_none
  | succ n ih => intro v1 v3 v5 d; exact w_X8_ahead_13B (f_X8_ahead_13 n) ih v1 v3 v5 d
def f_X8_ahead (p1 : Int32) (p2 : Int32) (d : DD) : Option (Int64 × DD) :=
  (f_J7_fill_d0a16 79 (0 : Int64) d).bind fun q1 =>
  f_X8_ahead_13 FU p1 (0 : Int64) p2 q1.2
set_option maxRecDepth 100000 in
set_option maxHeartbeats 4000000 in
theorem am_X8_ahead (p1 : Int32) (p2 : Int32) (d : DD) : AM wrL mi_X8_ahead 4 91 [.ref 72, .int p1, .int p2] d (f_X8_ahead p1 p2 d) := by
  refine AM_intro (si := si_X8_ahead) (lv := [(0, .ref 72), (1, .int p1), (2, .int p2)]) rfl (by decide +kernel) rfl (Nat.le_of_ble_eq_true rfl) (fun E => ?_)
  unfold f_X8_ahead
  refine r_lconst dX8_ahead_0 kl_0 ?_
  refine r_lstore_n_x dX8_ahead_1 rfl (by decide) rfl ?_
  refine r_aload_n_1 dX8_ahead_2 rfl ?_
  refine r_getr (t := 79) (cc := 8) 10 rfl rfl uX8 (by decide) rfl fw_X8_41 rfl dX8_ahead_3 ?_
  refine r_lconst dX8_ahead_6 kl_0 ?_
  refine r_callSU [] (am_J7_fill_d0a16 79 rfl (0 : Int64) d) cf_J7_fill_d0a16 mw_X8_74 (by decide) dX8_ahead_7 rfl (Nat.le_of_ble_eq_true rfl) ⟨rfl, rfl⟩ (fun q1 => ?_)
  refine r_iload_n_3 dX8_ahead_10 rfl ?_
  refine r_istore_w_x dX8_ahead_11 (by decide) rfl ?_
  refine r_sub [2, 3, 1, 0] (lv' := [(0, .ref 72), (1, .int p1), (3, .long (0 : Int64)), (5, .int p2)]) rfl ?_
  exact w_X8_ahead_13 FU p1 (0 : Int64) p2 q1.2
theorem cf_X8_ahead : CFv mi_X8_ahead 2 := ⟨iw_X8_ahead, vw_X8_ahead, nw_X8, cw_X8_ahead, by unfold plainF; decide +kernel⟩
abbrev si_X8_branchOut : SI := (cX8_branchOut, RX8, 5, none, 3, 69)
def f_X8_branchOut_18B (k10 : Int32 → Int32 → Int32 → DD → Option (Unit × DD)) (k18 : Int32 → Int32 → Int32 → Int32 → DD → Option (Unit × DD)) (v1 : Int32) (v2 : Int32) (v3 : Int32) (v4 : Int32) (d : DD) : Option (Unit × DD) :=
  if v4 < (d.1 72 2) then
  (f_X8_addBranch v3 v4 v1 d).bind fun q4 =>
    k18 v1 v2 v3 (v4 + (1 : Int32)) q4.2
  else
  k10 v1 v2 (v3 + (1 : Int32)) d
def f_X8_branchOut_18 (k10 : Int32 → Int32 → Int32 → DD → Option (Unit × DD)) : Nat → Int32 → Int32 → Int32 → Int32 → DD → Option (Unit × DD)
  | 0, _, _, _, _, _ => none
  | n + 1, v1, v2, v3, v4, d => f_X8_branchOut_18B k10 (f_X8_branchOut_18 k10 n) v1 v2 v3 v4 d
set_option maxRecDepth 100000 in
set_option maxHeartbeats 4000000 in
theorem w_X8_branchOut_18B {E : XE} (k10 : Int32 → Int32 → Int32 → DD → Option (Unit × DD)) (hk10 : ∀ (v1 : Int32) (v2 : Int32) (v3 : Int32) (d : DD), AW E si_X8_branchOut 0 0 (QM E wrU) (k10 v1 v2 v3 d) 10 [(0, .ref 72), (1, .int v1), (2, .int v2), (3, .int v3)] [] d) (k18 : Int32 → Int32 → Int32 → Int32 → DD → Option (Unit × DD)) (hk18 : ∀ (v1 : Int32) (v2 : Int32) (v3 : Int32) (v4 : Int32) (d : DD), AW E si_X8_branchOut 0 0 (QM E wrU) (k18 v1 v2 v3 v4 d) 18 [(0, .ref 72), (1, .int v1), (2, .int v2), (3, .int v3), (4, .int v4)] [] d) (v1 : Int32) (v2 : Int32) (v3 : Int32) (v4 : Int32) (d : DD) : AW E si_X8_branchOut 0 0 (QM E wrU) (f_X8_branchOut_18B k10 k18 v1 v2 v3 v4 d) 18 [(0, .ref 72), (1, .int v1), (2, .int v2), (3, .int v3), (4, .int v4)] [] d := by
  unfold f_X8_branchOut_18B
  refine r_iload_w_4 dX8_branchOut_18 ?_
  refine r_aload_n_0 dX8_branchOut_20 rfl ?_
  refine r_geti (cc := 8) 2 rfl rfl uX8 (by decide) rfl fw_X8_15 dX8_branchOut_21 ?_
  refine r_icmp_ge (tgt := 41) dX8_branchOut_24 (by decide) ?_ ?_
  · refine r_iinc_3 dX8_branchOut_41 ki_1 (by decide) rfl ?_
    refine r_goto (tgt := 10) dX8_branchOut_44 (by decide) ?_
    refine r_sub [0, 1, 2, 3] (lv' := [(0, .ref 72), (1, .int v1), (2, .int v2), (3, .int (v3 + (1 : Int32)))]) rfl ?_
    exact hk10 v1 v2 (v3 + (1 : Int32)) d
  · refine r_aload_n_0 dX8_branchOut_27 rfl ?_
    refine r_iload_n_3 dX8_branchOut_28 rfl ?_
    refine r_iload_w_4 dX8_branchOut_29 ?_
    refine r_iload_n_1 dX8_branchOut_31 rfl ?_
    refine r_callVU (cc := 8) [] (am_X8_addBranch v3 v4 v1 d) rfl rfl cf_X8_addBranch mw_X8_157 (by decide) dX8_branchOut_32 rfl (Nat.le_of_ble_eq_true rfl) ⟨rfl, rfl⟩ (fun q4 => ?_)
    refine r_iinc_4 dX8_branchOut_35 ki_1 (by decide) rfl ?_
    refine r_goto (tgt := 18) dX8_branchOut_38 (by decide) ?_
    exact hk18 v1 v2 v3 (v4 + (1 : Int32)) q4.2
theorem w_X8_branchOut_18 {E : XE} (k10 : Int32 → Int32 → Int32 → DD → Option (Unit × DD)) (hk10 : ∀ (v1 : Int32) (v2 : Int32) (v3 : Int32) (d : DD), AW E si_X8_branchOut 0 0 (QM E wrU) (k10 v1 v2 v3 d) 10 [(0, .ref 72), (1, .int v1), (2, .int v2), (3, .int v3)] [] d) (n : Nat) : ∀ (v1 : Int32) (v2 : Int32) (v3 : Int32) (v4 : Int32) (d : DD), AW E si_X8_branchOut 0 0 (QM E wrU) (f_X8_branchOut_18 k10 n v1 v2 v3 v4 d) 18 [(0, .ref 72), (1, .int v1), (2, .int v2), (3, .int v3), (4, .int v4)] [] d := by
  induction n with
  | zero => intros; exact r_none
  | succ n ih => intro v1 v2 v3 v4 d; exact w_X8_branchOut_18B k10 hk10 (f_X8_branchOut_18 k10 n) ih v1 v2 v3 v4 d
def f_X8_branchOut_10B (k10 : Int32 → Int32 → Int32 → DD → Option (Unit × DD)) (v1 : Int32) (v2 : Int32) (v3 : Int32) (d : DD) : Option (Unit × DD) :=
  if v3 < v2 then
  f_X8_branchOut_18 k10 FU v1 v2 v3 (0 : Int32) d
  else
  bd (u1 d 72 5 v2) fun d3 =>
    some ((), d3)
def f_X8_branchOut_10 : Nat → Int32 → Int32 → Int32 → DD → Option (Unit × DD)
  | 0, _, _, _, _ => none
  | n + 1, v1, v2, v3, d => f_X8_branchOut_10B (f_X8_branchOut_10 n) v1 v2 v3 d
set_option maxRecDepth 100000 in
set_option maxHeartbeats 4000000 in
theorem w_X8_branchOut_10B {E : XE} (k10 : Int32 → Int32 → Int32 → DD → Option (Unit × DD)) (hk10 : ∀ (v1 : Int32) (v2 : Int32) (v3 : Int32) (d : DD), AW E si_X8_branchOut 0 0 (QM E wrU) (k10 v1 v2 v3 d) 10 [(0, .ref 72), (1, .int v1), (2, .int v2), (3, .int v3)] [] d) (v1 : Int32) (v2 : Int32) (v3 : Int32) (d : DD) : AW E si_X8_branchOut 0 0 (QM E wrU) (f_X8_branchOut_10B k10 v1 v2 v3 d) 10 [(0, .ref 72), (1, .int v1), (2, .int v2), (3, .int v3)] [] d := by
  unfold f_X8_branchOut_10B
  refine r_iload_n_3 dX8_branchOut_10 rfl ?_
  refine r_iload_n_2 dX8_branchOut_11 rfl ?_
  refine r_icmp_ge (tgt := 47) dX8_branchOut_12 (by decide) ?_ ?_
  · refine r_aload_n_0 dX8_branchOut_47 rfl ?_
    refine r_iload_n_2 dX8_branchOut_48 rfl ?_
    refine r_puti (cc := 8) 5 tyX8 tyX8_ok nmX8 rfl (by decide +kernel) rfl rfl uX8 (by decide) rfl fw_X8_26 dX8_branchOut_49 ?_
    refine r_bd (fun d3 => ?_)
    exact r_return dX8_branchOut_52 rfl
  · refine r_iconst dX8_branchOut_15 ki_0 ?_
    refine r_istore_w_x dX8_branchOut_16 (by decide) rfl ?_
    refine r_sub [1, 2, 3, 4, 0] (lv' := [(0, .ref 72), (1, .int v1), (2, .int v2), (3, .int v3), (4, .int (0 : Int32))]) rfl ?_
    exact w_X8_branchOut_18 k10 hk10 FU v1 v2 v3 (0 : Int32) d
theorem w_X8_branchOut_10 {E : XE} (n : Nat) : ∀ (v1 : Int32) (v2 : Int32) (v3 : Int32) (d : DD), AW E si_X8_branchOut 0 0 (QM E wrU) (f_X8_branchOut_10 n v1 v2 v3 d) 10 [(0, .ref 72), (1, .int v1), (2, .int v2), (3, .int v3)] [] d := by
  induction n with
  | zero => intros; exact r_none
  | succ n ih => intro v1 v2 v3 d; exact w_X8_branchOut_10B (f_X8_branchOut_10 n) ih v1 v2 v3 d
def f_X8_branchOut (p1 : Int32) (d : DD) : Option (Unit × DD) :=
  bd (d.1 72 6) fun x1 =>
  bd (d.1 72 5) fun x2 =>
  f_X8_branchOut_10 FU p1 x1 x2 d
set_option maxRecDepth 100000 in
set_option maxHeartbeats 4000000 in
theorem am_X8_branchOut (p1 : Int32) (d : DD) : AM wrU mi_X8_branchOut 3 69 [.ref 72, .int p1] d (f_X8_branchOut p1 d) := by
  refine AM_intro (si := si_X8_branchOut) (lv := [(0, .ref 72), (1, .int p1)]) rfl (by decide +kernel) rfl (Nat.le_of_ble_eq_true rfl) (fun E => ?_)
  unfold f_X8_branchOut
  refine r_aload_n_0 dX8_branchOut_0 rfl ?_
  refine r_geti (cc := 8) 6 rfl rfl uX8 (by decide) rfl fw_X8_29 dX8_branchOut_1 ?_
  refine r_bdI (fun x1 => ?_)
  refine r_istore_n_x dX8_branchOut_4 rfl (by decide) rfl ?_
  refine r_aload_n_1 dX8_branchOut_5 rfl ?_
  refine r_geti (cc := 8) 5 rfl rfl uX8 (by decide) rfl fw_X8_26 dX8_branchOut_6 ?_
  refine r_bdI (fun x2 => ?_)
  refine r_istore_n_x dX8_branchOut_9 rfl (by decide) rfl ?_
  refine r_sub [2, 3, 1, 0] (lv' := [(0, .ref 72), (1, .int p1), (2, .int x1), (3, .int x2)]) rfl ?_
  exact w_X8_branchOut_10 FU p1 x1 x2 d
theorem cf_X8_branchOut : CFv mi_X8_branchOut 1 := ⟨iw_X8_branchOut, vw_X8_branchOut, nw_X8, cw_X8_branchOut, by unfold plainF; decide +kernel⟩
abbrev si_X8_divide : SI := (cX8_divide, RX8, 15, none, 3, 68)
def f_X8_divide_73B (p3 : Nat) (k17 : Int32 → Int32 → DD → Option (Unit × DD)) (k73 : Int32 → Int32 → Int64 → Int64 → Int32 → Int32 → DD → Option (Unit × DD)) (v1 : Int32) (v4 : Int32) (v7 : Int64) (v9 : Int64) (v11 : Int32) (v12 : Int32) (d : DD) : Option (Unit × DD) :=
  if v12 < v11 then
  (f_X9_longAt 81 v12 d).bind fun q9 =>
    (f_X9_putLong 81 (v12 ||| v11) (q9.1 * v7) q9.2).bind fun q10 =>
    (f_X9_putLong 81 v12 (q9.1 * v9) q10.2).bind fun q11 =>
    k73 v1 v4 v7 v9 v11 (v12 + (1 : Int32)) q11.2
  else
  k17 v1 (v4 + (1 : Int32)) d
def f_X8_divide_73 (p3 : Nat) (k17 : Int32 → Int32 → DD → Option (Unit × DD)) : Nat → Int32 → Int32 → Int64 → Int64 → Int32 → Int32 → DD → Option (Unit × DD)
  | 0, _, _, _, _, _, _, _ => none
  | n + 1, v1, v4, v7, v9, v11, v12, d => f_X8_divide_73B p3 k17 (f_X8_divide_73 p3 k17 n) v1 v4 v7 v9 v11 v12 d
set_option maxRecDepth 100000 in
set_option maxHeartbeats 4000000 in
theorem w_X8_divide_73B {E : XE} (p3 : Nat) (hp3 : kd p3 = 1) (k17 : Int32 → Int32 → DD → Option (Unit × DD)) (hk17 : ∀ (v1 : Int32) (v4 : Int32) (d : DD), AW E si_X8_divide 0 0 (QM E wrU) (k17 v1 v4 d) 17 [(0, .ref 72), (1, .int v1), (3, .ref p3), (4, .int v4)] [] d) (k73 : Int32 → Int32 → Int64 → Int64 → Int32 → Int32 → DD → Option (Unit × DD)) (hk73 : ∀ (v1 : Int32) (v4 : Int32) (v7 : Int64) (v9 : Int64) (v11 : Int32) (v12 : Int32) (d : DD), AW E si_X8_divide 0 0 (QM E wrU) (k73 v1 v4 v7 v9 v11 v12 d) 73 [(0, .ref 72), (1, .int v1), (3, .ref p3), (4, .int v4), (7, .long v7), (9, .long v9), (11, .int v11), (12, .int v12)] [] d) (v1 : Int32) (v4 : Int32) (v7 : Int64) (v9 : Int64) (v11 : Int32) (v12 : Int32) (d : DD) : AW E si_X8_divide 0 0 (QM E wrU) (f_X8_divide_73B p3 k17 k73 v1 v4 v7 v9 v11 v12 d) 73 [(0, .ref 72), (1, .int v1), (3, .ref p3), (4, .int v4), (7, .long v7), (9, .long v9), (11, .int v11), (12, .int v12)] [] d := by
  unfold f_X8_divide_73B
  refine r_iload_w_7 dX8_divide_73 ?_
  refine r_iload_w_6 dX8_divide_75 ?_
  refine r_icmp_ge (tgt := 128) dX8_divide_77 (by decide) ?_ ?_
  · refine r_iinc_3 dX8_divide_128 ki_1 (by decide) rfl ?_
    refine r_goto (tgt := 17) dX8_divide_131 (by decide) ?_
    refine r_sub [0, 1, 2, 3] (lv' := [(0, .ref 72), (1, .int v1), (3, .ref p3), (4, .int (v4 + (1 : Int32)))]) rfl ?_
    exact hk17 v1 (v4 + (1 : Int32)) d
  · refine r_aload_n_0 dX8_divide_80 rfl ?_
    refine r_getr (t := 81) (cc := 8) 12 rfl rfl uX8 (by decide) rfl fw_X8_47 rfl dX8_divide_81 ?_
    refine r_iload_w_7 dX8_divide_84 ?_
    refine r_callSNL [] (am_X9_longAt 81 rfl v12 d) cf_X9_longAt wn_X8_123 (by decide) dX8_divide_86 rfl (Nat.le_of_ble_eq_true rfl) ⟨rfl, rfl⟩ (fun q9 => ?_)
    refine r_lstore_w_x dX8_divide_89 (by decide) rfl ?_
    refine r_aload_n_1 dX8_divide_91 rfl ?_
    refine r_getr (t := 81) (cc := 8) 12 rfl rfl uX8 (by decide) rfl fw_X8_47 rfl dX8_divide_92 ?_
    refine r_iload_w_8 dX8_divide_95 ?_
    refine r_iload_w_7 dX8_divide_97 ?_
    refine r_ior dX8_divide_99 ?_
    refine r_lload_w_0 dX8_divide_100 ?_
    refine r_lload_w_5 dX8_divide_102 ?_
    refine r_lmul dX8_divide_104 ?_
    refine r_callSNU [] (am_X9_putLong 81 rfl (v12 ||| v11) (q9.1 * v7) q9.2) cf_X9_putLong wn_X8_127 (by decide) dX8_divide_105 rfl (Nat.le_of_ble_eq_true rfl) ⟨rfl, rfl⟩ (fun q10 => ?_)
    refine r_aload_n_1 dX8_divide_108 rfl ?_
    refine r_getr (t := 81) (cc := 8) 12 rfl rfl uX8 (by decide) rfl fw_X8_47 rfl dX8_divide_109 ?_
    refine r_iload_w_8 dX8_divide_112 ?_
    refine r_lload_w_0 dX8_divide_114 ?_
    refine r_lload_w_6 dX8_divide_116 ?_
    refine r_lmul dX8_divide_118 ?_
    refine r_callSNU [] (am_X9_putLong 81 rfl v12 (q9.1 * v9) q10.2) cf_X9_putLong wn_X8_127 (by decide) dX8_divide_119 rfl (Nat.le_of_ble_eq_true rfl) ⟨rfl, rfl⟩ (fun q11 => ?_)
    refine r_iinc_8 dX8_divide_122 ki_1 (by decide) rfl ?_
    refine r_goto (tgt := 73) dX8_divide_125 (by decide) ?_
    refine r_sub [1, 2, 3, 4, 5, 6, 7, 8] (lv' := [(0, .ref 72), (1, .int v1), (3, .ref p3), (4, .int v4), (7, .long v7), (9, .long v9), (11, .int v11), (12, .int (v12 + (1 : Int32)))]) rfl ?_
    exact hk73 v1 v4 v7 v9 v11 (v12 + (1 : Int32)) q11.2
theorem w_X8_divide_73 {E : XE} (p3 : Nat) (hp3 : kd p3 = 1) (k17 : Int32 → Int32 → DD → Option (Unit × DD)) (hk17 : ∀ (v1 : Int32) (v4 : Int32) (d : DD), AW E si_X8_divide 0 0 (QM E wrU) (k17 v1 v4 d) 17 [(0, .ref 72), (1, .int v1), (3, .ref p3), (4, .int v4)] [] d) (n : Nat) : ∀ (v1 : Int32) (v4 : Int32) (v7 : Int64) (v9 : Int64) (v11 : Int32) (v12 : Int32) (d : DD), AW E si_X8_divide 0 0 (QM E wrU) (f_X8_divide_73 p3 k17 n v1 v4 v7 v9 v11 v12 d) 73 [(0, .ref 72), (1, .int v1), (3, .ref p3), (4, .int v4), (7, .long v7), (9, .long v9), (11, .int v11), (12, .int v12)] [] d := by
  induction n with
  | zero => intros; exact r_none
  | succ n ih => intro v1 v4 v7 v9 v11 v12 d; exact w_X8_divide_73B p3 hp3 k17 hk17 (f_X8_divide_73 p3 k17 n) ih v1 v4 v7 v9 v11 v12 d
def f_X8_divide_17B (p3 : Nat) (k17 : Int32 → Int32 → DD → Option (Unit × DD)) (v1 : Int32) (v4 : Int32) (d : DD) : Option (Unit × DD) :=
  if v4 < (d.1 2 0) then
  (f_X8_branchTime v1 v4 d).bind fun q3 =>
    (f_X9_longAt p3 v4 q3.2).bind fun q4 =>
    (f_J13_bitCount_95d88 (q3.1 &&& q4.1) q4.2).bind fun q5 =>
    (f_J13_bitCount_95d88 q3.1 q5.2).bind fun q6 =>
    bd (q6.1.toInt64 - q5.1.toInt64) fun x7 =>
    bd ((1 : Int32) <<< (v4 &&& 31)) fun x8 =>
    f_X8_divide_73 p3 k17 FU v1 v4 q5.1.toInt64 x7 x8 (0 : Int32) q6.2
  else
  some ((), d)
def f_X8_divide_17 (p3 : Nat) : Nat → Int32 → Int32 → DD → Option (Unit × DD)
  | 0, _, _, _ => none
  | n + 1, v1, v4, d => f_X8_divide_17B p3 (f_X8_divide_17 p3 n) v1 v4 d
set_option maxRecDepth 100000 in
set_option maxHeartbeats 4000000 in
theorem w_X8_divide_17B {E : XE} (p3 : Nat) (hp3 : kd p3 = 1) (k17 : Int32 → Int32 → DD → Option (Unit × DD)) (hk17 : ∀ (v1 : Int32) (v4 : Int32) (d : DD), AW E si_X8_divide 0 0 (QM E wrU) (k17 v1 v4 d) 17 [(0, .ref 72), (1, .int v1), (3, .ref p3), (4, .int v4)] [] d) (v1 : Int32) (v4 : Int32) (d : DD) : AW E si_X8_divide 0 0 (QM E wrU) (f_X8_divide_17B p3 k17 v1 v4 d) 17 [(0, .ref 72), (1, .int v1), (3, .ref p3), (4, .int v4)] [] d := by
  unfold f_X8_divide_17B
  refine r_iload_w_3 dX8_divide_17 ?_
  refine r_aload_n_0 dX8_divide_19 rfl ?_
  refine r_getr (t := 2) (cc := 8) 0 rfl rfl uX8 (by decide) rfl fw_X8_53 rfl dX8_divide_20 ?_
  refine r_geti (cc := 1) 0 rfl rfl uX1 (by decide) rfl fw_X8_108 dX8_divide_23 ?_
  refine r_icmp_ge (tgt := 134) dX8_divide_26 (by decide) ?_ ?_
  · exact r_return dX8_divide_134 rfl
  · refine r_aload_n_0 dX8_divide_29 rfl ?_
    refine r_iload_n_1 dX8_divide_30 rfl ?_
    refine r_iload_w_3 dX8_divide_31 ?_
    refine r_callVL (cc := 8) [] (am_X8_branchTime v1 v4 d) rfl rfl cf_X8_branchTime mw_X8_161 (by decide) dX8_divide_33 rfl (Nat.le_of_ble_eq_true rfl) ⟨rfl, rfl⟩ (fun q3 => ?_)
    refine r_lstore_w_x dX8_divide_36 (by decide) rfl ?_
    refine r_lload_w_0 dX8_divide_38 ?_
    refine r_aload_n_3 dX8_divide_40 rfl ?_
    refine r_iload_w_4 dX8_divide_41 ?_
    refine r_callSNL [.long q3.1] (am_X9_longAt p3 hp3 v4 q3.2) cf_X9_longAt wn_X8_123 (by decide) dX8_divide_43 rfl (Nat.le_of_ble_eq_true rfl) ⟨rfl, rfl⟩ (fun q4 => ?_)
    refine r_land dX8_divide_46 ?_
    refine r_callSI [] (am_J13_bitCount_95d88 (q3.1 &&& q4.1) q4.2) cf_J13_bitCount_95d88 mw_X8_172 (by decide) dX8_divide_47 rfl (Nat.le_of_ble_eq_true rfl) ⟨rfl, rfl⟩ (fun q5 => ?_)
    refine r_i2l dX8_divide_50 ?_
    refine r_lstore_w_x dX8_divide_51 (by decide) rfl ?_
    refine r_lload_w_1 dX8_divide_53 ?_
    refine r_callSI [] (am_J13_bitCount_95d88 q3.1 q5.2) cf_J13_bitCount_95d88 mw_X8_172 (by decide) dX8_divide_55 rfl (Nat.le_of_ble_eq_true rfl) ⟨rfl, rfl⟩ (fun q6 => ?_)
    refine r_i2l dX8_divide_58 ?_
    refine r_lload_w_0 dX8_divide_59 ?_
    refine r_lsub dX8_divide_61 ?_
    refine r_bdJ (fun x7 => ?_)
    refine r_lstore_w_x dX8_divide_62 (by decide) rfl ?_
    refine r_iconst dX8_divide_64 ki_1 ?_
    refine r_iload_w_6 dX8_divide_65 ?_
    refine r_ishl dX8_divide_67 ?_
    refine r_bdI (fun x8 => ?_)
    refine r_istore_w_x dX8_divide_68 (by decide) rfl ?_
    refine r_iconst dX8_divide_70 ki_0 ?_
    refine r_istore_w_x dX8_divide_71 (by decide) rfl ?_
    refine r_sub [5, 6, 7, 8, 3, 2, 1, 0] (lv' := [(0, .ref 72), (1, .int v1), (3, .ref p3), (4, .int v4), (7, .long q5.1.toInt64), (9, .long x7), (11, .int x8), (12, .int (0 : Int32))]) rfl ?_
    exact w_X8_divide_73 p3 hp3 k17 hk17 FU v1 v4 q5.1.toInt64 x7 x8 (0 : Int32) q6.2
theorem w_X8_divide_17 {E : XE} (p3 : Nat) (hp3 : kd p3 = 1) (n : Nat) : ∀ (v1 : Int32) (v4 : Int32) (d : DD), AW E si_X8_divide 0 0 (QM E wrU) (f_X8_divide_17 p3 n v1 v4 d) 17 [(0, .ref 72), (1, .int v1), (3, .ref p3), (4, .int v4)] [] d := by
  induction n with
  | zero => intros; exact r_none
  | succ n ih => intro v1 v4 d; exact w_X8_divide_17B p3 hp3 (f_X8_divide_17 p3 n) ih v1 v4 d
def f_X8_divide (p1 : Int32) (p2 : Int32) (p3 : Nat) (d : DD) : Option (Unit × DD) :=
  (f_X8_waysBut p1 p2 d).bind fun q1 =>
  (f_X9_putLong 81 (0 : Int32) q1.1 q1.2).bind fun q2 =>
  f_X8_divide_17 p3 FU p1 (0 : Int32) q2.2
set_option maxRecDepth 100000 in
set_option maxHeartbeats 4000000 in
theorem am_X8_divide (p1 : Int32) (p2 : Int32) (p3 : Nat) (hp3 : kd p3 = 1) (d : DD) : AM wrU mi_X8_divide 3 68 [.ref 72, .int p1, .int p2, .ref p3] d (f_X8_divide p1 p2 p3 d) := by
  refine AM_intro (si := si_X8_divide) (lv := [(0, .ref 72), (1, .int p1), (2, .int p2), (3, .ref p3)]) rfl (by decide +kernel) rfl (Nat.le_of_ble_eq_true rfl) (fun E => ?_)
  unfold f_X8_divide
  refine r_aload_n_0 dX8_divide_0 rfl ?_
  refine r_getr (t := 81) (cc := 8) 12 rfl rfl uX8 (by decide) rfl fw_X8_47 rfl dX8_divide_1 ?_
  refine r_iconst dX8_divide_4 ki_0 ?_
  refine r_aload_n_0 dX8_divide_5 rfl ?_
  refine r_iload_n_1 dX8_divide_6 rfl ?_
  refine r_iload_n_2 dX8_divide_7 rfl ?_
  refine r_callVL (cc := 8) [.int (0 : Int32), .ref 81] (am_X8_waysBut p1 p2 d) rfl rfl cf_X8_waysBut mw_X8_177 (by decide) dX8_divide_8 rfl (Nat.le_of_ble_eq_true rfl) ⟨rfl, rfl⟩ (fun q1 => ?_)
  refine r_callSNU [] (am_X9_putLong 81 rfl (0 : Int32) q1.1 q1.2) cf_X9_putLong wn_X8_127 (by decide) dX8_divide_11 rfl (Nat.le_of_ble_eq_true rfl) ⟨rfl, rfl⟩ (fun q2 => ?_)
  refine r_iconst dX8_divide_14 ki_0 ?_
  refine r_istore_w_x dX8_divide_15 (by decide) rfl ?_
  refine r_sub [1, 2, 4, 0] (lv' := [(0, .ref 72), (1, .int p1), (3, .ref p3), (4, .int (0 : Int32))]) rfl ?_
  exact w_X8_divide_17 p3 hp3 FU p1 (0 : Int32) q2.2
theorem cf_X8_divide : CFv mi_X8_divide 3 := ⟨iw_X8_divide, vw_X8_divide, nw_X8, cw_X8_divide, by unfold plainF; decide +kernel⟩
