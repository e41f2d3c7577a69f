abbrev si_X10_readTurn : SI := (cX10_readTurn, RX10, 2, (some .boolean), 3, 65)
def f_X10_readTurn (d : DD) : Option (Int32 × DD) :=
  (f_X10_skip d).bind fun q1 =>
  if (q1.2.1 86 12) = (2 : Int32) then
  if (29 : Int32) < (q1.2.1 86 15) then
    (f_X10_bad (2 : Int32) q1.2).bind fun q7 =>
      if q7.1 = 0 ∨ q7.1 = 1 then some (q7.1, q7.2) else none
    else
    if ixb ((19 : Int32) + (q1.2.1 86 15)) (ln 89) then
      if 0 < (q1.2.1 89 ((19 : Int32) + (q1.2.1 86 15)).toNatClampNeg) then
        (f_X10_bad (3 : Int32) q1.2).bind fun q6 =>
          if q6.1 = 0 ∨ q6.1 = 1 then some (q6.1, q6.2) else none
        else
        bd (q1.2.1 86 15) fun x2 =>
          (f_X10_skip q1.2).bind fun q3 =>
          if ixb (1 : Int32) (ln 89) then
          (f_X10_takesName (10 : Int32) (q3.2.1 89 (1 : Int32).toNatClampNeg) q3.2).bind fun q4 =>
            if q4.1 = 0 then
            some ((0 : Int32), q4.2)
            else
            if ixb ((19 : Int32) + x2) (ln 89) then
              bd (u1 q4.2 89 ((19 : Int32) + x2).toNatClampNeg ((q4.2.1 86 19) + (1 : Int32))) fun d5 =>
              some ((1 : Int32), d5)
              else none
          else none
      else none
  else
  (f_X10_bad (1 : Int32) q1.2).bind fun q8 =>
    if q8.1 = 0 ∨ q8.1 = 1 then some (q8.1, q8.2) else none
set_option maxRecDepth 100000 in
set_option maxHeartbeats 4000000 in
theorem am_X10_readTurn (d : DD) : AM wrI mi_X10_readTurn 3 65 [.ref 86] d (f_X10_readTurn d) := by
  refine AM_intro (si := si_X10_readTurn) (lv := [(0, .ref 86)]) rfl (by decide +kernel) rfl (Nat.le_of_ble_eq_true rfl) (fun E => ?_)
  unfold f_X10_readTurn
  refine r_aload_n_0 dX10_readTurn_0 rfl ?_
  refine r_callVU (cc := 10) [] (am_X10_skip d) rfl rfl cf_X10_skip mw_X10_169 (by decide) dX10_readTurn_1 rfl (Nat.le_of_ble_eq_true rfl) ⟨rfl, rfl⟩ (fun q1 => ?_)
  refine r_aload_n_0 dX10_readTurn_4 rfl ?_
  refine r_geti (cc := 10) 12 rfl rfl uX10 (by decide) rfl fw_X10_140 dX10_readTurn_5 ?_
  refine r_iconst dX10_readTurn_8 ki_2 ?_
  refine r_icmp_eq (tgt := 18) dX10_readTurn_9 (by decide) ?_ ?_
  · refine r_aload_n_0 dX10_readTurn_18 rfl ?_
    refine r_geti (cc := 10) 15 rfl rfl uX10 (by decide) rfl fw_X10_150 dX10_readTurn_19 ?_
    refine r_bipush dX10_readTurn_22 kb_29 ?_
    refine r_icmp_le (tgt := 33) dX10_readTurn_24 (by decide) ?_ ?_
    · refine r_aload_n_0 dX10_readTurn_33 rfl ?_
      refine r_getr (t := 89) (cc := 10) 7 rfl rfl uX10 (by decide) rfl fw_X10_45 rfl dX10_readTurn_34 ?_
      refine r_bipush dX10_readTurn_37 kb_19 ?_
      refine r_aload_n_0 dX10_readTurn_39 rfl ?_
      refine r_geti (cc := 10) 15 rfl rfl uX10 (by decide) rfl fw_X10_150 dX10_readTurn_40 ?_
      refine r_iadd dX10_readTurn_43 ?_
      refine r_iaload rfl dX10_readTurn_44 ?_
      refine r_if_le (tgt := 54) dX10_readTurn_45 (by decide) ?_ ?_
      · refine r_aload_n_0 dX10_readTurn_54 rfl ?_
        refine r_geti (cc := 10) 15 rfl rfl uX10 (by decide) rfl fw_X10_150 dX10_readTurn_55 ?_
        refine r_bdI (fun x2 => ?_)
        refine r_istore_n_x dX10_readTurn_58 rfl (by decide) rfl ?_
        refine r_aload_n_1 dX10_readTurn_59 rfl ?_
        refine r_callVU (cc := 10) [] (am_X10_skip q1.2) rfl rfl cf_X10_skip mw_X10_169 (by decide) dX10_readTurn_60 rfl (Nat.le_of_ble_eq_true rfl) ⟨rfl, rfl⟩ (fun q3 => ?_)
        refine r_aload_n_1 dX10_readTurn_63 rfl ?_
        refine r_bipush dX10_readTurn_64 kb_10 ?_
        refine r_aload_n_1 dX10_readTurn_66 rfl ?_
        refine r_getr (t := 89) (cc := 10) 7 rfl rfl uX10 (by decide) rfl fw_X10_45 rfl dX10_readTurn_67 ?_
        refine r_iconst dX10_readTurn_70 ki_1 ?_
        refine r_iaload rfl dX10_readTurn_71 ?_
        refine r_callVI (cc := 10) [] (am_X10_takesName (10 : Int32) (q3.2.1 89 (1 : Int32).toNatClampNeg) q3.2) rfl rfl cf_X10_takesName mw_X10_216 (by decide) dX10_readTurn_72 rfl (Nat.le_of_ble_eq_true rfl) ⟨rfl, rfl⟩ (fun q4 => ?_)
        refine r_if_ne (tgt := 80) dX10_readTurn_75 (by decide) ?_ ?_
        · refine r_aload_n_1 dX10_readTurn_80 rfl ?_
          refine r_getr (t := 89) (cc := 10) 7 rfl rfl uX10 (by decide) rfl fw_X10_45 rfl dX10_readTurn_81 ?_
          refine r_bipush dX10_readTurn_84 kb_19 ?_
          refine r_iload_n_0 dX10_readTurn_86 rfl ?_
          refine r_iadd dX10_readTurn_87 ?_
          refine r_aload_n_1 dX10_readTurn_88 rfl ?_
          refine r_geti (cc := 10) 19 rfl rfl uX10 (by decide) rfl fw_X10_176 dX10_readTurn_89 ?_
          refine r_iconst dX10_readTurn_92 ki_1 ?_
          refine r_iadd dX10_readTurn_93 ?_
          refine r_iastore rfl dX10_readTurn_94 ?_
          refine r_bd (fun d5 => ?_)
          refine r_iconst dX10_readTurn_95 ki_1 ?_
          exact r_zreturn dX10_readTurn_96 rfl rfl
        · refine r_iconst dX10_readTurn_78 ki_0 ?_
          exact r_zreturn dX10_readTurn_79 rfl rfl
      · refine r_aload_n_0 dX10_readTurn_48 rfl ?_
        refine r_iconst dX10_readTurn_49 ki_3 ?_
        refine r_callVI (cc := 10) [] (am_X10_bad (3 : Int32) q1.2) rfl rfl cf_X10_bad mw_X10_166 (by decide) dX10_readTurn_50 rfl (Nat.le_of_ble_eq_true rfl) ⟨rfl, rfl⟩ (fun q6 => ?_)
        exact r_breturn dX10_readTurn_53 rfl
    · refine r_aload_n_0 dX10_readTurn_27 rfl ?_
      refine r_iconst dX10_readTurn_28 ki_2 ?_
      refine r_callVI (cc := 10) [] (am_X10_bad (2 : Int32) q1.2) rfl rfl cf_X10_bad mw_X10_166 (by decide) dX10_readTurn_29 rfl (Nat.le_of_ble_eq_true rfl) ⟨rfl, rfl⟩ (fun q7 => ?_)
      exact r_breturn dX10_readTurn_32 rfl
  · refine r_aload_n_0 dX10_readTurn_12 rfl ?_
    refine r_iconst dX10_readTurn_13 ki_1 ?_
    refine r_callVI (cc := 10) [] (am_X10_bad (1 : Int32) q1.2) rfl rfl cf_X10_bad mw_X10_166 (by decide) dX10_readTurn_14 rfl (Nat.le_of_ble_eq_true rfl) ⟨rfl, rfl⟩ (fun q8 => ?_)
    exact r_breturn dX10_readTurn_17 rfl
theorem cf_X10_readTurn : CFv mi_X10_readTurn 0 := ⟨iw_X10_readTurn, vw_X10_readTurn, nw_X10, cw_X10_readTurn, by unfold plainF; decide +kernel⟩
abbrev si_X10_readWants : SI := (cX10_readWants, RX10, 3, (some .boolean), 3, 65)
def f_X10_readWants (d : DD) : Option (Int32 × DD) :=
  (f_X10_skip d).bind fun q1 =>
  if ixb (1 : Int32) (ln 89) then
  (f_X10_takesName (10 : Int32) (q1.2.1 89 (1 : Int32).toNatClampNeg) q1.2).bind fun q2 =>
    if q2.1 = 0 then
    some ((0 : Int32), q2.2)
    else
    bd (q2.2.1 86 19) fun x3 =>
      if (q2.2.1 86 12) = (2 : Int32) then
      if (29 : Int32) < (q2.2.1 86 15) then
        (f_X10_bad (2 : Int32) q2.2).bind fun q9 =>
          if q9.1 = 0 ∨ q9.1 = 1 then some (q9.1, q9.2) else none
        else
        bd (((49 : Int32) + ((30 : Int32) * x3)) + (q2.2.1 86 15)) fun x4 =>
          if ixb x4 (ln 89) then
          if 0 < (q2.2.1 89 x4.toNatClampNeg) then
            (f_X10_bad (3 : Int32) q2.2).bind fun q8 =>
              if q8.1 = 0 ∨ q8.1 = 1 then some (q8.1, q8.2) else none
            else
            (f_X10_skip q2.2).bind fun q5 =>
              (f_X10_takes (0 : Int32) (99 : Int32) q5.2).bind fun q6 =>
              if q6.1 = 0 then
              some ((0 : Int32), q6.2)
              else
              if ixb x4 (ln 89) then
                bd (u1 q6.2 89 x4.toNatClampNeg ((q6.2.1 86 19) + (1 : Int32))) fun d7 =>
                some ((1 : Int32), d7)
                else none
          else none
      else
      (f_X10_bad (1 : Int32) q2.2).bind fun q10 =>
        if q10.1 = 0 ∨ q10.1 = 1 then some (q10.1, q10.2) else none
  else none
set_option maxRecDepth 100000 in
set_option maxHeartbeats 4000000 in
theorem am_X10_readWants (d : DD) : AM wrI mi_X10_readWants 3 65 [.ref 86] d (f_X10_readWants d) := by
  refine AM_intro (si := si_X10_readWants) (lv := [(0, .ref 86)]) rfl (by decide +kernel) rfl (Nat.le_of_ble_eq_true rfl) (fun E => ?_)
  unfold f_X10_readWants
  refine r_aload_n_0 dX10_readWants_0 rfl ?_
  refine r_callVU (cc := 10) [] (am_X10_skip d) rfl rfl cf_X10_skip mw_X10_169 (by decide) dX10_readWants_1 rfl (Nat.le_of_ble_eq_true rfl) ⟨rfl, rfl⟩ (fun q1 => ?_)
  refine r_aload_n_0 dX10_readWants_4 rfl ?_
  refine r_bipush dX10_readWants_5 kb_10 ?_
  refine r_aload_n_0 dX10_readWants_7 rfl ?_
  refine r_getr (t := 89) (cc := 10) 7 rfl rfl uX10 (by decide) rfl fw_X10_45 rfl dX10_readWants_8 ?_
  refine r_iconst dX10_readWants_11 ki_1 ?_
  refine r_iaload rfl dX10_readWants_12 ?_
  refine r_callVI (cc := 10) [] (am_X10_takesName (10 : Int32) (q1.2.1 89 (1 : Int32).toNatClampNeg) q1.2) rfl rfl cf_X10_takesName mw_X10_216 (by decide) dX10_readWants_13 rfl (Nat.le_of_ble_eq_true rfl) ⟨rfl, rfl⟩ (fun q2 => ?_)
  refine r_if_ne (tgt := 21) dX10_readWants_16 (by decide) ?_ ?_
  · refine r_aload_n_0 dX10_readWants_21 rfl ?_
    refine r_geti (cc := 10) 19 rfl rfl uX10 (by decide) rfl fw_X10_176 dX10_readWants_22 ?_
    refine r_bdI (fun x3 => ?_)
    refine r_istore_n_x dX10_readWants_25 rfl (by decide) rfl ?_
    refine r_aload_n_1 dX10_readWants_26 rfl ?_
    refine r_geti (cc := 10) 12 rfl rfl uX10 (by decide) rfl fw_X10_140 dX10_readWants_27 ?_
    refine r_iconst dX10_readWants_30 ki_2 ?_
    refine r_icmp_eq (tgt := 40) dX10_readWants_31 (by decide) ?_ ?_
    · refine r_aload_n_1 dX10_readWants_40 rfl ?_
      refine r_geti (cc := 10) 15 rfl rfl uX10 (by decide) rfl fw_X10_150 dX10_readWants_41 ?_
      refine r_bipush dX10_readWants_44 kb_29 ?_
      refine r_icmp_le (tgt := 55) dX10_readWants_46 (by decide) ?_ ?_
      · refine r_bipush dX10_readWants_55 kb_49 ?_
        refine r_bipush dX10_readWants_57 kb_30 ?_
        refine r_iload_n_0 dX10_readWants_59 rfl ?_
        refine r_imul dX10_readWants_60 ?_
        refine r_iadd dX10_readWants_61 ?_
        refine r_aload_n_1 dX10_readWants_62 rfl ?_
        refine r_geti (cc := 10) 15 rfl rfl uX10 (by decide) rfl fw_X10_150 dX10_readWants_63 ?_
        refine r_iadd dX10_readWants_66 ?_
        refine r_bdI (fun x4 => ?_)
        refine r_istore_n_x dX10_readWants_67 rfl (by decide) rfl ?_
        refine r_aload_n_2 dX10_readWants_68 rfl ?_
        refine r_getr (t := 89) (cc := 10) 7 rfl rfl uX10 (by decide) rfl fw_X10_45 rfl dX10_readWants_69 ?_
        refine r_iload_n_0 dX10_readWants_72 rfl ?_
        refine r_iaload rfl dX10_readWants_73 ?_
        refine r_if_le (tgt := 83) dX10_readWants_74 (by decide) ?_ ?_
        · refine r_aload_n_2 dX10_readWants_83 rfl ?_
          refine r_callVU (cc := 10) [] (am_X10_skip q2.2) rfl rfl cf_X10_skip mw_X10_169 (by decide) dX10_readWants_84 rfl (Nat.le_of_ble_eq_true rfl) ⟨rfl, rfl⟩ (fun q5 => ?_)
          refine r_aload_n_2 dX10_readWants_87 rfl ?_
          refine r_iconst dX10_readWants_88 ki_0 ?_
          refine r_bipush dX10_readWants_89 kb_99 ?_
          refine r_callVI (cc := 10) [] (am_X10_takes (0 : Int32) (99 : Int32) q5.2) rfl rfl cf_X10_takes mw_X10_209 (by decide) dX10_readWants_91 rfl (Nat.le_of_ble_eq_true rfl) ⟨rfl, rfl⟩ (fun q6 => ?_)
          refine r_if_ne (tgt := 99) dX10_readWants_94 (by decide) ?_ ?_
          · refine r_aload_n_2 dX10_readWants_99 rfl ?_
            refine r_getr (t := 89) (cc := 10) 7 rfl rfl uX10 (by decide) rfl fw_X10_45 rfl dX10_readWants_100 ?_
            refine r_iload_n_0 dX10_readWants_103 rfl ?_
            refine r_aload_n_2 dX10_readWants_104 rfl ?_
            refine r_geti (cc := 10) 19 rfl rfl uX10 (by decide) rfl fw_X10_176 dX10_readWants_105 ?_
            refine r_iconst dX10_readWants_108 ki_1 ?_
            refine r_iadd dX10_readWants_109 ?_
            refine r_iastore rfl dX10_readWants_110 ?_
            refine r_bd (fun d7 => ?_)
            refine r_iconst dX10_readWants_111 ki_1 ?_
            exact r_zreturn dX10_readWants_112 rfl rfl
          · refine r_iconst dX10_readWants_97 ki_0 ?_
            exact r_zreturn dX10_readWants_98 rfl rfl
        · refine r_aload_n_2 dX10_readWants_77 rfl ?_
          refine r_iconst dX10_readWants_78 ki_3 ?_
          refine r_callVI (cc := 10) [] (am_X10_bad (3 : Int32) q2.2) rfl rfl cf_X10_bad mw_X10_166 (by decide) dX10_readWants_79 rfl (Nat.le_of_ble_eq_true rfl) ⟨rfl, rfl⟩ (fun q8 => ?_)
          exact r_breturn dX10_readWants_82 rfl
      · refine r_aload_n_1 dX10_readWants_49 rfl ?_
        refine r_iconst dX10_readWants_50 ki_2 ?_
        refine r_callVI (cc := 10) [] (am_X10_bad (2 : Int32) q2.2) rfl rfl cf_X10_bad mw_X10_166 (by decide) dX10_readWants_51 rfl (Nat.le_of_ble_eq_true rfl) ⟨rfl, rfl⟩ (fun q9 => ?_)
        exact r_breturn dX10_readWants_54 rfl
    · refine r_aload_n_1 dX10_readWants_34 rfl ?_
      refine r_iconst dX10_readWants_35 ki_1 ?_
      refine r_callVI (cc := 10) [] (am_X10_bad (1 : Int32) q2.2) rfl rfl cf_X10_bad mw_X10_166 (by decide) dX10_readWants_36 rfl (Nat.le_of_ble_eq_true rfl) ⟨rfl, rfl⟩ (fun q10 => ?_)
      exact r_breturn dX10_readWants_39 rfl
  · refine r_iconst dX10_readWants_19 ki_0 ?_
    exact r_zreturn dX10_readWants_20 rfl rfl
theorem cf_X10_readWants : CFv mi_X10_readWants 0 := ⟨iw_X10_readWants, vw_X10_readWants, nw_X10, cw_X10_readWants, by unfold plainF; decide +kernel⟩
abbrev si_X10_line : SI := (cX10_line, RX10, 1, (some .boolean), 4, 88)
def f_X10_line (d : DD) : Option (Int32 × DD) :=
  (f_X10_isWord (1802071652 : Int64) d).bind fun q1 =>
  if q1.1 = 0 then
  (f_X10_isWord (123581014175598 : Int64) q1.2).bind fun q2 =>
    if q2.1 = 0 then
    (f_X10_isWord (465726040947 : Int64) q2.2).bind fun q3 =>
      if q3.1 = 0 then
      (f_X10_isWord (1953854062 : Int64) q3.2).bind fun q4 =>
        if q4.1 = 0 then
        (f_X10_isWord (512735736947 : Int64) q4.2).bind fun q5 =>
          if q5.1 = 0 then
          (f_X10_bad (1 : Int32) q5.2).bind fun q6 =>
            if q6.1 = 0 ∨ q6.1 = 1 then some (q6.1, q6.2) else none
          else
          (f_X10_readWants q5.2).bind fun q7 =>
            if q7.1 = 0 ∨ q7.1 = 1 then some (q7.1, q7.2) else none
        else
        (f_X10_readTurn q4.2).bind fun q8 =>
          if q8.1 = 0 ∨ q8.1 = 1 then some (q8.1, q8.2) else none
      else
      (f_X10_readLooks q3.2).bind fun q9 =>
        if q9.1 = 0 ∨ q9.1 = 1 then some (q9.1, q9.2) else none
    else
    (f_X10_readPerson q2.2).bind fun q10 =>
      if q10.1 = 0 ∨ q10.1 = 1 then some (q10.1, q10.2) else none
  else
  (f_X10_readKind q1.2).bind fun q11 =>
    if q11.1 = 0 ∨ q11.1 = 1 then some (q11.1, q11.2) else none
set_option maxRecDepth 100000 in
set_option maxHeartbeats 4000000 in
theorem am_X10_line (d : DD) : AM wrI mi_X10_line 4 88 [.ref 86] d (f_X10_line d) := by
  refine AM_intro (si := si_X10_line) (lv := [(0, .ref 86)]) rfl (by decide +kernel) rfl (Nat.le_of_ble_eq_true rfl) (fun E => ?_)
  unfold f_X10_line
  refine r_aload_n_0 dX10_line_0 rfl ?_
  refine r_ldc2 dX10_line_1 kw_X10_110 ?_
  refine r_callVI (cc := 10) [] (am_X10_isWord (1802071652 : Int64) d) rfl rfl cf_X10_isWord mw_X10_187 (by decide) dX10_line_4 rfl (Nat.le_of_ble_eq_true rfl) ⟨rfl, rfl⟩ (fun q1 => ?_)
  refine r_if_eq (tgt := 15) dX10_line_7 (by decide) ?_ ?_
  · refine r_aload_n_0 dX10_line_15 rfl ?_
    refine r_ldc2 dX10_line_16 kw_X10_114 ?_
    refine r_callVI (cc := 10) [] (am_X10_isWord (123581014175598 : Int64) q1.2) rfl rfl cf_X10_isWord mw_X10_187 (by decide) dX10_line_19 rfl (Nat.le_of_ble_eq_true rfl) ⟨rfl, rfl⟩ (fun q2 => ?_)
    refine r_if_eq (tgt := 30) dX10_line_22 (by decide) ?_ ?_
    · refine r_aload_n_0 dX10_line_30 rfl ?_
      refine r_ldc2 dX10_line_31 kw_X10_124 ?_
      refine r_callVI (cc := 10) [] (am_X10_isWord (465726040947 : Int64) q2.2) rfl rfl cf_X10_isWord mw_X10_187 (by decide) dX10_line_34 rfl (Nat.le_of_ble_eq_true rfl) ⟨rfl, rfl⟩ (fun q3 => ?_)
      refine r_if_eq (tgt := 45) dX10_line_37 (by decide) ?_ ?_
      · refine r_aload_n_0 dX10_line_45 rfl ?_
        refine r_ldc2 dX10_line_46 kw_X10_126 ?_
        refine r_callVI (cc := 10) [] (am_X10_isWord (1953854062 : Int64) q3.2) rfl rfl cf_X10_isWord mw_X10_187 (by decide) dX10_line_49 rfl (Nat.le_of_ble_eq_true rfl) ⟨rfl, rfl⟩ (fun q4 => ?_)
        refine r_if_eq (tgt := 60) dX10_line_52 (by decide) ?_ ?_
        · refine r_aload_n_0 dX10_line_60 rfl ?_
          refine r_ldc2 dX10_line_61 kw_X10_128 ?_
          refine r_callVI (cc := 10) [] (am_X10_isWord (512735736947 : Int64) q4.2) rfl rfl cf_X10_isWord mw_X10_187 (by decide) dX10_line_64 rfl (Nat.le_of_ble_eq_true rfl) ⟨rfl, rfl⟩ (fun q5 => ?_)
          refine r_if_eq (tgt := 77) dX10_line_67 (by decide) ?_ ?_
          · refine r_aload_n_0 dX10_line_77 rfl ?_
            refine r_iconst dX10_line_78 ki_1 ?_
            refine r_callVI (cc := 10) [] (am_X10_bad (1 : Int32) q5.2) rfl rfl cf_X10_bad mw_X10_166 (by decide) dX10_line_79 rfl (Nat.le_of_ble_eq_true rfl) ⟨rfl, rfl⟩ (fun q6 => ?_)
            exact r_breturn dX10_line_82 rfl
          · refine r_aload_n_0 dX10_line_70 rfl ?_
            refine r_callVI (cc := 10) [] (am_X10_readWants q5.2) rfl rfl cf_X10_readWants mw_X10_203 (by decide) dX10_line_71 rfl (Nat.le_of_ble_eq_true rfl) ⟨rfl, rfl⟩ (fun q7 => ?_)
            refine r_goto (tgt := 82) dX10_line_74 (by decide) ?_
            exact r_breturn dX10_line_82 rfl
        · refine r_aload_n_0 dX10_line_55 rfl ?_
          refine r_callVI (cc := 10) [] (am_X10_readTurn q4.2) rfl rfl cf_X10_readTurn mw_X10_200 (by decide) dX10_line_56 rfl (Nat.le_of_ble_eq_true rfl) ⟨rfl, rfl⟩ (fun q8 => ?_)
          exact r_breturn dX10_line_59 rfl
      · refine r_aload_n_0 dX10_line_40 rfl ?_
        refine r_callVI (cc := 10) [] (am_X10_readLooks q3.2) rfl rfl cf_X10_readLooks mw_X10_197 (by decide) dX10_line_41 rfl (Nat.le_of_ble_eq_true rfl) ⟨rfl, rfl⟩ (fun q9 => ?_)
        exact r_breturn dX10_line_44 rfl
    · refine r_aload_n_0 dX10_line_25 rfl ?_
      refine r_callVI (cc := 10) [] (am_X10_readPerson q2.2) rfl rfl cf_X10_readPerson mw_X10_194 (by decide) dX10_line_26 rfl (Nat.le_of_ble_eq_true rfl) ⟨rfl, rfl⟩ (fun q10 => ?_)
      exact r_breturn dX10_line_29 rfl
  · refine r_aload_n_0 dX10_line_10 rfl ?_
    refine r_callVI (cc := 10) [] (am_X10_readKind q1.2) rfl rfl cf_X10_readKind mw_X10_191 (by decide) dX10_line_11 rfl (Nat.le_of_ble_eq_true rfl) ⟨rfl, rfl⟩ (fun q11 => ?_)
    exact r_breturn dX10_line_14 rfl
theorem cf_X10_line : CFv mi_X10_line 0 := ⟨iw_X10_line, vw_X10_line, nw_X10, cw_X10_line, by unfold plainF; decide +kernel⟩
abbrev si_X10_isSign : SI := (cX10_isSign, RX10, 2, (some .boolean), 0, 0)
def f_X10_isSign (p1 : Int32) (d : DD) : Option (Int32 × DD) :=
  if (d.1 86 12) = (3 : Int32) then
  if (d.1 86 15) = p1 then
    some ((1 : Int32), d)
    else
    some ((0 : Int32), d)
  else
  some ((0 : Int32), d)
set_option maxRecDepth 100000 in
set_option maxHeartbeats 4000000 in
theorem am_X10_isSign (p1 : Int32) (d : DD) : AM wrI mi_X10_isSign 0 0 [.ref 86, .int p1] d (f_X10_isSign p1 d) := by
  refine AM_intro (si := si_X10_isSign) (lv := [(0, .ref 86), (1, .int p1)]) rfl (by decide +kernel) rfl (Nat.le_of_ble_eq_true rfl) (fun E => ?_)
  unfold f_X10_isSign
  refine r_aload_n_0 dX10_isSign_0 rfl ?_
  refine r_geti (cc := 10) 12 rfl rfl uX10 (by decide) rfl fw_X10_140 dX10_isSign_1 ?_
  refine r_iconst dX10_isSign_4 ki_3 ?_
  refine r_icmp_ne (tgt := 20) dX10_isSign_5 (by decide) ?_ ?_
  · refine r_iconst dX10_isSign_20 ki_0 ?_
    exact r_zreturn dX10_isSign_21 rfl rfl
  · refine r_aload_n_0 dX10_isSign_8 rfl ?_
    refine r_geti (cc := 10) 15 rfl rfl uX10 (by decide) rfl fw_X10_150 dX10_isSign_9 ?_
    refine r_iload_n_1 dX10_isSign_12 rfl ?_
    refine r_icmp_ne (tgt := 20) dX10_isSign_13 (by decide) ?_ ?_
    · refine r_iconst dX10_isSign_20 ki_0 ?_
      exact r_zreturn dX10_isSign_21 rfl rfl
    · refine r_iconst dX10_isSign_16 ki_1 ?_
      refine r_goto (tgt := 21) dX10_isSign_17 (by decide) ?_
      exact r_zreturn dX10_isSign_21 rfl rfl
theorem cf_X10_isSign : CFv mi_X10_isSign 1 := ⟨iw_X10_isSign, vw_X10_isSign, nw_X10, cw_X10_isSign, by unfold plainF; decide +kernel⟩
abbrev si_X10_sign : SI := (cX10_sign, RX10, 2, (some .boolean), 2, 43)
def f_X10_sign (p1 : Int32) (d : DD) : Option (Int32 × DD) :=
  (f_X10_isSign p1 d).bind fun q1 =>
  if q1.1 = 0 then
  (f_X10_bad (1 : Int32) q1.2).bind fun q3 =>
    if q3.1 = 0 ∨ q3.1 = 1 then some (q3.1, q3.2) else none
  else
  (f_X10_skip q1.2).bind fun q2 =>
    some ((1 : Int32), q2.2)
set_option maxRecDepth 100000 in
set_option maxHeartbeats 4000000 in
theorem am_X10_sign (p1 : Int32) (d : DD) : AM wrI mi_X10_sign 2 43 [.ref 86, .int p1] d (f_X10_sign p1 d) := by
  refine AM_intro (si := si_X10_sign) (lv := [(0, .ref 86), (1, .int p1)]) rfl (by decide +kernel) rfl (Nat.le_of_ble_eq_true rfl) (fun E => ?_)
  unfold f_X10_sign
  refine r_aload_n_0 dX10_sign_0 rfl ?_
  refine r_iload_n_1 dX10_sign_1 rfl ?_
  refine r_callVI (cc := 10) [] (am_X10_isSign p1 d) rfl rfl cf_X10_isSign mw_X10_163 (by decide) dX10_sign_2 rfl (Nat.le_of_ble_eq_true rfl) ⟨rfl, rfl⟩ (fun q1 => ?_)
  refine r_if_ne (tgt := 14) dX10_sign_5 (by decide) ?_ ?_
  · refine r_aload_n_0 dX10_sign_14 rfl ?_
    refine r_callVU (cc := 10) [] (am_X10_skip q1.2) rfl rfl cf_X10_skip mw_X10_169 (by decide) dX10_sign_15 rfl (Nat.le_of_ble_eq_true rfl) ⟨rfl, rfl⟩ (fun q2 => ?_)
    refine r_iconst dX10_sign_18 ki_1 ?_
    exact r_zreturn dX10_sign_19 rfl rfl
  · refine r_aload_n_0 dX10_sign_8 rfl ?_
    refine r_iconst dX10_sign_9 ki_1 ?_
    refine r_callVI (cc := 10) [] (am_X10_bad (1 : Int32) q1.2) rfl rfl cf_X10_bad mw_X10_166 (by decide) dX10_sign_10 rfl (Nat.le_of_ble_eq_true rfl) ⟨rfl, rfl⟩ (fun q3 => ?_)
    exact r_breturn dX10_sign_13 rfl
theorem cf_X10_sign : CFv mi_X10_sign 1 := ⟨iw_X10_sign, vw_X10_sign, nw_X10, cw_X10_sign, by unfold plainF; decide +kernel⟩
abbrev si_X10_settle : SI := (cX10_settle, RX10, 7, none, 0, 0)
def f_X10_settle_51B (k2 : Int32 → DD → Option (Unit × DD)) (k23 : Int32 → Int32 → Int32 → DD → Option (Unit × DD)) (k38 : Int32 → Int32 → Int32 → Int32 → DD → Option (Unit × DD)) (k51 : Int32 → Int32 → Int32 → Int32 → Int32 → Int32 → DD → Option (Unit × DD)) (v1 : Int32) (v2 : Int32) (v3 : Int32) (v4 : Int32) (v5 : Int32) (v6 : Int32) (d : DD) : Option (Unit × DD) :=
  if v6 < (30 : Int32) then
  bd (v5 ||| ((1 : Int32) <<< (v6 &&& 31))) fun x4 =>
    bd (v6 + v3) fun x5 =>
    k51 v1 v2 v3 v4 x4 x5 d
  else
  if ixb (((36 : Int32) * v1) + v2) (ln 94) then
    bd (u1 d 94 (((36 : Int32) * v1) + v2).toNatClampNeg v5) fun d3 =>
    k38 v1 (v2 + (1 : Int32)) v3 (v4 + (1 : Int32)) d3
    else none
def f_X10_settle_51 (k2 : Int32 → DD → Option (Unit × DD)) (k23 : Int32 → Int32 → Int32 → DD → Option (Unit × DD)) (k38 : Int32 → Int32 → Int32 → Int32 → DD → Option (Unit × DD)) : Nat → Int32 → Int32 → Int32 → Int32 → Int32 → Int32 → DD → Option (Unit × DD)
  | 0, _, _, _, _, _, _, _ => none
  | n + 1, v1, v2, v3, v4, v5, v6, d => f_X10_settle_51B k2 k23 k38 (f_X10_settle_51 k2 k23 k38 n) v1 v2 v3 v4 v5 v6 d
set_option maxRecDepth 100000 in
set_option maxHeartbeats 4000000 in
theorem w_X10_settle_51B {E : XE} (k2 : Int32 → DD → Option (Unit × DD)) (hk2 : ∀ (v1 : Int32) (d : DD), AW E si_X10_settle 0 0 (QM E wrU) (k2 v1 d) 2 [(0, .ref 86), (1, .int v1)] [] d) (k23 : Int32 → Int32 → Int32 → DD → Option (Unit × DD)) (hk23 : ∀ (v1 : Int32) (v2 : Int32) (v3 : Int32) (d : DD), AW E si_X10_settle 0 0 (QM E wrU) (k23 v1 v2 v3 d) 23 [(0, .ref 86), (1, .int v1), (2, .int v2), (3, .int v3)] [] d) (k38 : Int32 → Int32 → Int32 → Int32 → DD → Option (Unit × DD)) (hk38 : ∀ (v1 : Int32) (v2 : Int32) (v3 : Int32) (v4 : Int32) (d : DD), AW E si_X10_settle 0 0 (QM E wrU) (k38 v1 v2 v3 v4 d) 38 [(0, .ref 86), (1, .int v1), (2, .int v2), (3, .int v3), (4, .int v4)] [] d) (k51 : Int32 → Int32 → Int32 → Int32 → Int32 → Int32 → DD → Option (Unit × DD)) (hk51 : ∀ (v1 : Int32) (v2 : Int32) (v3 : Int32) (v4 : Int32) (v5 : Int32) (v6 : Int32) (d : DD), AW E si_X10_settle 0 0 (QM E wrU) (k51 v1 v2 v3 v4 v5 v6 d) 51 [(0, .ref 86), (1, .int v1), (2, .int v2), (3, .int v3), (4, .int v4), (5, .int v5), (6, .int v6)] [] d) (v1 : Int32) (v2 : Int32) (v3 : Int32) (v4 : Int32) (v5 : Int32) (v6 : Int32) (d : DD) : AW E si_X10_settle 0 0 (QM E wrU) (f_X10_settle_51B k2 k23 k38 k51 v1 v2 v3 v4 v5 v6 d) 51 [(0, .ref 86), (1, .int v1), (2, .int v2), (3, .int v3), (4, .int v4), (5, .int v5), (6, .int v6)] [] d := by
  unfold f_X10_settle_51B
  refine r_iload_w_6 dX10_settle_51 ?_
  refine r_bipush dX10_settle_53 kb_30 ?_
  refine r_icmp_ge (tgt := 76) dX10_settle_55 (by decide) ?_ ?_
  · refine r_aload_n_0 dX10_settle_76 rfl ?_
    refine r_getr (t := 94) (cc := 10) 21 rfl rfl uX10 (by decide) rfl fw_X10_61 rfl dX10_settle_77 ?_
    refine r_bipush dX10_settle_80 kb_36 ?_
    refine r_iload_n_1 dX10_settle_82 rfl ?_
    refine r_imul dX10_settle_83 ?_
    refine r_iload_n_2 dX10_settle_84 rfl ?_
    refine r_iadd dX10_settle_85 ?_
    refine r_iload_w_5 dX10_settle_86 ?_
    refine r_iastore rfl dX10_settle_88 ?_
    refine r_bd (fun d3 => ?_)
    refine r_iinc_2 dX10_settle_89 ki_1 (by decide) rfl ?_
    refine r_iinc_4 dX10_settle_92 ki_1 (by decide) rfl ?_
    refine r_goto (tgt := 38) dX10_settle_95 (by decide) ?_
    refine r_sub [0, 1, 2, 3, 4] (lv' := [(0, .ref 86), (1, .int v1), (2, .int (v2 + (1 : Int32))), (3, .int v3), (4, .int (v4 + (1 : Int32)))]) rfl ?_
    exact hk38 v1 (v2 + (1 : Int32)) v3 (v4 + (1 : Int32)) d3
  · refine r_iload_w_5 dX10_settle_58 ?_
    refine r_iconst dX10_settle_60 ki_1 ?_
    refine r_iload_w_6 dX10_settle_61 ?_
    refine r_ishl dX10_settle_63 ?_
    refine r_ior dX10_settle_64 ?_
    refine r_bdI (fun x4 => ?_)
    refine r_istore_w_5 dX10_settle_65 (by decide) rfl ?_
    refine r_iload_w_6 dX10_settle_67 ?_
    refine r_iload_n_3 dX10_settle_69 rfl ?_
    refine r_iadd dX10_settle_70 ?_
    refine r_bdI (fun x5 => ?_)
    refine r_istore_w_6 dX10_settle_71 (by decide) rfl ?_
    refine r_goto (tgt := 51) dX10_settle_73 (by decide) ?_
    exact hk51 v1 v2 v3 v4 x4 x5 d
theorem w_X10_settle_51 {E : XE} (k2 : Int32 → DD → Option (Unit × DD)) (hk2 : ∀ (v1 : Int32) (d : DD), AW E si_X10_settle 0 0 (QM E wrU) (k2 v1 d) 2 [(0, .ref 86), (1, .int v1)] [] d) (k23 : Int32 → Int32 → Int32 → DD → Option (Unit × DD)) (hk23 : ∀ (v1 : Int32) (v2 : Int32) (v3 : Int32) (d : DD), AW E si_X10_settle 0 0 (QM E wrU) (k23 v1 v2 v3 d) 23 [(0, .ref 86), (1, .int v1), (2, .int v2), (3, .int v3)] [] d) (k38 : Int32 → Int32 → Int32 → Int32 → DD → Option (Unit × DD)) (hk38 : ∀ (v1 : Int32) (v2 : Int32) (v3 : Int32) (v4 : Int32) (d : DD), AW E si_X10_settle 0 0 (QM E wrU) (k38 v1 v2 v3 v4 d) 38 [(0, .ref 86), (1, .int v1), (2, .int v2), (3, .int v3), (4, .int v4)] [] d) (n : Nat) : ∀ (v1 : Int32) (v2 : Int32) (v3 : Int32) (v4 : Int32) (v5 : Int32) (v6 : Int32) (d : DD), AW E si_X10_settle 0 0 (QM E wrU) (f_X10_settle_51 k2 k23 k38 n v1 v2 v3 v4 v5 v6 d) 51 [(0, .ref 86), (1, .int v1), (2, .int v2), (3, .int v3), (4, .int v4), (5, .int v5), (6, .int v6)] [] d := by
  induction n with
  | zero => intros; exact r_none
  | succ n ih => intro v1 v2 v3 v4 v5 v6 d; exact w_X10_settle_51B k2 hk2 k23 hk23 k38 hk38 (f_X10_settle_51 k2 k23 k38 n) ih v1 v2 v3 v4 v5 v6 d
def f_X10_settle_38B (k2 : Int32 → DD → Option (Unit × DD)) (k23 : Int32 → Int32 → Int32 → DD → Option (Unit × DD)) (k38 : Int32 → Int32 → Int32 → Int32 → DD → Option (Unit × DD)) (v1 : Int32) (v2 : Int32) (v3 : Int32) (v4 : Int32) (d : DD) : Option (Unit × DD) :=
  if v4 < v3 then
  f_X10_settle_51 k2 k23 k38 FU v1 v2 v3 v4 (0 : Int32) v4 d
  else
  k23 v1 v2 (v3 + (1 : Int32)) d
def f_X10_settle_38 (k2 : Int32 → DD → Option (Unit × DD)) (k23 : Int32 → Int32 → Int32 → DD → Option (Unit × DD)) : Nat → Int32 → Int32 → Int32 → Int32 → DD → Option (Unit × DD)
  | 0, _, _, _, _, _ => none
  | n + 1, v1, v2, v3, v4, d => f_X10_settle_38B k2 k23 (f_X10_settle_38 k2 k23 n) v1 v2 v3 v4 d
set_option maxRecDepth 100000 in
set_option maxHeartbeats 4000000 in
theorem w_X10_settle_38B {E : XE} (k2 : Int32 → DD → Option (Unit × DD)) (hk2 : ∀ (v1 : Int32) (d : DD), AW E si_X10_settle 0 0 (QM E wrU) (k2 v1 d) 2 [(0, .ref 86), (1, .int v1)] [] d) (k23 : Int32 → Int32 → Int32 → DD → Option (Unit × DD)) (hk23 : ∀ (v1 : Int32) (v2 : Int32) (v3 : Int32) (d : DD), AW E si_X10_settle 0 0 (QM E wrU) (k23 v1 v2 v3 d) 23 [(0, .ref 86), (1, .int v1), (2, .int v2), (3, .int v3)] [] d) (k38 : Int32 → Int32 → Int32 → Int32 → DD → Option (Unit × DD)) (hk38 : ∀ (v1 : Int32) (v2 : Int32) (v3 : Int32) (v4 : Int32) (d : DD), AW E si_X10_settle 0 0 (QM E wrU) (k38 v1 v2 v3 v4 d) 38 [(0, .ref 86), (1, .int v1), (2, .int v2), (3, .int v3), (4, .int v4)] [] d) (v1 : Int32) (v2 : Int32) (v3 : Int32) (v4 : Int32) (d : DD) : AW E si_X10_settle 0 0 (QM E wrU) (f_X10_settle_38B k2 k23 k38 v1 v2 v3 v4 d) 38 [(0, .ref 86), (1, .int v1), (2, .int v2), (3, .int v3), (4, .int v4)] [] d := by
  unfold f_X10_settle_38B
  refine r_iload_w_4 dX10_settle_38 ?_
  refine r_iload_n_3 dX10_settle_40 rfl ?_
  refine r_icmp_ge (tgt := 98) dX10_settle_41 (by decide) ?_ ?_
  · refine r_iinc_3 dX10_settle_98 ki_1 (by decide) rfl ?_
    refine r_goto (tgt := 23) dX10_settle_101 (by decide) ?_
    refine r_sub [0, 1, 2, 3] (lv' := [(0, .ref 86), (1, .int v1), (2, .int v2), (3, .int (v3 + (1 : Int32)))]) rfl ?_
    exact hk23 v1 v2 (v3 + (1 : Int32)) d
  · refine r_iconst dX10_settle_44 ki_0 ?_
    refine r_istore_w_x dX10_settle_45 (by decide) rfl ?_
    refine r_iload_w_5 dX10_settle_47 ?_
    refine r_istore_w_x dX10_settle_49 (by decide) rfl ?_
    refine r_sub [2, 3, 4, 5, 6, 1, 0] (lv' := [(0, .ref 86), (1, .int v1), (2, .int v2), (3, .int v3), (4, .int v4), (5, .int (0 : Int32)), (6, .int v4)]) rfl ?_
    exact w_X10_settle_51 k2 hk2 k23 hk23 k38 hk38 FU v1 v2 v3 v4 (0 : Int32) v4 d
theorem w_X10_settle_38 {E : XE} (k2 : Int32 → DD → Option (Unit × DD)) (hk2 : ∀ (v1 : Int32) (d : DD), AW E si_X10_settle 0 0 (QM E wrU) (k2 v1 d) 2 [(0, .ref 86), (1, .int v1)] [] d) (k23 : Int32 → Int32 → Int32 → DD → Option (Unit × DD)) (hk23 : ∀ (v1 : Int32) (v2 : Int32) (v3 : Int32) (d : DD), AW E si_X10_settle 0 0 (QM E wrU) (k23 v1 v2 v3 d) 23 [(0, .ref 86), (1, .int v1), (2, .int v2), (3, .int v3)] [] d) (n : Nat) : ∀ (v1 : Int32) (v2 : Int32) (v3 : Int32) (v4 : Int32) (d : DD), AW E si_X10_settle 0 0 (QM E wrU) (f_X10_settle_38 k2 k23 n v1 v2 v3 v4 d) 38 [(0, .ref 86), (1, .int v1), (2, .int v2), (3, .int v3), (4, .int v4)] [] d := by
  induction n with
  | zero => intros; exact r_none
  | succ n ih => intro v1 v2 v3 v4 d; exact w_X10_settle_38B k2 hk2 k23 hk23 (f_X10_settle_38 k2 k23 n) ih v1 v2 v3 v4 d
def f_X10_settle_23B (k2 : Int32 → DD → Option (Unit × DD)) (k23 : Int32 → Int32 → Int32 → DD → Option (Unit × DD)) (v1 : Int32) (v2 : Int32) (v3 : Int32) (d : DD) : Option (Unit × DD) :=
  if ixb ((5 : Int32) + v1) (ln 88) then
  if (d.1 88 ((5 : Int32) + v1).toNatClampNeg) < v3 then
    if ixb v1 (ln 95) then
      bd (u1 d 95 v1.toNatClampNeg v2) fun d2 =>
      k2 (v1 + (1 : Int32)) d2
      else none
    else
    f_X10_settle_38 k2 k23 FU v1 v2 v3 (0 : Int32) d
  else none
def f_X10_settle_23 (k2 : Int32 → DD → Option (Unit × DD)) : Nat → Int32 → Int32 → Int32 → DD → Option (Unit × DD)
  | 0, _, _, _, _ => none
  | n + 1, v1, v2, v3, d => f_X10_settle_23B k2 (f_X10_settle_23 k2 n) v1 v2 v3 d
set_option maxRecDepth 100000 in
set_option maxHeartbeats 4000000 in
theorem w_X10_settle_23B {E : XE} (k2 : Int32 → DD → Option (Unit × DD)) (hk2 : ∀ (v1 : Int32) (d : DD), AW E si_X10_settle 0 0 (QM E wrU) (k2 v1 d) 2 [(0, .ref 86), (1, .int v1)] [] d) (k23 : Int32 → Int32 → Int32 → DD → Option (Unit × DD)) (hk23 : ∀ (v1 : Int32) (v2 : Int32) (v3 : Int32) (d : DD), AW E si_X10_settle 0 0 (QM E wrU) (k23 v1 v2 v3 d) 23 [(0, .ref 86), (1, .int v1), (2, .int v2), (3, .int v3)] [] d) (v1 : Int32) (v2 : Int32) (v3 : Int32) (d : DD) : AW E si_X10_settle 0 0 (QM E wrU) (f_X10_settle_23B k2 k23 v1 v2 v3 d) 23 [(0, .ref 86), (1, .int v1), (2, .int v2), (3, .int v3)] [] d := by
  unfold f_X10_settle_23B
  refine r_iload_n_3 dX10_settle_23 rfl ?_
  refine r_aload_n_0 dX10_settle_24 rfl ?_
  refine r_getr (t := 88) (cc := 10) 6 rfl rfl uX10 (by decide) rfl fw_X10_41 rfl dX10_settle_25 ?_
  refine r_iconst dX10_settle_28 ki_5 ?_
  refine r_iload_n_1 dX10_settle_29 rfl ?_
  refine r_iadd dX10_settle_30 ?_
  refine r_iaload rfl dX10_settle_31 ?_
  refine r_icmp_gt (tgt := 104) dX10_settle_32 (by decide) ?_ ?_
  · refine r_aload_n_0 dX10_settle_104 rfl ?_
    refine r_getr (t := 95) (cc := 10) 22 rfl rfl uX10 (by decide) rfl fw_X10_64 rfl dX10_settle_105 ?_
    refine r_iload_n_1 dX10_settle_108 rfl ?_
    refine r_iload_n_2 dX10_settle_109 rfl ?_
    refine r_iastore rfl dX10_settle_110 ?_
    refine r_bd (fun d2 => ?_)
    refine r_iinc_1 dX10_settle_111 ki_1 (by decide) rfl ?_
    refine r_goto (tgt := 2) dX10_settle_114 (by decide) ?_
    refine r_sub [0, 1] (lv' := [(0, .ref 86), (1, .int (v1 + (1 : Int32)))]) rfl ?_
    exact hk2 (v1 + (1 : Int32)) d2
  · refine r_iconst dX10_settle_35 ki_0 ?_
    refine r_istore_w_x dX10_settle_36 (by decide) rfl ?_
    refine r_sub [1, 2, 3, 4, 0] (lv' := [(0, .ref 86), (1, .int v1), (2, .int v2), (3, .int v3), (4, .int (0 : Int32))]) rfl ?_
    exact w_X10_settle_38 k2 hk2 k23 hk23 FU v1 v2 v3 (0 : Int32) d
theorem w_X10_settle_23 {E : XE} (k2 : Int32 → DD → Option (Unit × DD)) (hk2 : ∀ (v1 : Int32) (d : DD), AW E si_X10_settle 0 0 (QM E wrU) (k2 v1 d) 2 [(0, .ref 86), (1, .int v1)] [] d) (n : Nat) : ∀ (v1 : Int32) (v2 : Int32) (v3 : Int32) (d : DD), AW E si_X10_settle 0 0 (QM E wrU) (f_X10_settle_23 k2 n v1 v2 v3 d) 23 [(0, .ref 86), (1, .int v1), (2, .int v2), (3, .int v3)] [] d := by
  induction n with
  | zero => intros; exact r_none
  | succ n ih => intro v1 v2 v3 d; exact w_X10_settle_23B k2 hk2 (f_X10_settle_23 k2 n) ih v1 v2 v3 d
def f_X10_settle_2B (k2 : Int32 → DD → Option (Unit × DD)) (v1 : Int32) (d : DD) : Option (Unit × DD) :=
  if ixb (0 : Int32) (ln 88) then
  if v1 < (d.1 88 (0 : Int32).toNatClampNeg) then
    if ixb ((2 : Int32) + v1) (ln 88) then
      bd (d.1 88 ((2 : Int32) + v1).toNatClampNeg) fun x1 =>
        f_X10_settle_23 k2 FU v1 (0 : Int32) x1 d
      else none
    else
    some ((), d)
  else none
def f_X10_settle_2 : Nat → Int32 → DD → Option (Unit × DD)
  | 0, _, _ => none
  | n + 1, v1, d => f_X10_settle_2B (f_X10_settle_2 n) v1 d
set_option maxRecDepth 100000 in
set_option maxHeartbeats 4000000 in
theorem w_X10_settle_2B {E : XE} (k2 : Int32 → DD → Option (Unit × DD)) (hk2 : ∀ (v1 : Int32) (d : DD), AW E si_X10_settle 0 0 (QM E wrU) (k2 v1 d) 2 [(0, .ref 86), (1, .int v1)] [] d) (v1 : Int32) (d : DD) : AW E si_X10_settle 0 0 (QM E wrU) (f_X10_settle_2B k2 v1 d) 2 [(0, .ref 86), (1, .int v1)] [] d := by
  unfold f_X10_settle_2B
  refine r_iload_n_1 dX10_settle_2 rfl ?_
  refine r_aload_n_0 dX10_settle_3 rfl ?_
  refine r_getr (t := 88) (cc := 10) 6 rfl rfl uX10 (by decide) rfl fw_X10_41 rfl dX10_settle_4 ?_
  refine r_iconst dX10_settle_7 ki_0 ?_
  refine r_iaload rfl dX10_settle_8 ?_
  refine r_icmp_ge (tgt := 117) dX10_settle_9 (by decide) ?_ ?_
  · exact r_return dX10_settle_117 rfl
  · refine r_iconst dX10_settle_12 ki_0 ?_
    refine r_istore_n_x dX10_settle_13 rfl (by decide) rfl ?_
    refine r_aload_n_1 dX10_settle_14 rfl ?_
    refine r_getr (t := 88) (cc := 10) 6 rfl rfl uX10 (by decide) rfl fw_X10_41 rfl dX10_settle_15 ?_
    refine r_iconst dX10_settle_18 ki_2 ?_
    refine r_iload_n_2 dX10_settle_19 rfl ?_
    refine r_iadd dX10_settle_20 ?_
    refine r_iaload rfl dX10_settle_21 ?_
    refine r_bdI (fun x1 => ?_)
    refine r_istore_n_x dX10_settle_22 rfl (by decide) rfl ?_
    refine r_sub [2, 3, 1, 0] (lv' := [(0, .ref 86), (1, .int v1), (2, .int (0 : Int32)), (3, .int x1)]) rfl ?_
    exact w_X10_settle_23 k2 hk2 FU v1 (0 : Int32) x1 d
theorem w_X10_settle_2 {E : XE} (n : Nat) : ∀ (v1 : Int32) (d : DD), AW E si_X10_settle 0 0 (QM E wrU) (f_X10_settle_2 n v1 d) 2 [(0, .ref 86), (1, .int v1)] [] d := by
  induction n with
  | zero => intros; exact r_none
  | succ n ih => intro v1 d; exact w_X10_settle_2B (f_X10_settle_2 n) ih v1 d
def f_X10_settle (d : DD) : Option (Unit × DD) :=
  f_X10_settle_2 FU (0 : Int32) d
set_option maxRecDepth 100000 in
set_option maxHeartbeats 4000000 in
theorem am_X10_settle (d : DD) : AM wrU mi_X10_settle 0 0 [.ref 86] d (f_X10_settle d) := by
  refine AM_intro (si := si_X10_settle) (lv := [(0, .ref 86)]) rfl (by decide +kernel) rfl (Nat.le_of_ble_eq_true rfl) (fun E => ?_)
  unfold f_X10_settle
  refine r_iconst dX10_settle_0 ki_0 ?_
  refine r_istore_n_x dX10_settle_1 rfl (by decide) rfl ?_
  refine r_sub [1, 0] (lv' := [(0, .ref 86), (1, .int (0 : Int32))]) rfl ?_
  exact w_X10_settle_2 FU (0 : Int32) d
theorem cf_X10_settle : CFv mi_X10_settle 0 := ⟨iw_X10_settle, vw_X10_settle, nw_X10, cw_X10_settle, by unfold plainF; decide +kernel⟩
abbrev si_X10_house : SI := (cX10_house, RX10, 2, (some .int), 5, 108)
def f_X10_house_131B (k131 : Int32 → DD → Option (Int32 × DD)) (v1 : Int32) (d : DD) : Option (Int32 × DD) :=
  if v1 < (7 : Int32) then
  if ixb ((7 : Int32) + v1) (ln 92) then
    if ixb v1 (ln 92) then
      bd (u2 d 92 v1.toNatClampNeg (d.2 92 ((7 : Int32) + v1).toNatClampNeg)) fun d7 =>
      k131 (v1 + (1 : Int32)) d7
      else none
    else none
  else
  (f_X10_settle d).bind fun q6 =>
    some (q6.2.1 86 20, q6.2)
def f_X10_house_131 : Nat → Int32 → DD → Option (Int32 × DD)
  | 0, _, _ => none
  | n + 1, v1, d => f_X10_house_131B (f_X10_house_131 n) v1 d
set_option maxRecDepth 100000 in
set_option maxHeartbeats 4000000 in
theorem w_X10_house_131B {E : XE} (k131 : Int32 → DD → Option (Int32 × DD)) (hk131 : ∀ (v1 : Int32) (d : DD), AW E si_X10_house 0 0 (QM E wrI) (k131 v1 d) 131 [(0, .ref 86), (1, .int v1)] [] d) (v1 : Int32) (d : DD) : AW E si_X10_house 0 0 (QM E wrI) (f_X10_house_131B k131 v1 d) 131 [(0, .ref 86), (1, .int v1)] [] d := by
  unfold f_X10_house_131B
  refine r_iload_n_1 dX10_house_131 rfl ?_
  refine r_bipush dX10_house_132 kb_7 ?_
  refine r_icmp_ge (tgt := 158) dX10_house_134 (by decide) ?_ ?_
  · refine r_aload_n_0 dX10_house_158 rfl ?_
    refine r_callVU (cc := 10) [] (am_X10_settle d) rfl rfl cf_X10_settle mw_X10_231 (by decide) dX10_house_159 rfl (Nat.le_of_ble_eq_true rfl) ⟨rfl, rfl⟩ (fun q6 => ?_)
    refine r_aload_n_0 dX10_house_162 rfl ?_
    refine r_geti (cc := 10) 20 rfl rfl uX10 (by decide) rfl fw_X10_222 dX10_house_163 ?_
    exact r_ireturn dX10_house_166 rfl
  · refine r_aload_n_0 dX10_house_137 rfl ?_
    refine r_getr (t := 92) (cc := 10) 10 rfl rfl uX10 (by decide) rfl fw_X10_54 rfl dX10_house_138 ?_
    refine r_iload_n_1 dX10_house_141 rfl ?_
    refine r_aload_n_0 dX10_house_142 rfl ?_
    refine r_getr (t := 92) (cc := 10) 10 rfl rfl uX10 (by decide) rfl fw_X10_54 rfl dX10_house_143 ?_
    refine r_bipush dX10_house_146 kb_7 ?_
    refine r_iload_n_1 dX10_house_148 rfl ?_
    refine r_iadd dX10_house_149 ?_
    refine r_laload rfl dX10_house_150 ?_
    refine r_lastore rfl dX10_house_151 ?_
    refine r_bd (fun d7 => ?_)
    refine r_iinc_1 dX10_house_152 ki_1 (by decide) rfl ?_
    refine r_goto (tgt := 131) dX10_house_155 (by decide) ?_
    exact hk131 (v1 + (1 : Int32)) d7
theorem w_X10_house_131 {E : XE} (n : Nat) : ∀ (v1 : Int32) (d : DD), AW E si_X10_house 0 0 (QM E wrI) (f_X10_house_131 n v1 d) 131 [(0, .ref 86), (1, .int v1)] [] d := by
  induction n with
  | zero => intros; exact r_none
  | succ n ih => intro v1 d; exact w_X10_house_131B (f_X10_house_131 n) ih v1 d
def f_X10_house_93B (k93 : Int32 → DD → Option (Int32 × DD)) (v1 : Int32) (d : DD) : Option (Int32 × DD) :=
  if v1 < (290 : Int32) then
  if v1 < (169 : Int32) then
    if ixb v1 (ln 89) then
      if ixb v1 (ln 88) then
        bd (u1 d 88 v1.toNatClampNeg (d.1 89 v1.toNatClampNeg)) fun d9 =>
        k93 (v1 + (1 : Int32)) d9
        else none
      else none
    else
    if ixb v1 (ln 88) then
      bd (u1 d 88 v1.toNatClampNeg (0 : Int32)) fun d8 =>
      k93 (v1 + (1 : Int32)) d8
      else none
  else
  f_X10_house_131 FU (0 : Int32) d
def f_X10_house_93 : Nat → Int32 → DD → Option (Int32 × DD)
  | 0, _, _ => none
  | n + 1, v1, d => f_X10_house_93B (f_X10_house_93 n) v1 d
set_option maxRecDepth 100000 in
set_option maxHeartbeats 4000000 in
theorem w_X10_house_93B {E : XE} (k93 : Int32 → DD → Option (Int32 × DD)) (hk93 : ∀ (v1 : Int32) (d : DD), AW E si_X10_house 0 0 (QM E wrI) (k93 v1 d) 93 [(0, .ref 86), (1, .int v1)] [] d) (v1 : Int32) (d : DD) : AW E si_X10_house 0 0 (QM E wrI) (f_X10_house_93B k93 v1 d) 93 [(0, .ref 86), (1, .int v1)] [] d := by
  unfold f_X10_house_93B
  refine r_iload_n_1 dX10_house_93 rfl ?_
  refine r_sipush dX10_house_94 ks_290 ?_
  refine r_icmp_ge (tgt := 129) dX10_house_97 (by decide) ?_ ?_
  · refine r_iconst dX10_house_129 ki_0 ?_
    refine r_istore_n_1 dX10_house_130 rfl (by decide) rfl ?_
    exact w_X10_house_131 FU (0 : Int32) d
  · refine r_aload_n_0 dX10_house_100 rfl ?_
    refine r_getr (t := 88) (cc := 10) 6 rfl rfl uX10 (by decide) rfl fw_X10_41 rfl dX10_house_101 ?_
    refine r_iload_n_1 dX10_house_104 rfl ?_
    refine r_iload_n_1 dX10_house_105 rfl ?_
    refine r_sipush dX10_house_106 ks_169 ?_
    refine r_icmp_ge (tgt := 121) dX10_house_109 (by decide) ?_ ?_
    · refine r_iconst dX10_house_121 ki_0 ?_
      refine r_iastore rfl dX10_house_122 ?_
      refine r_bd (fun d8 => ?_)
      refine r_iinc_1 dX10_house_123 ki_1 (by decide) rfl ?_
      refine r_goto (tgt := 93) dX10_house_126 (by decide) ?_
      exact hk93 (v1 + (1 : Int32)) d8
    · refine r_aload_n_0 dX10_house_112 rfl ?_
      refine r_getr (t := 89) (cc := 10) 7 rfl rfl uX10 (by decide) rfl fw_X10_45 rfl dX10_house_113 ?_
      refine r_iload_n_1 dX10_house_116 rfl ?_
      refine r_iaload rfl dX10_house_117 ?_
      refine r_goto (tgt := 122) dX10_house_118 (by decide) ?_
      refine r_iastore rfl dX10_house_122 ?_
      refine r_bd (fun d9 => ?_)
      refine r_iinc_1 dX10_house_123 ki_1 (by decide) rfl ?_
      refine r_goto (tgt := 93) dX10_house_126 (by decide) ?_
      exact hk93 (v1 + (1 : Int32)) d9
theorem w_X10_house_93 {E : XE} (n : Nat) : ∀ (v1 : Int32) (d : DD), AW E si_X10_house 0 0 (QM E wrI) (f_X10_house_93 n v1 d) 93 [(0, .ref 86), (1, .int v1)] [] d := by
  induction n with
  | zero => intros; exact r_none
  | succ n ih => intro v1 d; exact w_X10_house_93B (f_X10_house_93 n) ih v1 d
def f_X10_house_48B (k48 : DD → Option (Int32 × DD)) (d : DD) : Option (Int32 × DD) :=
  if (d.1 86 12) = 0 then
  f_X10_house_93 FU (0 : Int32) d
  else
  (f_X10_line d).bind fun q10 =>
    if q10.1 = 0 then
    some ((-1 : Int32) - (q10.2.1 86 17), q10.2)
    else
    (f_X10_sign (59 : Int32) q10.2).bind fun q11 =>
      if q11.1 = 0 then
      some ((-1 : Int32) - (q11.2.1 86 17), q11.2)
      else
      bd (u1 q11.2 86 20 ((q11.2.1 86 20) + (1 : Int32))) fun d12 =>
        k48 d12
def f_X10_house_48 : Nat → DD → Option (Int32 × DD)
  | 0, _ => none
  | n + 1, d => f_X10_house_48B (f_X10_house_48 n) d
set_option maxRecDepth 100000 in
set_option maxHeartbeats 4000000 in
theorem w_X10_house_48B {E : XE} (k48 : DD → Option (Int32 × DD)) (hk48 : ∀ (d : DD), AW E si_X10_house 0 0 (QM E wrI) (k48 d) 48 [(0, .ref 86)] [] d) (d : DD) : AW E si_X10_house 0 0 (QM E wrI) (f_X10_house_48B k48 d) 48 [(0, .ref 86)] [] d := by
  unfold f_X10_house_48B
  refine r_aload_n_0 dX10_house_48 rfl ?_
  refine r_geti (cc := 10) 12 rfl rfl uX10 (by decide) rfl fw_X10_140 dX10_house_49 ?_
  refine r_if_eq (tgt := 91) dX10_house_52 (by decide) ?_ ?_
  · refine r_iconst dX10_house_91 ki_0 ?_
    refine r_istore_n_x dX10_house_92 rfl (by decide) rfl ?_
    refine r_sub [1, 0] (lv' := [(0, .ref 86), (1, .int (0 : Int32))]) rfl ?_
    exact w_X10_house_93 FU (0 : Int32) d
  · refine r_aload_n_0 dX10_house_55 rfl ?_
    refine r_callVI (cc := 10) [] (am_X10_line d) rfl rfl cf_X10_line mw_X10_225 (by decide) dX10_house_56 rfl (Nat.le_of_ble_eq_true rfl) ⟨rfl, rfl⟩ (fun q10 => ?_)
    refine r_if_eq (tgt := 71) dX10_house_59 (by decide) ?_ ?_
    · refine r_iconst dX10_house_71 ki_m1 ?_
      refine r_aload_n_0 dX10_house_72 rfl ?_
      refine r_geti (cc := 10) 17 rfl rfl uX10 (by decide) rfl fw_X10_160 dX10_house_73 ?_
      refine r_isub dX10_house_76 ?_
      exact r_ireturn dX10_house_77 rfl
    · refine r_aload_n_0 dX10_house_62 rfl ?_
      refine r_bipush dX10_house_63 kb_59 ?_
      refine r_callVI (cc := 10) [] (am_X10_sign (59 : Int32) q10.2) rfl rfl cf_X10_sign mw_X10_228 (by decide) dX10_house_65 rfl (Nat.le_of_ble_eq_true rfl) ⟨rfl, rfl⟩ (fun q11 => ?_)
      refine r_if_ne (tgt := 78) dX10_house_68 (by decide) ?_ ?_
      · refine r_aload_n_0 dX10_house_78 rfl ?_
        refine r_dupa dX10_house_79 ?_
        refine r_geti (cc := 10) 20 rfl rfl uX10 (by decide) rfl fw_X10_222 dX10_house_80 ?_
        refine r_iconst dX10_house_83 ki_1 ?_
        refine r_iadd dX10_house_84 ?_
        refine r_puti (cc := 10) 20 tyX10 tyX10_ok nmX10 rfl (by decide +kernel) rfl rfl uX10 (by decide) rfl fw_X10_222 dX10_house_85 ?_
        refine r_bd (fun d12 => ?_)
        refine r_goto (tgt := 48) dX10_house_88 (by decide) ?_
        exact hk48 d12
      · refine r_iconst dX10_house_71 ki_m1 ?_
        refine r_aload_n_0 dX10_house_72 rfl ?_
        refine r_geti (cc := 10) 17 rfl rfl uX10 (by decide) rfl fw_X10_160 dX10_house_73 ?_
        refine r_isub dX10_house_76 ?_
        exact r_ireturn dX10_house_77 rfl
theorem w_X10_house_48 {E : XE} (n : Nat) : ∀ (d : DD), AW E si_X10_house 0 0 (QM E wrI) (f_X10_house_48 n d) 48 [(0, .ref 86)] [] d := by
  induction n with
  | zero => intros; exact r_none
  | succ n ih => intro d; exact w_X10_house_48B (f_X10_house_48 n) ih d
def f_X10_house_24B (k24 : Int32 → DD → Option (Int32 × DD)) (v1 : Int32) (d : DD) : Option (Int32 × DD) :=
  if v1 < (169 : Int32) then
  if ixb v1 (ln 89) then
    bd (u1 d 89 v1.toNatClampNeg (0 : Int32)) fun d13 =>
    k24 (v1 + (1 : Int32)) d13
    else none
  else
  (f_X10_skip d).bind fun q5 =>
    f_X10_house_48 FU q5.2
def f_X10_house_24 : Nat → Int32 → DD → Option (Int32 × DD)
  | 0, _, _ => none
  | n + 1, v1, d => f_X10_house_24B (f_X10_house_24 n) v1 d
set_option maxRecDepth 100000 in
set_option maxHeartbeats 4000000 in
theorem w_X10_house_24B {E : XE} (k24 : Int32 → DD → Option (Int32 × DD)) (hk24 : ∀ (v1 : Int32) (d : DD), AW E si_X10_house 0 0 (QM E wrI) (k24 v1 d) 24 [(0, .ref 86), (1, .int v1)] [] d) (v1 : Int32) (d : DD) : AW E si_X10_house 0 0 (QM E wrI) (f_X10_house_24B k24 v1 d) 24 [(0, .ref 86), (1, .int v1)] [] d := by
  unfold f_X10_house_24B
  refine r_iload_n_1 dX10_house_24 rfl ?_
  refine r_sipush dX10_house_25 ks_169 ?_
  refine r_icmp_ge (tgt := 44) dX10_house_28 (by decide) ?_ ?_
  · refine r_aload_n_0 dX10_house_44 rfl ?_
    refine r_callVU (cc := 10) [] (am_X10_skip d) rfl rfl cf_X10_skip mw_X10_169 (by decide) dX10_house_45 rfl (Nat.le_of_ble_eq_true rfl) ⟨rfl, rfl⟩ (fun q5 => ?_)
    refine r_sub [0] (lv' := [(0, .ref 86)]) rfl ?_
    exact w_X10_house_48 FU q5.2
  · refine r_aload_n_0 dX10_house_31 rfl ?_
    refine r_getr (t := 89) (cc := 10) 7 rfl rfl uX10 (by decide) rfl fw_X10_45 rfl dX10_house_32 ?_
    refine r_iload_n_1 dX10_house_35 rfl ?_
    refine r_iconst dX10_house_36 ki_0 ?_
    refine r_iastore rfl dX10_house_37 ?_
    refine r_bd (fun d13 => ?_)
    refine r_iinc_1 dX10_house_38 ki_1 (by decide) rfl ?_
    refine r_goto (tgt := 24) dX10_house_41 (by decide) ?_
    exact hk24 (v1 + (1 : Int32)) d13
theorem w_X10_house_24 {E : XE} (n : Nat) : ∀ (v1 : Int32) (d : DD), AW E si_X10_house 0 0 (QM E wrI) (f_X10_house_24 n v1 d) 24 [(0, .ref 86), (1, .int v1)] [] d := by
  induction n with
  | zero => intros; exact r_none
  | succ n ih => intro v1 d; exact w_X10_house_24B (f_X10_house_24 n) ih v1 d
def f_X10_house (d : DD) : Option (Int32 × DD) :=
  bd (u1 d 86 0 (0 : Int32)) fun d1 =>
  (f_X10_taken (900 : Int32) d1).bind fun q2 =>
  bd (u1 q2.2 86 16 (0 : Int32)) fun d3 =>
  bd (u1 d3 86 20 (0 : Int32)) fun d4 =>
  f_X10_house_24 FU (0 : Int32) d4
set_option maxRecDepth 100000 in
set_option maxHeartbeats 4000000 in
theorem am_X10_house (d : DD) : AM wrI mi_X10_house 5 108 [.ref 86] d (f_X10_house d) := by
  refine AM_intro (si := si_X10_house) (lv := [(0, .ref 86)]) rfl (by decide +kernel) rfl (Nat.le_of_ble_eq_true rfl) (fun E => ?_)
  unfold f_X10_house
  refine r_aload_n_0 dX10_house_0 rfl ?_
  refine r_iconst dX10_house_1 ki_0 ?_
  refine r_puti (cc := 10) 0 tyX10 tyX10_ok nmX10 rfl (by decide +kernel) rfl rfl uX10 (by decide) rfl fw_X10_1 dX10_house_2 ?_
  refine r_bd (fun d1 => ?_)
  refine r_aload_n_0 dX10_house_5 rfl ?_
  refine r_sipush dX10_house_6 ks_900 ?_
  refine r_callVU (cc := 10) [] (am_X10_taken (900 : Int32) d1) rfl rfl cf_X10_taken mw_X10_219 (by decide) dX10_house_9 rfl (Nat.le_of_ble_eq_true rfl) ⟨rfl, rfl⟩ (fun q2 => ?_)
  refine r_aload_n_0 dX10_house_12 rfl ?_
  refine r_iconst dX10_house_13 ki_0 ?_
  refine r_puti (cc := 10) 16 tyX10 tyX10_ok nmX10 rfl (by decide +kernel) rfl rfl uX10 (by decide) rfl fw_X10_157 dX10_house_14 ?_
  refine r_bd (fun d3 => ?_)
  refine r_aload_n_0 dX10_house_17 rfl ?_
  refine r_iconst dX10_house_18 ki_0 ?_
  refine r_puti (cc := 10) 20 tyX10 tyX10_ok nmX10 rfl (by decide +kernel) rfl rfl uX10 (by decide) rfl fw_X10_222 dX10_house_19 ?_
  refine r_bd (fun d4 => ?_)
  refine r_iconst dX10_house_22 ki_0 ?_
  refine r_istore_n_x dX10_house_23 rfl (by decide) rfl ?_
  refine r_sub [1, 0] (lv' := [(0, .ref 86), (1, .int (0 : Int32))]) rfl ?_
  exact w_X10_house_24 FU (0 : Int32) d4
theorem cf_X10_house : CFv mi_X10_house 0 := ⟨iw_X10_house, vw_X10_house, nw_X10, cw_X10_house, by unfold plainF; decide +kernel⟩
abbrev si_X10_image : SI := (cX10_image, RX10, 3, (some .boolean), 1, 22)
def f_X10_image_51B (k51 : Int32 → Int32 → DD → Option (Int32 × DD)) (v1 : Int32) (v2 : Int32) (d : DD) : Option (Int32 × DD) :=
  if v2 < (7 : Int32) then
  if ixb v2 (ln 92) then
    if ixb (((7 : Int32) * v1) + v2) (ln 108) then
      bd (u2 d 108 (((7 : Int32) * v1) + v2).toNatClampNeg (d.2 92 v2.toNatClampNeg)) fun d4 =>
      k51 v1 (v2 + (1 : Int32)) d4
      else none
    else none
  else
  if ixb v1 (ln 109) then
    bd (u1 d 109 v1.toNatClampNeg (vp_nar .boolean (1 : Int32))) fun d3 =>
    some ((1 : Int32), d3)
    else none
def f_X10_image_51 : Nat → Int32 → Int32 → DD → Option (Int32 × DD)
  | 0, _, _, _ => none
  | n + 1, v1, v2, d => f_X10_image_51B (f_X10_image_51 n) v1 v2 d
set_option maxRecDepth 100000 in
set_option maxHeartbeats 4000000 in
theorem w_X10_image_51B {E : XE} (k51 : Int32 → Int32 → DD → Option (Int32 × DD)) (hk51 : ∀ (v1 : Int32) (v2 : Int32) (d : DD), AW E si_X10_image 0 0 (QM E wrI) (k51 v1 v2 d) 51 [(0, .ref 86), (1, .int v1), (2, .int v2)] [] d) (v1 : Int32) (v2 : Int32) (d : DD) : AW E si_X10_image 0 0 (QM E wrI) (f_X10_image_51B k51 v1 v2 d) 51 [(0, .ref 86), (1, .int v1), (2, .int v2)] [] d := by
  unfold f_X10_image_51B
  refine r_iload_n_2 dX10_image_51 rfl ?_
  refine r_bipush dX10_image_52 kb_7 ?_
  refine r_icmp_ge (tgt := 80) dX10_image_54 (by decide) ?_ ?_
  · refine r_aload_n_0 dX10_image_80 rfl ?_
    refine r_getr (t := 109) (cc := 10) 40 rfl rfl uX10 (by decide) rfl fw_X10_107 rfl dX10_image_81 ?_
    refine r_iload_n_1 dX10_image_84 rfl ?_
    refine r_iconst dX10_image_85 ki_1 ?_
    refine r_zastore rfl dX10_image_86 ?_
    refine r_bd (fun d3 => ?_)
    refine r_iconst dX10_image_87 ki_1 ?_
    exact r_zreturn dX10_image_88 rfl rfl
  · refine r_aload_n_0 dX10_image_57 rfl ?_
    refine r_getr (t := 108) (cc := 10) 39 rfl rfl uX10 (by decide) rfl fw_X10_104 rfl dX10_image_58 ?_
    refine r_bipush dX10_image_61 kb_7 ?_
    refine r_iload_n_1 dX10_image_63 rfl ?_
    refine r_imul dX10_image_64 ?_
    refine r_iload_n_2 dX10_image_65 rfl ?_
    refine r_iadd dX10_image_66 ?_
    refine r_aload_n_0 dX10_image_67 rfl ?_
    refine r_getr (t := 92) (cc := 10) 10 rfl rfl uX10 (by decide) rfl fw_X10_54 rfl dX10_image_68 ?_
    refine r_iload_n_2 dX10_image_71 rfl ?_
    refine r_laload rfl dX10_image_72 ?_
    refine r_lastore rfl dX10_image_73 ?_
    refine r_bd (fun d4 => ?_)
    refine r_iinc_2 dX10_image_74 ki_1 (by decide) rfl ?_
    refine r_goto (tgt := 51) dX10_image_77 (by decide) ?_
    exact hk51 v1 (v2 + (1 : Int32)) d4
theorem w_X10_image_51 {E : XE} (n : Nat) : ∀ (v1 : Int32) (v2 : Int32) (d : DD), AW E si_X10_image 0 0 (QM E wrI) (f_X10_image_51 n v1 v2 d) 51 [(0, .ref 86), (1, .int v1), (2, .int v2)] [] d := by
  induction n with
  | zero => intros; exact r_none
  | succ n ih => intro v1 v2 d; exact w_X10_image_51B (f_X10_image_51 n) ih v1 v2 d
def f_X10_image_18B (k18 : Int32 → Int32 → DD → Option (Int32 × DD)) (v1 : Int32) (v2 : Int32) (d : DD) : Option (Int32 × DD) :=
  if v2 < (290 : Int32) then
  if ixb v2 (ln 88) then
    if ixb (((290 : Int32) * v1) + v2) (ln 107) then
      bd (u1 d 107 (((290 : Int32) * v1) + v2).toNatClampNeg (d.1 88 v2.toNatClampNeg)) fun d5 =>
      k18 v1 (v2 + (1 : Int32)) d5
      else none
    else none
  else
  f_X10_image_51 FU v1 (0 : Int32) d
def f_X10_image_18 : Nat → Int32 → Int32 → DD → Option (Int32 × DD)
  | 0, _, _, _ => none
  | n + 1, v1, v2, d => f_X10_image_18B (f_X10_image_18 n) v1 v2 d
set_option maxRecDepth 100000 in
set_option maxHeartbeats 4000000 in
theorem w_X10_image_18B {E : XE} (k18 : Int32 → Int32 → DD → Option (Int32 × DD)) (hk18 : ∀ (v1 : Int32) (v2 : Int32) (d : DD), AW E si_X10_image 0 0 (QM E wrI) (k18 v1 v2 d) 18 [(0, .ref 86), (1, .int v1), (2, .int v2)] [] d) (v1 : Int32) (v2 : Int32) (d : DD) : AW E si_X10_image 0 0 (QM E wrI) (f_X10_image_18B k18 v1 v2 d) 18 [(0, .ref 86), (1, .int v1), (2, .int v2)] [] d := by
  unfold f_X10_image_18B
  refine r_iload_n_2 dX10_image_18 rfl ?_
  refine r_sipush dX10_image_19 ks_290 ?_
  refine r_icmp_ge (tgt := 49) dX10_image_22 (by decide) ?_ ?_
  · refine r_iconst dX10_image_49 ki_0 ?_
    refine r_istore_n_2 dX10_image_50 rfl (by decide) rfl ?_
    exact w_X10_image_51 FU v1 (0 : Int32) d
  · refine r_aload_n_0 dX10_image_25 rfl ?_
    refine r_getr (t := 107) (cc := 10) 38 rfl rfl uX10 (by decide) rfl fw_X10_101 rfl dX10_image_26 ?_
    refine r_sipush dX10_image_29 ks_290 ?_
    refine r_iload_n_1 dX10_image_32 rfl ?_
    refine r_imul dX10_image_33 ?_
    refine r_iload_n_2 dX10_image_34 rfl ?_
    refine r_iadd dX10_image_35 ?_
    refine r_aload_n_0 dX10_image_36 rfl ?_
    refine r_getr (t := 88) (cc := 10) 6 rfl rfl uX10 (by decide) rfl fw_X10_41 rfl dX10_image_37 ?_
    refine r_iload_n_2 dX10_image_40 rfl ?_
    refine r_iaload rfl dX10_image_41 ?_
    refine r_iastore rfl dX10_image_42 ?_
    refine r_bd (fun d5 => ?_)
    refine r_iinc_2 dX10_image_43 ki_1 (by decide) rfl ?_
    refine r_goto (tgt := 18) dX10_image_46 (by decide) ?_
    exact hk18 v1 (v2 + (1 : Int32)) d5
theorem w_X10_image_18 {E : XE} (n : Nat) : ∀ (v1 : Int32) (v2 : Int32) (d : DD), AW E si_X10_image 0 0 (QM E wrI) (f_X10_image_18 n v1 v2 d) 18 [(0, .ref 86), (1, .int v1), (2, .int v2)] [] d := by
  induction n with
  | zero => intros; exact r_none
  | succ n ih => intro v1 v2 d; exact w_X10_image_18B (f_X10_image_18 n) ih v1 v2 d
def f_X10_image (p1 : Int32) (d : DD) : Option (Int32 × DD) :=
  bd (u1 d 86 0 (0 : Int32)) fun d1 =>
  (f_X10_isIn p1 (0 : Int32) (1 : Int32) d1).bind fun q2 =>
  if q2.1 = 0 then
  some ((0 : Int32), q2.2)
  else
  f_X10_image_18 FU p1 (0 : Int32) q2.2
set_option maxRecDepth 100000 in
set_option maxHeartbeats 4000000 in
theorem am_X10_image (p1 : Int32) (d : DD) : AM wrI mi_X10_image 1 22 [.ref 86, .int p1] d (f_X10_image p1 d) := by
  refine AM_intro (si := si_X10_image) (lv := [(0, .ref 86), (1, .int p1)]) rfl (by decide +kernel) rfl (Nat.le_of_ble_eq_true rfl) (fun E => ?_)
  unfold f_X10_image
  refine r_aload_n_0 dX10_image_0 rfl ?_
  refine r_iconst dX10_image_1 ki_0 ?_
  refine r_puti (cc := 10) 0 tyX10 tyX10_ok nmX10 rfl (by decide +kernel) rfl rfl uX10 (by decide) rfl fw_X10_1 dX10_image_2 ?_
  refine r_bd (fun d1 => ?_)
  refine r_iload_n_1 dX10_image_5 rfl ?_
  refine r_iconst dX10_image_6 ki_0 ?_
  refine r_iconst dX10_image_7 ki_1 ?_
  refine r_callSI [] (am_X10_isIn p1 (0 : Int32) (1 : Int32) d1) cf_X10_isIn mw_X10_172 (by decide) dX10_image_8 rfl (Nat.le_of_ble_eq_true rfl) ⟨rfl, rfl⟩ (fun q2 => ?_)
  refine r_if_ne (tgt := 16) dX10_image_11 (by decide) ?_ ?_
  · refine r_iconst dX10_image_16 ki_0 ?_
    refine r_istore_n_x dX10_image_17 rfl (by decide) rfl ?_
    refine r_sub [1, 2, 0] (lv' := [(0, .ref 86), (1, .int p1), (2, .int (0 : Int32))]) rfl ?_
    exact w_X10_image_18 FU p1 (0 : Int32) q2.2
  · refine r_iconst dX10_image_14 ki_0 ?_
    exact r_zreturn dX10_image_15 rfl rfl
theorem cf_X10_image : CFv mi_X10_image 1 := ⟨iw_X10_image, vw_X10_image, nw_X10, cw_X10_image, by unfold plainF; decide +kernel⟩
abbrev si_X10_isSet : SI := (cX10_isSet, RX10, 2, (some .boolean), 1, 22)
def f_X10_isSet (p1 : Int32) (d : DD) : Option (Int32 × DD) :=
  if ixb (0 : Int32) (ln 88) then
  (f_X10_isIn p1 (0 : Int32) (((1 : Int32) <<< ((d.1 88 (0 : Int32).toNatClampNeg) &&& 31)) - (1 : Int32)) d).bind fun q1 =>
    if q1.1 = 0 ∨ q1.1 = 1 then some (q1.1, q1.2) else none
  else none
set_option maxRecDepth 100000 in
set_option maxHeartbeats 4000000 in
theorem am_X10_isSet (p1 : Int32) (d : DD) : AM wrI mi_X10_isSet 1 22 [.ref 86, .int p1] d (f_X10_isSet p1 d) := by
  refine AM_intro (si := si_X10_isSet) (lv := [(0, .ref 86), (1, .int p1)]) rfl (by decide +kernel) rfl (Nat.le_of_ble_eq_true rfl) (fun E => ?_)
  unfold f_X10_isSet
  refine r_iload_n_1 dX10_isSet_0 rfl ?_
  refine r_iconst dX10_isSet_1 ki_0 ?_
  refine r_iconst dX10_isSet_2 ki_1 ?_
  refine r_aload_n_0 dX10_isSet_3 rfl ?_
  refine r_getr (t := 88) (cc := 10) 6 rfl rfl uX10 (by decide) rfl fw_X10_41 rfl dX10_isSet_4 ?_
  refine r_iconst dX10_isSet_7 ki_0 ?_
  refine r_iaload rfl dX10_isSet_8 ?_
  refine r_ishl dX10_isSet_9 ?_
  refine r_iconst dX10_isSet_10 ki_1 ?_
  refine r_isub dX10_isSet_11 ?_
  refine r_callSI [] (am_X10_isIn p1 (0 : Int32) (((1 : Int32) <<< ((d.1 88 (0 : Int32).toNatClampNeg) &&& 31)) - (1 : Int32)) d) cf_X10_isIn mw_X10_172 (by decide) dX10_isSet_12 rfl (Nat.le_of_ble_eq_true rfl) ⟨rfl, rfl⟩ (fun q1 => ?_)
  exact r_breturn dX10_isSet_15 rfl
theorem cf_X10_isSet : CFv mi_X10_isSet 1 := ⟨iw_X10_isSet, vw_X10_isSet, nw_X10, cw_X10_isSet, by unfold plainF; decide +kernel⟩
abbrev si_X10_kind : SI := (cX10_kind, RX10, 3, (some .int), 2, 43)
def f_X10_kind (p1 : Int32) (p2 : Int32) (d : DD) : Option (Int32 × DD) :=
  (f_X10_isKind p1 d).bind fun q1 =>
  if q1.1 = 0 then
  (f_X10_throwsIf (1 : Int32) q1.2).bind fun q2 =>
    if q2.1 = 0 then
    if p2 = 0 then
      if ixb ((2 : Int32) + p1) (ln 88) then
        some (q2.2.1 88 ((2 : Int32) + p1).toNatClampNeg, q2.2)
        else none
      else
      if p2 = (1 : Int32) then
        if ixb ((5 : Int32) + p1) (ln 88) then
          some (q2.2.1 88 ((5 : Int32) + p1).toNatClampNeg, q2.2)
          else none
        else
        if p2 = (2 : Int32) then
          (f_X10_truly p1 q2.2).bind fun q3 =>
            some (q3.1, q3.2)
          else
          if ixb p1 (ln 95) then
            some (q2.2.1 95 p1.toNatClampNeg, q2.2)
            else none
    else
    some ((0 : Int32), q2.2)
  else
  (f_X10_isIn p2 (0 : Int32) (3 : Int32) q1.2).bind fun q4 =>
    if q4.1 = 0 then
    (f_X10_throwsIf (1 : Int32) q4.2).bind fun q7 =>
      if q7.1 = 0 then
      if p2 = 0 then
        if ixb ((2 : Int32) + p1) (ln 88) then
          some (q7.2.1 88 ((2 : Int32) + p1).toNatClampNeg, q7.2)
          else none
        else
        if p2 = (1 : Int32) then
          if ixb ((5 : Int32) + p1) (ln 88) then
            some (q7.2.1 88 ((5 : Int32) + p1).toNatClampNeg, q7.2)
            else none
          else
          if p2 = (2 : Int32) then
            (f_X10_truly p1 q7.2).bind fun q8 =>
              some (q8.1, q8.2)
            else
            if ixb p1 (ln 95) then
              some (q7.2.1 95 p1.toNatClampNeg, q7.2)
              else none
      else
      some ((0 : Int32), q7.2)
    else
    (f_X10_throwsIf (0 : Int32) q4.2).bind fun q5 =>
      if q5.1 = 0 then
      if p2 = 0 then
        if ixb ((2 : Int32) + p1) (ln 88) then
          some (q5.2.1 88 ((2 : Int32) + p1).toNatClampNeg, q5.2)
          else none
        else
        if p2 = (1 : Int32) then
          if ixb ((5 : Int32) + p1) (ln 88) then
            some (q5.2.1 88 ((5 : Int32) + p1).toNatClampNeg, q5.2)
            else none
          else
          if p2 = (2 : Int32) then
            (f_X10_truly p1 q5.2).bind fun q6 =>
              some (q6.1, q6.2)
            else
            if ixb p1 (ln 95) then
              some (q5.2.1 95 p1.toNatClampNeg, q5.2)
              else none
      else
      some ((0 : Int32), q5.2)
set_option maxRecDepth 100000 in
set_option maxHeartbeats 4000000 in
theorem am_X10_kind (p1 : Int32) (p2 : Int32) (d : DD) : AM wrI mi_X10_kind 2 43 [.ref 86, .int p1, .int p2] d (f_X10_kind p1 p2 d) := by
  refine AM_intro (si := si_X10_kind) (lv := [(0, .ref 86), (1, .int p1), (2, .int p2)]) rfl (by decide +kernel) rfl (Nat.le_of_ble_eq_true rfl) (fun E => ?_)
  unfold f_X10_kind
  refine r_aload_n_0 dX10_kind_0 rfl ?_
  refine r_aload_n_0 dX10_kind_1 rfl ?_
  refine r_iload_n_1 dX10_kind_2 rfl ?_
  refine r_callVI (cc := 10) [.ref 86] (am_X10_isKind p1 d) rfl rfl cf_X10_isKind mw_X10_234 (by decide) dX10_kind_3 rfl (Nat.le_of_ble_eq_true rfl) ⟨rfl, rfl⟩ (fun q1 => ?_)
  refine r_if_eq (tgt := 18) dX10_kind_6 (by decide) ?_ ?_
  · refine r_iconst dX10_kind_18 ki_1 ?_
    refine r_goto (tgt := 23) dX10_kind_19 (by decide) ?_
    refine r_callVI (cc := 10) [] (am_X10_throwsIf (1 : Int32) q1.2) rfl rfl cf_X10_throwsIf mw_X10_237 (by decide) dX10_kind_23 rfl (Nat.le_of_ble_eq_true rfl) ⟨rfl, rfl⟩ (fun q2 => ?_)
    refine r_if_eq (tgt := 31) dX10_kind_26 (by decide) ?_ ?_
    · refine r_iload_n_2 dX10_kind_31 rfl ?_
      refine r_if_ne (tgt := 46) dX10_kind_32 (by decide) ?_ ?_
      · refine r_iload_n_2 dX10_kind_46 rfl ?_
        refine r_iconst dX10_kind_47 ki_1 ?_
        refine r_icmp_ne (tgt := 62) dX10_kind_48 (by decide) ?_ ?_
        · refine r_iload_n_2 dX10_kind_62 rfl ?_
          refine r_iconst dX10_kind_63 ki_2 ?_
          refine r_icmp_ne (tgt := 75) dX10_kind_64 (by decide) ?_ ?_
          · refine r_aload_n_0 dX10_kind_75 rfl ?_
            refine r_getr (t := 95) (cc := 10) 22 rfl rfl uX10 (by decide) rfl fw_X10_64 rfl dX10_kind_76 ?_
            refine r_iload_n_1 dX10_kind_79 rfl ?_
            refine r_iaload rfl dX10_kind_80 ?_
            exact r_ireturn dX10_kind_81 rfl
          · refine r_aload_n_0 dX10_kind_67 rfl ?_
            refine r_iload_n_1 dX10_kind_68 rfl ?_
            refine r_callVI (cc := 10) [] (am_X10_truly p1 q2.2) rfl rfl cf_X10_truly mw_X10_241 (by decide) dX10_kind_69 rfl (Nat.le_of_ble_eq_true rfl) ⟨rfl, rfl⟩ (fun q3 => ?_)
            refine r_goto (tgt := 81) dX10_kind_72 (by decide) ?_
            exact r_ireturn dX10_kind_81 rfl
        · refine r_aload_n_0 dX10_kind_51 rfl ?_
          refine r_getr (t := 88) (cc := 10) 6 rfl rfl uX10 (by decide) rfl fw_X10_41 rfl dX10_kind_52 ?_
          refine r_iconst dX10_kind_55 ki_5 ?_
          refine r_iload_n_1 dX10_kind_56 rfl ?_
          refine r_iadd dX10_kind_57 ?_
          refine r_iaload rfl dX10_kind_58 ?_
          refine r_goto (tgt := 81) dX10_kind_59 (by decide) ?_
          exact r_ireturn dX10_kind_81 rfl
      · refine r_aload_n_0 dX10_kind_35 rfl ?_
        refine r_getr (t := 88) (cc := 10) 6 rfl rfl uX10 (by decide) rfl fw_X10_41 rfl dX10_kind_36 ?_
        refine r_iconst dX10_kind_39 ki_2 ?_
        refine r_iload_n_1 dX10_kind_40 rfl ?_
        refine r_iadd dX10_kind_41 ?_
        refine r_iaload rfl dX10_kind_42 ?_
        refine r_goto (tgt := 81) dX10_kind_43 (by decide) ?_
        exact r_ireturn dX10_kind_81 rfl
    · refine r_iconst dX10_kind_29 ki_0 ?_
      exact r_ireturn dX10_kind_30 rfl
  · refine r_iload_n_2 dX10_kind_9 rfl ?_
    refine r_iconst dX10_kind_10 ki_0 ?_
    refine r_iconst dX10_kind_11 ki_3 ?_
    refine r_callSI [.ref 86] (am_X10_isIn p2 (0 : Int32) (3 : Int32) q1.2) cf_X10_isIn mw_X10_172 (by decide) dX10_kind_12 rfl (Nat.le_of_ble_eq_true rfl) ⟨rfl, rfl⟩ (fun q4 => ?_)
    refine r_if_ne (tgt := 22) dX10_kind_15 (by decide) ?_ ?_
    · refine r_iconst dX10_kind_22 ki_0 ?_
      refine r_callVI (cc := 10) [] (am_X10_throwsIf (0 : Int32) q4.2) rfl rfl cf_X10_throwsIf mw_X10_237 (by decide) dX10_kind_23 rfl (Nat.le_of_ble_eq_true rfl) ⟨rfl, rfl⟩ (fun q5 => ?_)
      refine r_if_eq (tgt := 31) dX10_kind_26 (by decide) ?_ ?_
      · refine r_iload_n_2 dX10_kind_31 rfl ?_
        refine r_if_ne (tgt := 46) dX10_kind_32 (by decide) ?_ ?_
        · refine r_iload_n_2 dX10_kind_46 rfl ?_
          refine r_iconst dX10_kind_47 ki_1 ?_
          refine r_icmp_ne (tgt := 62) dX10_kind_48 (by decide) ?_ ?_
          · refine r_iload_n_2 dX10_kind_62 rfl ?_
            refine r_iconst dX10_kind_63 ki_2 ?_
            refine r_icmp_ne (tgt := 75) dX10_kind_64 (by decide) ?_ ?_
            · refine r_aload_n_0 dX10_kind_75 rfl ?_
              refine r_getr (t := 95) (cc := 10) 22 rfl rfl uX10 (by decide) rfl fw_X10_64 rfl dX10_kind_76 ?_
              refine r_iload_n_1 dX10_kind_79 rfl ?_
              refine r_iaload rfl dX10_kind_80 ?_
              exact r_ireturn dX10_kind_81 rfl
            · refine r_aload_n_0 dX10_kind_67 rfl ?_
              refine r_iload_n_1 dX10_kind_68 rfl ?_
              refine r_callVI (cc := 10) [] (am_X10_truly p1 q5.2) rfl rfl cf_X10_truly mw_X10_241 (by decide) dX10_kind_69 rfl (Nat.le_of_ble_eq_true rfl) ⟨rfl, rfl⟩ (fun q6 => ?_)
              refine r_goto (tgt := 81) dX10_kind_72 (by decide) ?_
              exact r_ireturn dX10_kind_81 rfl
          · refine r_aload_n_0 dX10_kind_51 rfl ?_
            refine r_getr (t := 88) (cc := 10) 6 rfl rfl uX10 (by decide) rfl fw_X10_41 rfl dX10_kind_52 ?_
            refine r_iconst dX10_kind_55 ki_5 ?_
            refine r_iload_n_1 dX10_kind_56 rfl ?_
            refine r_iadd dX10_kind_57 ?_
            refine r_iaload rfl dX10_kind_58 ?_
            refine r_goto (tgt := 81) dX10_kind_59 (by decide) ?_
            exact r_ireturn dX10_kind_81 rfl
        · refine r_aload_n_0 dX10_kind_35 rfl ?_
          refine r_getr (t := 88) (cc := 10) 6 rfl rfl uX10 (by decide) rfl fw_X10_41 rfl dX10_kind_36 ?_
          refine r_iconst dX10_kind_39 ki_2 ?_
          refine r_iload_n_1 dX10_kind_40 rfl ?_
          refine r_iadd dX10_kind_41 ?_
          refine r_iaload rfl dX10_kind_42 ?_
          refine r_goto (tgt := 81) dX10_kind_43 (by decide) ?_
          exact r_ireturn dX10_kind_81 rfl
      · refine r_iconst dX10_kind_29 ki_0 ?_
        exact r_ireturn dX10_kind_30 rfl
    · refine r_iconst dX10_kind_18 ki_1 ?_
      refine r_goto (tgt := 23) dX10_kind_19 (by decide) ?_
      refine r_callVI (cc := 10) [] (am_X10_throwsIf (1 : Int32) q4.2) rfl rfl cf_X10_throwsIf mw_X10_237 (by decide) dX10_kind_23 rfl (Nat.le_of_ble_eq_true rfl) ⟨rfl, rfl⟩ (fun q7 => ?_)
      refine r_if_eq (tgt := 31) dX10_kind_26 (by decide) ?_ ?_
      · refine r_iload_n_2 dX10_kind_31 rfl ?_
        refine r_if_ne (tgt := 46) dX10_kind_32 (by decide) ?_ ?_
        · refine r_iload_n_2 dX10_kind_46 rfl ?_
          refine r_iconst dX10_kind_47 ki_1 ?_
          refine r_icmp_ne (tgt := 62) dX10_kind_48 (by decide) ?_ ?_
          · refine r_iload_n_2 dX10_kind_62 rfl ?_
            refine r_iconst dX10_kind_63 ki_2 ?_
            refine r_icmp_ne (tgt := 75) dX10_kind_64 (by decide) ?_ ?_
            · refine r_aload_n_0 dX10_kind_75 rfl ?_
              refine r_getr (t := 95) (cc := 10) 22 rfl rfl uX10 (by decide) rfl fw_X10_64 rfl dX10_kind_76 ?_
              refine r_iload_n_1 dX10_kind_79 rfl ?_
              refine r_iaload rfl dX10_kind_80 ?_
              exact r_ireturn dX10_kind_81 rfl
            · refine r_aload_n_0 dX10_kind_67 rfl ?_
              refine r_iload_n_1 dX10_kind_68 rfl ?_
              refine r_callVI (cc := 10) [] (am_X10_truly p1 q7.2) rfl rfl cf_X10_truly mw_X10_241 (by decide) dX10_kind_69 rfl (Nat.le_of_ble_eq_true rfl) ⟨rfl, rfl⟩ (fun q8 => ?_)
              refine r_goto (tgt := 81) dX10_kind_72 (by decide) ?_
              exact r_ireturn dX10_kind_81 rfl
          · refine r_aload_n_0 dX10_kind_51 rfl ?_
            refine r_getr (t := 88) (cc := 10) 6 rfl rfl uX10 (by decide) rfl fw_X10_41 rfl dX10_kind_52 ?_
            refine r_iconst dX10_kind_55 ki_5 ?_
            refine r_iload_n_1 dX10_kind_56 rfl ?_
            refine r_iadd dX10_kind_57 ?_
            refine r_iaload rfl dX10_kind_58 ?_
            refine r_goto (tgt := 81) dX10_kind_59 (by decide) ?_
            exact r_ireturn dX10_kind_81 rfl
        · refine r_aload_n_0 dX10_kind_35 rfl ?_
          refine r_getr (t := 88) (cc := 10) 6 rfl rfl uX10 (by decide) rfl fw_X10_41 rfl dX10_kind_36 ?_
          refine r_iconst dX10_kind_39 ki_2 ?_
          refine r_iload_n_1 dX10_kind_40 rfl ?_
          refine r_iadd dX10_kind_41 ?_
          refine r_iaload rfl dX10_kind_42 ?_
          refine r_goto (tgt := 81) dX10_kind_43 (by decide) ?_
          exact r_ireturn dX10_kind_81 rfl
      · refine r_iconst dX10_kind_29 ki_0 ?_
        exact r_ireturn dX10_kind_30 rfl
theorem cf_X10_kind : CFv mi_X10_kind 2 := ⟨iw_X10_kind, vw_X10_kind, nw_X10, cw_X10_kind, by unfold plainF; decide +kernel⟩
abbrev si_X10_tellsOf : SI := (cX10_tellsOf, RX10, 8, none, 2, 51)
def f_X10_tellsOf_248 (k126 : Int32 → DD → Option (Unit × DD)) (v1 : Int32) (d : DD) : Option (Unit × DD) :=
  (f_X10_nextWays d).bind fun q4 =>
  if q4.1 = 0 then
  some ((), q4.2)
  else
  k126 v1 q4.2
set_option maxRecDepth 100000 in
set_option maxHeartbeats 4000000 in
theorem w_X10_tellsOf_248 {E : XE} (k126 : Int32 → DD → Option (Unit × DD)) (hk126 : ∀ (v1 : Int32) (d : DD), AW E si_X10_tellsOf 0 0 (QM E wrU) (k126 v1 d) 126 [(0, .ref 86), (1, .int v1)] [] d) (v1 : Int32) (d : DD) : AW E si_X10_tellsOf 0 0 (QM E wrU) (f_X10_tellsOf_248 k126 v1 d) 248 [(0, .ref 86), (1, .int v1)] [] d := by
  unfold f_X10_tellsOf_248
  refine r_aload_n_0 dX10_tellsOf_248 rfl ?_
  refine r_callVI (cc := 10) [] (am_X10_nextWays d) rfl rfl cf_X10_nextWays mw_X10_280 (by decide) dX10_tellsOf_249 rfl (Nat.le_of_ble_eq_true rfl) ⟨rfl, rfl⟩ (fun q4 => ?_)
  refine r_if_ne (tgt := 126) dX10_tellsOf_252 (by decide) ?_ ?_
  · exact hk126 v1 q4.2
  · exact r_return dX10_tellsOf_255 rfl
def f_X10_tellsOf_230 (k126 : Int32 → DD → Option (Unit × DD)) (k143 : Int32 → Int32 → DD → Option (Unit × DD)) (v1 : Int32) (v4 : Int32) (v5 : Int64) (d : DD) : Option (Unit × DD) :=
  if ixb v4 (ln 102) then
  if ixb v4 (ln 102) then
    bd (u2 d 102 v4.toNatClampNeg ((d.2 102 v4.toNatClampNeg) + v5)) fun d5 =>
    k143 v1 (v4 + (1 : Int32)) d5
    else none
  else none
set_option maxRecDepth 100000 in
set_option maxHeartbeats 4000000 in
theorem w_X10_tellsOf_230 {E : XE} (k126 : Int32 → DD → Option (Unit × DD)) (hk126 : ∀ (v1 : Int32) (d : DD), AW E si_X10_tellsOf 0 0 (QM E wrU) (k126 v1 d) 126 [(0, .ref 86), (1, .int v1)] [] d) (k143 : Int32 → Int32 → DD → Option (Unit × DD)) (hk143 : ∀ (v1 : Int32) (v4 : Int32) (d : DD), AW E si_X10_tellsOf 0 0 (QM E wrU) (k143 v1 v4 d) 143 [(0, .ref 86), (1, .int v1), (4, .int v4)] [] d) (v1 : Int32) (v4 : Int32) (v5 : Int64) (d : DD) : AW E si_X10_tellsOf 0 0 (QM E wrU) (f_X10_tellsOf_230 k126 k143 v1 v4 v5 d) 230 [(0, .ref 86), (1, .int v1), (4, .int v4), (5, .long v5)] [] d := by
  unfold f_X10_tellsOf_230
  refine r_aload_n_0 dX10_tellsOf_230 rfl ?_
  refine r_getr (t := 102) (cc := 10) 30 rfl rfl uX10 (by decide) rfl fw_X10_86 rfl dX10_tellsOf_231 ?_
  refine r_iload_w_2 dX10_tellsOf_234 ?_
  refine r_dup2ia dX10_tellsOf_236 ?_
  refine r_laload rfl dX10_tellsOf_237 ?_
  refine r_lload_w_3 dX10_tellsOf_238 ?_
  refine r_ladd dX10_tellsOf_240 ?_
  refine r_lastore rfl dX10_tellsOf_241 ?_
  refine r_bd (fun d5 => ?_)
  refine r_iinc_2 dX10_tellsOf_242 ki_1 (by decide) rfl ?_
  refine r_goto (tgt := 143) dX10_tellsOf_245 (by decide) ?_
  refine r_sub [0, 1, 2] (lv' := [(0, .ref 86), (1, .int v1), (4, .int (v4 + (1 : Int32)))]) rfl ?_
  exact hk143 v1 (v4 + (1 : Int32)) d5
def f_X10_tellsOf_162B (k126 : Int32 → DD → Option (Unit × DD)) (k143 : Int32 → Int32 → DD → Option (Unit × DD)) (k162 : Int32 → Int32 → Int64 → Int32 → DD → Option (Unit × DD)) (v1 : Int32) (v4 : Int32) (v5 : Int64) (v7 : Int32) (d : DD) : Option (Unit × DD) :=
  if ixb (0 : Int32) (ln 88) then
  if v7 < (d.1 88 (0 : Int32).toNatClampNeg) then
    if (0 : Int64) < v5 then
      if ixb v7 (ln 97) then
        if ixb v1 (ln 98) then
          if ixb ((((6 : Int32) * (d.1 98 v1.toNatClampNeg)) + ((2 : Int32) * v7)) + ((v4 >>> (v7 &&& 31)) &&& (1 : Int32))) (ln 103) then
            (f_X10_bits ((d.2 97 v7.toNatClampNeg) &&& (d.2 103 ((((6 : Int32) * (d.1 98 v1.toNatClampNeg)) + ((2 : Int32) * v7)) + ((v4 >>> (v7 &&& 31)) &&& (1 : Int32))).toNatClampNeg)) d).bind fun q6 =>
              bd (v5 * q6.1.toInt64) fun x7 =>
              k162 v1 v4 x7 (v7 + (1 : Int32)) q6.2
            else none
          else none
        else none
      else
      f_X10_tellsOf_230 k126 k143 v1 v4 v5 d
    else
    f_X10_tellsOf_230 k126 k143 v1 v4 v5 d
  else none
def f_X10_tellsOf_162 (k126 : Int32 → DD → Option (Unit × DD)) (k143 : Int32 → Int32 → DD → Option (Unit × DD)) : Nat → Int32 → Int32 → Int64 → Int32 → DD → Option (Unit × DD)
  | 0, _, _, _, _, _ => none
  | n + 1, v1, v4, v5, v7, d => f_X10_tellsOf_162B k126 k143 (f_X10_tellsOf_162 k126 k143 n) v1 v4 v5 v7 d
set_option maxRecDepth 100000 in
set_option maxHeartbeats 4000000 in
theorem w_X10_tellsOf_162B {E : XE} (k126 : Int32 → DD → Option (Unit × DD)) (hk126 : ∀ (v1 : Int32) (d : DD), AW E si_X10_tellsOf 0 0 (QM E wrU) (k126 v1 d) 126 [(0, .ref 86), (1, .int v1)] [] d) (k143 : Int32 → Int32 → DD → Option (Unit × DD)) (hk143 : ∀ (v1 : Int32) (v4 : Int32) (d : DD), AW E si_X10_tellsOf 0 0 (QM E wrU) (k143 v1 v4 d) 143 [(0, .ref 86), (1, .int v1), (4, .int v4)] [] d) (k162 : Int32 → Int32 → Int64 → Int32 → DD → Option (Unit × DD)) (hk162 : ∀ (v1 : Int32) (v4 : Int32) (v5 : Int64) (v7 : Int32) (d : DD), AW E si_X10_tellsOf 0 0 (QM E wrU) (k162 v1 v4 v5 v7 d) 162 [(0, .ref 86), (1, .int v1), (4, .int v4), (5, .long v5), (7, .int v7)] [] d) (v1 : Int32) (v4 : Int32) (v5 : Int64) (v7 : Int32) (d : DD) : AW E si_X10_tellsOf 0 0 (QM E wrU) (f_X10_tellsOf_162B k126 k143 k162 v1 v4 v5 v7 d) 162 [(0, .ref 86), (1, .int v1), (4, .int v4), (5, .long v5), (7, .int v7)] [] d := by
  unfold f_X10_tellsOf_162B
  refine r_iload_w_4 dX10_tellsOf_162 ?_
  refine r_aload_n_0 dX10_tellsOf_164 rfl ?_
  refine r_getr (t := 88) (cc := 10) 6 rfl rfl uX10 (by decide) rfl fw_X10_41 rfl dX10_tellsOf_165 ?_
  refine r_iconst dX10_tellsOf_168 ki_0 ?_
  refine r_iaload rfl dX10_tellsOf_169 ?_
  refine r_icmp_ge (tgt := 230) dX10_tellsOf_170 (by decide) ?_ ?_
  · refine r_sub [0, 1, 2, 3] (lv' := [(0, .ref 86), (1, .int v1), (4, .int v4), (5, .long v5)]) rfl ?_
    exact w_X10_tellsOf_230 k126 hk126 k143 hk143 v1 v4 v5 d
  · refine r_lload_w_3 dX10_tellsOf_173 ?_
    refine r_lconst dX10_tellsOf_175 kl_0 ?_
    refine r_lcmp_le (tgt := 230) dX10_tellsOf_176 dX10_tellsOf_177 (by decide) ?_ ?_
    · refine r_sub [0, 1, 2, 3] (lv' := [(0, .ref 86), (1, .int v1), (4, .int v4), (5, .long v5)]) rfl ?_
      exact w_X10_tellsOf_230 k126 hk126 k143 hk143 v1 v4 v5 d
    · refine r_lload_w_3 dX10_tellsOf_180 ?_
      refine r_aload_n_0 dX10_tellsOf_182 rfl ?_
      refine r_getr (t := 97) (cc := 10) 25 rfl rfl uX10 (by decide) rfl fw_X10_70 rfl dX10_tellsOf_183 ?_
      refine r_iload_w_4 dX10_tellsOf_186 ?_
      refine r_laload rfl dX10_tellsOf_188 ?_
      refine r_aload_n_0 dX10_tellsOf_189 rfl ?_
      refine r_getr (t := 103) (cc := 10) 31 rfl rfl uX10 (by decide) rfl fw_X10_89 rfl dX10_tellsOf_190 ?_
      refine r_bipush dX10_tellsOf_193 kb_6 ?_
      refine r_aload_n_0 dX10_tellsOf_195 rfl ?_
      refine r_getr (t := 98) (cc := 10) 26 rfl rfl uX10 (by decide) rfl fw_X10_73 rfl dX10_tellsOf_196 ?_
      refine r_iload_n_1 dX10_tellsOf_199 rfl ?_
      refine r_iaload rfl dX10_tellsOf_200 ?_
      refine r_imul dX10_tellsOf_201 ?_
      refine r_iconst dX10_tellsOf_202 ki_2 ?_
      refine r_iload_w_4 dX10_tellsOf_203 ?_
      refine r_imul dX10_tellsOf_205 ?_
      refine r_iadd dX10_tellsOf_206 ?_
      refine r_iload_w_2 dX10_tellsOf_207 ?_
      refine r_iload_w_4 dX10_tellsOf_209 ?_
      refine r_ishr dX10_tellsOf_211 ?_
      refine r_iconst dX10_tellsOf_212 ki_1 ?_
      refine r_iand dX10_tellsOf_213 ?_
      refine r_iadd dX10_tellsOf_214 ?_
      refine r_laload rfl dX10_tellsOf_215 ?_
      refine r_land dX10_tellsOf_216 ?_
      refine r_callSI [.long v5] (am_X10_bits ((d.2 97 v7.toNatClampNeg) &&& (d.2 103 ((((6 : Int32) * (d.1 98 v1.toNatClampNeg)) + ((2 : Int32) * v7)) + ((v4 >>> (v7 &&& 31)) &&& (1 : Int32))).toNatClampNeg)) d) cf_X10_bits mw_X10_266 (by decide) dX10_tellsOf_217 rfl (Nat.le_of_ble_eq_true rfl) ⟨rfl, rfl⟩ (fun q6 => ?_)
      refine r_i2l dX10_tellsOf_220 ?_
      refine r_lmul dX10_tellsOf_221 ?_
      refine r_bdJ (fun x7 => ?_)
      refine r_lstore_w_3 dX10_tellsOf_222 (by decide) rfl ?_
      refine r_iinc_4 dX10_tellsOf_224 ki_1 (by decide) rfl ?_
      refine r_goto (tgt := 162) dX10_tellsOf_227 (by decide) ?_
      exact hk162 v1 v4 x7 (v7 + (1 : Int32)) q6.2
theorem w_X10_tellsOf_162 {E : XE} (k126 : Int32 → DD → Option (Unit × DD)) (hk126 : ∀ (v1 : Int32) (d : DD), AW E si_X10_tellsOf 0 0 (QM E wrU) (k126 v1 d) 126 [(0, .ref 86), (1, .int v1)] [] d) (k143 : Int32 → Int32 → DD → Option (Unit × DD)) (hk143 : ∀ (v1 : Int32) (v4 : Int32) (d : DD), AW E si_X10_tellsOf 0 0 (QM E wrU) (k143 v1 v4 d) 143 [(0, .ref 86), (1, .int v1), (4, .int v4)] [] d) (n : Nat) : ∀ (v1 : Int32) (v4 : Int32) (v5 : Int64) (v7 : Int32) (d : DD), AW E si_X10_tellsOf 0 0 (QM E wrU) (f_X10_tellsOf_162 k126 k143 n v1 v4 v5 v7 d) 162 [(0, .ref 86), (1, .int v1), (4, .int v4), (5, .long v5), (7, .int v7)] [] d := by
  induction n with
  | zero => intros; exact r_none
  | succ n ih => intro v1 v4 v5 v7 d; exact w_X10_tellsOf_162B k126 hk126 k143 hk143 (f_X10_tellsOf_162 k126 k143 n) ih v1 v4 v5 v7 d
def f_X10_tellsOf_143B (k126 : Int32 → DD → Option (Unit × DD)) (k143 : Int32 → Int32 → DD → Option (Unit × DD)) (v1 : Int32) (v4 : Int32) (d : DD) : Option (Unit × DD) :=
  if ixb (0 : Int32) (ln 88) then
  if v4 < ((1 : Int32) <<< ((d.1 88 (0 : Int32).toNatClampNeg) &&& 31)) then
    f_X10_tellsOf_162 k126 k143 FU v1 v4 (1 : Int64) (0 : Int32) d
    else
    f_X10_tellsOf_248 k126 v1 d
  else none
def f_X10_tellsOf_143 (k126 : Int32 → DD → Option (Unit × DD)) : Nat → Int32 → Int32 → DD → Option (Unit × DD)
  | 0, _, _, _ => none
  | n + 1, v1, v4, d => f_X10_tellsOf_143B k126 (f_X10_tellsOf_143 k126 n) v1 v4 d
set_option maxRecDepth 100000 in
set_option maxHeartbeats 4000000 in
theorem w_X10_tellsOf_143B {E : XE} (k126 : Int32 → DD → Option (Unit × DD)) (hk126 : ∀ (v1 : Int32) (d : DD), AW E si_X10_tellsOf 0 0 (QM E wrU) (k126 v1 d) 126 [(0, .ref 86), (1, .int v1)] [] d) (k143 : Int32 → Int32 → DD → Option (Unit × DD)) (hk143 : ∀ (v1 : Int32) (v4 : Int32) (d : DD), AW E si_X10_tellsOf 0 0 (QM E wrU) (k143 v1 v4 d) 143 [(0, .ref 86), (1, .int v1), (4, .int v4)] [] d) (v1 : Int32) (v4 : Int32) (d : DD) : AW E si_X10_tellsOf 0 0 (QM E wrU) (f_X10_tellsOf_143B k126 k143 v1 v4 d) 143 [(0, .ref 86), (1, .int v1), (4, .int v4)] [] d := by
  unfold f_X10_tellsOf_143B
  refine r_iload_w_2 dX10_tellsOf_143 ?_
  refine r_iconst dX10_tellsOf_145 ki_1 ?_
  refine r_aload_n_0 dX10_tellsOf_146 rfl ?_
  refine r_getr (t := 88) (cc := 10) 6 rfl rfl uX10 (by decide) rfl fw_X10_41 rfl dX10_tellsOf_147 ?_
  refine r_iconst dX10_tellsOf_150 ki_0 ?_
  refine r_iaload rfl dX10_tellsOf_151 ?_
  refine r_ishl dX10_tellsOf_152 ?_
  refine r_icmp_ge (tgt := 248) dX10_tellsOf_153 (by decide) ?_ ?_
  · refine r_sub [0, 1] (lv' := [(0, .ref 86), (1, .int v1)]) rfl ?_
    exact w_X10_tellsOf_248 k126 hk126 v1 d
  · refine r_lconst dX10_tellsOf_156 kl_1 ?_
    refine r_lstore_w_x dX10_tellsOf_157 (by decide) rfl ?_
    refine r_iconst dX10_tellsOf_159 ki_0 ?_
    refine r_istore_w_x dX10_tellsOf_160 (by decide) rfl ?_
    refine r_sub [2, 3, 4, 1, 0] (lv' := [(0, .ref 86), (1, .int v1), (4, .int v4), (5, .long (1 : Int64)), (7, .int (0 : Int32))]) rfl ?_
    exact w_X10_tellsOf_162 k126 hk126 k143 hk143 FU v1 v4 (1 : Int64) (0 : Int32) d
theorem w_X10_tellsOf_143 {E : XE} (k126 : Int32 → DD → Option (Unit × DD)) (hk126 : ∀ (v1 : Int32) (d : DD), AW E si_X10_tellsOf 0 0 (QM E wrU) (k126 v1 d) 126 [(0, .ref 86), (1, .int v1)] [] d) (n : Nat) : ∀ (v1 : Int32) (v4 : Int32) (d : DD), AW E si_X10_tellsOf 0 0 (QM E wrU) (f_X10_tellsOf_143 k126 n v1 v4 d) 143 [(0, .ref 86), (1, .int v1), (4, .int v4)] [] d := by
  induction n with
  | zero => intros; exact r_none
  | succ n ih => intro v1 v4 d; exact w_X10_tellsOf_143B k126 hk126 (f_X10_tellsOf_143 k126 n) ih v1 v4 d
def f_X10_tellsOf_126B (k126 : Int32 → DD → Option (Unit × DD)) (v1 : Int32) (d : DD) : Option (Unit × DD) :=
  (f_X10_worldsNow (-1 : Int32) (-1 : Int32) d).bind fun q3 =>
  if q3.1 = (0 : Int64) then
  f_X10_tellsOf_248 k126 v1 q3.2
  else
  f_X10_tellsOf_143 k126 FU v1 (0 : Int32) q3.2
def f_X10_tellsOf_126 : Nat → Int32 → DD → Option (Unit × DD)
  | 0, _, _ => none
  | n + 1, v1, d => f_X10_tellsOf_126B (f_X10_tellsOf_126 n) v1 d
set_option maxRecDepth 100000 in
set_option maxHeartbeats 4000000 in
theorem w_X10_tellsOf_126B {E : XE} (k126 : Int32 → DD → Option (Unit × DD)) (hk126 : ∀ (v1 : Int32) (d : DD), AW E si_X10_tellsOf 0 0 (QM E wrU) (k126 v1 d) 126 [(0, .ref 86), (1, .int v1)] [] d) (v1 : Int32) (d : DD) : AW E si_X10_tellsOf 0 0 (QM E wrU) (f_X10_tellsOf_126B k126 v1 d) 126 [(0, .ref 86), (1, .int v1)] [] d := by
  unfold f_X10_tellsOf_126B
  refine r_aload_n_0 dX10_tellsOf_126 rfl ?_
  refine r_iconst dX10_tellsOf_127 ki_m1 ?_
  refine r_iconst dX10_tellsOf_128 ki_m1 ?_
  refine r_callVL (cc := 10) [] (am_X10_worldsNow (-1 : Int32) (-1 : Int32) d) rfl rfl cf_X10_worldsNow mw_X10_276 (by decide) dX10_tellsOf_129 rfl (Nat.le_of_ble_eq_true rfl) ⟨rfl, rfl⟩ (fun q3 => ?_)
  refine r_lconst dX10_tellsOf_132 kl_0 ?_
  refine r_lcmp_ne (tgt := 140) dX10_tellsOf_133 dX10_tellsOf_134 (by decide) ?_ ?_
  · refine r_iconst dX10_tellsOf_140 ki_0 ?_
    refine r_istore_w_x dX10_tellsOf_141 (by decide) rfl ?_
    refine r_sub [1, 2, 0] (lv' := [(0, .ref 86), (1, .int v1), (4, .int (0 : Int32))]) rfl ?_
    exact w_X10_tellsOf_143 k126 hk126 FU v1 (0 : Int32) q3.2
  · refine r_goto (tgt := 248) dX10_tellsOf_137 (by decide) ?_
    exact w_X10_tellsOf_248 k126 hk126 v1 q3.2
theorem w_X10_tellsOf_126 {E : XE} (n : Nat) : ∀ (v1 : Int32) (d : DD), AW E si_X10_tellsOf 0 0 (QM E wrU) (f_X10_tellsOf_126 n v1 d) 126 [(0, .ref 86), (1, .int v1)] [] d := by
  induction n with
  | zero => intros; exact r_none
  | succ n ih => intro v1 d; exact w_X10_tellsOf_126B (f_X10_tellsOf_126 n) ih v1 d
def f_X10_tellsOf_101B (k101 : Int32 → Int32 → DD → Option (Unit × DD)) (v1 : Int32) (v4 : Int32) (d : DD) : Option (Unit × DD) :=
  if v4 < (8 : Int32) then
  if ixb v4 (ln 102) then
    bd (u2 d 102 v4.toNatClampNeg (0 : Int64)) fun d8 =>
    k101 v1 (v4 + (1 : Int32)) d8
    else none
  else
  (f_X10_firstWays d).bind fun q2 =>
    f_X10_tellsOf_126 FU v1 q2.2
def f_X10_tellsOf_101 : Nat → Int32 → Int32 → DD → Option (Unit × DD)
  | 0, _, _, _ => none
  | n + 1, v1, v4, d => f_X10_tellsOf_101B (f_X10_tellsOf_101 n) v1 v4 d
set_option maxRecDepth 100000 in
set_option maxHeartbeats 4000000 in
theorem w_X10_tellsOf_101B {E : XE} (k101 : Int32 → Int32 → DD → Option (Unit × DD)) (hk101 : ∀ (v1 : Int32) (v4 : Int32) (d : DD), AW E si_X10_tellsOf 0 0 (QM E wrU) (k101 v1 v4 d) 101 [(0, .ref 86), (1, .int v1), (4, .int v4)] [] d) (v1 : Int32) (v4 : Int32) (d : DD) : AW E si_X10_tellsOf 0 0 (QM E wrU) (f_X10_tellsOf_101B k101 v1 v4 d) 101 [(0, .ref 86), (1, .int v1), (4, .int v4)] [] d := by
  unfold f_X10_tellsOf_101B
  refine r_iload_w_2 dX10_tellsOf_101 ?_
  refine r_bipush dX10_tellsOf_103 kb_8 ?_
  refine r_icmp_ge (tgt := 122) dX10_tellsOf_105 (by decide) ?_ ?_
  · refine r_aload_n_0 dX10_tellsOf_122 rfl ?_
    refine r_callVU (cc := 10) [] (am_X10_firstWays d) rfl rfl cf_X10_firstWays mw_X10_273 (by decide) dX10_tellsOf_123 rfl (Nat.le_of_ble_eq_true rfl) ⟨rfl, rfl⟩ (fun q2 => ?_)
    refine r_sub [0, 1] (lv' := [(0, .ref 86), (1, .int v1)]) rfl ?_
    exact w_X10_tellsOf_126 FU v1 q2.2
  · refine r_aload_n_0 dX10_tellsOf_108 rfl ?_
    refine r_getr (t := 102) (cc := 10) 30 rfl rfl uX10 (by decide) rfl fw_X10_86 rfl dX10_tellsOf_109 ?_
    refine r_iload_w_2 dX10_tellsOf_112 ?_
    refine r_lconst dX10_tellsOf_114 kl_0 ?_
    refine r_lastore rfl dX10_tellsOf_115 ?_
    refine r_bd (fun d8 => ?_)
    refine r_iinc_2 dX10_tellsOf_116 ki_1 (by decide) rfl ?_
    refine r_goto (tgt := 101) dX10_tellsOf_119 (by decide) ?_
    exact hk101 v1 (v4 + (1 : Int32)) d8
theorem w_X10_tellsOf_101 {E : XE} (n : Nat) : ∀ (v1 : Int32) (v4 : Int32) (d : DD), AW E si_X10_tellsOf 0 0 (QM E wrU) (f_X10_tellsOf_101 n v1 v4 d) 101 [(0, .ref 86), (1, .int v1), (4, .int v4)] [] d := by
  induction n with
  | zero => intros; exact r_none
  | succ n ih => intro v1 v4 d; exact w_X10_tellsOf_101B (f_X10_tellsOf_101 n) ih v1 v4 d
def f_X10_tellsOf_23B (k14 : Int32 → Int32 → Int32 → Int32 → DD → Option (Unit × DD)) (k23 : Int32 → Int32 → Int32 → Int32 → Int32 → DD → Option (Unit × DD)) (v1 : Int32) (v2 : Int32) (v3 : Int32) (v4 : Int32) (v5 : Int32) (d : DD) : Option (Unit × DD) :=
  if ixb (0 : Int32) (ln 88) then
  if v5 < (d.1 88 (0 : Int32).toNatClampNeg) then
    (f_X10_letting v4 v5 v2 (0 : Int32) d).bind fun q9 =>
      if ixb (((6 : Int32) * v4) + ((2 : Int32) * v5)) (ln 103) then
      bd (u2 q9.2 103 (((6 : Int32) * v4) + ((2 : Int32) * v5)).toNatClampNeg q9.1) fun d10 =>
      (f_X10_letting v4 v5 v2 (1 : Int32) d10).bind fun q11 =>
        if ixb ((((6 : Int32) * v4) + ((2 : Int32) * v5)) + (1 : Int32)) (ln 103) then
        bd (u2 q11.2 103 ((((6 : Int32) * v4) + ((2 : Int32) * v5)) + (1 : Int32)).toNatClampNeg q11.1) fun d12 =>
        k23 v1 v2 v3 v4 (v5 + (1 : Int32)) d12
        else none
      else none
    else
    k14 v1 v2 v3 (v4 + (1 : Int32)) d
  else none
def f_X10_tellsOf_23 (k14 : Int32 → Int32 → Int32 → Int32 → DD → Option (Unit × DD)) : Nat → Int32 → Int32 → Int32 → Int32 → Int32 → DD → Option (Unit × DD)
  | 0, _, _, _, _, _, _ => none
  | n + 1, v1, v2, v3, v4, v5, d => f_X10_tellsOf_23B k14 (f_X10_tellsOf_23 k14 n) v1 v2 v3 v4 v5 d
set_option maxRecDepth 100000 in
set_option maxHeartbeats 4000000 in
theorem w_X10_tellsOf_23B {E : XE} (k14 : Int32 → Int32 → Int32 → Int32 → DD → Option (Unit × DD)) (hk14 : ∀ (v1 : Int32) (v2 : Int32) (v3 : Int32) (v4 : Int32) (d : DD), AW E si_X10_tellsOf 0 0 (QM E wrU) (k14 v1 v2 v3 v4 d) 14 [(0, .ref 86), (1, .int v1), (2, .int v2), (3, .int v3), (4, .int v4)] [] d) (k23 : Int32 → Int32 → Int32 → Int32 → Int32 → DD → Option (Unit × DD)) (hk23 : ∀ (v1 : Int32) (v2 : Int32) (v3 : Int32) (v4 : Int32) (v5 : Int32) (d : DD), AW E si_X10_tellsOf 0 0 (QM E wrU) (k23 v1 v2 v3 v4 v5 d) 23 [(0, .ref 86), (1, .int v1), (2, .int v2), (3, .int v3), (4, .int v4), (5, .int v5)] [] d) (v1 : Int32) (v2 : Int32) (v3 : Int32) (v4 : Int32) (v5 : Int32) (d : DD) : AW E si_X10_tellsOf 0 0 (QM E wrU) (f_X10_tellsOf_23B k14 k23 v1 v2 v3 v4 v5 d) 23 [(0, .ref 86), (1, .int v1), (2, .int v2), (3, .int v3), (4, .int v4), (5, .int v5)] [] d := by
  unfold f_X10_tellsOf_23B
  refine r_iload_w_5 dX10_tellsOf_23 ?_
  refine r_aload_n_0 dX10_tellsOf_25 rfl ?_
  refine r_getr (t := 88) (cc := 10) 6 rfl rfl uX10 (by decide) rfl fw_X10_41 rfl dX10_tellsOf_26 ?_
  refine r_iconst dX10_tellsOf_29 ki_0 ?_
  refine r_iaload rfl dX10_tellsOf_30 ?_
  refine r_icmp_ge (tgt := 92) dX10_tellsOf_31 (by decide) ?_ ?_
  · refine r_iinc_4 dX10_tellsOf_92 ki_1 (by decide) rfl ?_
    refine r_goto (tgt := 14) dX10_tellsOf_95 (by decide) ?_
    refine r_sub [0, 1, 2, 3, 4] (lv' := [(0, .ref 86), (1, .int v1), (2, .int v2), (3, .int v3), (4, .int (v4 + (1 : Int32)))]) rfl ?_
    exact hk14 v1 v2 v3 (v4 + (1 : Int32)) d
  · refine r_aload_n_0 dX10_tellsOf_34 rfl ?_
    refine r_getr (t := 103) (cc := 10) 31 rfl rfl uX10 (by decide) rfl fw_X10_89 rfl dX10_tellsOf_35 ?_
    refine r_bipush dX10_tellsOf_38 kb_6 ?_
    refine r_iload_w_4 dX10_tellsOf_40 ?_
    refine r_imul dX10_tellsOf_42 ?_
    refine r_iconst dX10_tellsOf_43 ki_2 ?_
    refine r_iload_w_5 dX10_tellsOf_44 ?_
    refine r_imul dX10_tellsOf_46 ?_
    refine r_iadd dX10_tellsOf_47 ?_
    refine r_aload_n_0 dX10_tellsOf_48 rfl ?_
    refine r_iload_w_4 dX10_tellsOf_49 ?_
    refine r_iload_w_5 dX10_tellsOf_51 ?_
    refine r_iload_n_2 dX10_tellsOf_53 rfl ?_
    refine r_iconst dX10_tellsOf_54 ki_0 ?_
    refine r_callVL (cc := 10) [.int (((6 : Int32) * v4) + ((2 : Int32) * v5)), .ref 103] (am_X10_letting v4 v5 v2 (0 : Int32) d) rfl rfl cf_X10_letting mw_X10_260 (by decide) dX10_tellsOf_55 rfl (Nat.le_of_ble_eq_true rfl) ⟨rfl, rfl⟩ (fun q9 => ?_)
    refine r_lastore rfl dX10_tellsOf_58 ?_
    refine r_bd (fun d10 => ?_)
    refine r_aload_n_0 dX10_tellsOf_59 rfl ?_
    refine r_getr (t := 103) (cc := 10) 31 rfl rfl uX10 (by decide) rfl fw_X10_89 rfl dX10_tellsOf_60 ?_
    refine r_bipush dX10_tellsOf_63 kb_6 ?_
    refine r_iload_w_4 dX10_tellsOf_65 ?_
    refine r_imul dX10_tellsOf_67 ?_
    refine r_iconst dX10_tellsOf_68 ki_2 ?_
    refine r_iload_w_5 dX10_tellsOf_69 ?_
    refine r_imul dX10_tellsOf_71 ?_
    refine r_iadd dX10_tellsOf_72 ?_
    refine r_iconst dX10_tellsOf_73 ki_1 ?_
    refine r_iadd dX10_tellsOf_74 ?_
    refine r_aload_n_0 dX10_tellsOf_75 rfl ?_
    refine r_iload_w_4 dX10_tellsOf_76 ?_
    refine r_iload_w_5 dX10_tellsOf_78 ?_
    refine r_iload_n_2 dX10_tellsOf_80 rfl ?_
    refine r_iconst dX10_tellsOf_81 ki_1 ?_
    refine r_callVL (cc := 10) [.int ((((6 : Int32) * v4) + ((2 : Int32) * v5)) + (1 : Int32)), .ref 103] (am_X10_letting v4 v5 v2 (1 : Int32) d10) rfl rfl cf_X10_letting mw_X10_260 (by decide) dX10_tellsOf_82 rfl (Nat.le_of_ble_eq_true rfl) ⟨rfl, rfl⟩ (fun q11 => ?_)
    refine r_lastore rfl dX10_tellsOf_85 ?_
    refine r_bd (fun d12 => ?_)
    refine r_iinc_5 dX10_tellsOf_86 ki_1 (by decide) rfl ?_
    refine r_goto (tgt := 23) dX10_tellsOf_89 (by decide) ?_
    exact hk23 v1 v2 v3 v4 (v5 + (1 : Int32)) d12
theorem w_X10_tellsOf_23 {E : XE} (k14 : Int32 → Int32 → Int32 → Int32 → DD → Option (Unit × DD)) (hk14 : ∀ (v1 : Int32) (v2 : Int32) (v3 : Int32) (v4 : Int32) (d : DD), AW E si_X10_tellsOf 0 0 (QM E wrU) (k14 v1 v2 v3 v4 d) 14 [(0, .ref 86), (1, .int v1), (2, .int v2), (3, .int v3), (4, .int v4)] [] d) (n : Nat) : ∀ (v1 : Int32) (v2 : Int32) (v3 : Int32) (v4 : Int32) (v5 : Int32) (d : DD), AW E si_X10_tellsOf 0 0 (QM E wrU) (f_X10_tellsOf_23 k14 n v1 v2 v3 v4 v5 d) 23 [(0, .ref 86), (1, .int v1), (2, .int v2), (3, .int v3), (4, .int v4), (5, .int v5)] [] d := by
  induction n with
  | zero => intros; exact r_none
  | succ n ih => intro v1 v2 v3 v4 v5 d; exact w_X10_tellsOf_23B k14 hk14 (f_X10_tellsOf_23 k14 n) ih v1 v2 v3 v4 v5 d
def f_X10_tellsOf_14B (k14 : Int32 → Int32 → Int32 → Int32 → DD → Option (Unit × DD)) (v1 : Int32) (v2 : Int32) (v3 : Int32) (v4 : Int32) (d : DD) : Option (Unit × DD) :=
  if v4 < v3 then
  f_X10_tellsOf_23 k14 FU v1 v2 v3 v4 (0 : Int32) d
  else
  f_X10_tellsOf_101 FU v1 (0 : Int32) d
def f_X10_tellsOf_14 : Nat → Int32 → Int32 → Int32 → Int32 → DD → Option (Unit × DD)
  | 0, _, _, _, _, _ => none
  | n + 1, v1, v2, v3, v4, d => f_X10_tellsOf_14B (f_X10_tellsOf_14 n) v1 v2 v3 v4 d
set_option maxRecDepth 100000 in
set_option maxHeartbeats 4000000 in
theorem w_X10_tellsOf_14B {E : XE} (k14 : Int32 → Int32 → Int32 → Int32 → DD → Option (Unit × DD)) (hk14 : ∀ (v1 : Int32) (v2 : Int32) (v3 : Int32) (v4 : Int32) (d : DD), AW E si_X10_tellsOf 0 0 (QM E wrU) (k14 v1 v2 v3 v4 d) 14 [(0, .ref 86), (1, .int v1), (2, .int v2), (3, .int v3), (4, .int v4)] [] d) (v1 : Int32) (v2 : Int32) (v3 : Int32) (v4 : Int32) (d : DD) : AW E si_X10_tellsOf 0 0 (QM E wrU) (f_X10_tellsOf_14B k14 v1 v2 v3 v4 d) 14 [(0, .ref 86), (1, .int v1), (2, .int v2), (3, .int v3), (4, .int v4)] [] d := by
  unfold f_X10_tellsOf_14B
  refine r_iload_w_4 dX10_tellsOf_14 ?_
  refine r_iload_n_3 dX10_tellsOf_16 rfl ?_
  refine r_icmp_ge (tgt := 98) dX10_tellsOf_17 (by decide) ?_ ?_
  · refine r_iconst dX10_tellsOf_98 ki_0 ?_
    refine r_istore_w_4 dX10_tellsOf_99 (by decide) rfl ?_
    refine r_sub [0, 1, 4] (lv' := [(0, .ref 86), (1, .int v1), (4, .int (0 : Int32))]) rfl ?_
    exact w_X10_tellsOf_101 FU v1 (0 : Int32) d
  · refine r_iconst dX10_tellsOf_20 ki_0 ?_
    refine r_istore_w_x dX10_tellsOf_21 (by decide) rfl ?_
    refine r_sub [1, 2, 3, 4, 5, 0] (lv' := [(0, .ref 86), (1, .int v1), (2, .int v2), (3, .int v3), (4, .int v4), (5, .int (0 : Int32))]) rfl ?_
    exact w_X10_tellsOf_23 k14 hk14 FU v1 v2 v3 v4 (0 : Int32) d
theorem w_X10_tellsOf_14 {E : XE} (n : Nat) : ∀ (v1 : Int32) (v2 : Int32) (v3 : Int32) (v4 : Int32) (d : DD), AW E si_X10_tellsOf 0 0 (QM E wrU) (f_X10_tellsOf_14 n v1 v2 v3 v4 d) 14 [(0, .ref 86), (1, .int v1), (2, .int v2), (3, .int v3), (4, .int v4)] [] d := by
  induction n with
  | zero => intros; exact r_none
  | succ n ih => intro v1 v2 v3 v4 d; exact w_X10_tellsOf_14B (f_X10_tellsOf_14 n) ih v1 v2 v3 v4 d
def f_X10_tellsOf (p1 : Int32) (p2 : Int32) (d : DD) : Option (Unit × DD) :=
  if ixb (0 : Int32) (ln 88) then
  bd ((2 : Int32) + ((2 : Int32) * (d.1 88 (0 : Int32).toNatClampNeg))) fun x1 =>
    f_X10_tellsOf_14 FU p1 p2 x1 (0 : Int32) d
  else none
set_option maxRecDepth 100000 in
set_option maxHeartbeats 4000000 in
theorem am_X10_tellsOf (p1 : Int32) (p2 : Int32) (d : DD) : AM wrU mi_X10_tellsOf 2 51 [.ref 86, .int p1, .int p2] d (f_X10_tellsOf p1 p2 d) := by
  refine AM_intro (si := si_X10_tellsOf) (lv := [(0, .ref 86), (1, .int p1), (2, .int p2)]) rfl (by decide +kernel) rfl (Nat.le_of_ble_eq_true rfl) (fun E => ?_)
  unfold f_X10_tellsOf
  refine r_iconst dX10_tellsOf_0 ki_2 ?_
  refine r_iconst dX10_tellsOf_1 ki_2 ?_
  refine r_aload_n_0 dX10_tellsOf_2 rfl ?_
  refine r_getr (t := 88) (cc := 10) 6 rfl rfl uX10 (by decide) rfl fw_X10_41 rfl dX10_tellsOf_3 ?_
  refine r_iconst dX10_tellsOf_6 ki_0 ?_
  refine r_iaload rfl dX10_tellsOf_7 ?_
  refine r_imul dX10_tellsOf_8 ?_
  refine r_iadd dX10_tellsOf_9 ?_
  refine r_bdI (fun x1 => ?_)
  refine r_istore_n_x dX10_tellsOf_10 rfl (by decide) rfl ?_
  refine r_iconst dX10_tellsOf_11 ki_0 ?_
  refine r_istore_w_x dX10_tellsOf_12 (by decide) rfl ?_
  refine r_sub [2, 3, 4, 1, 0] (lv' := [(0, .ref 86), (1, .int p1), (2, .int p2), (3, .int x1), (4, .int (0 : Int32))]) rfl ?_
  exact w_X10_tellsOf_14 FU p1 p2 x1 (0 : Int32) d
theorem cf_X10_tellsOf : CFv mi_X10_tellsOf 2 := ⟨iw_X10_tellsOf, vw_X10_tellsOf, nw_X10, cw_X10_tellsOf, by unfold plainF; decide +kernel⟩
abbrev si_X10_leftOf : SI := (cX10_leftOf, RX10, 6, (some .long), 3, 78)
def f_X10_leftOf_11B (k11 : Int64 → Int32 → DD → Option (Int64 × DD)) (v3 : Int64) (v5 : Int32) (d : DD) : Option (Int64 × DD) :=
  if v5 < (8 : Int32) then
  if ixb v5 (ln 102) then
    if v3 < (d.2 102 v5.toNatClampNeg) then
      if ixb v5 (ln 102) then
        bd (d.2 102 v5.toNatClampNeg) fun x2 =>
          k11 x2 (v5 + (1 : Int32)) d
        else none
      else
      k11 v3 (v5 + (1 : Int32)) d
    else none
  else
  some (v3, d)
def f_X10_leftOf_11 : Nat → Int64 → Int32 → DD → Option (Int64 × DD)
  | 0, _, _, _ => none
  | n + 1, v3, v5, d => f_X10_leftOf_11B (f_X10_leftOf_11 n) v3 v5 d
set_option maxRecDepth 100000 in
set_option maxHeartbeats 4000000 in
theorem w_X10_leftOf_11B {E : XE} (k11 : Int64 → Int32 → DD → Option (Int64 × DD)) (hk11 : ∀ (v3 : Int64) (v5 : Int32) (d : DD), AW E si_X10_leftOf 0 0 (QM E wrL) (k11 v3 v5 d) 11 [(0, .ref 86), (3, .long v3), (5, .int v5)] [] d) (v3 : Int64) (v5 : Int32) (d : DD) : AW E si_X10_leftOf 0 0 (QM E wrL) (f_X10_leftOf_11B k11 v3 v5 d) 11 [(0, .ref 86), (3, .long v3), (5, .int v5)] [] d := by
  unfold f_X10_leftOf_11B
  refine r_iload_w_2 dX10_leftOf_11 ?_
  refine r_bipush dX10_leftOf_13 kb_8 ?_
  refine r_icmp_ge (tgt := 48) dX10_leftOf_15 (by decide) ?_ ?_
  · refine r_lload_n_1 dX10_leftOf_48 rfl ?_
    exact r_lreturn dX10_leftOf_49 rfl
  · refine r_aload_n_0 dX10_leftOf_18 rfl ?_
    refine r_getr (t := 102) (cc := 10) 30 rfl rfl uX10 (by decide) rfl fw_X10_86 rfl dX10_leftOf_19 ?_
    refine r_iload_w_2 dX10_leftOf_22 ?_
    refine r_laload rfl dX10_leftOf_24 ?_
    refine r_lload_n_1 dX10_leftOf_25 rfl ?_
    refine r_lcmp_le (tgt := 40) dX10_leftOf_26 dX10_leftOf_27 (by decide) ?_ ?_
    · refine r_lload_n_1 dX10_leftOf_40 rfl ?_
      refine r_lstore_n_1 dX10_leftOf_41 rfl (by decide) rfl ?_
      refine r_iinc_2 dX10_leftOf_42 ki_1 (by decide) rfl ?_
      refine r_goto (tgt := 11) dX10_leftOf_45 (by decide) ?_
      exact hk11 v3 (v5 + (1 : Int32)) d
    · refine r_aload_n_0 dX10_leftOf_30 rfl ?_
      refine r_getr (t := 102) (cc := 10) 30 rfl rfl uX10 (by decide) rfl fw_X10_86 rfl dX10_leftOf_31 ?_
      refine r_iload_w_2 dX10_leftOf_34 ?_
      refine r_laload rfl dX10_leftOf_36 ?_
      refine r_goto (tgt := 41) dX10_leftOf_37 (by decide) ?_
      refine r_bdJ (fun x2 => ?_)
      refine r_lstore_n_1 dX10_leftOf_41 rfl (by decide) rfl ?_
      refine r_iinc_2 dX10_leftOf_42 ki_1 (by decide) rfl ?_
      refine r_goto (tgt := 11) dX10_leftOf_45 (by decide) ?_
      exact hk11 x2 (v5 + (1 : Int32)) d
theorem w_X10_leftOf_11 {E : XE} (n : Nat) : ∀ (v3 : Int64) (v5 : Int32) (d : DD), AW E si_X10_leftOf 0 0 (QM E wrL) (f_X10_leftOf_11 n v3 v5 d) 11 [(0, .ref 86), (3, .long v3), (5, .int v5)] [] d := by
  induction n with
  | zero => intros; exact r_none
  | succ n ih => intro v3 v5 d; exact w_X10_leftOf_11B (f_X10_leftOf_11 n) ih v3 v5 d
def f_X10_leftOf (p1 : Int32) (p2 : Int32) (d : DD) : Option (Int64 × DD) :=
  (f_X10_tellsOf p1 p2 d).bind fun q1 =>
  f_X10_leftOf_11 FU (0 : Int64) (0 : Int32) q1.2
set_option maxRecDepth 100000 in
set_option maxHeartbeats 4000000 in
theorem am_X10_leftOf (p1 : Int32) (p2 : Int32) (d : DD) : AM wrL mi_X10_leftOf 3 78 [.ref 86, .int p1, .int p2] d (f_X10_leftOf p1 p2 d) := by
  refine AM_intro (si := si_X10_leftOf) (lv := [(0, .ref 86), (1, .int p1), (2, .int p2)]) rfl (by decide +kernel) rfl (Nat.le_of_ble_eq_true rfl) (fun E => ?_)
  unfold f_X10_leftOf
  refine r_aload_n_0 dX10_leftOf_0 rfl ?_
  refine r_iload_n_1 dX10_leftOf_1 rfl ?_
  refine r_iload_n_2 dX10_leftOf_2 rfl ?_
  refine r_callVU (cc := 10) [] (am_X10_tellsOf p1 p2 d) rfl rfl cf_X10_tellsOf mw_X10_318 (by decide) dX10_leftOf_3 rfl (Nat.le_of_ble_eq_true rfl) ⟨rfl, rfl⟩ (fun q1 => ?_)
  refine r_lconst dX10_leftOf_6 kl_0 ?_
  refine r_lstore_n_x dX10_leftOf_7 rfl (by decide) rfl ?_
  refine r_iconst dX10_leftOf_8 ki_0 ?_
  refine r_istore_w_x dX10_leftOf_9 (by decide) rfl ?_
  refine r_sub [2, 1, 0] (lv' := [(0, .ref 86), (3, .long (0 : Int64)), (5, .int (0 : Int32))]) rfl ?_
  exact w_X10_leftOf_11 FU (0 : Int64) (0 : Int32) q1.2
theorem cf_X10_leftOf : CFv mi_X10_leftOf 2 := ⟨iw_X10_leftOf, vw_X10_leftOf, nw_X10, cw_X10_leftOf, by unfold plainF; decide +kernel⟩
abbrev si_X10_left : SI := (cX10_left, RX10, 3, (some .long), 4, 103)
def f_X10_left (p1 : Int32) (p2 : Int32) (d : DD) : Option (Int64 × DD) :=
  bd (u1 d 86 0 (0 : Int32)) fun d1 =>
  (f_X10_isPerson p1 d1).bind fun q2 =>
  if q2.1 = 0 then
  some ((-1 : Int64), q2.2)
  else
  (f_X10_isHour p2 q2.2).bind fun q3 =>
    if q3.1 = 0 then
    some ((-1 : Int64), q3.2)
    else
    if ixb (169 : Int32) (ln 88) then
      (f_X10_letAll (q3.2.1 88 (169 : Int32).toNatClampNeg) q3.2).bind fun q4 =>
        (f_X10_leftOf p1 p2 q4.2).bind fun q5 =>
        some (q5.1, q5.2)
      else none
set_option maxRecDepth 100000 in
set_option maxHeartbeats 4000000 in
theorem am_X10_left (p1 : Int32) (p2 : Int32) (d : DD) : AM wrL mi_X10_left 4 103 [.ref 86, .int p1, .int p2] d (f_X10_left p1 p2 d) := by
  refine AM_intro (si := si_X10_left) (lv := [(0, .ref 86), (1, .int p1), (2, .int p2)]) rfl (by decide +kernel) rfl (Nat.le_of_ble_eq_true rfl) (fun E => ?_)
  unfold f_X10_left
  refine r_aload_n_0 dX10_left_0 rfl ?_
  refine r_iconst dX10_left_1 ki_0 ?_
  refine r_puti (cc := 10) 0 tyX10 tyX10_ok nmX10 rfl (by decide +kernel) rfl rfl uX10 (by decide) rfl fw_X10_1 dX10_left_2 ?_
  refine r_bd (fun d1 => ?_)
  refine r_aload_n_0 dX10_left_5 rfl ?_
  refine r_iload_n_1 dX10_left_6 rfl ?_
  refine r_callVI (cc := 10) [] (am_X10_isPerson p1 d1) rfl rfl cf_X10_isPerson mw_X10_248 (by decide) dX10_left_7 rfl (Nat.le_of_ble_eq_true rfl) ⟨rfl, rfl⟩ (fun q2 => ?_)
  refine r_if_eq (tgt := 20) dX10_left_10 (by decide) ?_ ?_
  · refine r_ldc2 dX10_left_20 kw_X10_291 ?_
    exact r_lreturn dX10_left_23 rfl
  · refine r_iload_n_2 dX10_left_13 rfl ?_
    refine r_callSI [] (am_X10_isHour p2 q2.2) cf_X10_isHour mw_X10_245 (by decide) dX10_left_14 rfl (Nat.le_of_ble_eq_true rfl) ⟨rfl, rfl⟩ (fun q3 => ?_)
    refine r_if_ne (tgt := 24) dX10_left_17 (by decide) ?_ ?_
    · refine r_aload_n_0 dX10_left_24 rfl ?_
      refine r_aload_n_0 dX10_left_25 rfl ?_
      refine r_getr (t := 88) (cc := 10) 6 rfl rfl uX10 (by decide) rfl fw_X10_41 rfl dX10_left_26 ?_
      refine r_sipush dX10_left_29 ks_169 ?_
      refine r_iaload rfl dX10_left_32 ?_
      refine r_callVU (cc := 10) [] (am_X10_letAll (q3.2.1 88 (169 : Int32).toNatClampNeg) q3.2) rfl rfl cf_X10_letAll mw_X10_270 (by decide) dX10_left_33 rfl (Nat.le_of_ble_eq_true rfl) ⟨rfl, rfl⟩ (fun q4 => ?_)
      refine r_aload_n_0 dX10_left_36 rfl ?_
      refine r_iload_n_1 dX10_left_37 rfl ?_
      refine r_iload_n_2 dX10_left_38 rfl ?_
      refine r_callVL (cc := 10) [] (am_X10_leftOf p1 p2 q4.2) rfl rfl cf_X10_leftOf mw_X10_322 (by decide) dX10_left_39 rfl (Nat.le_of_ble_eq_true rfl) ⟨rfl, rfl⟩ (fun q5 => ?_)
      exact r_lreturn dX10_left_42 rfl
    · refine r_ldc2 dX10_left_20 kw_X10_291 ?_
      exact r_lreturn dX10_left_23 rfl
theorem cf_X10_left : CFv mi_X10_left 2 := ⟨iw_X10_left, vw_X10_left, nw_X10, cw_X10_left, by unfold plainF; decide +kernel⟩
abbrev si_X10_lies : SI := (cX10_lies, RX10, 4, (some .boolean), 3, 78)
def f_X10_lies_101 (k39 : Int32 → DD → Option (Int32 × DD)) (v1 : Int32) (d : DD) : Option (Int32 × DD) :=
  (f_X10_nextWays d).bind fun q5 =>
  if q5.1 = 0 then
  if v1 = 0 ∨ v1 = 1 then some (v1, q5.2) else none
  else
  k39 v1 q5.2
set_option maxRecDepth 100000 in
set_option maxHeartbeats 4000000 in
theorem w_X10_lies_101 {E : XE} (k39 : Int32 → DD → Option (Int32 × DD)) (hk39 : ∀ (v1 : Int32) (d : DD), AW E si_X10_lies 0 0 (QM E wrI) (k39 v1 d) 39 [(0, .ref 86), (1, .int v1)] [] d) (v1 : Int32) (d : DD) : AW E si_X10_lies 0 0 (QM E wrI) (f_X10_lies_101 k39 v1 d) 101 [(0, .ref 86), (1, .int v1)] [] d := by
  unfold f_X10_lies_101
  refine r_aload_n_0 dX10_lies_101 rfl ?_
  refine r_callVI (cc := 10) [] (am_X10_nextWays d) rfl rfl cf_X10_nextWays mw_X10_280 (by decide) dX10_lies_102 rfl (Nat.le_of_ble_eq_true rfl) ⟨rfl, rfl⟩ (fun q5 => ?_)
  refine r_if_ne (tgt := 39) dX10_lies_105 (by decide) ?_ ?_
  · exact hk39 v1 q5.2
  · refine r_iload_n_1 dX10_lies_108 rfl ?_
    exact r_breturn dX10_lies_109 rfl
def f_X10_lies_57B (k39 : Int32 → DD → Option (Int32 × DD)) (k57 : Int32 → Int32 → DD → Option (Int32 × DD)) (v2 : Int32) (v3 : Int32) (d : DD) : Option (Int32 × DD) :=
  if ixb (1 : Int32) (ln 88) then
  if v3 < (d.1 88 (1 : Int32).toNatClampNeg) then
    if ixb v3 (ln 98) then
      if 0 < (d.1 98 v3.toNatClampNeg) then
        bd (v2 ||| ((1 : Int32) <<< (v3 &&& 31))) fun x7 =>
          k57 x7 (v3 + (1 : Int32)) d
        else
        bd (v2 ||| (0 : Int32)) fun x6 =>
          k57 x6 (v3 + (1 : Int32)) d
      else none
    else
    if ixb v2 (ln 101) then
      bd (u1 d 101 v2.toNatClampNeg (vp_nar .boolean (1 : Int32))) fun d4 =>
      f_X10_lies_101 k39 (1 : Int32) d4
      else none
  else none
def f_X10_lies_57 (k39 : Int32 → DD → Option (Int32 × DD)) : Nat → Int32 → Int32 → DD → Option (Int32 × DD)
  | 0, _, _, _ => none
  | n + 1, v2, v3, d => f_X10_lies_57B k39 (f_X10_lies_57 k39 n) v2 v3 d
set_option maxRecDepth 100000 in
set_option maxHeartbeats 4000000 in
theorem w_X10_lies_57B {E : XE} (k39 : Int32 → DD → Option (Int32 × DD)) (hk39 : ∀ (v1 : Int32) (d : DD), AW E si_X10_lies 0 0 (QM E wrI) (k39 v1 d) 39 [(0, .ref 86), (1, .int v1)] [] d) (k57 : Int32 → Int32 → DD → Option (Int32 × DD)) (hk57 : ∀ (v2 : Int32) (v3 : Int32) (d : DD), AW E si_X10_lies 0 0 (QM E wrI) (k57 v2 v3 d) 57 [(0, .ref 86), (2, .int v2), (3, .int v3)] [] d) (v2 : Int32) (v3 : Int32) (d : DD) : AW E si_X10_lies 0 0 (QM E wrI) (f_X10_lies_57B k39 k57 v2 v3 d) 57 [(0, .ref 86), (2, .int v2), (3, .int v3)] [] d := by
  unfold f_X10_lies_57B
  refine r_iload_n_2 dX10_lies_57 rfl ?_
  refine r_aload_n_0 dX10_lies_58 rfl ?_
  refine r_getr (t := 88) (cc := 10) 6 rfl rfl uX10 (by decide) rfl fw_X10_41 rfl dX10_lies_59 ?_
  refine r_iconst dX10_lies_62 ki_1 ?_
  refine r_iaload rfl dX10_lies_63 ?_
  refine r_icmp_ge (tgt := 92) dX10_lies_64 (by decide) ?_ ?_
  · refine r_aload_n_0 dX10_lies_92 rfl ?_
    refine r_getr (t := 101) (cc := 10) 29 rfl rfl uX10 (by decide) rfl fw_X10_82 rfl dX10_lies_93 ?_
    refine r_iload_n_1 dX10_lies_96 rfl ?_
    refine r_iconst dX10_lies_97 ki_1 ?_
    refine r_zastore rfl dX10_lies_98 ?_
    refine r_bd (fun d4 => ?_)
    refine r_iconst dX10_lies_99 ki_1 ?_
    refine r_istore_n_x dX10_lies_100 rfl (by decide) rfl ?_
    refine r_sub [1, 0] (lv' := [(0, .ref 86), (1, .int (1 : Int32))]) rfl ?_
    exact w_X10_lies_101 k39 hk39 (1 : Int32) d4
  · refine r_iload_n_1 dX10_lies_67 rfl ?_
    refine r_aload_n_0 dX10_lies_68 rfl ?_
    refine r_getr (t := 98) (cc := 10) 26 rfl rfl uX10 (by decide) rfl fw_X10_73 rfl dX10_lies_69 ?_
    refine r_iload_n_2 dX10_lies_72 rfl ?_
    refine r_iaload rfl dX10_lies_73 ?_
    refine r_if_le (tgt := 83) dX10_lies_74 (by decide) ?_ ?_
    · refine r_iconst dX10_lies_83 ki_0 ?_
      refine r_ior dX10_lies_84 ?_
      refine r_bdI (fun x6 => ?_)
      refine r_istore_n_1 dX10_lies_85 rfl (by decide) rfl ?_
      refine r_iinc_2 dX10_lies_86 ki_1 (by decide) rfl ?_
      refine r_goto (tgt := 57) dX10_lies_89 (by decide) ?_
      exact hk57 x6 (v3 + (1 : Int32)) d
    · refine r_iconst dX10_lies_77 ki_1 ?_
      refine r_iload_n_2 dX10_lies_78 rfl ?_
      refine r_ishl dX10_lies_79 ?_
      refine r_goto (tgt := 84) dX10_lies_80 (by decide) ?_
      refine r_ior dX10_lies_84 ?_
      refine r_bdI (fun x7 => ?_)
      refine r_istore_n_1 dX10_lies_85 rfl (by decide) rfl ?_
      refine r_iinc_2 dX10_lies_86 ki_1 (by decide) rfl ?_
      refine r_goto (tgt := 57) dX10_lies_89 (by decide) ?_
      exact hk57 x7 (v3 + (1 : Int32)) d
theorem w_X10_lies_57 {E : XE} (k39 : Int32 → DD → Option (Int32 × DD)) (hk39 : ∀ (v1 : Int32) (d : DD), AW E si_X10_lies 0 0 (QM E wrI) (k39 v1 d) 39 [(0, .ref 86), (1, .int v1)] [] d) (n : Nat) : ∀ (v2 : Int32) (v3 : Int32) (d : DD), AW E si_X10_lies 0 0 (QM E wrI) (f_X10_lies_57 k39 n v2 v3 d) 57 [(0, .ref 86), (2, .int v2), (3, .int v3)] [] d := by
  induction n with
  | zero => intros; exact r_none
  | succ n ih => intro v2 v3 d; exact w_X10_lies_57B k39 hk39 (f_X10_lies_57 k39 n) ih v2 v3 d
def f_X10_lies_39B (k39 : Int32 → DD → Option (Int32 × DD)) (v1 : Int32) (d : DD) : Option (Int32 × DD) :=
  (f_X10_worldsNow (-1 : Int32) (-1 : Int32) d).bind fun q3 =>
  if q3.1 = (0 : Int64) then
  f_X10_lies_101 k39 v1 q3.2
  else
  f_X10_lies_57 k39 FU (0 : Int32) (0 : Int32) q3.2
def f_X10_lies_39 : Nat → Int32 → DD → Option (Int32 × DD)
  | 0, _, _ => none
  | n + 1, v1, d => f_X10_lies_39B (f_X10_lies_39 n) v1 d
set_option maxRecDepth 100000 in
set_option maxHeartbeats 4000000 in
theorem w_X10_lies_39B {E : XE} (k39 : Int32 → DD → Option (Int32 × DD)) (hk39 : ∀ (v1 : Int32) (d : DD), AW E si_X10_lies 0 0 (QM E wrI) (k39 v1 d) 39 [(0, .ref 86), (1, .int v1)] [] d) (v1 : Int32) (d : DD) : AW E si_X10_lies 0 0 (QM E wrI) (f_X10_lies_39B k39 v1 d) 39 [(0, .ref 86), (1, .int v1)] [] d := by
  unfold f_X10_lies_39B
  refine r_aload_n_0 dX10_lies_39 rfl ?_
  refine r_iconst dX10_lies_40 ki_m1 ?_
  refine r_iconst dX10_lies_41 ki_m1 ?_
  refine r_callVL (cc := 10) [] (am_X10_worldsNow (-1 : Int32) (-1 : Int32) d) rfl rfl cf_X10_worldsNow mw_X10_276 (by decide) dX10_lies_42 rfl (Nat.le_of_ble_eq_true rfl) ⟨rfl, rfl⟩ (fun q3 => ?_)
  refine r_lconst dX10_lies_45 kl_0 ?_
  refine r_lcmp_ne (tgt := 53) dX10_lies_46 dX10_lies_47 (by decide) ?_ ?_
  · refine r_iconst dX10_lies_53 ki_0 ?_
    refine r_istore_n_x dX10_lies_54 rfl (by decide) rfl ?_
    refine r_iconst dX10_lies_55 ki_0 ?_
    refine r_istore_n_x dX10_lies_56 rfl (by decide) rfl ?_
    refine r_sub [2, 1, 0] (lv' := [(0, .ref 86), (2, .int (0 : Int32)), (3, .int (0 : Int32))]) rfl ?_
    exact w_X10_lies_57 k39 hk39 FU (0 : Int32) (0 : Int32) q3.2
  · refine r_goto (tgt := 101) dX10_lies_50 (by decide) ?_
    exact w_X10_lies_101 k39 hk39 v1 q3.2
theorem w_X10_lies_39 {E : XE} (n : Nat) : ∀ (v1 : Int32) (d : DD), AW E si_X10_lies 0 0 (QM E wrI) (f_X10_lies_39 n v1 d) 39 [(0, .ref 86), (1, .int v1)] [] d := by
  induction n with
  | zero => intros; exact r_none
  | succ n ih => intro v1 d; exact w_X10_lies_39B (f_X10_lies_39 n) ih v1 d
def f_X10_lies_2B (k2 : Int32 → DD → Option (Int32 × DD)) (v1 : Int32) (d : DD) : Option (Int32 × DD) :=
  if v1 < (16 : Int32) then
  if ixb v1 (ln 101) then
    bd (u1 d 101 v1.toNatClampNeg (vp_nar .boolean (0 : Int32))) fun d8 =>
    k2 (v1 + (1 : Int32)) d8
    else none
  else
  if ixb (169 : Int32) (ln 88) then
    (f_X10_letAll (d.1 88 (169 : Int32).toNatClampNeg) d).bind fun q1 =>
      (f_X10_firstWays q1.2).bind fun q2 =>
      f_X10_lies_39 FU (0 : Int32) q2.2
    else none
def f_X10_lies_2 : Nat → Int32 → DD → Option (Int32 × DD)
  | 0, _, _ => none
  | n + 1, v1, d => f_X10_lies_2B (f_X10_lies_2 n) v1 d
set_option maxRecDepth 100000 in
set_option maxHeartbeats 4000000 in
theorem w_X10_lies_2B {E : XE} (k2 : Int32 → DD → Option (Int32 × DD)) (hk2 : ∀ (v1 : Int32) (d : DD), AW E si_X10_lies 0 0 (QM E wrI) (k2 v1 d) 2 [(0, .ref 86), (1, .int v1)] [] d) (v1 : Int32) (d : DD) : AW E si_X10_lies 0 0 (QM E wrI) (f_X10_lies_2B k2 v1 d) 2 [(0, .ref 86), (1, .int v1)] [] d := by
  unfold f_X10_lies_2B
  refine r_iload_n_1 dX10_lies_2 rfl ?_
  refine r_bipush dX10_lies_3 kb_16 ?_
  refine r_icmp_ge (tgt := 21) dX10_lies_5 (by decide) ?_ ?_
  · refine r_aload_n_0 dX10_lies_21 rfl ?_
    refine r_aload_n_0 dX10_lies_22 rfl ?_
    refine r_getr (t := 88) (cc := 10) 6 rfl rfl uX10 (by decide) rfl fw_X10_41 rfl dX10_lies_23 ?_
    refine r_sipush dX10_lies_26 ks_169 ?_
    refine r_iaload rfl dX10_lies_29 ?_
    refine r_callVU (cc := 10) [] (am_X10_letAll (d.1 88 (169 : Int32).toNatClampNeg) d) rfl rfl cf_X10_letAll mw_X10_270 (by decide) dX10_lies_30 rfl (Nat.le_of_ble_eq_true rfl) ⟨rfl, rfl⟩ (fun q1 => ?_)
    refine r_iconst dX10_lies_33 ki_0 ?_
    refine r_istore_n_1 dX10_lies_34 rfl (by decide) rfl ?_
    refine r_aload_n_0 dX10_lies_35 rfl ?_
    refine r_callVU (cc := 10) [] (am_X10_firstWays q1.2) rfl rfl cf_X10_firstWays mw_X10_273 (by decide) dX10_lies_36 rfl (Nat.le_of_ble_eq_true rfl) ⟨rfl, rfl⟩ (fun q2 => ?_)
    exact w_X10_lies_39 FU (0 : Int32) q2.2
  · refine r_aload_n_0 dX10_lies_8 rfl ?_
    refine r_getr (t := 101) (cc := 10) 29 rfl rfl uX10 (by decide) rfl fw_X10_82 rfl dX10_lies_9 ?_
    refine r_iload_n_1 dX10_lies_12 rfl ?_
    refine r_iconst dX10_lies_13 ki_0 ?_
    refine r_zastore rfl dX10_lies_14 ?_
    refine r_bd (fun d8 => ?_)
    refine r_iinc_1 dX10_lies_15 ki_1 (by decide) rfl ?_
    refine r_goto (tgt := 2) dX10_lies_18 (by decide) ?_
    exact hk2 (v1 + (1 : Int32)) d8
theorem w_X10_lies_2 {E : XE} (n : Nat) : ∀ (v1 : Int32) (d : DD), AW E si_X10_lies 0 0 (QM E wrI) (f_X10_lies_2 n v1 d) 2 [(0, .ref 86), (1, .int v1)] [] d := by
  induction n with
  | zero => intros; exact r_none
  | succ n ih => intro v1 d; exact w_X10_lies_2B (f_X10_lies_2 n) ih v1 d
def f_X10_lies (d : DD) : Option (Int32 × DD) :=
  f_X10_lies_2 FU (0 : Int32) d
set_option maxRecDepth 100000 in
set_option maxHeartbeats 4000000 in
theorem am_X10_lies (d : DD) : AM wrI mi_X10_lies 3 78 [.ref 86] d (f_X10_lies d) := by
  refine AM_intro (si := si_X10_lies) (lv := [(0, .ref 86)]) rfl (by decide +kernel) rfl (Nat.le_of_ble_eq_true rfl) (fun E => ?_)
  unfold f_X10_lies
  refine r_iconst dX10_lies_0 ki_0 ?_
  refine r_istore_n_x dX10_lies_1 rfl (by decide) rfl ?_
  refine r_sub [1, 0] (lv' := [(0, .ref 86), (1, .int (0 : Int32))]) rfl ?_
  exact w_X10_lies_2 FU (0 : Int32) d
theorem cf_X10_lies : CFv mi_X10_lies 0 := ⟨iw_X10_lies, vw_X10_lies, nw_X10, cw_X10_lies, by unfold plainF; decide +kernel⟩
abbrev si_X10_liarSet : SI := (cX10_liarSet, RX10, 5, (some .int), 4, 101)
def f_X10_liarSet_29B (k29 : Int32 → Int32 → Int32 → Int32 → DD → Option (Int32 × DD)) (v1 : Int32) (v2 : Int32) (v3 : Int32) (v4 : Int32) (d : DD) : Option (Int32 × DD) :=
  if v4 < (16 : Int32) then
  if ixb v4 (ln 101) then
    if (d.1 101 v4.toNatClampNeg) = 0 then
      k29 v1 v2 v3 (v4 + (1 : Int32)) d
      else
      (f_X10_bits v4.toInt64 d).bind fun q4 =>
        if q4.1 = v2 then
        if v3 = v1 then
          some (v4, q4.2)
          else
          k29 v1 v2 (v3 + (1 : Int32)) (v4 + (1 : Int32)) q4.2
        else
        k29 v1 v2 v3 (v4 + (1 : Int32)) q4.2
    else none
  else
  if v1 = (-1 : Int32) then
    some (v3, d)
    else
    some ((-1 : Int32), d)
def f_X10_liarSet_29 : Nat → Int32 → Int32 → Int32 → Int32 → DD → Option (Int32 × DD)
  | 0, _, _, _, _, _ => none
  | n + 1, v1, v2, v3, v4, d => f_X10_liarSet_29B (f_X10_liarSet_29 n) v1 v2 v3 v4 d
set_option maxRecDepth 100000 in
set_option maxHeartbeats 4000000 in
theorem w_X10_liarSet_29B {E : XE} (k29 : Int32 → Int32 → Int32 → Int32 → DD → Option (Int32 × DD)) (hk29 : ∀ (v1 : Int32) (v2 : Int32) (v3 : Int32) (v4 : Int32) (d : DD), AW E si_X10_liarSet 0 0 (QM E wrI) (k29 v1 v2 v3 v4 d) 29 [(0, .ref 86), (1, .int v1), (2, .int v2), (3, .int v3), (4, .int v4)] [] d) (v1 : Int32) (v2 : Int32) (v3 : Int32) (v4 : Int32) (d : DD) : AW E si_X10_liarSet 0 0 (QM E wrI) (f_X10_liarSet_29B k29 v1 v2 v3 v4 d) 29 [(0, .ref 86), (1, .int v1), (2, .int v2), (3, .int v3), (4, .int v4)] [] d := by
  unfold f_X10_liarSet_29B
  refine r_iload_w_4 dX10_liarSet_29 ?_
  refine r_bipush dX10_liarSet_31 kb_16 ?_
  refine r_icmp_ge (tgt := 76) dX10_liarSet_33 (by decide) ?_ ?_
  · refine r_iload_n_1 dX10_liarSet_76 rfl ?_
    refine r_iconst dX10_liarSet_77 ki_m1 ?_
    refine r_icmp_ne (tgt := 85) dX10_liarSet_78 (by decide) ?_ ?_
    · refine r_iconst dX10_liarSet_85 ki_m1 ?_
      exact r_ireturn dX10_liarSet_86 rfl
    · refine r_iload_n_3 dX10_liarSet_81 rfl ?_
      refine r_goto (tgt := 86) dX10_liarSet_82 (by decide) ?_
      exact r_ireturn dX10_liarSet_86 rfl
  · refine r_aload_n_0 dX10_liarSet_36 rfl ?_
    refine r_getr (t := 101) (cc := 10) 29 rfl rfl uX10 (by decide) rfl fw_X10_82 rfl dX10_liarSet_37 ?_
    refine r_iload_w_4 dX10_liarSet_40 ?_
    refine r_zaload rfl dX10_liarSet_42 ?_
    refine r_if_eq (tgt := 70) dX10_liarSet_43 (by decide) ?_ ?_
    · refine r_iinc_4 dX10_liarSet_70 ki_1 (by decide) rfl ?_
      refine r_goto (tgt := 29) dX10_liarSet_73 (by decide) ?_
      exact hk29 v1 v2 v3 (v4 + (1 : Int32)) d
    · refine r_iload_w_4 dX10_liarSet_46 ?_
      refine r_i2l dX10_liarSet_48 ?_
      refine r_callSI [] (am_X10_bits v4.toInt64 d) cf_X10_bits mw_X10_266 (by decide) dX10_liarSet_49 rfl (Nat.le_of_ble_eq_true rfl) ⟨rfl, rfl⟩ (fun q4 => ?_)
      refine r_iload_n_2 dX10_liarSet_52 rfl ?_
      refine r_icmp_eq (tgt := 59) dX10_liarSet_53 (by decide) ?_ ?_
      · refine r_iload_n_3 dX10_liarSet_59 rfl ?_
        refine r_iload_n_1 dX10_liarSet_60 rfl ?_
        refine r_icmp_ne (tgt := 67) dX10_liarSet_61 (by decide) ?_ ?_
        · refine r_iinc_3 dX10_liarSet_67 ki_1 (by decide) rfl ?_
          refine r_iinc_4 dX10_liarSet_70 ki_1 (by decide) rfl ?_
          refine r_goto (tgt := 29) dX10_liarSet_73 (by decide) ?_
          exact hk29 v1 v2 (v3 + (1 : Int32)) (v4 + (1 : Int32)) q4.2
        · refine r_iload_w_4 dX10_liarSet_64 ?_
          exact r_ireturn dX10_liarSet_66 rfl
      · refine r_goto (tgt := 70) dX10_liarSet_56 (by decide) ?_
        refine r_iinc_4 dX10_liarSet_70 ki_1 (by decide) rfl ?_
        refine r_goto (tgt := 29) dX10_liarSet_73 (by decide) ?_
        exact hk29 v1 v2 v3 (v4 + (1 : Int32)) q4.2
theorem w_X10_liarSet_29 {E : XE} (n : Nat) : ∀ (v1 : Int32) (v2 : Int32) (v3 : Int32) (v4 : Int32) (d : DD), AW E si_X10_liarSet 0 0 (QM E wrI) (f_X10_liarSet_29 n v1 v2 v3 v4 d) 29 [(0, .ref 86), (1, .int v1), (2, .int v2), (3, .int v3), (4, .int v4)] [] d := by
  induction n with
  | zero => intros; exact r_none
  | succ n ih => intro v1 v2 v3 v4 d; exact w_X10_liarSet_29B (f_X10_liarSet_29 n) ih v1 v2 v3 v4 d
def f_X10_liarSet (p1 : Int32) (d : DD) : Option (Int32 × DD) :=
  bd (u1 d 86 0 (0 : Int32)) fun d1 =>
  if p1 < (-1 : Int32) then
  some ((-1 : Int32), d1)
  else
  (f_X10_lies d1).bind fun q2 =>
    if q2.1 = 0 then
    some ((-1 : Int32), q2.2)
    else
    (f_X10_fewestLiars q2.2).bind fun q3 =>
      f_X10_liarSet_29 FU p1 q3.1 (0 : Int32) (0 : Int32) q3.2
set_option maxRecDepth 100000 in
set_option maxHeartbeats 4000000 in
theorem am_X10_liarSet (p1 : Int32) (d : DD) : AM wrI mi_X10_liarSet 4 101 [.ref 86, .int p1] d (f_X10_liarSet p1 d) := by
  refine AM_intro (si := si_X10_liarSet) (lv := [(0, .ref 86), (1, .int p1)]) rfl (by decide +kernel) rfl (Nat.le_of_ble_eq_true rfl) (fun E => ?_)
  unfold f_X10_liarSet
  refine r_aload_n_0 dX10_liarSet_0 rfl ?_
  refine r_iconst dX10_liarSet_1 ki_0 ?_
  refine r_puti (cc := 10) 0 tyX10 tyX10_ok nmX10 rfl (by decide +kernel) rfl rfl uX10 (by decide) rfl fw_X10_1 dX10_liarSet_2 ?_
  refine r_bd (fun d1 => ?_)
  refine r_iload_n_1 dX10_liarSet_5 rfl ?_
  refine r_iconst dX10_liarSet_6 ki_m1 ?_
  refine r_icmp_lt (tgt := 17) dX10_liarSet_7 (by decide) ?_ ?_
  · refine r_iconst dX10_liarSet_17 ki_m1 ?_
    exact r_ireturn dX10_liarSet_18 rfl
  · refine r_aload_n_0 dX10_liarSet_10 rfl ?_
    refine r_callVI (cc := 10) [] (am_X10_lies d1) rfl rfl cf_X10_lies mw_X10_312 (by decide) dX10_liarSet_11 rfl (Nat.le_of_ble_eq_true rfl) ⟨rfl, rfl⟩ (fun q2 => ?_)
    refine r_if_ne (tgt := 19) dX10_liarSet_14 (by decide) ?_ ?_
    · refine r_aload_n_0 dX10_liarSet_19 rfl ?_
      refine r_callVI (cc := 10) [] (am_X10_fewestLiars q2.2) rfl rfl cf_X10_fewestLiars mw_X10_315 (by decide) dX10_liarSet_20 rfl (Nat.le_of_ble_eq_true rfl) ⟨rfl, rfl⟩ (fun q3 => ?_)
      refine r_istore_n_x dX10_liarSet_23 rfl (by decide) rfl ?_
      refine r_iconst dX10_liarSet_24 ki_0 ?_
      refine r_istore_n_x dX10_liarSet_25 rfl (by decide) rfl ?_
      refine r_iconst dX10_liarSet_26 ki_0 ?_
      refine r_istore_w_x dX10_liarSet_27 (by decide) rfl ?_
      refine r_sub [3, 4, 2, 1, 0] (lv' := [(0, .ref 86), (1, .int p1), (2, .int q3.1), (3, .int (0 : Int32)), (4, .int (0 : Int32))]) rfl ?_
      exact w_X10_liarSet_29 FU p1 q3.1 (0 : Int32) (0 : Int32) q3.2
    · refine r_iconst dX10_liarSet_17 ki_m1 ?_
      exact r_ireturn dX10_liarSet_18 rfl
theorem cf_X10_liarSet : CFv mi_X10_liarSet 1 := ⟨iw_X10_liarSet, vw_X10_liarSet, nw_X10, cw_X10_liarSet, by unfold plainF; decide +kernel⟩
abbrev si_X10_liars : SI := (cX10_liars, RX10, 1, (some .int), 4, 101)
def f_X10_liars (d : DD) : Option (Int32 × DD) :=
  bd (u1 d 86 0 (0 : Int32)) fun d1 =>
  (f_X10_lies d1).bind fun q2 =>
  if q2.1 = 0 then
  some ((-1 : Int32), q2.2)
  else
  (f_X10_fewestLiars q2.2).bind fun q3 =>
    some (q3.1, q3.2)
set_option maxRecDepth 100000 in
set_option maxHeartbeats 4000000 in
theorem am_X10_liars (d : DD) : AM wrI mi_X10_liars 4 101 [.ref 86] d (f_X10_liars d) := by
  refine AM_intro (si := si_X10_liars) (lv := [(0, .ref 86)]) rfl (by decide +kernel) rfl (Nat.le_of_ble_eq_true rfl) (fun E => ?_)
  unfold f_X10_liars
  refine r_aload_n_0 dX10_liars_0 rfl ?_
  refine r_iconst dX10_liars_1 ki_0 ?_
  refine r_puti (cc := 10) 0 tyX10 tyX10_ok nmX10 rfl (by decide +kernel) rfl rfl uX10 (by decide) rfl fw_X10_1 dX10_liars_2 ?_
  refine r_bd (fun d1 => ?_)
  refine r_aload_n_0 dX10_liars_5 rfl ?_
  refine r_callVI (cc := 10) [] (am_X10_lies d1) rfl rfl cf_X10_lies mw_X10_312 (by decide) dX10_liars_6 rfl (Nat.le_of_ble_eq_true rfl) ⟨rfl, rfl⟩ (fun q2 => ?_)
  refine r_if_eq (tgt := 19) dX10_liars_9 (by decide) ?_ ?_
  · refine r_iconst dX10_liars_19 ki_m1 ?_
    exact r_ireturn dX10_liars_20 rfl
  · refine r_aload_n_0 dX10_liars_12 rfl ?_
    refine r_callVI (cc := 10) [] (am_X10_fewestLiars q2.2) rfl rfl cf_X10_fewestLiars mw_X10_315 (by decide) dX10_liars_13 rfl (Nat.le_of_ble_eq_true rfl) ⟨rfl, rfl⟩ (fun q3 => ?_)
    refine r_goto (tgt := 20) dX10_liars_16 (by decide) ?_
    exact r_ireturn dX10_liars_20 rfl
theorem cf_X10_liars : CFv mi_X10_liars 0 := ⟨iw_X10_liars, vw_X10_liars, nw_X10, cw_X10_liars, by unfold plainF; decide +kernel⟩
abbrev si_X10_lying : SI := (cX10_lying, RX10, 5, (some .int), 4, 101)
def f_X10_lying_39B (k39 : Int32 → Int32 → Int32 → Int32 → DD → Option (Int32 × DD)) (v1 : Int32) (v2 : Int32) (v3 : Int32) (v4 : Int32) (d : DD) : Option (Int32 × DD) :=
  if v4 < (16 : Int32) then
  if ixb v4 (ln 101) then
    if (d.1 101 v4.toNatClampNeg) = 0 then
      k39 v1 v2 v3 (v4 + (1 : Int32)) d
      else
      bd (v2 &&& v4) fun x5 =>
        bd (v3 ||| v4) fun x6 =>
        k39 v1 x5 x6 (v4 + (1 : Int32)) d
    else none
  else
  if v1 = 0 then
    some (v2, d)
    else
    if ixb (1 : Int32) (ln 88) then
      some ((((1 : Int32) <<< ((d.1 88 (1 : Int32).toNatClampNeg) &&& 31)) - (1 : Int32)) &&& (v3 ^^^ (-1 : Int32)), d)
      else none
def f_X10_lying_39 : Nat → Int32 → Int32 → Int32 → Int32 → DD → Option (Int32 × DD)
  | 0, _, _, _, _, _ => none
  | n + 1, v1, v2, v3, v4, d => f_X10_lying_39B (f_X10_lying_39 n) v1 v2 v3 v4 d
set_option maxRecDepth 100000 in
set_option maxHeartbeats 4000000 in
theorem w_X10_lying_39B {E : XE} (k39 : Int32 → Int32 → Int32 → Int32 → DD → Option (Int32 × DD)) (hk39 : ∀ (v1 : Int32) (v2 : Int32) (v3 : Int32) (v4 : Int32) (d : DD), AW E si_X10_lying 0 0 (QM E wrI) (k39 v1 v2 v3 v4 d) 39 [(0, .ref 86), (1, .int v1), (2, .int v2), (3, .int v3), (4, .int v4)] [] d) (v1 : Int32) (v2 : Int32) (v3 : Int32) (v4 : Int32) (d : DD) : AW E si_X10_lying 0 0 (QM E wrI) (f_X10_lying_39B k39 v1 v2 v3 v4 d) 39 [(0, .ref 86), (1, .int v1), (2, .int v2), (3, .int v3), (4, .int v4)] [] d := by
  unfold f_X10_lying_39B
  refine r_iload_w_4 dX10_lying_39 ?_
  refine r_bipush dX10_lying_41 kb_16 ?_
  refine r_icmp_ge (tgt := 75) dX10_lying_43 (by decide) ?_ ?_
  · refine r_iload_n_1 dX10_lying_75 rfl ?_
    refine r_if_ne (tgt := 83) dX10_lying_76 (by decide) ?_ ?_
    · refine r_iconst dX10_lying_83 ki_1 ?_
      refine r_aload_n_0 dX10_lying_84 rfl ?_
      refine r_getr (t := 88) (cc := 10) 6 rfl rfl uX10 (by decide) rfl fw_X10_41 rfl dX10_lying_85 ?_
      refine r_iconst dX10_lying_88 ki_1 ?_
      refine r_iaload rfl dX10_lying_89 ?_
      refine r_ishl dX10_lying_90 ?_
      refine r_iconst dX10_lying_91 ki_1 ?_
      refine r_isub dX10_lying_92 ?_
      refine r_iload_n_3 dX10_lying_93 rfl ?_
      refine r_iconst dX10_lying_94 ki_m1 ?_
      refine r_ixor dX10_lying_95 ?_
      refine r_iand dX10_lying_96 ?_
      exact r_ireturn dX10_lying_97 rfl
    · refine r_iload_n_2 dX10_lying_79 rfl ?_
      refine r_goto (tgt := 97) dX10_lying_80 (by decide) ?_
      exact r_ireturn dX10_lying_97 rfl
  · refine r_aload_n_0 dX10_lying_46 rfl ?_
    refine r_getr (t := 101) (cc := 10) 29 rfl rfl uX10 (by decide) rfl fw_X10_82 rfl dX10_lying_47 ?_
    refine r_iload_w_4 dX10_lying_50 ?_
    refine r_zaload rfl dX10_lying_52 ?_
    refine r_if_ne (tgt := 59) dX10_lying_53 (by decide) ?_ ?_
    · refine r_iload_n_2 dX10_lying_59 rfl ?_
      refine r_iload_w_4 dX10_lying_60 ?_
      refine r_iand dX10_lying_62 ?_
      refine r_bdI (fun x5 => ?_)
      refine r_istore_n_2 dX10_lying_63 rfl (by decide) rfl ?_
      refine r_iload_n_3 dX10_lying_64 rfl ?_
      refine r_iload_w_4 dX10_lying_65 ?_
      refine r_ior dX10_lying_67 ?_
      refine r_bdI (fun x6 => ?_)
      refine r_istore_n_3 dX10_lying_68 rfl (by decide) rfl ?_
      refine r_iinc_4 dX10_lying_69 ki_1 (by decide) rfl ?_
      refine r_goto (tgt := 39) dX10_lying_72 (by decide) ?_
      exact hk39 v1 x5 x6 (v4 + (1 : Int32)) d
    · refine r_goto (tgt := 69) dX10_lying_56 (by decide) ?_
      refine r_iinc_4 dX10_lying_69 ki_1 (by decide) rfl ?_
      refine r_goto (tgt := 39) dX10_lying_72 (by decide) ?_
      exact hk39 v1 v2 v3 (v4 + (1 : Int32)) d
theorem w_X10_lying_39 {E : XE} (n : Nat) : ∀ (v1 : Int32) (v2 : Int32) (v3 : Int32) (v4 : Int32) (d : DD), AW E si_X10_lying 0 0 (QM E wrI) (f_X10_lying_39 n v1 v2 v3 v4 d) 39 [(0, .ref 86), (1, .int v1), (2, .int v2), (3, .int v3), (4, .int v4)] [] d := by
  induction n with
  | zero => intros; exact r_none
  | succ n ih => intro v1 v2 v3 v4 d; exact w_X10_lying_39B (f_X10_lying_39 n) ih v1 v2 v3 v4 d
def f_X10_lying (p1 : Int32) (d : DD) : Option (Int32 × DD) :=
  bd (u1 d 86 0 (0 : Int32)) fun d1 =>
  (f_X10_isIn p1 (0 : Int32) (1 : Int32) d1).bind fun q2 =>
  if q2.1 = 0 then
  some ((-1 : Int32), q2.2)
  else
  (f_X10_lies q2.2).bind fun q3 =>
    if q3.1 = 0 then
    some ((-1 : Int32), q3.2)
    else
    if ixb (1 : Int32) (ln 88) then
      bd (((1 : Int32) <<< ((q3.2.1 88 (1 : Int32).toNatClampNeg) &&& 31)) - (1 : Int32)) fun x4 =>
        f_X10_lying_39 FU p1 x4 (0 : Int32) (0 : Int32) q3.2
      else none
set_option maxRecDepth 100000 in
set_option maxHeartbeats 4000000 in
theorem am_X10_lying (p1 : Int32) (d : DD) : AM wrI mi_X10_lying 4 101 [.ref 86, .int p1] d (f_X10_lying p1 d) := by
  refine AM_intro (si := si_X10_lying) (lv := [(0, .ref 86), (1, .int p1)]) rfl (by decide +kernel) rfl (Nat.le_of_ble_eq_true rfl) (fun E => ?_)
  unfold f_X10_lying
  refine r_aload_n_0 dX10_lying_0 rfl ?_
  refine r_iconst dX10_lying_1 ki_0 ?_
  refine r_puti (cc := 10) 0 tyX10 tyX10_ok nmX10 rfl (by decide +kernel) rfl rfl uX10 (by decide) rfl fw_X10_1 dX10_lying_2 ?_
  refine r_bd (fun d1 => ?_)
  refine r_iload_n_1 dX10_lying_5 rfl ?_
  refine r_iconst dX10_lying_6 ki_0 ?_
  refine r_iconst dX10_lying_7 ki_1 ?_
  refine r_callSI [] (am_X10_isIn p1 (0 : Int32) (1 : Int32) d1) cf_X10_isIn mw_X10_172 (by decide) dX10_lying_8 rfl (Nat.le_of_ble_eq_true rfl) ⟨rfl, rfl⟩ (fun q2 => ?_)
  refine r_if_eq (tgt := 21) dX10_lying_11 (by decide) ?_ ?_
  · refine r_iconst dX10_lying_21 ki_m1 ?_
    exact r_ireturn dX10_lying_22 rfl
  · refine r_aload_n_0 dX10_lying_14 rfl ?_
    refine r_callVI (cc := 10) [] (am_X10_lies q2.2) rfl rfl cf_X10_lies mw_X10_312 (by decide) dX10_lying_15 rfl (Nat.le_of_ble_eq_true rfl) ⟨rfl, rfl⟩ (fun q3 => ?_)
    refine r_if_ne (tgt := 23) dX10_lying_18 (by decide) ?_ ?_
    · refine r_iconst dX10_lying_23 ki_1 ?_
      refine r_aload_n_0 dX10_lying_24 rfl ?_
      refine r_getr (t := 88) (cc := 10) 6 rfl rfl uX10 (by decide) rfl fw_X10_41 rfl dX10_lying_25 ?_
      refine r_iconst dX10_lying_28 ki_1 ?_
      refine r_iaload rfl dX10_lying_29 ?_
      refine r_ishl dX10_lying_30 ?_
      refine r_iconst dX10_lying_31 ki_1 ?_
      refine r_isub dX10_lying_32 ?_
      refine r_bdI (fun x4 => ?_)
      refine r_istore_n_x dX10_lying_33 rfl (by decide) rfl ?_
      refine r_iconst dX10_lying_34 ki_0 ?_
      refine r_istore_n_x dX10_lying_35 rfl (by decide) rfl ?_
      refine r_iconst dX10_lying_36 ki_0 ?_
      refine r_istore_w_x dX10_lying_37 (by decide) rfl ?_
      refine r_sub [3, 4, 2, 1, 0] (lv' := [(0, .ref 86), (1, .int p1), (2, .int x4), (3, .int (0 : Int32)), (4, .int (0 : Int32))]) rfl ?_
      exact w_X10_lying_39 FU p1 x4 (0 : Int32) (0 : Int32) q3.2
    · refine r_iconst dX10_lying_21 ki_m1 ?_
      exact r_ireturn dX10_lying_22 rfl
theorem cf_X10_lying : CFv mi_X10_lying 1 := ⟨iw_X10_lying, vw_X10_lying, nw_X10, cw_X10_lying, by unfold plainF; decide +kernel⟩
abbrev si_X10_may : SI := (cX10_may, RX10, 2, (some .int), 2, 43)
def f_X10_may (p1 : Int32) (d : DD) : Option (Int32 × DD) :=
  bd (u1 d 86 0 (0 : Int32)) fun d1 =>
  (f_X10_isPerson p1 d1).bind fun q2 =>
  if q2.1 = 0 then
  some ((-1 : Int32), q2.2)
  else
  if ixb ((11 : Int32) + p1) (ln 88) then
    some (q2.2.1 88 ((11 : Int32) + p1).toNatClampNeg, q2.2)
    else none
set_option maxRecDepth 100000 in
set_option maxHeartbeats 4000000 in
theorem am_X10_may (p1 : Int32) (d : DD) : AM wrI mi_X10_may 2 43 [.ref 86, .int p1] d (f_X10_may p1 d) := by
  refine AM_intro (si := si_X10_may) (lv := [(0, .ref 86), (1, .int p1)]) rfl (by decide +kernel) rfl (Nat.le_of_ble_eq_true rfl) (fun E => ?_)
  unfold f_X10_may
  refine r_aload_n_0 dX10_may_0 rfl ?_
  refine r_iconst dX10_may_1 ki_0 ?_
  refine r_puti (cc := 10) 0 tyX10 tyX10_ok nmX10 rfl (by decide +kernel) rfl rfl uX10 (by decide) rfl fw_X10_1 dX10_may_2 ?_
  refine r_bd (fun d1 => ?_)
  refine r_aload_n_0 dX10_may_5 rfl ?_
  refine r_iload_n_1 dX10_may_6 rfl ?_
  refine r_callVI (cc := 10) [] (am_X10_isPerson p1 d1) rfl rfl cf_X10_isPerson mw_X10_248 (by decide) dX10_may_7 rfl (Nat.le_of_ble_eq_true rfl) ⟨rfl, rfl⟩ (fun q2 => ?_)
  refine r_if_eq (tgt := 25) dX10_may_10 (by decide) ?_ ?_
  · refine r_iconst dX10_may_25 ki_m1 ?_
    exact r_ireturn dX10_may_26 rfl
  · refine r_aload_n_0 dX10_may_13 rfl ?_
    refine r_getr (t := 88) (cc := 10) 6 rfl rfl uX10 (by decide) rfl fw_X10_41 rfl dX10_may_14 ?_
    refine r_bipush dX10_may_17 kb_11 ?_
    refine r_iload_n_1 dX10_may_19 rfl ?_
    refine r_iadd dX10_may_20 ?_
    refine r_iaload rfl dX10_may_21 ?_
    refine r_goto (tgt := 26) dX10_may_22 (by decide) ?_
    exact r_ireturn dX10_may_26 rfl
theorem cf_X10_may : CFv mi_X10_may 1 := ⟨iw_X10_may, vw_X10_may, nw_X10, cw_X10_may, by unfold plainF; decide +kernel⟩
abbrev si_X10_next : SI := (cX10_next, RX10, 8, (some .int), 4, 103)
def f_X10_next_87 (k42 : Int64 → Int32 → Int32 → DD → Option (Int32 × DD)) (k56 : Int64 → Int32 → Int32 → Int32 → DD → Option (Int32 × DD)) (v4 : Int32) (v5 : Int32) (v6 : Int64) (d : DD) : Option (Int32 × DD) :=
  bd (((100 : Int32) * v4) + v5) fun x4 =>
  k56 v6 x4 v4 (v5 + (1 : Int32)) d
set_option maxRecDepth 100000 in
set_option maxHeartbeats 4000000 in
theorem w_X10_next_87 {E : XE} (k42 : Int64 → Int32 → Int32 → DD → Option (Int32 × DD)) (hk42 : ∀ (v1 : Int64) (v3 : Int32) (v4 : Int32) (d : DD), AW E si_X10_next 0 0 (QM E wrI) (k42 v1 v3 v4 d) 42 [(0, .ref 86), (1, .long v1), (3, .int v3), (4, .int v4)] [] d) (k56 : Int64 → Int32 → Int32 → Int32 → DD → Option (Int32 × DD)) (hk56 : ∀ (v1 : Int64) (v3 : Int32) (v4 : Int32) (v5 : Int32) (d : DD), AW E si_X10_next 0 0 (QM E wrI) (k56 v1 v3 v4 v5 d) 56 [(0, .ref 86), (1, .long v1), (3, .int v3), (4, .int v4), (5, .int v5)] [] d) (v4 : Int32) (v5 : Int32) (v6 : Int64) (d : DD) : AW E si_X10_next 0 0 (QM E wrI) (f_X10_next_87 k42 k56 v4 v5 v6 d) 87 [(0, .ref 86), (4, .int v4), (5, .int v5), (6, .long v6)] [] d := by
  unfold f_X10_next_87
  refine r_lload_w_3 dX10_next_87 ?_
  refine r_lstore_n_x dX10_next_89 rfl (by decide) rfl ?_
  refine r_bipush dX10_next_90 kb_100 ?_
  refine r_iload_w_2 dX10_next_92 ?_
  refine r_imul dX10_next_94 ?_
  refine r_iload_w_3 dX10_next_95 ?_
  refine r_iadd dX10_next_97 ?_
  refine r_bdI (fun x4 => ?_)
  refine r_istore_n_x dX10_next_98 rfl (by decide) rfl ?_
  refine r_iinc_4 dX10_next_99 ki_1 (by decide) rfl ?_
  refine r_goto (tgt := 56) dX10_next_102 (by decide) ?_
  refine r_sub [2, 1, 0, 3, 4] (lv' := [(0, .ref 86), (1, .long v6), (3, .int x4), (4, .int v4), (5, .int (v5 + (1 : Int32)))]) rfl ?_
  exact hk56 v6 x4 v4 (v5 + (1 : Int32)) d
def f_X10_next_56B (k42 : Int64 → Int32 → Int32 → DD → Option (Int32 × DD)) (k56 : Int64 → Int32 → Int32 → Int32 → DD → Option (Int32 × DD)) (v1 : Int64) (v3 : Int32) (v4 : Int32) (v5 : Int32) (d : DD) : Option (Int32 × DD) :=
  if v5 < (30 : Int32) then
  (f_X10_leftOf v4 v5 d).bind fun q3 =>
    if v3 < 0 then
    f_X10_next_87 k42 k56 v4 v5 q3.1 q3.2
    else
    if q3.1 < v1 then
      f_X10_next_87 k42 k56 v4 v5 q3.1 q3.2
      else
      k56 v1 v3 v4 (v5 + (1 : Int32)) q3.2
  else
  k42 v1 v3 (v4 + (1 : Int32)) d
def f_X10_next_56 (k42 : Int64 → Int32 → Int32 → DD → Option (Int32 × DD)) : Nat → Int64 → Int32 → Int32 → Int32 → DD → Option (Int32 × DD)
  | 0, _, _, _, _, _ => none
  | n + 1, v1, v3, v4, v5, d => f_X10_next_56B k42 (f_X10_next_56 k42 n) v1 v3 v4 v5 d
set_option maxRecDepth 100000 in
set_option maxHeartbeats 4000000 in
theorem w_X10_next_56B {E : XE} (k42 : Int64 → Int32 → Int32 → DD → Option (Int32 × DD)) (hk42 : ∀ (v1 : Int64) (v3 : Int32) (v4 : Int32) (d : DD), AW E si_X10_next 0 0 (QM E wrI) (k42 v1 v3 v4 d) 42 [(0, .ref 86), (1, .long v1), (3, .int v3), (4, .int v4)] [] d) (k56 : Int64 → Int32 → Int32 → Int32 → DD → Option (Int32 × DD)) (hk56 : ∀ (v1 : Int64) (v3 : Int32) (v4 : Int32) (v5 : Int32) (d : DD), AW E si_X10_next 0 0 (QM E wrI) (k56 v1 v3 v4 v5 d) 56 [(0, .ref 86), (1, .long v1), (3, .int v3), (4, .int v4), (5, .int v5)] [] d) (v1 : Int64) (v3 : Int32) (v4 : Int32) (v5 : Int32) (d : DD) : AW E si_X10_next 0 0 (QM E wrI) (f_X10_next_56B k42 k56 v1 v3 v4 v5 d) 56 [(0, .ref 86), (1, .long v1), (3, .int v3), (4, .int v4), (5, .int v5)] [] d := by
  unfold f_X10_next_56B
  refine r_iload_w_4 dX10_next_56 ?_
  refine r_bipush dX10_next_58 kb_30 ?_
  refine r_icmp_ge (tgt := 105) dX10_next_60 (by decide) ?_ ?_
  · refine r_iinc_3 dX10_next_105 ki_1 (by decide) rfl ?_
    refine r_goto (tgt := 42) dX10_next_108 (by decide) ?_
    refine r_sub [0, 1, 2, 3] (lv' := [(0, .ref 86), (1, .long v1), (3, .int v3), (4, .int (v4 + (1 : Int32)))]) rfl ?_
    exact hk42 v1 v3 (v4 + (1 : Int32)) d
  · refine r_aload_n_0 dX10_next_63 rfl ?_
    refine r_iload_w_3 dX10_next_64 ?_
    refine r_iload_w_4 dX10_next_66 ?_
    refine r_callVL (cc := 10) [] (am_X10_leftOf v4 v5 d) rfl rfl cf_X10_leftOf mw_X10_322 (by decide) dX10_next_68 rfl (Nat.le_of_ble_eq_true rfl) ⟨rfl, rfl⟩ (fun q3 => ?_)
    refine r_lstore_w_x dX10_next_71 (by decide) rfl ?_
    refine r_iload_n_3 dX10_next_73 rfl ?_
    refine r_if_lt (tgt := 87) dX10_next_74 (by decide) ?_ ?_
    · refine r_sub [1, 4, 5, 0] (lv' := [(0, .ref 86), (4, .int v4), (5, .int v5), (6, .long q3.1)]) rfl ?_
      exact w_X10_next_87 k42 hk42 k56 hk56 v4 v5 q3.1 q3.2
    · refine r_lload_w_0 dX10_next_77 ?_
      refine r_lload_n_2 dX10_next_79 rfl ?_
      refine r_lcmp_lt (tgt := 87) dX10_next_80 dX10_next_81 (by decide) ?_ ?_
      · refine r_sub [1, 4, 5, 0] (lv' := [(0, .ref 86), (4, .int v4), (5, .int v5), (6, .long q3.1)]) rfl ?_
        exact w_X10_next_87 k42 hk42 k56 hk56 v4 v5 q3.1 q3.2
      · refine r_goto (tgt := 99) dX10_next_84 (by decide) ?_
        refine r_iinc_5 dX10_next_99 ki_1 (by decide) rfl ?_
        refine r_goto (tgt := 56) dX10_next_102 (by decide) ?_
        refine r_sub [1, 2, 3, 4, 5] (lv' := [(0, .ref 86), (1, .long v1), (3, .int v3), (4, .int v4), (5, .int (v5 + (1 : Int32)))]) rfl ?_
        exact hk56 v1 v3 v4 (v5 + (1 : Int32)) q3.2
theorem w_X10_next_56 {E : XE} (k42 : Int64 → Int32 → Int32 → DD → Option (Int32 × DD)) (hk42 : ∀ (v1 : Int64) (v3 : Int32) (v4 : Int32) (d : DD), AW E si_X10_next 0 0 (QM E wrI) (k42 v1 v3 v4 d) 42 [(0, .ref 86), (1, .long v1), (3, .int v3), (4, .int v4)] [] d) (n : Nat) : ∀ (v1 : Int64) (v3 : Int32) (v4 : Int32) (v5 : Int32) (d : DD), AW E si_X10_next 0 0 (QM E wrI) (f_X10_next_56 k42 n v1 v3 v4 v5 d) 56 [(0, .ref 86), (1, .long v1), (3, .int v3), (4, .int v4), (5, .int v5)] [] d := by
  induction n with
  | zero => intros; exact r_none
  | succ n ih => intro v1 v3 v4 v5 d; exact w_X10_next_56B k42 hk42 (f_X10_next_56 k42 n) ih v1 v3 v4 v5 d
def f_X10_next_42B (k42 : Int64 → Int32 → Int32 → DD → Option (Int32 × DD)) (v1 : Int64) (v3 : Int32) (v4 : Int32) (d : DD) : Option (Int32 × DD) :=
  if ixb (1 : Int32) (ln 88) then
  if v4 < (d.1 88 (1 : Int32).toNatClampNeg) then
    f_X10_next_56 k42 FU v1 v3 v4 (0 : Int32) d
    else
    some (v3, d)
  else none
def f_X10_next_42 : Nat → Int64 → Int32 → Int32 → DD → Option (Int32 × DD)
  | 0, _, _, _, _ => none
  | n + 1, v1, v3, v4, d => f_X10_next_42B (f_X10_next_42 n) v1 v3 v4 d
set_option maxRecDepth 100000 in
set_option maxHeartbeats 4000000 in
theorem w_X10_next_42B {E : XE} (k42 : Int64 → Int32 → Int32 → DD → Option (Int32 × DD)) (hk42 : ∀ (v1 : Int64) (v3 : Int32) (v4 : Int32) (d : DD), AW E si_X10_next 0 0 (QM E wrI) (k42 v1 v3 v4 d) 42 [(0, .ref 86), (1, .long v1), (3, .int v3), (4, .int v4)] [] d) (v1 : Int64) (v3 : Int32) (v4 : Int32) (d : DD) : AW E si_X10_next 0 0 (QM E wrI) (f_X10_next_42B k42 v1 v3 v4 d) 42 [(0, .ref 86), (1, .long v1), (3, .int v3), (4, .int v4)] [] d := by
  unfold f_X10_next_42B
  refine r_iload_w_3 dX10_next_42 ?_
  refine r_aload_n_0 dX10_next_44 rfl ?_
  refine r_getr (t := 88) (cc := 10) 6 rfl rfl uX10 (by decide) rfl fw_X10_41 rfl dX10_next_45 ?_
  refine r_iconst dX10_next_48 ki_1 ?_
  refine r_iaload rfl dX10_next_49 ?_
  refine r_icmp_ge (tgt := 111) dX10_next_50 (by decide) ?_ ?_
  · refine r_iload_n_2 dX10_next_111 rfl ?_
    exact r_ireturn dX10_next_112 rfl
  · refine r_iconst dX10_next_53 ki_0 ?_
    refine r_istore_w_x dX10_next_54 (by decide) rfl ?_
    refine r_sub [1, 2, 3, 4, 0] (lv' := [(0, .ref 86), (1, .long v1), (3, .int v3), (4, .int v4), (5, .int (0 : Int32))]) rfl ?_
    exact w_X10_next_56 k42 hk42 FU v1 v3 v4 (0 : Int32) d
theorem w_X10_next_42 {E : XE} (n : Nat) : ∀ (v1 : Int64) (v3 : Int32) (v4 : Int32) (d : DD), AW E si_X10_next 0 0 (QM E wrI) (f_X10_next_42 n v1 v3 v4 d) 42 [(0, .ref 86), (1, .long v1), (3, .int v3), (4, .int v4)] [] d := by
  induction n with
  | zero => intros; exact r_none
  | succ n ih => intro v1 v3 v4 d; exact w_X10_next_42B (f_X10_next_42 n) ih v1 v3 v4 d
def f_X10_next (d : DD) : Option (Int32 × DD) :=
  bd (u1 d 86 0 (0 : Int32)) fun d1 =>
  if ixb (1 : Int32) (ln 88) then
  if (d1.1 88 (1 : Int32).toNatClampNeg) = 0 then
    some ((-1 : Int32), d1)
    else
    if ixb (169 : Int32) (ln 88) then
      (f_X10_worldsBy (d1.1 88 (169 : Int32).toNatClampNeg) d1).bind fun q2 =>
        if q2.1 = (0 : Int64) then
        some ((-1 : Int32), q2.2)
        else
        f_X10_next_42 FU (-1 : Int64) (-1 : Int32) (0 : Int32) q2.2
      else none
  else none
set_option maxRecDepth 100000 in
set_option maxHeartbeats 4000000 in
theorem am_X10_next (d : DD) : AM wrI mi_X10_next 4 103 [.ref 86] d (f_X10_next d) := by
  refine AM_intro (si := si_X10_next) (lv := [(0, .ref 86)]) rfl (by decide +kernel) rfl (Nat.le_of_ble_eq_true rfl) (fun E => ?_)
  unfold f_X10_next
  refine r_aload_n_0 dX10_next_0 rfl ?_
  refine r_iconst dX10_next_1 ki_0 ?_
  refine r_puti (cc := 10) 0 tyX10 tyX10_ok nmX10 rfl (by decide +kernel) rfl rfl uX10 (by decide) rfl fw_X10_1 dX10_next_2 ?_
  refine r_bd (fun d1 => ?_)
  refine r_aload_n_0 dX10_next_5 rfl ?_
  refine r_getr (t := 88) (cc := 10) 6 rfl rfl uX10 (by decide) rfl fw_X10_41 rfl dX10_next_6 ?_
  refine r_iconst dX10_next_9 ki_1 ?_
  refine r_iaload rfl dX10_next_10 ?_
  refine r_if_eq (tgt := 31) dX10_next_11 (by decide) ?_ ?_
  · refine r_iconst dX10_next_31 ki_m1 ?_
    exact r_ireturn dX10_next_32 rfl
  · refine r_aload_n_0 dX10_next_14 rfl ?_
    refine r_aload_n_0 dX10_next_15 rfl ?_
    refine r_getr (t := 88) (cc := 10) 6 rfl rfl uX10 (by decide) rfl fw_X10_41 rfl dX10_next_16 ?_
    refine r_sipush dX10_next_19 ks_169 ?_
    refine r_iaload rfl dX10_next_22 ?_
    refine r_callVL (cc := 10) [] (am_X10_worldsBy (d1.1 88 (169 : Int32).toNatClampNeg) d1) rfl rfl cf_X10_worldsBy mw_X10_283 (by decide) dX10_next_23 rfl (Nat.le_of_ble_eq_true rfl) ⟨rfl, rfl⟩ (fun q2 => ?_)
    refine r_lconst dX10_next_26 kl_0 ?_
    refine r_lcmp_ne (tgt := 33) dX10_next_27 dX10_next_28 (by decide) ?_ ?_
    · refine r_ldc2 dX10_next_33 kw_X10_291 ?_
      refine r_lstore_n_x dX10_next_36 rfl (by decide) rfl ?_
      refine r_iconst dX10_next_37 ki_m1 ?_
      refine r_istore_n_x dX10_next_38 rfl (by decide) rfl ?_
      refine r_iconst dX10_next_39 ki_0 ?_
      refine r_istore_w_x dX10_next_40 (by decide) rfl ?_
      refine r_sub [3, 2, 1, 0] (lv' := [(0, .ref 86), (1, .long (-1 : Int64)), (3, .int (-1 : Int32)), (4, .int (0 : Int32))]) rfl ?_
      exact w_X10_next_42 FU (-1 : Int64) (-1 : Int32) (0 : Int32) q2.2
    · refine r_iconst dX10_next_31 ki_m1 ?_
      exact r_ireturn dX10_next_32 rfl
theorem cf_X10_next : CFv mi_X10_next 0 := ⟨iw_X10_next, vw_X10_next, nw_X10, cw_X10_next, by unfold plainF; decide +kernel⟩
abbrev si_X10_odds : SI := (cX10_odds, RX10, 6, (some .long), 4, 103)
def f_X10_odds (p1 : Int32) (p2 : Int32) (p3 : Int32) (d : DD) : Option (Int64 × DD) :=
  (f_X10_isKind p1 d).bind fun q1 =>
  if q1.1 = 0 then
  (f_X10_throwsIf (1 : Int32) q1.2).bind fun q2 =>
    if q2.1 = 0 then
    if ixb (169 : Int32) (ln 88) then
      (f_X10_worldsBy (q2.2.1 88 (169 : Int32).toNatClampNeg) q2.2).bind fun q3 =>
        if q3.1 = (0 : Int64) then
        (f_X10_throwsIf (1 : Int32) q3.2).bind fun q8 =>
          if q8.1 = 0 then
          (f_X10_passing p1 p2 q8.2).bind fun q9 =>
            (f_X10_worldsIn p1 q9.1 q9.2).bind fun q10 =>
            (f_X10_part q10.1 q3.1 p3 q10.2).bind fun q11 =>
            some (q11.1, q11.2)
          else
          some ((0 : Int64), q8.2)
        else
        (f_X10_throwsIf (0 : Int32) q3.2).bind fun q4 =>
          if q4.1 = 0 then
          (f_X10_passing p1 p2 q4.2).bind fun q5 =>
            (f_X10_worldsIn p1 q5.1 q5.2).bind fun q6 =>
            (f_X10_part q6.1 q3.1 p3 q6.2).bind fun q7 =>
            some (q7.1, q7.2)
          else
          some ((0 : Int64), q4.2)
      else none
    else
    some ((0 : Int64), q2.2)
  else
  (f_X10_isHour p2 q1.2).bind fun q12 =>
    if q12.1 = 0 then
    (f_X10_throwsIf (1 : Int32) q12.2).bind fun q13 =>
      if q13.1 = 0 then
      if ixb (169 : Int32) (ln 88) then
        (f_X10_worldsBy (q13.2.1 88 (169 : Int32).toNatClampNeg) q13.2).bind fun q14 =>
          if q14.1 = (0 : Int64) then
          (f_X10_throwsIf (1 : Int32) q14.2).bind fun q19 =>
            if q19.1 = 0 then
            (f_X10_passing p1 p2 q19.2).bind fun q20 =>
              (f_X10_worldsIn p1 q20.1 q20.2).bind fun q21 =>
              (f_X10_part q21.1 q14.1 p3 q21.2).bind fun q22 =>
              some (q22.1, q22.2)
            else
            some ((0 : Int64), q19.2)
          else
          (f_X10_throwsIf (0 : Int32) q14.2).bind fun q15 =>
            if q15.1 = 0 then
            (f_X10_passing p1 p2 q15.2).bind fun q16 =>
              (f_X10_worldsIn p1 q16.1 q16.2).bind fun q17 =>
              (f_X10_part q17.1 q14.1 p3 q17.2).bind fun q18 =>
              some (q18.1, q18.2)
            else
            some ((0 : Int64), q15.2)
        else none
      else
      some ((0 : Int64), q13.2)
    else
    (f_X10_isIn p3 (0 : Int32) (1 : Int32) q12.2).bind fun q23 =>
      if q23.1 = 0 then
      (f_X10_throwsIf (1 : Int32) q23.2).bind fun q34 =>
        if q34.1 = 0 then
        if ixb (169 : Int32) (ln 88) then
          (f_X10_worldsBy (q34.2.1 88 (169 : Int32).toNatClampNeg) q34.2).bind fun q35 =>
            if q35.1 = (0 : Int64) then
            (f_X10_throwsIf (1 : Int32) q35.2).bind fun q40 =>
              if q40.1 = 0 then
              (f_X10_passing p1 p2 q40.2).bind fun q41 =>
                (f_X10_worldsIn p1 q41.1 q41.2).bind fun q42 =>
                (f_X10_part q42.1 q35.1 p3 q42.2).bind fun q43 =>
                some (q43.1, q43.2)
              else
              some ((0 : Int64), q40.2)
            else
            (f_X10_throwsIf (0 : Int32) q35.2).bind fun q36 =>
              if q36.1 = 0 then
              (f_X10_passing p1 p2 q36.2).bind fun q37 =>
                (f_X10_worldsIn p1 q37.1 q37.2).bind fun q38 =>
                (f_X10_part q38.1 q35.1 p3 q38.2).bind fun q39 =>
                some (q39.1, q39.2)
              else
              some ((0 : Int64), q36.2)
          else none
        else
        some ((0 : Int64), q34.2)
      else
      (f_X10_throwsIf (0 : Int32) q23.2).bind fun q24 =>
        if q24.1 = 0 then
        if ixb (169 : Int32) (ln 88) then
          (f_X10_worldsBy (q24.2.1 88 (169 : Int32).toNatClampNeg) q24.2).bind fun q25 =>
            if q25.1 = (0 : Int64) then
            (f_X10_throwsIf (1 : Int32) q25.2).bind fun q30 =>
              if q30.1 = 0 then
              (f_X10_passing p1 p2 q30.2).bind fun q31 =>
                (f_X10_worldsIn p1 q31.1 q31.2).bind fun q32 =>
                (f_X10_part q32.1 q25.1 p3 q32.2).bind fun q33 =>
                some (q33.1, q33.2)
              else
              some ((0 : Int64), q30.2)
            else
            (f_X10_throwsIf (0 : Int32) q25.2).bind fun q26 =>
              if q26.1 = 0 then
              (f_X10_passing p1 p2 q26.2).bind fun q27 =>
                (f_X10_worldsIn p1 q27.1 q27.2).bind fun q28 =>
                (f_X10_part q28.1 q25.1 p3 q28.2).bind fun q29 =>
                some (q29.1, q29.2)
              else
              some ((0 : Int64), q26.2)
          else none
        else
        some ((0 : Int64), q24.2)
set_option maxRecDepth 100000 in
set_option maxHeartbeats 4000000 in
theorem am_X10_odds (p1 : Int32) (p2 : Int32) (p3 : Int32) (d : DD) : AM wrL mi_X10_odds 4 103 [.ref 86, .int p1, .int p2, .int p3] d (f_X10_odds p1 p2 p3 d) := by
  refine AM_intro (si := si_X10_odds) (lv := [(0, .ref 86), (1, .int p1), (2, .int p2), (3, .int p3)]) rfl (by decide +kernel) rfl (Nat.le_of_ble_eq_true rfl) (fun E => ?_)
  unfold f_X10_odds
  refine r_aload_n_0 dX10_odds_0 rfl ?_
  refine r_aload_n_0 dX10_odds_1 rfl ?_
  refine r_iload_n_1 dX10_odds_2 rfl ?_
  refine r_callVI (cc := 10) [.ref 86] (am_X10_isKind p1 d) rfl rfl cf_X10_isKind mw_X10_234 (by decide) dX10_odds_3 rfl (Nat.le_of_ble_eq_true rfl) ⟨rfl, rfl⟩ (fun q1 => ?_)
  refine r_if_eq (tgt := 25) dX10_odds_6 (by decide) ?_ ?_
  · refine r_iconst dX10_odds_25 ki_1 ?_
    refine r_goto (tgt := 30) dX10_odds_26 (by decide) ?_
    refine r_callVI (cc := 10) [] (am_X10_throwsIf (1 : Int32) q1.2) rfl rfl cf_X10_throwsIf mw_X10_237 (by decide) dX10_odds_30 rfl (Nat.le_of_ble_eq_true rfl) ⟨rfl, rfl⟩ (fun q2 => ?_)
    refine r_if_eq (tgt := 38) dX10_odds_33 (by decide) ?_ ?_
    · refine r_aload_n_0 dX10_odds_38 rfl ?_
      refine r_aload_n_0 dX10_odds_39 rfl ?_
      refine r_getr (t := 88) (cc := 10) 6 rfl rfl uX10 (by decide) rfl fw_X10_41 rfl dX10_odds_40 ?_
      refine r_sipush dX10_odds_43 ks_169 ?_
      refine r_iaload rfl dX10_odds_46 ?_
      refine r_callVL (cc := 10) [] (am_X10_worldsBy (q2.2.1 88 (169 : Int32).toNatClampNeg) q2.2) rfl rfl cf_X10_worldsBy mw_X10_283 (by decide) dX10_odds_47 rfl (Nat.le_of_ble_eq_true rfl) ⟨rfl, rfl⟩ (fun q3 => ?_)
      refine r_lstore_w_x dX10_odds_50 (by decide) rfl ?_
      refine r_aload_n_1 dX10_odds_52 rfl ?_
      refine r_lload_w_0 dX10_odds_53 ?_
      refine r_lconst dX10_odds_55 kl_0 ?_
      refine r_lcmp_ne (tgt := 64) dX10_odds_56 dX10_odds_57 (by decide) ?_ ?_
      · refine r_iconst dX10_odds_64 ki_0 ?_
        refine r_callVI (cc := 10) [] (am_X10_throwsIf (0 : Int32) q3.2) rfl rfl cf_X10_throwsIf mw_X10_237 (by decide) dX10_odds_65 rfl (Nat.le_of_ble_eq_true rfl) ⟨rfl, rfl⟩ (fun q4 => ?_)
        refine r_if_eq (tgt := 75) dX10_odds_68 (by decide) ?_ ?_
        · refine r_aload_n_1 dX10_odds_75 rfl ?_
          refine r_iload_n_2 dX10_odds_76 rfl ?_
          refine r_aload_n_1 dX10_odds_77 rfl ?_
          refine r_iload_n_2 dX10_odds_78 rfl ?_
          refine r_iload_n_3 dX10_odds_79 rfl ?_
          refine r_callVL (cc := 10) [.int p1, .ref 86] (am_X10_passing p1 p2 q4.2) rfl rfl cf_X10_passing mw_X10_293 (by decide) dX10_odds_80 rfl (Nat.le_of_ble_eq_true rfl) ⟨rfl, rfl⟩ (fun q5 => ?_)
          refine r_callVL (cc := 10) [] (am_X10_worldsIn p1 q5.1 q5.2) rfl rfl cf_X10_worldsIn mw_X10_287 (by decide) dX10_odds_83 rfl (Nat.le_of_ble_eq_true rfl) ⟨rfl, rfl⟩ (fun q6 => ?_)
          refine r_lload_w_0 dX10_odds_86 ?_
          refine r_iload_n_4 dX10_odds_88 rfl ?_
          refine r_callSL [] (am_X10_part q6.1 q3.1 p3 q6.2) cf_X10_part mw_X10_304 (by decide) dX10_odds_89 rfl (Nat.le_of_ble_eq_true rfl) ⟨rfl, rfl⟩ (fun q7 => ?_)
          exact r_lreturn dX10_odds_92 rfl
        · refine r_lconst dX10_odds_71 kl_0 ?_
          refine r_goto (tgt := 92) dX10_odds_72 (by decide) ?_
          exact r_lreturn dX10_odds_92 rfl
      · refine r_iconst dX10_odds_60 ki_1 ?_
        refine r_goto (tgt := 65) dX10_odds_61 (by decide) ?_
        refine r_callVI (cc := 10) [] (am_X10_throwsIf (1 : Int32) q3.2) rfl rfl cf_X10_throwsIf mw_X10_237 (by decide) dX10_odds_65 rfl (Nat.le_of_ble_eq_true rfl) ⟨rfl, rfl⟩ (fun q8 => ?_)
        refine r_if_eq (tgt := 75) dX10_odds_68 (by decide) ?_ ?_
        · refine r_aload_n_1 dX10_odds_75 rfl ?_
          refine r_iload_n_2 dX10_odds_76 rfl ?_
          refine r_aload_n_1 dX10_odds_77 rfl ?_
          refine r_iload_n_2 dX10_odds_78 rfl ?_
          refine r_iload_n_3 dX10_odds_79 rfl ?_
          refine r_callVL (cc := 10) [.int p1, .ref 86] (am_X10_passing p1 p2 q8.2) rfl rfl cf_X10_passing mw_X10_293 (by decide) dX10_odds_80 rfl (Nat.le_of_ble_eq_true rfl) ⟨rfl, rfl⟩ (fun q9 => ?_)
          refine r_callVL (cc := 10) [] (am_X10_worldsIn p1 q9.1 q9.2) rfl rfl cf_X10_worldsIn mw_X10_287 (by decide) dX10_odds_83 rfl (Nat.le_of_ble_eq_true rfl) ⟨rfl, rfl⟩ (fun q10 => ?_)
          refine r_lload_w_0 dX10_odds_86 ?_
          refine r_iload_n_4 dX10_odds_88 rfl ?_
          refine r_callSL [] (am_X10_part q10.1 q3.1 p3 q10.2) cf_X10_part mw_X10_304 (by decide) dX10_odds_89 rfl (Nat.le_of_ble_eq_true rfl) ⟨rfl, rfl⟩ (fun q11 => ?_)
          exact r_lreturn dX10_odds_92 rfl
        · refine r_lconst dX10_odds_71 kl_0 ?_
          refine r_goto (tgt := 92) dX10_odds_72 (by decide) ?_
          exact r_lreturn dX10_odds_92 rfl
    · refine r_lconst dX10_odds_36 kl_0 ?_
      exact r_lreturn dX10_odds_37 rfl
  · refine r_iload_n_2 dX10_odds_9 rfl ?_
    refine r_callSI [.ref 86] (am_X10_isHour p2 q1.2) cf_X10_isHour mw_X10_245 (by decide) dX10_odds_10 rfl (Nat.le_of_ble_eq_true rfl) ⟨rfl, rfl⟩ (fun q12 => ?_)
    refine r_if_eq (tgt := 25) dX10_odds_13 (by decide) ?_ ?_
    · refine r_iconst dX10_odds_25 ki_1 ?_
      refine r_goto (tgt := 30) dX10_odds_26 (by decide) ?_
      refine r_callVI (cc := 10) [] (am_X10_throwsIf (1 : Int32) q12.2) rfl rfl cf_X10_throwsIf mw_X10_237 (by decide) dX10_odds_30 rfl (Nat.le_of_ble_eq_true rfl) ⟨rfl, rfl⟩ (fun q13 => ?_)
      refine r_if_eq (tgt := 38) dX10_odds_33 (by decide) ?_ ?_
      · refine r_aload_n_0 dX10_odds_38 rfl ?_
        refine r_aload_n_0 dX10_odds_39 rfl ?_
        refine r_getr (t := 88) (cc := 10) 6 rfl rfl uX10 (by decide) rfl fw_X10_41 rfl dX10_odds_40 ?_
        refine r_sipush dX10_odds_43 ks_169 ?_
        refine r_iaload rfl dX10_odds_46 ?_
        refine r_callVL (cc := 10) [] (am_X10_worldsBy (q13.2.1 88 (169 : Int32).toNatClampNeg) q13.2) rfl rfl cf_X10_worldsBy mw_X10_283 (by decide) dX10_odds_47 rfl (Nat.le_of_ble_eq_true rfl) ⟨rfl, rfl⟩ (fun q14 => ?_)
        refine r_lstore_w_x dX10_odds_50 (by decide) rfl ?_
        refine r_aload_n_1 dX10_odds_52 rfl ?_
        refine r_lload_w_0 dX10_odds_53 ?_
        refine r_lconst dX10_odds_55 kl_0 ?_
        refine r_lcmp_ne (tgt := 64) dX10_odds_56 dX10_odds_57 (by decide) ?_ ?_
        · refine r_iconst dX10_odds_64 ki_0 ?_
          refine r_callVI (cc := 10) [] (am_X10_throwsIf (0 : Int32) q14.2) rfl rfl cf_X10_throwsIf mw_X10_237 (by decide) dX10_odds_65 rfl (Nat.le_of_ble_eq_true rfl) ⟨rfl, rfl⟩ (fun q15 => ?_)
          refine r_if_eq (tgt := 75) dX10_odds_68 (by decide) ?_ ?_
          · refine r_aload_n_1 dX10_odds_75 rfl ?_
            refine r_iload_n_2 dX10_odds_76 rfl ?_
            refine r_aload_n_1 dX10_odds_77 rfl ?_
            refine r_iload_n_2 dX10_odds_78 rfl ?_
            refine r_iload_n_3 dX10_odds_79 rfl ?_
            refine r_callVL (cc := 10) [.int p1, .ref 86] (am_X10_passing p1 p2 q15.2) rfl rfl cf_X10_passing mw_X10_293 (by decide) dX10_odds_80 rfl (Nat.le_of_ble_eq_true rfl) ⟨rfl, rfl⟩ (fun q16 => ?_)
            refine r_callVL (cc := 10) [] (am_X10_worldsIn p1 q16.1 q16.2) rfl rfl cf_X10_worldsIn mw_X10_287 (by decide) dX10_odds_83 rfl (Nat.le_of_ble_eq_true rfl) ⟨rfl, rfl⟩ (fun q17 => ?_)
            refine r_lload_w_0 dX10_odds_86 ?_
            refine r_iload_n_4 dX10_odds_88 rfl ?_
            refine r_callSL [] (am_X10_part q17.1 q14.1 p3 q17.2) cf_X10_part mw_X10_304 (by decide) dX10_odds_89 rfl (Nat.le_of_ble_eq_true rfl) ⟨rfl, rfl⟩ (fun q18 => ?_)
            exact r_lreturn dX10_odds_92 rfl
          · refine r_lconst dX10_odds_71 kl_0 ?_
            refine r_goto (tgt := 92) dX10_odds_72 (by decide) ?_
            exact r_lreturn dX10_odds_92 rfl
        · refine r_iconst dX10_odds_60 ki_1 ?_
          refine r_goto (tgt := 65) dX10_odds_61 (by decide) ?_
          refine r_callVI (cc := 10) [] (am_X10_throwsIf (1 : Int32) q14.2) rfl rfl cf_X10_throwsIf mw_X10_237 (by decide) dX10_odds_65 rfl (Nat.le_of_ble_eq_true rfl) ⟨rfl, rfl⟩ (fun q19 => ?_)
          refine r_if_eq (tgt := 75) dX10_odds_68 (by decide) ?_ ?_
          · refine r_aload_n_1 dX10_odds_75 rfl ?_
            refine r_iload_n_2 dX10_odds_76 rfl ?_
            refine r_aload_n_1 dX10_odds_77 rfl ?_
            refine r_iload_n_2 dX10_odds_78 rfl ?_
            refine r_iload_n_3 dX10_odds_79 rfl ?_
            refine r_callVL (cc := 10) [.int p1, .ref 86] (am_X10_passing p1 p2 q19.2) rfl rfl cf_X10_passing mw_X10_293 (by decide) dX10_odds_80 rfl (Nat.le_of_ble_eq_true rfl) ⟨rfl, rfl⟩ (fun q20 => ?_)
            refine r_callVL (cc := 10) [] (am_X10_worldsIn p1 q20.1 q20.2) rfl rfl cf_X10_worldsIn mw_X10_287 (by decide) dX10_odds_83 rfl (Nat.le_of_ble_eq_true rfl) ⟨rfl, rfl⟩ (fun q21 => ?_)
            refine r_lload_w_0 dX10_odds_86 ?_
            refine r_iload_n_4 dX10_odds_88 rfl ?_
            refine r_callSL [] (am_X10_part q21.1 q14.1 p3 q21.2) cf_X10_part mw_X10_304 (by decide) dX10_odds_89 rfl (Nat.le_of_ble_eq_true rfl) ⟨rfl, rfl⟩ (fun q22 => ?_)
            exact r_lreturn dX10_odds_92 rfl
          · refine r_lconst dX10_odds_71 kl_0 ?_
            refine r_goto (tgt := 92) dX10_odds_72 (by decide) ?_
            exact r_lreturn dX10_odds_92 rfl
      · refine r_lconst dX10_odds_36 kl_0 ?_
        exact r_lreturn dX10_odds_37 rfl
    · refine r_iload_n_3 dX10_odds_16 rfl ?_
      refine r_iconst dX10_odds_17 ki_0 ?_
      refine r_iconst dX10_odds_18 ki_1 ?_
      refine r_callSI [.ref 86] (am_X10_isIn p3 (0 : Int32) (1 : Int32) q12.2) cf_X10_isIn mw_X10_172 (by decide) dX10_odds_19 rfl (Nat.le_of_ble_eq_true rfl) ⟨rfl, rfl⟩ (fun q23 => ?_)
      refine r_if_ne (tgt := 29) dX10_odds_22 (by decide) ?_ ?_
      · refine r_iconst dX10_odds_29 ki_0 ?_
        refine r_callVI (cc := 10) [] (am_X10_throwsIf (0 : Int32) q23.2) rfl rfl cf_X10_throwsIf mw_X10_237 (by decide) dX10_odds_30 rfl (Nat.le_of_ble_eq_true rfl) ⟨rfl, rfl⟩ (fun q24 => ?_)
        refine r_if_eq (tgt := 38) dX10_odds_33 (by decide) ?_ ?_
        · refine r_aload_n_0 dX10_odds_38 rfl ?_
          refine r_aload_n_0 dX10_odds_39 rfl ?_
          refine r_getr (t := 88) (cc := 10) 6 rfl rfl uX10 (by decide) rfl fw_X10_41 rfl dX10_odds_40 ?_
          refine r_sipush dX10_odds_43 ks_169 ?_
          refine r_iaload rfl dX10_odds_46 ?_
          refine r_callVL (cc := 10) [] (am_X10_worldsBy (q24.2.1 88 (169 : Int32).toNatClampNeg) q24.2) rfl rfl cf_X10_worldsBy mw_X10_283 (by decide) dX10_odds_47 rfl (Nat.le_of_ble_eq_true rfl) ⟨rfl, rfl⟩ (fun q25 => ?_)
          refine r_lstore_w_x dX10_odds_50 (by decide) rfl ?_
          refine r_aload_n_1 dX10_odds_52 rfl ?_
          refine r_lload_w_0 dX10_odds_53 ?_
          refine r_lconst dX10_odds_55 kl_0 ?_
          refine r_lcmp_ne (tgt := 64) dX10_odds_56 dX10_odds_57 (by decide) ?_ ?_
          · refine r_iconst dX10_odds_64 ki_0 ?_
            refine r_callVI (cc := 10) [] (am_X10_throwsIf (0 : Int32) q25.2) rfl rfl cf_X10_throwsIf mw_X10_237 (by decide) dX10_odds_65 rfl (Nat.le_of_ble_eq_true rfl) ⟨rfl, rfl⟩ (fun q26 => ?_)
            refine r_if_eq (tgt := 75) dX10_odds_68 (by decide) ?_ ?_
            · refine r_aload_n_1 dX10_odds_75 rfl ?_
              refine r_iload_n_2 dX10_odds_76 rfl ?_
              refine r_aload_n_1 dX10_odds_77 rfl ?_
              refine r_iload_n_2 dX10_odds_78 rfl ?_
              refine r_iload_n_3 dX10_odds_79 rfl ?_
              refine r_callVL (cc := 10) [.int p1, .ref 86] (am_X10_passing p1 p2 q26.2) rfl rfl cf_X10_passing mw_X10_293 (by decide) dX10_odds_80 rfl (Nat.le_of_ble_eq_true rfl) ⟨rfl, rfl⟩ (fun q27 => ?_)
              refine r_callVL (cc := 10) [] (am_X10_worldsIn p1 q27.1 q27.2) rfl rfl cf_X10_worldsIn mw_X10_287 (by decide) dX10_odds_83 rfl (Nat.le_of_ble_eq_true rfl) ⟨rfl, rfl⟩ (fun q28 => ?_)
              refine r_lload_w_0 dX10_odds_86 ?_
              refine r_iload_n_4 dX10_odds_88 rfl ?_
              refine r_callSL [] (am_X10_part q28.1 q25.1 p3 q28.2) cf_X10_part mw_X10_304 (by decide) dX10_odds_89 rfl (Nat.le_of_ble_eq_true rfl) ⟨rfl, rfl⟩ (fun q29 => ?_)
              exact r_lreturn dX10_odds_92 rfl
            · refine r_lconst dX10_odds_71 kl_0 ?_
              refine r_goto (tgt := 92) dX10_odds_72 (by decide) ?_
              exact r_lreturn dX10_odds_92 rfl
          · refine r_iconst dX10_odds_60 ki_1 ?_
            refine r_goto (tgt := 65) dX10_odds_61 (by decide) ?_
            refine r_callVI (cc := 10) [] (am_X10_throwsIf (1 : Int32) q25.2) rfl rfl cf_X10_throwsIf mw_X10_237 (by decide) dX10_odds_65 rfl (Nat.le_of_ble_eq_true rfl) ⟨rfl, rfl⟩ (fun q30 => ?_)
            refine r_if_eq (tgt := 75) dX10_odds_68 (by decide) ?_ ?_
            · refine r_aload_n_1 dX10_odds_75 rfl ?_
              refine r_iload_n_2 dX10_odds_76 rfl ?_
              refine r_aload_n_1 dX10_odds_77 rfl ?_
              refine r_iload_n_2 dX10_odds_78 rfl ?_
              refine r_iload_n_3 dX10_odds_79 rfl ?_
              refine r_callVL (cc := 10) [.int p1, .ref 86] (am_X10_passing p1 p2 q30.2) rfl rfl cf_X10_passing mw_X10_293 (by decide) dX10_odds_80 rfl (Nat.le_of_ble_eq_true rfl) ⟨rfl, rfl⟩ (fun q31 => ?_)
              refine r_callVL (cc := 10) [] (am_X10_worldsIn p1 q31.1 q31.2) rfl rfl cf_X10_worldsIn mw_X10_287 (by decide) dX10_odds_83 rfl (Nat.le_of_ble_eq_true rfl) ⟨rfl, rfl⟩ (fun q32 => ?_)
              refine r_lload_w_0 dX10_odds_86 ?_
              refine r_iload_n_4 dX10_odds_88 rfl ?_
              refine r_callSL [] (am_X10_part q32.1 q25.1 p3 q32.2) cf_X10_part mw_X10_304 (by decide) dX10_odds_89 rfl (Nat.le_of_ble_eq_true rfl) ⟨rfl, rfl⟩ (fun q33 => ?_)
              exact r_lreturn dX10_odds_92 rfl
            · refine r_lconst dX10_odds_71 kl_0 ?_
              refine r_goto (tgt := 92) dX10_odds_72 (by decide) ?_
              exact r_lreturn dX10_odds_92 rfl
        · refine r_lconst dX10_odds_36 kl_0 ?_
          exact r_lreturn dX10_odds_37 rfl
      · refine r_iconst dX10_odds_25 ki_1 ?_
        refine r_goto (tgt := 30) dX10_odds_26 (by decide) ?_
        refine r_callVI (cc := 10) [] (am_X10_throwsIf (1 : Int32) q23.2) rfl rfl cf_X10_throwsIf mw_X10_237 (by decide) dX10_odds_30 rfl (Nat.le_of_ble_eq_true rfl) ⟨rfl, rfl⟩ (fun q34 => ?_)
        refine r_if_eq (tgt := 38) dX10_odds_33 (by decide) ?_ ?_
        · refine r_aload_n_0 dX10_odds_38 rfl ?_
          refine r_aload_n_0 dX10_odds_39 rfl ?_
          refine r_getr (t := 88) (cc := 10) 6 rfl rfl uX10 (by decide) rfl fw_X10_41 rfl dX10_odds_40 ?_
          refine r_sipush dX10_odds_43 ks_169 ?_
          refine r_iaload rfl dX10_odds_46 ?_
          refine r_callVL (cc := 10) [] (am_X10_worldsBy (q34.2.1 88 (169 : Int32).toNatClampNeg) q34.2) rfl rfl cf_X10_worldsBy mw_X10_283 (by decide) dX10_odds_47 rfl (Nat.le_of_ble_eq_true rfl) ⟨rfl, rfl⟩ (fun q35 => ?_)
          refine r_lstore_w_x dX10_odds_50 (by decide) rfl ?_
          refine r_aload_n_1 dX10_odds_52 rfl ?_
          refine r_lload_w_0 dX10_odds_53 ?_
          refine r_lconst dX10_odds_55 kl_0 ?_
          refine r_lcmp_ne (tgt := 64) dX10_odds_56 dX10_odds_57 (by decide) ?_ ?_
          · refine r_iconst dX10_odds_64 ki_0 ?_
            refine r_callVI (cc := 10) [] (am_X10_throwsIf (0 : Int32) q35.2) rfl rfl cf_X10_throwsIf mw_X10_237 (by decide) dX10_odds_65 rfl (Nat.le_of_ble_eq_true rfl) ⟨rfl, rfl⟩ (fun q36 => ?_)
            refine r_if_eq (tgt := 75) dX10_odds_68 (by decide) ?_ ?_
            · refine r_aload_n_1 dX10_odds_75 rfl ?_
              refine r_iload_n_2 dX10_odds_76 rfl ?_
              refine r_aload_n_1 dX10_odds_77 rfl ?_
              refine r_iload_n_2 dX10_odds_78 rfl ?_
              refine r_iload_n_3 dX10_odds_79 rfl ?_
              refine r_callVL (cc := 10) [.int p1, .ref 86] (am_X10_passing p1 p2 q36.2) rfl rfl cf_X10_passing mw_X10_293 (by decide) dX10_odds_80 rfl (Nat.le_of_ble_eq_true rfl) ⟨rfl, rfl⟩ (fun q37 => ?_)
              refine r_callVL (cc := 10) [] (am_X10_worldsIn p1 q37.1 q37.2) rfl rfl cf_X10_worldsIn mw_X10_287 (by decide) dX10_odds_83 rfl (Nat.le_of_ble_eq_true rfl) ⟨rfl, rfl⟩ (fun q38 => ?_)
              refine r_lload_w_0 dX10_odds_86 ?_
              refine r_iload_n_4 dX10_odds_88 rfl ?_
              refine r_callSL [] (am_X10_part q38.1 q35.1 p3 q38.2) cf_X10_part mw_X10_304 (by decide) dX10_odds_89 rfl (Nat.le_of_ble_eq_true rfl) ⟨rfl, rfl⟩ (fun q39 => ?_)
              exact r_lreturn dX10_odds_92 rfl
            · refine r_lconst dX10_odds_71 kl_0 ?_
              refine r_goto (tgt := 92) dX10_odds_72 (by decide) ?_
              exact r_lreturn dX10_odds_92 rfl
          · refine r_iconst dX10_odds_60 ki_1 ?_
            refine r_goto (tgt := 65) dX10_odds_61 (by decide) ?_
            refine r_callVI (cc := 10) [] (am_X10_throwsIf (1 : Int32) q35.2) rfl rfl cf_X10_throwsIf mw_X10_237 (by decide) dX10_odds_65 rfl (Nat.le_of_ble_eq_true rfl) ⟨rfl, rfl⟩ (fun q40 => ?_)
            refine r_if_eq (tgt := 75) dX10_odds_68 (by decide) ?_ ?_
            · refine r_aload_n_1 dX10_odds_75 rfl ?_
              refine r_iload_n_2 dX10_odds_76 rfl ?_
              refine r_aload_n_1 dX10_odds_77 rfl ?_
              refine r_iload_n_2 dX10_odds_78 rfl ?_
              refine r_iload_n_3 dX10_odds_79 rfl ?_
              refine r_callVL (cc := 10) [.int p1, .ref 86] (am_X10_passing p1 p2 q40.2) rfl rfl cf_X10_passing mw_X10_293 (by decide) dX10_odds_80 rfl (Nat.le_of_ble_eq_true rfl) ⟨rfl, rfl⟩ (fun q41 => ?_)
              refine r_callVL (cc := 10) [] (am_X10_worldsIn p1 q41.1 q41.2) rfl rfl cf_X10_worldsIn mw_X10_287 (by decide) dX10_odds_83 rfl (Nat.le_of_ble_eq_true rfl) ⟨rfl, rfl⟩ (fun q42 => ?_)
              refine r_lload_w_0 dX10_odds_86 ?_
              refine r_iload_n_4 dX10_odds_88 rfl ?_
              refine r_callSL [] (am_X10_part q42.1 q35.1 p3 q42.2) cf_X10_part mw_X10_304 (by decide) dX10_odds_89 rfl (Nat.le_of_ble_eq_true rfl) ⟨rfl, rfl⟩ (fun q43 => ?_)
              exact r_lreturn dX10_odds_92 rfl
            · refine r_lconst dX10_odds_71 kl_0 ?_
              refine r_goto (tgt := 92) dX10_odds_72 (by decide) ?_
              exact r_lreturn dX10_odds_92 rfl
        · refine r_lconst dX10_odds_36 kl_0 ?_
          exact r_lreturn dX10_odds_37 rfl
theorem cf_X10_odds : CFv mi_X10_odds 3 := ⟨iw_X10_odds, vw_X10_odds, nw_X10, cw_X10_odds, by unfold plainF; decide +kernel⟩
abbrev si_X10_passes : SI := (cX10_passes, RX10, 4, (some .int), 2, 43)
def f_X10_passes (p1 : Int32) (p2 : Int32) (p3 : Int32) (d : DD) : Option (Int32 × DD) :=
  bd (u1 d 86 0 (0 : Int32)) fun d1 =>
  (f_X10_isKind p1 d1).bind fun q2 =>
  if q2.1 = 0 then
  some ((-1 : Int32), q2.2)
  else
  if ixb p1 (ln 95) then
    (f_X10_isIn p2 (0 : Int32) ((q2.2.1 95 p1.toNatClampNeg) - (1 : Int32)) q2.2).bind fun q3 =>
      if q3.1 = 0 then
      some ((-1 : Int32), q3.2)
      else
      (f_X10_isHour p3 q3.2).bind fun q4 =>
        if q4.1 = 0 then
        some ((-1 : Int32), q4.2)
        else
        if ixb (((36 : Int32) * p1) + p2) (ln 94) then
          some (((q4.2.1 94 (((36 : Int32) * p1) + p2).toNatClampNeg) >>> (p3 &&& 31)) &&& (1 : Int32), q4.2)
          else none
    else none
set_option maxRecDepth 100000 in
set_option maxHeartbeats 4000000 in
theorem am_X10_passes (p1 : Int32) (p2 : Int32) (p3 : Int32) (d : DD) : AM wrI mi_X10_passes 2 43 [.ref 86, .int p1, .int p2, .int p3] d (f_X10_passes p1 p2 p3 d) := by
  refine AM_intro (si := si_X10_passes) (lv := [(0, .ref 86), (1, .int p1), (2, .int p2), (3, .int p3)]) rfl (by decide +kernel) rfl (Nat.le_of_ble_eq_true rfl) (fun E => ?_)
  unfold f_X10_passes
  refine r_aload_n_0 dX10_passes_0 rfl ?_
  refine r_iconst dX10_passes_1 ki_0 ?_
  refine r_puti (cc := 10) 0 tyX10 tyX10_ok nmX10 rfl (by decide +kernel) rfl rfl uX10 (by decide) rfl fw_X10_1 dX10_passes_2 ?_
  refine r_bd (fun d1 => ?_)
  refine r_aload_n_0 dX10_passes_5 rfl ?_
  refine r_iload_n_1 dX10_passes_6 rfl ?_
  refine r_callVI (cc := 10) [] (am_X10_isKind p1 d1) rfl rfl cf_X10_isKind mw_X10_234 (by decide) dX10_passes_7 rfl (Nat.le_of_ble_eq_true rfl) ⟨rfl, rfl⟩ (fun q2 => ?_)
  refine r_if_eq (tgt := 54) dX10_passes_10 (by decide) ?_ ?_
  · refine r_iconst dX10_passes_54 ki_m1 ?_
    exact r_ireturn dX10_passes_55 rfl
  · refine r_iload_n_2 dX10_passes_13 rfl ?_
    refine r_iconst dX10_passes_14 ki_0 ?_
    refine r_aload_n_0 dX10_passes_15 rfl ?_
    refine r_getr (t := 95) (cc := 10) 22 rfl rfl uX10 (by decide) rfl fw_X10_64 rfl dX10_passes_16 ?_
    refine r_iload_n_1 dX10_passes_19 rfl ?_
    refine r_iaload rfl dX10_passes_20 ?_
    refine r_iconst dX10_passes_21 ki_1 ?_
    refine r_isub dX10_passes_22 ?_
    refine r_callSI [] (am_X10_isIn p2 (0 : Int32) ((q2.2.1 95 p1.toNatClampNeg) - (1 : Int32)) q2.2) cf_X10_isIn mw_X10_172 (by decide) dX10_passes_23 rfl (Nat.le_of_ble_eq_true rfl) ⟨rfl, rfl⟩ (fun q3 => ?_)
    refine r_if_eq (tgt := 54) dX10_passes_26 (by decide) ?_ ?_
    · refine r_iconst dX10_passes_54 ki_m1 ?_
      exact r_ireturn dX10_passes_55 rfl
    · refine r_iload_n_3 dX10_passes_29 rfl ?_
      refine r_callSI [] (am_X10_isHour p3 q3.2) cf_X10_isHour mw_X10_245 (by decide) dX10_passes_30 rfl (Nat.le_of_ble_eq_true rfl) ⟨rfl, rfl⟩ (fun q4 => ?_)
      refine r_if_eq (tgt := 54) dX10_passes_33 (by decide) ?_ ?_
      · refine r_iconst dX10_passes_54 ki_m1 ?_
        exact r_ireturn dX10_passes_55 rfl
      · refine r_aload_n_0 dX10_passes_36 rfl ?_
        refine r_getr (t := 94) (cc := 10) 21 rfl rfl uX10 (by decide) rfl fw_X10_61 rfl dX10_passes_37 ?_
        refine r_bipush dX10_passes_40 kb_36 ?_
        refine r_iload_n_1 dX10_passes_42 rfl ?_
        refine r_imul dX10_passes_43 ?_
        refine r_iload_n_2 dX10_passes_44 rfl ?_
        refine r_iadd dX10_passes_45 ?_
        refine r_iaload rfl dX10_passes_46 ?_
        refine r_iload_n_3 dX10_passes_47 rfl ?_
        refine r_ishr dX10_passes_48 ?_
        refine r_iconst dX10_passes_49 ki_1 ?_
        refine r_iand dX10_passes_50 ?_
        refine r_goto (tgt := 55) dX10_passes_51 (by decide) ?_
        exact r_ireturn dX10_passes_55 rfl
theorem cf_X10_passes : CFv mi_X10_passes 3 := ⟨iw_X10_passes, vw_X10_passes, nw_X10, cw_X10_passes, by unfold plainF; decide +kernel⟩
abbrev si_X10_readRule : SI := (cX10_readRule, RX10, 6, (some .boolean), 3, 65)
def f_X10_readRule_94B (k94 : Int32 → Int32 → Int32 → Int32 → DD → Option (Int32 × DD)) (v1 : Int32) (v3 : Int32) (v4 : Int32) (v5 : Int32) (d : DD) : Option (Int32 × DD) :=
  if v3 < v5 then
  some ((1 : Int32), d)
  else
  if ixb v5 (ln 91) then
    if (d.1 91 v5.toNatClampNeg) = 0 then
      if ixb v5 (ln 91) then
        bd (u1 d 91 v5.toNatClampNeg (v1 + (1 : Int32))) fun d11 =>
        bd (v5 + v4) fun x12 =>
          k94 v1 v3 v4 x12 d11
        else none
      else
      bd (v5 + v4) fun x10 =>
        k94 v1 v3 v4 x10 d
    else none
def f_X10_readRule_94 : Nat → Int32 → Int32 → Int32 → Int32 → DD → Option (Int32 × DD)
  | 0, _, _, _, _, _ => none
  | n + 1, v1, v3, v4, v5, d => f_X10_readRule_94B (f_X10_readRule_94 n) v1 v3 v4 v5 d
set_option maxRecDepth 100000 in
set_option maxHeartbeats 4000000 in
theorem w_X10_readRule_94B {E : XE} (k94 : Int32 → Int32 → Int32 → Int32 → DD → Option (Int32 × DD)) (hk94 : ∀ (v1 : Int32) (v3 : Int32) (v4 : Int32) (v5 : Int32) (d : DD), AW E si_X10_readRule 0 0 (QM E wrI) (k94 v1 v3 v4 v5 d) 94 [(0, .ref 86), (1, .int v1), (3, .int v3), (4, .int v4), (5, .int v5)] [] d) (v1 : Int32) (v3 : Int32) (v4 : Int32) (v5 : Int32) (d : DD) : AW E si_X10_readRule 0 0 (QM E wrI) (f_X10_readRule_94B k94 v1 v3 v4 v5 d) 94 [(0, .ref 86), (1, .int v1), (3, .int v3), (4, .int v4), (5, .int v5)] [] d := by
  unfold f_X10_readRule_94B
  refine r_iload_w_4 dX10_readRule_94 ?_
  refine r_iload_n_2 dX10_readRule_96 rfl ?_
  refine r_icmp_gt (tgt := 130) dX10_readRule_97 (by decide) ?_ ?_
  · refine r_iconst dX10_readRule_130 ki_1 ?_
    exact r_zreturn dX10_readRule_131 rfl rfl
  · refine r_aload_n_0 dX10_readRule_100 rfl ?_
    refine r_getr (t := 91) (cc := 10) 9 rfl rfl uX10 (by decide) rfl fw_X10_51 rfl dX10_readRule_101 ?_
    refine r_iload_w_4 dX10_readRule_104 ?_
    refine r_iaload rfl dX10_readRule_106 ?_
    refine r_if_ne (tgt := 120) dX10_readRule_107 (by decide) ?_ ?_
    · refine r_iload_w_4 dX10_readRule_120 ?_
      refine r_iload_w_3 dX10_readRule_122 ?_
      refine r_iadd dX10_readRule_124 ?_
      refine r_bdI (fun x10 => ?_)
      refine r_istore_w_4 dX10_readRule_125 (by decide) rfl ?_
      refine r_goto (tgt := 94) dX10_readRule_127 (by decide) ?_
      exact hk94 v1 v3 v4 x10 d
    · refine r_aload_n_0 dX10_readRule_110 rfl ?_
      refine r_getr (t := 91) (cc := 10) 9 rfl rfl uX10 (by decide) rfl fw_X10_51 rfl dX10_readRule_111 ?_
      refine r_iload_w_4 dX10_readRule_114 ?_
      refine r_iload_n_1 dX10_readRule_116 rfl ?_
      refine r_iconst dX10_readRule_117 ki_1 ?_
      refine r_iadd dX10_readRule_118 ?_
      refine r_iastore rfl dX10_readRule_119 ?_
      refine r_bd (fun d11 => ?_)
      refine r_iload_w_4 dX10_readRule_120 ?_
      refine r_iload_w_3 dX10_readRule_122 ?_
      refine r_iadd dX10_readRule_124 ?_
      refine r_bdI (fun x12 => ?_)
      refine r_istore_w_4 dX10_readRule_125 (by decide) rfl ?_
      refine r_goto (tgt := 94) dX10_readRule_127 (by decide) ?_
      exact hk94 v1 v3 v4 x12 d11
theorem w_X10_readRule_94 {E : XE} (n : Nat) : ∀ (v1 : Int32) (v3 : Int32) (v4 : Int32) (v5 : Int32) (d : DD), AW E si_X10_readRule 0 0 (QM E wrI) (f_X10_readRule_94 n v1 v3 v4 v5 d) 94 [(0, .ref 86), (1, .int v1), (3, .int v3), (4, .int v4), (5, .int v5)] [] d := by
  induction n with
  | zero => intros; exact r_none
  | succ n ih => intro v1 v3 v4 v5 d; exact w_X10_readRule_94B (f_X10_readRule_94 n) ih v1 v3 v4 v5 d
def f_X10_readRule (d : DD) : Option (Int32 × DD) :=
  (f_X10_isName d).bind fun q1 =>
  if q1.1 = 0 then
  (f_X10_bad (1 : Int32) q1.2).bind fun q14 =>
    if q14.1 = 0 ∨ q14.1 = 1 then some (q14.1, q14.2) else none
  else
  if ixb (1 : Int32) (ln 88) then
    (f_X10_find (3 : Int32) (q1.2.1 88 (1 : Int32).toNatClampNeg) q1.2).bind fun q2 =>
      if q2.1 < 0 then
      (f_X10_bad (3 : Int32) q2.2).bind fun q13 =>
        if q13.1 = 0 ∨ q13.1 = 1 then some (q13.1, q13.2) else none
      else
      (f_X10_skip q2.2).bind fun q3 =>
        (f_X10_takes (0 : Int32) (29 : Int32) q3.2).bind fun q4 =>
        if q4.1 = 0 then
        some ((0 : Int32), q4.2)
        else
        bd (q4.2.1 86 19) fun x5 =>
          (f_X10_takes x5 (29 : Int32) q4.2).bind fun q6 =>
          if q6.1 = 0 then
          some ((0 : Int32), q6.2)
          else
          bd (q6.2.1 86 19) fun x7 =>
            (f_X10_takes (1 : Int32) (30 : Int32) q6.2).bind fun q8 =>
            if q8.1 = 0 then
            some ((0 : Int32), q8.2)
            else
            bd (q8.2.1 86 19) fun x9 =>
              f_X10_readRule_94 FU q2.1 x7 x9 x5 q8.2
    else none
set_option maxRecDepth 100000 in
set_option maxHeartbeats 4000000 in
theorem am_X10_readRule (d : DD) : AM wrI mi_X10_readRule 3 65 [.ref 86] d (f_X10_readRule d) := by
  refine AM_intro (si := si_X10_readRule) (lv := [(0, .ref 86)]) rfl (by decide +kernel) rfl (Nat.le_of_ble_eq_true rfl) (fun E => ?_)
  unfold f_X10_readRule
  refine r_aload_n_0 dX10_readRule_0 rfl ?_
  refine r_callVI (cc := 10) [] (am_X10_isName d) rfl rfl cf_X10_isName mw_X10_179 (by decide) dX10_readRule_1 rfl (Nat.le_of_ble_eq_true rfl) ⟨rfl, rfl⟩ (fun q1 => ?_)
  refine r_if_ne (tgt := 13) dX10_readRule_4 (by decide) ?_ ?_
  · refine r_aload_n_0 dX10_readRule_13 rfl ?_
    refine r_iconst dX10_readRule_14 ki_3 ?_
    refine r_aload_n_0 dX10_readRule_15 rfl ?_
    refine r_getr (t := 88) (cc := 10) 6 rfl rfl uX10 (by decide) rfl fw_X10_41 rfl dX10_readRule_16 ?_
    refine r_iconst dX10_readRule_19 ki_1 ?_
    refine r_iaload rfl dX10_readRule_20 ?_
    refine r_callVI (cc := 10) [] (am_X10_find (3 : Int32) (q1.2.1 88 (1 : Int32).toNatClampNeg) q1.2) rfl rfl cf_X10_find mw_X10_183 (by decide) dX10_readRule_21 rfl (Nat.le_of_ble_eq_true rfl) ⟨rfl, rfl⟩ (fun q2 => ?_)
    refine r_istore_n_x dX10_readRule_24 rfl (by decide) rfl ?_
    refine r_iload_n_0 dX10_readRule_25 rfl ?_
    refine r_if_ge (tgt := 35) dX10_readRule_26 (by decide) ?_ ?_
    · refine r_aload_n_1 dX10_readRule_35 rfl ?_
      refine r_callVU (cc := 10) [] (am_X10_skip q2.2) rfl rfl cf_X10_skip mw_X10_169 (by decide) dX10_readRule_36 rfl (Nat.le_of_ble_eq_true rfl) ⟨rfl, rfl⟩ (fun q3 => ?_)
      refine r_aload_n_1 dX10_readRule_39 rfl ?_
      refine r_iconst dX10_readRule_40 ki_0 ?_
      refine r_bipush dX10_readRule_41 kb_29 ?_
      refine r_callVI (cc := 10) [] (am_X10_takes (0 : Int32) (29 : Int32) q3.2) rfl rfl cf_X10_takes mw_X10_209 (by decide) dX10_readRule_43 rfl (Nat.le_of_ble_eq_true rfl) ⟨rfl, rfl⟩ (fun q4 => ?_)
      refine r_if_ne (tgt := 51) dX10_readRule_46 (by decide) ?_ ?_
      · refine r_aload_n_1 dX10_readRule_51 rfl ?_
        refine r_geti (cc := 10) 19 rfl rfl uX10 (by decide) rfl fw_X10_176 dX10_readRule_52 ?_
        refine r_bdI (fun x5 => ?_)
        refine r_istore_n_x dX10_readRule_55 rfl (by decide) rfl ?_
        refine r_aload_n_2 dX10_readRule_56 rfl ?_
        refine r_iload_n_0 dX10_readRule_57 rfl ?_
        refine r_bipush dX10_readRule_58 kb_29 ?_
        refine r_callVI (cc := 10) [] (am_X10_takes x5 (29 : Int32) q4.2) rfl rfl cf_X10_takes mw_X10_209 (by decide) dX10_readRule_60 rfl (Nat.le_of_ble_eq_true rfl) ⟨rfl, rfl⟩ (fun q6 => ?_)
        refine r_if_ne (tgt := 68) dX10_readRule_63 (by decide) ?_ ?_
        · refine r_aload_n_2 dX10_readRule_68 rfl ?_
          refine r_geti (cc := 10) 19 rfl rfl uX10 (by decide) rfl fw_X10_176 dX10_readRule_69 ?_
          refine r_bdI (fun x7 => ?_)
          refine r_istore_n_x dX10_readRule_72 rfl (by decide) rfl ?_
          refine r_aload_n_3 dX10_readRule_73 rfl ?_
          refine r_iconst dX10_readRule_74 ki_1 ?_
          refine r_bipush dX10_readRule_75 kb_30 ?_
          refine r_callVI (cc := 10) [] (am_X10_takes (1 : Int32) (30 : Int32) q6.2) rfl rfl cf_X10_takes mw_X10_209 (by decide) dX10_readRule_77 rfl (Nat.le_of_ble_eq_true rfl) ⟨rfl, rfl⟩ (fun q8 => ?_)
          refine r_if_ne (tgt := 85) dX10_readRule_80 (by decide) ?_ ?_
          · refine r_aload_n_3 dX10_readRule_85 rfl ?_
            refine r_geti (cc := 10) 19 rfl rfl uX10 (by decide) rfl fw_X10_176 dX10_readRule_86 ?_
            refine r_bdI (fun x9 => ?_)
            refine r_istore_w_x dX10_readRule_89 (by decide) rfl ?_
            refine r_iload_n_2 dX10_readRule_91 rfl ?_
            refine r_istore_w_x dX10_readRule_92 (by decide) rfl ?_
            refine r_sub [5, 4, 2, 1, 0] (lv' := [(0, .ref 86), (1, .int q2.1), (3, .int x7), (4, .int x9), (5, .int x5)]) rfl ?_
            exact w_X10_readRule_94 FU q2.1 x7 x9 x5 q8.2
          · refine r_iconst dX10_readRule_83 ki_0 ?_
            exact r_zreturn dX10_readRule_84 rfl rfl
        · refine r_iconst dX10_readRule_66 ki_0 ?_
          exact r_zreturn dX10_readRule_67 rfl rfl
      · refine r_iconst dX10_readRule_49 ki_0 ?_
        exact r_zreturn dX10_readRule_50 rfl rfl
    · refine r_aload_n_1 dX10_readRule_29 rfl ?_
      refine r_iconst dX10_readRule_30 ki_3 ?_
      refine r_callVI (cc := 10) [] (am_X10_bad (3 : Int32) q2.2) rfl rfl cf_X10_bad mw_X10_166 (by decide) dX10_readRule_31 rfl (Nat.le_of_ble_eq_true rfl) ⟨rfl, rfl⟩ (fun q13 => ?_)
      exact r_breturn dX10_readRule_34 rfl
  · refine r_aload_n_0 dX10_readRule_7 rfl ?_
    refine r_iconst dX10_readRule_8 ki_1 ?_
    refine r_callVI (cc := 10) [] (am_X10_bad (1 : Int32) q1.2) rfl rfl cf_X10_bad mw_X10_166 (by decide) dX10_readRule_9 rfl (Nat.le_of_ble_eq_true rfl) ⟨rfl, rfl⟩ (fun q14 => ?_)
    exact r_breturn dX10_readRule_12 rfl
theorem cf_X10_readRule : CFv mi_X10_readRule 0 := ⟨iw_X10_readRule, vw_X10_readRule, nw_X10, cw_X10_readRule, by unfold plainF; decide +kernel⟩
abbrev si_X10_readTelling : SI := (cX10_readTelling, RX10, 4, (some .boolean), 3, 65)
def f_X10_readTelling_143 (d : DD) : Option (Int32 × DD) :=
  (f_X10_bad (3 : Int32) d).bind fun q11 =>
  if q11.1 = 0 ∨ q11.1 = 1 then some (q11.1, q11.2) else none
set_option maxRecDepth 100000 in
set_option maxHeartbeats 4000000 in
theorem w_X10_readTelling_143 {E : XE} (d : DD) : AW E si_X10_readTelling 0 0 (QM E wrI) (f_X10_readTelling_143 d) 143 [(0, .ref 86)] [] d := by
  unfold f_X10_readTelling_143
  refine r_aload_n_0 dX10_readTelling_143 rfl ?_
  refine r_iconst dX10_readTelling_144 ki_3 ?_
  refine r_callVI (cc := 10) [] (am_X10_bad (3 : Int32) d) rfl rfl cf_X10_bad mw_X10_166 (by decide) dX10_readTelling_145 rfl (Nat.le_of_ble_eq_true rfl) ⟨rfl, rfl⟩ (fun q11 => ?_)
  exact r_breturn dX10_readTelling_148 rfl
def f_X10_readTelling_97B (k97 : Int32 → DD → Option (Int32 × DD)) (v2 : Int32) (d : DD) : Option (Int32 × DD) :=
  (f_X10_isSign (59 : Int32) d).bind fun q7 =>
  if q7.1 = 0 then
  (f_X10_isName q7.2).bind fun q9 =>
    if q9.1 = 0 then
    (f_X10_bad (1 : Int32) q9.2).bind fun q15 =>
      if q15.1 = 0 ∨ q15.1 = 1 then some (q15.1, q15.2) else none
    else
    if ixb (0 : Int32) (ln 88) then
      (f_X10_find (0 : Int32) (q9.2.1 88 (0 : Int32).toNatClampNeg) q9.2).bind fun q10 =>
        if q10.1 < 0 then
        f_X10_readTelling_143 q10.2
        else
        (f_X10_has v2 q10.1 q10.2).bind fun q12 =>
          if q12.1 = 0 then
          bd (v2 ||| ((1 : Int32) <<< (q10.1 &&& 31))) fun x13 =>
            (f_X10_skip q12.2).bind fun q14 =>
            k97 x13 q14.2
          else
          f_X10_readTelling_143 q12.2
      else none
  else
  if ixb (((3 : Int32) * (q7.2.1 86 23)) + (2 : Int32)) (ln 90) then
    bd (u1 q7.2 90 (((3 : Int32) * (q7.2.1 86 23)) + (2 : Int32)).toNatClampNeg v2) fun d8 =>
    some ((1 : Int32), d8)
    else none
def f_X10_readTelling_97 : Nat → Int32 → DD → Option (Int32 × DD)
  | 0, _, _ => none
  | n + 1, v2, d => f_X10_readTelling_97B (f_X10_readTelling_97 n) v2 d
set_option maxRecDepth 100000 in
set_option maxHeartbeats 4000000 in
theorem w_X10_readTelling_97B {E : XE} (k97 : Int32 → DD → Option (Int32 × DD)) (hk97 : ∀ (v2 : Int32) (d : DD), AW E si_X10_readTelling 0 0 (QM E wrI) (k97 v2 d) 97 [(0, .ref 86), (2, .int v2)] [] d) (v2 : Int32) (d : DD) : AW E si_X10_readTelling 0 0 (QM E wrI) (f_X10_readTelling_97B k97 v2 d) 97 [(0, .ref 86), (2, .int v2)] [] d := by
  unfold f_X10_readTelling_97B
  refine r_aload_n_0 dX10_readTelling_97 rfl ?_
  refine r_bipush dX10_readTelling_98 kb_59 ?_
  refine r_callVI (cc := 10) [] (am_X10_isSign (59 : Int32) d) rfl rfl cf_X10_isSign mw_X10_163 (by decide) dX10_readTelling_100 rfl (Nat.le_of_ble_eq_true rfl) ⟨rfl, rfl⟩ (fun q7 => ?_)
  refine r_if_ne (tgt := 162) dX10_readTelling_103 (by decide) ?_ ?_
  · refine r_aload_n_0 dX10_readTelling_162 rfl ?_
    refine r_getr (t := 90) (cc := 10) 8 rfl rfl uX10 (by decide) rfl fw_X10_48 rfl dX10_readTelling_163 ?_
    refine r_iconst dX10_readTelling_166 ki_3 ?_
    refine r_aload_n_0 dX10_readTelling_167 rfl ?_
    refine r_geti (cc := 10) 23 rfl rfl uX10 (by decide) rfl fw_X10_251 dX10_readTelling_168 ?_
    refine r_imul dX10_readTelling_171 ?_
    refine r_iconst dX10_readTelling_172 ki_2 ?_
    refine r_iadd dX10_readTelling_173 ?_
    refine r_iload_n_1 dX10_readTelling_174 rfl ?_
    refine r_iastore rfl dX10_readTelling_175 ?_
    refine r_bd (fun d8 => ?_)
    refine r_iconst dX10_readTelling_176 ki_1 ?_
    exact r_zreturn dX10_readTelling_177 rfl rfl
  · refine r_aload_n_0 dX10_readTelling_106 rfl ?_
    refine r_callVI (cc := 10) [] (am_X10_isName q7.2) rfl rfl cf_X10_isName mw_X10_179 (by decide) dX10_readTelling_107 rfl (Nat.le_of_ble_eq_true rfl) ⟨rfl, rfl⟩ (fun q9 => ?_)
    refine r_if_ne (tgt := 119) dX10_readTelling_110 (by decide) ?_ ?_
    · refine r_aload_n_0 dX10_readTelling_119 rfl ?_
      refine r_iconst dX10_readTelling_120 ki_0 ?_
      refine r_aload_n_0 dX10_readTelling_121 rfl ?_
      refine r_getr (t := 88) (cc := 10) 6 rfl rfl uX10 (by decide) rfl fw_X10_41 rfl dX10_readTelling_122 ?_
      refine r_iconst dX10_readTelling_125 ki_0 ?_
      refine r_iaload rfl dX10_readTelling_126 ?_
      refine r_callVI (cc := 10) [] (am_X10_find (0 : Int32) (q9.2.1 88 (0 : Int32).toNatClampNeg) q9.2) rfl rfl cf_X10_find mw_X10_183 (by decide) dX10_readTelling_127 rfl (Nat.le_of_ble_eq_true rfl) ⟨rfl, rfl⟩ (fun q10 => ?_)
      refine r_istore_n_x dX10_readTelling_130 rfl (by decide) rfl ?_
      refine r_iload_n_0 dX10_readTelling_131 rfl ?_
      refine r_if_lt (tgt := 143) dX10_readTelling_132 (by decide) ?_ ?_
      · refine r_sub [1] (lv' := [(0, .ref 86)]) rfl ?_
        exact w_X10_readTelling_143 q10.2
      · refine r_iload_n_2 dX10_readTelling_135 rfl ?_
        refine r_iload_n_0 dX10_readTelling_136 rfl ?_
        refine r_callSI [] (am_X10_has v2 q10.1 q10.2) cf_X10_has mw_X10_213 (by decide) dX10_readTelling_137 rfl (Nat.le_of_ble_eq_true rfl) ⟨rfl, rfl⟩ (fun q12 => ?_)
        refine r_if_eq (tgt := 149) dX10_readTelling_140 (by decide) ?_ ?_
        · refine r_iload_n_2 dX10_readTelling_149 rfl ?_
          refine r_iconst dX10_readTelling_150 ki_1 ?_
          refine r_iload_n_0 dX10_readTelling_151 rfl ?_
          refine r_ishl dX10_readTelling_152 ?_
          refine r_ior dX10_readTelling_153 ?_
          refine r_bdI (fun x13 => ?_)
          refine r_istore_n_2 dX10_readTelling_154 rfl (by decide) rfl ?_
          refine r_aload_n_1 dX10_readTelling_155 rfl ?_
          refine r_callVU (cc := 10) [] (am_X10_skip q12.2) rfl rfl cf_X10_skip mw_X10_169 (by decide) dX10_readTelling_156 rfl (Nat.le_of_ble_eq_true rfl) ⟨rfl, rfl⟩ (fun q14 => ?_)
          refine r_goto (tgt := 97) dX10_readTelling_159 (by decide) ?_
          refine r_sub [1, 2] (lv' := [(0, .ref 86), (2, .int x13)]) rfl ?_
          exact hk97 x13 q14.2
        · refine r_sub [1] (lv' := [(0, .ref 86)]) rfl ?_
          exact w_X10_readTelling_143 q12.2
    · refine r_aload_n_0 dX10_readTelling_113 rfl ?_
      refine r_iconst dX10_readTelling_114 ki_1 ?_
      refine r_callVI (cc := 10) [] (am_X10_bad (1 : Int32) q9.2) rfl rfl cf_X10_bad mw_X10_166 (by decide) dX10_readTelling_115 rfl (Nat.le_of_ble_eq_true rfl) ⟨rfl, rfl⟩ (fun q15 => ?_)
      exact r_breturn dX10_readTelling_118 rfl
theorem w_X10_readTelling_97 {E : XE} (n : Nat) : ∀ (v2 : Int32) (d : DD), AW E si_X10_readTelling 0 0 (QM E wrI) (f_X10_readTelling_97 n v2 d) 97 [(0, .ref 86), (2, .int v2)] [] d := by
  induction n with
  | zero => intros; exact r_none
  | succ n ih => intro v2 d; exact w_X10_readTelling_97B (f_X10_readTelling_97 n) ih v2 d
def f_X10_readTelling (d : DD) : Option (Int32 × DD) :=
  (f_X10_isName d).bind fun q1 =>
  if q1.1 = 0 then
  (f_X10_bad (1 : Int32) q1.2).bind fun q18 =>
    if q18.1 = 0 ∨ q18.1 = 1 then some (q18.1, q18.2) else none
  else
  if ixb (1 : Int32) (ln 88) then
    (f_X10_find (3 : Int32) (q1.2.1 88 (1 : Int32).toNatClampNeg) q1.2).bind fun q2 =>
      if q2.1 < 0 then
      (f_X10_bad (3 : Int32) q2.2).bind fun q17 =>
        if q17.1 = 0 ∨ q17.1 = 1 then some (q17.1, q17.2) else none
      else
      if (q2.2.1 86 23) = (40 : Int32) then
        (f_X10_bad (4 : Int32) q2.2).bind fun q16 =>
          if q16.1 = 0 ∨ q16.1 = 1 then some (q16.1, q16.2) else none
        else
        (f_X10_skip q2.2).bind fun q3 =>
          (f_X10_takes (0 : Int32) (29 : Int32) q3.2).bind fun q4 =>
          if q4.1 = 0 then
          some ((0 : Int32), q4.2)
          else
          if ixb ((3 : Int32) * (q4.2.1 86 23)) (ln 90) then
            bd (u1 q4.2 90 ((3 : Int32) * (q4.2.1 86 23)).toNatClampNeg q2.1) fun d5 =>
            if ixb (((3 : Int32) * (d5.1 86 23)) + (1 : Int32)) (ln 90) then
              bd (u1 d5 90 (((3 : Int32) * (d5.1 86 23)) + (1 : Int32)).toNatClampNeg (d5.1 86 19)) fun d6 =>
              f_X10_readTelling_97 FU (0 : Int32) d6
              else none
            else none
    else none
set_option maxRecDepth 100000 in
set_option maxHeartbeats 4000000 in
theorem am_X10_readTelling (d : DD) : AM wrI mi_X10_readTelling 3 65 [.ref 86] d (f_X10_readTelling d) := by
  refine AM_intro (si := si_X10_readTelling) (lv := [(0, .ref 86)]) rfl (by decide +kernel) rfl (Nat.le_of_ble_eq_true rfl) (fun E => ?_)
  unfold f_X10_readTelling
  refine r_aload_n_0 dX10_readTelling_0 rfl ?_
  refine r_callVI (cc := 10) [] (am_X10_isName d) rfl rfl cf_X10_isName mw_X10_179 (by decide) dX10_readTelling_1 rfl (Nat.le_of_ble_eq_true rfl) ⟨rfl, rfl⟩ (fun q1 => ?_)
  refine r_if_ne (tgt := 13) dX10_readTelling_4 (by decide) ?_ ?_
  · refine r_aload_n_0 dX10_readTelling_13 rfl ?_
    refine r_iconst dX10_readTelling_14 ki_3 ?_
    refine r_aload_n_0 dX10_readTelling_15 rfl ?_
    refine r_getr (t := 88) (cc := 10) 6 rfl rfl uX10 (by decide) rfl fw_X10_41 rfl dX10_readTelling_16 ?_
    refine r_iconst dX10_readTelling_19 ki_1 ?_
    refine r_iaload rfl dX10_readTelling_20 ?_
    refine r_callVI (cc := 10) [] (am_X10_find (3 : Int32) (q1.2.1 88 (1 : Int32).toNatClampNeg) q1.2) rfl rfl cf_X10_find mw_X10_183 (by decide) dX10_readTelling_21 rfl (Nat.le_of_ble_eq_true rfl) ⟨rfl, rfl⟩ (fun q2 => ?_)
    refine r_istore_n_x dX10_readTelling_24 rfl (by decide) rfl ?_
    refine r_iload_n_0 dX10_readTelling_25 rfl ?_
    refine r_if_ge (tgt := 35) dX10_readTelling_26 (by decide) ?_ ?_
    · refine r_aload_n_1 dX10_readTelling_35 rfl ?_
      refine r_geti (cc := 10) 23 rfl rfl uX10 (by decide) rfl fw_X10_251 dX10_readTelling_36 ?_
      refine r_bipush dX10_readTelling_39 kb_40 ?_
      refine r_icmp_ne (tgt := 50) dX10_readTelling_41 (by decide) ?_ ?_
      · refine r_aload_n_1 dX10_readTelling_50 rfl ?_
        refine r_callVU (cc := 10) [] (am_X10_skip q2.2) rfl rfl cf_X10_skip mw_X10_169 (by decide) dX10_readTelling_51 rfl (Nat.le_of_ble_eq_true rfl) ⟨rfl, rfl⟩ (fun q3 => ?_)
        refine r_aload_n_1 dX10_readTelling_54 rfl ?_
        refine r_iconst dX10_readTelling_55 ki_0 ?_
        refine r_bipush dX10_readTelling_56 kb_29 ?_
        refine r_callVI (cc := 10) [] (am_X10_takes (0 : Int32) (29 : Int32) q3.2) rfl rfl cf_X10_takes mw_X10_209 (by decide) dX10_readTelling_58 rfl (Nat.le_of_ble_eq_true rfl) ⟨rfl, rfl⟩ (fun q4 => ?_)
        refine r_if_ne (tgt := 66) dX10_readTelling_61 (by decide) ?_ ?_
        · refine r_aload_n_1 dX10_readTelling_66 rfl ?_
          refine r_getr (t := 90) (cc := 10) 8 rfl rfl uX10 (by decide) rfl fw_X10_48 rfl dX10_readTelling_67 ?_
          refine r_iconst dX10_readTelling_70 ki_3 ?_
          refine r_aload_n_1 dX10_readTelling_71 rfl ?_
          refine r_geti (cc := 10) 23 rfl rfl uX10 (by decide) rfl fw_X10_251 dX10_readTelling_72 ?_
          refine r_imul dX10_readTelling_75 ?_
          refine r_iload_n_0 dX10_readTelling_76 rfl ?_
          refine r_iastore rfl dX10_readTelling_77 ?_
          refine r_bd (fun d5 => ?_)
          refine r_aload_n_1 dX10_readTelling_78 rfl ?_
          refine r_getr (t := 90) (cc := 10) 8 rfl rfl uX10 (by decide) rfl fw_X10_48 rfl dX10_readTelling_79 ?_
          refine r_iconst dX10_readTelling_82 ki_3 ?_
          refine r_aload_n_1 dX10_readTelling_83 rfl ?_
          refine r_geti (cc := 10) 23 rfl rfl uX10 (by decide) rfl fw_X10_251 dX10_readTelling_84 ?_
          refine r_imul dX10_readTelling_87 ?_
          refine r_iconst dX10_readTelling_88 ki_1 ?_
          refine r_iadd dX10_readTelling_89 ?_
          refine r_aload_n_1 dX10_readTelling_90 rfl ?_
          refine r_geti (cc := 10) 19 rfl rfl uX10 (by decide) rfl fw_X10_176 dX10_readTelling_91 ?_
          refine r_iastore rfl dX10_readTelling_94 ?_
          refine r_bd (fun d6 => ?_)
          refine r_iconst dX10_readTelling_95 ki_0 ?_
          refine r_istore_n_x dX10_readTelling_96 rfl (by decide) rfl ?_
          refine r_sub [2, 0] (lv' := [(0, .ref 86), (2, .int (0 : Int32))]) rfl ?_
          exact w_X10_readTelling_97 FU (0 : Int32) d6
        · refine r_iconst dX10_readTelling_64 ki_0 ?_
          exact r_zreturn dX10_readTelling_65 rfl rfl
      · refine r_aload_n_1 dX10_readTelling_44 rfl ?_
        refine r_iconst dX10_readTelling_45 ki_4 ?_
        refine r_callVI (cc := 10) [] (am_X10_bad (4 : Int32) q2.2) rfl rfl cf_X10_bad mw_X10_166 (by decide) dX10_readTelling_46 rfl (Nat.le_of_ble_eq_true rfl) ⟨rfl, rfl⟩ (fun q16 => ?_)
        exact r_breturn dX10_readTelling_49 rfl
    · refine r_aload_n_1 dX10_readTelling_29 rfl ?_
      refine r_iconst dX10_readTelling_30 ki_3 ?_
      refine r_callVI (cc := 10) [] (am_X10_bad (3 : Int32) q2.2) rfl rfl cf_X10_bad mw_X10_166 (by decide) dX10_readTelling_31 rfl (Nat.le_of_ble_eq_true rfl) ⟨rfl, rfl⟩ (fun q17 => ?_)
      exact r_breturn dX10_readTelling_34 rfl
  · refine r_aload_n_0 dX10_readTelling_7 rfl ?_
    refine r_iconst dX10_readTelling_8 ki_1 ?_
    refine r_callVI (cc := 10) [] (am_X10_bad (1 : Int32) q1.2) rfl rfl cf_X10_bad mw_X10_166 (by decide) dX10_readTelling_9 rfl (Nat.le_of_ble_eq_true rfl) ⟨rfl, rfl⟩ (fun q18 => ?_)
    exact r_breturn dX10_readTelling_12 rfl
theorem cf_X10_readTelling : CFv mi_X10_readTelling 0 := ⟨iw_X10_readTelling, vw_X10_readTelling, nw_X10, cw_X10_readTelling, by unfold plainF; decide +kernel⟩
abbrev si_X10_restore : SI := (cX10_restore, RX10, 3, (some .boolean), 1, 26)
def f_X10_restore_60B (k60 : Int32 → Int32 → DD → Option (Int32 × DD)) (v1 : Int32) (v2 : Int32) (d : DD) : Option (Int32 × DD) :=
  if v2 < (7 : Int32) then
  if ixb (((7 : Int32) * v1) + v2) (ln 108) then
    if ixb v2 (ln 92) then
      bd (u2 d 92 v2.toNatClampNeg (d.2 108 (((7 : Int32) * v1) + v2).toNatClampNeg)) fun d4 =>
      k60 v1 (v2 + (1 : Int32)) d4
      else none
    else none
  else
  (f_X10_settle d).bind fun q3 =>
    some ((1 : Int32), q3.2)
def f_X10_restore_60 : Nat → Int32 → Int32 → DD → Option (Int32 × DD)
  | 0, _, _, _ => none
  | n + 1, v1, v2, d => f_X10_restore_60B (f_X10_restore_60 n) v1 v2 d
set_option maxRecDepth 100000 in
set_option maxHeartbeats 4000000 in
theorem w_X10_restore_60B {E : XE} (k60 : Int32 → Int32 → DD → Option (Int32 × DD)) (hk60 : ∀ (v1 : Int32) (v2 : Int32) (d : DD), AW E si_X10_restore 0 0 (QM E wrI) (k60 v1 v2 d) 60 [(0, .ref 86), (1, .int v1), (2, .int v2)] [] d) (v1 : Int32) (v2 : Int32) (d : DD) : AW E si_X10_restore 0 0 (QM E wrI) (f_X10_restore_60B k60 v1 v2 d) 60 [(0, .ref 86), (1, .int v1), (2, .int v2)] [] d := by
  unfold f_X10_restore_60B
  refine r_iload_n_2 dX10_restore_60 rfl ?_
  refine r_bipush dX10_restore_61 kb_7 ?_
  refine r_icmp_ge (tgt := 89) dX10_restore_63 (by decide) ?_ ?_
  · refine r_aload_n_0 dX10_restore_89 rfl ?_
    refine r_callVU (cc := 10) [] (am_X10_settle d) rfl rfl cf_X10_settle mw_X10_231 (by decide) dX10_restore_90 rfl (Nat.le_of_ble_eq_true rfl) ⟨rfl, rfl⟩ (fun q3 => ?_)
    refine r_iconst dX10_restore_93 ki_1 ?_
    exact r_zreturn dX10_restore_94 rfl rfl
  · refine r_aload_n_0 dX10_restore_66 rfl ?_
    refine r_getr (t := 92) (cc := 10) 10 rfl rfl uX10 (by decide) rfl fw_X10_54 rfl dX10_restore_67 ?_
    refine r_iload_n_2 dX10_restore_70 rfl ?_
    refine r_aload_n_0 dX10_restore_71 rfl ?_
    refine r_getr (t := 108) (cc := 10) 39 rfl rfl uX10 (by decide) rfl fw_X10_104 rfl dX10_restore_72 ?_
    refine r_bipush dX10_restore_75 kb_7 ?_
    refine r_iload_n_1 dX10_restore_77 rfl ?_
    refine r_imul dX10_restore_78 ?_
    refine r_iload_n_2 dX10_restore_79 rfl ?_
    refine r_iadd dX10_restore_80 ?_
    refine r_laload rfl dX10_restore_81 ?_
    refine r_lastore rfl dX10_restore_82 ?_
    refine r_bd (fun d4 => ?_)
    refine r_iinc_2 dX10_restore_83 ki_1 (by decide) rfl ?_
    refine r_goto (tgt := 60) dX10_restore_86 (by decide) ?_
    exact hk60 v1 (v2 + (1 : Int32)) d4
theorem w_X10_restore_60 {E : XE} (n : Nat) : ∀ (v1 : Int32) (v2 : Int32) (d : DD), AW E si_X10_restore 0 0 (QM E wrI) (f_X10_restore_60 n v1 v2 d) 60 [(0, .ref 86), (1, .int v1), (2, .int v2)] [] d := by
  induction n with
  | zero => intros; exact r_none
  | succ n ih => intro v1 v2 d; exact w_X10_restore_60B (f_X10_restore_60 n) ih v1 v2 d
def f_X10_restore_27B (k27 : Int32 → Int32 → DD → Option (Int32 × DD)) (v1 : Int32) (v2 : Int32) (d : DD) : Option (Int32 × DD) :=
  if v2 < (290 : Int32) then
  if ixb (((290 : Int32) * v1) + v2) (ln 107) then
    if ixb v2 (ln 88) then
      bd (u1 d 88 v2.toNatClampNeg (d.1 107 (((290 : Int32) * v1) + v2).toNatClampNeg)) fun d5 =>
      k27 v1 (v2 + (1 : Int32)) d5
      else none
    else none
  else
  f_X10_restore_60 FU v1 (0 : Int32) d
def f_X10_restore_27 : Nat → Int32 → Int32 → DD → Option (Int32 × DD)
  | 0, _, _, _ => none
  | n + 1, v1, v2, d => f_X10_restore_27B (f_X10_restore_27 n) v1 v2 d
set_option maxRecDepth 100000 in
set_option maxHeartbeats 4000000 in
theorem w_X10_restore_27B {E : XE} (k27 : Int32 → Int32 → DD → Option (Int32 × DD)) (hk27 : ∀ (v1 : Int32) (v2 : Int32) (d : DD), AW E si_X10_restore 0 0 (QM E wrI) (k27 v1 v2 d) 27 [(0, .ref 86), (1, .int v1), (2, .int v2)] [] d) (v1 : Int32) (v2 : Int32) (d : DD) : AW E si_X10_restore 0 0 (QM E wrI) (f_X10_restore_27B k27 v1 v2 d) 27 [(0, .ref 86), (1, .int v1), (2, .int v2)] [] d := by
  unfold f_X10_restore_27B
  refine r_iload_n_2 dX10_restore_27 rfl ?_
  refine r_sipush dX10_restore_28 ks_290 ?_
  refine r_icmp_ge (tgt := 58) dX10_restore_31 (by decide) ?_ ?_
  · refine r_iconst dX10_restore_58 ki_0 ?_
    refine r_istore_n_2 dX10_restore_59 rfl (by decide) rfl ?_
    exact w_X10_restore_60 FU v1 (0 : Int32) d
  · refine r_aload_n_0 dX10_restore_34 rfl ?_
    refine r_getr (t := 88) (cc := 10) 6 rfl rfl uX10 (by decide) rfl fw_X10_41 rfl dX10_restore_35 ?_
    refine r_iload_n_2 dX10_restore_38 rfl ?_
    refine r_aload_n_0 dX10_restore_39 rfl ?_
    refine r_getr (t := 107) (cc := 10) 38 rfl rfl uX10 (by decide) rfl fw_X10_101 rfl dX10_restore_40 ?_
    refine r_sipush dX10_restore_43 ks_290 ?_
    refine r_iload_n_1 dX10_restore_46 rfl ?_
    refine r_imul dX10_restore_47 ?_
    refine r_iload_n_2 dX10_restore_48 rfl ?_
    refine r_iadd dX10_restore_49 ?_
    refine r_iaload rfl dX10_restore_50 ?_
    refine r_iastore rfl dX10_restore_51 ?_
    refine r_bd (fun d5 => ?_)
    refine r_iinc_2 dX10_restore_52 ki_1 (by decide) rfl ?_
    refine r_goto (tgt := 27) dX10_restore_55 (by decide) ?_
    exact hk27 v1 (v2 + (1 : Int32)) d5
theorem w_X10_restore_27 {E : XE} (n : Nat) : ∀ (v1 : Int32) (v2 : Int32) (d : DD), AW E si_X10_restore 0 0 (QM E wrI) (f_X10_restore_27 n v1 v2 d) 27 [(0, .ref 86), (1, .int v1), (2, .int v2)] [] d := by
  induction n with
  | zero => intros; exact r_none
  | succ n ih => intro v1 v2 d; exact w_X10_restore_27B (f_X10_restore_27 n) ih v1 v2 d
def f_X10_restore (p1 : Int32) (d : DD) : Option (Int32 × DD) :=
  bd (u1 d 86 0 (0 : Int32)) fun d1 =>
  (f_X10_isIn p1 (0 : Int32) (1 : Int32) d1).bind fun q2 =>
  if q2.1 = 0 then
  some ((0 : Int32), q2.2)
  else
  if ixb p1 (ln 109) then
    if (q2.2.1 109 p1.toNatClampNeg) = 0 then
      some ((0 : Int32), q2.2)
      else
      f_X10_restore_27 FU p1 (0 : Int32) q2.2
    else none
set_option maxRecDepth 100000 in
set_option maxHeartbeats 4000000 in
theorem am_X10_restore (p1 : Int32) (d : DD) : AM wrI mi_X10_restore 1 26 [.ref 86, .int p1] d (f_X10_restore p1 d) := by
  refine AM_intro (si := si_X10_restore) (lv := [(0, .ref 86), (1, .int p1)]) rfl (by decide +kernel) rfl (Nat.le_of_ble_eq_true rfl) (fun E => ?_)
  unfold f_X10_restore
  refine r_aload_n_0 dX10_restore_0 rfl ?_
  refine r_iconst dX10_restore_1 ki_0 ?_
  refine r_puti (cc := 10) 0 tyX10 tyX10_ok nmX10 rfl (by decide +kernel) rfl rfl uX10 (by decide) rfl fw_X10_1 dX10_restore_2 ?_
  refine r_bd (fun d1 => ?_)
  refine r_iload_n_1 dX10_restore_5 rfl ?_
  refine r_iconst dX10_restore_6 ki_0 ?_
  refine r_iconst dX10_restore_7 ki_1 ?_
  refine r_callSI [] (am_X10_isIn p1 (0 : Int32) (1 : Int32) d1) cf_X10_isIn mw_X10_172 (by decide) dX10_restore_8 rfl (Nat.le_of_ble_eq_true rfl) ⟨rfl, rfl⟩ (fun q2 => ?_)
  refine r_if_eq (tgt := 23) dX10_restore_11 (by decide) ?_ ?_
  · refine r_iconst dX10_restore_23 ki_0 ?_
    exact r_zreturn dX10_restore_24 rfl rfl
  · refine r_aload_n_0 dX10_restore_14 rfl ?_
    refine r_getr (t := 109) (cc := 10) 40 rfl rfl uX10 (by decide) rfl fw_X10_107 rfl dX10_restore_15 ?_
    refine r_iload_n_1 dX10_restore_18 rfl ?_
    refine r_zaload rfl dX10_restore_19 ?_
    refine r_if_ne (tgt := 25) dX10_restore_20 (by decide) ?_ ?_
    · refine r_iconst dX10_restore_25 ki_0 ?_
      refine r_istore_n_x dX10_restore_26 rfl (by decide) rfl ?_
      refine r_sub [1, 2, 0] (lv' := [(0, .ref 86), (1, .int p1), (2, .int (0 : Int32))]) rfl ?_
      exact w_X10_restore_27 FU p1 (0 : Int32) q2.2
    · refine r_iconst dX10_restore_23 ki_0 ?_
      exact r_zreturn dX10_restore_24 rfl rfl
theorem cf_X10_restore : CFv mi_X10_restore 1 := ⟨iw_X10_restore, vw_X10_restore, nw_X10, cw_X10_restore, by unfold plainF; decide +kernel⟩
