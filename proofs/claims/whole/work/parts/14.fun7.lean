abbrev si_X10_rules : SI := (cX10_rules, RX10, 2, (some .int), 4, 90)
def f_X10_rules_92B (k92 : Int32 → DD → Option (Int32 × DD)) (v1 : Int32) (d : DD) : Option (Int32 × DD) :=
  if v1 < (30 : Int32) then
  if ixb v1 (ln 91) then
    if ixb ((19 : Int32) + v1) (ln 88) then
      bd (u1 d 88 ((19 : Int32) + v1).toNatClampNeg (d.1 91 v1.toNatClampNeg)) fun d6 =>
      k92 (v1 + (1 : Int32)) d6
      else none
    else none
  else
  some (d.1 86 20, d)
def f_X10_rules_92 : Nat → Int32 → DD → Option (Int32 × DD)
  | 0, _, _ => none
  | n + 1, v1, d => f_X10_rules_92B (f_X10_rules_92 n) v1 d
set_option maxRecDepth 100000 in
set_option maxHeartbeats 4000000 in
theorem w_X10_rules_92B {E : XE} (k92 : Int32 → DD → Option (Int32 × DD)) (hk92 : ∀ (v1 : Int32) (d : DD), AW E si_X10_rules 0 0 (QM E wrI) (k92 v1 d) 92 [(0, .ref 86), (1, .int v1)] [] d) (v1 : Int32) (d : DD) : AW E si_X10_rules 0 0 (QM E wrI) (f_X10_rules_92B k92 v1 d) 92 [(0, .ref 86), (1, .int v1)] [] d := by
  unfold f_X10_rules_92B
  refine r_iload_n_1 dX10_rules_92 rfl ?_
  refine r_bipush dX10_rules_93 kb_30 ?_
  refine r_icmp_ge (tgt := 119) dX10_rules_95 (by decide) ?_ ?_
  · refine r_aload_n_0 dX10_rules_119 rfl ?_
    refine r_geti (cc := 10) 20 rfl rfl uX10 (by decide) rfl fw_X10_222 dX10_rules_120 ?_
    exact r_ireturn dX10_rules_123 rfl
  · refine r_aload_n_0 dX10_rules_98 rfl ?_
    refine r_getr (t := 88) (cc := 10) 6 rfl rfl uX10 (by decide) rfl fw_X10_41 rfl dX10_rules_99 ?_
    refine r_bipush dX10_rules_102 kb_19 ?_
    refine r_iload_n_1 dX10_rules_104 rfl ?_
    refine r_iadd dX10_rules_105 ?_
    refine r_aload_n_0 dX10_rules_106 rfl ?_
    refine r_getr (t := 91) (cc := 10) 9 rfl rfl uX10 (by decide) rfl fw_X10_51 rfl dX10_rules_107 ?_
    refine r_iload_n_1 dX10_rules_110 rfl ?_
    refine r_iaload rfl dX10_rules_111 ?_
    refine r_iastore rfl dX10_rules_112 ?_
    refine r_bd (fun d6 => ?_)
    refine r_iinc_1 dX10_rules_113 ki_1 (by decide) rfl ?_
    refine r_goto (tgt := 92) dX10_rules_116 (by decide) ?_
    exact hk92 (v1 + (1 : Int32)) d6
theorem w_X10_rules_92 {E : XE} (n : Nat) : ∀ (v1 : Int32) (d : DD), AW E si_X10_rules 0 0 (QM E wrI) (f_X10_rules_92 n v1 d) 92 [(0, .ref 86), (1, .int v1)] [] d := by
  induction n with
  | zero => intros; exact r_none
  | succ n ih => intro v1 d; exact w_X10_rules_92B (f_X10_rules_92 n) ih v1 d
def f_X10_rules_47B (k47 : DD → Option (Int32 × DD)) (d : DD) : Option (Int32 × DD) :=
  if (d.1 86 12) = 0 then
  f_X10_rules_92 FU (0 : Int32) d
  else
  (f_X10_readRule d).bind fun q7 =>
    if q7.1 = 0 then
    some ((-1 : Int32) - (q7.2.1 86 17), q7.2)
    else
    (f_X10_sign (59 : Int32) q7.2).bind fun q8 =>
      if q8.1 = 0 then
      some ((-1 : Int32) - (q8.2.1 86 17), q8.2)
      else
      bd (u1 q8.2 86 20 ((q8.2.1 86 20) + (1 : Int32))) fun d9 =>
        k47 d9
def f_X10_rules_47 : Nat → DD → Option (Int32 × DD)
  | 0, _ => none
  | n + 1, d => f_X10_rules_47B (f_X10_rules_47 n) d
set_option maxRecDepth 100000 in
set_option maxHeartbeats 4000000 in
theorem w_X10_rules_47B {E : XE} (k47 : DD → Option (Int32 × DD)) (hk47 : ∀ (d : DD), AW E si_X10_rules 0 0 (QM E wrI) (k47 d) 47 [(0, .ref 86)] [] d) (d : DD) : AW E si_X10_rules 0 0 (QM E wrI) (f_X10_rules_47B k47 d) 47 [(0, .ref 86)] [] d := by
  unfold f_X10_rules_47B
  refine r_aload_n_0 dX10_rules_47 rfl ?_
  refine r_geti (cc := 10) 12 rfl rfl uX10 (by decide) rfl fw_X10_140 dX10_rules_48 ?_
  refine r_if_eq (tgt := 90) dX10_rules_51 (by decide) ?_ ?_
  · refine r_iconst dX10_rules_90 ki_0 ?_
    refine r_istore_n_x dX10_rules_91 rfl (by decide) rfl ?_
    refine r_sub [1, 0] (lv' := [(0, .ref 86), (1, .int (0 : Int32))]) rfl ?_
    exact w_X10_rules_92 FU (0 : Int32) d
  · refine r_aload_n_0 dX10_rules_54 rfl ?_
    refine r_callVI (cc := 10) [] (am_X10_readRule d) rfl rfl cf_X10_readRule mw_X10_339 (by decide) dX10_rules_55 rfl (Nat.le_of_ble_eq_true rfl) ⟨rfl, rfl⟩ (fun q7 => ?_)
    refine r_if_eq (tgt := 70) dX10_rules_58 (by decide) ?_ ?_
    · refine r_iconst dX10_rules_70 ki_m1 ?_
      refine r_aload_n_0 dX10_rules_71 rfl ?_
      refine r_geti (cc := 10) 17 rfl rfl uX10 (by decide) rfl fw_X10_160 dX10_rules_72 ?_
      refine r_isub dX10_rules_75 ?_
      exact r_ireturn dX10_rules_76 rfl
    · refine r_aload_n_0 dX10_rules_61 rfl ?_
      refine r_bipush dX10_rules_62 kb_59 ?_
      refine r_callVI (cc := 10) [] (am_X10_sign (59 : Int32) q7.2) rfl rfl cf_X10_sign mw_X10_228 (by decide) dX10_rules_64 rfl (Nat.le_of_ble_eq_true rfl) ⟨rfl, rfl⟩ (fun q8 => ?_)
      refine r_if_ne (tgt := 77) dX10_rules_67 (by decide) ?_ ?_
      · refine r_aload_n_0 dX10_rules_77 rfl ?_
        refine r_dupa dX10_rules_78 ?_
        refine r_geti (cc := 10) 20 rfl rfl uX10 (by decide) rfl fw_X10_222 dX10_rules_79 ?_
        refine r_iconst dX10_rules_82 ki_1 ?_
        refine r_iadd dX10_rules_83 ?_
        refine r_puti (cc := 10) 20 tyX10 tyX10_ok nmX10 rfl (by decide +kernel) rfl rfl uX10 (by decide) rfl fw_X10_222 dX10_rules_84 ?_
        refine r_bd (fun d9 => ?_)
        refine r_goto (tgt := 47) dX10_rules_87 (by decide) ?_
        exact hk47 d9
      · refine r_iconst dX10_rules_70 ki_m1 ?_
        refine r_aload_n_0 dX10_rules_71 rfl ?_
        refine r_geti (cc := 10) 17 rfl rfl uX10 (by decide) rfl fw_X10_160 dX10_rules_72 ?_
        refine r_isub dX10_rules_75 ?_
        exact r_ireturn dX10_rules_76 rfl
theorem w_X10_rules_47 {E : XE} (n : Nat) : ∀ (d : DD), AW E si_X10_rules 0 0 (QM E wrI) (f_X10_rules_47 n d) 47 [(0, .ref 86)] [] d := by
  induction n with
  | zero => intros; exact r_none
  | succ n ih => intro d; exact w_X10_rules_47B (f_X10_rules_47 n) ih d
def f_X10_rules_24B (k24 : Int32 → DD → Option (Int32 × DD)) (v1 : Int32) (d : DD) : Option (Int32 × DD) :=
  if v1 < (30 : Int32) then
  if ixb v1 (ln 91) then
    bd (u1 d 91 v1.toNatClampNeg (0 : Int32)) fun d10 =>
    k24 (v1 + (1 : Int32)) d10
    else none
  else
  (f_X10_skip d).bind fun q5 =>
    f_X10_rules_47 FU q5.2
def f_X10_rules_24 : Nat → Int32 → DD → Option (Int32 × DD)
  | 0, _, _ => none
  | n + 1, v1, d => f_X10_rules_24B (f_X10_rules_24 n) v1 d
set_option maxRecDepth 100000 in
set_option maxHeartbeats 4000000 in
theorem w_X10_rules_24B {E : XE} (k24 : Int32 → DD → Option (Int32 × DD)) (hk24 : ∀ (v1 : Int32) (d : DD), AW E si_X10_rules 0 0 (QM E wrI) (k24 v1 d) 24 [(0, .ref 86), (1, .int v1)] [] d) (v1 : Int32) (d : DD) : AW E si_X10_rules 0 0 (QM E wrI) (f_X10_rules_24B k24 v1 d) 24 [(0, .ref 86), (1, .int v1)] [] d := by
  unfold f_X10_rules_24B
  refine r_iload_n_1 dX10_rules_24 rfl ?_
  refine r_bipush dX10_rules_25 kb_30 ?_
  refine r_icmp_ge (tgt := 43) dX10_rules_27 (by decide) ?_ ?_
  · refine r_aload_n_0 dX10_rules_43 rfl ?_
    refine r_callVU (cc := 10) [] (am_X10_skip d) rfl rfl cf_X10_skip mw_X10_169 (by decide) dX10_rules_44 rfl (Nat.le_of_ble_eq_true rfl) ⟨rfl, rfl⟩ (fun q5 => ?_)
    refine r_sub [0] (lv' := [(0, .ref 86)]) rfl ?_
    exact w_X10_rules_47 FU q5.2
  · refine r_aload_n_0 dX10_rules_30 rfl ?_
    refine r_getr (t := 91) (cc := 10) 9 rfl rfl uX10 (by decide) rfl fw_X10_51 rfl dX10_rules_31 ?_
    refine r_iload_n_1 dX10_rules_34 rfl ?_
    refine r_iconst dX10_rules_35 ki_0 ?_
    refine r_iastore rfl dX10_rules_36 ?_
    refine r_bd (fun d10 => ?_)
    refine r_iinc_1 dX10_rules_37 ki_1 (by decide) rfl ?_
    refine r_goto (tgt := 24) dX10_rules_40 (by decide) ?_
    exact hk24 (v1 + (1 : Int32)) d10
theorem w_X10_rules_24 {E : XE} (n : Nat) : ∀ (v1 : Int32) (d : DD), AW E si_X10_rules 0 0 (QM E wrI) (f_X10_rules_24 n v1 d) 24 [(0, .ref 86), (1, .int v1)] [] d := by
  induction n with
  | zero => intros; exact r_none
  | succ n ih => intro v1 d; exact w_X10_rules_24B (f_X10_rules_24 n) ih v1 d
def f_X10_rules (d : DD) : Option (Int32 × DD) :=
  bd (u1 d 86 0 (0 : Int32)) fun d1 =>
  (f_X10_taken (300 : Int32) d1).bind fun q2 =>
  bd (u1 q2.2 86 16 (0 : Int32)) fun d3 =>
  bd (u1 d3 86 20 (0 : Int32)) fun d4 =>
  f_X10_rules_24 FU (0 : Int32) d4
set_option maxRecDepth 100000 in
set_option maxHeartbeats 4000000 in
theorem am_X10_rules (d : DD) : AM wrI mi_X10_rules 4 90 [.ref 86] d (f_X10_rules d) := by
  refine AM_intro (si := si_X10_rules) (lv := [(0, .ref 86)]) rfl (by decide +kernel) rfl (Nat.le_of_ble_eq_true rfl) (fun E => ?_)
  unfold f_X10_rules
  refine r_aload_n_0 dX10_rules_0 rfl ?_
  refine r_iconst dX10_rules_1 ki_0 ?_
  refine r_puti (cc := 10) 0 tyX10 tyX10_ok nmX10 rfl (by decide +kernel) rfl rfl uX10 (by decide) rfl fw_X10_1 dX10_rules_2 ?_
  refine r_bd (fun d1 => ?_)
  refine r_aload_n_0 dX10_rules_5 rfl ?_
  refine r_sipush dX10_rules_6 ks_300 ?_
  refine r_callVU (cc := 10) [] (am_X10_taken (300 : Int32) d1) rfl rfl cf_X10_taken mw_X10_219 (by decide) dX10_rules_9 rfl (Nat.le_of_ble_eq_true rfl) ⟨rfl, rfl⟩ (fun q2 => ?_)
  refine r_aload_n_0 dX10_rules_12 rfl ?_
  refine r_iconst dX10_rules_13 ki_0 ?_
  refine r_puti (cc := 10) 16 tyX10 tyX10_ok nmX10 rfl (by decide +kernel) rfl rfl uX10 (by decide) rfl fw_X10_157 dX10_rules_14 ?_
  refine r_bd (fun d3 => ?_)
  refine r_aload_n_0 dX10_rules_17 rfl ?_
  refine r_iconst dX10_rules_18 ki_0 ?_
  refine r_puti (cc := 10) 20 tyX10 tyX10_ok nmX10 rfl (by decide +kernel) rfl rfl uX10 (by decide) rfl fw_X10_222 dX10_rules_19 ?_
  refine r_bd (fun d4 => ?_)
  refine r_iconst dX10_rules_22 ki_0 ?_
  refine r_istore_n_x dX10_rules_23 rfl (by decide) rfl ?_
  refine r_sub [1, 0] (lv' := [(0, .ref 86), (1, .int (0 : Int32))]) rfl ?_
  exact w_X10_rules_24 FU (0 : Int32) d4
theorem cf_X10_rules : CFv mi_X10_rules 0 := ⟨iw_X10_rules, vw_X10_rules, nw_X10, cw_X10_rules, by unfold plainF; decide +kernel⟩
abbrev si_X10_said : SI := (cX10_said, RX10, 2, (some .int), 1, 22)
def f_X10_said (p1 : Int32) (d : DD) : Option (Int32 × DD) :=
  bd (u1 d 86 0 (0 : Int32)) fun d1 =>
  (f_X10_isIn p1 (0 : Int32) ((d1.1 86 35) - (1 : Int32)) d1).bind fun q2 =>
  if q2.1 = 0 then
  some ((-1 : Int32), q2.2)
  else
  if ixb p1 (ln 105) then
    some (q2.2.1 105 p1.toNatClampNeg, q2.2)
    else none
set_option maxRecDepth 100000 in
set_option maxHeartbeats 4000000 in
theorem am_X10_said (p1 : Int32) (d : DD) : AM wrI mi_X10_said 1 22 [.ref 86, .int p1] d (f_X10_said p1 d) := by
  refine AM_intro (si := si_X10_said) (lv := [(0, .ref 86), (1, .int p1)]) rfl (by decide +kernel) rfl (Nat.le_of_ble_eq_true rfl) (fun E => ?_)
  unfold f_X10_said
  refine r_aload_n_0 dX10_said_0 rfl ?_
  refine r_iconst dX10_said_1 ki_0 ?_
  refine r_puti (cc := 10) 0 tyX10 tyX10_ok nmX10 rfl (by decide +kernel) rfl rfl uX10 (by decide) rfl fw_X10_1 dX10_said_2 ?_
  refine r_bd (fun d1 => ?_)
  refine r_iload_n_1 dX10_said_5 rfl ?_
  refine r_iconst dX10_said_6 ki_0 ?_
  refine r_aload_n_0 dX10_said_7 rfl ?_
  refine r_geti (cc := 10) 35 rfl rfl uX10 (by decide) rfl fw_X10_332 dX10_said_8 ?_
  refine r_iconst dX10_said_11 ki_1 ?_
  refine r_isub dX10_said_12 ?_
  refine r_callSI [] (am_X10_isIn p1 (0 : Int32) ((d1.1 86 35) - (1 : Int32)) d1) cf_X10_isIn mw_X10_172 (by decide) dX10_said_13 rfl (Nat.le_of_ble_eq_true rfl) ⟨rfl, rfl⟩ (fun q2 => ?_)
  refine r_if_eq (tgt := 28) dX10_said_16 (by decide) ?_ ?_
  · refine r_iconst dX10_said_28 ki_m1 ?_
    exact r_ireturn dX10_said_29 rfl
  · refine r_aload_n_0 dX10_said_19 rfl ?_
    refine r_getr (t := 105) (cc := 10) 33 rfl rfl uX10 (by decide) rfl fw_X10_95 rfl dX10_said_20 ?_
    refine r_iload_n_1 dX10_said_23 rfl ?_
    refine r_iaload rfl dX10_said_24 ?_
    refine r_goto (tgt := 29) dX10_said_25 (by decide) ?_
    exact r_ireturn dX10_said_29 rfl
theorem cf_X10_said : CFv mi_X10_said 1 := ⟨iw_X10_said, vw_X10_said, nw_X10, cw_X10_said, by unfold plainF; decide +kernel⟩
abbrev si_X10_sure : SI := (cX10_sure, RX10, 5, (some .int), 5, 129)
def f_X10_sure (p1 : Int32) (p2 : Int32) (d : DD) : Option (Int32 × DD) :=
  bd (u1 d 86 0 (0 : Int32)) fun d1 =>
  (f_X10_isKind p1 d1).bind fun q2 =>
  if q2.1 = 0 then
  some ((-1 : Int32), q2.2)
  else
  (f_X10_isHour p2 q2.2).bind fun q3 =>
    if q3.1 = 0 then
    some ((-1 : Int32), q3.2)
    else
    if ixb (169 : Int32) (ln 88) then
      (f_X10_worldsBy (q3.2.1 88 (169 : Int32).toNatClampNeg) q3.2).bind fun q4 =>
        if q4.1 = (0 : Int64) then
        some ((-1 : Int32), q4.2)
        else
        (f_X10_sureOf p1 p2 q4.1 q4.2).bind fun q5 =>
          some (q5.1, q5.2)
      else none
set_option maxRecDepth 100000 in
set_option maxHeartbeats 4000000 in
theorem am_X10_sure (p1 : Int32) (p2 : Int32) (d : DD) : AM wrI mi_X10_sure 5 129 [.ref 86, .int p1, .int p2] d (f_X10_sure p1 p2 d) := by
  refine AM_intro (si := si_X10_sure) (lv := [(0, .ref 86), (1, .int p1), (2, .int p2)]) rfl (by decide +kernel) rfl (Nat.le_of_ble_eq_true rfl) (fun E => ?_)
  unfold f_X10_sure
  refine r_aload_n_0 dX10_sure_0 rfl ?_
  refine r_iconst dX10_sure_1 ki_0 ?_
  refine r_puti (cc := 10) 0 tyX10 tyX10_ok nmX10 rfl (by decide +kernel) rfl rfl uX10 (by decide) rfl fw_X10_1 dX10_sure_2 ?_
  refine r_bd (fun d1 => ?_)
  refine r_aload_n_0 dX10_sure_5 rfl ?_
  refine r_iload_n_1 dX10_sure_6 rfl ?_
  refine r_callVI (cc := 10) [] (am_X10_isKind p1 d1) rfl rfl cf_X10_isKind mw_X10_234 (by decide) dX10_sure_7 rfl (Nat.le_of_ble_eq_true rfl) ⟨rfl, rfl⟩ (fun q2 => ?_)
  refine r_if_eq (tgt := 20) dX10_sure_10 (by decide) ?_ ?_
  · refine r_iconst dX10_sure_20 ki_m1 ?_
    exact r_ireturn dX10_sure_21 rfl
  · refine r_iload_n_2 dX10_sure_13 rfl ?_
    refine r_callSI [] (am_X10_isHour p2 q2.2) cf_X10_isHour mw_X10_245 (by decide) dX10_sure_14 rfl (Nat.le_of_ble_eq_true rfl) ⟨rfl, rfl⟩ (fun q3 => ?_)
    refine r_if_ne (tgt := 22) dX10_sure_17 (by decide) ?_ ?_
    · refine r_aload_n_0 dX10_sure_22 rfl ?_
      refine r_aload_n_0 dX10_sure_23 rfl ?_
      refine r_getr (t := 88) (cc := 10) 6 rfl rfl uX10 (by decide) rfl fw_X10_41 rfl dX10_sure_24 ?_
      refine r_sipush dX10_sure_27 ks_169 ?_
      refine r_iaload rfl dX10_sure_30 ?_
      refine r_callVL (cc := 10) [] (am_X10_worldsBy (q3.2.1 88 (169 : Int32).toNatClampNeg) q3.2) rfl rfl cf_X10_worldsBy mw_X10_283 (by decide) dX10_sure_31 rfl (Nat.le_of_ble_eq_true rfl) ⟨rfl, rfl⟩ (fun q4 => ?_)
      refine r_lstore_n_x dX10_sure_34 rfl (by decide) rfl ?_
      refine r_lload_n_0 dX10_sure_35 rfl ?_
      refine r_lconst dX10_sure_36 kl_0 ?_
      refine r_lcmp_ne (tgt := 45) dX10_sure_37 dX10_sure_38 (by decide) ?_ ?_
      · refine r_aload_n_1 dX10_sure_45 rfl ?_
        refine r_iload_n_2 dX10_sure_46 rfl ?_
        refine r_iload_n_3 dX10_sure_47 rfl ?_
        refine r_lload_n_0 dX10_sure_48 rfl ?_
        refine r_callVI (cc := 10) [] (am_X10_sureOf p1 p2 q4.1 q4.2) rfl rfl cf_X10_sureOf mw_X10_296 (by decide) dX10_sure_49 rfl (Nat.le_of_ble_eq_true rfl) ⟨rfl, rfl⟩ (fun q5 => ?_)
        exact r_ireturn dX10_sure_52 rfl
      · refine r_iconst dX10_sure_41 ki_m1 ?_
        refine r_goto (tgt := 52) dX10_sure_42 (by decide) ?_
        exact r_ireturn dX10_sure_52 rfl
    · refine r_iconst dX10_sure_20 ki_m1 ?_
      exact r_ireturn dX10_sure_21 rfl
theorem cf_X10_sure : CFv mi_X10_sure 2 := ⟨iw_X10_sure, vw_X10_sure, nw_X10, cw_X10_sure, by unfold plainF; decide +kernel⟩
abbrev si_X10_table : SI := (cX10_table, RX10, 13, (some .int), 2, 43)
def f_X10_table_324B (k324 : Int32 → Int64 → Int32 → Int32 → DD → Option (Int32 × DD)) (v1 : Int32) (v2 : Int64) (v6 : Int32) (v7 : Int32) (d : DD) : Option (Int32 × DD) :=
  if v7 < (d.1 86 3) then
  if ixb (1 : Int32) (ln 106) then
    if ixb v7 (ln 104) then
      (f_X10_truly v1 d).bind fun q12 =>
        (f_X10_alike v1 (d.1 104 v7.toNatClampNeg) v2 q12.1 q12.2).bind fun q13 =>
        if q13.1 = (1 : Int32) then
        if ixb v7 (ln 104) then
          if ixb (1 : Int32) (ln 106) then
            bd (u1 q13.2 106 (1 : Int32).toNatClampNeg ((d.1 106 (1 : Int32).toNatClampNeg) ||| ((1 : Int32) <<< ((q13.2.1 104 v7.toNatClampNeg) &&& 31)))) fun d15 =>
            k324 v1 v2 v6 (v7 + (1 : Int32)) d15
            else none
          else none
        else
        if ixb (1 : Int32) (ln 106) then
          bd (u1 q13.2 106 (1 : Int32).toNatClampNeg ((d.1 106 (1 : Int32).toNatClampNeg) ||| (0 : Int32))) fun d14 =>
          k324 v1 v2 v6 (v7 + (1 : Int32)) d14
          else none
      else none
    else none
  else
  bd (u1 d 86 36 (1 : Int32)) fun d11 =>
    some (v6, d11)
def f_X10_table_324 : Nat → Int32 → Int64 → Int32 → Int32 → DD → Option (Int32 × DD)
  | 0, _, _, _, _, _ => none
  | n + 1, v1, v2, v6, v7, d => f_X10_table_324B (f_X10_table_324 n) v1 v2 v6 v7 d
set_option maxRecDepth 100000 in
set_option maxHeartbeats 4000000 in
theorem w_X10_table_324B {E : XE} (k324 : Int32 → Int64 → Int32 → Int32 → DD → Option (Int32 × DD)) (hk324 : ∀ (v1 : Int32) (v2 : Int64) (v6 : Int32) (v7 : Int32) (d : DD), AW E si_X10_table 0 0 (QM E wrI) (k324 v1 v2 v6 v7 d) 324 [(0, .ref 86), (1, .int v1), (2, .long v2), (6, .int v6), (7, .int v7)] [] d) (v1 : Int32) (v2 : Int64) (v6 : Int32) (v7 : Int32) (d : DD) : AW E si_X10_table 0 0 (QM E wrI) (f_X10_table_324B k324 v1 v2 v6 v7 d) 324 [(0, .ref 86), (1, .int v1), (2, .long v2), (6, .int v6), (7, .int v7)] [] d := by
  unfold f_X10_table_324B
  refine r_iload_w_4 dX10_table_324 ?_
  refine r_aload_n_0 dX10_table_326 rfl ?_
  refine r_geti (cc := 10) 3 rfl rfl uX10 (by decide) rfl fw_X10_18 dX10_table_327 ?_
  refine r_icmp_ge (tgt := 383) dX10_table_330 (by decide) ?_ ?_
  · refine r_aload_n_0 dX10_table_383 rfl ?_
    refine r_iconst dX10_table_384 ki_1 ?_
    refine r_putz (cc := 10) 36 tyX10 tyX10_ok nmX10 rfl (by decide +kernel) rfl rfl rfl rfl uX10 (by decide) rfl fw_X10_335 dX10_table_385 ?_
    refine r_bd (fun d11 => ?_)
    refine r_iload_w_3 dX10_table_388 ?_
    exact r_ireturn dX10_table_390 rfl
  · refine r_aload_n_0 dX10_table_333 rfl ?_
    refine r_getr (t := 106) (cc := 10) 34 rfl rfl uX10 (by decide) rfl fw_X10_98 rfl dX10_table_334 ?_
    refine r_iconst dX10_table_337 ki_1 ?_
    refine r_dup2ia dX10_table_338 ?_
    refine r_iaload rfl dX10_table_339 ?_
    refine r_aload_n_0 dX10_table_340 rfl ?_
    refine r_iload_n_1 dX10_table_341 rfl ?_
    refine r_aload_n_0 dX10_table_342 rfl ?_
    refine r_getr (t := 104) (cc := 10) 32 rfl rfl uX10 (by decide) rfl fw_X10_92 rfl dX10_table_343 ?_
    refine r_iload_w_4 dX10_table_346 ?_
    refine r_iaload rfl dX10_table_348 ?_
    refine r_lload_n_2 dX10_table_349 rfl ?_
    refine r_aload_n_0 dX10_table_350 rfl ?_
    refine r_iload_n_1 dX10_table_351 rfl ?_
    refine r_callVI (cc := 10) [.long v2, .int (d.1 104 v7.toNatClampNeg), .int v1, .ref 86, .int (d.1 106 (1 : Int32).toNatClampNeg), .int (1 : Int32), .ref 106] (am_X10_truly v1 d) rfl rfl cf_X10_truly mw_X10_241 (by decide) dX10_table_352 rfl (Nat.le_of_ble_eq_true rfl) ⟨rfl, rfl⟩ (fun q12 => ?_)
    refine r_callVI (cc := 10) [.int (d.1 106 (1 : Int32).toNatClampNeg), .int (1 : Int32), .ref 106] (am_X10_alike v1 (d.1 104 v7.toNatClampNeg) v2 q12.1 q12.2) rfl rfl cf_X10_alike mw_X10_328 (by decide) dX10_table_355 rfl (Nat.le_of_ble_eq_true rfl) ⟨rfl, rfl⟩ (fun q13 => ?_)
    refine r_iconst dX10_table_358 ki_1 ?_
    refine r_icmp_ne (tgt := 374) dX10_table_359 (by decide) ?_ ?_
    · refine r_iconst dX10_table_374 ki_0 ?_
      refine r_ior dX10_table_375 ?_
      refine r_iastore rfl dX10_table_376 ?_
      refine r_bd (fun d14 => ?_)
      refine r_iinc_4 dX10_table_377 ki_1 (by decide) rfl ?_
      refine r_goto (tgt := 324) dX10_table_380 (by decide) ?_
      exact hk324 v1 v2 v6 (v7 + (1 : Int32)) d14
    · refine r_iconst dX10_table_362 ki_1 ?_
      refine r_aload_n_0 dX10_table_363 rfl ?_
      refine r_getr (t := 104) (cc := 10) 32 rfl rfl uX10 (by decide) rfl fw_X10_92 rfl dX10_table_364 ?_
      refine r_iload_w_4 dX10_table_367 ?_
      refine r_iaload rfl dX10_table_369 ?_
      refine r_ishl dX10_table_370 ?_
      refine r_goto (tgt := 375) dX10_table_371 (by decide) ?_
      refine r_ior dX10_table_375 ?_
      refine r_iastore rfl dX10_table_376 ?_
      refine r_bd (fun d15 => ?_)
      refine r_iinc_4 dX10_table_377 ki_1 (by decide) rfl ?_
      refine r_goto (tgt := 324) dX10_table_380 (by decide) ?_
      exact hk324 v1 v2 v6 (v7 + (1 : Int32)) d15
theorem w_X10_table_324 {E : XE} (n : Nat) : ∀ (v1 : Int32) (v2 : Int64) (v6 : Int32) (v7 : Int32) (d : DD), AW E si_X10_table 0 0 (QM E wrI) (f_X10_table_324 n v1 v2 v6 v7 d) 324 [(0, .ref 86), (1, .int v1), (2, .long v2), (6, .int v6), (7, .int v7)] [] d := by
  induction n with
  | zero => intros; exact r_none
  | succ n ih => intro v1 v2 v6 v7 d; exact w_X10_table_324B (f_X10_table_324 n) ih v1 v2 v6 v7 d
def f_X10_table_246 (k144 : Int32 → Int64 → Int64 → Int32 → DD → Option (Int32 × DD)) (k157 : Int32 → Int64 → Int64 → Int32 → Int32 → DD → Option (Int32 × DD)) (k205 : Int32 → Int64 → Int64 → Int32 → Int32 → Int32 → Int32 → Int64 → Int32 → DD → Option (Int32 × DD)) (v1 : Int32) (v2 : Int64) (v4 : Int64) (v6 : Int32) (v7 : Int32) (v8 : Int32) (v9 : Int32) (v10 : Int64) (v12 : Int32) (t0 : Int32) (d : DD) : Option (Int32 × DD) :=
  if t0 = v9 then
  bd (v10 ||| ((1 : Int64) <<< (v12.toInt64 &&& 63))) fun x22 =>
    k205 v1 v2 v4 v6 v7 v8 v9 x22 (v12 + (1 : Int32)) d
  else
  k205 v1 v2 v4 v6 v7 v8 v9 v10 (v12 + (1 : Int32)) d
set_option maxRecDepth 100000 in
set_option maxHeartbeats 4000000 in
theorem w_X10_table_246 {E : XE} (k144 : Int32 → Int64 → Int64 → Int32 → DD → Option (Int32 × DD)) (hk144 : ∀ (v1 : Int32) (v2 : Int64) (v4 : Int64) (v6 : Int32) (d : DD), AW E si_X10_table 0 0 (QM E wrI) (k144 v1 v2 v4 v6 d) 144 [(0, .ref 86), (1, .int v1), (2, .long v2), (4, .long v4), (6, .int v6)] [] d) (k157 : Int32 → Int64 → Int64 → Int32 → Int32 → DD → Option (Int32 × DD)) (hk157 : ∀ (v1 : Int32) (v2 : Int64) (v4 : Int64) (v6 : Int32) (v7 : Int32) (d : DD), AW E si_X10_table 0 0 (QM E wrI) (k157 v1 v2 v4 v6 v7 d) 157 [(0, .ref 86), (1, .int v1), (2, .long v2), (4, .long v4), (6, .int v6), (7, .int v7)] [] d) (k205 : Int32 → Int64 → Int64 → Int32 → Int32 → Int32 → Int32 → Int64 → Int32 → DD → Option (Int32 × DD)) (hk205 : ∀ (v1 : Int32) (v2 : Int64) (v4 : Int64) (v6 : Int32) (v7 : Int32) (v8 : Int32) (v9 : Int32) (v10 : Int64) (v12 : Int32) (d : DD), AW E si_X10_table 0 0 (QM E wrI) (k205 v1 v2 v4 v6 v7 v8 v9 v10 v12 d) 205 [(0, .ref 86), (1, .int v1), (2, .long v2), (4, .long v4), (6, .int v6), (7, .int v7), (8, .int v8), (9, .int v9), (10, .long v10), (12, .int v12)] [] d) (v1 : Int32) (v2 : Int64) (v4 : Int64) (v6 : Int32) (v7 : Int32) (v8 : Int32) (v9 : Int32) (v10 : Int64) (v12 : Int32) (t0 : Int32) (d : DD) : AW E si_X10_table 0 0 (QM E wrI) (f_X10_table_246 k144 k157 k205 v1 v2 v4 v6 v7 v8 v9 v10 v12 t0 d) 246 [(0, .ref 86), (1, .int v1), (2, .long v2), (4, .long v4), (6, .int v6), (7, .int v7), (8, .int v8), (9, .int v9), (10, .long v10), (12, .int v12)] [.int t0] d := by
  unfold f_X10_table_246
  refine r_iload_w_7 dX10_table_246 ?_
  refine r_icmp_ne (tgt := 260) dX10_table_248 (by decide) ?_ ?_
  · refine r_iinc_9 dX10_table_260 ki_1 (by decide) rfl ?_
    refine r_goto (tgt := 205) dX10_table_263 (by decide) ?_
    exact hk205 v1 v2 v4 v6 v7 v8 v9 v10 (v12 + (1 : Int32)) d
  · refine r_lload_w_8 dX10_table_251 ?_
    refine r_lconst dX10_table_253 kl_1 ?_
    refine r_iload_w_9 dX10_table_254 ?_
    refine r_lshl dX10_table_256 ?_
    refine r_lor dX10_table_257 ?_
    refine r_bdJ (fun x22 => ?_)
    refine r_lstore_w_8 dX10_table_258 (by decide) rfl ?_
    refine r_iinc_9 dX10_table_260 ki_1 (by decide) rfl ?_
    refine r_goto (tgt := 205) dX10_table_263 (by decide) ?_
    exact hk205 v1 v2 v4 v6 v7 v8 v9 x22 (v12 + (1 : Int32)) d
def f_X10_table_205B (k144 : Int32 → Int64 → Int64 → Int32 → DD → Option (Int32 × DD)) (k157 : Int32 → Int64 → Int64 → Int32 → Int32 → DD → Option (Int32 × DD)) (k205 : Int32 → Int64 → Int64 → Int32 → Int32 → Int32 → Int32 → Int64 → Int32 → DD → Option (Int32 × DD)) (v1 : Int32) (v2 : Int64) (v4 : Int64) (v6 : Int32) (v7 : Int32) (v8 : Int32) (v9 : Int32) (v10 : Int64) (v12 : Int32) (d : DD) : Option (Int32 × DD) :=
  if ixb v1 (ln 95) then
  if v12 < (d.1 95 v1.toNatClampNeg) then
    if ((v2 >>> (v12.toInt64 &&& 63)) &&& (1 : Int64)) = (1 : Int64) then
      (f_X10_alike v1 v8 v2 v12 d).bind fun q21 =>
        if q21.1 = (1 : Int32) then
        f_X10_table_246 k144 k157 k205 v1 v2 v4 v6 v7 v8 v9 v10 v12 (1 : Int32) q21.2
        else
        f_X10_table_246 k144 k157 k205 v1 v2 v4 v6 v7 v8 v9 v10 v12 (0 : Int32) q21.2
      else
      k205 v1 v2 v4 v6 v7 v8 v9 v10 (v12 + (1 : Int32)) d
    else
    if v9 = 0 then
      if ixb v6 (ln 105) then
        bd (u1 d 105 v6.toNatClampNeg (0 : Int32)) fun d19 =>
        k157 v1 v10 v4 (v6 + (1 : Int32)) (v7 + (1 : Int32)) d19
        else none
      else
      if ixb v6 (ln 105) then
        bd (u1 d 105 v6.toNatClampNeg (1 : Int32)) fun d20 =>
        k157 v1 v10 v4 (v6 + (1 : Int32)) (v7 + (1 : Int32)) d20
        else none
  else none
def f_X10_table_205 (k144 : Int32 → Int64 → Int64 → Int32 → DD → Option (Int32 × DD)) (k157 : Int32 → Int64 → Int64 → Int32 → Int32 → DD → Option (Int32 × DD)) : Nat → Int32 → Int64 → Int64 → Int32 → Int32 → Int32 → Int32 → Int64 → Int32 → DD → Option (Int32 × DD)
  | 0, _, _, _, _, _, _, _, _, _, _ => none
  | n + 1, v1, v2, v4, v6, v7, v8, v9, v10, v12, d => f_X10_table_205B k144 k157 (f_X10_table_205 k144 k157 n) v1 v2 v4 v6 v7 v8 v9 v10 v12 d
set_option maxRecDepth 100000 in
set_option maxHeartbeats 4000000 in
theorem w_X10_table_205B {E : XE} (k144 : Int32 → Int64 → Int64 → Int32 → DD → Option (Int32 × DD)) (hk144 : ∀ (v1 : Int32) (v2 : Int64) (v4 : Int64) (v6 : Int32) (d : DD), AW E si_X10_table 0 0 (QM E wrI) (k144 v1 v2 v4 v6 d) 144 [(0, .ref 86), (1, .int v1), (2, .long v2), (4, .long v4), (6, .int v6)] [] d) (k157 : Int32 → Int64 → Int64 → Int32 → Int32 → DD → Option (Int32 × DD)) (hk157 : ∀ (v1 : Int32) (v2 : Int64) (v4 : Int64) (v6 : Int32) (v7 : Int32) (d : DD), AW E si_X10_table 0 0 (QM E wrI) (k157 v1 v2 v4 v6 v7 d) 157 [(0, .ref 86), (1, .int v1), (2, .long v2), (4, .long v4), (6, .int v6), (7, .int v7)] [] d) (k205 : Int32 → Int64 → Int64 → Int32 → Int32 → Int32 → Int32 → Int64 → Int32 → DD → Option (Int32 × DD)) (hk205 : ∀ (v1 : Int32) (v2 : Int64) (v4 : Int64) (v6 : Int32) (v7 : Int32) (v8 : Int32) (v9 : Int32) (v10 : Int64) (v12 : Int32) (d : DD), AW E si_X10_table 0 0 (QM E wrI) (k205 v1 v2 v4 v6 v7 v8 v9 v10 v12 d) 205 [(0, .ref 86), (1, .int v1), (2, .long v2), (4, .long v4), (6, .int v6), (7, .int v7), (8, .int v8), (9, .int v9), (10, .long v10), (12, .int v12)] [] d) (v1 : Int32) (v2 : Int64) (v4 : Int64) (v6 : Int32) (v7 : Int32) (v8 : Int32) (v9 : Int32) (v10 : Int64) (v12 : Int32) (d : DD) : AW E si_X10_table 0 0 (QM E wrI) (f_X10_table_205B k144 k157 k205 v1 v2 v4 v6 v7 v8 v9 v10 v12 d) 205 [(0, .ref 86), (1, .int v1), (2, .long v2), (4, .long v4), (6, .int v6), (7, .int v7), (8, .int v8), (9, .int v9), (10, .long v10), (12, .int v12)] [] d := by
  unfold f_X10_table_205B
  refine r_iload_w_9 dX10_table_205 ?_
  refine r_aload_n_0 dX10_table_207 rfl ?_
  refine r_getr (t := 95) (cc := 10) 22 rfl rfl uX10 (by decide) rfl fw_X10_64 rfl dX10_table_208 ?_
  refine r_iload_n_1 dX10_table_211 rfl ?_
  refine r_iaload rfl dX10_table_212 ?_
  refine r_icmp_ge (tgt := 266) dX10_table_213 (by decide) ?_ ?_
  · refine r_lload_w_8 dX10_table_266 ?_
    refine r_lstore_n_2 dX10_table_268 rfl (by decide) rfl ?_
    refine r_aload_n_0 dX10_table_269 rfl ?_
    refine r_getr (t := 105) (cc := 10) 33 rfl rfl uX10 (by decide) rfl fw_X10_95 rfl dX10_table_270 ?_
    refine r_iload_w_4 dX10_table_273 ?_
    refine r_iload_w_7 dX10_table_275 ?_
    refine r_if_eq (tgt := 284) dX10_table_277 (by decide) ?_ ?_
    · refine r_iconst dX10_table_284 ki_0 ?_
      refine r_iastore rfl dX10_table_285 ?_
      refine r_bd (fun d19 => ?_)
      refine r_iinc_4 dX10_table_286 ki_1 (by decide) rfl ?_
      refine r_iinc_5 dX10_table_289 ki_1 (by decide) rfl ?_
      refine r_goto (tgt := 157) dX10_table_292 (by decide) ?_
      refine r_sub [0, 1, 2, 3, 4, 5] (lv' := [(0, .ref 86), (1, .int v1), (2, .long v10), (4, .long v4), (6, .int (v6 + (1 : Int32))), (7, .int (v7 + (1 : Int32)))]) rfl ?_
      exact hk157 v1 v10 v4 (v6 + (1 : Int32)) (v7 + (1 : Int32)) d19
    · refine r_iconst dX10_table_280 ki_1 ?_
      refine r_goto (tgt := 285) dX10_table_281 (by decide) ?_
      refine r_iastore rfl dX10_table_285 ?_
      refine r_bd (fun d20 => ?_)
      refine r_iinc_4 dX10_table_286 ki_1 (by decide) rfl ?_
      refine r_iinc_5 dX10_table_289 ki_1 (by decide) rfl ?_
      refine r_goto (tgt := 157) dX10_table_292 (by decide) ?_
      refine r_sub [0, 1, 2, 3, 4, 5] (lv' := [(0, .ref 86), (1, .int v1), (2, .long v10), (4, .long v4), (6, .int (v6 + (1 : Int32))), (7, .int (v7 + (1 : Int32)))]) rfl ?_
      exact hk157 v1 v10 v4 (v6 + (1 : Int32)) (v7 + (1 : Int32)) d20
  · refine r_lload_n_2 dX10_table_216 rfl ?_
    refine r_iload_w_9 dX10_table_217 ?_
    refine r_lshr dX10_table_219 ?_
    refine r_lconst dX10_table_220 kl_1 ?_
    refine r_land dX10_table_221 ?_
    refine r_lconst dX10_table_222 kl_1 ?_
    refine r_lcmp_ne (tgt := 260) dX10_table_223 dX10_table_224 (by decide) ?_ ?_
    · refine r_iinc_9 dX10_table_260 ki_1 (by decide) rfl ?_
      refine r_goto (tgt := 205) dX10_table_263 (by decide) ?_
      exact hk205 v1 v2 v4 v6 v7 v8 v9 v10 (v12 + (1 : Int32)) d
    · refine r_aload_n_0 dX10_table_227 rfl ?_
      refine r_iload_n_1 dX10_table_228 rfl ?_
      refine r_iload_w_6 dX10_table_229 ?_
      refine r_lload_n_2 dX10_table_231 rfl ?_
      refine r_iload_w_9 dX10_table_232 ?_
      refine r_callVI (cc := 10) [] (am_X10_alike v1 v8 v2 v12 d) rfl rfl cf_X10_alike mw_X10_328 (by decide) dX10_table_234 rfl (Nat.le_of_ble_eq_true rfl) ⟨rfl, rfl⟩ (fun q21 => ?_)
      refine r_iconst dX10_table_237 ki_1 ?_
      refine r_icmp_ne (tgt := 245) dX10_table_238 (by decide) ?_ ?_
      · refine r_iconst dX10_table_245 ki_0 ?_
        exact w_X10_table_246 k144 hk144 k157 hk157 k205 hk205 v1 v2 v4 v6 v7 v8 v9 v10 v12 (0 : Int32) q21.2
      · refine r_iconst dX10_table_241 ki_1 ?_
        refine r_goto (tgt := 246) dX10_table_242 (by decide) ?_
        exact w_X10_table_246 k144 hk144 k157 hk157 k205 hk205 v1 v2 v4 v6 v7 v8 v9 v10 v12 (1 : Int32) q21.2
theorem w_X10_table_205 {E : XE} (k144 : Int32 → Int64 → Int64 → Int32 → DD → Option (Int32 × DD)) (hk144 : ∀ (v1 : Int32) (v2 : Int64) (v4 : Int64) (v6 : Int32) (d : DD), AW E si_X10_table 0 0 (QM E wrI) (k144 v1 v2 v4 v6 d) 144 [(0, .ref 86), (1, .int v1), (2, .long v2), (4, .long v4), (6, .int v6)] [] d) (k157 : Int32 → Int64 → Int64 → Int32 → Int32 → DD → Option (Int32 × DD)) (hk157 : ∀ (v1 : Int32) (v2 : Int64) (v4 : Int64) (v6 : Int32) (v7 : Int32) (d : DD), AW E si_X10_table 0 0 (QM E wrI) (k157 v1 v2 v4 v6 v7 d) 157 [(0, .ref 86), (1, .int v1), (2, .long v2), (4, .long v4), (6, .int v6), (7, .int v7)] [] d) (n : Nat) : ∀ (v1 : Int32) (v2 : Int64) (v4 : Int64) (v6 : Int32) (v7 : Int32) (v8 : Int32) (v9 : Int32) (v10 : Int64) (v12 : Int32) (d : DD), AW E si_X10_table 0 0 (QM E wrI) (f_X10_table_205 k144 k157 n v1 v2 v4 v6 v7 v8 v9 v10 v12 d) 205 [(0, .ref 86), (1, .int v1), (2, .long v2), (4, .long v4), (6, .int v6), (7, .int v7), (8, .int v8), (9, .int v9), (10, .long v10), (12, .int v12)] [] d := by
  induction n with
  | zero => intros; exact r_none
  | succ n ih => intro v1 v2 v4 v6 v7 v8 v9 v10 v12 d; exact w_X10_table_205B k144 hk144 k157 hk157 (f_X10_table_205 k144 k157 n) ih v1 v2 v4 v6 v7 v8 v9 v10 v12 d
def f_X10_table_157B (k144 : Int32 → Int64 → Int64 → Int32 → DD → Option (Int32 × DD)) (k157 : Int32 → Int64 → Int64 → Int32 → Int32 → DD → Option (Int32 × DD)) (v1 : Int32) (v2 : Int64) (v4 : Int64) (v6 : Int32) (v7 : Int32) (d : DD) : Option (Int32 × DD) :=
  if v7 < (d.1 86 3) then
  if ixb v7 (ln 104) then
    bd (d.1 104 v7.toNatClampNeg) fun x16 =>
      (f_X10_truly v1 d).bind fun q17 =>
      (f_X10_alike v1 x16 v2 q17.1 q17.2).bind fun q18 =>
      if q18.1 = (1 : Int32) then
      f_X10_table_205 k144 k157 FU v1 v2 v4 v6 v7 x16 (1 : Int32) (0 : Int64) (0 : Int32) q18.2
      else
      f_X10_table_205 k144 k157 FU v1 v2 v4 v6 v7 x16 (0 : Int32) (0 : Int64) (0 : Int32) q18.2
    else none
  else
  k144 v1 v2 v4 v6 d
def f_X10_table_157 (k144 : Int32 → Int64 → Int64 → Int32 → DD → Option (Int32 × DD)) : Nat → Int32 → Int64 → Int64 → Int32 → Int32 → DD → Option (Int32 × DD)
  | 0, _, _, _, _, _, _ => none
  | n + 1, v1, v2, v4, v6, v7, d => f_X10_table_157B k144 (f_X10_table_157 k144 n) v1 v2 v4 v6 v7 d
set_option maxRecDepth 100000 in
set_option maxHeartbeats 4000000 in
theorem w_X10_table_157B {E : XE} (k144 : Int32 → Int64 → Int64 → Int32 → DD → Option (Int32 × DD)) (hk144 : ∀ (v1 : Int32) (v2 : Int64) (v4 : Int64) (v6 : Int32) (d : DD), AW E si_X10_table 0 0 (QM E wrI) (k144 v1 v2 v4 v6 d) 144 [(0, .ref 86), (1, .int v1), (2, .long v2), (4, .long v4), (6, .int v6)] [] d) (k157 : Int32 → Int64 → Int64 → Int32 → Int32 → DD → Option (Int32 × DD)) (hk157 : ∀ (v1 : Int32) (v2 : Int64) (v4 : Int64) (v6 : Int32) (v7 : Int32) (d : DD), AW E si_X10_table 0 0 (QM E wrI) (k157 v1 v2 v4 v6 v7 d) 157 [(0, .ref 86), (1, .int v1), (2, .long v2), (4, .long v4), (6, .int v6), (7, .int v7)] [] d) (v1 : Int32) (v2 : Int64) (v4 : Int64) (v6 : Int32) (v7 : Int32) (d : DD) : AW E si_X10_table 0 0 (QM E wrI) (f_X10_table_157B k144 k157 v1 v2 v4 v6 v7 d) 157 [(0, .ref 86), (1, .int v1), (2, .long v2), (4, .long v4), (6, .int v6), (7, .int v7)] [] d := by
  unfold f_X10_table_157B
  refine r_iload_w_5 dX10_table_157 ?_
  refine r_aload_n_0 dX10_table_159 rfl ?_
  refine r_geti (cc := 10) 3 rfl rfl uX10 (by decide) rfl fw_X10_18 dX10_table_160 ?_
  refine r_icmp_ge (tgt := 295) dX10_table_163 (by decide) ?_ ?_
  · refine r_goto (tgt := 144) dX10_table_295 (by decide) ?_
    refine r_sub [0, 1, 2, 3, 4] (lv' := [(0, .ref 86), (1, .int v1), (2, .long v2), (4, .long v4), (6, .int v6)]) rfl ?_
    exact hk144 v1 v2 v4 v6 d
  · refine r_aload_n_0 dX10_table_166 rfl ?_
    refine r_getr (t := 104) (cc := 10) 32 rfl rfl uX10 (by decide) rfl fw_X10_92 rfl dX10_table_167 ?_
    refine r_iload_w_5 dX10_table_170 ?_
    refine r_iaload rfl dX10_table_172 ?_
    refine r_bdI (fun x16 => ?_)
    refine r_istore_w_x dX10_table_173 (by decide) rfl ?_
    refine r_aload_n_1 dX10_table_175 rfl ?_
    refine r_iload_n_2 dX10_table_176 rfl ?_
    refine r_iload_w_0 dX10_table_177 ?_
    refine r_lload_n_3 dX10_table_179 rfl ?_
    refine r_aload_n_1 dX10_table_180 rfl ?_
    refine r_iload_n_2 dX10_table_181 rfl ?_
    refine r_callVI (cc := 10) [.long v2, .int x16, .int v1, .ref 86] (am_X10_truly v1 d) rfl rfl cf_X10_truly mw_X10_241 (by decide) dX10_table_182 rfl (Nat.le_of_ble_eq_true rfl) ⟨rfl, rfl⟩ (fun q17 => ?_)
    refine r_callVI (cc := 10) [] (am_X10_alike v1 x16 v2 q17.1 q17.2) rfl rfl cf_X10_alike mw_X10_328 (by decide) dX10_table_185 rfl (Nat.le_of_ble_eq_true rfl) ⟨rfl, rfl⟩ (fun q18 => ?_)
    refine r_iconst dX10_table_188 ki_1 ?_
    refine r_icmp_ne (tgt := 196) dX10_table_189 (by decide) ?_ ?_
    · refine r_iconst dX10_table_196 ki_0 ?_
      refine r_istore_w_x dX10_table_197 (by decide) rfl ?_
      refine r_lconst dX10_table_199 kl_0 ?_
      refine r_lstore_w_x dX10_table_200 (by decide) rfl ?_
      refine r_iconst dX10_table_202 ki_0 ?_
      refine r_istore_w_x dX10_table_203 (by decide) rfl ?_
      refine r_sub [4, 5, 6, 7, 8, 9, 3, 2, 1, 0] (lv' := [(0, .ref 86), (1, .int v1), (2, .long v2), (4, .long v4), (6, .int v6), (7, .int v7), (8, .int x16), (9, .int (0 : Int32)), (10, .long (0 : Int64)), (12, .int (0 : Int32))]) rfl ?_
      exact w_X10_table_205 k144 hk144 k157 hk157 FU v1 v2 v4 v6 v7 x16 (0 : Int32) (0 : Int64) (0 : Int32) q18.2
    · refine r_iconst dX10_table_192 ki_1 ?_
      refine r_goto (tgt := 197) dX10_table_193 (by decide) ?_
      refine r_istore_w_x dX10_table_197 (by decide) rfl ?_
      refine r_lconst dX10_table_199 kl_0 ?_
      refine r_lstore_w_x dX10_table_200 (by decide) rfl ?_
      refine r_iconst dX10_table_202 ki_0 ?_
      refine r_istore_w_x dX10_table_203 (by decide) rfl ?_
      refine r_sub [4, 5, 6, 7, 8, 9, 3, 2, 1, 0] (lv' := [(0, .ref 86), (1, .int v1), (2, .long v2), (4, .long v4), (6, .int v6), (7, .int v7), (8, .int x16), (9, .int (1 : Int32)), (10, .long (0 : Int64)), (12, .int (0 : Int32))]) rfl ?_
      exact w_X10_table_205 k144 hk144 k157 hk157 FU v1 v2 v4 v6 v7 x16 (1 : Int32) (0 : Int64) (0 : Int32) q18.2
theorem w_X10_table_157 {E : XE} (k144 : Int32 → Int64 → Int64 → Int32 → DD → Option (Int32 × DD)) (hk144 : ∀ (v1 : Int32) (v2 : Int64) (v4 : Int64) (v6 : Int32) (d : DD), AW E si_X10_table 0 0 (QM E wrI) (k144 v1 v2 v4 v6 d) 144 [(0, .ref 86), (1, .int v1), (2, .long v2), (4, .long v4), (6, .int v6)] [] d) (n : Nat) : ∀ (v1 : Int32) (v2 : Int64) (v4 : Int64) (v6 : Int32) (v7 : Int32) (d : DD), AW E si_X10_table 0 0 (QM E wrI) (f_X10_table_157 k144 n v1 v2 v4 v6 v7 d) 157 [(0, .ref 86), (1, .int v1), (2, .long v2), (4, .long v4), (6, .int v6), (7, .int v7)] [] d := by
  induction n with
  | zero => intros; exact r_none
  | succ n ih => intro v1 v2 v4 v6 v7 d; exact w_X10_table_157B k144 hk144 (f_X10_table_157 k144 n) ih v1 v2 v4 v6 v7 d
def f_X10_table_144B (k144 : Int32 → Int64 → Int64 → Int32 → DD → Option (Int32 × DD)) (v1 : Int32) (v2 : Int64) (v4 : Int64) (v6 : Int32) (d : DD) : Option (Int32 × DD) :=
  if v2 = v4 then
  bd (u1 d 86 35 v6) fun d7 =>
    (f_X10_bits v2 d7).bind fun q8 =>
    if ixb (0 : Int32) (ln 106) then
    bd (u1 q8.2 106 (0 : Int32).toNatClampNeg q8.1) fun d9 =>
    if ixb (1 : Int32) (ln 106) then
      bd (u1 d9 106 (1 : Int32).toNatClampNeg (0 : Int32)) fun d10 =>
      f_X10_table_324 FU v1 v2 v6 (0 : Int32) d10
      else none
    else none
  else
  f_X10_table_157 k144 FU v1 v2 v2 v6 (0 : Int32) d
def f_X10_table_144 : Nat → Int32 → Int64 → Int64 → Int32 → DD → Option (Int32 × DD)
  | 0, _, _, _, _, _ => none
  | n + 1, v1, v2, v4, v6, d => f_X10_table_144B (f_X10_table_144 n) v1 v2 v4 v6 d
set_option maxRecDepth 100000 in
set_option maxHeartbeats 4000000 in
theorem w_X10_table_144B {E : XE} (k144 : Int32 → Int64 → Int64 → Int32 → DD → Option (Int32 × DD)) (hk144 : ∀ (v1 : Int32) (v2 : Int64) (v4 : Int64) (v6 : Int32) (d : DD), AW E si_X10_table 0 0 (QM E wrI) (k144 v1 v2 v4 v6 d) 144 [(0, .ref 86), (1, .int v1), (2, .long v2), (4, .long v4), (6, .int v6)] [] d) (v1 : Int32) (v2 : Int64) (v4 : Int64) (v6 : Int32) (d : DD) : AW E si_X10_table 0 0 (QM E wrI) (f_X10_table_144B k144 v1 v2 v4 v6 d) 144 [(0, .ref 86), (1, .int v1), (2, .long v2), (4, .long v4), (6, .int v6)] [] d := by
  unfold f_X10_table_144B
  refine r_lload_n_2 dX10_table_144 rfl ?_
  refine r_lload_w_3 dX10_table_145 ?_
  refine r_lcmp_eq (tgt := 298) dX10_table_147 dX10_table_148 (by decide) ?_ ?_
  · refine r_aload_n_0 dX10_table_298 rfl ?_
    refine r_iload_w_4 dX10_table_299 ?_
    refine r_puti (cc := 10) 35 tyX10 tyX10_ok nmX10 rfl (by decide +kernel) rfl rfl uX10 (by decide) rfl fw_X10_332 dX10_table_301 ?_
    refine r_bd (fun d7 => ?_)
    refine r_aload_n_0 dX10_table_304 rfl ?_
    refine r_getr (t := 106) (cc := 10) 34 rfl rfl uX10 (by decide) rfl fw_X10_98 rfl dX10_table_305 ?_
    refine r_iconst dX10_table_308 ki_0 ?_
    refine r_lload_n_2 dX10_table_309 rfl ?_
    refine r_callSI [.int (0 : Int32), .ref 106] (am_X10_bits v2 d7) cf_X10_bits mw_X10_266 (by decide) dX10_table_310 rfl (Nat.le_of_ble_eq_true rfl) ⟨rfl, rfl⟩ (fun q8 => ?_)
    refine r_iastore rfl dX10_table_313 ?_
    refine r_bd (fun d9 => ?_)
    refine r_aload_n_0 dX10_table_314 rfl ?_
    refine r_getr (t := 106) (cc := 10) 34 rfl rfl uX10 (by decide) rfl fw_X10_98 rfl dX10_table_315 ?_
    refine r_iconst dX10_table_318 ki_1 ?_
    refine r_iconst dX10_table_319 ki_0 ?_
    refine r_iastore rfl dX10_table_320 ?_
    refine r_bd (fun d10 => ?_)
    refine r_iconst dX10_table_321 ki_0 ?_
    refine r_istore_w_x dX10_table_322 (by decide) rfl ?_
    refine r_sub [1, 2, 3, 5, 0] (lv' := [(0, .ref 86), (1, .int v1), (2, .long v2), (6, .int v6), (7, .int (0 : Int32))]) rfl ?_
    exact w_X10_table_324 FU v1 v2 v6 (0 : Int32) d10
  · refine r_lload_n_2 dX10_table_151 rfl ?_
    refine r_lstore_w_3 dX10_table_152 (by decide) rfl ?_
    refine r_iconst dX10_table_154 ki_0 ?_
    refine r_istore_w_x dX10_table_155 (by decide) rfl ?_
    refine r_sub [1, 2, 3, 4, 5, 0] (lv' := [(0, .ref 86), (1, .int v1), (2, .long v2), (4, .long v2), (6, .int v6), (7, .int (0 : Int32))]) rfl ?_
    exact w_X10_table_157 k144 hk144 FU v1 v2 v2 v6 (0 : Int32) d
theorem w_X10_table_144 {E : XE} (n : Nat) : ∀ (v1 : Int32) (v2 : Int64) (v4 : Int64) (v6 : Int32) (d : DD), AW E si_X10_table 0 0 (QM E wrI) (f_X10_table_144 n v1 v2 v4 v6 d) 144 [(0, .ref 86), (1, .int v1), (2, .long v2), (4, .long v4), (6, .int v6)] [] d := by
  induction n with
  | zero => intros; exact r_none
  | succ n ih => intro v1 v2 v4 v6 d; exact w_X10_table_144B (f_X10_table_144 n) ih v1 v2 v4 v6 d
def f_X10_table_102B (k102 : Int32 → Int32 → DD → Option (Int32 × DD)) (v1 : Int32) (v2 : Int32) (d : DD) : Option (Int32 × DD) :=
  if v2 < (d.1 86 3) then
  (f_X10_octet v2 d).bind fun q23 =>
    if ixb v2 (ln 104) then
    bd (u1 q23.2 104 v2.toNatClampNeg q23.1) fun d24 =>
    k102 v1 (v2 + (1 : Int32)) d24
    else none
  else
  if ixb v1 (ln 95) then
    bd (((1 : Int64) <<< ((d.1 95 v1.toNatClampNeg).toInt64 &&& 63)) - (1 : Int64)) fun x6 =>
      f_X10_table_144 FU v1 x6 (0 : Int64) (0 : Int32) d
    else none
def f_X10_table_102 : Nat → Int32 → Int32 → DD → Option (Int32 × DD)
  | 0, _, _, _ => none
  | n + 1, v1, v2, d => f_X10_table_102B (f_X10_table_102 n) v1 v2 d
set_option maxRecDepth 100000 in
set_option maxHeartbeats 4000000 in
theorem w_X10_table_102B {E : XE} (k102 : Int32 → Int32 → DD → Option (Int32 × DD)) (hk102 : ∀ (v1 : Int32) (v2 : Int32) (d : DD), AW E si_X10_table 0 0 (QM E wrI) (k102 v1 v2 d) 102 [(0, .ref 86), (1, .int v1), (2, .int v2)] [] d) (v1 : Int32) (v2 : Int32) (d : DD) : AW E si_X10_table 0 0 (QM E wrI) (f_X10_table_102B k102 v1 v2 d) 102 [(0, .ref 86), (1, .int v1), (2, .int v2)] [] d := by
  unfold f_X10_table_102B
  refine r_iload_n_2 dX10_table_102 rfl ?_
  refine r_aload_n_0 dX10_table_103 rfl ?_
  refine r_geti (cc := 10) 3 rfl rfl uX10 (by decide) rfl fw_X10_18 dX10_table_104 ?_
  refine r_icmp_ge (tgt := 127) dX10_table_107 (by decide) ?_ ?_
  · refine r_lconst dX10_table_127 kl_1 ?_
    refine r_aload_n_0 dX10_table_128 rfl ?_
    refine r_getr (t := 95) (cc := 10) 22 rfl rfl uX10 (by decide) rfl fw_X10_64 rfl dX10_table_129 ?_
    refine r_iload_n_1 dX10_table_132 rfl ?_
    refine r_iaload rfl dX10_table_133 ?_
    refine r_lshl dX10_table_134 ?_
    refine r_lconst dX10_table_135 kl_1 ?_
    refine r_lsub dX10_table_136 ?_
    refine r_bdJ (fun x6 => ?_)
    refine r_lstore_n_2 dX10_table_137 rfl (by decide) rfl ?_
    refine r_lconst dX10_table_138 kl_0 ?_
    refine r_lstore_w_x dX10_table_139 (by decide) rfl ?_
    refine r_iconst dX10_table_141 ki_0 ?_
    refine r_istore_w_x dX10_table_142 (by decide) rfl ?_
    refine r_sub [2, 3, 4, 1, 0] (lv' := [(0, .ref 86), (1, .int v1), (2, .long x6), (4, .long (0 : Int64)), (6, .int (0 : Int32))]) rfl ?_
    exact w_X10_table_144 FU v1 x6 (0 : Int64) (0 : Int32) d
  · refine r_aload_n_0 dX10_table_110 rfl ?_
    refine r_getr (t := 104) (cc := 10) 32 rfl rfl uX10 (by decide) rfl fw_X10_92 rfl dX10_table_111 ?_
    refine r_iload_n_2 dX10_table_114 rfl ?_
    refine r_aload_n_0 dX10_table_115 rfl ?_
    refine r_iload_n_2 dX10_table_116 rfl ?_
    refine r_callVI (cc := 10) [.int v2, .ref 104] (am_X10_octet v2 d) rfl rfl cf_X10_octet mw_X10_325 (by decide) dX10_table_117 rfl (Nat.le_of_ble_eq_true rfl) ⟨rfl, rfl⟩ (fun q23 => ?_)
    refine r_iastore rfl dX10_table_120 ?_
    refine r_bd (fun d24 => ?_)
    refine r_iinc_2 dX10_table_121 ki_1 (by decide) rfl ?_
    refine r_goto (tgt := 102) dX10_table_124 (by decide) ?_
    exact hk102 v1 (v2 + (1 : Int32)) d24
theorem w_X10_table_102 {E : XE} (n : Nat) : ∀ (v1 : Int32) (v2 : Int32) (d : DD), AW E si_X10_table 0 0 (QM E wrI) (f_X10_table_102 n v1 v2 d) 102 [(0, .ref 86), (1, .int v1), (2, .int v2)] [] d := by
  induction n with
  | zero => intros; exact r_none
  | succ n ih => intro v1 v2 d; exact w_X10_table_102B (f_X10_table_102 n) ih v1 v2 d
def f_X10_table_68B (k44 : Int32 → Int32 → DD → Option (Int32 × DD)) (k68 : Int32 → Int32 → Int32 → DD → Option (Int32 × DD)) (v1 : Int32) (v2 : Int32) (v3 : Int32) (d : DD) : Option (Int32 × DD) :=
  if v3 < v2 then
  (f_X10_octet v3 d).bind fun q27 =>
    (f_X10_octet v2 q27.2).bind fun q28 =>
    if q27.1 = q28.1 then
    some ((-1 : Int32), q28.2)
    else
    k68 v1 v2 (v3 + (1 : Int32)) q28.2
  else
  k44 v1 (v2 + (1 : Int32)) d
def f_X10_table_68 (k44 : Int32 → Int32 → DD → Option (Int32 × DD)) : Nat → Int32 → Int32 → Int32 → DD → Option (Int32 × DD)
  | 0, _, _, _, _ => none
  | n + 1, v1, v2, v3, d => f_X10_table_68B k44 (f_X10_table_68 k44 n) v1 v2 v3 d
set_option maxRecDepth 100000 in
set_option maxHeartbeats 4000000 in
theorem w_X10_table_68B {E : XE} (k44 : Int32 → Int32 → DD → Option (Int32 × DD)) (hk44 : ∀ (v1 : Int32) (v2 : Int32) (d : DD), AW E si_X10_table 0 0 (QM E wrI) (k44 v1 v2 d) 44 [(0, .ref 86), (1, .int v1), (2, .int v2)] [] d) (k68 : Int32 → Int32 → Int32 → DD → Option (Int32 × DD)) (hk68 : ∀ (v1 : Int32) (v2 : Int32) (v3 : Int32) (d : DD), AW E si_X10_table 0 0 (QM E wrI) (k68 v1 v2 v3 d) 68 [(0, .ref 86), (1, .int v1), (2, .int v2), (3, .int v3)] [] d) (v1 : Int32) (v2 : Int32) (v3 : Int32) (d : DD) : AW E si_X10_table 0 0 (QM E wrI) (f_X10_table_68B k44 k68 v1 v2 v3 d) 68 [(0, .ref 86), (1, .int v1), (2, .int v2), (3, .int v3)] [] d := by
  unfold f_X10_table_68B
  refine r_iload_n_3 dX10_table_68 rfl ?_
  refine r_iload_n_2 dX10_table_69 rfl ?_
  refine r_icmp_ge (tgt := 94) dX10_table_70 (by decide) ?_ ?_
  · refine r_iinc_2 dX10_table_94 ki_1 (by decide) rfl ?_
    refine r_goto (tgt := 44) dX10_table_97 (by decide) ?_
    refine r_sub [0, 1, 2] (lv' := [(0, .ref 86), (1, .int v1), (2, .int (v2 + (1 : Int32)))]) rfl ?_
    exact hk44 v1 (v2 + (1 : Int32)) d
  · refine r_aload_n_0 dX10_table_73 rfl ?_
    refine r_iload_n_3 dX10_table_74 rfl ?_
    refine r_callVI (cc := 10) [] (am_X10_octet v3 d) rfl rfl cf_X10_octet mw_X10_325 (by decide) dX10_table_75 rfl (Nat.le_of_ble_eq_true rfl) ⟨rfl, rfl⟩ (fun q27 => ?_)
    refine r_aload_n_0 dX10_table_78 rfl ?_
    refine r_iload_n_2 dX10_table_79 rfl ?_
    refine r_callVI (cc := 10) [.int q27.1] (am_X10_octet v2 q27.2) rfl rfl cf_X10_octet mw_X10_325 (by decide) dX10_table_80 rfl (Nat.le_of_ble_eq_true rfl) ⟨rfl, rfl⟩ (fun q28 => ?_)
    refine r_icmp_ne (tgt := 88) dX10_table_83 (by decide) ?_ ?_
    · refine r_iinc_3 dX10_table_88 ki_1 (by decide) rfl ?_
      refine r_goto (tgt := 68) dX10_table_91 (by decide) ?_
      exact hk68 v1 v2 (v3 + (1 : Int32)) q28.2
    · refine r_iconst dX10_table_86 ki_m1 ?_
      exact r_ireturn dX10_table_87 rfl
theorem w_X10_table_68 {E : XE} (k44 : Int32 → Int32 → DD → Option (Int32 × DD)) (hk44 : ∀ (v1 : Int32) (v2 : Int32) (d : DD), AW E si_X10_table 0 0 (QM E wrI) (k44 v1 v2 d) 44 [(0, .ref 86), (1, .int v1), (2, .int v2)] [] d) (n : Nat) : ∀ (v1 : Int32) (v2 : Int32) (v3 : Int32) (d : DD), AW E si_X10_table 0 0 (QM E wrI) (f_X10_table_68 k44 n v1 v2 v3 d) 68 [(0, .ref 86), (1, .int v1), (2, .int v2), (3, .int v3)] [] d := by
  induction n with
  | zero => intros; exact r_none
  | succ n ih => intro v1 v2 v3 d; exact w_X10_table_68B k44 hk44 (f_X10_table_68 k44 n) ih v1 v2 v3 d
def f_X10_table_44B (k44 : Int32 → Int32 → DD → Option (Int32 × DD)) (v1 : Int32) (v2 : Int32) (d : DD) : Option (Int32 × DD) :=
  if v2 < (d.1 86 3) then
  (f_X10_octet v2 d).bind fun q25 =>
    (f_X10_isPerson q25.1 q25.2).bind fun q26 =>
    if q26.1 = 0 then
    some ((-1 : Int32), q26.2)
    else
    f_X10_table_68 k44 FU v1 v2 (0 : Int32) q26.2
  else
  f_X10_table_102 FU v1 (0 : Int32) d
def f_X10_table_44 : Nat → Int32 → Int32 → DD → Option (Int32 × DD)
  | 0, _, _, _ => none
  | n + 1, v1, v2, d => f_X10_table_44B (f_X10_table_44 n) v1 v2 d
set_option maxRecDepth 100000 in
set_option maxHeartbeats 4000000 in
theorem w_X10_table_44B {E : XE} (k44 : Int32 → Int32 → DD → Option (Int32 × DD)) (hk44 : ∀ (v1 : Int32) (v2 : Int32) (d : DD), AW E si_X10_table 0 0 (QM E wrI) (k44 v1 v2 d) 44 [(0, .ref 86), (1, .int v1), (2, .int v2)] [] d) (v1 : Int32) (v2 : Int32) (d : DD) : AW E si_X10_table 0 0 (QM E wrI) (f_X10_table_44B k44 v1 v2 d) 44 [(0, .ref 86), (1, .int v1), (2, .int v2)] [] d := by
  unfold f_X10_table_44B
  refine r_iload_n_2 dX10_table_44 rfl ?_
  refine r_aload_n_0 dX10_table_45 rfl ?_
  refine r_geti (cc := 10) 3 rfl rfl uX10 (by decide) rfl fw_X10_18 dX10_table_46 ?_
  refine r_icmp_ge (tgt := 100) dX10_table_49 (by decide) ?_ ?_
  · refine r_iconst dX10_table_100 ki_0 ?_
    refine r_istore_n_2 dX10_table_101 rfl (by decide) rfl ?_
    exact w_X10_table_102 FU v1 (0 : Int32) d
  · refine r_aload_n_0 dX10_table_52 rfl ?_
    refine r_aload_n_0 dX10_table_53 rfl ?_
    refine r_iload_n_2 dX10_table_54 rfl ?_
    refine r_callVI (cc := 10) [.ref 86] (am_X10_octet v2 d) rfl rfl cf_X10_octet mw_X10_325 (by decide) dX10_table_55 rfl (Nat.le_of_ble_eq_true rfl) ⟨rfl, rfl⟩ (fun q25 => ?_)
    refine r_callVI (cc := 10) [] (am_X10_isPerson q25.1 q25.2) rfl rfl cf_X10_isPerson mw_X10_248 (by decide) dX10_table_58 rfl (Nat.le_of_ble_eq_true rfl) ⟨rfl, rfl⟩ (fun q26 => ?_)
    refine r_if_ne (tgt := 66) dX10_table_61 (by decide) ?_ ?_
    · refine r_iconst dX10_table_66 ki_0 ?_
      refine r_istore_n_x dX10_table_67 rfl (by decide) rfl ?_
      refine r_sub [1, 2, 3, 0] (lv' := [(0, .ref 86), (1, .int v1), (2, .int v2), (3, .int (0 : Int32))]) rfl ?_
      exact w_X10_table_68 k44 hk44 FU v1 v2 (0 : Int32) q26.2
    · refine r_iconst dX10_table_64 ki_m1 ?_
      exact r_ireturn dX10_table_65 rfl
theorem w_X10_table_44 {E : XE} (n : Nat) : ∀ (v1 : Int32) (v2 : Int32) (d : DD), AW E si_X10_table 0 0 (QM E wrI) (f_X10_table_44 n v1 v2 d) 44 [(0, .ref 86), (1, .int v1), (2, .int v2)] [] d := by
  induction n with
  | zero => intros; exact r_none
  | succ n ih => intro v1 v2 d; exact w_X10_table_44B (f_X10_table_44 n) ih v1 v2 d
def f_X10_table (p1 : Int32) (d : DD) : Option (Int32 × DD) :=
  bd (u1 d 86 0 (0 : Int32)) fun d1 =>
  (f_X10_taken (940 : Int32) d1).bind fun q2 =>
  (f_X10_isKind p1 q2.2).bind fun q3 =>
  if q3.1 = 0 then
  some ((-1 : Int32), q3.2)
  else
  (f_X10_truly p1 q3.2).bind fun q4 =>
    if q4.1 < 0 then
    some ((-1 : Int32), q4.2)
    else
    (f_X10_isIn (q4.2.1 86 3) (1 : Int32) (4 : Int32) q4.2).bind fun q5 =>
      if q5.1 = 0 then
      some ((-1 : Int32), q5.2)
      else
      f_X10_table_44 FU p1 (0 : Int32) q5.2
set_option maxRecDepth 100000 in
set_option maxHeartbeats 4000000 in
theorem am_X10_table (p1 : Int32) (d : DD) : AM wrI mi_X10_table 2 43 [.ref 86, .int p1] d (f_X10_table p1 d) := by
  refine AM_intro (si := si_X10_table) (lv := [(0, .ref 86), (1, .int p1)]) rfl (by decide +kernel) rfl (Nat.le_of_ble_eq_true rfl) (fun E => ?_)
  unfold f_X10_table
  refine r_aload_n_0 dX10_table_0 rfl ?_
  refine r_iconst dX10_table_1 ki_0 ?_
  refine r_puti (cc := 10) 0 tyX10 tyX10_ok nmX10 rfl (by decide +kernel) rfl rfl uX10 (by decide) rfl fw_X10_1 dX10_table_2 ?_
  refine r_bd (fun d1 => ?_)
  refine r_aload_n_0 dX10_table_5 rfl ?_
  refine r_sipush dX10_table_6 ks_940 ?_
  refine r_callVU (cc := 10) [] (am_X10_taken (940 : Int32) d1) rfl rfl cf_X10_taken mw_X10_219 (by decide) dX10_table_9 rfl (Nat.le_of_ble_eq_true rfl) ⟨rfl, rfl⟩ (fun q2 => ?_)
  refine r_aload_n_0 dX10_table_12 rfl ?_
  refine r_iload_n_1 dX10_table_13 rfl ?_
  refine r_callVI (cc := 10) [] (am_X10_isKind p1 q2.2) rfl rfl cf_X10_isKind mw_X10_234 (by decide) dX10_table_14 rfl (Nat.le_of_ble_eq_true rfl) ⟨rfl, rfl⟩ (fun q3 => ?_)
  refine r_if_eq (tgt := 40) dX10_table_17 (by decide) ?_ ?_
  · refine r_iconst dX10_table_40 ki_m1 ?_
    exact r_ireturn dX10_table_41 rfl
  · refine r_aload_n_0 dX10_table_20 rfl ?_
    refine r_iload_n_1 dX10_table_21 rfl ?_
    refine r_callVI (cc := 10) [] (am_X10_truly p1 q3.2) rfl rfl cf_X10_truly mw_X10_241 (by decide) dX10_table_22 rfl (Nat.le_of_ble_eq_true rfl) ⟨rfl, rfl⟩ (fun q4 => ?_)
    refine r_if_lt (tgt := 40) dX10_table_25 (by decide) ?_ ?_
    · refine r_iconst dX10_table_40 ki_m1 ?_
      exact r_ireturn dX10_table_41 rfl
    · refine r_aload_n_0 dX10_table_28 rfl ?_
      refine r_geti (cc := 10) 3 rfl rfl uX10 (by decide) rfl fw_X10_18 dX10_table_29 ?_
      refine r_iconst dX10_table_32 ki_1 ?_
      refine r_iconst dX10_table_33 ki_4 ?_
      refine r_callSI [] (am_X10_isIn (q4.2.1 86 3) (1 : Int32) (4 : Int32) q4.2) cf_X10_isIn mw_X10_172 (by decide) dX10_table_34 rfl (Nat.le_of_ble_eq_true rfl) ⟨rfl, rfl⟩ (fun q5 => ?_)
      refine r_if_ne (tgt := 42) dX10_table_37 (by decide) ?_ ?_
      · refine r_iconst dX10_table_42 ki_0 ?_
        refine r_istore_n_x dX10_table_43 rfl (by decide) rfl ?_
        refine r_sub [1, 2, 0] (lv' := [(0, .ref 86), (1, .int p1), (2, .int (0 : Int32))]) rfl ?_
        exact w_X10_table_44 FU p1 (0 : Int32) q5.2
      · refine r_iconst dX10_table_40 ki_m1 ?_
        exact r_ireturn dX10_table_41 rfl
theorem cf_X10_table : CFv mi_X10_table 1 := ⟨iw_X10_table, vw_X10_table, nw_X10, cw_X10_table, by unfold plainF; decide +kernel⟩
abbrev si_X10_tell : SI := (cX10_tell, RX10, 5, (some .int), 2, 43)
def f_X10_tell (p1 : Int32) (p2 : Int32) (p3 : Int32) (d : DD) : Option (Int32 × DD) :=
  bd (u1 d 86 0 (0 : Int32)) fun d1 =>
  (f_X10_isPerson p1 d1).bind fun q2 =>
  if q2.1 = 0 then
  some ((-1 : Int32), q2.2)
  else
  (f_X10_isHour p2 q2.2).bind fun q3 =>
    if q3.1 = 0 then
    some ((-1 : Int32), q3.2)
    else
    (f_X10_isSet p3 q3.2).bind fun q4 =>
      if q4.1 = 0 then
      some ((-1 : Int32), q4.2)
      else
      if ixb (169 : Int32) (ln 88) then
        if (q4.2.1 88 (169 : Int32).toNatClampNeg) = (40 : Int32) then
          some ((-1 : Int32), q4.2)
          else
          if ixb (169 : Int32) (ln 88) then
            bd ((170 : Int32) + ((3 : Int32) * (q4.2.1 88 (169 : Int32).toNatClampNeg))) fun x5 =>
              if ixb x5 (ln 88) then
              bd (u1 q4.2 88 x5.toNatClampNeg p1) fun d6 =>
              if ixb (x5 + (1 : Int32)) (ln 88) then
                bd (u1 d6 88 (x5 + (1 : Int32)).toNatClampNeg p2) fun d7 =>
                if ixb (x5 + (2 : Int32)) (ln 88) then
                  bd (u1 d7 88 (x5 + (2 : Int32)).toNatClampNeg p3) fun d8 =>
                  if ixb (169 : Int32) (ln 88) then
                    if ixb (169 : Int32) (ln 88) then
                      bd (u1 d8 88 (169 : Int32).toNatClampNeg ((d8.1 88 (169 : Int32).toNatClampNeg) + (1 : Int32))) fun d9 =>
                      if ixb (169 : Int32) (ln 88) then
                        some ((d9.1 88 (169 : Int32).toNatClampNeg) - (1 : Int32), d9)
                        else none
                      else none
                    else none
                  else none
                else none
              else none
            else none
        else none
set_option maxRecDepth 100000 in
set_option maxHeartbeats 4000000 in
theorem am_X10_tell (p1 : Int32) (p2 : Int32) (p3 : Int32) (d : DD) : AM wrI mi_X10_tell 2 43 [.ref 86, .int p1, .int p2, .int p3] d (f_X10_tell p1 p2 p3 d) := by
  refine AM_intro (si := si_X10_tell) (lv := [(0, .ref 86), (1, .int p1), (2, .int p2), (3, .int p3)]) rfl (by decide +kernel) rfl (Nat.le_of_ble_eq_true rfl) (fun E => ?_)
  unfold f_X10_tell
  refine r_aload_n_0 dX10_tell_0 rfl ?_
  refine r_iconst dX10_tell_1 ki_0 ?_
  refine r_puti (cc := 10) 0 tyX10 tyX10_ok nmX10 rfl (by decide +kernel) rfl rfl uX10 (by decide) rfl fw_X10_1 dX10_tell_2 ?_
  refine r_bd (fun d1 => ?_)
  refine r_aload_n_0 dX10_tell_5 rfl ?_
  refine r_iload_n_1 dX10_tell_6 rfl ?_
  refine r_callVI (cc := 10) [] (am_X10_isPerson p1 d1) rfl rfl cf_X10_isPerson mw_X10_248 (by decide) dX10_tell_7 rfl (Nat.le_of_ble_eq_true rfl) ⟨rfl, rfl⟩ (fun q2 => ?_)
  refine r_if_eq (tgt := 41) dX10_tell_10 (by decide) ?_ ?_
  · refine r_iconst dX10_tell_41 ki_m1 ?_
    exact r_ireturn dX10_tell_42 rfl
  · refine r_iload_n_2 dX10_tell_13 rfl ?_
    refine r_callSI [] (am_X10_isHour p2 q2.2) cf_X10_isHour mw_X10_245 (by decide) dX10_tell_14 rfl (Nat.le_of_ble_eq_true rfl) ⟨rfl, rfl⟩ (fun q3 => ?_)
    refine r_if_eq (tgt := 41) dX10_tell_17 (by decide) ?_ ?_
    · refine r_iconst dX10_tell_41 ki_m1 ?_
      exact r_ireturn dX10_tell_42 rfl
    · refine r_aload_n_0 dX10_tell_20 rfl ?_
      refine r_iload_n_3 dX10_tell_21 rfl ?_
      refine r_callVI (cc := 10) [] (am_X10_isSet p3 q3.2) rfl rfl cf_X10_isSet mw_X10_257 (by decide) dX10_tell_22 rfl (Nat.le_of_ble_eq_true rfl) ⟨rfl, rfl⟩ (fun q4 => ?_)
      refine r_if_eq (tgt := 41) dX10_tell_25 (by decide) ?_ ?_
      · refine r_iconst dX10_tell_41 ki_m1 ?_
        exact r_ireturn dX10_tell_42 rfl
      · refine r_aload_n_0 dX10_tell_28 rfl ?_
        refine r_getr (t := 88) (cc := 10) 6 rfl rfl uX10 (by decide) rfl fw_X10_41 rfl dX10_tell_29 ?_
        refine r_sipush dX10_tell_32 ks_169 ?_
        refine r_iaload rfl dX10_tell_35 ?_
        refine r_bipush dX10_tell_36 kb_40 ?_
        refine r_icmp_ne (tgt := 43) dX10_tell_38 (by decide) ?_ ?_
        · refine r_sipush dX10_tell_43 ks_170 ?_
          refine r_iconst dX10_tell_46 ki_3 ?_
          refine r_aload_n_0 dX10_tell_47 rfl ?_
          refine r_getr (t := 88) (cc := 10) 6 rfl rfl uX10 (by decide) rfl fw_X10_41 rfl dX10_tell_48 ?_
          refine r_sipush dX10_tell_51 ks_169 ?_
          refine r_iaload rfl dX10_tell_54 ?_
          refine r_imul dX10_tell_55 ?_
          refine r_iadd dX10_tell_56 ?_
          refine r_bdI (fun x5 => ?_)
          refine r_istore_w_x dX10_tell_57 (by decide) rfl ?_
          refine r_aload_n_1 dX10_tell_59 rfl ?_
          refine r_getr (t := 88) (cc := 10) 6 rfl rfl uX10 (by decide) rfl fw_X10_41 rfl dX10_tell_60 ?_
          refine r_iload_w_0 dX10_tell_63 ?_
          refine r_iload_n_2 dX10_tell_65 rfl ?_
          refine r_iastore rfl dX10_tell_66 ?_
          refine r_bd (fun d6 => ?_)
          refine r_aload_n_1 dX10_tell_67 rfl ?_
          refine r_getr (t := 88) (cc := 10) 6 rfl rfl uX10 (by decide) rfl fw_X10_41 rfl dX10_tell_68 ?_
          refine r_iload_w_0 dX10_tell_71 ?_
          refine r_iconst dX10_tell_73 ki_1 ?_
          refine r_iadd dX10_tell_74 ?_
          refine r_iload_n_3 dX10_tell_75 rfl ?_
          refine r_iastore rfl dX10_tell_76 ?_
          refine r_bd (fun d7 => ?_)
          refine r_aload_n_1 dX10_tell_77 rfl ?_
          refine r_getr (t := 88) (cc := 10) 6 rfl rfl uX10 (by decide) rfl fw_X10_41 rfl dX10_tell_78 ?_
          refine r_iload_w_0 dX10_tell_81 ?_
          refine r_iconst dX10_tell_83 ki_2 ?_
          refine r_iadd dX10_tell_84 ?_
          refine r_iload_n_4 dX10_tell_85 rfl ?_
          refine r_iastore rfl dX10_tell_86 ?_
          refine r_bd (fun d8 => ?_)
          refine r_aload_n_1 dX10_tell_87 rfl ?_
          refine r_getr (t := 88) (cc := 10) 6 rfl rfl uX10 (by decide) rfl fw_X10_41 rfl dX10_tell_88 ?_
          refine r_sipush dX10_tell_91 ks_169 ?_
          refine r_dup2ia dX10_tell_94 ?_
          refine r_iaload rfl dX10_tell_95 ?_
          refine r_iconst dX10_tell_96 ki_1 ?_
          refine r_iadd dX10_tell_97 ?_
          refine r_iastore rfl dX10_tell_98 ?_
          refine r_bd (fun d9 => ?_)
          refine r_aload_n_1 dX10_tell_99 rfl ?_
          refine r_getr (t := 88) (cc := 10) 6 rfl rfl uX10 (by decide) rfl fw_X10_41 rfl dX10_tell_100 ?_
          refine r_sipush dX10_tell_103 ks_169 ?_
          refine r_iaload rfl dX10_tell_106 ?_
          refine r_iconst dX10_tell_107 ki_1 ?_
          refine r_isub dX10_tell_108 ?_
          exact r_ireturn dX10_tell_109 rfl
        · refine r_iconst dX10_tell_41 ki_m1 ?_
          exact r_ireturn dX10_tell_42 rfl
theorem cf_X10_tell : CFv mi_X10_tell 3 := ⟨iw_X10_tell, vw_X10_tell, nw_X10, cw_X10_tell, by unfold plainF; decide +kernel⟩
abbrev si_X10_telling : SI := (cX10_telling, RX10, 3, (some .int), 1, 22)
def f_X10_telling (p1 : Int32) (p2 : Int32) (d : DD) : Option (Int32 × DD) :=
  if ixb (169 : Int32) (ln 88) then
  (f_X10_isIn p1 (0 : Int32) ((d.1 88 (169 : Int32).toNatClampNeg) - (1 : Int32)) d).bind fun q1 =>
    if q1.1 = 0 then
    (f_X10_throwsIf (1 : Int32) q1.2).bind fun q2 =>
      if q2.1 = 0 then
      if ixb (((170 : Int32) + ((3 : Int32) * p1)) + p2) (ln 88) then
        some (q2.2.1 88 (((170 : Int32) + ((3 : Int32) * p1)) + p2).toNatClampNeg, q2.2)
        else none
      else
      some ((0 : Int32), q2.2)
    else
    (f_X10_isIn p2 (0 : Int32) (2 : Int32) q1.2).bind fun q3 =>
      if q3.1 = 0 then
      (f_X10_throwsIf (1 : Int32) q3.2).bind fun q5 =>
        if q5.1 = 0 then
        if ixb (((170 : Int32) + ((3 : Int32) * p1)) + p2) (ln 88) then
          some (q5.2.1 88 (((170 : Int32) + ((3 : Int32) * p1)) + p2).toNatClampNeg, q5.2)
          else none
        else
        some ((0 : Int32), q5.2)
      else
      (f_X10_throwsIf (0 : Int32) q3.2).bind fun q4 =>
        if q4.1 = 0 then
        if ixb (((170 : Int32) + ((3 : Int32) * p1)) + p2) (ln 88) then
          some (q4.2.1 88 (((170 : Int32) + ((3 : Int32) * p1)) + p2).toNatClampNeg, q4.2)
          else none
        else
        some ((0 : Int32), q4.2)
  else none
set_option maxRecDepth 100000 in
set_option maxHeartbeats 4000000 in
theorem am_X10_telling (p1 : Int32) (p2 : Int32) (d : DD) : AM wrI mi_X10_telling 1 22 [.ref 86, .int p1, .int p2] d (f_X10_telling p1 p2 d) := by
  refine AM_intro (si := si_X10_telling) (lv := [(0, .ref 86), (1, .int p1), (2, .int p2)]) rfl (by decide +kernel) rfl (Nat.le_of_ble_eq_true rfl) (fun E => ?_)
  unfold f_X10_telling
  refine r_aload_n_0 dX10_telling_0 rfl ?_
  refine r_iload_n_1 dX10_telling_1 rfl ?_
  refine r_iconst dX10_telling_2 ki_0 ?_
  refine r_aload_n_0 dX10_telling_3 rfl ?_
  refine r_getr (t := 88) (cc := 10) 6 rfl rfl uX10 (by decide) rfl fw_X10_41 rfl dX10_telling_4 ?_
  refine r_sipush dX10_telling_7 ks_169 ?_
  refine r_iaload rfl dX10_telling_10 ?_
  refine r_iconst dX10_telling_11 ki_1 ?_
  refine r_isub dX10_telling_12 ?_
  refine r_callSI [.ref 86] (am_X10_isIn p1 (0 : Int32) ((d.1 88 (169 : Int32).toNatClampNeg) - (1 : Int32)) d) cf_X10_isIn mw_X10_172 (by decide) dX10_telling_13 rfl (Nat.le_of_ble_eq_true rfl) ⟨rfl, rfl⟩ (fun q1 => ?_)
  refine r_if_eq (tgt := 28) dX10_telling_16 (by decide) ?_ ?_
  · refine r_iconst dX10_telling_28 ki_1 ?_
    refine r_goto (tgt := 33) dX10_telling_29 (by decide) ?_
    refine r_callVI (cc := 10) [] (am_X10_throwsIf (1 : Int32) q1.2) rfl rfl cf_X10_throwsIf mw_X10_237 (by decide) dX10_telling_33 rfl (Nat.le_of_ble_eq_true rfl) ⟨rfl, rfl⟩ (fun q2 => ?_)
    refine r_if_eq (tgt := 43) dX10_telling_36 (by decide) ?_ ?_
    · refine r_aload_n_0 dX10_telling_43 rfl ?_
      refine r_getr (t := 88) (cc := 10) 6 rfl rfl uX10 (by decide) rfl fw_X10_41 rfl dX10_telling_44 ?_
      refine r_sipush dX10_telling_47 ks_170 ?_
      refine r_iconst dX10_telling_50 ki_3 ?_
      refine r_iload_n_1 dX10_telling_51 rfl ?_
      refine r_imul dX10_telling_52 ?_
      refine r_iadd dX10_telling_53 ?_
      refine r_iload_n_2 dX10_telling_54 rfl ?_
      refine r_iadd dX10_telling_55 ?_
      refine r_iaload rfl dX10_telling_56 ?_
      exact r_ireturn dX10_telling_57 rfl
    · refine r_iconst dX10_telling_39 ki_0 ?_
      refine r_goto (tgt := 57) dX10_telling_40 (by decide) ?_
      exact r_ireturn dX10_telling_57 rfl
  · refine r_iload_n_2 dX10_telling_19 rfl ?_
    refine r_iconst dX10_telling_20 ki_0 ?_
    refine r_iconst dX10_telling_21 ki_2 ?_
    refine r_callSI [.ref 86] (am_X10_isIn p2 (0 : Int32) (2 : Int32) q1.2) cf_X10_isIn mw_X10_172 (by decide) dX10_telling_22 rfl (Nat.le_of_ble_eq_true rfl) ⟨rfl, rfl⟩ (fun q3 => ?_)
    refine r_if_ne (tgt := 32) dX10_telling_25 (by decide) ?_ ?_
    · refine r_iconst dX10_telling_32 ki_0 ?_
      refine r_callVI (cc := 10) [] (am_X10_throwsIf (0 : Int32) q3.2) rfl rfl cf_X10_throwsIf mw_X10_237 (by decide) dX10_telling_33 rfl (Nat.le_of_ble_eq_true rfl) ⟨rfl, rfl⟩ (fun q4 => ?_)
      refine r_if_eq (tgt := 43) dX10_telling_36 (by decide) ?_ ?_
      · refine r_aload_n_0 dX10_telling_43 rfl ?_
        refine r_getr (t := 88) (cc := 10) 6 rfl rfl uX10 (by decide) rfl fw_X10_41 rfl dX10_telling_44 ?_
        refine r_sipush dX10_telling_47 ks_170 ?_
        refine r_iconst dX10_telling_50 ki_3 ?_
        refine r_iload_n_1 dX10_telling_51 rfl ?_
        refine r_imul dX10_telling_52 ?_
        refine r_iadd dX10_telling_53 ?_
        refine r_iload_n_2 dX10_telling_54 rfl ?_
        refine r_iadd dX10_telling_55 ?_
        refine r_iaload rfl dX10_telling_56 ?_
        exact r_ireturn dX10_telling_57 rfl
      · refine r_iconst dX10_telling_39 ki_0 ?_
        refine r_goto (tgt := 57) dX10_telling_40 (by decide) ?_
        exact r_ireturn dX10_telling_57 rfl
    · refine r_iconst dX10_telling_28 ki_1 ?_
      refine r_goto (tgt := 33) dX10_telling_29 (by decide) ?_
      refine r_callVI (cc := 10) [] (am_X10_throwsIf (1 : Int32) q3.2) rfl rfl cf_X10_throwsIf mw_X10_237 (by decide) dX10_telling_33 rfl (Nat.le_of_ble_eq_true rfl) ⟨rfl, rfl⟩ (fun q5 => ?_)
      refine r_if_eq (tgt := 43) dX10_telling_36 (by decide) ?_ ?_
      · refine r_aload_n_0 dX10_telling_43 rfl ?_
        refine r_getr (t := 88) (cc := 10) 6 rfl rfl uX10 (by decide) rfl fw_X10_41 rfl dX10_telling_44 ?_
        refine r_sipush dX10_telling_47 ks_170 ?_
        refine r_iconst dX10_telling_50 ki_3 ?_
        refine r_iload_n_1 dX10_telling_51 rfl ?_
        refine r_imul dX10_telling_52 ?_
        refine r_iadd dX10_telling_53 ?_
        refine r_iload_n_2 dX10_telling_54 rfl ?_
        refine r_iadd dX10_telling_55 ?_
        refine r_iaload rfl dX10_telling_56 ?_
        exact r_ireturn dX10_telling_57 rfl
      · refine r_iconst dX10_telling_39 ki_0 ?_
        refine r_goto (tgt := 57) dX10_telling_40 (by decide) ?_
        exact r_ireturn dX10_telling_57 rfl
theorem cf_X10_telling : CFv mi_X10_telling 2 := ⟨iw_X10_telling, vw_X10_telling, nw_X10, cw_X10_telling, by unfold plainF; decide +kernel⟩
abbrev si_X10_tellings : SI := (cX10_tellings, RX10, 2, (some .int), 4, 88)
def f_X10_tellings_83B (k83 : Int32 → DD → Option (Int32 × DD)) (v1 : Int32) (d : DD) : Option (Int32 × DD) :=
  if v1 < ((3 : Int32) * (d.1 86 23)) then
  if ixb v1 (ln 90) then
    if ixb ((170 : Int32) + v1) (ln 88) then
      bd (u1 d 88 ((170 : Int32) + v1).toNatClampNeg (d.1 90 v1.toNatClampNeg)) fun d7 =>
      k83 (v1 + (1 : Int32)) d7
      else none
    else none
  else
  some (d.1 86 23, d)
def f_X10_tellings_83 : Nat → Int32 → DD → Option (Int32 × DD)
  | 0, _, _ => none
  | n + 1, v1, d => f_X10_tellings_83B (f_X10_tellings_83 n) v1 d
set_option maxRecDepth 100000 in
set_option maxHeartbeats 4000000 in
theorem w_X10_tellings_83B {E : XE} (k83 : Int32 → DD → Option (Int32 × DD)) (hk83 : ∀ (v1 : Int32) (d : DD), AW E si_X10_tellings 0 0 (QM E wrI) (k83 v1 d) 83 [(0, .ref 86), (1, .int v1)] [] d) (v1 : Int32) (d : DD) : AW E si_X10_tellings 0 0 (QM E wrI) (f_X10_tellings_83B k83 v1 d) 83 [(0, .ref 86), (1, .int v1)] [] d := by
  unfold f_X10_tellings_83B
  refine r_iload_n_1 dX10_tellings_83 rfl ?_
  refine r_iconst dX10_tellings_84 ki_3 ?_
  refine r_aload_n_0 dX10_tellings_85 rfl ?_
  refine r_geti (cc := 10) 23 rfl rfl uX10 (by decide) rfl fw_X10_251 dX10_tellings_86 ?_
  refine r_imul dX10_tellings_89 ?_
  refine r_icmp_ge (tgt := 115) dX10_tellings_90 (by decide) ?_ ?_
  · refine r_aload_n_0 dX10_tellings_115 rfl ?_
    refine r_geti (cc := 10) 23 rfl rfl uX10 (by decide) rfl fw_X10_251 dX10_tellings_116 ?_
    exact r_ireturn dX10_tellings_119 rfl
  · refine r_aload_n_0 dX10_tellings_93 rfl ?_
    refine r_getr (t := 88) (cc := 10) 6 rfl rfl uX10 (by decide) rfl fw_X10_41 rfl dX10_tellings_94 ?_
    refine r_sipush dX10_tellings_97 ks_170 ?_
    refine r_iload_n_1 dX10_tellings_100 rfl ?_
    refine r_iadd dX10_tellings_101 ?_
    refine r_aload_n_0 dX10_tellings_102 rfl ?_
    refine r_getr (t := 90) (cc := 10) 8 rfl rfl uX10 (by decide) rfl fw_X10_48 rfl dX10_tellings_103 ?_
    refine r_iload_n_1 dX10_tellings_106 rfl ?_
    refine r_iaload rfl dX10_tellings_107 ?_
    refine r_iastore rfl dX10_tellings_108 ?_
    refine r_bd (fun d7 => ?_)
    refine r_iinc_1 dX10_tellings_109 ki_1 (by decide) rfl ?_
    refine r_goto (tgt := 83) dX10_tellings_112 (by decide) ?_
    exact hk83 (v1 + (1 : Int32)) d7
theorem w_X10_tellings_83 {E : XE} (n : Nat) : ∀ (v1 : Int32) (d : DD), AW E si_X10_tellings 0 0 (QM E wrI) (f_X10_tellings_83 n v1 d) 83 [(0, .ref 86), (1, .int v1)] [] d := by
  induction n with
  | zero => intros; exact r_none
  | succ n ih => intro v1 d; exact w_X10_tellings_83B (f_X10_tellings_83 n) ih v1 d
def f_X10_tellings_26B (k26 : DD → Option (Int32 × DD)) (d : DD) : Option (Int32 × DD) :=
  if (d.1 86 12) = 0 then
  if ixb (169 : Int32) (ln 88) then
    bd (u1 d 88 (169 : Int32).toNatClampNeg (d.1 86 23)) fun d6 =>
    f_X10_tellings_83 FU (0 : Int32) d6
    else none
  else
  (f_X10_readTelling d).bind fun q8 =>
    if q8.1 = 0 then
    some ((-1 : Int32) - (q8.2.1 86 17), q8.2)
    else
    (f_X10_sign (59 : Int32) q8.2).bind fun q9 =>
      if q9.1 = 0 then
      some ((-1 : Int32) - (q9.2.1 86 17), q9.2)
      else
      bd (u1 q9.2 86 23 ((q9.2.1 86 23) + (1 : Int32))) fun d10 =>
        k26 d10
def f_X10_tellings_26 : Nat → DD → Option (Int32 × DD)
  | 0, _ => none
  | n + 1, d => f_X10_tellings_26B (f_X10_tellings_26 n) d
set_option maxRecDepth 100000 in
set_option maxHeartbeats 4000000 in
theorem w_X10_tellings_26B {E : XE} (k26 : DD → Option (Int32 × DD)) (hk26 : ∀ (d : DD), AW E si_X10_tellings 0 0 (QM E wrI) (k26 d) 26 [(0, .ref 86)] [] d) (d : DD) : AW E si_X10_tellings 0 0 (QM E wrI) (f_X10_tellings_26B k26 d) 26 [(0, .ref 86)] [] d := by
  unfold f_X10_tellings_26B
  refine r_aload_n_0 dX10_tellings_26 rfl ?_
  refine r_geti (cc := 10) 12 rfl rfl uX10 (by decide) rfl fw_X10_140 dX10_tellings_27 ?_
  refine r_if_eq (tgt := 69) dX10_tellings_30 (by decide) ?_ ?_
  · refine r_aload_n_0 dX10_tellings_69 rfl ?_
    refine r_getr (t := 88) (cc := 10) 6 rfl rfl uX10 (by decide) rfl fw_X10_41 rfl dX10_tellings_70 ?_
    refine r_sipush dX10_tellings_73 ks_169 ?_
    refine r_aload_n_0 dX10_tellings_76 rfl ?_
    refine r_geti (cc := 10) 23 rfl rfl uX10 (by decide) rfl fw_X10_251 dX10_tellings_77 ?_
    refine r_iastore rfl dX10_tellings_80 ?_
    refine r_bd (fun d6 => ?_)
    refine r_iconst dX10_tellings_81 ki_0 ?_
    refine r_istore_n_x dX10_tellings_82 rfl (by decide) rfl ?_
    refine r_sub [1, 0] (lv' := [(0, .ref 86), (1, .int (0 : Int32))]) rfl ?_
    exact w_X10_tellings_83 FU (0 : Int32) d6
  · refine r_aload_n_0 dX10_tellings_33 rfl ?_
    refine r_callVI (cc := 10) [] (am_X10_readTelling d) rfl rfl cf_X10_readTelling mw_X10_254 (by decide) dX10_tellings_34 rfl (Nat.le_of_ble_eq_true rfl) ⟨rfl, rfl⟩ (fun q8 => ?_)
    refine r_if_eq (tgt := 49) dX10_tellings_37 (by decide) ?_ ?_
    · refine r_iconst dX10_tellings_49 ki_m1 ?_
      refine r_aload_n_0 dX10_tellings_50 rfl ?_
      refine r_geti (cc := 10) 17 rfl rfl uX10 (by decide) rfl fw_X10_160 dX10_tellings_51 ?_
      refine r_isub dX10_tellings_54 ?_
      exact r_ireturn dX10_tellings_55 rfl
    · refine r_aload_n_0 dX10_tellings_40 rfl ?_
      refine r_bipush dX10_tellings_41 kb_59 ?_
      refine r_callVI (cc := 10) [] (am_X10_sign (59 : Int32) q8.2) rfl rfl cf_X10_sign mw_X10_228 (by decide) dX10_tellings_43 rfl (Nat.le_of_ble_eq_true rfl) ⟨rfl, rfl⟩ (fun q9 => ?_)
      refine r_if_ne (tgt := 56) dX10_tellings_46 (by decide) ?_ ?_
      · refine r_aload_n_0 dX10_tellings_56 rfl ?_
        refine r_dupa dX10_tellings_57 ?_
        refine r_geti (cc := 10) 23 rfl rfl uX10 (by decide) rfl fw_X10_251 dX10_tellings_58 ?_
        refine r_iconst dX10_tellings_61 ki_1 ?_
        refine r_iadd dX10_tellings_62 ?_
        refine r_puti (cc := 10) 23 tyX10 tyX10_ok nmX10 rfl (by decide +kernel) rfl rfl uX10 (by decide) rfl fw_X10_251 dX10_tellings_63 ?_
        refine r_bd (fun d10 => ?_)
        refine r_goto (tgt := 26) dX10_tellings_66 (by decide) ?_
        exact hk26 d10
      · refine r_iconst dX10_tellings_49 ki_m1 ?_
        refine r_aload_n_0 dX10_tellings_50 rfl ?_
        refine r_geti (cc := 10) 17 rfl rfl uX10 (by decide) rfl fw_X10_160 dX10_tellings_51 ?_
        refine r_isub dX10_tellings_54 ?_
        exact r_ireturn dX10_tellings_55 rfl
theorem w_X10_tellings_26 {E : XE} (n : Nat) : ∀ (d : DD), AW E si_X10_tellings 0 0 (QM E wrI) (f_X10_tellings_26 n d) 26 [(0, .ref 86)] [] d := by
  induction n with
  | zero => intros; exact r_none
  | succ n ih => intro d; exact w_X10_tellings_26B (f_X10_tellings_26 n) ih d
def f_X10_tellings (d : DD) : Option (Int32 × DD) :=
  bd (u1 d 86 0 (0 : Int32)) fun d1 =>
  (f_X10_taken (600 : Int32) d1).bind fun q2 =>
  bd (u1 q2.2 86 16 (0 : Int32)) fun d3 =>
  bd (u1 d3 86 23 (0 : Int32)) fun d4 =>
  (f_X10_skip d4).bind fun q5 =>
  f_X10_tellings_26 FU q5.2
set_option maxRecDepth 100000 in
set_option maxHeartbeats 4000000 in
theorem am_X10_tellings (d : DD) : AM wrI mi_X10_tellings 4 88 [.ref 86] d (f_X10_tellings d) := by
  refine AM_intro (si := si_X10_tellings) (lv := [(0, .ref 86)]) rfl (by decide +kernel) rfl (Nat.le_of_ble_eq_true rfl) (fun E => ?_)
  unfold f_X10_tellings
  refine r_aload_n_0 dX10_tellings_0 rfl ?_
  refine r_iconst dX10_tellings_1 ki_0 ?_
  refine r_puti (cc := 10) 0 tyX10 tyX10_ok nmX10 rfl (by decide +kernel) rfl rfl uX10 (by decide) rfl fw_X10_1 dX10_tellings_2 ?_
  refine r_bd (fun d1 => ?_)
  refine r_aload_n_0 dX10_tellings_5 rfl ?_
  refine r_sipush dX10_tellings_6 ks_600 ?_
  refine r_callVU (cc := 10) [] (am_X10_taken (600 : Int32) d1) rfl rfl cf_X10_taken mw_X10_219 (by decide) dX10_tellings_9 rfl (Nat.le_of_ble_eq_true rfl) ⟨rfl, rfl⟩ (fun q2 => ?_)
  refine r_aload_n_0 dX10_tellings_12 rfl ?_
  refine r_iconst dX10_tellings_13 ki_0 ?_
  refine r_puti (cc := 10) 16 tyX10 tyX10_ok nmX10 rfl (by decide +kernel) rfl rfl uX10 (by decide) rfl fw_X10_157 dX10_tellings_14 ?_
  refine r_bd (fun d3 => ?_)
  refine r_aload_n_0 dX10_tellings_17 rfl ?_
  refine r_iconst dX10_tellings_18 ki_0 ?_
  refine r_puti (cc := 10) 23 tyX10 tyX10_ok nmX10 rfl (by decide +kernel) rfl rfl uX10 (by decide) rfl fw_X10_251 dX10_tellings_19 ?_
  refine r_bd (fun d4 => ?_)
  refine r_aload_n_0 dX10_tellings_22 rfl ?_
  refine r_callVU (cc := 10) [] (am_X10_skip d4) rfl rfl cf_X10_skip mw_X10_169 (by decide) dX10_tellings_23 rfl (Nat.le_of_ble_eq_true rfl) ⟨rfl, rfl⟩ (fun q5 => ?_)
  exact w_X10_tellings_26 FU q5.2
theorem cf_X10_tellings : CFv mi_X10_tellings 0 := ⟨iw_X10_tellings, vw_X10_tellings, nw_X10, cw_X10_tellings, by unfold plainF; decide +kernel⟩
abbrev si_X10_thrown : SI := (cX10_thrown, RX10, 1, (some .int), 0, 0)
def f_X10_thrown (d : DD) : Option (Int32 × DD) :=
  some (d.1 86 0, d)
set_option maxRecDepth 100000 in
set_option maxHeartbeats 4000000 in
theorem am_X10_thrown (d : DD) : AM wrI mi_X10_thrown 0 0 [.ref 86] d (f_X10_thrown d) := by
  refine AM_intro (si := si_X10_thrown) (lv := [(0, .ref 86)]) rfl (by decide +kernel) rfl (Nat.le_of_ble_eq_true rfl) (fun E => ?_)
  unfold f_X10_thrown
  refine r_aload_n_0 dX10_thrown_0 rfl ?_
  refine r_geti (cc := 10) 0 rfl rfl uX10 (by decide) rfl fw_X10_1 dX10_thrown_1 ?_
  exact r_ireturn dX10_thrown_4 rfl
theorem cf_X10_thrown : CFv mi_X10_thrown 0 := ⟨iw_X10_thrown, vw_X10_thrown, nw_X10, cw_X10_thrown, by unfold plainF; decide +kernel⟩
abbrev si_X10_trades : SI := (cX10_trades, RX10, 7, (some .boolean), 1, 23)
def f_X10_trades_12B (k2 : Int32 → DD → Option (Int32 × DD)) (k12 : Int32 → Int32 → DD → Option (Int32 × DD)) (v1 : Int32) (v2 : Int32) (d : DD) : Option (Int32 × DD) :=
  if v2 < (30 : Int32) then
  if ixb ((19 : Int32) + v1) (ln 88) then
    bd ((d.1 88 ((19 : Int32) + v1).toNatClampNeg) - (1 : Int32)) fun x2 =>
      if ixb ((19 : Int32) + v2) (ln 88) then
      bd ((d.1 88 ((19 : Int32) + v2).toNatClampNeg) - (1 : Int32)) fun x3 =>
        if x2 < 0 then
        k12 v1 (v2 + (1 : Int32)) d
        else
        if x3 < 0 then
          k12 v1 (v2 + (1 : Int32)) d
          else
          if x2 = x3 then
            k12 v1 (v2 + (1 : Int32)) d
            else
            (f_X10_wantOf x2 v2 d).bind fun q4 =>
              (f_X10_wantOf x2 v1 q4.2).bind fun q5 =>
              bd (q4.1 - q5.1) fun x6 =>
              (f_X10_wantOf x3 v1 q5.2).bind fun q7 =>
              (f_X10_wantOf x3 v2 q7.2).bind fun q8 =>
              bd (q7.1 - q8.1) fun x9 =>
              if x6 < 0 then
              k12 v1 (v2 + (1 : Int32)) q8.2
              else
              if x9 < 0 then
                k12 v1 (v2 + (1 : Int32)) q8.2
                else
                if (x6 + x9) = 0 then
                  k12 v1 (v2 + (1 : Int32)) q8.2
                  else
                  if ixb ((19 : Int32) + v1) (ln 88) then
                    bd (u1 q8.2 88 ((19 : Int32) + v1).toNatClampNeg (x3 + (1 : Int32))) fun d10 =>
                    if ixb ((19 : Int32) + v2) (ln 88) then
                      bd (u1 d10 88 ((19 : Int32) + v2).toNatClampNeg (x2 + (1 : Int32))) fun d11 =>
                      some ((1 : Int32), d11)
                      else none
                    else none
      else none
    else none
  else
  k2 (v1 + (1 : Int32)) d
def f_X10_trades_12 (k2 : Int32 → DD → Option (Int32 × DD)) : Nat → Int32 → Int32 → DD → Option (Int32 × DD)
  | 0, _, _, _ => none
  | n + 1, v1, v2, d => f_X10_trades_12B k2 (f_X10_trades_12 k2 n) v1 v2 d
set_option maxRecDepth 100000 in
set_option maxHeartbeats 4000000 in
theorem w_X10_trades_12B {E : XE} (k2 : Int32 → DD → Option (Int32 × DD)) (hk2 : ∀ (v1 : Int32) (d : DD), AW E si_X10_trades 0 0 (QM E wrI) (k2 v1 d) 2 [(0, .ref 86), (1, .int v1)] [] d) (k12 : Int32 → Int32 → DD → Option (Int32 × DD)) (hk12 : ∀ (v1 : Int32) (v2 : Int32) (d : DD), AW E si_X10_trades 0 0 (QM E wrI) (k12 v1 v2 d) 12 [(0, .ref 86), (1, .int v1), (2, .int v2)] [] d) (v1 : Int32) (v2 : Int32) (d : DD) : AW E si_X10_trades 0 0 (QM E wrI) (f_X10_trades_12B k2 k12 v1 v2 d) 12 [(0, .ref 86), (1, .int v1), (2, .int v2)] [] d := by
  unfold f_X10_trades_12B
  refine r_iload_n_2 dX10_trades_12 rfl ?_
  refine r_bipush dX10_trades_13 kb_30 ?_
  refine r_icmp_ge (tgt := 147) dX10_trades_15 (by decide) ?_ ?_
  · refine r_iinc_1 dX10_trades_147 ki_1 (by decide) rfl ?_
    refine r_goto (tgt := 2) dX10_trades_150 (by decide) ?_
    refine r_sub [0, 1] (lv' := [(0, .ref 86), (1, .int (v1 + (1 : Int32)))]) rfl ?_
    exact hk2 (v1 + (1 : Int32)) d
  · refine r_aload_n_0 dX10_trades_18 rfl ?_
    refine r_getr (t := 88) (cc := 10) 6 rfl rfl uX10 (by decide) rfl fw_X10_41 rfl dX10_trades_19 ?_
    refine r_bipush dX10_trades_22 kb_19 ?_
    refine r_iload_n_1 dX10_trades_24 rfl ?_
    refine r_iadd dX10_trades_25 ?_
    refine r_iaload rfl dX10_trades_26 ?_
    refine r_iconst dX10_trades_27 ki_1 ?_
    refine r_isub dX10_trades_28 ?_
    refine r_bdI (fun x2 => ?_)
    refine r_istore_n_x dX10_trades_29 rfl (by decide) rfl ?_
    refine r_aload_n_1 dX10_trades_30 rfl ?_
    refine r_getr (t := 88) (cc := 10) 6 rfl rfl uX10 (by decide) rfl fw_X10_41 rfl dX10_trades_31 ?_
    refine r_bipush dX10_trades_34 kb_19 ?_
    refine r_iload_n_3 dX10_trades_36 rfl ?_
    refine r_iadd dX10_trades_37 ?_
    refine r_iaload rfl dX10_trades_38 ?_
    refine r_iconst dX10_trades_39 ki_1 ?_
    refine r_isub dX10_trades_40 ?_
    refine r_bdI (fun x3 => ?_)
    refine r_istore_w_x dX10_trades_41 (by decide) rfl ?_
    refine r_iload_n_1 dX10_trades_43 rfl ?_
    refine r_if_lt (tgt := 141) dX10_trades_44 (by decide) ?_ ?_
    · refine r_iinc_4 dX10_trades_141 ki_1 (by decide) rfl ?_
      refine r_goto (tgt := 12) dX10_trades_144 (by decide) ?_
      refine r_sub [2, 3, 4] (lv' := [(0, .ref 86), (1, .int v1), (2, .int (v2 + (1 : Int32)))]) rfl ?_
      exact hk12 v1 (v2 + (1 : Int32)) d
    · refine r_iload_w_0 dX10_trades_47 ?_
      refine r_if_lt (tgt := 141) dX10_trades_49 (by decide) ?_ ?_
      · refine r_iinc_4 dX10_trades_141 ki_1 (by decide) rfl ?_
        refine r_goto (tgt := 12) dX10_trades_144 (by decide) ?_
        refine r_sub [2, 3, 4] (lv' := [(0, .ref 86), (1, .int v1), (2, .int (v2 + (1 : Int32)))]) rfl ?_
        exact hk12 v1 (v2 + (1 : Int32)) d
      · refine r_iload_n_1 dX10_trades_52 rfl ?_
        refine r_iload_w_0 dX10_trades_53 ?_
        refine r_icmp_ne (tgt := 61) dX10_trades_55 (by decide) ?_ ?_
        · refine r_aload_n_2 dX10_trades_61 rfl ?_
          refine r_iload_n_1 dX10_trades_62 rfl ?_
          refine r_iload_n_4 dX10_trades_63 rfl ?_
          refine r_callVI (cc := 10) [] (am_X10_wantOf x2 v2 d) rfl rfl cf_X10_wantOf mw_X10_342 (by decide) dX10_trades_64 rfl (Nat.le_of_ble_eq_true rfl) ⟨rfl, rfl⟩ (fun q4 => ?_)
          refine r_aload_n_2 dX10_trades_67 rfl ?_
          refine r_iload_n_1 dX10_trades_68 rfl ?_
          refine r_iload_n_3 dX10_trades_69 rfl ?_
          refine r_callVI (cc := 10) [.int q4.1] (am_X10_wantOf x2 v1 q4.2) rfl rfl cf_X10_wantOf mw_X10_342 (by decide) dX10_trades_70 rfl (Nat.le_of_ble_eq_true rfl) ⟨rfl, rfl⟩ (fun q5 => ?_)
          refine r_isub dX10_trades_73 ?_
          refine r_bdI (fun x6 => ?_)
          refine r_istore_w_x dX10_trades_74 (by decide) rfl ?_
          refine r_aload_n_3 dX10_trades_76 rfl ?_
          refine r_iload_w_1 dX10_trades_77 ?_
          refine r_iload_n_4 dX10_trades_79 rfl ?_
          refine r_callVI (cc := 10) [] (am_X10_wantOf x3 v1 q5.2) rfl rfl cf_X10_wantOf mw_X10_342 (by decide) dX10_trades_80 rfl (Nat.le_of_ble_eq_true rfl) ⟨rfl, rfl⟩ (fun q7 => ?_)
          refine r_aload_n_3 dX10_trades_83 rfl ?_
          refine r_iload_w_1 dX10_trades_84 ?_
          refine r_iload_n_5 dX10_trades_86 rfl ?_
          refine r_callVI (cc := 10) [.int q7.1] (am_X10_wantOf x3 v2 q7.2) rfl rfl cf_X10_wantOf mw_X10_342 (by decide) dX10_trades_87 rfl (Nat.le_of_ble_eq_true rfl) ⟨rfl, rfl⟩ (fun q8 => ?_)
          refine r_isub dX10_trades_90 ?_
          refine r_bdI (fun x9 => ?_)
          refine r_istore_w_x dX10_trades_91 (by decide) rfl ?_
          refine r_iload_w_1 dX10_trades_93 ?_
          refine r_if_lt (tgt := 141) dX10_trades_95 (by decide) ?_ ?_
          · refine r_iinc_6 dX10_trades_141 ki_1 (by decide) rfl ?_
            refine r_goto (tgt := 12) dX10_trades_144 (by decide) ?_
            refine r_sub [4, 5, 6] (lv' := [(0, .ref 86), (1, .int v1), (2, .int (v2 + (1 : Int32)))]) rfl ?_
            exact hk12 v1 (v2 + (1 : Int32)) q8.2
          · refine r_iload_w_0 dX10_trades_98 ?_
            refine r_if_lt (tgt := 141) dX10_trades_100 (by decide) ?_ ?_
            · refine r_iinc_6 dX10_trades_141 ki_1 (by decide) rfl ?_
              refine r_goto (tgt := 12) dX10_trades_144 (by decide) ?_
              refine r_sub [4, 5, 6] (lv' := [(0, .ref 86), (1, .int v1), (2, .int (v2 + (1 : Int32)))]) rfl ?_
              exact hk12 v1 (v2 + (1 : Int32)) q8.2
            · refine r_iload_w_1 dX10_trades_103 ?_
              refine r_iload_w_0 dX10_trades_105 ?_
              refine r_iadd dX10_trades_107 ?_
              refine r_if_ne (tgt := 114) dX10_trades_108 (by decide) ?_ ?_
              · refine r_aload_n_4 dX10_trades_114 rfl ?_
                refine r_getr (t := 88) (cc := 10) 6 rfl rfl uX10 (by decide) rfl fw_X10_41 rfl dX10_trades_115 ?_
                refine r_bipush dX10_trades_118 kb_19 ?_
                refine r_iload_n_5 dX10_trades_120 rfl ?_
                refine r_iadd dX10_trades_121 ?_
                refine r_iload_w_2 dX10_trades_122 ?_
                refine r_iconst dX10_trades_124 ki_1 ?_
                refine r_iadd dX10_trades_125 ?_
                refine r_iastore rfl dX10_trades_126 ?_
                refine r_bd (fun d10 => ?_)
                refine r_aload_n_4 dX10_trades_127 rfl ?_
                refine r_getr (t := 88) (cc := 10) 6 rfl rfl uX10 (by decide) rfl fw_X10_41 rfl dX10_trades_128 ?_
                refine r_bipush dX10_trades_131 kb_19 ?_
                refine r_iload_n_6 dX10_trades_133 rfl ?_
                refine r_iadd dX10_trades_134 ?_
                refine r_iload_n_3 dX10_trades_135 rfl ?_
                refine r_iconst dX10_trades_136 ki_1 ?_
                refine r_iadd dX10_trades_137 ?_
                refine r_iastore rfl dX10_trades_138 ?_
                refine r_bd (fun d11 => ?_)
                refine r_iconst dX10_trades_139 ki_1 ?_
                exact r_zreturn dX10_trades_140 rfl rfl
              · refine r_goto (tgt := 141) dX10_trades_111 (by decide) ?_
                refine r_iinc_6 dX10_trades_141 ki_1 (by decide) rfl ?_
                refine r_goto (tgt := 12) dX10_trades_144 (by decide) ?_
                refine r_sub [4, 5, 6] (lv' := [(0, .ref 86), (1, .int v1), (2, .int (v2 + (1 : Int32)))]) rfl ?_
                exact hk12 v1 (v2 + (1 : Int32)) q8.2
        · refine r_goto (tgt := 141) dX10_trades_58 (by decide) ?_
          refine r_iinc_4 dX10_trades_141 ki_1 (by decide) rfl ?_
          refine r_goto (tgt := 12) dX10_trades_144 (by decide) ?_
          refine r_sub [2, 3, 4] (lv' := [(0, .ref 86), (1, .int v1), (2, .int (v2 + (1 : Int32)))]) rfl ?_
          exact hk12 v1 (v2 + (1 : Int32)) d
theorem w_X10_trades_12 {E : XE} (k2 : Int32 → DD → Option (Int32 × DD)) (hk2 : ∀ (v1 : Int32) (d : DD), AW E si_X10_trades 0 0 (QM E wrI) (k2 v1 d) 2 [(0, .ref 86), (1, .int v1)] [] d) (n : Nat) : ∀ (v1 : Int32) (v2 : Int32) (d : DD), AW E si_X10_trades 0 0 (QM E wrI) (f_X10_trades_12 k2 n v1 v2 d) 12 [(0, .ref 86), (1, .int v1), (2, .int v2)] [] d := by
  induction n with
  | zero => intros; exact r_none
  | succ n ih => intro v1 v2 d; exact w_X10_trades_12B k2 hk2 (f_X10_trades_12 k2 n) ih v1 v2 d
def f_X10_trades_2B (k2 : Int32 → DD → Option (Int32 × DD)) (v1 : Int32) (d : DD) : Option (Int32 × DD) :=
  if v1 < (30 : Int32) then
  bd (v1 + (1 : Int32)) fun x1 =>
    f_X10_trades_12 k2 FU v1 x1 d
  else
  some ((0 : Int32), d)
def f_X10_trades_2 : Nat → Int32 → DD → Option (Int32 × DD)
  | 0, _, _ => none
  | n + 1, v1, d => f_X10_trades_2B (f_X10_trades_2 n) v1 d
set_option maxRecDepth 100000 in
set_option maxHeartbeats 4000000 in
theorem w_X10_trades_2B {E : XE} (k2 : Int32 → DD → Option (Int32 × DD)) (hk2 : ∀ (v1 : Int32) (d : DD), AW E si_X10_trades 0 0 (QM E wrI) (k2 v1 d) 2 [(0, .ref 86), (1, .int v1)] [] d) (v1 : Int32) (d : DD) : AW E si_X10_trades 0 0 (QM E wrI) (f_X10_trades_2B k2 v1 d) 2 [(0, .ref 86), (1, .int v1)] [] d := by
  unfold f_X10_trades_2B
  refine r_iload_n_1 dX10_trades_2 rfl ?_
  refine r_bipush dX10_trades_3 kb_30 ?_
  refine r_icmp_ge (tgt := 153) dX10_trades_5 (by decide) ?_ ?_
  · refine r_iconst dX10_trades_153 ki_0 ?_
    exact r_zreturn dX10_trades_154 rfl rfl
  · refine r_iload_n_1 dX10_trades_8 rfl ?_
    refine r_iconst dX10_trades_9 ki_1 ?_
    refine r_iadd dX10_trades_10 ?_
    refine r_bdI (fun x1 => ?_)
    refine r_istore_n_x dX10_trades_11 rfl (by decide) rfl ?_
    refine r_sub [1, 2, 0] (lv' := [(0, .ref 86), (1, .int v1), (2, .int x1)]) rfl ?_
    exact w_X10_trades_12 k2 hk2 FU v1 x1 d
theorem w_X10_trades_2 {E : XE} (n : Nat) : ∀ (v1 : Int32) (d : DD), AW E si_X10_trades 0 0 (QM E wrI) (f_X10_trades_2 n v1 d) 2 [(0, .ref 86), (1, .int v1)] [] d := by
  induction n with
  | zero => intros; exact r_none
  | succ n ih => intro v1 d; exact w_X10_trades_2B (f_X10_trades_2 n) ih v1 d
def f_X10_trades (d : DD) : Option (Int32 × DD) :=
  f_X10_trades_2 FU (0 : Int32) d
set_option maxRecDepth 100000 in
set_option maxHeartbeats 4000000 in
theorem am_X10_trades (d : DD) : AM wrI mi_X10_trades 1 23 [.ref 86] d (f_X10_trades d) := by
  refine AM_intro (si := si_X10_trades) (lv := [(0, .ref 86)]) rfl (by decide +kernel) rfl (Nat.le_of_ble_eq_true rfl) (fun E => ?_)
  unfold f_X10_trades
  refine r_iconst dX10_trades_0 ki_0 ?_
  refine r_istore_n_x dX10_trades_1 rfl (by decide) rfl ?_
  refine r_sub [1, 0] (lv' := [(0, .ref 86), (1, .int (0 : Int32))]) rfl ?_
  exact w_X10_trades_2 FU (0 : Int32) d
theorem cf_X10_trades : CFv mi_X10_trades 0 := ⟨iw_X10_trades, vw_X10_trades, nw_X10, cw_X10_trades, by unfold plainF; decide +kernel⟩
abbrev si_X10_trade : SI := (cX10_trade, RX10, 2, (some .int), 2, 49)
def f_X10_trade_7B (k7 : Int32 → DD → Option (Int32 × DD)) (v1 : Int32) (d : DD) : Option (Int32 × DD) :=
  if v1 < (100 : Int32) then
  (f_X10_trades d).bind fun q2 =>
    if q2.1 = 0 then
    some (v1, q2.2)
    else
    k7 (v1 + (1 : Int32)) q2.2
  else
  some (v1, d)
def f_X10_trade_7 : Nat → Int32 → DD → Option (Int32 × DD)
  | 0, _, _ => none
  | n + 1, v1, d => f_X10_trade_7B (f_X10_trade_7 n) v1 d
set_option maxRecDepth 100000 in
set_option maxHeartbeats 4000000 in
theorem w_X10_trade_7B {E : XE} (k7 : Int32 → DD → Option (Int32 × DD)) (hk7 : ∀ (v1 : Int32) (d : DD), AW E si_X10_trade 0 0 (QM E wrI) (k7 v1 d) 7 [(0, .ref 86), (1, .int v1)] [] d) (v1 : Int32) (d : DD) : AW E si_X10_trade 0 0 (QM E wrI) (f_X10_trade_7B k7 v1 d) 7 [(0, .ref 86), (1, .int v1)] [] d := by
  unfold f_X10_trade_7B
  refine r_iload_n_1 dX10_trade_7 rfl ?_
  refine r_bipush dX10_trade_8 kb_100 ?_
  refine r_icmp_ge (tgt := 26) dX10_trade_10 (by decide) ?_ ?_
  · refine r_iload_n_1 dX10_trade_26 rfl ?_
    exact r_ireturn dX10_trade_27 rfl
  · refine r_aload_n_0 dX10_trade_13 rfl ?_
    refine r_callVI (cc := 10) [] (am_X10_trades d) rfl rfl cf_X10_trades mw_X10_345 (by decide) dX10_trade_14 rfl (Nat.le_of_ble_eq_true rfl) ⟨rfl, rfl⟩ (fun q2 => ?_)
    refine r_if_eq (tgt := 26) dX10_trade_17 (by decide) ?_ ?_
    · refine r_iload_n_1 dX10_trade_26 rfl ?_
      exact r_ireturn dX10_trade_27 rfl
    · refine r_iinc_1 dX10_trade_20 ki_1 (by decide) rfl ?_
      refine r_goto (tgt := 7) dX10_trade_23 (by decide) ?_
      exact hk7 (v1 + (1 : Int32)) q2.2
theorem w_X10_trade_7 {E : XE} (n : Nat) : ∀ (v1 : Int32) (d : DD), AW E si_X10_trade 0 0 (QM E wrI) (f_X10_trade_7 n v1 d) 7 [(0, .ref 86), (1, .int v1)] [] d := by
  induction n with
  | zero => intros; exact r_none
  | succ n ih => intro v1 d; exact w_X10_trade_7B (f_X10_trade_7 n) ih v1 d
def f_X10_trade (d : DD) : Option (Int32 × DD) :=
  bd (u1 d 86 0 (0 : Int32)) fun d1 =>
  f_X10_trade_7 FU (0 : Int32) d1
set_option maxRecDepth 100000 in
set_option maxHeartbeats 4000000 in
theorem am_X10_trade (d : DD) : AM wrI mi_X10_trade 2 49 [.ref 86] d (f_X10_trade d) := by
  refine AM_intro (si := si_X10_trade) (lv := [(0, .ref 86)]) rfl (by decide +kernel) rfl (Nat.le_of_ble_eq_true rfl) (fun E => ?_)
  unfold f_X10_trade
  refine r_aload_n_0 dX10_trade_0 rfl ?_
  refine r_iconst dX10_trade_1 ki_0 ?_
  refine r_puti (cc := 10) 0 tyX10 tyX10_ok nmX10 rfl (by decide +kernel) rfl rfl uX10 (by decide) rfl fw_X10_1 dX10_trade_2 ?_
  refine r_bd (fun d1 => ?_)
  refine r_iconst dX10_trade_5 ki_0 ?_
  refine r_istore_n_x dX10_trade_6 rfl (by decide) rfl ?_
  refine r_sub [1, 0] (lv' := [(0, .ref 86), (1, .int (0 : Int32))]) rfl ?_
  exact w_X10_trade_7 FU (0 : Int32) d1
theorem cf_X10_trade : CFv mi_X10_trade 0 := ⟨iw_X10_trade, vw_X10_trade, nw_X10, cw_X10_trade, by unfold plainF; decide +kernel⟩
abbrev si_X10_turn : SI := (cX10_turn, RX10, 2, (some .int), 2, 42)
def f_X10_turn (p1 : Int32) (d : DD) : Option (Int32 × DD) :=
  bd (u1 d 86 0 (0 : Int32)) fun d1 =>
  (f_X10_isHour p1 d1).bind fun q2 =>
  if q2.1 = 0 then
  some ((-1 : Int32), q2.2)
  else
  if ixb ((19 : Int32) + p1) (ln 88) then
    some ((q2.2.1 88 ((19 : Int32) + p1).toNatClampNeg) - (1 : Int32), q2.2)
    else none
set_option maxRecDepth 100000 in
set_option maxHeartbeats 4000000 in
theorem am_X10_turn (p1 : Int32) (d : DD) : AM wrI mi_X10_turn 2 42 [.ref 86, .int p1] d (f_X10_turn p1 d) := by
  refine AM_intro (si := si_X10_turn) (lv := [(0, .ref 86), (1, .int p1)]) rfl (by decide +kernel) rfl (Nat.le_of_ble_eq_true rfl) (fun E => ?_)
  unfold f_X10_turn
  refine r_aload_n_0 dX10_turn_0 rfl ?_
  refine r_iconst dX10_turn_1 ki_0 ?_
  refine r_puti (cc := 10) 0 tyX10 tyX10_ok nmX10 rfl (by decide +kernel) rfl rfl uX10 (by decide) rfl fw_X10_1 dX10_turn_2 ?_
  refine r_bd (fun d1 => ?_)
  refine r_iload_n_1 dX10_turn_5 rfl ?_
  refine r_callSI [] (am_X10_isHour p1 d1) cf_X10_isHour mw_X10_245 (by decide) dX10_turn_6 rfl (Nat.le_of_ble_eq_true rfl) ⟨rfl, rfl⟩ (fun q2 => ?_)
  refine r_if_eq (tgt := 26) dX10_turn_9 (by decide) ?_ ?_
  · refine r_iconst dX10_turn_26 ki_m1 ?_
    exact r_ireturn dX10_turn_27 rfl
  · refine r_aload_n_0 dX10_turn_12 rfl ?_
    refine r_getr (t := 88) (cc := 10) 6 rfl rfl uX10 (by decide) rfl fw_X10_41 rfl dX10_turn_13 ?_
    refine r_bipush dX10_turn_16 kb_19 ?_
    refine r_iload_n_1 dX10_turn_18 rfl ?_
    refine r_iadd dX10_turn_19 ?_
    refine r_iaload rfl dX10_turn_20 ?_
    refine r_iconst dX10_turn_21 ki_1 ?_
    refine r_isub dX10_turn_22 ?_
    refine r_goto (tgt := 27) dX10_turn_23 (by decide) ?_
    exact r_ireturn dX10_turn_27 rfl
theorem cf_X10_turn : CFv mi_X10_turn 1 := ⟨iw_X10_turn, vw_X10_turn, nw_X10, cw_X10_turn, by unfold plainF; decide +kernel⟩
abbrev si_X10_untell : SI := (cX10_untell, RX10, 1, (some .int), 0, 0)
def f_X10_untell (d : DD) : Option (Int32 × DD) :=
  bd (u1 d 86 0 (0 : Int32)) fun d1 =>
  if ixb (169 : Int32) (ln 88) then
  if (d1.1 88 (169 : Int32).toNatClampNeg) = 0 then
    some ((-1 : Int32), d1)
    else
    if ixb (169 : Int32) (ln 88) then
      if ixb (169 : Int32) (ln 88) then
        bd (u1 d1 88 (169 : Int32).toNatClampNeg ((d1.1 88 (169 : Int32).toNatClampNeg) - (1 : Int32))) fun d2 =>
        if ixb (169 : Int32) (ln 88) then
          some (d2.1 88 (169 : Int32).toNatClampNeg, d2)
          else none
        else none
      else none
  else none
set_option maxRecDepth 100000 in
set_option maxHeartbeats 4000000 in
theorem am_X10_untell (d : DD) : AM wrI mi_X10_untell 0 0 [.ref 86] d (f_X10_untell d) := by
  refine AM_intro (si := si_X10_untell) (lv := [(0, .ref 86)]) rfl (by decide +kernel) rfl (Nat.le_of_ble_eq_true rfl) (fun E => ?_)
  unfold f_X10_untell
  refine r_aload_n_0 dX10_untell_0 rfl ?_
  refine r_iconst dX10_untell_1 ki_0 ?_
  refine r_puti (cc := 10) 0 tyX10 tyX10_ok nmX10 rfl (by decide +kernel) rfl rfl uX10 (by decide) rfl fw_X10_1 dX10_untell_2 ?_
  refine r_bd (fun d1 => ?_)
  refine r_aload_n_0 dX10_untell_5 rfl ?_
  refine r_getr (t := 88) (cc := 10) 6 rfl rfl uX10 (by decide) rfl fw_X10_41 rfl dX10_untell_6 ?_
  refine r_sipush dX10_untell_9 ks_169 ?_
  refine r_iaload rfl dX10_untell_12 ?_
  refine r_if_ne (tgt := 18) dX10_untell_13 (by decide) ?_ ?_
  · refine r_aload_n_0 dX10_untell_18 rfl ?_
    refine r_getr (t := 88) (cc := 10) 6 rfl rfl uX10 (by decide) rfl fw_X10_41 rfl dX10_untell_19 ?_
    refine r_sipush dX10_untell_22 ks_169 ?_
    refine r_dup2ia dX10_untell_25 ?_
    refine r_iaload rfl dX10_untell_26 ?_
    refine r_iconst dX10_untell_27 ki_1 ?_
    refine r_isub dX10_untell_28 ?_
    refine r_iastore rfl dX10_untell_29 ?_
    refine r_bd (fun d2 => ?_)
    refine r_aload_n_0 dX10_untell_30 rfl ?_
    refine r_getr (t := 88) (cc := 10) 6 rfl rfl uX10 (by decide) rfl fw_X10_41 rfl dX10_untell_31 ?_
    refine r_sipush dX10_untell_34 ks_169 ?_
    refine r_iaload rfl dX10_untell_37 ?_
    exact r_ireturn dX10_untell_38 rfl
  · refine r_iconst dX10_untell_16 ki_m1 ?_
    exact r_ireturn dX10_untell_17 rfl
theorem cf_X10_untell : CFv mi_X10_untell 0 := ⟨iw_X10_untell, vw_X10_untell, nw_X10, cw_X10_untell, by unfold plainF; decide +kernel⟩
abbrev si_X10_waysOf : SI := (cX10_waysOf, RX10, 5, (some .long), 3, 78)
def f_X10_waysOf_74 (k53 : Int32 → Int32 → Int64 → DD → Option (Int64 × DD)) (v1 : Int32) (v2 : Int32) (t0 : Int64) (t1 : Int64) (d : DD) : Option (Int64 × DD) :=
  bd (t1 + t0) fun x6 =>
  (f_X10_nextWays d).bind fun q7 =>
  if q7.1 = 0 then
  some (x6, q7.2)
  else
  k53 v1 v2 x6 q7.2
set_option maxRecDepth 100000 in
set_option maxHeartbeats 4000000 in
theorem w_X10_waysOf_74 {E : XE} (k53 : Int32 → Int32 → Int64 → DD → Option (Int64 × DD)) (hk53 : ∀ (v1 : Int32) (v2 : Int32) (v3 : Int64) (d : DD), AW E si_X10_waysOf 0 0 (QM E wrL) (k53 v1 v2 v3 d) 53 [(0, .ref 86), (1, .int v1), (2, .int v2), (3, .long v3)] [] d) (v1 : Int32) (v2 : Int32) (t0 : Int64) (t1 : Int64) (d : DD) : AW E si_X10_waysOf 0 0 (QM E wrL) (f_X10_waysOf_74 k53 v1 v2 t0 t1 d) 74 [(0, .ref 86), (1, .int v1), (2, .int v2)] [.long t0, .long t1] d := by
  unfold f_X10_waysOf_74
  refine r_ladd dX10_waysOf_74 ?_
  refine r_bdJ (fun x6 => ?_)
  refine r_lstore_n_x dX10_waysOf_75 rfl (by decide) rfl ?_
  refine r_aload_n_1 dX10_waysOf_76 rfl ?_
  refine r_callVI (cc := 10) [] (am_X10_nextWays d) rfl rfl cf_X10_nextWays mw_X10_280 (by decide) dX10_waysOf_77 rfl (Nat.le_of_ble_eq_true rfl) ⟨rfl, rfl⟩ (fun q7 => ?_)
  refine r_if_ne (tgt := 53) dX10_waysOf_80 (by decide) ?_ ?_
  · refine r_sub [1, 2, 3, 0] (lv' := [(0, .ref 86), (1, .int v1), (2, .int v2), (3, .long x6)]) rfl ?_
    exact hk53 v1 v2 x6 q7.2
  · refine r_lload_n_0 dX10_waysOf_83 rfl ?_
    exact r_lreturn dX10_waysOf_84 rfl
def f_X10_waysOf_53B (k53 : Int32 → Int32 → Int64 → DD → Option (Int64 × DD)) (v1 : Int32) (v2 : Int32) (v3 : Int64) (d : DD) : Option (Int64 × DD) :=
  if ixb v1 (ln 98) then
  if (d.1 98 v1.toNatClampNeg) = v2 then
    (f_X10_worldsNow (-1 : Int32) (-1 : Int32) d).bind fun q8 =>
      f_X10_waysOf_74 k53 v1 v2 q8.1 v3 q8.2
    else
    f_X10_waysOf_74 k53 v1 v2 (0 : Int64) v3 d
  else none
def f_X10_waysOf_53 : Nat → Int32 → Int32 → Int64 → DD → Option (Int64 × DD)
  | 0, _, _, _, _ => none
  | n + 1, v1, v2, v3, d => f_X10_waysOf_53B (f_X10_waysOf_53 n) v1 v2 v3 d
set_option maxRecDepth 100000 in
set_option maxHeartbeats 4000000 in
theorem w_X10_waysOf_53B {E : XE} (k53 : Int32 → Int32 → Int64 → DD → Option (Int64 × DD)) (hk53 : ∀ (v1 : Int32) (v2 : Int32) (v3 : Int64) (d : DD), AW E si_X10_waysOf 0 0 (QM E wrL) (k53 v1 v2 v3 d) 53 [(0, .ref 86), (1, .int v1), (2, .int v2), (3, .long v3)] [] d) (v1 : Int32) (v2 : Int32) (v3 : Int64) (d : DD) : AW E si_X10_waysOf 0 0 (QM E wrL) (f_X10_waysOf_53B k53 v1 v2 v3 d) 53 [(0, .ref 86), (1, .int v1), (2, .int v2), (3, .long v3)] [] d := by
  unfold f_X10_waysOf_53B
  refine r_lload_n_3 dX10_waysOf_53 rfl ?_
  refine r_aload_n_0 dX10_waysOf_54 rfl ?_
  refine r_getr (t := 98) (cc := 10) 26 rfl rfl uX10 (by decide) rfl fw_X10_73 rfl dX10_waysOf_55 ?_
  refine r_iload_n_1 dX10_waysOf_58 rfl ?_
  refine r_iaload rfl dX10_waysOf_59 ?_
  refine r_iload_n_2 dX10_waysOf_60 rfl ?_
  refine r_icmp_ne (tgt := 73) dX10_waysOf_61 (by decide) ?_ ?_
  · refine r_lconst dX10_waysOf_73 kl_0 ?_
    refine r_sub [0, 1, 2] (lv' := [(0, .ref 86), (1, .int v1), (2, .int v2)]) rfl ?_
    exact w_X10_waysOf_74 k53 hk53 v1 v2 (0 : Int64) v3 d
  · refine r_aload_n_0 dX10_waysOf_64 rfl ?_
    refine r_iconst dX10_waysOf_65 ki_m1 ?_
    refine r_iconst dX10_waysOf_66 ki_m1 ?_
    refine r_callVL (cc := 10) [.long v3] (am_X10_worldsNow (-1 : Int32) (-1 : Int32) d) rfl rfl cf_X10_worldsNow mw_X10_276 (by decide) dX10_waysOf_67 rfl (Nat.le_of_ble_eq_true rfl) ⟨rfl, rfl⟩ (fun q8 => ?_)
    refine r_goto (tgt := 74) dX10_waysOf_70 (by decide) ?_
    refine r_sub [0, 1, 2] (lv' := [(0, .ref 86), (1, .int v1), (2, .int v2)]) rfl ?_
    exact w_X10_waysOf_74 k53 hk53 v1 v2 q8.1 v3 q8.2
theorem w_X10_waysOf_53 {E : XE} (n : Nat) : ∀ (v1 : Int32) (v2 : Int32) (v3 : Int64) (d : DD), AW E si_X10_waysOf 0 0 (QM E wrL) (f_X10_waysOf_53 n v1 v2 v3 d) 53 [(0, .ref 86), (1, .int v1), (2, .int v2), (3, .long v3)] [] d := by
  induction n with
  | zero => intros; exact r_none
  | succ n ih => intro v1 v2 v3 d; exact w_X10_waysOf_53B (f_X10_waysOf_53 n) ih v1 v2 v3 d
def f_X10_waysOf (p1 : Int32) (p2 : Int32) (d : DD) : Option (Int64 × DD) :=
  bd (u1 d 86 0 (0 : Int32)) fun d1 =>
  (f_X10_isPerson p1 d1).bind fun q2 =>
  if q2.1 = 0 then
  some ((-1 : Int64), q2.2)
  else
  if ixb (0 : Int32) (ln 88) then
    (f_X10_isIn p2 (0 : Int32) ((1 : Int32) + ((2 : Int32) * (q2.2.1 88 (0 : Int32).toNatClampNeg))) q2.2).bind fun q3 =>
      if q3.1 = 0 then
      some ((-1 : Int64), q3.2)
      else
      if ixb (169 : Int32) (ln 88) then
        (f_X10_letAll (q3.2.1 88 (169 : Int32).toNatClampNeg) q3.2).bind fun q4 =>
          (f_X10_firstWays q4.2).bind fun q5 =>
          f_X10_waysOf_53 FU p1 p2 (0 : Int64) q5.2
        else none
    else none
set_option maxRecDepth 100000 in
set_option maxHeartbeats 4000000 in
theorem am_X10_waysOf (p1 : Int32) (p2 : Int32) (d : DD) : AM wrL mi_X10_waysOf 3 78 [.ref 86, .int p1, .int p2] d (f_X10_waysOf p1 p2 d) := by
  refine AM_intro (si := si_X10_waysOf) (lv := [(0, .ref 86), (1, .int p1), (2, .int p2)]) rfl (by decide +kernel) rfl (Nat.le_of_ble_eq_true rfl) (fun E => ?_)
  unfold f_X10_waysOf
  refine r_aload_n_0 dX10_waysOf_0 rfl ?_
  refine r_iconst dX10_waysOf_1 ki_0 ?_
  refine r_puti (cc := 10) 0 tyX10 tyX10_ok nmX10 rfl (by decide +kernel) rfl rfl uX10 (by decide) rfl fw_X10_1 dX10_waysOf_2 ?_
  refine r_bd (fun d1 => ?_)
  refine r_aload_n_0 dX10_waysOf_5 rfl ?_
  refine r_iload_n_1 dX10_waysOf_6 rfl ?_
  refine r_callVI (cc := 10) [] (am_X10_isPerson p1 d1) rfl rfl cf_X10_isPerson mw_X10_248 (by decide) dX10_waysOf_7 rfl (Nat.le_of_ble_eq_true rfl) ⟨rfl, rfl⟩ (fun q2 => ?_)
  refine r_if_eq (tgt := 31) dX10_waysOf_10 (by decide) ?_ ?_
  · refine r_ldc2 dX10_waysOf_31 kw_X10_291 ?_
    exact r_lreturn dX10_waysOf_34 rfl
  · refine r_iload_n_2 dX10_waysOf_13 rfl ?_
    refine r_iconst dX10_waysOf_14 ki_0 ?_
    refine r_iconst dX10_waysOf_15 ki_1 ?_
    refine r_iconst dX10_waysOf_16 ki_2 ?_
    refine r_aload_n_0 dX10_waysOf_17 rfl ?_
    refine r_getr (t := 88) (cc := 10) 6 rfl rfl uX10 (by decide) rfl fw_X10_41 rfl dX10_waysOf_18 ?_
    refine r_iconst dX10_waysOf_21 ki_0 ?_
    refine r_iaload rfl dX10_waysOf_22 ?_
    refine r_imul dX10_waysOf_23 ?_
    refine r_iadd dX10_waysOf_24 ?_
    refine r_callSI [] (am_X10_isIn p2 (0 : Int32) ((1 : Int32) + ((2 : Int32) * (q2.2.1 88 (0 : Int32).toNatClampNeg))) q2.2) cf_X10_isIn mw_X10_172 (by decide) dX10_waysOf_25 rfl (Nat.le_of_ble_eq_true rfl) ⟨rfl, rfl⟩ (fun q3 => ?_)
    refine r_if_ne (tgt := 35) dX10_waysOf_28 (by decide) ?_ ?_
    · refine r_aload_n_0 dX10_waysOf_35 rfl ?_
      refine r_aload_n_0 dX10_waysOf_36 rfl ?_
      refine r_getr (t := 88) (cc := 10) 6 rfl rfl uX10 (by decide) rfl fw_X10_41 rfl dX10_waysOf_37 ?_
      refine r_sipush dX10_waysOf_40 ks_169 ?_
      refine r_iaload rfl dX10_waysOf_43 ?_
      refine r_callVU (cc := 10) [] (am_X10_letAll (q3.2.1 88 (169 : Int32).toNatClampNeg) q3.2) rfl rfl cf_X10_letAll mw_X10_270 (by decide) dX10_waysOf_44 rfl (Nat.le_of_ble_eq_true rfl) ⟨rfl, rfl⟩ (fun q4 => ?_)
      refine r_lconst dX10_waysOf_47 kl_0 ?_
      refine r_lstore_n_x dX10_waysOf_48 rfl (by decide) rfl ?_
      refine r_aload_n_1 dX10_waysOf_49 rfl ?_
      refine r_callVU (cc := 10) [] (am_X10_firstWays q4.2) rfl rfl cf_X10_firstWays mw_X10_273 (by decide) dX10_waysOf_50 rfl (Nat.le_of_ble_eq_true rfl) ⟨rfl, rfl⟩ (fun q5 => ?_)
      refine r_sub [1, 2, 3, 0] (lv' := [(0, .ref 86), (1, .int p1), (2, .int p2), (3, .long (0 : Int64))]) rfl ?_
      exact w_X10_waysOf_53 FU p1 p2 (0 : Int64) q5.2
    · refine r_ldc2 dX10_waysOf_31 kw_X10_291 ?_
      exact r_lreturn dX10_waysOf_34 rfl
theorem cf_X10_waysOf : CFv mi_X10_waysOf 2 := ⟨iw_X10_waysOf, vw_X10_waysOf, nw_X10, cw_X10_waysOf, by unfold plainF; decide +kernel⟩
abbrev si_X10_worlds : SI := (cX10_worlds, RX10, 1, (some .long), 4, 101)
def f_X10_worlds (d : DD) : Option (Int64 × DD) :=
  bd (u1 d 86 0 (0 : Int32)) fun d1 =>
  if ixb (169 : Int32) (ln 88) then
  (f_X10_worldsBy (d1.1 88 (169 : Int32).toNatClampNeg) d1).bind fun q2 =>
    some (q2.1, q2.2)
  else none
set_option maxRecDepth 100000 in
set_option maxHeartbeats 4000000 in
theorem am_X10_worlds (d : DD) : AM wrL mi_X10_worlds 4 101 [.ref 86] d (f_X10_worlds d) := by
  refine AM_intro (si := si_X10_worlds) (lv := [(0, .ref 86)]) rfl (by decide +kernel) rfl (Nat.le_of_ble_eq_true rfl) (fun E => ?_)
  unfold f_X10_worlds
  refine r_aload_n_0 dX10_worlds_0 rfl ?_
  refine r_iconst dX10_worlds_1 ki_0 ?_
  refine r_puti (cc := 10) 0 tyX10 tyX10_ok nmX10 rfl (by decide +kernel) rfl rfl uX10 (by decide) rfl fw_X10_1 dX10_worlds_2 ?_
  refine r_bd (fun d1 => ?_)
  refine r_aload_n_0 dX10_worlds_5 rfl ?_
  refine r_aload_n_0 dX10_worlds_6 rfl ?_
  refine r_getr (t := 88) (cc := 10) 6 rfl rfl uX10 (by decide) rfl fw_X10_41 rfl dX10_worlds_7 ?_
  refine r_sipush dX10_worlds_10 ks_169 ?_
  refine r_iaload rfl dX10_worlds_13 ?_
  refine r_callVL (cc := 10) [] (am_X10_worldsBy (d1.1 88 (169 : Int32).toNatClampNeg) d1) rfl rfl cf_X10_worldsBy mw_X10_283 (by decide) dX10_worlds_14 rfl (Nat.le_of_ble_eq_true rfl) ⟨rfl, rfl⟩ (fun q2 => ?_)
  exact r_lreturn dX10_worlds_17 rfl
theorem cf_X10_worlds : CFv mi_X10_worlds 0 := ⟨iw_X10_worlds, vw_X10_worlds, nw_X10, cw_X10_worlds, by unfold plainF; decide +kernel⟩
abbrev si_X10_worldsOf : SI := (cX10_worldsOf, RX10, 3, (some .long), 4, 103)
def f_X10_worldsOf (p1 : Int32) (p2 : Int32) (d : DD) : Option (Int64 × DD) :=
  bd (u1 d 86 0 (0 : Int32)) fun d1 =>
  (f_X10_isKind p1 d1).bind fun q2 =>
  if q2.1 = 0 then
  some ((-1 : Int64), q2.2)
  else
  if ixb p1 (ln 95) then
    (f_X10_isIn p2 (0 : Int32) ((q2.2.1 95 p1.toNatClampNeg) - (1 : Int32)) q2.2).bind fun q3 =>
      if q3.1 = 0 then
      some ((-1 : Int64), q3.2)
      else
      (f_X10_worldsIn p1 ((1 : Int64) <<< (p2.toInt64 &&& 63)) q3.2).bind fun q4 =>
        some (q4.1, q4.2)
    else none
set_option maxRecDepth 100000 in
set_option maxHeartbeats 4000000 in
theorem am_X10_worldsOf (p1 : Int32) (p2 : Int32) (d : DD) : AM wrL mi_X10_worldsOf 4 103 [.ref 86, .int p1, .int p2] d (f_X10_worldsOf p1 p2 d) := by
  refine AM_intro (si := si_X10_worldsOf) (lv := [(0, .ref 86), (1, .int p1), (2, .int p2)]) rfl (by decide +kernel) rfl (Nat.le_of_ble_eq_true rfl) (fun E => ?_)
  unfold f_X10_worldsOf
  refine r_aload_n_0 dX10_worldsOf_0 rfl ?_
  refine r_iconst dX10_worldsOf_1 ki_0 ?_
  refine r_puti (cc := 10) 0 tyX10 tyX10_ok nmX10 rfl (by decide +kernel) rfl rfl uX10 (by decide) rfl fw_X10_1 dX10_worldsOf_2 ?_
  refine r_bd (fun d1 => ?_)
  refine r_aload_n_0 dX10_worldsOf_5 rfl ?_
  refine r_iload_n_1 dX10_worldsOf_6 rfl ?_
  refine r_callVI (cc := 10) [] (am_X10_isKind p1 d1) rfl rfl cf_X10_isKind mw_X10_234 (by decide) dX10_worldsOf_7 rfl (Nat.le_of_ble_eq_true rfl) ⟨rfl, rfl⟩ (fun q2 => ?_)
  refine r_if_eq (tgt := 40) dX10_worldsOf_10 (by decide) ?_ ?_
  · refine r_ldc2 dX10_worldsOf_40 kw_X10_291 ?_
    exact r_lreturn dX10_worldsOf_43 rfl
  · refine r_iload_n_2 dX10_worldsOf_13 rfl ?_
    refine r_iconst dX10_worldsOf_14 ki_0 ?_
    refine r_aload_n_0 dX10_worldsOf_15 rfl ?_
    refine r_getr (t := 95) (cc := 10) 22 rfl rfl uX10 (by decide) rfl fw_X10_64 rfl dX10_worldsOf_16 ?_
    refine r_iload_n_1 dX10_worldsOf_19 rfl ?_
    refine r_iaload rfl dX10_worldsOf_20 ?_
    refine r_iconst dX10_worldsOf_21 ki_1 ?_
    refine r_isub dX10_worldsOf_22 ?_
    refine r_callSI [] (am_X10_isIn p2 (0 : Int32) ((q2.2.1 95 p1.toNatClampNeg) - (1 : Int32)) q2.2) cf_X10_isIn mw_X10_172 (by decide) dX10_worldsOf_23 rfl (Nat.le_of_ble_eq_true rfl) ⟨rfl, rfl⟩ (fun q3 => ?_)
    refine r_if_eq (tgt := 40) dX10_worldsOf_26 (by decide) ?_ ?_
    · refine r_ldc2 dX10_worldsOf_40 kw_X10_291 ?_
      exact r_lreturn dX10_worldsOf_43 rfl
    · refine r_aload_n_0 dX10_worldsOf_29 rfl ?_
      refine r_iload_n_1 dX10_worldsOf_30 rfl ?_
      refine r_lconst dX10_worldsOf_31 kl_1 ?_
      refine r_iload_n_2 dX10_worldsOf_32 rfl ?_
      refine r_lshl dX10_worldsOf_33 ?_
      refine r_callVL (cc := 10) [] (am_X10_worldsIn p1 ((1 : Int64) <<< (p2.toInt64 &&& 63)) q3.2) rfl rfl cf_X10_worldsIn mw_X10_287 (by decide) dX10_worldsOf_34 rfl (Nat.le_of_ble_eq_true rfl) ⟨rfl, rfl⟩ (fun q4 => ?_)
      refine r_goto (tgt := 43) dX10_worldsOf_37 (by decide) ?_
      exact r_lreturn dX10_worldsOf_43 rfl
theorem cf_X10_worldsOf : CFv mi_X10_worldsOf 2 := ⟨iw_X10_worldsOf, vw_X10_worldsOf, nw_X10, cw_X10_worldsOf, by unfold plainF; decide +kernel⟩
abbrev si_X10_wouldTell : SI := (cX10_wouldTell, RX10, 4, (some .long), 3, 78)
def f_X10_wouldTell (p1 : Int32) (p2 : Int32) (p3 : Int32) (d : DD) : Option (Int64 × DD) :=
  bd (u1 d 86 0 (0 : Int32)) fun d1 =>
  (f_X10_isPerson p1 d1).bind fun q2 =>
  if q2.1 = 0 then
  some ((-1 : Int64), q2.2)
  else
  (f_X10_isHour p2 q2.2).bind fun q3 =>
    if q3.1 = 0 then
    some ((-1 : Int64), q3.2)
    else
    (f_X10_isSet p3 q3.2).bind fun q4 =>
      if q4.1 = 0 then
      some ((-1 : Int64), q4.2)
      else
      if ixb (169 : Int32) (ln 88) then
        (f_X10_letAll (q4.2.1 88 (169 : Int32).toNatClampNeg) q4.2).bind fun q5 =>
          (f_X10_tellsOf p1 p2 q5.2).bind fun q6 =>
          if ixb p3 (ln 102) then
          some (q6.2.2 102 p3.toNatClampNeg, q6.2)
          else none
        else none
set_option maxRecDepth 100000 in
set_option maxHeartbeats 4000000 in
theorem am_X10_wouldTell (p1 : Int32) (p2 : Int32) (p3 : Int32) (d : DD) : AM wrL mi_X10_wouldTell 3 78 [.ref 86, .int p1, .int p2, .int p3] d (f_X10_wouldTell p1 p2 p3 d) := by
  refine AM_intro (si := si_X10_wouldTell) (lv := [(0, .ref 86), (1, .int p1), (2, .int p2), (3, .int p3)]) rfl (by decide +kernel) rfl (Nat.le_of_ble_eq_true rfl) (fun E => ?_)
  unfold f_X10_wouldTell
  refine r_aload_n_0 dX10_wouldTell_0 rfl ?_
  refine r_iconst dX10_wouldTell_1 ki_0 ?_
  refine r_puti (cc := 10) 0 tyX10 tyX10_ok nmX10 rfl (by decide +kernel) rfl rfl uX10 (by decide) rfl fw_X10_1 dX10_wouldTell_2 ?_
  refine r_bd (fun d1 => ?_)
  refine r_aload_n_0 dX10_wouldTell_5 rfl ?_
  refine r_iload_n_1 dX10_wouldTell_6 rfl ?_
  refine r_callVI (cc := 10) [] (am_X10_isPerson p1 d1) rfl rfl cf_X10_isPerson mw_X10_248 (by decide) dX10_wouldTell_7 rfl (Nat.le_of_ble_eq_true rfl) ⟨rfl, rfl⟩ (fun q2 => ?_)
  refine r_if_eq (tgt := 28) dX10_wouldTell_10 (by decide) ?_ ?_
  · refine r_ldc2 dX10_wouldTell_28 kw_X10_291 ?_
    exact r_lreturn dX10_wouldTell_31 rfl
  · refine r_iload_n_2 dX10_wouldTell_13 rfl ?_
    refine r_callSI [] (am_X10_isHour p2 q2.2) cf_X10_isHour mw_X10_245 (by decide) dX10_wouldTell_14 rfl (Nat.le_of_ble_eq_true rfl) ⟨rfl, rfl⟩ (fun q3 => ?_)
    refine r_if_eq (tgt := 28) dX10_wouldTell_17 (by decide) ?_ ?_
    · refine r_ldc2 dX10_wouldTell_28 kw_X10_291 ?_
      exact r_lreturn dX10_wouldTell_31 rfl
    · refine r_aload_n_0 dX10_wouldTell_20 rfl ?_
      refine r_iload_n_3 dX10_wouldTell_21 rfl ?_
      refine r_callVI (cc := 10) [] (am_X10_isSet p3 q3.2) rfl rfl cf_X10_isSet mw_X10_257 (by decide) dX10_wouldTell_22 rfl (Nat.le_of_ble_eq_true rfl) ⟨rfl, rfl⟩ (fun q4 => ?_)
      refine r_if_ne (tgt := 32) dX10_wouldTell_25 (by decide) ?_ ?_
      · refine r_aload_n_0 dX10_wouldTell_32 rfl ?_
        refine r_aload_n_0 dX10_wouldTell_33 rfl ?_
        refine r_getr (t := 88) (cc := 10) 6 rfl rfl uX10 (by decide) rfl fw_X10_41 rfl dX10_wouldTell_34 ?_
        refine r_sipush dX10_wouldTell_37 ks_169 ?_
        refine r_iaload rfl dX10_wouldTell_40 ?_
        refine r_callVU (cc := 10) [] (am_X10_letAll (q4.2.1 88 (169 : Int32).toNatClampNeg) q4.2) rfl rfl cf_X10_letAll mw_X10_270 (by decide) dX10_wouldTell_41 rfl (Nat.le_of_ble_eq_true rfl) ⟨rfl, rfl⟩ (fun q5 => ?_)
        refine r_aload_n_0 dX10_wouldTell_44 rfl ?_
        refine r_iload_n_1 dX10_wouldTell_45 rfl ?_
        refine r_iload_n_2 dX10_wouldTell_46 rfl ?_
        refine r_callVU (cc := 10) [] (am_X10_tellsOf p1 p2 q5.2) rfl rfl cf_X10_tellsOf mw_X10_318 (by decide) dX10_wouldTell_47 rfl (Nat.le_of_ble_eq_true rfl) ⟨rfl, rfl⟩ (fun q6 => ?_)
        refine r_aload_n_0 dX10_wouldTell_50 rfl ?_
        refine r_getr (t := 102) (cc := 10) 30 rfl rfl uX10 (by decide) rfl fw_X10_86 rfl dX10_wouldTell_51 ?_
        refine r_iload_n_3 dX10_wouldTell_54 rfl ?_
        refine r_laload rfl dX10_wouldTell_55 ?_
        exact r_lreturn dX10_wouldTell_56 rfl
      · refine r_ldc2 dX10_wouldTell_28 kw_X10_291 ?_
        exact r_lreturn dX10_wouldTell_31 rfl
theorem cf_X10_wouldTell : CFv mi_X10_wouldTell 3 := ⟨iw_X10_wouldTell, vw_X10_wouldTell, nw_X10, cw_X10_wouldTell, by unfold plainF; decide +kernel⟩
