abbrev si_X8_modeOf : SI := (cX8_modeOf, RX8, 2, (some .int), 0, 0)
def f_X8_modeOf (p0 : Int32) (p1 : Int32) (d : DD) : Option (Int32 × DD) :=
  if p0 = (1 : Int32) then
  some ((1 : Int32), d)
  else
  if p0 = ((2 : Int32) + ((2 : Int32) * p1)) then
    some ((2 : Int32), d)
    else
    if p0 = ((3 : Int32) + ((2 : Int32) * p1)) then
      some ((3 : Int32), d)
      else
      some ((0 : Int32), d)
set_option maxRecDepth 100000 in
set_option maxHeartbeats 4000000 in
theorem am_X8_modeOf (p0 : Int32) (p1 : Int32) (d : DD) : AM wrI mi_X8_modeOf 0 0 [.int p0, .int p1] d (f_X8_modeOf p0 p1 d) := by
  refine AM_intro (si := si_X8_modeOf) (lv := [(0, .int p0), (1, .int p1)]) rfl (by decide +kernel) rfl (Nat.le_of_ble_eq_true rfl) (fun E => ?_)
  unfold f_X8_modeOf
  refine r_iload_n_0 dX8_modeOf_0 rfl ?_
  refine r_iconst dX8_modeOf_1 ki_1 ?_
  refine r_icmp_ne (tgt := 7) dX8_modeOf_2 (by decide) ?_ ?_
  · refine r_iload_n_0 dX8_modeOf_7 rfl ?_
    refine r_iconst dX8_modeOf_8 ki_2 ?_
    refine r_iconst dX8_modeOf_9 ki_2 ?_
    refine r_iload_n_1 dX8_modeOf_10 rfl ?_
    refine r_imul dX8_modeOf_11 ?_
    refine r_iadd dX8_modeOf_12 ?_
    refine r_icmp_ne (tgt := 18) dX8_modeOf_13 (by decide) ?_ ?_
    · refine r_iload_n_0 dX8_modeOf_18 rfl ?_
      refine r_iconst dX8_modeOf_19 ki_3 ?_
      refine r_iconst dX8_modeOf_20 ki_2 ?_
      refine r_iload_n_1 dX8_modeOf_21 rfl ?_
      refine r_imul dX8_modeOf_22 ?_
      refine r_iadd dX8_modeOf_23 ?_
      refine r_icmp_ne (tgt := 31) dX8_modeOf_24 (by decide) ?_ ?_
      · refine r_iconst dX8_modeOf_31 ki_0 ?_
        exact r_ireturn dX8_modeOf_32 rfl
      · refine r_iconst dX8_modeOf_27 ki_3 ?_
        refine r_goto (tgt := 32) dX8_modeOf_28 (by decide) ?_
        exact r_ireturn dX8_modeOf_32 rfl
    · refine r_iconst dX8_modeOf_16 ki_2 ?_
      exact r_ireturn dX8_modeOf_17 rfl
  · refine r_iconst dX8_modeOf_5 ki_1 ?_
    exact r_ireturn dX8_modeOf_6 rfl
theorem cf_X8_modeOf : CFs mi_X8_modeOf 2 := ⟨sw_X8_modeOf, nw_X8, cw_X8_modeOf, by unfold plainF; decide +kernel⟩
abbrev si_X8_fittingIndex : SI := (cX8_fittingIndex, RX8, 3, (some .int), 0, 0)
def f_X8_fittingIndex (p0 : Int32) (p1 : Int32) (p2 : Int32) (d : DD) : Option (Int32 × DD) :=
  some ((((p0 * (4 : Int32)) + p1) * (3 : Int32)) + p2, d)
set_option maxRecDepth 100000 in
set_option maxHeartbeats 4000000 in
theorem am_X8_fittingIndex (p0 : Int32) (p1 : Int32) (p2 : Int32) (d : DD) : AM wrI mi_X8_fittingIndex 0 0 [.int p0, .int p1, .int p2] d (f_X8_fittingIndex p0 p1 p2 d) := by
  refine AM_intro (si := si_X8_fittingIndex) (lv := [(0, .int p0), (1, .int p1), (2, .int p2)]) rfl (by decide +kernel) rfl (Nat.le_of_ble_eq_true rfl) (fun E => ?_)
  unfold f_X8_fittingIndex
  refine r_iload_n_0 dX8_fittingIndex_0 rfl ?_
  refine r_iconst dX8_fittingIndex_1 ki_4 ?_
  refine r_imul dX8_fittingIndex_2 ?_
  refine r_iload_n_1 dX8_fittingIndex_3 rfl ?_
  refine r_iadd dX8_fittingIndex_4 ?_
  refine r_iconst dX8_fittingIndex_5 ki_3 ?_
  refine r_imul dX8_fittingIndex_6 ?_
  refine r_iload_n_2 dX8_fittingIndex_7 rfl ?_
  refine r_iadd dX8_fittingIndex_8 ?_
  exact r_ireturn dX8_fittingIndex_9 rfl
theorem cf_X8_fittingIndex : CFs mi_X8_fittingIndex 3 := ⟨sw_X8_fittingIndex, nw_X8, cw_X8_fittingIndex, by unfold plainF; decide +kernel⟩
abbrev si_X8_fittingBy : SI := (cX8_fittingBy, RX8, 4, (some .long), 1, 22)
def f_X8_fittingBy (p1 : Int32) (p2 : Int32) (p3 : Int32) (d : DD) : Option (Int64 × DD) :=
  (f_X8_modeOf p2 p3 d).bind fun q1 =>
  (f_X8_fittingIndex p1 q1.1 p3 q1.2).bind fun q2 =>
  (f_X9_longAt 73 q2.1 q2.2).bind fun q3 =>
  some (q3.1, q3.2)
set_option maxRecDepth 100000 in
set_option maxHeartbeats 4000000 in
theorem am_X8_fittingBy (p1 : Int32) (p2 : Int32) (p3 : Int32) (d : DD) : AM wrL mi_X8_fittingBy 1 22 [.ref 72, .int p1, .int p2, .int p3] d (f_X8_fittingBy p1 p2 p3 d) := by
  refine AM_intro (si := si_X8_fittingBy) (lv := [(0, .ref 72), (1, .int p1), (2, .int p2), (3, .int p3)]) rfl (by decide +kernel) rfl (Nat.le_of_ble_eq_true rfl) (fun E => ?_)
  unfold f_X8_fittingBy
  refine r_aload_n_0 dX8_fittingBy_0 rfl ?_
  refine r_getr (t := 73) (cc := 8) 1 rfl rfl uX8 (by decide) rfl fw_X8_11 rfl dX8_fittingBy_1 ?_
  refine r_iload_n_1 dX8_fittingBy_4 rfl ?_
  refine r_iload_n_2 dX8_fittingBy_5 rfl ?_
  refine r_iload_n_3 dX8_fittingBy_6 rfl ?_
  refine r_callSI [.int p1, .ref 73] (am_X8_modeOf p2 p3 d) cf_X8_modeOf mw_X8_154 (by decide) dX8_fittingBy_7 rfl (Nat.le_of_ble_eq_true rfl) ⟨rfl, rfl⟩ (fun q1 => ?_)
  refine r_iload_n_3 dX8_fittingBy_10 rfl ?_
  refine r_callSI [.ref 73] (am_X8_fittingIndex p1 q1.1 p3 q1.2) cf_X8_fittingIndex mw_X8_115 (by decide) dX8_fittingBy_11 rfl (Nat.le_of_ble_eq_true rfl) ⟨rfl, rfl⟩ (fun q2 => ?_)
  refine r_callSNL [] (am_X9_longAt 73 rfl q2.1 q2.2) cf_X9_longAt wn_X8_123 (by decide) dX8_fittingBy_14 rfl (Nat.le_of_ble_eq_true rfl) ⟨rfl, rfl⟩ (fun q3 => ?_)
  exact r_lreturn dX8_fittingBy_17 rfl
theorem cf_X8_fittingBy : CFv mi_X8_fittingBy 3 := ⟨iw_X8_fittingBy, vw_X8_fittingBy, nw_X8, cw_X8_fittingBy, by unfold plainF; decide +kernel⟩
abbrev si_X8_isLikeNew : SI := (cX8_isLikeNew, RX8, 4, (some .boolean), 1, 21)
def f_X8_isLikeNew_2B (k2 : Int32 → Int32 → DD → Option (Int32 × DD)) (v1 : Int32) (v2 : Int32) (d : DD) : Option (Int32 × DD) :=
  if v2 < (3 : Int32) then
  bd ((v1 * (3 : Int32)) + v2) fun x1 =>
    (f_X9_longAt 75 x1 d).bind fun q2 =>
    (f_X9_longAt 75 (((q2.2.1 72 2) * (3 : Int32)) + v2) q2.2).bind fun q3 =>
    if q2.1 = q3.1 then
    k2 v1 (v2 + (1 : Int32)) q3.2
    else
    some ((0 : Int32), q3.2)
  else
  some ((1 : Int32), d)
def f_X8_isLikeNew_2 : Nat → Int32 → Int32 → DD → Option (Int32 × DD)
  | 0, _, _, _ => none
  | n + 1, v1, v2, d => f_X8_isLikeNew_2B (f_X8_isLikeNew_2 n) v1 v2 d
set_option maxRecDepth 100000 in
set_option maxHeartbeats 4000000 in
theorem w_X8_isLikeNew_2B {E : XE} (k2 : Int32 → Int32 → DD → Option (Int32 × DD)) (hk2 : ∀ (v1 : Int32) (v2 : Int32) (d : DD), AW E si_X8_isLikeNew 0 0 (QM E wrI) (k2 v1 v2 d) 2 [(0, .ref 72), (1, .int v1), (2, .int v2)] [] d) (v1 : Int32) (v2 : Int32) (d : DD) : AW E si_X8_isLikeNew 0 0 (QM E wrI) (f_X8_isLikeNew_2B k2 v1 v2 d) 2 [(0, .ref 72), (1, .int v1), (2, .int v2)] [] d := by
  unfold f_X8_isLikeNew_2B
  refine r_iload_n_2 dX8_isLikeNew_2 rfl ?_
  refine r_iconst dX8_isLikeNew_3 ki_3 ?_
  refine r_icmp_ge (tgt := 48) dX8_isLikeNew_4 (by decide) ?_ ?_
  · refine r_iconst dX8_isLikeNew_48 ki_1 ?_
    exact r_zreturn dX8_isLikeNew_49 rfl rfl
  · refine r_iload_n_1 dX8_isLikeNew_7 rfl ?_
    refine r_iconst dX8_isLikeNew_8 ki_3 ?_
    refine r_imul dX8_isLikeNew_9 ?_
    refine r_iload_n_2 dX8_isLikeNew_10 rfl ?_
    refine r_iadd dX8_isLikeNew_11 ?_
    refine r_bdI (fun x1 => ?_)
    refine r_istore_n_x dX8_isLikeNew_12 rfl (by decide) rfl ?_
    refine r_aload_n_1 dX8_isLikeNew_13 rfl ?_
    refine r_getr (t := 75) (cc := 8) 4 rfl rfl uX8 (by decide) rfl fw_X8_23 rfl dX8_isLikeNew_14 ?_
    refine r_iload_n_0 dX8_isLikeNew_17 rfl ?_
    refine r_callSNL [] (am_X9_longAt 75 rfl x1 d) cf_X9_longAt wn_X8_123 (by decide) dX8_isLikeNew_18 rfl (Nat.le_of_ble_eq_true rfl) ⟨rfl, rfl⟩ (fun q2 => ?_)
    refine r_aload_n_1 dX8_isLikeNew_21 rfl ?_
    refine r_getr (t := 75) (cc := 8) 4 rfl rfl uX8 (by decide) rfl fw_X8_23 rfl dX8_isLikeNew_22 ?_
    refine r_aload_n_1 dX8_isLikeNew_25 rfl ?_
    refine r_geti (cc := 8) 2 rfl rfl uX8 (by decide) rfl fw_X8_15 dX8_isLikeNew_26 ?_
    refine r_iconst dX8_isLikeNew_29 ki_3 ?_
    refine r_imul dX8_isLikeNew_30 ?_
    refine r_iload_n_3 dX8_isLikeNew_31 rfl ?_
    refine r_iadd dX8_isLikeNew_32 ?_
    refine r_callSNL [.long q2.1] (am_X9_longAt 75 rfl (((q2.2.1 72 2) * (3 : Int32)) + v2) q2.2) cf_X9_longAt wn_X8_123 (by decide) dX8_isLikeNew_33 rfl (Nat.le_of_ble_eq_true rfl) ⟨rfl, rfl⟩ (fun q3 => ?_)
    refine r_lcmp_eq (tgt := 42) dX8_isLikeNew_36 dX8_isLikeNew_37 (by decide) ?_ ?_
    · refine r_iinc_3 dX8_isLikeNew_42 ki_1 (by decide) rfl ?_
      refine r_goto (tgt := 2) dX8_isLikeNew_45 (by decide) ?_
      refine r_sub [1, 2, 3] (lv' := [(0, .ref 72), (1, .int v1), (2, .int (v2 + (1 : Int32)))]) rfl ?_
      exact hk2 v1 (v2 + (1 : Int32)) q3.2
    · refine r_iconst dX8_isLikeNew_40 ki_0 ?_
      exact r_zreturn dX8_isLikeNew_41 rfl rfl
theorem w_X8_isLikeNew_2 {E : XE} (n : Nat) : ∀ (v1 : Int32) (v2 : Int32) (d : DD), AW E si_X8_isLikeNew 0 0 (QM E wrI) (f_X8_isLikeNew_2 n v1 v2 d) 2 [(0, .ref 72), (1, .int v1), (2, .int v2)] [] d := by
  induction n with
  | zero => intros; exact r_none
  | succ n ih => intro v1 v2 d; exact w_X8_isLikeNew_2B (f_X8_isLikeNew_2 n) ih v1 v2 d
def f_X8_isLikeNew (p1 : Int32) (d : DD) : Option (Int32 × DD) :=
  f_X8_isLikeNew_2 FU p1 (0 : Int32) d
set_option maxRecDepth 100000 in
set_option maxHeartbeats 4000000 in
theorem am_X8_isLikeNew (p1 : Int32) (d : DD) : AM wrI mi_X8_isLikeNew 1 21 [.ref 72, .int p1] d (f_X8_isLikeNew p1 d) := by
  refine AM_intro (si := si_X8_isLikeNew) (lv := [(0, .ref 72), (1, .int p1)]) rfl (by decide +kernel) rfl (Nat.le_of_ble_eq_true rfl) (fun E => ?_)
  unfold f_X8_isLikeNew
  refine r_iconst dX8_isLikeNew_0 ki_0 ?_
  refine r_istore_n_x dX8_isLikeNew_1 rfl (by decide) rfl ?_
  refine r_sub [1, 2, 0] (lv' := [(0, .ref 72), (1, .int p1), (2, .int (0 : Int32))]) rfl ?_
  exact w_X8_isLikeNew_2 FU p1 (0 : Int32) d
theorem cf_X8_isLikeNew : CFv mi_X8_isLikeNew 1 := ⟨iw_X8_isLikeNew, vw_X8_isLikeNew, nw_X8, cw_X8_isLikeNew, by unfold plainF; decide +kernel⟩
abbrev si_X8_findChoice : SI := (cX8_findChoice, RX8, 4, (some .int), 2, 45)
def f_X8_findChoice_37B (k37 : Int32 → DD → Option (Int32 × DD)) (v3 : Int32) (d : DD) : Option (Int32 × DD) :=
  if v3 < (d.1 72 2) then
  (f_X8_isLikeNew v3 d).bind fun q3 =>
    if q3.1 = 0 then
    k37 (v3 + (1 : Int32)) q3.2
    else
    some (v3, q3.2)
  else
  (f_X9_put 74 (d.1 72 2) (0 : Int32) d).bind fun q1 =>
    bd (u1 q1.2 72 2 ((q1.2.1 72 2) + (1 : Int32))) fun d2 =>
    some ((d2.1 72 2) - (1 : Int32), d2)
def f_X8_findChoice_37 : Nat → Int32 → DD → Option (Int32 × DD)
  | 0, _, _ => none
  | n + 1, v3, d => f_X8_findChoice_37B (f_X8_findChoice_37 n) v3 d
set_option maxRecDepth 100000 in
set_option maxHeartbeats 4000000 in
theorem w_X8_findChoice_37B {E : XE} (k37 : Int32 → DD → Option (Int32 × DD)) (hk37 : ∀ (v3 : Int32) (d : DD), AW E si_X8_findChoice 0 0 (QM E wrI) (k37 v3 d) 37 [(0, .ref 72), (3, .int v3)] [] d) (v3 : Int32) (d : DD) : AW E si_X8_findChoice 0 0 (QM E wrI) (f_X8_findChoice_37B k37 v3 d) 37 [(0, .ref 72), (3, .int v3)] [] d := by
  unfold f_X8_findChoice_37B
  refine r_iload_n_1 dX8_findChoice_37 rfl ?_
  refine r_aload_n_0 dX8_findChoice_38 rfl ?_
  refine r_geti (cc := 8) 2 rfl rfl uX8 (by decide) rfl fw_X8_15 dX8_findChoice_39 ?_
  refine r_icmp_ge (tgt := 61) dX8_findChoice_42 (by decide) ?_ ?_
  · refine r_aload_n_0 dX8_findChoice_61 rfl ?_
    refine r_getr (t := 74) (cc := 8) 3 rfl rfl uX8 (by decide) rfl fw_X8_19 rfl dX8_findChoice_62 ?_
    refine r_aload_n_0 dX8_findChoice_65 rfl ?_
    refine r_geti (cc := 8) 2 rfl rfl uX8 (by decide) rfl fw_X8_15 dX8_findChoice_66 ?_
    refine r_iconst dX8_findChoice_69 ki_0 ?_
    refine r_callSNU [] (am_X9_put 74 rfl (d.1 72 2) (0 : Int32) d) cf_X9_put wn_X8_131 (by decide) dX8_findChoice_70 rfl (Nat.le_of_ble_eq_true rfl) ⟨rfl, rfl⟩ (fun q1 => ?_)
    refine r_aload_n_0 dX8_findChoice_73 rfl ?_
    refine r_dupa dX8_findChoice_74 ?_
    refine r_geti (cc := 8) 2 rfl rfl uX8 (by decide) rfl fw_X8_15 dX8_findChoice_75 ?_
    refine r_iconst dX8_findChoice_78 ki_1 ?_
    refine r_iadd dX8_findChoice_79 ?_
    refine r_puti (cc := 8) 2 tyX8 tyX8_ok nmX8 rfl (by decide +kernel) rfl rfl uX8 (by decide) rfl fw_X8_15 dX8_findChoice_80 ?_
    refine r_bd (fun d2 => ?_)
    refine r_aload_n_0 dX8_findChoice_83 rfl ?_
    refine r_geti (cc := 8) 2 rfl rfl uX8 (by decide) rfl fw_X8_15 dX8_findChoice_84 ?_
    refine r_iconst dX8_findChoice_87 ki_1 ?_
    refine r_isub dX8_findChoice_88 ?_
    exact r_ireturn dX8_findChoice_89 rfl
  · refine r_aload_n_0 dX8_findChoice_45 rfl ?_
    refine r_iload_n_1 dX8_findChoice_46 rfl ?_
    refine r_callVI (cc := 8) [] (am_X8_isLikeNew v3 d) rfl rfl cf_X8_isLikeNew mw_X8_150 (by decide) dX8_findChoice_47 rfl (Nat.le_of_ble_eq_true rfl) ⟨rfl, rfl⟩ (fun q3 => ?_)
    refine r_if_eq (tgt := 55) dX8_findChoice_50 (by decide) ?_ ?_
    · refine r_iinc_1 dX8_findChoice_55 ki_1 (by decide) rfl ?_
      refine r_goto (tgt := 37) dX8_findChoice_58 (by decide) ?_
      exact hk37 (v3 + (1 : Int32)) q3.2
    · refine r_iload_n_1 dX8_findChoice_53 rfl ?_
      exact r_ireturn dX8_findChoice_54 rfl
theorem w_X8_findChoice_37 {E : XE} (n : Nat) : ∀ (v3 : Int32) (d : DD), AW E si_X8_findChoice 0 0 (QM E wrI) (f_X8_findChoice_37 n v3 d) 37 [(0, .ref 72), (3, .int v3)] [] d := by
  induction n with
  | zero => intros; exact r_none
  | succ n ih => intro v3 d; exact w_X8_findChoice_37B (f_X8_findChoice_37 n) ih v3 d
def f_X8_findChoice_2B (k2 : Int32 → Int32 → Int32 → DD → Option (Int32 × DD)) (v1 : Int32) (v2 : Int32) (v3 : Int32) (d : DD) : Option (Int32 × DD) :=
  if v3 < (3 : Int32) then
  (f_X8_fittingBy v1 v2 v3 d).bind fun q4 =>
    (f_X9_putLong 75 (((d.1 72 2) * (3 : Int32)) + v3) q4.1 q4.2).bind fun q5 =>
    k2 v1 v2 (v3 + (1 : Int32)) q5.2
  else
  f_X8_findChoice_37 FU (0 : Int32) d
def f_X8_findChoice_2 : Nat → Int32 → Int32 → Int32 → DD → Option (Int32 × DD)
  | 0, _, _, _, _ => none
  | n + 1, v1, v2, v3, d => f_X8_findChoice_2B (f_X8_findChoice_2 n) v1 v2 v3 d
set_option maxRecDepth 100000 in
set_option maxHeartbeats 4000000 in
theorem w_X8_findChoice_2B {E : XE} (k2 : Int32 → Int32 → Int32 → DD → Option (Int32 × DD)) (hk2 : ∀ (v1 : Int32) (v2 : Int32) (v3 : Int32) (d : DD), AW E si_X8_findChoice 0 0 (QM E wrI) (k2 v1 v2 v3 d) 2 [(0, .ref 72), (1, .int v1), (2, .int v2), (3, .int v3)] [] d) (v1 : Int32) (v2 : Int32) (v3 : Int32) (d : DD) : AW E si_X8_findChoice 0 0 (QM E wrI) (f_X8_findChoice_2B k2 v1 v2 v3 d) 2 [(0, .ref 72), (1, .int v1), (2, .int v2), (3, .int v3)] [] d := by
  unfold f_X8_findChoice_2B
  refine r_iload_n_3 dX8_findChoice_2 rfl ?_
  refine r_iconst dX8_findChoice_3 ki_3 ?_
  refine r_icmp_ge (tgt := 35) dX8_findChoice_4 (by decide) ?_ ?_
  · refine r_iconst dX8_findChoice_35 ki_0 ?_
    refine r_istore_n_3 dX8_findChoice_36 rfl (by decide) rfl ?_
    refine r_sub [0, 3] (lv' := [(0, .ref 72), (3, .int (0 : Int32))]) rfl ?_
    exact w_X8_findChoice_37 FU (0 : Int32) d
  · refine r_aload_n_0 dX8_findChoice_7 rfl ?_
    refine r_getr (t := 75) (cc := 8) 4 rfl rfl uX8 (by decide) rfl fw_X8_23 rfl dX8_findChoice_8 ?_
    refine r_aload_n_0 dX8_findChoice_11 rfl ?_
    refine r_geti (cc := 8) 2 rfl rfl uX8 (by decide) rfl fw_X8_15 dX8_findChoice_12 ?_
    refine r_iconst dX8_findChoice_15 ki_3 ?_
    refine r_imul dX8_findChoice_16 ?_
    refine r_iload_n_3 dX8_findChoice_17 rfl ?_
    refine r_iadd dX8_findChoice_18 ?_
    refine r_aload_n_0 dX8_findChoice_19 rfl ?_
    refine r_iload_n_1 dX8_findChoice_20 rfl ?_
    refine r_iload_n_2 dX8_findChoice_21 rfl ?_
    refine r_iload_n_3 dX8_findChoice_22 rfl ?_
    refine r_callVL (cc := 8) [.int (((d.1 72 2) * (3 : Int32)) + v3), .ref 75] (am_X8_fittingBy v1 v2 v3 d) rfl rfl cf_X8_fittingBy mw_X8_146 (by decide) dX8_findChoice_23 rfl (Nat.le_of_ble_eq_true rfl) ⟨rfl, rfl⟩ (fun q4 => ?_)
    refine r_callSNU [] (am_X9_putLong 75 rfl (((d.1 72 2) * (3 : Int32)) + v3) q4.1 q4.2) cf_X9_putLong wn_X8_127 (by decide) dX8_findChoice_26 rfl (Nat.le_of_ble_eq_true rfl) ⟨rfl, rfl⟩ (fun q5 => ?_)
    refine r_iinc_3 dX8_findChoice_29 ki_1 (by decide) rfl ?_
    refine r_goto (tgt := 2) dX8_findChoice_32 (by decide) ?_
    exact hk2 v1 v2 (v3 + (1 : Int32)) q5.2
theorem w_X8_findChoice_2 {E : XE} (n : Nat) : ∀ (v1 : Int32) (v2 : Int32) (v3 : Int32) (d : DD), AW E si_X8_findChoice 0 0 (QM E wrI) (f_X8_findChoice_2 n v1 v2 v3 d) 2 [(0, .ref 72), (1, .int v1), (2, .int v2), (3, .int v3)] [] d := by
  induction n with
  | zero => intros; exact r_none
  | succ n ih => intro v1 v2 v3 d; exact w_X8_findChoice_2B (f_X8_findChoice_2 n) ih v1 v2 v3 d
def f_X8_findChoice (p1 : Int32) (p2 : Int32) (d : DD) : Option (Int32 × DD) :=
  f_X8_findChoice_2 FU p1 p2 (0 : Int32) d
set_option maxRecDepth 100000 in
set_option maxHeartbeats 4000000 in
theorem am_X8_findChoice (p1 : Int32) (p2 : Int32) (d : DD) : AM wrI mi_X8_findChoice 2 45 [.ref 72, .int p1, .int p2] d (f_X8_findChoice p1 p2 d) := by
  refine AM_intro (si := si_X8_findChoice) (lv := [(0, .ref 72), (1, .int p1), (2, .int p2)]) rfl (by decide +kernel) rfl (Nat.le_of_ble_eq_true rfl) (fun E => ?_)
  unfold f_X8_findChoice
  refine r_iconst dX8_findChoice_0 ki_0 ?_
  refine r_istore_n_x dX8_findChoice_1 rfl (by decide) rfl ?_
  refine r_sub [1, 2, 3, 0] (lv' := [(0, .ref 72), (1, .int p1), (2, .int p2), (3, .int (0 : Int32))]) rfl ?_
  exact w_X8_findChoice_2 FU p1 p2 (0 : Int32) d
theorem cf_X8_findChoice : CFv mi_X8_findChoice 2 := ⟨iw_X8_findChoice, vw_X8_findChoice, nw_X8, cw_X8_findChoice, by unfold plainF; decide +kernel⟩
abbrev si_X8_findChoices : SI := (cX8_findChoices, RX8, 4, none, 3, 68)
def f_X8_findChoices_7B (k7 : Int32 → Int32 → DD → Option (Unit × DD)) (v1 : Int32) (v2 : Int32) (d : DD) : Option (Unit × DD) :=
  if v2 < (8 : Int32) then
  (f_X9_at 8 v1 d).bind fun q2 =>
    if ((iushr q2.1 v2) &&& (1 : Int32)) = (1 : Int32) then
    (f_X8_findChoice v1 v2 q2.2).bind fun q3 =>
      (f_X9_at 74 q3.1 q3.2).bind fun q4 =>
      (f_X9_put 74 q3.1 (q4.1 ||| ((1 : Int32) <<< (v2 &&& 31))) q4.2).bind fun q5 =>
      k7 v1 (v2 + (1 : Int32)) q5.2
    else
    k7 v1 (v2 + (1 : Int32)) q2.2
  else
  some ((), d)
def f_X8_findChoices_7 : Nat → Int32 → Int32 → DD → Option (Unit × DD)
  | 0, _, _, _ => none
  | n + 1, v1, v2, d => f_X8_findChoices_7B (f_X8_findChoices_7 n) v1 v2 d
set_option maxRecDepth 100000 in
set_option maxHeartbeats 4000000 in
theorem w_X8_findChoices_7B {E : XE} (k7 : Int32 → Int32 → DD → Option (Unit × DD)) (hk7 : ∀ (v1 : Int32) (v2 : Int32) (d : DD), AW E si_X8_findChoices 0 0 (QM E wrU) (k7 v1 v2 d) 7 [(0, .ref 72), (1, .int v1), (2, .int v2)] [] d) (v1 : Int32) (v2 : Int32) (d : DD) : AW E si_X8_findChoices 0 0 (QM E wrU) (f_X8_findChoices_7B k7 v1 v2 d) 7 [(0, .ref 72), (1, .int v1), (2, .int v2)] [] d := by
  unfold f_X8_findChoices_7B
  refine r_iload_n_2 dX8_findChoices_7 rfl ?_
  refine r_bipush dX8_findChoices_8 kb_8 ?_
  refine r_icmp_ge (tgt := 65) dX8_findChoices_10 (by decide) ?_ ?_
  · exact r_return dX8_findChoices_65 rfl
  · refine r_aload_n_0 dX8_findChoices_13 rfl ?_
    refine r_getr (t := 2) (cc := 8) 0 rfl rfl uX8 (by decide) rfl fw_X8_53 rfl dX8_findChoices_14 ?_
    refine r_getr (t := 8) (cc := 1) 7 rfl rfl uX1 (by decide) rfl fw_X8_139 rfl dX8_findChoices_17 ?_
    refine r_iload_n_1 dX8_findChoices_20 rfl ?_
    refine r_callSNI [] (am_X9_at 8 rfl v1 d) cf_X9_at wn_X8_98 (by decide) dX8_findChoices_21 rfl (Nat.le_of_ble_eq_true rfl) ⟨rfl, rfl⟩ (fun q2 => ?_)
    refine r_iload_n_2 dX8_findChoices_24 rfl ?_
    refine r_iushr dX8_findChoices_25 ?_
    refine r_iconst dX8_findChoices_26 ki_1 ?_
    refine r_iand dX8_findChoices_27 ?_
    refine r_iconst dX8_findChoices_28 ki_1 ?_
    refine r_icmp_ne (tgt := 59) dX8_findChoices_29 (by decide) ?_ ?_
    · refine r_iinc_2 dX8_findChoices_59 ki_1 (by decide) rfl ?_
      refine r_goto (tgt := 7) dX8_findChoices_62 (by decide) ?_
      exact hk7 v1 (v2 + (1 : Int32)) q2.2
    · refine r_aload_n_0 dX8_findChoices_32 rfl ?_
      refine r_iload_n_1 dX8_findChoices_33 rfl ?_
      refine r_iload_n_2 dX8_findChoices_34 rfl ?_
      refine r_callVI (cc := 8) [] (am_X8_findChoice v1 v2 q2.2) rfl rfl cf_X8_findChoice mw_X8_142 (by decide) dX8_findChoices_35 rfl (Nat.le_of_ble_eq_true rfl) ⟨rfl, rfl⟩ (fun q3 => ?_)
      refine r_istore_n_x dX8_findChoices_38 rfl (by decide) rfl ?_
      refine r_aload_n_1 dX8_findChoices_39 rfl ?_
      refine r_getr (t := 74) (cc := 8) 3 rfl rfl uX8 (by decide) rfl fw_X8_19 rfl dX8_findChoices_40 ?_
      refine r_iload_n_0 dX8_findChoices_43 rfl ?_
      refine r_aload_n_1 dX8_findChoices_44 rfl ?_
      refine r_getr (t := 74) (cc := 8) 3 rfl rfl uX8 (by decide) rfl fw_X8_19 rfl dX8_findChoices_45 ?_
      refine r_iload_n_0 dX8_findChoices_48 rfl ?_
      refine r_callSNI [.int q3.1, .ref 74] (am_X9_at 74 rfl q3.1 q3.2) cf_X9_at wn_X8_98 (by decide) dX8_findChoices_49 rfl (Nat.le_of_ble_eq_true rfl) ⟨rfl, rfl⟩ (fun q4 => ?_)
      refine r_iconst dX8_findChoices_52 ki_1 ?_
      refine r_iload_n_3 dX8_findChoices_53 rfl ?_
      refine r_ishl dX8_findChoices_54 ?_
      refine r_ior dX8_findChoices_55 ?_
      refine r_callSNU [] (am_X9_put 74 rfl q3.1 (q4.1 ||| ((1 : Int32) <<< (v2 &&& 31))) q4.2) cf_X9_put wn_X8_131 (by decide) dX8_findChoices_56 rfl (Nat.le_of_ble_eq_true rfl) ⟨rfl, rfl⟩ (fun q5 => ?_)
      refine r_iinc_3 dX8_findChoices_59 ki_1 (by decide) rfl ?_
      refine r_goto (tgt := 7) dX8_findChoices_62 (by decide) ?_
      refine r_sub [1, 2, 3] (lv' := [(0, .ref 72), (1, .int v1), (2, .int (v2 + (1 : Int32)))]) rfl ?_
      exact hk7 v1 (v2 + (1 : Int32)) q5.2
theorem w_X8_findChoices_7 {E : XE} (n : Nat) : ∀ (v1 : Int32) (v2 : Int32) (d : DD), AW E si_X8_findChoices 0 0 (QM E wrU) (f_X8_findChoices_7 n v1 v2 d) 7 [(0, .ref 72), (1, .int v1), (2, .int v2)] [] d := by
  induction n with
  | zero => intros; exact r_none
  | succ n ih => intro v1 v2 d; exact w_X8_findChoices_7B (f_X8_findChoices_7 n) ih v1 v2 d
def f_X8_findChoices (p1 : Int32) (d : DD) : Option (Unit × DD) :=
  bd (u1 d 72 2 (0 : Int32)) fun d1 =>
  f_X8_findChoices_7 FU p1 (0 : Int32) d1
set_option maxRecDepth 100000 in
set_option maxHeartbeats 4000000 in
theorem am_X8_findChoices (p1 : Int32) (d : DD) : AM wrU mi_X8_findChoices 3 68 [.ref 72, .int p1] d (f_X8_findChoices p1 d) := by
  refine AM_intro (si := si_X8_findChoices) (lv := [(0, .ref 72), (1, .int p1)]) rfl (by decide +kernel) rfl (Nat.le_of_ble_eq_true rfl) (fun E => ?_)
  unfold f_X8_findChoices
  refine r_aload_n_0 dX8_findChoices_0 rfl ?_
  refine r_iconst dX8_findChoices_1 ki_0 ?_
  refine r_puti (cc := 8) 2 tyX8 tyX8_ok nmX8 rfl (by decide +kernel) rfl rfl uX8 (by decide) rfl fw_X8_15 dX8_findChoices_2 ?_
  refine r_bd (fun d1 => ?_)
  refine r_iconst dX8_findChoices_5 ki_0 ?_
  refine r_istore_n_x dX8_findChoices_6 rfl (by decide) rfl ?_
  refine r_sub [1, 2, 0] (lv' := [(0, .ref 72), (1, .int p1), (2, .int (0 : Int32))]) rfl ?_
  exact w_X8_findChoices_7 FU p1 (0 : Int32) d1
theorem cf_X8_findChoices : CFv mi_X8_findChoices 1 := ⟨iw_X8_findChoices, vw_X8_findChoices, nw_X8, cw_X8_findChoices, by unfold plainF; decide +kernel⟩
abbrev si_X8_narrow : SI := (cX8_narrow, RX8, 4, none, 1, 23)
def f_X8_narrow (p1 : Int32) (p2 : Int64) (d : DD) : Option (Unit × DD) :=
  (f_X9_longAt 73 p1 d).bind fun q1 =>
  (f_X9_putLong 73 p1 (q1.1 &&& p2) q1.2).bind fun q2 =>
  some ((), q2.2)
set_option maxRecDepth 100000 in
set_option maxHeartbeats 4000000 in
theorem am_X8_narrow (p1 : Int32) (p2 : Int64) (d : DD) : AM wrU mi_X8_narrow 1 23 [.ref 72, .int p1, .long p2] d (f_X8_narrow p1 p2 d) := by
  refine AM_intro (si := si_X8_narrow) (lv := [(0, .ref 72), (1, .int p1), (2, .long p2)]) rfl (by decide +kernel) rfl (Nat.le_of_ble_eq_true rfl) (fun E => ?_)
  unfold f_X8_narrow
  refine r_aload_n_0 dX8_narrow_0 rfl ?_
  refine r_getr (t := 73) (cc := 8) 1 rfl rfl uX8 (by decide) rfl fw_X8_11 rfl dX8_narrow_1 ?_
  refine r_iload_n_1 dX8_narrow_4 rfl ?_
  refine r_aload_n_0 dX8_narrow_5 rfl ?_
  refine r_getr (t := 73) (cc := 8) 1 rfl rfl uX8 (by decide) rfl fw_X8_11 rfl dX8_narrow_6 ?_
  refine r_iload_n_1 dX8_narrow_9 rfl ?_
  refine r_callSNL [.int p1, .ref 73] (am_X9_longAt 73 rfl p1 d) cf_X9_longAt wn_X8_123 (by decide) dX8_narrow_10 rfl (Nat.le_of_ble_eq_true rfl) ⟨rfl, rfl⟩ (fun q1 => ?_)
  refine r_lload_n_2 dX8_narrow_13 rfl ?_
  refine r_land dX8_narrow_14 ?_
  refine r_callSNU [] (am_X9_putLong 73 rfl p1 (q1.1 &&& p2) q1.2) cf_X9_putLong wn_X8_127 (by decide) dX8_narrow_15 rfl (Nat.le_of_ble_eq_true rfl) ⟨rfl, rfl⟩ (fun q2 => ?_)
  exact r_return dX8_narrow_18 rfl
theorem cf_X8_narrow : CFv mi_X8_narrow 2 := ⟨iw_X8_narrow, vw_X8_narrow, nw_X8, cw_X8_narrow, by unfold plainF; decide +kernel⟩
abbrev si_X8_heed : SI := (cX8_heed, RX8, 11, none, 2, 49)
def f_X8_heed_77 (k49 : Int32 → Int32 → Int32 → Int32 → DD → Option (Unit × DD)) (v2 : Int32) (v3 : Int32) (v4 : Int32) (v5 : Int32) (t0 : Int32) (d : DD) : Option (Unit × DD) :=
  (f_X1_passing 2 v5 v3 d).bind fun q4 =>
  (f_X1_passing 2 v5 (v3 - (1 : Int32)) q4.2).bind fun q5 =>
  (f_X8_fittingIndex v2 (0 : Int32) v5 q5.2).bind fun q6 =>
  if t0 = 0 then
  (f_X8_narrow q6.1 (q4.1 ^^^ (-1 : Int64)) q6.2).bind fun q7 =>
    (f_X8_fittingIndex v2 (1 : Int32) v5 q7.2).bind fun q8 =>
    if t0 = 0 then
    (f_X8_narrow q8.1 (q5.1 ^^^ (-1 : Int64)) q8.2).bind fun q9 =>
      if t0 = 0 then
      (f_X8_fittingIndex v2 (3 : Int32) v5 q9.2).bind fun q10 =>
        (f_X8_narrow q10.1 (0 : Int64) q10.2).bind fun q11 =>
        k49 v2 v3 v4 (v5 + (1 : Int32)) q11.2
      else
      (f_X8_fittingIndex v2 (2 : Int32) v5 q9.2).bind fun q12 =>
        (f_X8_narrow q12.1 (0 : Int64) q12.2).bind fun q13 =>
        k49 v2 v3 v4 (v5 + (1 : Int32)) q13.2
    else
    (f_X8_narrow q8.1 q5.1 q8.2).bind fun q14 =>
      if t0 = 0 then
      (f_X8_fittingIndex v2 (3 : Int32) v5 q14.2).bind fun q15 =>
        (f_X8_narrow q15.1 (0 : Int64) q15.2).bind fun q16 =>
        k49 v2 v3 v4 (v5 + (1 : Int32)) q16.2
      else
      (f_X8_fittingIndex v2 (2 : Int32) v5 q14.2).bind fun q17 =>
        (f_X8_narrow q17.1 (0 : Int64) q17.2).bind fun q18 =>
        k49 v2 v3 v4 (v5 + (1 : Int32)) q18.2
  else
  (f_X8_narrow q6.1 q4.1 q6.2).bind fun q19 =>
    (f_X8_fittingIndex v2 (1 : Int32) v5 q19.2).bind fun q20 =>
    if t0 = 0 then
    (f_X8_narrow q20.1 (q5.1 ^^^ (-1 : Int64)) q20.2).bind fun q21 =>
      if t0 = 0 then
      (f_X8_fittingIndex v2 (3 : Int32) v5 q21.2).bind fun q22 =>
        (f_X8_narrow q22.1 (0 : Int64) q22.2).bind fun q23 =>
        k49 v2 v3 v4 (v5 + (1 : Int32)) q23.2
      else
      (f_X8_fittingIndex v2 (2 : Int32) v5 q21.2).bind fun q24 =>
        (f_X8_narrow q24.1 (0 : Int64) q24.2).bind fun q25 =>
        k49 v2 v3 v4 (v5 + (1 : Int32)) q25.2
    else
    (f_X8_narrow q20.1 q5.1 q20.2).bind fun q26 =>
      if t0 = 0 then
      (f_X8_fittingIndex v2 (3 : Int32) v5 q26.2).bind fun q27 =>
        (f_X8_narrow q27.1 (0 : Int64) q27.2).bind fun q28 =>
        k49 v2 v3 v4 (v5 + (1 : Int32)) q28.2
      else
      (f_X8_fittingIndex v2 (2 : Int32) v5 q26.2).bind fun q29 =>
        (f_X8_narrow q29.1 (0 : Int64) q29.2).bind fun q30 =>
        k49 v2 v3 v4 (v5 + (1 : Int32)) q30.2
set_option maxRecDepth 100000 in
set_option maxHeartbeats 4000000 in
theorem w_X8_heed_77 {E : XE} (k49 : Int32 → Int32 → Int32 → Int32 → DD → Option (Unit × DD)) (hk49 : ∀ (v2 : Int32) (v3 : Int32) (v4 : Int32) (v5 : Int32) (d : DD), AW E si_X8_heed 0 0 (QM E wrU) (k49 v2 v3 v4 v5 d) 49 [(0, .ref 72), (2, .int v2), (3, .int v3), (4, .int v4), (5, .int v5)] [] d) (v2 : Int32) (v3 : Int32) (v4 : Int32) (v5 : Int32) (t0 : Int32) (d : DD) : AW E si_X8_heed 0 0 (QM E wrU) (f_X8_heed_77 k49 v2 v3 v4 v5 t0 d) 77 [(0, .ref 72), (2, .int v2), (3, .int v3), (4, .int v4), (5, .int v5)] [.int t0] d := by
  unfold f_X8_heed_77
  refine r_istore_w_x dX8_heed_77 (by decide) rfl ?_
  refine r_aload_n_1 dX8_heed_79 rfl ?_
  refine r_getr (t := 2) (cc := 8) 0 rfl rfl uX8 (by decide) rfl fw_X8_53 rfl dX8_heed_80 ?_
  refine r_iload_w_5 dX8_heed_83 ?_
  refine r_iload_n_3 dX8_heed_85 rfl ?_
  refine r_callVL (cc := 1) [] (am_X1_passing 2 rfl v5 v3 d) rfl rfl cf_X1_passing mw_X8_111 (by decide) dX8_heed_86 rfl (Nat.le_of_ble_eq_true rfl) ⟨rfl, rfl⟩ (fun q4 => ?_)
  refine r_lstore_w_x dX8_heed_89 (by decide) rfl ?_
  refine r_aload_n_2 dX8_heed_91 rfl ?_
  refine r_getr (t := 2) (cc := 8) 0 rfl rfl uX8 (by decide) rfl fw_X8_53 rfl dX8_heed_92 ?_
  refine r_iload_w_6 dX8_heed_95 ?_
  refine r_iload_n_4 dX8_heed_97 rfl ?_
  refine r_iconst dX8_heed_98 ki_1 ?_
  refine r_isub dX8_heed_99 ?_
  refine r_callVL (cc := 1) [] (am_X1_passing 2 rfl v5 (v3 - (1 : Int32)) q4.2) rfl rfl cf_X1_passing mw_X8_111 (by decide) dX8_heed_100 rfl (Nat.le_of_ble_eq_true rfl) ⟨rfl, rfl⟩ (fun q5 => ?_)
  refine r_lstore_w_x dX8_heed_103 (by decide) rfl ?_
  refine r_aload_n_3 dX8_heed_105 rfl ?_
  refine r_iload_n_4 dX8_heed_106 rfl ?_
  refine r_iconst dX8_heed_107 ki_0 ?_
  refine r_iload_w_7 dX8_heed_108 ?_
  refine r_callSI [.ref 72] (am_X8_fittingIndex v2 (0 : Int32) v5 q5.2) cf_X8_fittingIndex mw_X8_115 (by decide) dX8_heed_110 rfl (Nat.le_of_ble_eq_true rfl) ⟨rfl, rfl⟩ (fun q6 => ?_)
  refine r_iload_w_2 dX8_heed_113 ?_
  refine r_if_eq (tgt := 123) dX8_heed_115 (by decide) ?_ ?_
  · refine r_lload_w_1 dX8_heed_123 ?_
    refine r_ldc2 dX8_heed_125 kw_X8_72 ?_
    refine r_lxor dX8_heed_128 ?_
    refine r_callVU (cc := 8) [] (am_X8_narrow q6.1 (q4.1 ^^^ (-1 : Int64)) q6.2) rfl rfl cf_X8_narrow mw_X8_119 (by decide) dX8_heed_129 rfl (Nat.le_of_ble_eq_true rfl) ⟨rfl, rfl⟩ (fun q7 => ?_)
    refine r_aload_n_3 dX8_heed_132 rfl ?_
    refine r_iload_n_4 dX8_heed_133 rfl ?_
    refine r_iconst dX8_heed_134 ki_1 ?_
    refine r_iload_w_7 dX8_heed_135 ?_
    refine r_callSI [.ref 72] (am_X8_fittingIndex v2 (1 : Int32) v5 q7.2) cf_X8_fittingIndex mw_X8_115 (by decide) dX8_heed_137 rfl (Nat.le_of_ble_eq_true rfl) ⟨rfl, rfl⟩ (fun q8 => ?_)
    refine r_iload_w_2 dX8_heed_140 ?_
    refine r_if_eq (tgt := 150) dX8_heed_142 (by decide) ?_ ?_
    · refine r_lload_w_0 dX8_heed_150 ?_
      refine r_ldc2 dX8_heed_152 kw_X8_72 ?_
      refine r_lxor dX8_heed_155 ?_
      refine r_callVU (cc := 8) [] (am_X8_narrow q8.1 (q5.1 ^^^ (-1 : Int64)) q8.2) rfl rfl cf_X8_narrow mw_X8_119 (by decide) dX8_heed_156 rfl (Nat.le_of_ble_eq_true rfl) ⟨rfl, rfl⟩ (fun q9 => ?_)
      refine r_aload_n_3 dX8_heed_159 rfl ?_
      refine r_iload_n_4 dX8_heed_160 rfl ?_
      refine r_iload_w_2 dX8_heed_161 ?_
      refine r_if_eq (tgt := 170) dX8_heed_163 (by decide) ?_ ?_
      · refine r_iconst dX8_heed_170 ki_3 ?_
        refine r_iload_w_7 dX8_heed_171 ?_
        refine r_callSI [.ref 72] (am_X8_fittingIndex v2 (3 : Int32) v5 q9.2) cf_X8_fittingIndex mw_X8_115 (by decide) dX8_heed_173 rfl (Nat.le_of_ble_eq_true rfl) ⟨rfl, rfl⟩ (fun q10 => ?_)
        refine r_lconst dX8_heed_176 kl_0 ?_
        refine r_callVU (cc := 8) [] (am_X8_narrow q10.1 (0 : Int64) q10.2) rfl rfl cf_X8_narrow mw_X8_119 (by decide) dX8_heed_177 rfl (Nat.le_of_ble_eq_true rfl) ⟨rfl, rfl⟩ (fun q11 => ?_)
        refine r_iinc_7 dX8_heed_180 ki_1 (by decide) rfl ?_
        refine r_goto (tgt := 49) dX8_heed_183 (by decide) ?_
        refine r_sub [3, 4, 5, 6, 7] (lv' := [(0, .ref 72), (2, .int v2), (3, .int v3), (4, .int v4), (5, .int (v5 + (1 : Int32)))]) rfl ?_
        exact hk49 v2 v3 v4 (v5 + (1 : Int32)) q11.2
      · refine r_iconst dX8_heed_166 ki_2 ?_
        refine r_goto (tgt := 171) dX8_heed_167 (by decide) ?_
        refine r_iload_w_7 dX8_heed_171 ?_
        refine r_callSI [.ref 72] (am_X8_fittingIndex v2 (2 : Int32) v5 q9.2) cf_X8_fittingIndex mw_X8_115 (by decide) dX8_heed_173 rfl (Nat.le_of_ble_eq_true rfl) ⟨rfl, rfl⟩ (fun q12 => ?_)
        refine r_lconst dX8_heed_176 kl_0 ?_
        refine r_callVU (cc := 8) [] (am_X8_narrow q12.1 (0 : Int64) q12.2) rfl rfl cf_X8_narrow mw_X8_119 (by decide) dX8_heed_177 rfl (Nat.le_of_ble_eq_true rfl) ⟨rfl, rfl⟩ (fun q13 => ?_)
        refine r_iinc_7 dX8_heed_180 ki_1 (by decide) rfl ?_
        refine r_goto (tgt := 49) dX8_heed_183 (by decide) ?_
        refine r_sub [3, 4, 5, 6, 7] (lv' := [(0, .ref 72), (2, .int v2), (3, .int v3), (4, .int v4), (5, .int (v5 + (1 : Int32)))]) rfl ?_
        exact hk49 v2 v3 v4 (v5 + (1 : Int32)) q13.2
    · refine r_lload_w_0 dX8_heed_145 ?_
      refine r_goto (tgt := 156) dX8_heed_147 (by decide) ?_
      refine r_callVU (cc := 8) [] (am_X8_narrow q8.1 q5.1 q8.2) rfl rfl cf_X8_narrow mw_X8_119 (by decide) dX8_heed_156 rfl (Nat.le_of_ble_eq_true rfl) ⟨rfl, rfl⟩ (fun q14 => ?_)
      refine r_aload_n_3 dX8_heed_159 rfl ?_
      refine r_iload_n_4 dX8_heed_160 rfl ?_
      refine r_iload_w_2 dX8_heed_161 ?_
      refine r_if_eq (tgt := 170) dX8_heed_163 (by decide) ?_ ?_
      · refine r_iconst dX8_heed_170 ki_3 ?_
        refine r_iload_w_7 dX8_heed_171 ?_
        refine r_callSI [.ref 72] (am_X8_fittingIndex v2 (3 : Int32) v5 q14.2) cf_X8_fittingIndex mw_X8_115 (by decide) dX8_heed_173 rfl (Nat.le_of_ble_eq_true rfl) ⟨rfl, rfl⟩ (fun q15 => ?_)
        refine r_lconst dX8_heed_176 kl_0 ?_
        refine r_callVU (cc := 8) [] (am_X8_narrow q15.1 (0 : Int64) q15.2) rfl rfl cf_X8_narrow mw_X8_119 (by decide) dX8_heed_177 rfl (Nat.le_of_ble_eq_true rfl) ⟨rfl, rfl⟩ (fun q16 => ?_)
        refine r_iinc_7 dX8_heed_180 ki_1 (by decide) rfl ?_
        refine r_goto (tgt := 49) dX8_heed_183 (by decide) ?_
        refine r_sub [3, 4, 5, 6, 7] (lv' := [(0, .ref 72), (2, .int v2), (3, .int v3), (4, .int v4), (5, .int (v5 + (1 : Int32)))]) rfl ?_
        exact hk49 v2 v3 v4 (v5 + (1 : Int32)) q16.2
      · refine r_iconst dX8_heed_166 ki_2 ?_
        refine r_goto (tgt := 171) dX8_heed_167 (by decide) ?_
        refine r_iload_w_7 dX8_heed_171 ?_
        refine r_callSI [.ref 72] (am_X8_fittingIndex v2 (2 : Int32) v5 q14.2) cf_X8_fittingIndex mw_X8_115 (by decide) dX8_heed_173 rfl (Nat.le_of_ble_eq_true rfl) ⟨rfl, rfl⟩ (fun q17 => ?_)
        refine r_lconst dX8_heed_176 kl_0 ?_
        refine r_callVU (cc := 8) [] (am_X8_narrow q17.1 (0 : Int64) q17.2) rfl rfl cf_X8_narrow mw_X8_119 (by decide) dX8_heed_177 rfl (Nat.le_of_ble_eq_true rfl) ⟨rfl, rfl⟩ (fun q18 => ?_)
        refine r_iinc_7 dX8_heed_180 ki_1 (by decide) rfl ?_
        refine r_goto (tgt := 49) dX8_heed_183 (by decide) ?_
        refine r_sub [3, 4, 5, 6, 7] (lv' := [(0, .ref 72), (2, .int v2), (3, .int v3), (4, .int v4), (5, .int (v5 + (1 : Int32)))]) rfl ?_
        exact hk49 v2 v3 v4 (v5 + (1 : Int32)) q18.2
  · refine r_lload_w_1 dX8_heed_118 ?_
    refine r_goto (tgt := 129) dX8_heed_120 (by decide) ?_
    refine r_callVU (cc := 8) [] (am_X8_narrow q6.1 q4.1 q6.2) rfl rfl cf_X8_narrow mw_X8_119 (by decide) dX8_heed_129 rfl (Nat.le_of_ble_eq_true rfl) ⟨rfl, rfl⟩ (fun q19 => ?_)
    refine r_aload_n_3 dX8_heed_132 rfl ?_
    refine r_iload_n_4 dX8_heed_133 rfl ?_
    refine r_iconst dX8_heed_134 ki_1 ?_
    refine r_iload_w_7 dX8_heed_135 ?_
    refine r_callSI [.ref 72] (am_X8_fittingIndex v2 (1 : Int32) v5 q19.2) cf_X8_fittingIndex mw_X8_115 (by decide) dX8_heed_137 rfl (Nat.le_of_ble_eq_true rfl) ⟨rfl, rfl⟩ (fun q20 => ?_)
    refine r_iload_w_2 dX8_heed_140 ?_
    refine r_if_eq (tgt := 150) dX8_heed_142 (by decide) ?_ ?_
    · refine r_lload_w_0 dX8_heed_150 ?_
      refine r_ldc2 dX8_heed_152 kw_X8_72 ?_
      refine r_lxor dX8_heed_155 ?_
      refine r_callVU (cc := 8) [] (am_X8_narrow q20.1 (q5.1 ^^^ (-1 : Int64)) q20.2) rfl rfl cf_X8_narrow mw_X8_119 (by decide) dX8_heed_156 rfl (Nat.le_of_ble_eq_true rfl) ⟨rfl, rfl⟩ (fun q21 => ?_)
      refine r_aload_n_3 dX8_heed_159 rfl ?_
      refine r_iload_n_4 dX8_heed_160 rfl ?_
      refine r_iload_w_2 dX8_heed_161 ?_
      refine r_if_eq (tgt := 170) dX8_heed_163 (by decide) ?_ ?_
      · refine r_iconst dX8_heed_170 ki_3 ?_
        refine r_iload_w_7 dX8_heed_171 ?_
        refine r_callSI [.ref 72] (am_X8_fittingIndex v2 (3 : Int32) v5 q21.2) cf_X8_fittingIndex mw_X8_115 (by decide) dX8_heed_173 rfl (Nat.le_of_ble_eq_true rfl) ⟨rfl, rfl⟩ (fun q22 => ?_)
        refine r_lconst dX8_heed_176 kl_0 ?_
        refine r_callVU (cc := 8) [] (am_X8_narrow q22.1 (0 : Int64) q22.2) rfl rfl cf_X8_narrow mw_X8_119 (by decide) dX8_heed_177 rfl (Nat.le_of_ble_eq_true rfl) ⟨rfl, rfl⟩ (fun q23 => ?_)
        refine r_iinc_7 dX8_heed_180 ki_1 (by decide) rfl ?_
        refine r_goto (tgt := 49) dX8_heed_183 (by decide) ?_
        refine r_sub [3, 4, 5, 6, 7] (lv' := [(0, .ref 72), (2, .int v2), (3, .int v3), (4, .int v4), (5, .int (v5 + (1 : Int32)))]) rfl ?_
        exact hk49 v2 v3 v4 (v5 + (1 : Int32)) q23.2
      · refine r_iconst dX8_heed_166 ki_2 ?_
        refine r_goto (tgt := 171) dX8_heed_167 (by decide) ?_
        refine r_iload_w_7 dX8_heed_171 ?_
        refine r_callSI [.ref 72] (am_X8_fittingIndex v2 (2 : Int32) v5 q21.2) cf_X8_fittingIndex mw_X8_115 (by decide) dX8_heed_173 rfl (Nat.le_of_ble_eq_true rfl) ⟨rfl, rfl⟩ (fun q24 => ?_)
        refine r_lconst dX8_heed_176 kl_0 ?_
        refine r_callVU (cc := 8) [] (am_X8_narrow q24.1 (0 : Int64) q24.2) rfl rfl cf_X8_narrow mw_X8_119 (by decide) dX8_heed_177 rfl (Nat.le_of_ble_eq_true rfl) ⟨rfl, rfl⟩ (fun q25 => ?_)
        refine r_iinc_7 dX8_heed_180 ki_1 (by decide) rfl ?_
        refine r_goto (tgt := 49) dX8_heed_183 (by decide) ?_
        refine r_sub [3, 4, 5, 6, 7] (lv' := [(0, .ref 72), (2, .int v2), (3, .int v3), (4, .int v4), (5, .int (v5 + (1 : Int32)))]) rfl ?_
        exact hk49 v2 v3 v4 (v5 + (1 : Int32)) q25.2
    · refine r_lload_w_0 dX8_heed_145 ?_
      refine r_goto (tgt := 156) dX8_heed_147 (by decide) ?_
      refine r_callVU (cc := 8) [] (am_X8_narrow q20.1 q5.1 q20.2) rfl rfl cf_X8_narrow mw_X8_119 (by decide) dX8_heed_156 rfl (Nat.le_of_ble_eq_true rfl) ⟨rfl, rfl⟩ (fun q26 => ?_)
      refine r_aload_n_3 dX8_heed_159 rfl ?_
      refine r_iload_n_4 dX8_heed_160 rfl ?_
      refine r_iload_w_2 dX8_heed_161 ?_
      refine r_if_eq (tgt := 170) dX8_heed_163 (by decide) ?_ ?_
      · refine r_iconst dX8_heed_170 ki_3 ?_
        refine r_iload_w_7 dX8_heed_171 ?_
        refine r_callSI [.ref 72] (am_X8_fittingIndex v2 (3 : Int32) v5 q26.2) cf_X8_fittingIndex mw_X8_115 (by decide) dX8_heed_173 rfl (Nat.le_of_ble_eq_true rfl) ⟨rfl, rfl⟩ (fun q27 => ?_)
        refine r_lconst dX8_heed_176 kl_0 ?_
        refine r_callVU (cc := 8) [] (am_X8_narrow q27.1 (0 : Int64) q27.2) rfl rfl cf_X8_narrow mw_X8_119 (by decide) dX8_heed_177 rfl (Nat.le_of_ble_eq_true rfl) ⟨rfl, rfl⟩ (fun q28 => ?_)
        refine r_iinc_7 dX8_heed_180 ki_1 (by decide) rfl ?_
        refine r_goto (tgt := 49) dX8_heed_183 (by decide) ?_
        refine r_sub [3, 4, 5, 6, 7] (lv' := [(0, .ref 72), (2, .int v2), (3, .int v3), (4, .int v4), (5, .int (v5 + (1 : Int32)))]) rfl ?_
        exact hk49 v2 v3 v4 (v5 + (1 : Int32)) q28.2
      · refine r_iconst dX8_heed_166 ki_2 ?_
        refine r_goto (tgt := 171) dX8_heed_167 (by decide) ?_
        refine r_iload_w_7 dX8_heed_171 ?_
        refine r_callSI [.ref 72] (am_X8_fittingIndex v2 (2 : Int32) v5 q26.2) cf_X8_fittingIndex mw_X8_115 (by decide) dX8_heed_173 rfl (Nat.le_of_ble_eq_true rfl) ⟨rfl, rfl⟩ (fun q29 => ?_)
        refine r_lconst dX8_heed_176 kl_0 ?_
        refine r_callVU (cc := 8) [] (am_X8_narrow q29.1 (0 : Int64) q29.2) rfl rfl cf_X8_narrow mw_X8_119 (by decide) dX8_heed_177 rfl (Nat.le_of_ble_eq_true rfl) ⟨rfl, rfl⟩ (fun q30 => ?_)
        refine r_iinc_7 dX8_heed_180 ki_1 (by decide) rfl ?_
        refine r_goto (tgt := 49) dX8_heed_183 (by decide) ?_
        refine r_sub [3, 4, 5, 6, 7] (lv' := [(0, .ref 72), (2, .int v2), (3, .int v3), (4, .int v4), (5, .int (v5 + (1 : Int32)))]) rfl ?_
        exact hk49 v2 v3 v4 (v5 + (1 : Int32)) q30.2
def f_X8_heed_49B (k49 : Int32 → Int32 → Int32 → Int32 → DD → Option (Unit × DD)) (v2 : Int32) (v3 : Int32) (v4 : Int32) (v5 : Int32) (d : DD) : Option (Unit × DD) :=
  if v5 < (d.1 2 0) then
  if ((iushr v4 v5) &&& (1 : Int32)) = (1 : Int32) then
    f_X8_heed_77 k49 v2 v3 v4 v5 (1 : Int32) d
    else
    f_X8_heed_77 k49 v2 v3 v4 v5 (0 : Int32) d
  else
  some ((), d)
def f_X8_heed_49 : Nat → Int32 → Int32 → Int32 → Int32 → DD → Option (Unit × DD)
  | 0, _, _, _, _, _ => none
  | n + 1, v2, v3, v4, v5, d => f_X8_heed_49B (f_X8_heed_49 n) v2 v3 v4 v5 d
set_option maxRecDepth 100000 in
set_option maxHeartbeats 4000000 in
theorem w_X8_heed_49B {E : XE} (k49 : Int32 → Int32 → Int32 → Int32 → DD → Option (Unit × DD)) (hk49 : ∀ (v2 : Int32) (v3 : Int32) (v4 : Int32) (v5 : Int32) (d : DD), AW E si_X8_heed 0 0 (QM E wrU) (k49 v2 v3 v4 v5 d) 49 [(0, .ref 72), (2, .int v2), (3, .int v3), (4, .int v4), (5, .int v5)] [] d) (v2 : Int32) (v3 : Int32) (v4 : Int32) (v5 : Int32) (d : DD) : AW E si_X8_heed 0 0 (QM E wrU) (f_X8_heed_49B k49 v2 v3 v4 v5 d) 49 [(0, .ref 72), (2, .int v2), (3, .int v3), (4, .int v4), (5, .int v5)] [] d := by
  unfold f_X8_heed_49B
  refine r_iload_w_4 dX8_heed_49 ?_
  refine r_aload_n_0 dX8_heed_51 rfl ?_
  refine r_getr (t := 2) (cc := 8) 0 rfl rfl uX8 (by decide) rfl fw_X8_53 rfl dX8_heed_52 ?_
  refine r_geti (cc := 1) 0 rfl rfl uX1 (by decide) rfl fw_X8_108 dX8_heed_55 ?_
  refine r_icmp_ge (tgt := 186) dX8_heed_58 (by decide) ?_ ?_
  · exact r_return dX8_heed_186 rfl
  · refine r_iload_w_3 dX8_heed_61 ?_
    refine r_iload_w_4 dX8_heed_63 ?_
    refine r_iushr dX8_heed_65 ?_
    refine r_iconst dX8_heed_66 ki_1 ?_
    refine r_iand dX8_heed_67 ?_
    refine r_iconst dX8_heed_68 ki_1 ?_
    refine r_icmp_ne (tgt := 76) dX8_heed_69 (by decide) ?_ ?_
    · refine r_iconst dX8_heed_76 ki_0 ?_
      exact w_X8_heed_77 k49 hk49 v2 v3 v4 v5 (0 : Int32) d
    · refine r_iconst dX8_heed_72 ki_1 ?_
      refine r_goto (tgt := 77) dX8_heed_73 (by decide) ?_
      exact w_X8_heed_77 k49 hk49 v2 v3 v4 v5 (1 : Int32) d
theorem w_X8_heed_49 {E : XE} (n : Nat) : ∀ (v2 : Int32) (v3 : Int32) (v4 : Int32) (v5 : Int32) (d : DD), AW E si_X8_heed 0 0 (QM E wrU) (f_X8_heed_49 n v2 v3 v4 v5 d) 49 [(0, .ref 72), (2, .int v2), (3, .int v3), (4, .int v4), (5, .int v5)] [] d := by
  induction n with
  | zero => intros; exact r_none
  | succ n ih => intro v2 v3 v4 v5 d; exact w_X8_heed_49B (f_X8_heed_49 n) ih v2 v3 v4 v5 d
def f_X8_heed (p1 : Int32) (d : DD) : Option (Unit × DD) :=
  (f_X9_at 13 p1 d).bind fun q1 =>
  (f_X9_at 14 p1 q1.2).bind fun q2 =>
  (f_X9_at 15 p1 q2.2).bind fun q3 =>
  f_X8_heed_49 FU q1.1 q2.1 q3.1 (0 : Int32) q3.2
set_option maxRecDepth 100000 in
set_option maxHeartbeats 4000000 in
theorem am_X8_heed (p1 : Int32) (d : DD) : AM wrU mi_X8_heed 2 49 [.ref 72, .int p1] d (f_X8_heed p1 d) := by
  refine AM_intro (si := si_X8_heed) (lv := [(0, .ref 72), (1, .int p1)]) rfl (by decide +kernel) rfl (Nat.le_of_ble_eq_true rfl) (fun E => ?_)
  unfold f_X8_heed
  refine r_aload_n_0 dX8_heed_0 rfl ?_
  refine r_getr (t := 2) (cc := 8) 0 rfl rfl uX8 (by decide) rfl fw_X8_53 rfl dX8_heed_1 ?_
  refine r_getr (t := 12) (cc := 1) 11 rfl rfl uX1 (by decide) rfl fw_X8_57 rfl dX8_heed_4 ?_
  refine r_getr (t := 13) (cc := 5) 1 rfl rfl uX5 (by decide) rfl fw_X8_95 rfl dX8_heed_7 ?_
  refine r_iload_n_1 dX8_heed_10 rfl ?_
  refine r_callSNI [] (am_X9_at 13 rfl p1 d) cf_X9_at wn_X8_98 (by decide) dX8_heed_11 rfl (Nat.le_of_ble_eq_true rfl) ⟨rfl, rfl⟩ (fun q1 => ?_)
  refine r_istore_n_x dX8_heed_14 rfl (by decide) rfl ?_
  refine r_aload_n_1 dX8_heed_15 rfl ?_
  refine r_getr (t := 2) (cc := 8) 0 rfl rfl uX8 (by decide) rfl fw_X8_53 rfl dX8_heed_16 ?_
  refine r_getr (t := 12) (cc := 1) 11 rfl rfl uX1 (by decide) rfl fw_X8_57 rfl dX8_heed_19 ?_
  refine r_getr (t := 14) (cc := 5) 2 rfl rfl uX5 (by decide) rfl fw_X8_102 rfl dX8_heed_22 ?_
  refine r_iload_n_2 dX8_heed_25 rfl ?_
  refine r_callSNI [] (am_X9_at 14 rfl p1 q1.2) cf_X9_at wn_X8_98 (by decide) dX8_heed_26 rfl (Nat.le_of_ble_eq_true rfl) ⟨rfl, rfl⟩ (fun q2 => ?_)
  refine r_istore_n_x dX8_heed_29 rfl (by decide) rfl ?_
  refine r_aload_n_2 dX8_heed_30 rfl ?_
  refine r_getr (t := 2) (cc := 8) 0 rfl rfl uX8 (by decide) rfl fw_X8_53 rfl dX8_heed_31 ?_
  refine r_getr (t := 12) (cc := 1) 11 rfl rfl uX1 (by decide) rfl fw_X8_57 rfl dX8_heed_34 ?_
  refine r_getr (t := 15) (cc := 5) 3 rfl rfl uX5 (by decide) rfl fw_X8_105 rfl dX8_heed_37 ?_
  refine r_iload_n_3 dX8_heed_40 rfl ?_
  refine r_callSNI [] (am_X9_at 15 rfl p1 q2.2) cf_X9_at wn_X8_98 (by decide) dX8_heed_41 rfl (Nat.le_of_ble_eq_true rfl) ⟨rfl, rfl⟩ (fun q3 => ?_)
  refine r_istore_w_x dX8_heed_44 (by decide) rfl ?_
  refine r_iconst dX8_heed_46 ki_0 ?_
  refine r_istore_w_x dX8_heed_47 (by decide) rfl ?_
  refine r_sub [4, 3, 2, 1, 0] (lv' := [(0, .ref 72), (2, .int q1.1), (3, .int q2.1), (4, .int q3.1), (5, .int (0 : Int32))]) rfl ?_
  exact w_X8_heed_49 FU q1.1 q2.1 q3.1 (0 : Int32) q3.2
theorem cf_X8_heed : CFv mi_X8_heed 1 := ⟨iw_X8_heed, vw_X8_heed, nw_X8, cw_X8_heed, by unfold plainF; decide +kernel⟩
abbrev si_X8_startBranches : SI := (cX8_startBranches, RX8, 3, none, 2, 44)
def f_X8_startBranches_42 (k21 : Int32 → DD → Option (Unit × DD)) (v1 : Int32) (t0 : Int32) (d : DD) : Option (Unit × DD) :=
  if t0 = 0 then
  (f_X9_putLong 77 v1 (1 : Int64) d).bind fun q4 =>
    k21 (v1 + (1 : Int32)) q4.2
  else
  (f_X1_timetablesOf 2 v1 d).bind fun q5 =>
    (f_X9_putLong 77 v1 (((1 : Int64) <<< (q5.1.toInt64 &&& 63)) - (1 : Int64)) q5.2).bind fun q6 =>
    k21 (v1 + (1 : Int32)) q6.2
set_option maxRecDepth 100000 in
set_option maxHeartbeats 4000000 in
theorem w_X8_startBranches_42 {E : XE} (k21 : Int32 → DD → Option (Unit × DD)) (hk21 : ∀ (v1 : Int32) (d : DD), AW E si_X8_startBranches 0 0 (QM E wrU) (k21 v1 d) 21 [(0, .ref 72), (1, .int v1)] [] d) (v1 : Int32) (t0 : Int32) (d : DD) : AW E si_X8_startBranches 0 0 (QM E wrU) (f_X8_startBranches_42 k21 v1 t0 d) 42 [(0, .ref 72), (1, .int v1)] [.int t0] d := by
  unfold f_X8_startBranches_42
  refine r_istore_n_x dX8_startBranches_42 rfl (by decide) rfl ?_
  refine r_aload_n_1 dX8_startBranches_43 rfl ?_
  refine r_getr (t := 77) (cc := 8) 8 rfl rfl uX8 (by decide) rfl fw_X8_35 rfl dX8_startBranches_44 ?_
  refine r_iload_n_2 dX8_startBranches_47 rfl ?_
  refine r_iload_n_0 dX8_startBranches_48 rfl ?_
  refine r_if_eq (tgt := 67) dX8_startBranches_49 (by decide) ?_ ?_
  · refine r_lconst dX8_startBranches_67 kl_1 ?_
    refine r_callSNU [] (am_X9_putLong 77 rfl v1 (1 : Int64) d) cf_X9_putLong wn_X8_127 (by decide) dX8_startBranches_68 rfl (Nat.le_of_ble_eq_true rfl) ⟨rfl, rfl⟩ (fun q4 => ?_)
    refine r_iinc_2 dX8_startBranches_71 ki_1 (by decide) rfl ?_
    refine r_goto (tgt := 21) dX8_startBranches_74 (by decide) ?_
    refine r_sub [1, 2] (lv' := [(0, .ref 72), (1, .int (v1 + (1 : Int32)))]) rfl ?_
    exact hk21 (v1 + (1 : Int32)) q4.2
  · refine r_lconst dX8_startBranches_52 kl_1 ?_
    refine r_aload_n_1 dX8_startBranches_53 rfl ?_
    refine r_getr (t := 2) (cc := 8) 0 rfl rfl uX8 (by decide) rfl fw_X8_53 rfl dX8_startBranches_54 ?_
    refine r_iload_n_2 dX8_startBranches_57 rfl ?_
    refine r_callVI (cc := 1) [.long (1 : Int64), .int v1, .ref 77] (am_X1_timetablesOf 2 rfl v1 d) rfl rfl cf_X1_timetablesOf mw_X8_135 (by decide) dX8_startBranches_58 rfl (Nat.le_of_ble_eq_true rfl) ⟨rfl, rfl⟩ (fun q5 => ?_)
    refine r_lshl dX8_startBranches_61 ?_
    refine r_lconst dX8_startBranches_62 kl_1 ?_
    refine r_lsub dX8_startBranches_63 ?_
    refine r_goto (tgt := 68) dX8_startBranches_64 (by decide) ?_
    refine r_callSNU [] (am_X9_putLong 77 rfl v1 (((1 : Int64) <<< (q5.1.toInt64 &&& 63)) - (1 : Int64)) q5.2) cf_X9_putLong wn_X8_127 (by decide) dX8_startBranches_68 rfl (Nat.le_of_ble_eq_true rfl) ⟨rfl, rfl⟩ (fun q6 => ?_)
    refine r_iinc_2 dX8_startBranches_71 ki_1 (by decide) rfl ?_
    refine r_goto (tgt := 21) dX8_startBranches_74 (by decide) ?_
    refine r_sub [1, 2] (lv' := [(0, .ref 72), (1, .int (v1 + (1 : Int32)))]) rfl ?_
    exact hk21 (v1 + (1 : Int32)) q6.2
def f_X8_startBranches_21B (k21 : Int32 → DD → Option (Unit × DD)) (v1 : Int32) (d : DD) : Option (Unit × DD) :=
  if v1 < (3 : Int32) then
  if v1 < (d.1 2 0) then
    f_X8_startBranches_42 k21 v1 (1 : Int32) d
    else
    f_X8_startBranches_42 k21 v1 (0 : Int32) d
  else
  some ((), d)
def f_X8_startBranches_21 : Nat → Int32 → DD → Option (Unit × DD)
  | 0, _, _ => none
  | n + 1, v1, d => f_X8_startBranches_21B (f_X8_startBranches_21 n) v1 d
set_option maxRecDepth 100000 in
set_option maxHeartbeats 4000000 in
theorem w_X8_startBranches_21B {E : XE} (k21 : Int32 → DD → Option (Unit × DD)) (hk21 : ∀ (v1 : Int32) (d : DD), AW E si_X8_startBranches 0 0 (QM E wrU) (k21 v1 d) 21 [(0, .ref 72), (1, .int v1)] [] d) (v1 : Int32) (d : DD) : AW E si_X8_startBranches 0 0 (QM E wrU) (f_X8_startBranches_21B k21 v1 d) 21 [(0, .ref 72), (1, .int v1)] [] d := by
  unfold f_X8_startBranches_21B
  refine r_iload_n_1 dX8_startBranches_21 rfl ?_
  refine r_iconst dX8_startBranches_22 ki_3 ?_
  refine r_icmp_ge (tgt := 77) dX8_startBranches_23 (by decide) ?_ ?_
  · exact r_return dX8_startBranches_77 rfl
  · refine r_iload_n_1 dX8_startBranches_26 rfl ?_
    refine r_aload_n_0 dX8_startBranches_27 rfl ?_
    refine r_getr (t := 2) (cc := 8) 0 rfl rfl uX8 (by decide) rfl fw_X8_53 rfl dX8_startBranches_28 ?_
    refine r_geti (cc := 1) 0 rfl rfl uX1 (by decide) rfl fw_X8_108 dX8_startBranches_31 ?_
    refine r_icmp_ge (tgt := 41) dX8_startBranches_34 (by decide) ?_ ?_
    · refine r_iconst dX8_startBranches_41 ki_0 ?_
      exact w_X8_startBranches_42 k21 hk21 v1 (0 : Int32) d
    · refine r_iconst dX8_startBranches_37 ki_1 ?_
      refine r_goto (tgt := 42) dX8_startBranches_38 (by decide) ?_
      exact w_X8_startBranches_42 k21 hk21 v1 (1 : Int32) d
theorem w_X8_startBranches_21 {E : XE} (n : Nat) : ∀ (v1 : Int32) (d : DD), AW E si_X8_startBranches 0 0 (QM E wrU) (f_X8_startBranches_21 n v1 d) 21 [(0, .ref 72), (1, .int v1)] [] d := by
  induction n with
  | zero => intros; exact r_none
  | succ n ih => intro v1 d; exact w_X8_startBranches_21B (f_X8_startBranches_21 n) ih v1 d
def f_X8_startBranches (d : DD) : Option (Unit × DD) :=
  bd (u1 d 72 5 (0 : Int32)) fun d1 =>
  bd (u1 d1 72 6 (1 : Int32)) fun d2 =>
  (f_X9_put 76 (0 : Int32) (0 : Int32) d2).bind fun q3 =>
  f_X8_startBranches_21 FU (0 : Int32) q3.2
set_option maxRecDepth 100000 in
set_option maxHeartbeats 4000000 in
theorem am_X8_startBranches (d : DD) : AM wrU mi_X8_startBranches 2 44 [.ref 72] d (f_X8_startBranches d) := by
  refine AM_intro (si := si_X8_startBranches) (lv := [(0, .ref 72)]) rfl (by decide +kernel) rfl (Nat.le_of_ble_eq_true rfl) (fun E => ?_)
  unfold f_X8_startBranches
  refine r_aload_n_0 dX8_startBranches_0 rfl ?_
  refine r_iconst dX8_startBranches_1 ki_0 ?_
  refine r_puti (cc := 8) 5 tyX8 tyX8_ok nmX8 rfl (by decide +kernel) rfl rfl uX8 (by decide) rfl fw_X8_26 dX8_startBranches_2 ?_
  refine r_bd (fun d1 => ?_)
  refine r_aload_n_0 dX8_startBranches_5 rfl ?_
  refine r_iconst dX8_startBranches_6 ki_1 ?_
  refine r_puti (cc := 8) 6 tyX8 tyX8_ok nmX8 rfl (by decide +kernel) rfl rfl uX8 (by decide) rfl fw_X8_29 dX8_startBranches_7 ?_
  refine r_bd (fun d2 => ?_)
  refine r_aload_n_0 dX8_startBranches_10 rfl ?_
  refine r_getr (t := 76) (cc := 8) 7 rfl rfl uX8 (by decide) rfl fw_X8_32 rfl dX8_startBranches_11 ?_
  refine r_iconst dX8_startBranches_14 ki_0 ?_
  refine r_iconst dX8_startBranches_15 ki_0 ?_
  refine r_callSNU [] (am_X9_put 76 rfl (0 : Int32) (0 : Int32) d2) cf_X9_put wn_X8_131 (by decide) dX8_startBranches_16 rfl (Nat.le_of_ble_eq_true rfl) ⟨rfl, rfl⟩ (fun q3 => ?_)
  refine r_iconst dX8_startBranches_19 ki_0 ?_
  refine r_istore_n_x dX8_startBranches_20 rfl (by decide) rfl ?_
  refine r_sub [1, 0] (lv' := [(0, .ref 72), (1, .int (0 : Int32))]) rfl ?_
  exact w_X8_startBranches_21 FU (0 : Int32) q3.2
theorem cf_X8_startBranches : CFv mi_X8_startBranches 0 := ⟨iw_X8_startBranches, vw_X8_startBranches, nw_X8, cw_X8_startBranches, by unfold plainF; decide +kernel⟩
abbrev si_X8_gather : SI := (cX8_gather, RX8, 3, none, 4, 93)
def f_X8_gather_40B (k40 : Int32 → DD → Option (Unit × DD)) (v2 : Int32) (d : DD) : Option (Unit × DD) :=
  if v2 < (d.1 2 1) then
  (f_X8_findChoices v2 d).bind fun q3 =>
    (f_X8_branchOut v2 q3.2).bind fun q4 =>
    k40 (v2 + (1 : Int32)) q4.2
  else
  some ((), d)
def f_X8_gather_40 : Nat → Int32 → DD → Option (Unit × DD)
  | 0, _, _ => none
  | n + 1, v2, d => f_X8_gather_40B (f_X8_gather_40 n) v2 d
set_option maxRecDepth 100000 in
set_option maxHeartbeats 4000000 in
theorem w_X8_gather_40B {E : XE} (k40 : Int32 → DD → Option (Unit × DD)) (hk40 : ∀ (v2 : Int32) (d : DD), AW E si_X8_gather 0 0 (QM E wrU) (k40 v2 d) 40 [(0, .ref 72), (2, .int v2)] [] d) (v2 : Int32) (d : DD) : AW E si_X8_gather 0 0 (QM E wrU) (f_X8_gather_40B k40 v2 d) 40 [(0, .ref 72), (2, .int v2)] [] d := by
  unfold f_X8_gather_40B
  refine r_iload_n_1 dX8_gather_40 rfl ?_
  refine r_aload_n_0 dX8_gather_41 rfl ?_
  refine r_getr (t := 2) (cc := 8) 0 rfl rfl uX8 (by decide) rfl fw_X8_53 rfl dX8_gather_42 ?_
  refine r_geti (cc := 1) 1 rfl rfl uX1 (by decide) rfl fw_X8_86 dX8_gather_45 ?_
  refine r_icmp_ge (tgt := 67) dX8_gather_48 (by decide) ?_ ?_
  · exact r_return dX8_gather_67 rfl
  · refine r_aload_n_0 dX8_gather_51 rfl ?_
    refine r_iload_n_1 dX8_gather_52 rfl ?_
    refine r_callVU (cc := 8) [] (am_X8_findChoices v2 d) rfl rfl cf_X8_findChoices mw_X8_89 (by decide) dX8_gather_53 rfl (Nat.le_of_ble_eq_true rfl) ⟨rfl, rfl⟩ (fun q3 => ?_)
    refine r_aload_n_0 dX8_gather_56 rfl ?_
    refine r_iload_n_1 dX8_gather_57 rfl ?_
    refine r_callVU (cc := 8) [] (am_X8_branchOut v2 q3.2) rfl rfl cf_X8_branchOut mw_X8_92 (by decide) dX8_gather_58 rfl (Nat.le_of_ble_eq_true rfl) ⟨rfl, rfl⟩ (fun q4 => ?_)
    refine r_iinc_1 dX8_gather_61 ki_1 (by decide) rfl ?_
    refine r_goto (tgt := 40) dX8_gather_64 (by decide) ?_
    exact hk40 (v2 + (1 : Int32)) q4.2
theorem w_X8_gather_40 {E : XE} (n : Nat) : ∀ (v2 : Int32) (d : DD), AW E si_X8_gather 0 0 (QM E wrU) (f_X8_gather_40 n v2 d) 40 [(0, .ref 72), (2, .int v2)] [] d := by
  induction n with
  | zero => intros; exact r_none
  | succ n ih => intro v2 d; exact w_X8_gather_40B (f_X8_gather_40 n) ih v2 d
def f_X8_gather_34 (d : DD) : Option (Unit × DD) :=
  (f_X8_startBranches d).bind fun q2 =>
  f_X8_gather_40 FU (0 : Int32) q2.2
set_option maxRecDepth 100000 in
set_option maxHeartbeats 4000000 in
theorem w_X8_gather_34 {E : XE} (d : DD) : AW E si_X8_gather 0 0 (QM E wrU) (f_X8_gather_34 d) 34 [(0, .ref 72)] [] d := by
  unfold f_X8_gather_34
  refine r_aload_n_0 dX8_gather_34 rfl ?_
  refine r_callVU (cc := 8) [] (am_X8_startBranches d) rfl rfl cf_X8_startBranches mw_X8_83 (by decide) dX8_gather_35 rfl (Nat.le_of_ble_eq_true rfl) ⟨rfl, rfl⟩ (fun q2 => ?_)
  refine r_iconst dX8_gather_38 ki_0 ?_
  refine r_istore_n_x dX8_gather_39 rfl (by decide) rfl ?_
  refine r_sub [1, 0] (lv' := [(0, .ref 72), (2, .int (0 : Int32))]) rfl ?_
  exact w_X8_gather_40 FU (0 : Int32) q2.2
def f_X8_gather_12B (k12 : Int32 → Int32 → DD → Option (Unit × DD)) (v1 : Int32) (v2 : Int32) (d : DD) : Option (Unit × DD) :=
  if v2 < v1 then
  if v2 < (40 : Int32) then
    (f_X8_heed v2 d).bind fun q5 =>
      k12 v1 (v2 + (1 : Int32)) q5.2
    else
    f_X8_gather_34 d
  else
  f_X8_gather_34 d
def f_X8_gather_12 : Nat → Int32 → Int32 → DD → Option (Unit × DD)
  | 0, _, _, _ => none
  | n + 1, v1, v2, d => f_X8_gather_12B (f_X8_gather_12 n) v1 v2 d
set_option maxRecDepth 100000 in
set_option maxHeartbeats 4000000 in
theorem w_X8_gather_12B {E : XE} (k12 : Int32 → Int32 → DD → Option (Unit × DD)) (hk12 : ∀ (v1 : Int32) (v2 : Int32) (d : DD), AW E si_X8_gather 0 0 (QM E wrU) (k12 v1 v2 d) 12 [(0, .ref 72), (1, .int v1), (2, .int v2)] [] d) (v1 : Int32) (v2 : Int32) (d : DD) : AW E si_X8_gather 0 0 (QM E wrU) (f_X8_gather_12B k12 v1 v2 d) 12 [(0, .ref 72), (1, .int v1), (2, .int v2)] [] d := by
  unfold f_X8_gather_12B
  refine r_iload_n_2 dX8_gather_12 rfl ?_
  refine r_iload_n_1 dX8_gather_13 rfl ?_
  refine r_icmp_ge (tgt := 34) dX8_gather_14 (by decide) ?_ ?_
  · refine r_sub [0] (lv' := [(0, .ref 72)]) rfl ?_
    exact w_X8_gather_34 d
  · refine r_iload_n_2 dX8_gather_17 rfl ?_
    refine r_bipush dX8_gather_18 kb_40 ?_
    refine r_icmp_ge (tgt := 34) dX8_gather_20 (by decide) ?_ ?_
    · refine r_sub [0] (lv' := [(0, .ref 72)]) rfl ?_
      exact w_X8_gather_34 d
    · refine r_aload_n_0 dX8_gather_23 rfl ?_
      refine r_iload_n_2 dX8_gather_24 rfl ?_
      refine r_callVU (cc := 8) [] (am_X8_heed v2 d) rfl rfl cf_X8_heed mw_X8_80 (by decide) dX8_gather_25 rfl (Nat.le_of_ble_eq_true rfl) ⟨rfl, rfl⟩ (fun q5 => ?_)
      refine r_iinc_2 dX8_gather_28 ki_1 (by decide) rfl ?_
      refine r_goto (tgt := 12) dX8_gather_31 (by decide) ?_
      exact hk12 v1 (v2 + (1 : Int32)) q5.2
theorem w_X8_gather_12 {E : XE} (n : Nat) : ∀ (v1 : Int32) (v2 : Int32) (d : DD), AW E si_X8_gather 0 0 (QM E wrU) (f_X8_gather_12 n v1 v2 d) 12 [(0, .ref 72), (1, .int v1), (2, .int v2)] [] d := by
  induction n with
  | zero => intros; exact r_none
  | succ n ih => intro v1 v2 d; exact w_X8_gather_12B (f_X8_gather_12 n) ih v1 v2 d
def f_X8_gather (p1 : Int32) (d : DD) : Option (Unit × DD) :=
  (f_J7_fill_d0a16 73 (-1 : Int64) d).bind fun q1 =>
  f_X8_gather_12 FU p1 (0 : Int32) q1.2
set_option maxRecDepth 100000 in
set_option maxHeartbeats 4000000 in
theorem am_X8_gather (p1 : Int32) (d : DD) : AM wrU mi_X8_gather 4 93 [.ref 72, .int p1] d (f_X8_gather p1 d) := by
  refine AM_intro (si := si_X8_gather) (lv := [(0, .ref 72), (1, .int p1)]) rfl (by decide +kernel) rfl (Nat.le_of_ble_eq_true rfl) (fun E => ?_)
  unfold f_X8_gather
  refine r_aload_n_0 dX8_gather_0 rfl ?_
  refine r_getr (t := 73) (cc := 8) 1 rfl rfl uX8 (by decide) rfl fw_X8_11 rfl dX8_gather_1 ?_
  refine r_ldc2 dX8_gather_4 kw_X8_72 ?_
  refine r_callSU [] (am_J7_fill_d0a16 73 rfl (-1 : Int64) d) cf_J7_fill_d0a16 mw_X8_74 (by decide) dX8_gather_7 rfl (Nat.le_of_ble_eq_true rfl) ⟨rfl, rfl⟩ (fun q1 => ?_)
  refine r_iconst dX8_gather_10 ki_0 ?_
  refine r_istore_n_x dX8_gather_11 rfl (by decide) rfl ?_
  refine r_sub [1, 2, 0] (lv' := [(0, .ref 72), (1, .int p1), (2, .int (0 : Int32))]) rfl ?_
  exact w_X8_gather_12 FU p1 (0 : Int32) q1.2
theorem cf_X8_gather : CFv mi_X8_gather 1 := ⟨iw_X8_gather, vw_X8_gather, nw_X8, cw_X8_gather, by unfold plainF; decide +kernel⟩
abbrev si_X8_gatherAll : SI := (cX8_gatherAll, RX8, 1, none, 5, 115)
def f_X8_gatherAll (d : DD) : Option (Unit × DD) :=
  (f_X8_gather (d.1 12 0) d).bind fun q1 =>
  some ((), q1.2)
set_option maxRecDepth 100000 in
set_option maxHeartbeats 4000000 in
theorem am_X8_gatherAll (d : DD) : AM wrU mi_X8_gatherAll 5 115 [.ref 72] d (f_X8_gatherAll d) := by
  refine AM_intro (si := si_X8_gatherAll) (lv := [(0, .ref 72)]) rfl (by decide +kernel) rfl (Nat.le_of_ble_eq_true rfl) (fun E => ?_)
  unfold f_X8_gatherAll
  refine r_aload_n_0 dX8_gatherAll_0 rfl ?_
  refine r_aload_n_0 dX8_gatherAll_1 rfl ?_
  refine r_getr (t := 2) (cc := 8) 0 rfl rfl uX8 (by decide) rfl fw_X8_53 rfl dX8_gatherAll_2 ?_
  refine r_getr (t := 12) (cc := 1) 11 rfl rfl uX1 (by decide) rfl fw_X8_57 rfl dX8_gatherAll_5 ?_
  refine r_geti (cc := 5) 0 rfl rfl uX5 (by decide) rfl fw_X8_63 dX8_gatherAll_8 ?_
  refine r_callVU (cc := 8) [] (am_X8_gather (d.1 12 0) d) rfl rfl cf_X8_gather mw_X8_68 (by decide) dX8_gatherAll_11 rfl (Nat.le_of_ble_eq_true rfl) ⟨rfl, rfl⟩ (fun q1 => ?_)
  exact r_return dX8_gatherAll_14 rfl
theorem cf_X8_gatherAll : CFv mi_X8_gatherAll 0 := ⟨iw_X8_gatherAll, vw_X8_gatherAll, nw_X8, cw_X8_gatherAll, by unfold plainF; decide +kernel⟩
abbrev si_X8_greatest : SI := (cX8_greatest, RX8, 4, (some .long), 1, 23)
def f_X8_greatest_4B (k4 : Int64 → Int32 → DD → Option (Int64 × DD)) (v1 : Int64) (v3 : Int32) (d : DD) : Option (Int64 × DD) :=
  if v3 < (8 : Int32) then
  (f_X9_longAt 82 v3 d).bind fun q1 =>
    bd (mxL v1 q1.1) fun x2 =>
    k4 x2 (v3 + (1 : Int32)) q1.2
  else
  some (v1, d)
def f_X8_greatest_4 : Nat → Int64 → Int32 → DD → Option (Int64 × DD)
  | 0, _, _, _ => none
  | n + 1, v1, v3, d => f_X8_greatest_4B (f_X8_greatest_4 n) v1 v3 d
set_option maxRecDepth 100000 in
set_option maxHeartbeats 4000000 in
theorem w_X8_greatest_4B {E : XE} (k4 : Int64 → Int32 → DD → Option (Int64 × DD)) (hk4 : ∀ (v1 : Int64) (v3 : Int32) (d : DD), AW E si_X8_greatest 0 0 (QM E wrL) (k4 v1 v3 d) 4 [(0, .ref 72), (1, .long v1), (3, .int v3)] [] d) (v1 : Int64) (v3 : Int32) (d : DD) : AW E si_X8_greatest 0 0 (QM E wrL) (f_X8_greatest_4B k4 v1 v3 d) 4 [(0, .ref 72), (1, .long v1), (3, .int v3)] [] d := by
  unfold f_X8_greatest_4B
  refine r_iload_n_2 dX8_greatest_4 rfl ?_
  refine r_bipush dX8_greatest_5 kb_8 ?_
  refine r_icmp_ge (tgt := 29) dX8_greatest_7 (by decide) ?_ ?_
  · refine r_lload_n_1 dX8_greatest_29 rfl ?_
    exact r_lreturn dX8_greatest_30 rfl
  · refine r_lload_n_1 dX8_greatest_10 rfl ?_
    refine r_aload_n_0 dX8_greatest_11 rfl ?_
    refine r_getr (t := 82) (cc := 8) 13 rfl rfl uX8 (by decide) rfl fw_X8_50 rfl dX8_greatest_12 ?_
    refine r_iload_n_2 dX8_greatest_15 rfl ?_
    refine r_callSNL [.long v1] (am_X9_longAt 82 rfl v3 d) cf_X9_longAt wn_X8_123 (by decide) dX8_greatest_16 rfl (Nat.le_of_ble_eq_true rfl) ⟨rfl, rfl⟩ (fun q1 => ?_)
    refine r_mxL [] mw_X8_204 (by decide) dX8_greatest_19 (Nat.le_of_ble_eq_true rfl) ⟨rfl, rfl⟩ ?_
    refine r_bdJ (fun x2 => ?_)
    refine r_lstore_n_1 dX8_greatest_22 rfl (by decide) rfl ?_
    refine r_iinc_2 dX8_greatest_23 ki_1 (by decide) rfl ?_
    refine r_goto (tgt := 4) dX8_greatest_26 (by decide) ?_
    exact hk4 x2 (v3 + (1 : Int32)) q1.2
theorem w_X8_greatest_4 {E : XE} (n : Nat) : ∀ (v1 : Int64) (v3 : Int32) (d : DD), AW E si_X8_greatest 0 0 (QM E wrL) (f_X8_greatest_4 n v1 v3 d) 4 [(0, .ref 72), (1, .long v1), (3, .int v3)] [] d := by
  induction n with
  | zero => intros; exact r_none
  | succ n ih => intro v1 v3 d; exact w_X8_greatest_4B (f_X8_greatest_4 n) ih v1 v3 d
def f_X8_greatest (d : DD) : Option (Int64 × DD) :=
  f_X8_greatest_4 FU (0 : Int64) (0 : Int32) d
set_option maxRecDepth 100000 in
set_option maxHeartbeats 4000000 in
theorem am_X8_greatest (d : DD) : AM wrL mi_X8_greatest 1 23 [.ref 72] d (f_X8_greatest d) := by
  refine AM_intro (si := si_X8_greatest) (lv := [(0, .ref 72)]) rfl (by decide +kernel) rfl (Nat.le_of_ble_eq_true rfl) (fun E => ?_)
  unfold f_X8_greatest
  refine r_lconst dX8_greatest_0 kl_0 ?_
  refine r_lstore_n_x dX8_greatest_1 rfl (by decide) rfl ?_
  refine r_iconst dX8_greatest_2 ki_0 ?_
  refine r_istore_n_x dX8_greatest_3 rfl (by decide) rfl ?_
  refine r_sub [2, 1, 0] (lv' := [(0, .ref 72), (1, .long (0 : Int64)), (3, .int (0 : Int32))]) rfl ?_
  exact w_X8_greatest_4 FU (0 : Int64) (0 : Int32) d
theorem cf_X8_greatest : CFv mi_X8_greatest 0 := ⟨iw_X8_greatest, vw_X8_greatest, nw_X8, cw_X8_greatest, by unfold plainF; decide +kernel⟩
abbrev si_X8_isEmpty : SI := (cX8_isEmpty, RX8, 1, (some .boolean), 0, 0)
def f_X8_isEmpty (d : DD) : Option (Int32 × DD) :=
  if (d.1 72 5) < (d.1 72 6) then
  some ((0 : Int32), d)
  else
  some ((1 : Int32), d)
set_option maxRecDepth 100000 in
set_option maxHeartbeats 4000000 in
theorem am_X8_isEmpty (d : DD) : AM wrI mi_X8_isEmpty 0 0 [.ref 72] d (f_X8_isEmpty d) := by
  refine AM_intro (si := si_X8_isEmpty) (lv := [(0, .ref 72)]) rfl (by decide +kernel) rfl (Nat.le_of_ble_eq_true rfl) (fun E => ?_)
  unfold f_X8_isEmpty
  refine r_aload_n_0 dX8_isEmpty_0 rfl ?_
  refine r_geti (cc := 8) 5 rfl rfl uX8 (by decide) rfl fw_X8_26 dX8_isEmpty_1 ?_
  refine r_aload_n_0 dX8_isEmpty_4 rfl ?_
  refine r_geti (cc := 8) 6 rfl rfl uX8 (by decide) rfl fw_X8_29 dX8_isEmpty_5 ?_
  refine r_icmp_lt (tgt := 15) dX8_isEmpty_8 (by decide) ?_ ?_
  · refine r_iconst dX8_isEmpty_15 ki_0 ?_
    exact r_zreturn dX8_isEmpty_16 rfl rfl
  · refine r_iconst dX8_isEmpty_11 ki_1 ?_
    refine r_goto (tgt := 16) dX8_isEmpty_12 (by decide) ?_
    exact r_zreturn dX8_isEmpty_16 rfl rfl
theorem cf_X8_isEmpty : CFv mi_X8_isEmpty 0 := ⟨iw_X8_isEmpty, vw_X8_isEmpty, nw_X8, cw_X8_isEmpty, by unfold plainF; decide +kernel⟩
abbrev si_X8_liarSets : SI := (cX8_liarSets, RX8, 5, (some .int), 2, 43)
def f_X8_liarSets_20B (k7 : Int32 → Int32 → DD → Option (Int32 × DD)) (k20 : Int32 → Int32 → Int32 → Int32 → DD → Option (Int32 × DD)) (v1 : Int32) (v2 : Int32) (v3 : Int32) (v4 : Int32) (d : DD) : Option (Int32 × DD) :=
  if v4 < (d.1 2 1) then
  (f_X8_waysIn v2 v4 d).bind fun q3 =>
    if (q3.1 &&& (1 : Int32)) = 0 then
    bd (v3 ||| ((1 : Int32) <<< (v4 &&& 31))) fun x4 =>
      k20 v1 v2 x4 (v4 + (1 : Int32)) q3.2
    else
    k20 v1 v2 v3 (v4 + (1 : Int32)) q3.2
  else
  bd (v1 ||| ((1 : Int32) <<< (v3 &&& 31))) fun x2 =>
    k7 x2 (v2 + (1 : Int32)) d
def f_X8_liarSets_20 (k7 : Int32 → Int32 → DD → Option (Int32 × DD)) : Nat → Int32 → Int32 → Int32 → Int32 → DD → Option (Int32 × DD)
  | 0, _, _, _, _, _ => none
  | n + 1, v1, v2, v3, v4, d => f_X8_liarSets_20B k7 (f_X8_liarSets_20 k7 n) v1 v2 v3 v4 d
set_option maxRecDepth 100000 in
set_option maxHeartbeats 4000000 in
theorem w_X8_liarSets_20B {E : XE} (k7 : Int32 → Int32 → DD → Option (Int32 × DD)) (hk7 : ∀ (v1 : Int32) (v2 : Int32) (d : DD), AW E si_X8_liarSets 0 0 (QM E wrI) (k7 v1 v2 d) 7 [(0, .ref 72), (1, .int v1), (2, .int v2)] [] d) (k20 : Int32 → Int32 → Int32 → Int32 → DD → Option (Int32 × DD)) (hk20 : ∀ (v1 : Int32) (v2 : Int32) (v3 : Int32) (v4 : Int32) (d : DD), AW E si_X8_liarSets 0 0 (QM E wrI) (k20 v1 v2 v3 v4 d) 20 [(0, .ref 72), (1, .int v1), (2, .int v2), (3, .int v3), (4, .int v4)] [] d) (v1 : Int32) (v2 : Int32) (v3 : Int32) (v4 : Int32) (d : DD) : AW E si_X8_liarSets 0 0 (QM E wrI) (f_X8_liarSets_20B k7 k20 v1 v2 v3 v4 d) 20 [(0, .ref 72), (1, .int v1), (2, .int v2), (3, .int v3), (4, .int v4)] [] d := by
  unfold f_X8_liarSets_20B
  refine r_iload_w_4 dX8_liarSets_20 ?_
  refine r_aload_n_0 dX8_liarSets_22 rfl ?_
  refine r_getr (t := 2) (cc := 8) 0 rfl rfl uX8 (by decide) rfl fw_X8_53 rfl dX8_liarSets_23 ?_
  refine r_geti (cc := 1) 1 rfl rfl uX1 (by decide) rfl fw_X8_86 dX8_liarSets_26 ?_
  refine r_icmp_ge (tgt := 57) dX8_liarSets_29 (by decide) ?_ ?_
  · refine r_iload_n_1 dX8_liarSets_57 rfl ?_
    refine r_iconst dX8_liarSets_58 ki_1 ?_
    refine r_iload_n_3 dX8_liarSets_59 rfl ?_
    refine r_ishl dX8_liarSets_60 ?_
    refine r_ior dX8_liarSets_61 ?_
    refine r_bdI (fun x2 => ?_)
    refine r_istore_n_1 dX8_liarSets_62 rfl (by decide) rfl ?_
    refine r_iinc_2 dX8_liarSets_63 ki_1 (by decide) rfl ?_
    refine r_goto (tgt := 7) dX8_liarSets_66 (by decide) ?_
    refine r_sub [0, 1, 2] (lv' := [(0, .ref 72), (1, .int x2), (2, .int (v2 + (1 : Int32)))]) rfl ?_
    exact hk7 x2 (v2 + (1 : Int32)) d
  · refine r_aload_n_0 dX8_liarSets_32 rfl ?_
    refine r_iload_n_2 dX8_liarSets_33 rfl ?_
    refine r_iload_w_4 dX8_liarSets_34 ?_
    refine r_callVI (cc := 8) [] (am_X8_waysIn v2 v4 d) rfl rfl cf_X8_waysIn mw_X8_164 (by decide) dX8_liarSets_36 rfl (Nat.le_of_ble_eq_true rfl) ⟨rfl, rfl⟩ (fun q3 => ?_)
    refine r_iconst dX8_liarSets_39 ki_1 ?_
    refine r_iand dX8_liarSets_40 ?_
    refine r_if_ne (tgt := 51) dX8_liarSets_41 (by decide) ?_ ?_
    · refine r_iinc_4 dX8_liarSets_51 ki_1 (by decide) rfl ?_
      refine r_goto (tgt := 20) dX8_liarSets_54 (by decide) ?_
      exact hk20 v1 v2 v3 (v4 + (1 : Int32)) q3.2
    · refine r_iload_n_3 dX8_liarSets_44 rfl ?_
      refine r_iconst dX8_liarSets_45 ki_1 ?_
      refine r_iload_w_4 dX8_liarSets_46 ?_
      refine r_ishl dX8_liarSets_48 ?_
      refine r_ior dX8_liarSets_49 ?_
      refine r_bdI (fun x4 => ?_)
      refine r_istore_n_3 dX8_liarSets_50 rfl (by decide) rfl ?_
      refine r_iinc_4 dX8_liarSets_51 ki_1 (by decide) rfl ?_
      refine r_goto (tgt := 20) dX8_liarSets_54 (by decide) ?_
      exact hk20 v1 v2 x4 (v4 + (1 : Int32)) q3.2
theorem w_X8_liarSets_20 {E : XE} (k7 : Int32 → Int32 → DD → Option (Int32 × DD)) (hk7 : ∀ (v1 : Int32) (v2 : Int32) (d : DD), AW E si_X8_liarSets 0 0 (QM E wrI) (k7 v1 v2 d) 7 [(0, .ref 72), (1, .int v1), (2, .int v2)] [] d) (n : Nat) : ∀ (v1 : Int32) (v2 : Int32) (v3 : Int32) (v4 : Int32) (d : DD), AW E si_X8_liarSets 0 0 (QM E wrI) (f_X8_liarSets_20 k7 n v1 v2 v3 v4 d) 20 [(0, .ref 72), (1, .int v1), (2, .int v2), (3, .int v3), (4, .int v4)] [] d := by
  induction n with
  | zero => intros; exact r_none
  | succ n ih => intro v1 v2 v3 v4 d; exact w_X8_liarSets_20B k7 hk7 (f_X8_liarSets_20 k7 n) ih v1 v2 v3 v4 d
def f_X8_liarSets_7B (k7 : Int32 → Int32 → DD → Option (Int32 × DD)) (v1 : Int32) (v2 : Int32) (d : DD) : Option (Int32 × DD) :=
  if v2 < (d.1 72 6) then
  f_X8_liarSets_20 k7 FU v1 v2 (0 : Int32) (0 : Int32) d
  else
  some (v1, d)
def f_X8_liarSets_7 : Nat → Int32 → Int32 → DD → Option (Int32 × DD)
  | 0, _, _, _ => none
  | n + 1, v1, v2, d => f_X8_liarSets_7B (f_X8_liarSets_7 n) v1 v2 d
set_option maxRecDepth 100000 in
set_option maxHeartbeats 4000000 in
theorem w_X8_liarSets_7B {E : XE} (k7 : Int32 → Int32 → DD → Option (Int32 × DD)) (hk7 : ∀ (v1 : Int32) (v2 : Int32) (d : DD), AW E si_X8_liarSets 0 0 (QM E wrI) (k7 v1 v2 d) 7 [(0, .ref 72), (1, .int v1), (2, .int v2)] [] d) (v1 : Int32) (v2 : Int32) (d : DD) : AW E si_X8_liarSets 0 0 (QM E wrI) (f_X8_liarSets_7B k7 v1 v2 d) 7 [(0, .ref 72), (1, .int v1), (2, .int v2)] [] d := by
  unfold f_X8_liarSets_7B
  refine r_iload_n_2 dX8_liarSets_7 rfl ?_
  refine r_aload_n_0 dX8_liarSets_8 rfl ?_
  refine r_geti (cc := 8) 6 rfl rfl uX8 (by decide) rfl fw_X8_29 dX8_liarSets_9 ?_
  refine r_icmp_ge (tgt := 69) dX8_liarSets_12 (by decide) ?_ ?_
  · refine r_iload_n_1 dX8_liarSets_69 rfl ?_
    exact r_ireturn dX8_liarSets_70 rfl
  · refine r_iconst dX8_liarSets_15 ki_0 ?_
    refine r_istore_n_x dX8_liarSets_16 rfl (by decide) rfl ?_
    refine r_iconst dX8_liarSets_17 ki_0 ?_
    refine r_istore_w_x dX8_liarSets_18 (by decide) rfl ?_
    refine r_sub [2, 3, 4, 1, 0] (lv' := [(0, .ref 72), (1, .int v1), (2, .int v2), (3, .int (0 : Int32)), (4, .int (0 : Int32))]) rfl ?_
    exact w_X8_liarSets_20 k7 hk7 FU v1 v2 (0 : Int32) (0 : Int32) d
theorem w_X8_liarSets_7 {E : XE} (n : Nat) : ∀ (v1 : Int32) (v2 : Int32) (d : DD), AW E si_X8_liarSets 0 0 (QM E wrI) (f_X8_liarSets_7 n v1 v2 d) 7 [(0, .ref 72), (1, .int v1), (2, .int v2)] [] d := by
  induction n with
  | zero => intros; exact r_none
  | succ n ih => intro v1 v2 d; exact w_X8_liarSets_7B (f_X8_liarSets_7 n) ih v1 v2 d
def f_X8_liarSets (d : DD) : Option (Int32 × DD) :=
  bd (d.1 72 5) fun x1 =>
  f_X8_liarSets_7 FU (0 : Int32) x1 d
set_option maxRecDepth 100000 in
set_option maxHeartbeats 4000000 in
theorem am_X8_liarSets (d : DD) : AM wrI mi_X8_liarSets 2 43 [.ref 72] d (f_X8_liarSets d) := by
  refine AM_intro (si := si_X8_liarSets) (lv := [(0, .ref 72)]) rfl (by decide +kernel) rfl (Nat.le_of_ble_eq_true rfl) (fun E => ?_)
  unfold f_X8_liarSets
  refine r_iconst dX8_liarSets_0 ki_0 ?_
  refine r_istore_n_x dX8_liarSets_1 rfl (by decide) rfl ?_
  refine r_aload_n_1 dX8_liarSets_2 rfl ?_
  refine r_geti (cc := 8) 5 rfl rfl uX8 (by decide) rfl fw_X8_26 dX8_liarSets_3 ?_
  refine r_bdI (fun x1 => ?_)
  refine r_istore_n_x dX8_liarSets_6 rfl (by decide) rfl ?_
  refine r_sub [2, 1, 0] (lv' := [(0, .ref 72), (1, .int (0 : Int32)), (2, .int x1)]) rfl ?_
  exact w_X8_liarSets_7 FU (0 : Int32) x1 d
theorem cf_X8_liarSets : CFv mi_X8_liarSets 0 := ⟨iw_X8_liarSets, vw_X8_liarSets, nw_X8, cw_X8_liarSets, by unfold plainF; decide +kernel⟩
abbrev si_X8_pickAny : SI := (cX8_pickAny, RX8, 1, none, 1, 24)
def f_X8_pickAny (d : DD) : Option (Unit × DD) :=
  (f_J7_fill_d0a16 78 (-1 : Int64) d).bind fun q1 =>
  some ((), q1.2)
set_option maxRecDepth 100000 in
set_option maxHeartbeats 4000000 in
theorem am_X8_pickAny (d : DD) : AM wrU mi_X8_pickAny 1 24 [.ref 72] d (f_X8_pickAny d) := by
  refine AM_intro (si := si_X8_pickAny) (lv := [(0, .ref 72)]) rfl (by decide +kernel) rfl (Nat.le_of_ble_eq_true rfl) (fun E => ?_)
  unfold f_X8_pickAny
  refine r_aload_n_0 dX8_pickAny_0 rfl ?_
  refine r_getr (t := 78) (cc := 8) 9 rfl rfl uX8 (by decide) rfl fw_X8_38 rfl dX8_pickAny_1 ?_
  refine r_ldc2 dX8_pickAny_4 kw_X8_72 ?_
  refine r_callSU [] (am_J7_fill_d0a16 78 rfl (-1 : Int64) d) cf_J7_fill_d0a16 mw_X8_74 (by decide) dX8_pickAny_7 rfl (Nat.le_of_ble_eq_true rfl) ⟨rfl, rfl⟩ (fun q1 => ?_)
  exact r_return dX8_pickAny_10 rfl
theorem cf_X8_pickAny : CFv mi_X8_pickAny 0 := ⟨iw_X8_pickAny, vw_X8_pickAny, nw_X8, cw_X8_pickAny, by unfold plainF; decide +kernel⟩
abbrev si_X8_possible : SI := (cX8_possible, RX8, 5, (some .long), 2, 43)
def f_X8_possible_8B (k8 : Int32 → Int64 → Int32 → DD → Option (Int64 × DD)) (v1 : Int32) (v2 : Int64) (v4 : Int32) (d : DD) : Option (Int64 × DD) :=
  if v4 < (d.1 72 6) then
  (f_X8_branchTime v4 v1 d).bind fun q2 =>
    bd (v2 ||| q2.1) fun x3 =>
    k8 v1 x3 (v4 + (1 : Int32)) q2.2
  else
  some (v2, d)
def f_X8_possible_8 : Nat → Int32 → Int64 → Int32 → DD → Option (Int64 × DD)
  | 0, _, _, _, _ => none
  | n + 1, v1, v2, v4, d => f_X8_possible_8B (f_X8_possible_8 n) v1 v2 v4 d
set_option maxRecDepth 100000 in
set_option maxHeartbeats 4000000 in
theorem w_X8_possible_8B {E : XE} (k8 : Int32 → Int64 → Int32 → DD → Option (Int64 × DD)) (hk8 : ∀ (v1 : Int32) (v2 : Int64) (v4 : Int32) (d : DD), AW E si_X8_possible 0 0 (QM E wrL) (k8 v1 v2 v4 d) 8 [(0, .ref 72), (1, .int v1), (2, .long v2), (4, .int v4)] [] d) (v1 : Int32) (v2 : Int64) (v4 : Int32) (d : DD) : AW E si_X8_possible 0 0 (QM E wrL) (f_X8_possible_8B k8 v1 v2 v4 d) 8 [(0, .ref 72), (1, .int v1), (2, .long v2), (4, .int v4)] [] d := by
  unfold f_X8_possible_8B
  refine r_iload_w_3 dX8_possible_8 ?_
  refine r_aload_n_0 dX8_possible_10 rfl ?_
  refine r_geti (cc := 8) 6 rfl rfl uX8 (by decide) rfl fw_X8_29 dX8_possible_11 ?_
  refine r_icmp_ge (tgt := 33) dX8_possible_14 (by decide) ?_ ?_
  · refine r_lload_n_2 dX8_possible_33 rfl ?_
    exact r_lreturn dX8_possible_34 rfl
  · refine r_lload_n_2 dX8_possible_17 rfl ?_
    refine r_aload_n_0 dX8_possible_18 rfl ?_
    refine r_iload_w_3 dX8_possible_19 ?_
    refine r_iload_n_1 dX8_possible_21 rfl ?_
    refine r_callVL (cc := 8) [.long v2] (am_X8_branchTime v4 v1 d) rfl rfl cf_X8_branchTime mw_X8_161 (by decide) dX8_possible_22 rfl (Nat.le_of_ble_eq_true rfl) ⟨rfl, rfl⟩ (fun q2 => ?_)
    refine r_lor dX8_possible_25 ?_
    refine r_bdJ (fun x3 => ?_)
    refine r_lstore_n_2 dX8_possible_26 rfl (by decide) rfl ?_
    refine r_iinc_3 dX8_possible_27 ki_1 (by decide) rfl ?_
    refine r_goto (tgt := 8) dX8_possible_30 (by decide) ?_
    exact hk8 v1 x3 (v4 + (1 : Int32)) q2.2
theorem w_X8_possible_8 {E : XE} (n : Nat) : ∀ (v1 : Int32) (v2 : Int64) (v4 : Int32) (d : DD), AW E si_X8_possible 0 0 (QM E wrL) (f_X8_possible_8 n v1 v2 v4 d) 8 [(0, .ref 72), (1, .int v1), (2, .long v2), (4, .int v4)] [] d := by
  induction n with
  | zero => intros; exact r_none
  | succ n ih => intro v1 v2 v4 d; exact w_X8_possible_8B (f_X8_possible_8 n) ih v1 v2 v4 d
def f_X8_possible (p1 : Int32) (d : DD) : Option (Int64 × DD) :=
  bd (d.1 72 5) fun x1 =>
  f_X8_possible_8 FU p1 (0 : Int64) x1 d
set_option maxRecDepth 100000 in
set_option maxHeartbeats 4000000 in
theorem am_X8_possible (p1 : Int32) (d : DD) : AM wrL mi_X8_possible 2 43 [.ref 72, .int p1] d (f_X8_possible p1 d) := by
  refine AM_intro (si := si_X8_possible) (lv := [(0, .ref 72), (1, .int p1)]) rfl (by decide +kernel) rfl (Nat.le_of_ble_eq_true rfl) (fun E => ?_)
  unfold f_X8_possible
  refine r_lconst dX8_possible_0 kl_0 ?_
  refine r_lstore_n_x dX8_possible_1 rfl (by decide) rfl ?_
  refine r_aload_n_1 dX8_possible_2 rfl ?_
  refine r_geti (cc := 8) 5 rfl rfl uX8 (by decide) rfl fw_X8_26 dX8_possible_3 ?_
  refine r_bdI (fun x1 => ?_)
  refine r_istore_w_x dX8_possible_6 (by decide) rfl ?_
  refine r_sub [2, 3, 1, 0] (lv' := [(0, .ref 72), (1, .int p1), (2, .long (0 : Int64)), (4, .int x1)]) rfl ?_
  exact w_X8_possible_8 FU p1 (0 : Int64) x1 d
theorem cf_X8_possible : CFv mi_X8_possible 1 := ⟨iw_X8_possible, vw_X8_possible, nw_X8, cw_X8_possible, by unfold plainF; decide +kernel⟩
abbrev si_X8_possibleWays : SI := (cX8_possibleWays, RX8, 4, (some .int), 2, 43)
def f_X8_possibleWays_7B (k7 : Int32 → Int32 → Int32 → DD → Option (Int32 × DD)) (v1 : Int32) (v2 : Int32) (v3 : Int32) (d : DD) : Option (Int32 × DD) :=
  if v3 < (d.1 72 6) then
  (f_X8_waysIn v3 v1 d).bind fun q2 =>
    bd (v2 ||| q2.1) fun x3 =>
    k7 v1 x3 (v3 + (1 : Int32)) q2.2
  else
  some (v2, d)
def f_X8_possibleWays_7 : Nat → Int32 → Int32 → Int32 → DD → Option (Int32 × DD)
  | 0, _, _, _, _ => none
  | n + 1, v1, v2, v3, d => f_X8_possibleWays_7B (f_X8_possibleWays_7 n) v1 v2 v3 d
set_option maxRecDepth 100000 in
set_option maxHeartbeats 4000000 in
theorem w_X8_possibleWays_7B {E : XE} (k7 : Int32 → Int32 → Int32 → DD → Option (Int32 × DD)) (hk7 : ∀ (v1 : Int32) (v2 : Int32) (v3 : Int32) (d : DD), AW E si_X8_possibleWays 0 0 (QM E wrI) (k7 v1 v2 v3 d) 7 [(0, .ref 72), (1, .int v1), (2, .int v2), (3, .int v3)] [] d) (v1 : Int32) (v2 : Int32) (v3 : Int32) (d : DD) : AW E si_X8_possibleWays 0 0 (QM E wrI) (f_X8_possibleWays_7B k7 v1 v2 v3 d) 7 [(0, .ref 72), (1, .int v1), (2, .int v2), (3, .int v3)] [] d := by
  unfold f_X8_possibleWays_7B
  refine r_iload_n_3 dX8_possibleWays_7 rfl ?_
  refine r_aload_n_0 dX8_possibleWays_8 rfl ?_
  refine r_geti (cc := 8) 6 rfl rfl uX8 (by decide) rfl fw_X8_29 dX8_possibleWays_9 ?_
  refine r_icmp_ge (tgt := 30) dX8_possibleWays_12 (by decide) ?_ ?_
  · refine r_iload_n_2 dX8_possibleWays_30 rfl ?_
    exact r_ireturn dX8_possibleWays_31 rfl
  · refine r_iload_n_2 dX8_possibleWays_15 rfl ?_
    refine r_aload_n_0 dX8_possibleWays_16 rfl ?_
    refine r_iload_n_3 dX8_possibleWays_17 rfl ?_
    refine r_iload_n_1 dX8_possibleWays_18 rfl ?_
    refine r_callVI (cc := 8) [.int v2] (am_X8_waysIn v3 v1 d) rfl rfl cf_X8_waysIn mw_X8_164 (by decide) dX8_possibleWays_19 rfl (Nat.le_of_ble_eq_true rfl) ⟨rfl, rfl⟩ (fun q2 => ?_)
    refine r_ior dX8_possibleWays_22 ?_
    refine r_bdI (fun x3 => ?_)
    refine r_istore_n_2 dX8_possibleWays_23 rfl (by decide) rfl ?_
    refine r_iinc_3 dX8_possibleWays_24 ki_1 (by decide) rfl ?_
    refine r_goto (tgt := 7) dX8_possibleWays_27 (by decide) ?_
    exact hk7 v1 x3 (v3 + (1 : Int32)) q2.2
theorem w_X8_possibleWays_7 {E : XE} (n : Nat) : ∀ (v1 : Int32) (v2 : Int32) (v3 : Int32) (d : DD), AW E si_X8_possibleWays 0 0 (QM E wrI) (f_X8_possibleWays_7 n v1 v2 v3 d) 7 [(0, .ref 72), (1, .int v1), (2, .int v2), (3, .int v3)] [] d := by
  induction n with
  | zero => intros; exact r_none
  | succ n ih => intro v1 v2 v3 d; exact w_X8_possibleWays_7B (f_X8_possibleWays_7 n) ih v1 v2 v3 d
def f_X8_possibleWays (p1 : Int32) (d : DD) : Option (Int32 × DD) :=
  bd (d.1 72 5) fun x1 =>
  f_X8_possibleWays_7 FU p1 (0 : Int32) x1 d
set_option maxRecDepth 100000 in
set_option maxHeartbeats 4000000 in
theorem am_X8_possibleWays (p1 : Int32) (d : DD) : AM wrI mi_X8_possibleWays 2 43 [.ref 72, .int p1] d (f_X8_possibleWays p1 d) := by
  refine AM_intro (si := si_X8_possibleWays) (lv := [(0, .ref 72), (1, .int p1)]) rfl (by decide +kernel) rfl (Nat.le_of_ble_eq_true rfl) (fun E => ?_)
  unfold f_X8_possibleWays
  refine r_iconst dX8_possibleWays_0 ki_0 ?_
  refine r_istore_n_x dX8_possibleWays_1 rfl (by decide) rfl ?_
  refine r_aload_n_1 dX8_possibleWays_2 rfl ?_
  refine r_geti (cc := 8) 5 rfl rfl uX8 (by decide) rfl fw_X8_26 dX8_possibleWays_3 ?_
  refine r_bdI (fun x1 => ?_)
  refine r_istore_n_x dX8_possibleWays_6 rfl (by decide) rfl ?_
  refine r_sub [2, 3, 1, 0] (lv' := [(0, .ref 72), (1, .int p1), (2, .int (0 : Int32)), (3, .int x1)]) rfl ?_
  exact w_X8_possibleWays_7 FU p1 (0 : Int32) x1 d
theorem cf_X8_possibleWays : CFv mi_X8_possibleWays 1 := ⟨iw_X8_possibleWays, vw_X8_possibleWays, nw_X8, cw_X8_possibleWays, by unfold plainF; decide +kernel⟩
abbrev si_X8_spread : SI := (cX8_spread, RX8, 6, none, 4, 102)
def f_X8_spread_120 (k68 : Int32 → Int32 → DD → Option (Unit × DD)) (v1 : Int32) (v3 : Int32) (v5 : Int32) (d : DD) : Option (Unit × DD) :=
  if v5 = 0 then
  k68 v1 (v3 + (1 : Int32)) d
  else
  (f_X8_divide v3 v1 79 d).bind fun q7 =>
    (f_X8_addTold v5 q7.2).bind fun q8 =>
    k68 v1 (v3 + (1 : Int32)) q8.2
set_option maxRecDepth 100000 in
set_option maxHeartbeats 4000000 in
theorem w_X8_spread_120 {E : XE} (k68 : Int32 → Int32 → DD → Option (Unit × DD)) (hk68 : ∀ (v1 : Int32) (v3 : Int32) (d : DD), AW E si_X8_spread 0 0 (QM E wrU) (k68 v1 v3 d) 68 [(0, .ref 72), (1, .int v1), (3, .int v3)] [] d) (v1 : Int32) (v3 : Int32) (v5 : Int32) (d : DD) : AW E si_X8_spread 0 0 (QM E wrU) (f_X8_spread_120 k68 v1 v3 v5 d) 120 [(0, .ref 72), (1, .int v1), (3, .int v3), (5, .int v5)] [] d := by
  unfold f_X8_spread_120
  refine r_iload_w_3 dX8_spread_120 ?_
  refine r_if_eq (tgt := 141) dX8_spread_122 (by decide) ?_ ?_
  · refine r_iinc_2 dX8_spread_141 ki_1 (by decide) rfl ?_
    refine r_goto (tgt := 68) dX8_spread_144 (by decide) ?_
    refine r_sub [0, 1, 2] (lv' := [(0, .ref 72), (1, .int v1), (3, .int (v3 + (1 : Int32)))]) rfl ?_
    exact hk68 v1 (v3 + (1 : Int32)) d
  · refine r_aload_n_0 dX8_spread_125 rfl ?_
    refine r_iload_n_2 dX8_spread_126 rfl ?_
    refine r_iload_n_1 dX8_spread_127 rfl ?_
    refine r_aload_n_0 dX8_spread_128 rfl ?_
    refine r_getr (t := 79) (cc := 8) 10 rfl rfl uX8 (by decide) rfl fw_X8_41 rfl dX8_spread_129 ?_
    refine r_callVU (cc := 8) [] (am_X8_divide v3 v1 79 rfl d) rfl rfl cf_X8_divide mw_X8_194 (by decide) dX8_spread_132 rfl (Nat.le_of_ble_eq_true rfl) ⟨rfl, rfl⟩ (fun q7 => ?_)
    refine r_aload_n_0 dX8_spread_135 rfl ?_
    refine r_iload_w_3 dX8_spread_136 ?_
    refine r_callVU (cc := 8) [] (am_X8_addTold v5 q7.2) rfl rfl cf_X8_addTold mw_X8_198 (by decide) dX8_spread_138 rfl (Nat.le_of_ble_eq_true rfl) ⟨rfl, rfl⟩ (fun q8 => ?_)
    refine r_iinc_2 dX8_spread_141 ki_1 (by decide) rfl ?_
    refine r_goto (tgt := 68) dX8_spread_144 (by decide) ?_
    refine r_sub [0, 1, 2] (lv' := [(0, .ref 72), (1, .int v1), (3, .int (v3 + (1 : Int32)))]) rfl ?_
    exact hk68 v1 (v3 + (1 : Int32)) q8.2
def f_X8_spread_68B (k68 : Int32 → Int32 → DD → Option (Unit × DD)) (v1 : Int32) (v3 : Int32) (d : DD) : Option (Unit × DD) :=
  if v3 < (d.1 72 6) then
  (f_X8_waysIn v3 v1 d).bind fun q3 =>
    bd (q3.1 &&& (2 : Int32)) fun x4 =>
    (f_X8_waysIn v3 v1 q3.2).bind fun q5 =>
    bd (q5.1 &&& (x4 ^^^ (-1 : Int32))) fun x6 =>
    if x4 = 0 then
    f_X8_spread_120 k68 v1 v3 x6 q5.2
    else
    (f_X8_divide v3 v1 80 q5.2).bind fun q9 =>
      (f_X8_addTold x4 q9.2).bind fun q10 =>
      f_X8_spread_120 k68 v1 v3 x6 q10.2
  else
  some ((), d)
def f_X8_spread_68 : Nat → Int32 → Int32 → DD → Option (Unit × DD)
  | 0, _, _, _ => none
  | n + 1, v1, v3, d => f_X8_spread_68B (f_X8_spread_68 n) v1 v3 d
set_option maxRecDepth 100000 in
set_option maxHeartbeats 4000000 in
theorem w_X8_spread_68B {E : XE} (k68 : Int32 → Int32 → DD → Option (Unit × DD)) (hk68 : ∀ (v1 : Int32) (v3 : Int32) (d : DD), AW E si_X8_spread 0 0 (QM E wrU) (k68 v1 v3 d) 68 [(0, .ref 72), (1, .int v1), (3, .int v3)] [] d) (v1 : Int32) (v3 : Int32) (d : DD) : AW E si_X8_spread 0 0 (QM E wrU) (f_X8_spread_68B k68 v1 v3 d) 68 [(0, .ref 72), (1, .int v1), (3, .int v3)] [] d := by
  unfold f_X8_spread_68B
  refine r_iload_n_2 dX8_spread_68 rfl ?_
  refine r_aload_n_0 dX8_spread_69 rfl ?_
  refine r_geti (cc := 8) 6 rfl rfl uX8 (by decide) rfl fw_X8_29 dX8_spread_70 ?_
  refine r_icmp_ge (tgt := 147) dX8_spread_73 (by decide) ?_ ?_
  · exact r_return dX8_spread_147 rfl
  · refine r_aload_n_0 dX8_spread_76 rfl ?_
    refine r_iload_n_2 dX8_spread_77 rfl ?_
    refine r_iload_n_1 dX8_spread_78 rfl ?_
    refine r_callVI (cc := 8) [] (am_X8_waysIn v3 v1 d) rfl rfl cf_X8_waysIn mw_X8_164 (by decide) dX8_spread_79 rfl (Nat.le_of_ble_eq_true rfl) ⟨rfl, rfl⟩ (fun q3 => ?_)
    refine r_iconst dX8_spread_82 ki_2 ?_
    refine r_iand dX8_spread_83 ?_
    refine r_bdI (fun x4 => ?_)
    refine r_istore_w_x dX8_spread_84 (by decide) rfl ?_
    refine r_aload_n_1 dX8_spread_86 rfl ?_
    refine r_iload_n_3 dX8_spread_87 rfl ?_
    refine r_iload_n_2 dX8_spread_88 rfl ?_
    refine r_callVI (cc := 8) [] (am_X8_waysIn v3 v1 q3.2) rfl rfl cf_X8_waysIn mw_X8_164 (by decide) dX8_spread_89 rfl (Nat.le_of_ble_eq_true rfl) ⟨rfl, rfl⟩ (fun q5 => ?_)
    refine r_iload_w_0 dX8_spread_92 ?_
    refine r_iconst dX8_spread_94 ki_m1 ?_
    refine r_ixor dX8_spread_95 ?_
    refine r_iand dX8_spread_96 ?_
    refine r_bdI (fun x6 => ?_)
    refine r_istore_w_x dX8_spread_97 (by decide) rfl ?_
    refine r_iload_w_1 dX8_spread_99 ?_
    refine r_if_eq (tgt := 120) dX8_spread_101 (by decide) ?_ ?_
    · refine r_sub [2, 3, 4, 0] (lv' := [(0, .ref 72), (1, .int v1), (3, .int v3), (5, .int x6)]) rfl ?_
      exact w_X8_spread_120 k68 hk68 v1 v3 x6 q5.2
    · refine r_aload_n_2 dX8_spread_104 rfl ?_
      refine r_iload_n_4 dX8_spread_105 rfl ?_
      refine r_iload_n_3 dX8_spread_106 rfl ?_
      refine r_aload_n_2 dX8_spread_107 rfl ?_
      refine r_getr (t := 80) (cc := 8) 11 rfl rfl uX8 (by decide) rfl fw_X8_44 rfl dX8_spread_108 ?_
      refine r_callVU (cc := 8) [] (am_X8_divide v3 v1 80 rfl q5.2) rfl rfl cf_X8_divide mw_X8_194 (by decide) dX8_spread_111 rfl (Nat.le_of_ble_eq_true rfl) ⟨rfl, rfl⟩ (fun q9 => ?_)
      refine r_aload_n_2 dX8_spread_114 rfl ?_
      refine r_iload_w_1 dX8_spread_115 ?_
      refine r_callVU (cc := 8) [] (am_X8_addTold x4 q9.2) rfl rfl cf_X8_addTold mw_X8_198 (by decide) dX8_spread_117 rfl (Nat.le_of_ble_eq_true rfl) ⟨rfl, rfl⟩ (fun q10 => ?_)
      refine r_sub [2, 3, 4, 0] (lv' := [(0, .ref 72), (1, .int v1), (3, .int v3), (5, .int x6)]) rfl ?_
      exact w_X8_spread_120 k68 hk68 v1 v3 x6 q10.2
theorem w_X8_spread_68 {E : XE} (n : Nat) : ∀ (v1 : Int32) (v3 : Int32) (d : DD), AW E si_X8_spread 0 0 (QM E wrU) (f_X8_spread_68 n v1 v3 d) 68 [(0, .ref 72), (1, .int v1), (3, .int v3)] [] d := by
  induction n with
  | zero => intros; exact r_none
  | succ n ih => intro v1 v3 d; exact w_X8_spread_68B (f_X8_spread_68 n) ih v1 v3 d
def f_X8_spread_10B (k10 : Int32 → Int32 → Int32 → DD → Option (Unit × DD)) (v1 : Int32) (v2 : Int32) (v3 : Int32) (d : DD) : Option (Unit × DD) :=
  if v3 < (d.1 2 0) then
  (f_X1_passing 2 v3 v2 d).bind fun q11 =>
    (f_X9_putLong 79 v3 q11.1 q11.2).bind fun q12 =>
    (f_X1_passing 2 v3 (v2 - (1 : Int32)) q12.2).bind fun q13 =>
    (f_X9_putLong 80 v3 q13.1 q13.2).bind fun q14 =>
    k10 v1 v2 (v3 + (1 : Int32)) q14.2
  else
  bd (d.1 72 5) fun x2 =>
    f_X8_spread_68 FU v1 x2 d
def f_X8_spread_10 : Nat → Int32 → Int32 → Int32 → DD → Option (Unit × DD)
  | 0, _, _, _, _ => none
  | n + 1, v1, v2, v3, d => f_X8_spread_10B (f_X8_spread_10 n) v1 v2 v3 d
set_option maxRecDepth 100000 in
set_option maxHeartbeats 4000000 in
theorem w_X8_spread_10B {E : XE} (k10 : Int32 → Int32 → Int32 → DD → Option (Unit × DD)) (hk10 : ∀ (v1 : Int32) (v2 : Int32) (v3 : Int32) (d : DD), AW E si_X8_spread 0 0 (QM E wrU) (k10 v1 v2 v3 d) 10 [(0, .ref 72), (1, .int v1), (2, .int v2), (3, .int v3)] [] d) (v1 : Int32) (v2 : Int32) (v3 : Int32) (d : DD) : AW E si_X8_spread 0 0 (QM E wrU) (f_X8_spread_10B k10 v1 v2 v3 d) 10 [(0, .ref 72), (1, .int v1), (2, .int v2), (3, .int v3)] [] d := by
  unfold f_X8_spread_10B
  refine r_iload_n_3 dX8_spread_10 rfl ?_
  refine r_aload_n_0 dX8_spread_11 rfl ?_
  refine r_getr (t := 2) (cc := 8) 0 rfl rfl uX8 (by decide) rfl fw_X8_53 rfl dX8_spread_12 ?_
  refine r_geti (cc := 1) 0 rfl rfl uX1 (by decide) rfl fw_X8_108 dX8_spread_15 ?_
  refine r_icmp_ge (tgt := 63) dX8_spread_18 (by decide) ?_ ?_
  · refine r_aload_n_0 dX8_spread_63 rfl ?_
    refine r_geti (cc := 8) 5 rfl rfl uX8 (by decide) rfl fw_X8_26 dX8_spread_64 ?_
    refine r_bdI (fun x2 => ?_)
    refine r_istore_n_3 dX8_spread_67 rfl (by decide) rfl ?_
    refine r_sub [0, 1, 3] (lv' := [(0, .ref 72), (1, .int v1), (3, .int x2)]) rfl ?_
    exact w_X8_spread_68 FU v1 x2 d
  · refine r_aload_n_0 dX8_spread_21 rfl ?_
    refine r_getr (t := 79) (cc := 8) 10 rfl rfl uX8 (by decide) rfl fw_X8_41 rfl dX8_spread_22 ?_
    refine r_iload_n_3 dX8_spread_25 rfl ?_
    refine r_aload_n_0 dX8_spread_26 rfl ?_
    refine r_getr (t := 2) (cc := 8) 0 rfl rfl uX8 (by decide) rfl fw_X8_53 rfl dX8_spread_27 ?_
    refine r_iload_n_3 dX8_spread_30 rfl ?_
    refine r_iload_n_2 dX8_spread_31 rfl ?_
    refine r_callVL (cc := 1) [.int v3, .ref 79] (am_X1_passing 2 rfl v3 v2 d) rfl rfl cf_X1_passing mw_X8_111 (by decide) dX8_spread_32 rfl (Nat.le_of_ble_eq_true rfl) ⟨rfl, rfl⟩ (fun q11 => ?_)
    refine r_callSNU [] (am_X9_putLong 79 rfl v3 q11.1 q11.2) cf_X9_putLong wn_X8_127 (by decide) dX8_spread_35 rfl (Nat.le_of_ble_eq_true rfl) ⟨rfl, rfl⟩ (fun q12 => ?_)
    refine r_aload_n_0 dX8_spread_38 rfl ?_
    refine r_getr (t := 80) (cc := 8) 11 rfl rfl uX8 (by decide) rfl fw_X8_44 rfl dX8_spread_39 ?_
    refine r_iload_n_3 dX8_spread_42 rfl ?_
    refine r_aload_n_0 dX8_spread_43 rfl ?_
    refine r_getr (t := 2) (cc := 8) 0 rfl rfl uX8 (by decide) rfl fw_X8_53 rfl dX8_spread_44 ?_
    refine r_iload_n_3 dX8_spread_47 rfl ?_
    refine r_iload_n_2 dX8_spread_48 rfl ?_
    refine r_iconst dX8_spread_49 ki_1 ?_
    refine r_isub dX8_spread_50 ?_
    refine r_callVL (cc := 1) [.int v3, .ref 80] (am_X1_passing 2 rfl v3 (v2 - (1 : Int32)) q12.2) rfl rfl cf_X1_passing mw_X8_111 (by decide) dX8_spread_51 rfl (Nat.le_of_ble_eq_true rfl) ⟨rfl, rfl⟩ (fun q13 => ?_)
    refine r_callSNU [] (am_X9_putLong 80 rfl v3 q13.1 q13.2) cf_X9_putLong wn_X8_127 (by decide) dX8_spread_54 rfl (Nat.le_of_ble_eq_true rfl) ⟨rfl, rfl⟩ (fun q14 => ?_)
    refine r_iinc_3 dX8_spread_57 ki_1 (by decide) rfl ?_
    refine r_goto (tgt := 10) dX8_spread_60 (by decide) ?_
    exact hk10 v1 v2 (v3 + (1 : Int32)) q14.2
theorem w_X8_spread_10 {E : XE} (n : Nat) : ∀ (v1 : Int32) (v2 : Int32) (v3 : Int32) (d : DD), AW E si_X8_spread 0 0 (QM E wrU) (f_X8_spread_10 n v1 v2 v3 d) 10 [(0, .ref 72), (1, .int v1), (2, .int v2), (3, .int v3)] [] d := by
  induction n with
  | zero => intros; exact r_none
  | succ n ih => intro v1 v2 v3 d; exact w_X8_spread_10B (f_X8_spread_10 n) ih v1 v2 v3 d
def f_X8_spread (p1 : Int32) (p2 : Int32) (d : DD) : Option (Unit × DD) :=
  (f_J7_fill_d0a16 82 (0 : Int64) d).bind fun q1 =>
  f_X8_spread_10 FU p1 p2 (0 : Int32) q1.2
set_option maxRecDepth 100000 in
set_option maxHeartbeats 4000000 in
theorem am_X8_spread (p1 : Int32) (p2 : Int32) (d : DD) : AM wrU mi_X8_spread 4 102 [.ref 72, .int p1, .int p2] d (f_X8_spread p1 p2 d) := by
  refine AM_intro (si := si_X8_spread) (lv := [(0, .ref 72), (1, .int p1), (2, .int p2)]) rfl (by decide +kernel) rfl (Nat.le_of_ble_eq_true rfl) (fun E => ?_)
  unfold f_X8_spread
  refine r_aload_n_0 dX8_spread_0 rfl ?_
  refine r_getr (t := 82) (cc := 8) 13 rfl rfl uX8 (by decide) rfl fw_X8_50 rfl dX8_spread_1 ?_
  refine r_lconst dX8_spread_4 kl_0 ?_
  refine r_callSU [] (am_J7_fill_d0a16 82 rfl (0 : Int64) d) cf_J7_fill_d0a16 mw_X8_74 (by decide) dX8_spread_5 rfl (Nat.le_of_ble_eq_true rfl) ⟨rfl, rfl⟩ (fun q1 => ?_)
  refine r_iconst dX8_spread_8 ki_0 ?_
  refine r_istore_n_x dX8_spread_9 rfl (by decide) rfl ?_
  refine r_sub [1, 2, 3, 0] (lv' := [(0, .ref 72), (1, .int p1), (2, .int p2), (3, .int (0 : Int32))]) rfl ?_
  exact w_X8_spread_10 FU p1 p2 (0 : Int32) q1.2
theorem cf_X8_spread : CFv mi_X8_spread 2 := ⟨iw_X8_spread, vw_X8_spread, nw_X8, cw_X8_spread, by unfold plainF; decide +kernel⟩
abbrev si_X8_total : SI := (cX8_total, RX8, 1, (some .long), 4, 91)
def f_X8_total (d : DD) : Option (Int64 × DD) :=
  (f_X8_pickAny d).bind fun q1 =>
  (f_X8_picked q1.2).bind fun q2 =>
  some (q2.1, q2.2)
set_option maxRecDepth 100000 in
set_option maxHeartbeats 4000000 in
theorem am_X8_total (d : DD) : AM wrL mi_X8_total 4 91 [.ref 72] d (f_X8_total d) := by
  refine AM_intro (si := si_X8_total) (lv := [(0, .ref 72)]) rfl (by decide +kernel) rfl (Nat.le_of_ble_eq_true rfl) (fun E => ?_)
  unfold f_X8_total
  refine r_aload_n_0 dX8_total_0 rfl ?_
  refine r_callVU (cc := 8) [] (am_X8_pickAny d) rfl rfl cf_X8_pickAny mw_X8_184 (by decide) dX8_total_1 rfl (Nat.le_of_ble_eq_true rfl) ⟨rfl, rfl⟩ (fun q1 => ?_)
  refine r_aload_n_0 dX8_total_4 rfl ?_
  refine r_callVL (cc := 8) [] (am_X8_picked q1.2) rfl rfl cf_X8_picked mw_X8_187 (by decide) dX8_total_5 rfl (Nat.le_of_ble_eq_true rfl) ⟨rfl, rfl⟩ (fun q2 => ?_)
  exact r_lreturn dX8_total_8 rfl
theorem cf_X8_total : CFv mi_X8_total 0 := ⟨iw_X8_total, vw_X8_total, nw_X8, cw_X8_total, by unfold plainF; decide +kernel⟩
abbrev si_X8_withWay : SI := (cX8_withWay, RX8, 6, (some .long), 3, 68)
def f_X8_withWay_12B (k12 : Int32 → Int32 → Int64 → Int32 → DD → Option (Int64 × DD)) (v1 : Int32) (v2 : Int32) (v3 : Int64) (v5 : Int32) (d : DD) : Option (Int64 × DD) :=
  if v5 < (d.1 72 6) then
  (f_X8_waysIn v5 v1 d).bind fun q3 =>
    if ((iushr q3.1 v2) &&& (1 : Int32)) = (1 : Int32) then
    (f_X8_waysBut v5 v1 q3.2).bind fun q4 =>
      (f_X8_timesPicked v5 q4.2).bind fun q5 =>
      bd (v3 + (q4.1 * q5.1)) fun x6 =>
      k12 v1 v2 x6 (v5 + (1 : Int32)) q5.2
    else
    k12 v1 v2 v3 (v5 + (1 : Int32)) q3.2
  else
  some (v3, d)
def f_X8_withWay_12 : Nat → Int32 → Int32 → Int64 → Int32 → DD → Option (Int64 × DD)
  | 0, _, _, _, _, _ => none
  | n + 1, v1, v2, v3, v5, d => f_X8_withWay_12B (f_X8_withWay_12 n) v1 v2 v3 v5 d
set_option maxRecDepth 100000 in
set_option maxHeartbeats 4000000 in
theorem w_X8_withWay_12B {E : XE} (k12 : Int32 → Int32 → Int64 → Int32 → DD → Option (Int64 × DD)) (hk12 : ∀ (v1 : Int32) (v2 : Int32) (v3 : Int64) (v5 : Int32) (d : DD), AW E si_X8_withWay 0 0 (QM E wrL) (k12 v1 v2 v3 v5 d) 12 [(0, .ref 72), (1, .int v1), (2, .int v2), (3, .long v3), (5, .int v5)] [] d) (v1 : Int32) (v2 : Int32) (v3 : Int64) (v5 : Int32) (d : DD) : AW E si_X8_withWay 0 0 (QM E wrL) (f_X8_withWay_12B k12 v1 v2 v3 v5 d) 12 [(0, .ref 72), (1, .int v1), (2, .int v2), (3, .long v3), (5, .int v5)] [] d := by
  unfold f_X8_withWay_12B
  refine r_iload_w_4 dX8_withWay_12 ?_
  refine r_aload_n_0 dX8_withWay_14 rfl ?_
  refine r_geti (cc := 8) 6 rfl rfl uX8 (by decide) rfl fw_X8_29 dX8_withWay_15 ?_
  refine r_icmp_ge (tgt := 59) dX8_withWay_18 (by decide) ?_ ?_
  · refine r_lload_n_3 dX8_withWay_59 rfl ?_
    exact r_lreturn dX8_withWay_60 rfl
  · refine r_aload_n_0 dX8_withWay_21 rfl ?_
    refine r_iload_w_4 dX8_withWay_22 ?_
    refine r_iload_n_1 dX8_withWay_24 rfl ?_
    refine r_callVI (cc := 8) [] (am_X8_waysIn v5 v1 d) rfl rfl cf_X8_waysIn mw_X8_164 (by decide) dX8_withWay_25 rfl (Nat.le_of_ble_eq_true rfl) ⟨rfl, rfl⟩ (fun q3 => ?_)
    refine r_iload_n_2 dX8_withWay_28 rfl ?_
    refine r_iushr dX8_withWay_29 ?_
    refine r_iconst dX8_withWay_30 ki_1 ?_
    refine r_iand dX8_withWay_31 ?_
    refine r_iconst dX8_withWay_32 ki_1 ?_
    refine r_icmp_ne (tgt := 53) dX8_withWay_33 (by decide) ?_ ?_
    · refine r_iinc_4 dX8_withWay_53 ki_1 (by decide) rfl ?_
      refine r_goto (tgt := 12) dX8_withWay_56 (by decide) ?_
      exact hk12 v1 v2 v3 (v5 + (1 : Int32)) q3.2
    · refine r_lload_n_3 dX8_withWay_36 rfl ?_
      refine r_aload_n_0 dX8_withWay_37 rfl ?_
      refine r_iload_w_4 dX8_withWay_38 ?_
      refine r_iload_n_1 dX8_withWay_40 rfl ?_
      refine r_callVL (cc := 8) [.long v3] (am_X8_waysBut v5 v1 q3.2) rfl rfl cf_X8_waysBut mw_X8_177 (by decide) dX8_withWay_41 rfl (Nat.le_of_ble_eq_true rfl) ⟨rfl, rfl⟩ (fun q4 => ?_)
      refine r_aload_n_0 dX8_withWay_44 rfl ?_
      refine r_iload_w_4 dX8_withWay_45 ?_
      refine r_callVL (cc := 8) [.long q4.1, .long v3] (am_X8_timesPicked v5 q4.2) rfl rfl cf_X8_timesPicked mw_X8_180 (by decide) dX8_withWay_47 rfl (Nat.le_of_ble_eq_true rfl) ⟨rfl, rfl⟩ (fun q5 => ?_)
      refine r_lmul dX8_withWay_50 ?_
      refine r_ladd dX8_withWay_51 ?_
      refine r_bdJ (fun x6 => ?_)
      refine r_lstore_n_3 dX8_withWay_52 rfl (by decide) rfl ?_
      refine r_iinc_4 dX8_withWay_53 ki_1 (by decide) rfl ?_
      refine r_goto (tgt := 12) dX8_withWay_56 (by decide) ?_
      exact hk12 v1 v2 x6 (v5 + (1 : Int32)) q5.2
theorem w_X8_withWay_12 {E : XE} (n : Nat) : ∀ (v1 : Int32) (v2 : Int32) (v3 : Int64) (v5 : Int32) (d : DD), AW E si_X8_withWay 0 0 (QM E wrL) (f_X8_withWay_12 n v1 v2 v3 v5 d) 12 [(0, .ref 72), (1, .int v1), (2, .int v2), (3, .long v3), (5, .int v5)] [] d := by
  induction n with
  | zero => intros; exact r_none
  | succ n ih => intro v1 v2 v3 v5 d; exact w_X8_withWay_12B (f_X8_withWay_12 n) ih v1 v2 v3 v5 d
def f_X8_withWay (p1 : Int32) (p2 : Int32) (d : DD) : Option (Int64 × DD) :=
  (f_X8_pickAny d).bind fun q1 =>
  bd (q1.2.1 72 5) fun x2 =>
  f_X8_withWay_12 FU p1 p2 (0 : Int64) x2 q1.2
set_option maxRecDepth 100000 in
set_option maxHeartbeats 4000000 in
theorem am_X8_withWay (p1 : Int32) (p2 : Int32) (d : DD) : AM wrL mi_X8_withWay 3 68 [.ref 72, .int p1, .int p2] d (f_X8_withWay p1 p2 d) := by
  refine AM_intro (si := si_X8_withWay) (lv := [(0, .ref 72), (1, .int p1), (2, .int p2)]) rfl (by decide +kernel) rfl (Nat.le_of_ble_eq_true rfl) (fun E => ?_)
  unfold f_X8_withWay
  refine r_aload_n_0 dX8_withWay_0 rfl ?_
  refine r_callVU (cc := 8) [] (am_X8_pickAny d) rfl rfl cf_X8_pickAny mw_X8_184 (by decide) dX8_withWay_1 rfl (Nat.le_of_ble_eq_true rfl) ⟨rfl, rfl⟩ (fun q1 => ?_)
  refine r_lconst dX8_withWay_4 kl_0 ?_
  refine r_lstore_n_x dX8_withWay_5 rfl (by decide) rfl ?_
  refine r_aload_n_1 dX8_withWay_6 rfl ?_
  refine r_geti (cc := 8) 5 rfl rfl uX8 (by decide) rfl fw_X8_26 dX8_withWay_7 ?_
  refine r_bdI (fun x2 => ?_)
  refine r_istore_w_x dX8_withWay_10 (by decide) rfl ?_
  refine r_sub [2, 3, 4, 1, 0] (lv' := [(0, .ref 72), (1, .int p1), (2, .int p2), (3, .long (0 : Int64)), (5, .int x2)]) rfl ?_
  exact w_X8_withWay_12 FU p1 p2 (0 : Int64) x2 q1.2
theorem cf_X8_withWay : CFv mi_X8_withWay 2 := ⟨iw_X8_withWay, vw_X8_withWay, nw_X8, cw_X8_withWay, by unfold plainF; decide +kernel⟩
abbrev si_X9_addFour : SI := (cX9_addFour, RX9, 3, none, 1, 22)
def f_X9_addFour_3B (k3 : Int32 → Int32 → DD → Option (Unit × DD)) (v1 : Int32) (v2 : Int32) (d : DD) : Option (Unit × DD) :=
  if v2 < 0 then
  some ((), d)
  else
  (f_X9_put 1 (d.1 0 1) ((iushr v1 v2) &&& (255 : Int32)) d).bind fun q1 =>
    bd (u1 q1.2 0 1 ((q1.2.1 0 1) + (1 : Int32))) fun d2 =>
    k3 v1 (v2 + (-8 : Int32)) d2
def f_X9_addFour_3 : Nat → Int32 → Int32 → DD → Option (Unit × DD)
  | 0, _, _, _ => none
  | n + 1, v1, v2, d => f_X9_addFour_3B (f_X9_addFour_3 n) v1 v2 d
set_option maxRecDepth 100000 in
set_option maxHeartbeats 4000000 in
theorem w_X9_addFour_3B {E : XE} (k3 : Int32 → Int32 → DD → Option (Unit × DD)) (hk3 : ∀ (v1 : Int32) (v2 : Int32) (d : DD), AW E si_X9_addFour 0 0 (QM E wrU) (k3 v1 v2 d) 3 [(0, .ref 0), (1, .int v1), (2, .int v2)] [] d) (v1 : Int32) (v2 : Int32) (d : DD) : AW E si_X9_addFour 0 0 (QM E wrU) (f_X9_addFour_3B k3 v1 v2 d) 3 [(0, .ref 0), (1, .int v1), (2, .int v2)] [] d := by
  unfold f_X9_addFour_3B
  refine r_iload_n_2 dX9_addFour_3 rfl ?_
  refine r_if_lt (tgt := 41) dX9_addFour_4 (by decide) ?_ ?_
  · exact r_return dX9_addFour_41 rfl
  · refine r_aload_n_0 dX9_addFour_7 rfl ?_
    refine r_getr (t := 1) (cc := 9) 0 rfl rfl uX9 (by decide) rfl fw_X9_9 rfl dX9_addFour_8 ?_
    refine r_aload_n_0 dX9_addFour_11 rfl ?_
    refine r_geti (cc := 9) 1 rfl rfl uX9 (by decide) rfl fw_X9_13 dX9_addFour_12 ?_
    refine r_iload_n_1 dX9_addFour_15 rfl ?_
    refine r_iload_n_2 dX9_addFour_16 rfl ?_
    refine r_iushr dX9_addFour_17 ?_
    refine r_sipush dX9_addFour_18 ks_255 ?_
    refine r_iand dX9_addFour_21 ?_
    refine r_callSU [] (am_X9_put 1 rfl (d.1 0 1) ((iushr v1 v2) &&& (255 : Int32)) d) cf_X9_put mw_X9_86 (by decide) dX9_addFour_22 rfl (Nat.le_of_ble_eq_true rfl) ⟨rfl, rfl⟩ (fun q1 => ?_)
    refine r_aload_n_0 dX9_addFour_25 rfl ?_
    refine r_dupa dX9_addFour_26 ?_
    refine r_geti (cc := 9) 1 rfl rfl uX9 (by decide) rfl fw_X9_13 dX9_addFour_27 ?_
    refine r_iconst dX9_addFour_30 ki_1 ?_
    refine r_iadd dX9_addFour_31 ?_
    refine r_puti (cc := 9) 1 tyX9 tyX9_ok nmX9 rfl (by decide +kernel) rfl rfl uX9 (by decide) rfl fw_X9_13 dX9_addFour_32 ?_
    refine r_bd (fun d2 => ?_)
    refine r_iinc_2 dX9_addFour_35 ki_m8 (by decide) rfl ?_
    refine r_goto (tgt := 3) dX9_addFour_38 (by decide) ?_
    exact hk3 v1 (v2 + (-8 : Int32)) d2
theorem w_X9_addFour_3 {E : XE} (n : Nat) : ∀ (v1 : Int32) (v2 : Int32) (d : DD), AW E si_X9_addFour 0 0 (QM E wrU) (f_X9_addFour_3 n v1 v2 d) 3 [(0, .ref 0), (1, .int v1), (2, .int v2)] [] d := by
  induction n with
  | zero => intros; exact r_none
  | succ n ih => intro v1 v2 d; exact w_X9_addFour_3B (f_X9_addFour_3 n) ih v1 v2 d
def f_X9_addFour (p1 : Int32) (d : DD) : Option (Unit × DD) :=
  f_X9_addFour_3 FU p1 (24 : Int32) d
set_option maxRecDepth 100000 in
set_option maxHeartbeats 4000000 in
theorem am_X9_addFour (p1 : Int32) (d : DD) : AM wrU mi_X9_addFour 1 22 [.ref 0, .int p1] d (f_X9_addFour p1 d) := by
  refine AM_intro (si := si_X9_addFour) (lv := [(0, .ref 0), (1, .int p1)]) rfl (by decide +kernel) rfl (Nat.le_of_ble_eq_true rfl) (fun E => ?_)
  unfold f_X9_addFour
  refine r_bipush dX9_addFour_0 kb_24 ?_
  refine r_istore_n_x dX9_addFour_2 rfl (by decide) rfl ?_
  refine r_sub [1, 2, 0] (lv' := [(0, .ref 0), (1, .int p1), (2, .int (24 : Int32))]) rfl ?_
  exact w_X9_addFour_3 FU p1 (24 : Int32) d
theorem cf_X9_addFour : CFv mi_X9_addFour 1 := ⟨iw_X9_addFour, vw_X9_addFour, nw_X9, cw_X9_addFour, by unfold plainF; decide +kernel⟩
abbrev si_X9_areSpeakers : SI := (cX9_areSpeakers, RX9, 5, (some .boolean), 1, 21)
def f_X9_areSpeakers_16B (k16 : Int32 → Int32 → Int32 → DD → Option (Int32 × DD)) (v1 : Int32) (v2 : Int32) (v3 : Int32) (d : DD) : Option (Int32 × DD) :=
  if v3 < v1 then
  (f_X9_at 1 v3 d).bind fun q1 =>
    (f_X1_hasPerson 2 q1.1 q1.2).bind fun q2 =>
    if q2.1 = 0 then
    some ((0 : Int32), q2.2)
    else
    if ((iushr v2 q1.1) &&& (1 : Int32)) = (1 : Int32) then
      some ((0 : Int32), q2.2)
      else
      bd (v2 ||| ((1 : Int32) <<< (q1.1 &&& 31))) fun x3 =>
        k16 v1 x3 (v3 + (1 : Int32)) q2.2
  else
  some ((1 : Int32), d)
def f_X9_areSpeakers_16 : Nat → Int32 → Int32 → Int32 → DD → Option (Int32 × DD)
  | 0, _, _, _, _ => none
  | n + 1, v1, v2, v3, d => f_X9_areSpeakers_16B (f_X9_areSpeakers_16 n) v1 v2 v3 d
set_option maxRecDepth 100000 in
set_option maxHeartbeats 4000000 in
theorem w_X9_areSpeakers_16B {E : XE} (k16 : Int32 → Int32 → Int32 → DD → Option (Int32 × DD)) (hk16 : ∀ (v1 : Int32) (v2 : Int32) (v3 : Int32) (d : DD), AW E si_X9_areSpeakers 0 0 (QM E wrI) (k16 v1 v2 v3 d) 16 [(0, .ref 0), (1, .int v1), (2, .int v2), (3, .int v3)] [] d) (v1 : Int32) (v2 : Int32) (v3 : Int32) (d : DD) : AW E si_X9_areSpeakers 0 0 (QM E wrI) (f_X9_areSpeakers_16B k16 v1 v2 v3 d) 16 [(0, .ref 0), (1, .int v1), (2, .int v2), (3, .int v3)] [] d := by
  unfold f_X9_areSpeakers_16B
  refine r_iload_n_3 dX9_areSpeakers_16 rfl ?_
  refine r_iload_n_1 dX9_areSpeakers_17 rfl ?_
  refine r_icmp_ge (tgt := 68) dX9_areSpeakers_18 (by decide) ?_ ?_
  · refine r_iconst dX9_areSpeakers_68 ki_1 ?_
    exact r_zreturn dX9_areSpeakers_69 rfl rfl
  · refine r_aload_n_0 dX9_areSpeakers_21 rfl ?_
    refine r_getr (t := 1) (cc := 9) 0 rfl rfl uX9 (by decide) rfl fw_X9_9 rfl dX9_areSpeakers_22 ?_
    refine r_iload_n_3 dX9_areSpeakers_25 rfl ?_
    refine r_callSI [] (am_X9_at 1 rfl v3 d) cf_X9_at mw_X9_123 (by decide) dX9_areSpeakers_26 rfl (Nat.le_of_ble_eq_true rfl) ⟨rfl, rfl⟩ (fun q1 => ?_)
    refine r_istore_w_x dX9_areSpeakers_29 (by decide) rfl ?_
    refine r_aload_n_1 dX9_areSpeakers_31 rfl ?_
    refine r_getr (t := 2) (cc := 9) 3 rfl rfl uX9 (by decide) rfl fw_X9_23 rfl dX9_areSpeakers_32 ?_
    refine r_iload_w_0 dX9_areSpeakers_35 ?_
    refine r_callVI (cc := 1) [] (am_X1_hasPerson 2 rfl q1.1 q1.2) rfl rfl cf_X1_hasPerson mw_X9_147 (by decide) dX9_areSpeakers_37 rfl (Nat.le_of_ble_eq_true rfl) ⟨rfl, rfl⟩ (fun q2 => ?_)
    refine r_if_eq (tgt := 53) dX9_areSpeakers_40 (by decide) ?_ ?_
    · refine r_iconst dX9_areSpeakers_53 ki_0 ?_
      exact r_zreturn dX9_areSpeakers_54 rfl rfl
    · refine r_iload_n_3 dX9_areSpeakers_43 rfl ?_
      refine r_iload_w_0 dX9_areSpeakers_44 ?_
      refine r_iushr dX9_areSpeakers_46 ?_
      refine r_iconst dX9_areSpeakers_47 ki_1 ?_
      refine r_iand dX9_areSpeakers_48 ?_
      refine r_iconst dX9_areSpeakers_49 ki_1 ?_
      refine r_icmp_ne (tgt := 55) dX9_areSpeakers_50 (by decide) ?_ ?_
      · refine r_iload_n_3 dX9_areSpeakers_55 rfl ?_
        refine r_iconst dX9_areSpeakers_56 ki_1 ?_
        refine r_iload_w_0 dX9_areSpeakers_57 ?_
        refine r_ishl dX9_areSpeakers_59 ?_
        refine r_ior dX9_areSpeakers_60 ?_
        refine r_bdI (fun x3 => ?_)
        refine r_istore_n_3 dX9_areSpeakers_61 rfl (by decide) rfl ?_
        refine r_iinc_4 dX9_areSpeakers_62 ki_1 (by decide) rfl ?_
        refine r_goto (tgt := 16) dX9_areSpeakers_65 (by decide) ?_
        refine r_sub [1, 2, 3, 4] (lv' := [(0, .ref 0), (1, .int v1), (2, .int x3), (3, .int (v3 + (1 : Int32)))]) rfl ?_
        exact hk16 v1 x3 (v3 + (1 : Int32)) q2.2
      · refine r_iconst dX9_areSpeakers_53 ki_0 ?_
        exact r_zreturn dX9_areSpeakers_54 rfl rfl
theorem w_X9_areSpeakers_16 {E : XE} (n : Nat) : ∀ (v1 : Int32) (v2 : Int32) (v3 : Int32) (d : DD), AW E si_X9_areSpeakers 0 0 (QM E wrI) (f_X9_areSpeakers_16 n v1 v2 v3 d) 16 [(0, .ref 0), (1, .int v1), (2, .int v2), (3, .int v3)] [] d := by
  induction n with
  | zero => intros; exact r_none
  | succ n ih => intro v1 v2 v3 d; exact w_X9_areSpeakers_16B (f_X9_areSpeakers_16 n) ih v1 v2 v3 d
def f_X9_areSpeakers (p1 : Int32) (d : DD) : Option (Int32 × DD) :=
  if p1 < (1 : Int32) then
  some ((0 : Int32), d)
  else
  if (4 : Int32) < p1 then
    some ((0 : Int32), d)
    else
    f_X9_areSpeakers_16 FU p1 (0 : Int32) (0 : Int32) d
set_option maxRecDepth 100000 in
set_option maxHeartbeats 4000000 in
theorem am_X9_areSpeakers (p1 : Int32) (d : DD) : AM wrI mi_X9_areSpeakers 1 21 [.ref 0, .int p1] d (f_X9_areSpeakers p1 d) := by
  refine AM_intro (si := si_X9_areSpeakers) (lv := [(0, .ref 0), (1, .int p1)]) rfl (by decide +kernel) rfl (Nat.le_of_ble_eq_true rfl) (fun E => ?_)
  unfold f_X9_areSpeakers
  refine r_iload_n_1 dX9_areSpeakers_0 rfl ?_
  refine r_iconst dX9_areSpeakers_1 ki_1 ?_
  refine r_icmp_lt (tgt := 10) dX9_areSpeakers_2 (by decide) ?_ ?_
  · refine r_iconst dX9_areSpeakers_10 ki_0 ?_
    exact r_zreturn dX9_areSpeakers_11 rfl rfl
  · refine r_iload_n_1 dX9_areSpeakers_5 rfl ?_
    refine r_iconst dX9_areSpeakers_6 ki_4 ?_
    refine r_icmp_le (tgt := 12) dX9_areSpeakers_7 (by decide) ?_ ?_
    · refine r_iconst dX9_areSpeakers_12 ki_0 ?_
      refine r_istore_n_x dX9_areSpeakers_13 rfl (by decide) rfl ?_
      refine r_iconst dX9_areSpeakers_14 ki_0 ?_
      refine r_istore_n_x dX9_areSpeakers_15 rfl (by decide) rfl ?_
      refine r_sub [2, 3, 1, 0] (lv' := [(0, .ref 0), (1, .int p1), (2, .int (0 : Int32)), (3, .int (0 : Int32))]) rfl ?_
      exact w_X9_areSpeakers_16 FU p1 (0 : Int32) (0 : Int32) d
    · refine r_iconst dX9_areSpeakers_10 ki_0 ?_
      exact r_zreturn dX9_areSpeakers_11 rfl rfl
theorem cf_X9_areSpeakers : CFv mi_X9_areSpeakers 1 := ⟨iw_X9_areSpeakers, vw_X9_areSpeakers, nw_X9, cw_X9_areSpeakers, by unfold plainF; decide +kernel⟩
abbrev si_X9_areWays : SI := (cX9_areWays, RX9, 3, (some .boolean), 1, 21)
def f_X9_areWays_2B (k2 : Int32 → Int32 → DD → Option (Int32 × DD)) (v1 : Int32) (v2 : Int32) (d : DD) : Option (Int32 × DD) :=
  if v2 < v1 then
  (f_X9_at 1 v2 d).bind fun q1 =>
    (f_X1_hasWay 2 q1.1 q1.2).bind fun q2 =>
    if q2.1 = 0 then
    some ((0 : Int32), q2.2)
    else
    k2 v1 (v2 + (1 : Int32)) q2.2
  else
  some ((1 : Int32), d)
def f_X9_areWays_2 : Nat → Int32 → Int32 → DD → Option (Int32 × DD)
  | 0, _, _, _ => none
  | n + 1, v1, v2, d => f_X9_areWays_2B (f_X9_areWays_2 n) v1 v2 d
set_option maxRecDepth 100000 in
set_option maxHeartbeats 4000000 in
theorem w_X9_areWays_2B {E : XE} (k2 : Int32 → Int32 → DD → Option (Int32 × DD)) (hk2 : ∀ (v1 : Int32) (v2 : Int32) (d : DD), AW E si_X9_areWays 0 0 (QM E wrI) (k2 v1 v2 d) 2 [(0, .ref 0), (1, .int v1), (2, .int v2)] [] d) (v1 : Int32) (v2 : Int32) (d : DD) : AW E si_X9_areWays 0 0 (QM E wrI) (f_X9_areWays_2B k2 v1 v2 d) 2 [(0, .ref 0), (1, .int v1), (2, .int v2)] [] d := by
  unfold f_X9_areWays_2B
  refine r_iload_n_2 dX9_areWays_2 rfl ?_
  refine r_iload_n_1 dX9_areWays_3 rfl ?_
  refine r_icmp_ge (tgt := 33) dX9_areWays_4 (by decide) ?_ ?_
  · refine r_iconst dX9_areWays_33 ki_1 ?_
    exact r_zreturn dX9_areWays_34 rfl rfl
  · refine r_aload_n_0 dX9_areWays_7 rfl ?_
    refine r_getr (t := 2) (cc := 9) 3 rfl rfl uX9 (by decide) rfl fw_X9_23 rfl dX9_areWays_8 ?_
    refine r_aload_n_0 dX9_areWays_11 rfl ?_
    refine r_getr (t := 1) (cc := 9) 0 rfl rfl uX9 (by decide) rfl fw_X9_9 rfl dX9_areWays_12 ?_
    refine r_iload_n_2 dX9_areWays_15 rfl ?_
    refine r_callSI [.ref 2] (am_X9_at 1 rfl v2 d) cf_X9_at mw_X9_123 (by decide) dX9_areWays_16 rfl (Nat.le_of_ble_eq_true rfl) ⟨rfl, rfl⟩ (fun q1 => ?_)
    refine r_callVI (cc := 1) [] (am_X1_hasWay 2 rfl q1.1 q1.2) rfl rfl cf_X1_hasWay mw_X9_205 (by decide) dX9_areWays_19 rfl (Nat.le_of_ble_eq_true rfl) ⟨rfl, rfl⟩ (fun q2 => ?_)
    refine r_if_ne (tgt := 27) dX9_areWays_22 (by decide) ?_ ?_
    · refine r_iinc_2 dX9_areWays_27 ki_1 (by decide) rfl ?_
      refine r_goto (tgt := 2) dX9_areWays_30 (by decide) ?_
      exact hk2 v1 (v2 + (1 : Int32)) q2.2
    · refine r_iconst dX9_areWays_25 ki_0 ?_
      exact r_zreturn dX9_areWays_26 rfl rfl
theorem w_X9_areWays_2 {E : XE} (n : Nat) : ∀ (v1 : Int32) (v2 : Int32) (d : DD), AW E si_X9_areWays 0 0 (QM E wrI) (f_X9_areWays_2 n v1 v2 d) 2 [(0, .ref 0), (1, .int v1), (2, .int v2)] [] d := by
  induction n with
  | zero => intros; exact r_none
  | succ n ih => intro v1 v2 d; exact w_X9_areWays_2B (f_X9_areWays_2 n) ih v1 v2 d
def f_X9_areWays (p1 : Int32) (d : DD) : Option (Int32 × DD) :=
  f_X9_areWays_2 FU p1 (0 : Int32) d
set_option maxRecDepth 100000 in
set_option maxHeartbeats 4000000 in
theorem am_X9_areWays (p1 : Int32) (d : DD) : AM wrI mi_X9_areWays 1 21 [.ref 0, .int p1] d (f_X9_areWays p1 d) := by
  refine AM_intro (si := si_X9_areWays) (lv := [(0, .ref 0), (1, .int p1)]) rfl (by decide +kernel) rfl (Nat.le_of_ble_eq_true rfl) (fun E => ?_)
  unfold f_X9_areWays
  refine r_iconst dX9_areWays_0 ki_0 ?_
  refine r_istore_n_x dX9_areWays_1 rfl (by decide) rfl ?_
  refine r_sub [1, 2, 0] (lv' := [(0, .ref 0), (1, .int p1), (2, .int (0 : Int32))]) rfl ?_
  exact w_X9_areWays_2 FU p1 (0 : Int32) d
theorem cf_X9_areWays : CFv mi_X9_areWays 1 := ⟨iw_X9_areWays, vw_X9_areWays, nw_X9, cw_X9_areWays, by unfold plainF; decide +kernel⟩
abbrev si_X9_isHour : SI := (cX9_isHour, RX9, 1, (some .boolean), 0, 0)
def f_X9_isHour (p0 : Int32) (d : DD) : Option (Int32 × DD) :=
  if p0 < 0 then
  some ((0 : Int32), d)
  else
  if p0 < (30 : Int32) then
    some ((1 : Int32), d)
    else
    some ((0 : Int32), d)
set_option maxRecDepth 100000 in
set_option maxHeartbeats 4000000 in
theorem am_X9_isHour (p0 : Int32) (d : DD) : AM wrI mi_X9_isHour 0 0 [.int p0] d (f_X9_isHour p0 d) := by
  refine AM_intro (si := si_X9_isHour) (lv := [(0, .int p0)]) rfl (by decide +kernel) rfl (Nat.le_of_ble_eq_true rfl) (fun E => ?_)
  unfold f_X9_isHour
  refine r_iload_n_0 dX9_isHour_0 rfl ?_
  refine r_if_lt (tgt := 14) dX9_isHour_1 (by decide) ?_ ?_
  · refine r_iconst dX9_isHour_14 ki_0 ?_
    exact r_zreturn dX9_isHour_15 rfl rfl
  · refine r_iload_n_0 dX9_isHour_4 rfl ?_
    refine r_bipush dX9_isHour_5 kb_30 ?_
    refine r_icmp_ge (tgt := 14) dX9_isHour_7 (by decide) ?_ ?_
    · refine r_iconst dX9_isHour_14 ki_0 ?_
      exact r_zreturn dX9_isHour_15 rfl rfl
    · refine r_iconst dX9_isHour_10 ki_1 ?_
      refine r_goto (tgt := 15) dX9_isHour_11 (by decide) ?_
      exact r_zreturn dX9_isHour_15 rfl rfl
theorem cf_X9_isHour : CFs mi_X9_isHour 1 := ⟨sw_X9_isHour, nw_X9, cw_X9_isHour, by unfold plainF; decide +kernel⟩
abbrev si_X9_commonDivisor : SI := (cX9_commonDivisor, RX9, 11, (some .long), 0, 0)
def f_X9_commonDivisor_9B (k9 : Int64 → Int64 → Int32 → DD → Option (Int64 × DD)) (v4 : Int64) (v6 : Int64) (v8 : Int32) (d : DD) : Option (Int64 × DD) :=
  if v8 < (100 : Int32) then
  if (0 : Int64) < v6 then
    if v6 = 0 then none else
      bd (v4 - v4 / v6 * v6) fun x1 =>
      k9 v6 x1 (v8 + (1 : Int32)) d
    else
    some (v4, d)
  else
  some (v4, d)
def f_X9_commonDivisor_9 : Nat → Int64 → Int64 → Int32 → DD → Option (Int64 × DD)
  | 0, _, _, _, _ => none
  | n + 1, v4, v6, v8, d => f_X9_commonDivisor_9B (f_X9_commonDivisor_9 n) v4 v6 v8 d
set_option maxRecDepth 100000 in
set_option maxHeartbeats 4000000 in
theorem w_X9_commonDivisor_9B {E : XE} (k9 : Int64 → Int64 → Int32 → DD → Option (Int64 × DD)) (hk9 : ∀ (v4 : Int64) (v6 : Int64) (v8 : Int32) (d : DD), AW E si_X9_commonDivisor 0 0 (QM E wrL) (k9 v4 v6 v8 d) 9 [(4, .long v4), (6, .long v6), (8, .int v8)] [] d) (v4 : Int64) (v6 : Int64) (v8 : Int32) (d : DD) : AW E si_X9_commonDivisor 0 0 (QM E wrL) (f_X9_commonDivisor_9B k9 v4 v6 v8 d) 9 [(4, .long v4), (6, .long v6), (8, .int v8)] [] d := by
  unfold f_X9_commonDivisor_9B
  refine r_iload_w_2 dX9_commonDivisor_9 ?_
  refine r_bipush dX9_commonDivisor_11 kb_100 ?_
  refine r_icmp_ge (tgt := 44) dX9_commonDivisor_13 (by decide) ?_ ?_
  · refine r_lload_w_0 dX9_commonDivisor_44 ?_
    exact r_lreturn dX9_commonDivisor_46 rfl
  · refine r_lload_w_1 dX9_commonDivisor_16 ?_
    refine r_lconst dX9_commonDivisor_18 kl_0 ?_
    refine r_lcmp_le (tgt := 44) dX9_commonDivisor_19 dX9_commonDivisor_20 (by decide) ?_ ?_
    · refine r_lload_w_0 dX9_commonDivisor_44 ?_
      exact r_lreturn dX9_commonDivisor_46 rfl
    · refine r_lload_w_0 dX9_commonDivisor_23 ?_
      refine r_lload_w_1 dX9_commonDivisor_25 ?_
      refine r_if (fun _ => r_none) (fun hy => r_lrem dX9_commonDivisor_27 hy ?_)
      refine r_bdJ (fun x1 => ?_)
      refine r_lstore_w_x dX9_commonDivisor_28 (by decide) rfl ?_
      refine r_lload_w_2 dX9_commonDivisor_30 ?_
      refine r_lstore_w_1 dX9_commonDivisor_32 (by decide) rfl ?_
      refine r_lload_w_0 dX9_commonDivisor_34 ?_
      refine r_lstore_w_2 dX9_commonDivisor_36 (by decide) rfl ?_
      refine r_iinc_3 dX9_commonDivisor_38 ki_1 (by decide) rfl ?_
      refine r_goto (tgt := 9) dX9_commonDivisor_41 (by decide) ?_
      refine r_sub [1, 2, 3] (lv' := [(4, .long v6), (6, .long x1), (8, .int (v8 + (1 : Int32)))]) rfl ?_
      exact hk9 v6 x1 (v8 + (1 : Int32)) d
theorem w_X9_commonDivisor_9 {E : XE} (n : Nat) : ∀ (v4 : Int64) (v6 : Int64) (v8 : Int32) (d : DD), AW E si_X9_commonDivisor 0 0 (QM E wrL) (f_X9_commonDivisor_9 n v4 v6 v8 d) 9 [(4, .long v4), (6, .long v6), (8, .int v8)] [] d := by
  induction n with
  | zero => intros; exact r_none
  | succ n ih => intro v4 v6 v8 d; exact w_X9_commonDivisor_9B (f_X9_commonDivisor_9 n) ih v4 v6 v8 d
def f_X9_commonDivisor (p0 : Int64) (p2 : Int64) (d : DD) : Option (Int64 × DD) :=
  f_X9_commonDivisor_9 FU p2 p0 (0 : Int32) d
set_option maxRecDepth 100000 in
set_option maxHeartbeats 4000000 in
theorem am_X9_commonDivisor (p0 : Int64) (p2 : Int64) (d : DD) : AM wrL mi_X9_commonDivisor 0 0 [.long p0, .long p2] d (f_X9_commonDivisor p0 p2 d) := by
  refine AM_intro (si := si_X9_commonDivisor) (lv := [(0, .long p0), (2, .long p2)]) rfl (by decide +kernel) rfl (Nat.le_of_ble_eq_true rfl) (fun E => ?_)
  unfold f_X9_commonDivisor
  refine r_lload_n_1 dX9_commonDivisor_0 rfl ?_
  refine r_lstore_w_x dX9_commonDivisor_1 (by decide) rfl ?_
  refine r_lload_n_1 dX9_commonDivisor_3 rfl ?_
  refine r_lstore_w_x dX9_commonDivisor_4 (by decide) rfl ?_
  refine r_iconst dX9_commonDivisor_6 ki_0 ?_
  refine r_istore_w_x dX9_commonDivisor_7 (by decide) rfl ?_
  refine r_sub [2, 1, 0] (lv' := [(4, .long p2), (6, .long p0), (8, .int (0 : Int32))]) rfl ?_
  exact w_X9_commonDivisor_9 FU p2 p0 (0 : Int32) d
theorem cf_X9_commonDivisor : CFs mi_X9_commonDivisor 2 := ⟨sw_X9_commonDivisor, nw_X9, cw_X9_commonDivisor, by unfold plainF; decide +kernel⟩
abbrev si_X9_reduced : SI := (cX9_reduced, RX9, 7, (some .long), 1, 30)
def f_X9_reduced_26 (v5 : Int64) (t0 : Int64) (d : DD) : Option (Int64 × DD) :=
  if v5 = 0 then none else
  some (t0 / v5, d)
set_option maxRecDepth 100000 in
set_option maxHeartbeats 4000000 in
theorem w_X9_reduced_26 {E : XE} (v5 : Int64) (t0 : Int64) (d : DD) : AW E si_X9_reduced 0 0 (QM E wrL) (f_X9_reduced_26 v5 t0 d) 26 [(5, .long v5)] [.long t0] d := by
  unfold f_X9_reduced_26
  refine r_lload_w_0 dX9_reduced_26 ?_
  refine r_if (fun _ => r_none) (fun hy => r_ldiv dX9_reduced_28 hy ?_)
  exact r_lreturn dX9_reduced_29 rfl
def f_X9_reduced (p0 : Int64) (p2 : Int64) (p4 : Int32) (d : DD) : Option (Int64 × DD) :=
  (f_X9_commonDivisor p0 p2 d).bind fun q1 =>
  if (0 : Int64) < q1.1 then
  if p4 = 0 then
    f_X9_reduced_26 q1.1 p0 q1.2
    else
    f_X9_reduced_26 q1.1 p2 q1.2
  else
  some ((0 : Int64), q1.2)
set_option maxRecDepth 100000 in
set_option maxHeartbeats 4000000 in
theorem am_X9_reduced (p0 : Int64) (p2 : Int64) (p4 : Int32) (d : DD) : AM wrL mi_X9_reduced 1 30 [.long p0, .long p2, .int p4] d (f_X9_reduced p0 p2 p4 d) := by
  refine AM_intro (si := si_X9_reduced) (lv := [(0, .long p0), (2, .long p2), (4, .int p4)]) rfl (by decide +kernel) rfl (Nat.le_of_ble_eq_true rfl) (fun E => ?_)
  unfold f_X9_reduced
  refine r_lload_n_0 dX9_reduced_0 rfl ?_
  refine r_lload_n_1 dX9_reduced_1 rfl ?_
  refine r_callSL [] (am_X9_commonDivisor p0 p2 d) cf_X9_commonDivisor mw_X9_230 (by decide) dX9_reduced_2 rfl (Nat.le_of_ble_eq_true rfl) ⟨rfl, rfl⟩ (fun q1 => ?_)
  refine r_lstore_w_x dX9_reduced_5 (by decide) rfl ?_
  refine r_lload_w_0 dX9_reduced_7 ?_
  refine r_lconst dX9_reduced_9 kl_0 ?_
  refine r_lcmp_gt (tgt := 16) dX9_reduced_10 dX9_reduced_11 (by decide) ?_ ?_
  · refine r_iload_w_3 dX9_reduced_16 ?_
    refine r_if_ne (tgt := 25) dX9_reduced_18 (by decide) ?_ ?_
    · refine r_lload_n_2 dX9_reduced_25 rfl ?_
      refine r_sub [0] (lv' := [(5, .long q1.1)]) rfl ?_
      exact w_X9_reduced_26 q1.1 p2 q1.2
    · refine r_lload_n_1 dX9_reduced_21 rfl ?_
      refine r_goto (tgt := 26) dX9_reduced_22 (by decide) ?_
      refine r_sub [0] (lv' := [(5, .long q1.1)]) rfl ?_
      exact w_X9_reduced_26 q1.1 p0 q1.2
  · refine r_lconst dX9_reduced_14 kl_0 ?_
    exact r_lreturn dX9_reduced_15 rfl
theorem cf_X9_reduced : CFs mi_X9_reduced 3 := ⟨sw_X9_reduced, nw_X9, cw_X9_reduced, by unfold plainF; decide +kernel⟩
abbrev si_X9_both : SI := (cX9_both, RX9, 4, (some .long), 6, 135)
def f_X9_both (p1 : Int32) (p2 : Int32) (p3 : Int32) (d : DD) : Option (Int64 × DD) :=
  (f_X1_hasKind 2 p1 d).bind fun q1 =>
  if q1.1 = 0 then
  some ((-1 : Int64), q1.2)
  else
  (f_X1_hasKind 2 p2 q1.2).bind fun q2 =>
    if q2.1 = 0 then
    some ((-1 : Int64), q2.2)
    else
    (f_X9_isHour p3 q2.2).bind fun q3 =>
      if q3.1 = 0 then
      some ((-1 : Int64), q3.2)
      else
      (f_X8_gatherAll q3.2).bind fun q4 =>
        (f_X8_pickAny q4.2).bind fun q5 =>
        (f_X1_passing 2 p1 p3 q5.2).bind fun q6 =>
        (f_X8_pick p1 q6.1 q6.2).bind fun q7 =>
        (f_X1_passing 2 p2 p3 q7.2).bind fun q8 =>
        (f_X8_pick p2 q8.1 q8.2).bind fun q9 =>
        (f_X8_picked q9.2).bind fun q10 =>
        some (q10.1, q10.2)
set_option maxRecDepth 100000 in
set_option maxHeartbeats 4000000 in
theorem am_X9_both (p1 : Int32) (p2 : Int32) (p3 : Int32) (d : DD) : AM wrL mi_X9_both 6 135 [.ref 0, .int p1, .int p2, .int p3] d (f_X9_both p1 p2 p3 d) := by
  refine AM_intro (si := si_X9_both) (lv := [(0, .ref 0), (1, .int p1), (2, .int p2), (3, .int p3)]) rfl (by decide +kernel) rfl (Nat.le_of_ble_eq_true rfl) (fun E => ?_)
  unfold f_X9_both
  refine r_aload_n_0 dX9_both_0 rfl ?_
  refine r_getr (t := 2) (cc := 9) 3 rfl rfl uX9 (by decide) rfl fw_X9_23 rfl dX9_both_1 ?_
  refine r_iload_n_1 dX9_both_4 rfl ?_
  refine r_callVI (cc := 1) [] (am_X1_hasKind 2 rfl p1 d) rfl rfl cf_X1_hasKind mw_X9_113 (by decide) dX9_both_5 rfl (Nat.le_of_ble_eq_true rfl) ⟨rfl, rfl⟩ (fun q1 => ?_)
  refine r_if_eq (tgt := 29) dX9_both_8 (by decide) ?_ ?_
  · refine r_ldc2 dX9_both_29 kw_X9_193 ?_
    exact r_lreturn dX9_both_32 rfl
  · refine r_aload_n_0 dX9_both_11 rfl ?_
    refine r_getr (t := 2) (cc := 9) 3 rfl rfl uX9 (by decide) rfl fw_X9_23 rfl dX9_both_12 ?_
    refine r_iload_n_2 dX9_both_15 rfl ?_
    refine r_callVI (cc := 1) [] (am_X1_hasKind 2 rfl p2 q1.2) rfl rfl cf_X1_hasKind mw_X9_113 (by decide) dX9_both_16 rfl (Nat.le_of_ble_eq_true rfl) ⟨rfl, rfl⟩ (fun q2 => ?_)
    refine r_if_eq (tgt := 29) dX9_both_19 (by decide) ?_ ?_
    · refine r_ldc2 dX9_both_29 kw_X9_193 ?_
      exact r_lreturn dX9_both_32 rfl
    · refine r_iload_n_3 dX9_both_22 rfl ?_
      refine r_callSI [] (am_X9_isHour p3 q2.2) cf_X9_isHour mw_X9_140 (by decide) dX9_both_23 rfl (Nat.le_of_ble_eq_true rfl) ⟨rfl, rfl⟩ (fun q3 => ?_)
      refine r_if_ne (tgt := 33) dX9_both_26 (by decide) ?_ ?_
      · refine r_aload_n_0 dX9_both_33 rfl ?_
        refine r_getr (t := 72) (cc := 9) 11 rfl rfl uX9 (by decide) rfl fw_X9_71 rfl dX9_both_34 ?_
        refine r_callVU (cc := 8) [] (am_X8_gatherAll q3.2) rfl rfl cf_X8_gatherAll mw_X9_186 (by decide) dX9_both_37 rfl (Nat.le_of_ble_eq_true rfl) ⟨rfl, rfl⟩ (fun q4 => ?_)
        refine r_aload_n_0 dX9_both_40 rfl ?_
        refine r_getr (t := 72) (cc := 9) 11 rfl rfl uX9 (by decide) rfl fw_X9_71 rfl dX9_both_41 ?_
        refine r_callVU (cc := 8) [] (am_X8_pickAny q4.2) rfl rfl cf_X8_pickAny mw_X9_195 (by decide) dX9_both_44 rfl (Nat.le_of_ble_eq_true rfl) ⟨rfl, rfl⟩ (fun q5 => ?_)
        refine r_aload_n_0 dX9_both_47 rfl ?_
        refine r_getr (t := 72) (cc := 9) 11 rfl rfl uX9 (by decide) rfl fw_X9_71 rfl dX9_both_48 ?_
        refine r_iload_n_1 dX9_both_51 rfl ?_
        refine r_aload_n_0 dX9_both_52 rfl ?_
        refine r_getr (t := 2) (cc := 9) 3 rfl rfl uX9 (by decide) rfl fw_X9_23 rfl dX9_both_53 ?_
        refine r_iload_n_1 dX9_both_56 rfl ?_
        refine r_iload_n_3 dX9_both_57 rfl ?_
        refine r_callVL (cc := 1) [.int p1, .ref 72] (am_X1_passing 2 rfl p1 p3 q5.2) rfl rfl cf_X1_passing mw_X9_143 (by decide) dX9_both_58 rfl (Nat.le_of_ble_eq_true rfl) ⟨rfl, rfl⟩ (fun q6 => ?_)
        refine r_callVU (cc := 8) [] (am_X8_pick p1 q6.1 q6.2) rfl rfl cf_X8_pick mw_X9_198 (by decide) dX9_both_61 rfl (Nat.le_of_ble_eq_true rfl) ⟨rfl, rfl⟩ (fun q7 => ?_)
        refine r_aload_n_0 dX9_both_64 rfl ?_
        refine r_getr (t := 72) (cc := 9) 11 rfl rfl uX9 (by decide) rfl fw_X9_71 rfl dX9_both_65 ?_
        refine r_iload_n_2 dX9_both_68 rfl ?_
        refine r_aload_n_0 dX9_both_69 rfl ?_
        refine r_getr (t := 2) (cc := 9) 3 rfl rfl uX9 (by decide) rfl fw_X9_23 rfl dX9_both_70 ?_
        refine r_iload_n_2 dX9_both_73 rfl ?_
        refine r_iload_n_3 dX9_both_74 rfl ?_
        refine r_callVL (cc := 1) [.int p2, .ref 72] (am_X1_passing 2 rfl p2 p3 q7.2) rfl rfl cf_X1_passing mw_X9_143 (by decide) dX9_both_75 rfl (Nat.le_of_ble_eq_true rfl) ⟨rfl, rfl⟩ (fun q8 => ?_)
        refine r_callVU (cc := 8) [] (am_X8_pick p2 q8.1 q8.2) rfl rfl cf_X8_pick mw_X9_198 (by decide) dX9_both_78 rfl (Nat.le_of_ble_eq_true rfl) ⟨rfl, rfl⟩ (fun q9 => ?_)
        refine r_aload_n_0 dX9_both_81 rfl ?_
        refine r_getr (t := 72) (cc := 9) 11 rfl rfl uX9 (by decide) rfl fw_X9_71 rfl dX9_both_82 ?_
        refine r_callVL (cc := 8) [] (am_X8_picked q9.2) rfl rfl cf_X8_picked mw_X9_202 (by decide) dX9_both_85 rfl (Nat.le_of_ble_eq_true rfl) ⟨rfl, rfl⟩ (fun q10 => ?_)
        exact r_lreturn dX9_both_88 rfl
      · refine r_ldc2 dX9_both_29 kw_X9_193 ?_
        exact r_lreturn dX9_both_32 rfl
theorem cf_X9_both : CFv mi_X9_both 3 := ⟨iw_X9_both, vw_X9_both, nw_X9, cw_X9_both, by unfold plainF; decide +kernel⟩
abbrev si_X9_fits : SI := (cX9_fits, RX9, 2, (some .boolean), 5, 115)
def f_X9_fits (p1 : Int32) (d : DD) : Option (Int32 × DD) :=
  (f_X8_gather p1 d).bind fun q1 =>
  (f_X8_isEmpty q1.2).bind fun q2 =>
  if q2.1 = 0 then
  some ((1 : Int32), q2.2)
  else
  some ((0 : Int32), q2.2)
set_option maxRecDepth 100000 in
set_option maxHeartbeats 4000000 in
theorem am_X9_fits (p1 : Int32) (d : DD) : AM wrI mi_X9_fits 5 115 [.ref 0, .int p1] d (f_X9_fits p1 d) := by
  refine AM_intro (si := si_X9_fits) (lv := [(0, .ref 0), (1, .int p1)]) rfl (by decide +kernel) rfl (Nat.le_of_ble_eq_true rfl) (fun E => ?_)
  unfold f_X9_fits
  refine r_aload_n_0 dX9_fits_0 rfl ?_
  refine r_getr (t := 72) (cc := 9) 11 rfl rfl uX9 (by decide) rfl fw_X9_71 rfl dX9_fits_1 ?_
  refine r_iload_n_1 dX9_fits_4 rfl ?_
  refine r_callVU (cc := 8) [] (am_X8_gather p1 d) rfl rfl cf_X8_gather mw_X9_259 (by decide) dX9_fits_5 rfl (Nat.le_of_ble_eq_true rfl) ⟨rfl, rfl⟩ (fun q1 => ?_)
  refine r_aload_n_0 dX9_fits_8 rfl ?_
  refine r_getr (t := 72) (cc := 9) 11 rfl rfl uX9 (by decide) rfl fw_X9_71 rfl dX9_fits_9 ?_
  refine r_callVI (cc := 8) [] (am_X8_isEmpty q1.2) rfl rfl cf_X8_isEmpty mw_X9_211 (by decide) dX9_fits_12 rfl (Nat.le_of_ble_eq_true rfl) ⟨rfl, rfl⟩ (fun q2 => ?_)
  refine r_if_ne (tgt := 22) dX9_fits_15 (by decide) ?_ ?_
  · refine r_iconst dX9_fits_22 ki_0 ?_
    exact r_zreturn dX9_fits_23 rfl rfl
  · refine r_iconst dX9_fits_18 ki_1 ?_
    refine r_goto (tgt := 23) dX9_fits_19 (by decide) ?_
    exact r_zreturn dX9_fits_23 rfl rfl
theorem cf_X9_fits : CFv mi_X9_fits 1 := ⟨iw_X9_fits, vw_X9_fits, nw_X9, cw_X9_fits, by unfold plainF; decide +kernel⟩
abbrev si_X9_clash : SI := (cX9_clash, RX9, 5, (some .int), 6, 136)
def f_X9_clash_25B (k25 : Int32 → Int32 → Int32 → DD → Option (Int32 × DD)) (v1 : Int32) (v2 : Int32) (v3 : Int32) (d : DD) : Option (Int32 × DD) :=
  if v3 < (40 : Int32) then
  if (1 : Int32) < (v2 - v1) then
    bd ((v1 + v2) / (2 : Int32)) fun x3 =>
      (f_X9_fits x3 d).bind fun q4 =>
      if q4.1 = 0 then
      k25 v1 x3 (v3 + (1 : Int32)) q4.2
      else
      k25 x3 v2 (v3 + (1 : Int32)) q4.2
    else
    some (v2 - (1 : Int32), d)
  else
  some (v2 - (1 : Int32), d)
def f_X9_clash_25 : Nat → Int32 → Int32 → Int32 → DD → Option (Int32 × DD)
  | 0, _, _, _, _ => none
  | n + 1, v1, v2, v3, d => f_X9_clash_25B (f_X9_clash_25 n) v1 v2 v3 d
set_option maxRecDepth 100000 in
set_option maxHeartbeats 4000000 in
theorem w_X9_clash_25B {E : XE} (k25 : Int32 → Int32 → Int32 → DD → Option (Int32 × DD)) (hk25 : ∀ (v1 : Int32) (v2 : Int32) (v3 : Int32) (d : DD), AW E si_X9_clash 0 0 (QM E wrI) (k25 v1 v2 v3 d) 25 [(0, .ref 0), (1, .int v1), (2, .int v2), (3, .int v3)] [] d) (v1 : Int32) (v2 : Int32) (v3 : Int32) (d : DD) : AW E si_X9_clash 0 0 (QM E wrI) (f_X9_clash_25B k25 v1 v2 v3 d) 25 [(0, .ref 0), (1, .int v1), (2, .int v2), (3, .int v3)] [] d := by
  unfold f_X9_clash_25B
  refine r_iload_n_3 dX9_clash_25 rfl ?_
  refine r_bipush dX9_clash_26 kb_40 ?_
  refine r_icmp_ge (tgt := 69) dX9_clash_28 (by decide) ?_ ?_
  · refine r_iload_n_2 dX9_clash_69 rfl ?_
    refine r_iconst dX9_clash_70 ki_1 ?_
    refine r_isub dX9_clash_71 ?_
    exact r_ireturn dX9_clash_72 rfl
  · refine r_iload_n_2 dX9_clash_31 rfl ?_
    refine r_iload_n_1 dX9_clash_32 rfl ?_
    refine r_isub dX9_clash_33 ?_
    refine r_iconst dX9_clash_34 ki_1 ?_
    refine r_icmp_le (tgt := 69) dX9_clash_35 (by decide) ?_ ?_
    · refine r_iload_n_2 dX9_clash_69 rfl ?_
      refine r_iconst dX9_clash_70 ki_1 ?_
      refine r_isub dX9_clash_71 ?_
      exact r_ireturn dX9_clash_72 rfl
    · refine r_iload_n_1 dX9_clash_38 rfl ?_
      refine r_iload_n_2 dX9_clash_39 rfl ?_
      refine r_iadd dX9_clash_40 ?_
      refine r_iconst dX9_clash_41 ki_2 ?_
      refine r_idiv dX9_clash_42 (by decide) ?_
      refine r_bdI (fun x3 => ?_)
      refine r_istore_w_x dX9_clash_43 (by decide) rfl ?_
      refine r_aload_n_1 dX9_clash_45 rfl ?_
      refine r_iload_w_0 dX9_clash_46 ?_
      refine r_callVI (cc := 9) [] (am_X9_fits x3 d) rfl rfl cf_X9_fits mw_X9_256 (by decide) dX9_clash_48 rfl (Nat.le_of_ble_eq_true rfl) ⟨rfl, rfl⟩ (fun q4 => ?_)
      refine r_if_eq (tgt := 60) dX9_clash_51 (by decide) ?_ ?_
      · refine r_iload_w_0 dX9_clash_60 ?_
        refine r_istore_n_3 dX9_clash_62 rfl (by decide) rfl ?_
        refine r_iinc_4 dX9_clash_63 ki_1 (by decide) rfl ?_
        refine r_goto (tgt := 25) dX9_clash_66 (by decide) ?_
        refine r_sub [1, 2, 3, 4] (lv' := [(0, .ref 0), (1, .int v1), (2, .int x3), (3, .int (v3 + (1 : Int32)))]) rfl ?_
        exact hk25 v1 x3 (v3 + (1 : Int32)) q4.2
      · refine r_iload_w_0 dX9_clash_54 ?_
        refine r_istore_n_2 dX9_clash_56 rfl (by decide) rfl ?_
        refine r_goto (tgt := 63) dX9_clash_57 (by decide) ?_
        refine r_iinc_4 dX9_clash_63 ki_1 (by decide) rfl ?_
        refine r_goto (tgt := 25) dX9_clash_66 (by decide) ?_
        refine r_sub [1, 2, 3, 4] (lv' := [(0, .ref 0), (1, .int x3), (2, .int v2), (3, .int (v3 + (1 : Int32)))]) rfl ?_
        exact hk25 x3 v2 (v3 + (1 : Int32)) q4.2
theorem w_X9_clash_25 {E : XE} (n : Nat) : ∀ (v1 : Int32) (v2 : Int32) (v3 : Int32) (d : DD), AW E si_X9_clash 0 0 (QM E wrI) (f_X9_clash_25 n v1 v2 v3 d) 25 [(0, .ref 0), (1, .int v1), (2, .int v2), (3, .int v3)] [] d := by
  induction n with
  | zero => intros; exact r_none
  | succ n ih => intro v1 v2 v3 d; exact w_X9_clash_25B (f_X9_clash_25 n) ih v1 v2 v3 d
def f_X9_clash (d : DD) : Option (Int32 × DD) :=
  bd (d.1 12 0) fun x1 =>
  (f_X9_fits x1 d).bind fun q2 =>
  if q2.1 = 0 then
  f_X9_clash_25 FU (0 : Int32) x1 (0 : Int32) q2.2
  else
  some ((-1 : Int32), q2.2)
set_option maxRecDepth 100000 in
set_option maxHeartbeats 4000000 in
theorem am_X9_clash (d : DD) : AM wrI mi_X9_clash 6 136 [.ref 0] d (f_X9_clash d) := by
  refine AM_intro (si := si_X9_clash) (lv := [(0, .ref 0)]) rfl (by decide +kernel) rfl (Nat.le_of_ble_eq_true rfl) (fun E => ?_)
  unfold f_X9_clash
  refine r_iconst dX9_clash_0 ki_0 ?_
  refine r_istore_n_x dX9_clash_1 rfl (by decide) rfl ?_
  refine r_aload_n_1 dX9_clash_2 rfl ?_
  refine r_getr (t := 2) (cc := 9) 3 rfl rfl uX9 (by decide) rfl fw_X9_23 rfl dX9_clash_3 ?_
  refine r_getr (t := 12) (cc := 1) 11 rfl rfl uX1 (by decide) rfl fw_X9_156 rfl dX9_clash_6 ?_
  refine r_geti (cc := 5) 0 rfl rfl uX5 (by decide) rfl fw_X9_174 dX9_clash_9 ?_
  refine r_bdI (fun x1 => ?_)
  refine r_istore_n_x dX9_clash_12 rfl (by decide) rfl ?_
  refine r_aload_n_2 dX9_clash_13 rfl ?_
  refine r_iload_n_0 dX9_clash_14 rfl ?_
  refine r_callVI (cc := 9) [] (am_X9_fits x1 d) rfl rfl cf_X9_fits mw_X9_256 (by decide) dX9_clash_15 rfl (Nat.le_of_ble_eq_true rfl) ⟨rfl, rfl⟩ (fun q2 => ?_)
  refine r_if_eq (tgt := 23) dX9_clash_18 (by decide) ?_ ?_
  · refine r_iconst dX9_clash_23 ki_0 ?_
    refine r_istore_n_x dX9_clash_24 rfl (by decide) rfl ?_
    refine r_sub [3, 2, 1, 0] (lv' := [(0, .ref 0), (1, .int (0 : Int32)), (2, .int x1), (3, .int (0 : Int32))]) rfl ?_
    exact w_X9_clash_25 FU (0 : Int32) x1 (0 : Int32) q2.2
  · refine r_iconst dX9_clash_21 ki_m1 ?_
    exact r_ireturn dX9_clash_22 rfl
theorem cf_X9_clash : CFv mi_X9_clash 0 := ⟨iw_X9_clash, vw_X9_clash, nw_X9, cw_X9_clash, by unfold plainF; decide +kernel⟩
abbrev si_X9_content : SI := (cX9_content, RX9, 2, (some .int), 3, 66)
def f_X9_content (p1 : Int32) (d : DD) : Option (Int32 × DD) :=
  (f_X1_hasPerson 2 p1 d).bind fun q1 =>
  if q1.1 = 0 then
  some ((-1 : Int32), q1.2)
  else
  (f_X1_contentOf 2 p1 q1.2).bind fun q2 =>
    some (q2.1, q2.2)
set_option maxRecDepth 100000 in
set_option maxHeartbeats 4000000 in
theorem am_X9_content (p1 : Int32) (d : DD) : AM wrI mi_X9_content 3 66 [.ref 0, .int p1] d (f_X9_content p1 d) := by
  refine AM_intro (si := si_X9_content) (lv := [(0, .ref 0), (1, .int p1)]) rfl (by decide +kernel) rfl (Nat.le_of_ble_eq_true rfl) (fun E => ?_)
  unfold f_X9_content
  refine r_aload_n_0 dX9_content_0 rfl ?_
  refine r_getr (t := 2) (cc := 9) 3 rfl rfl uX9 (by decide) rfl fw_X9_23 rfl dX9_content_1 ?_
  refine r_iload_n_1 dX9_content_4 rfl ?_
  refine r_callVI (cc := 1) [] (am_X1_hasPerson 2 rfl p1 d) rfl rfl cf_X1_hasPerson mw_X9_147 (by decide) dX9_content_5 rfl (Nat.le_of_ble_eq_true rfl) ⟨rfl, rfl⟩ (fun q1 => ?_)
  refine r_if_eq (tgt := 22) dX9_content_8 (by decide) ?_ ?_
  · refine r_iconst dX9_content_22 ki_m1 ?_
    exact r_ireturn dX9_content_23 rfl
  · refine r_aload_n_0 dX9_content_11 rfl ?_
    refine r_getr (t := 2) (cc := 9) 3 rfl rfl uX9 (by decide) rfl fw_X9_23 rfl dX9_content_12 ?_
    refine r_iload_n_1 dX9_content_15 rfl ?_
    refine r_callVI (cc := 1) [] (am_X1_contentOf 2 rfl p1 q1.2) rfl rfl cf_X1_contentOf mw_X9_304 (by decide) dX9_content_16 rfl (Nat.le_of_ble_eq_true rfl) ⟨rfl, rfl⟩ (fun q2 => ?_)
    refine r_goto (tgt := 23) dX9_content_19 (by decide) ?_
    exact r_ireturn dX9_content_23 rfl
theorem cf_X9_content : CFv mi_X9_content 1 := ⟨iw_X9_content, vw_X9_content, nw_X9, cw_X9_content, by unfold plainF; decide +kernel⟩
abbrev si_X9_count : SI := (cX9_count, RX9, 2, (some .int), 2, 43)
def f_X9_count (p1 : Int32) (d : DD) : Option (Int32 × DD) :=
  if p1 = (0 : Int32) then
  some (d.1 2 0, d)
  else if p1 = (1 : Int32) then
  some (d.1 2 1, d)
  else if p1 = (2 : Int32) then
  some (d.1 12 0, d)
  else if p1 = (3 : Int32) then
  (f_X1_hoursWithTurns 2 d).bind fun q1 =>
    some (q1.1, q1.2)
  else if p1 = (4 : Int32) then
  some (d.1 0 1, d)
  else 
  some ((-1 : Int32), d)
set_option maxRecDepth 100000 in
set_option maxHeartbeats 4000000 in
theorem am_X9_count (p1 : Int32) (d : DD) : AM wrI mi_X9_count 2 43 [.ref 0, .int p1] d (f_X9_count p1 d) := by
  refine AM_intro (si := si_X9_count) (lv := [(0, .ref 0), (1, .int p1)]) rfl (by decide +kernel) rfl (Nat.le_of_ble_eq_true rfl) (fun E => ?_)
  unfold f_X9_count
  refine r_iload_n_1 dX9_count_0 rfl ?_
  refine r_if (fun q => r_tsw (tgt := 36) dX9_count_1 q (by decide) (by decide) rfl (by decide) ?_) (fun q0 => ?_)
  · refine r_aload_n_0 dX9_count_36 rfl ?_
    refine r_getr (t := 2) (cc := 9) 3 rfl rfl uX9 (by decide) rfl fw_X9_23 rfl dX9_count_37 ?_
    refine r_geti (cc := 1) 0 rfl rfl uX1 (by decide) rfl fw_X9_333 dX9_count_40 ?_
    exact r_ireturn dX9_count_43 rfl
  · refine r_if (fun q => r_tsw (tgt := 44) dX9_count_1 q (by decide) (by decide) rfl (by decide) ?_) (fun q1 => ?_)
    · refine r_aload_n_0 dX9_count_44 rfl ?_
      refine r_getr (t := 2) (cc := 9) 3 rfl rfl uX9 (by decide) rfl fw_X9_23 rfl dX9_count_45 ?_
      refine r_geti (cc := 1) 1 rfl rfl uX1 (by decide) rfl fw_X9_234 dX9_count_48 ?_
      exact r_ireturn dX9_count_51 rfl
    · refine r_if (fun q => r_tsw (tgt := 52) dX9_count_1 q (by decide) (by decide) rfl (by decide) ?_) (fun q2 => ?_)
      · refine r_aload_n_0 dX9_count_52 rfl ?_
        refine r_getr (t := 2) (cc := 9) 3 rfl rfl uX9 (by decide) rfl fw_X9_23 rfl dX9_count_53 ?_
        refine r_getr (t := 12) (cc := 1) 11 rfl rfl uX1 (by decide) rfl fw_X9_156 rfl dX9_count_56 ?_
        refine r_geti (cc := 5) 0 rfl rfl uX5 (by decide) rfl fw_X9_174 dX9_count_59 ?_
        exact r_ireturn dX9_count_62 rfl
      · refine r_if (fun q => r_tsw (tgt := 63) dX9_count_1 q (by decide) (by decide) rfl (by decide) ?_) (fun q3 => ?_)
        · refine r_aload_n_0 dX9_count_63 rfl ?_
          refine r_getr (t := 2) (cc := 9) 3 rfl rfl uX9 (by decide) rfl fw_X9_23 rfl dX9_count_64 ?_
          refine r_callVI (cc := 1) [] (am_X1_hoursWithTurns 2 rfl d) rfl rfl cf_X1_hoursWithTurns mw_X9_336 (by decide) dX9_count_67 rfl (Nat.le_of_ble_eq_true rfl) ⟨rfl, rfl⟩ (fun q1 => ?_)
          exact r_ireturn dX9_count_70 rfl
        · refine r_if (fun q => r_tsw (tgt := 71) dX9_count_1 q (by decide) (by decide) rfl (by decide) ?_) (fun q4 => ?_)
          · refine r_aload_n_0 dX9_count_71 rfl ?_
            refine r_geti (cc := 9) 1 rfl rfl uX9 (by decide) rfl fw_X9_13 dX9_count_72 ?_
            exact r_ireturn dX9_count_75 rfl
          · have tq : (p1).toInt < 0 ∨ 4 < (p1).toInt := by
              have z0 := lv_neT (a := 0) q0 (by decide)
              have z1 := lv_neT (a := 1) q1 (by decide)
              have z2 := lv_neT (a := 2) q2 (by decide)
              have z3 := lv_neT (a := 3) q3 (by decide)
              have z4 := lv_neT (a := 4) q4 (by decide)
              omega
            refine r_tswO (tgt := 76) dX9_count_1 tq (by decide) ?_
            refine r_iconst dX9_count_76 ki_m1 ?_
            exact r_ireturn dX9_count_77 rfl
theorem cf_X9_count : CFv mi_X9_count 1 := ⟨iw_X9_count, vw_X9_count, nw_X9, cw_X9_count, by unfold plainF; decide +kernel⟩
abbrev si_X9_drawNext : SI := (cX9_drawNext, RX9, 1, (some .int), 0, 0)
def f_X9_drawNext (p0 : Int32) (d : DD) : Option (Int32 × DD) :=
  some ((p0 * (1103515245 : Int32)) + (12345 : Int32), d)
set_option maxRecDepth 100000 in
set_option maxHeartbeats 4000000 in
theorem am_X9_drawNext (p0 : Int32) (d : DD) : AM wrI mi_X9_drawNext 0 0 [.int p0] d (f_X9_drawNext p0 d) := by
  refine AM_intro (si := si_X9_drawNext) (lv := [(0, .int p0)]) rfl (by decide +kernel) rfl (Nat.le_of_ble_eq_true rfl) (fun E => ?_)
  unfold f_X9_drawNext
  refine r_iload_n_0 dX9_drawNext_0 rfl ?_
  refine r_ldcw dX9_drawNext_1 kw_X9_328 ?_
  refine r_imul dX9_drawNext_4 ?_
  refine r_sipush dX9_drawNext_5 ks_12345 ?_
  refine r_iadd dX9_drawNext_8 ?_
  exact r_ireturn dX9_drawNext_9 rfl
theorem cf_X9_drawNext : CFs mi_X9_drawNext 1 := ⟨sw_X9_drawNext, nw_X9, cw_X9_drawNext, by unfold plainF; decide +kernel⟩
abbrev si_X9_drawOf : SI := (cX9_drawOf, RX9, 2, (some .int), 0, 0)
def f_X9_drawOf (p0 : Int32) (p1 : Int32) (d : DD) : Option (Int32 × DD) :=
  if 0 < p1 then
  if p1 = 0 then none else
    some ((iushr p0 (8 : Int32)) - (iushr p0 (8 : Int32)) / p1 * p1, d)
  else
  some ((0 : Int32), d)
set_option maxRecDepth 100000 in
set_option maxHeartbeats 4000000 in
theorem am_X9_drawOf (p0 : Int32) (p1 : Int32) (d : DD) : AM wrI mi_X9_drawOf 0 0 [.int p0, .int p1] d (f_X9_drawOf p0 p1 d) := by
  refine AM_intro (si := si_X9_drawOf) (lv := [(0, .int p0), (1, .int p1)]) rfl (by decide +kernel) rfl (Nat.le_of_ble_eq_true rfl) (fun E => ?_)
  unfold f_X9_drawOf
  refine r_iload_n_1 dX9_drawOf_0 rfl ?_
  refine r_if_le (tgt := 13) dX9_drawOf_1 (by decide) ?_ ?_
  · refine r_iconst dX9_drawOf_13 ki_0 ?_
    exact r_ireturn dX9_drawOf_14 rfl
  · refine r_iload_n_0 dX9_drawOf_4 rfl ?_
    refine r_bipush dX9_drawOf_5 kb_8 ?_
    refine r_iushr dX9_drawOf_7 ?_
    refine r_iload_n_1 dX9_drawOf_8 rfl ?_
    refine r_if (fun _ => r_none) (fun hy => r_irem dX9_drawOf_9 hy ?_)
    refine r_goto (tgt := 14) dX9_drawOf_10 (by decide) ?_
    exact r_ireturn dX9_drawOf_14 rfl
theorem cf_X9_drawOf : CFs mi_X9_drawOf 2 := ⟨sw_X9_drawOf, nw_X9, cw_X9_drawOf, by unfold plainF; decide +kernel⟩
abbrev si_X9_drawTellings : SI := (cX9_drawTellings, RX9, 7, none, 3, 75)
def f_X9_drawTellings_16B (k16 : Int32 → Int32 → Int32 → DD → Option (Unit × DD)) (v1 : Int32) (v3 : Int32) (v4 : Int32) (d : DD) : Option (Unit × DD) :=
  if v4 < v1 then
  (f_X9_drawNext v3 d).bind fun q2 =>
    (f_X9_drawOf q2.1 (q2.2.1 2 1) q2.2).bind fun q3 =>
    (f_X9_drawNext q2.1 q3.2).bind fun q4 =>
    (f_X9_drawOf q4.1 (30 : Int32) q4.2).bind fun q5 =>
    (f_X9_at 1 q3.1 q5.2).bind fun q6 =>
    (f_X1_trulyTold 2 q6.1 q5.1 q6.2).bind fun q7 =>
    (f_X5_add 12 q3.1 q5.1 q7.1 q7.2).bind fun q8 =>
    k16 v1 q4.1 (v4 + (1 : Int32)) q8.2
  else
  some ((), d)
def f_X9_drawTellings_16 : Nat → Int32 → Int32 → Int32 → DD → Option (Unit × DD)
  | 0, _, _, _, _ => none
  | n + 1, v1, v3, v4, d => f_X9_drawTellings_16B (f_X9_drawTellings_16 n) v1 v3 v4 d
set_option maxRecDepth 100000 in
set_option maxHeartbeats 4000000 in
theorem w_X9_drawTellings_16B {E : XE} (k16 : Int32 → Int32 → Int32 → DD → Option (Unit × DD)) (hk16 : ∀ (v1 : Int32) (v3 : Int32) (v4 : Int32) (d : DD), AW E si_X9_drawTellings 0 0 (QM E wrU) (k16 v1 v3 v4 d) 16 [(0, .ref 0), (1, .int v1), (3, .int v3), (4, .int v4)] [] d) (v1 : Int32) (v3 : Int32) (v4 : Int32) (d : DD) : AW E si_X9_drawTellings 0 0 (QM E wrU) (f_X9_drawTellings_16B k16 v1 v3 v4 d) 16 [(0, .ref 0), (1, .int v1), (3, .int v3), (4, .int v4)] [] d := by
  unfold f_X9_drawTellings_16B
  refine r_iload_w_3 dX9_drawTellings_16 ?_
  refine r_iload_n_1 dX9_drawTellings_18 rfl ?_
  refine r_icmp_ge (tgt := 92) dX9_drawTellings_19 (by decide) ?_ ?_
  · exact r_return dX9_drawTellings_92 rfl
  · refine r_iload_n_2 dX9_drawTellings_22 rfl ?_
    refine r_callSI [] (am_X9_drawNext v3 d) cf_X9_drawNext mw_X9_319 (by decide) dX9_drawTellings_23 rfl (Nat.le_of_ble_eq_true rfl) ⟨rfl, rfl⟩ (fun q2 => ?_)
    refine r_istore_n_2 dX9_drawTellings_26 rfl (by decide) rfl ?_
    refine r_iload_n_2 dX9_drawTellings_27 rfl ?_
    refine r_aload_n_0 dX9_drawTellings_28 rfl ?_
    refine r_getr (t := 2) (cc := 9) 3 rfl rfl uX9 (by decide) rfl fw_X9_23 rfl dX9_drawTellings_29 ?_
    refine r_geti (cc := 1) 1 rfl rfl uX1 (by decide) rfl fw_X9_234 dX9_drawTellings_32 ?_
    refine r_callSI [] (am_X9_drawOf q2.1 (q2.2.1 2 1) q2.2) cf_X9_drawOf mw_X9_322 (by decide) dX9_drawTellings_35 rfl (Nat.le_of_ble_eq_true rfl) ⟨rfl, rfl⟩ (fun q3 => ?_)
    refine r_istore_w_x dX9_drawTellings_38 (by decide) rfl ?_
    refine r_iload_n_3 dX9_drawTellings_40 rfl ?_
    refine r_callSI [] (am_X9_drawNext q2.1 q3.2) cf_X9_drawNext mw_X9_319 (by decide) dX9_drawTellings_41 rfl (Nat.le_of_ble_eq_true rfl) ⟨rfl, rfl⟩ (fun q4 => ?_)
    refine r_istore_n_3 dX9_drawTellings_44 rfl (by decide) rfl ?_
    refine r_iload_n_3 dX9_drawTellings_45 rfl ?_
    refine r_bipush dX9_drawTellings_46 kb_30 ?_
    refine r_callSI [] (am_X9_drawOf q4.1 (30 : Int32) q4.2) cf_X9_drawOf mw_X9_322 (by decide) dX9_drawTellings_48 rfl (Nat.le_of_ble_eq_true rfl) ⟨rfl, rfl⟩ (fun q5 => ?_)
    refine r_istore_w_x dX9_drawTellings_51 (by decide) rfl ?_
    refine r_aload_n_2 dX9_drawTellings_53 rfl ?_
    refine r_getr (t := 2) (cc := 9) 3 rfl rfl uX9 (by decide) rfl fw_X9_23 rfl dX9_drawTellings_54 ?_
    refine r_getr (t := 12) (cc := 1) 11 rfl rfl uX1 (by decide) rfl fw_X9_156 rfl dX9_drawTellings_57 ?_
    refine r_iload_w_1 dX9_drawTellings_60 ?_
    refine r_iload_w_0 dX9_drawTellings_62 ?_
    refine r_aload_n_2 dX9_drawTellings_64 rfl ?_
    refine r_getr (t := 2) (cc := 9) 3 rfl rfl uX9 (by decide) rfl fw_X9_23 rfl dX9_drawTellings_65 ?_
    refine r_aload_n_2 dX9_drawTellings_68 rfl ?_
    refine r_getr (t := 1) (cc := 9) 0 rfl rfl uX9 (by decide) rfl fw_X9_9 rfl dX9_drawTellings_69 ?_
    refine r_iload_w_1 dX9_drawTellings_72 ?_
    refine r_callSI [.ref 2, .int q5.1, .int q3.1, .ref 12] (am_X9_at 1 rfl q3.1 q5.2) cf_X9_at mw_X9_123 (by decide) dX9_drawTellings_74 rfl (Nat.le_of_ble_eq_true rfl) ⟨rfl, rfl⟩ (fun q6 => ?_)
    refine r_iload_w_0 dX9_drawTellings_77 ?_
    refine r_callVI (cc := 1) [.int q5.1, .int q3.1, .ref 12] (am_X1_trulyTold 2 rfl q6.1 q5.1 q6.2) rfl rfl cf_X1_trulyTold mw_X9_325 (by decide) dX9_drawTellings_79 rfl (Nat.le_of_ble_eq_true rfl) ⟨rfl, rfl⟩ (fun q7 => ?_)
    refine r_callVI (cc := 5) [] (am_X5_add 12 rfl q3.1 q5.1 q7.1 q7.2) rfl rfl cf_X5_add mw_X9_170 (by decide) dX9_drawTellings_82 rfl (Nat.le_of_ble_eq_true rfl) ⟨rfl, rfl⟩ (fun q8 => ?_)
    refine r_popi dX9_drawTellings_85 ?_
    refine r_iinc_5 dX9_drawTellings_86 ki_1 (by decide) rfl ?_
    refine r_goto (tgt := 16) dX9_drawTellings_89 (by decide) ?_
    refine r_sub [2, 3, 4, 5] (lv' := [(0, .ref 0), (1, .int v1), (3, .int q4.1), (4, .int (v4 + (1 : Int32)))]) rfl ?_
    exact hk16 v1 q4.1 (v4 + (1 : Int32)) q8.2
theorem w_X9_drawTellings_16 {E : XE} (n : Nat) : ∀ (v1 : Int32) (v3 : Int32) (v4 : Int32) (d : DD), AW E si_X9_drawTellings 0 0 (QM E wrU) (f_X9_drawTellings_16 n v1 v3 v4 d) 16 [(0, .ref 0), (1, .int v1), (3, .int v3), (4, .int v4)] [] d := by
  induction n with
  | zero => intros; exact r_none
  | succ n ih => intro v1 v3 v4 d; exact w_X9_drawTellings_16B (f_X9_drawTellings_16 n) ih v1 v3 v4 d
def f_X9_drawTellings (p1 : Int32) (p2 : Int32) (d : DD) : Option (Unit × DD) :=
  bd (u1 d 12 0 (0 : Int32)) fun d1 =>
  f_X9_drawTellings_16 FU p1 p2 (0 : Int32) d1
set_option maxRecDepth 100000 in
set_option maxHeartbeats 4000000 in
theorem am_X9_drawTellings (p1 : Int32) (p2 : Int32) (d : DD) : AM wrU mi_X9_drawTellings 3 75 [.ref 0, .int p1, .int p2] d (f_X9_drawTellings p1 p2 d) := by
  refine AM_intro (si := si_X9_drawTellings) (lv := [(0, .ref 0), (1, .int p1), (2, .int p2)]) rfl (by decide +kernel) rfl (Nat.le_of_ble_eq_true rfl) (fun E => ?_)
  unfold f_X9_drawTellings
  refine r_aload_n_0 dX9_drawTellings_0 rfl ?_
  refine r_getr (t := 2) (cc := 9) 3 rfl rfl uX9 (by decide) rfl fw_X9_23 rfl dX9_drawTellings_1 ?_
  refine r_getr (t := 12) (cc := 1) 11 rfl rfl uX1 (by decide) rfl fw_X9_156 rfl dX9_drawTellings_4 ?_
  refine r_iconst dX9_drawTellings_7 ki_0 ?_
  refine r_puti (cc := 5) 0 tyX5 tyX5_ok nmX5 rfl (by decide +kernel) rfl rfl uX5 (by decide) rfl fw_X9_174 dX9_drawTellings_8 ?_
  refine r_bd (fun d1 => ?_)
  refine r_iload_n_2 dX9_drawTellings_11 rfl ?_
  refine r_istore_n_x dX9_drawTellings_12 rfl (by decide) rfl ?_
  refine r_iconst dX9_drawTellings_13 ki_0 ?_
  refine r_istore_w_x dX9_drawTellings_14 (by decide) rfl ?_
  refine r_sub [2, 3, 1, 0] (lv' := [(0, .ref 0), (1, .int p1), (3, .int p2), (4, .int (0 : Int32))]) rfl ?_
  exact w_X9_drawTellings_16 FU p1 p2 (0 : Int32) d1
theorem cf_X9_drawTellings : CFv mi_X9_drawTellings 2 := ⟨iw_X9_drawTellings, vw_X9_drawTellings, nw_X9, cw_X9_drawTellings, by unfold plainF; decide +kernel⟩
abbrev si_X9_drawn : SI := (cX9_drawn, RX9, 4, (some .boolean), 4, 101)
def f_X9_drawn (p1 : Int32) (p2 : Int32) (d : DD) : Option (Int32 × DD) :=
  bd (d.1 0 1) fun x1 =>
  bd (u1 d 0 1 (0 : Int32)) fun d2 =>
  if p1 < (1 : Int32) then
  some ((0 : Int32), d2)
  else
  if (40 : Int32) < p1 then
    some ((0 : Int32), d2)
    else
    if (d2.1 2 1) = 0 then
      some ((0 : Int32), d2)
      else
      if x1 = (d2.1 2 1) then
        (f_X1_hasAllTruths 2 d2).bind fun q3 =>
          if q3.1 = 0 then
          some ((0 : Int32), q3.2)
          else
          (f_X9_areWays x1 q3.2).bind fun q4 =>
            if q4.1 = 0 then
            some ((0 : Int32), q4.2)
            else
            (f_X9_drawTellings p1 p2 q4.2).bind fun q5 =>
              some ((1 : Int32), q5.2)
        else
        some ((0 : Int32), d2)
set_option maxRecDepth 100000 in
set_option maxHeartbeats 4000000 in
theorem am_X9_drawn (p1 : Int32) (p2 : Int32) (d : DD) : AM wrI mi_X9_drawn 4 101 [.ref 0, .int p1, .int p2] d (f_X9_drawn p1 p2 d) := by
  refine AM_intro (si := si_X9_drawn) (lv := [(0, .ref 0), (1, .int p1), (2, .int p2)]) rfl (by decide +kernel) rfl (Nat.le_of_ble_eq_true rfl) (fun E => ?_)
  unfold f_X9_drawn
  refine r_aload_n_0 dX9_drawn_0 rfl ?_
  refine r_geti (cc := 9) 1 rfl rfl uX9 (by decide) rfl fw_X9_13 dX9_drawn_1 ?_
  refine r_bdI (fun x1 => ?_)
  refine r_istore_n_x dX9_drawn_4 rfl (by decide) rfl ?_
  refine r_aload_n_1 dX9_drawn_5 rfl ?_
  refine r_iconst dX9_drawn_6 ki_0 ?_
  refine r_puti (cc := 9) 1 tyX9 tyX9_ok nmX9 rfl (by decide +kernel) rfl rfl uX9 (by decide) rfl fw_X9_13 dX9_drawn_7 ?_
  refine r_bd (fun d2 => ?_)
  refine r_iload_n_2 dX9_drawn_10 rfl ?_
  refine r_iconst dX9_drawn_11 ki_1 ?_
  refine r_icmp_lt (tgt := 42) dX9_drawn_12 (by decide) ?_ ?_
  · refine r_iconst dX9_drawn_42 ki_0 ?_
    exact r_zreturn dX9_drawn_43 rfl rfl
  · refine r_iload_n_2 dX9_drawn_15 rfl ?_
    refine r_bipush dX9_drawn_16 kb_40 ?_
    refine r_icmp_gt (tgt := 42) dX9_drawn_18 (by decide) ?_ ?_
    · refine r_iconst dX9_drawn_42 ki_0 ?_
      exact r_zreturn dX9_drawn_43 rfl rfl
    · refine r_aload_n_1 dX9_drawn_21 rfl ?_
      refine r_getr (t := 2) (cc := 9) 3 rfl rfl uX9 (by decide) rfl fw_X9_23 rfl dX9_drawn_22 ?_
      refine r_geti (cc := 1) 1 rfl rfl uX1 (by decide) rfl fw_X9_234 dX9_drawn_25 ?_
      refine r_if_eq (tgt := 42) dX9_drawn_28 (by decide) ?_ ?_
      · refine r_iconst dX9_drawn_42 ki_0 ?_
        exact r_zreturn dX9_drawn_43 rfl rfl
      · refine r_iload_n_0 dX9_drawn_31 rfl ?_
        refine r_aload_n_1 dX9_drawn_32 rfl ?_
        refine r_getr (t := 2) (cc := 9) 3 rfl rfl uX9 (by decide) rfl fw_X9_23 rfl dX9_drawn_33 ?_
        refine r_geti (cc := 1) 1 rfl rfl uX1 (by decide) rfl fw_X9_234 dX9_drawn_36 ?_
        refine r_icmp_eq (tgt := 44) dX9_drawn_39 (by decide) ?_ ?_
        · refine r_aload_n_1 dX9_drawn_44 rfl ?_
          refine r_getr (t := 2) (cc := 9) 3 rfl rfl uX9 (by decide) rfl fw_X9_23 rfl dX9_drawn_45 ?_
          refine r_callVI (cc := 1) [] (am_X1_hasAllTruths 2 rfl d2) rfl rfl cf_X1_hasAllTruths mw_X9_310 (by decide) dX9_drawn_48 rfl (Nat.le_of_ble_eq_true rfl) ⟨rfl, rfl⟩ (fun q3 => ?_)
          refine r_if_eq (tgt := 62) dX9_drawn_51 (by decide) ?_ ?_
          · refine r_iconst dX9_drawn_62 ki_0 ?_
            exact r_zreturn dX9_drawn_63 rfl rfl
          · refine r_aload_n_1 dX9_drawn_54 rfl ?_
            refine r_iload_n_0 dX9_drawn_55 rfl ?_
            refine r_callVI (cc := 9) [] (am_X9_areWays x1 q3.2) rfl rfl cf_X9_areWays mw_X9_313 (by decide) dX9_drawn_56 rfl (Nat.le_of_ble_eq_true rfl) ⟨rfl, rfl⟩ (fun q4 => ?_)
            refine r_if_ne (tgt := 64) dX9_drawn_59 (by decide) ?_ ?_
            · refine r_aload_n_1 dX9_drawn_64 rfl ?_
              refine r_iload_n_2 dX9_drawn_65 rfl ?_
              refine r_iload_n_3 dX9_drawn_66 rfl ?_
              refine r_callVU (cc := 9) [] (am_X9_drawTellings p1 p2 q4.2) rfl rfl cf_X9_drawTellings mw_X9_316 (by decide) dX9_drawn_67 rfl (Nat.le_of_ble_eq_true rfl) ⟨rfl, rfl⟩ (fun q5 => ?_)
              refine r_iconst dX9_drawn_70 ki_1 ?_
              exact r_zreturn dX9_drawn_71 rfl rfl
            · refine r_iconst dX9_drawn_62 ki_0 ?_
              exact r_zreturn dX9_drawn_63 rfl rfl
        · refine r_iconst dX9_drawn_42 ki_0 ?_
          exact r_zreturn dX9_drawn_43 rfl rfl
theorem cf_X9_drawn : CFv mi_X9_drawn 2 := ⟨iw_X9_drawn, vw_X9_drawn, nw_X9, cw_X9_drawn, by unfold plainF; decide +kernel⟩
abbrev si_X9_end : SI := (cX9_end, RX9, 2, (some .boolean), 0, 0)
def f_X9_end (p1 : Int32) (d : DD) : Option (Int32 × DD) :=
  if p1 < 0 then
  some ((0 : Int32), d)
  else
  if (d.1 0 1) < p1 then
    some ((0 : Int32), d)
    else
    bd (u1 d 0 1 p1) fun d1 =>
      some ((1 : Int32), d1)
set_option maxRecDepth 100000 in
set_option maxHeartbeats 4000000 in
theorem am_X9_end (p1 : Int32) (d : DD) : AM wrI mi_X9_end 0 0 [.ref 0, .int p1] d (f_X9_end p1 d) := by
  refine AM_intro (si := si_X9_end) (lv := [(0, .ref 0), (1, .int p1)]) rfl (by decide +kernel) rfl (Nat.le_of_ble_eq_true rfl) (fun E => ?_)
  unfold f_X9_end
  refine r_iload_n_1 dX9_end_0 rfl ?_
  refine r_if_lt (tgt := 12) dX9_end_1 (by decide) ?_ ?_
  · refine r_iconst dX9_end_12 ki_0 ?_
    exact r_zreturn dX9_end_13 rfl rfl
  · refine r_iload_n_1 dX9_end_4 rfl ?_
    refine r_aload_n_0 dX9_end_5 rfl ?_
    refine r_geti (cc := 9) 1 rfl rfl uX9 (by decide) rfl fw_X9_13 dX9_end_6 ?_
    refine r_icmp_le (tgt := 14) dX9_end_9 (by decide) ?_ ?_
    · refine r_aload_n_0 dX9_end_14 rfl ?_
      refine r_iload_n_1 dX9_end_15 rfl ?_
      refine r_puti (cc := 9) 1 tyX9 tyX9_ok nmX9 rfl (by decide +kernel) rfl rfl uX9 (by decide) rfl fw_X9_13 dX9_end_16 ?_
      refine r_bd (fun d1 => ?_)
      refine r_iconst dX9_end_19 ki_1 ?_
      exact r_zreturn dX9_end_20 rfl rfl
    · refine r_iconst dX9_end_12 ki_0 ?_
      exact r_zreturn dX9_end_13 rfl rfl
theorem cf_X9_end : CFv mi_X9_end 1 := ⟨iw_X9_end, vw_X9_end, nw_X9, cw_X9_end, by unfold plainF; decide +kernel⟩
abbrev si_X9_endText : SI := (cX9_endText, RX9, 2, (some .int), 0, 0)
def f_X9_endText (p1 : Int32) (d : DD) : Option (Int32 × DD) :=
  bd (u1 d 0 1 (0 : Int32)) fun d1 =>
  bd (u1 d1 0 2 (d1.1 44 2)) fun d2 =>
  if p1 = (-1 : Int32) then
  some ((-1 : Int32) - (d2.1 44 3), d2)
  else
  some (p1, d2)
set_option maxRecDepth 100000 in
set_option maxHeartbeats 4000000 in
theorem am_X9_endText (p1 : Int32) (d : DD) : AM wrI mi_X9_endText 0 0 [.ref 0, .int p1] d (f_X9_endText p1 d) := by
  refine AM_intro (si := si_X9_endText) (lv := [(0, .ref 0), (1, .int p1)]) rfl (by decide +kernel) rfl (Nat.le_of_ble_eq_true rfl) (fun E => ?_)
  unfold f_X9_endText
  refine r_aload_n_0 dX9_endText_0 rfl ?_
  refine r_iconst dX9_endText_1 ki_0 ?_
  refine r_puti (cc := 9) 1 tyX9 tyX9_ok nmX9 rfl (by decide +kernel) rfl rfl uX9 (by decide) rfl fw_X9_13 dX9_endText_2 ?_
  refine r_bd (fun d1 => ?_)
  refine r_aload_n_0 dX9_endText_5 rfl ?_
  refine r_aload_n_0 dX9_endText_6 rfl ?_
  refine r_getr (t := 44) (cc := 9) 7 rfl rfl uX9 (by decide) rfl fw_X9_39 rfl dX9_endText_7 ?_
  refine r_geti (cc := 0) 2 rfl rfl uX0 (by decide) rfl fw_X9_107 dX9_endText_10 ?_
  refine r_puti (cc := 9) 2 tyX9 tyX9_ok nmX9 rfl (by decide +kernel) rfl rfl uX9 (by decide) rfl fw_X9_17 dX9_endText_13 ?_
  refine r_bd (fun d2 => ?_)
  refine r_iload_n_1 dX9_endText_16 rfl ?_
  refine r_iconst dX9_endText_17 ki_m1 ?_
  refine r_icmp_ne (tgt := 33) dX9_endText_18 (by decide) ?_ ?_
  · refine r_iload_n_1 dX9_endText_33 rfl ?_
    exact r_ireturn dX9_endText_34 rfl
  · refine r_iconst dX9_endText_21 ki_m1 ?_
    refine r_aload_n_0 dX9_endText_22 rfl ?_
    refine r_getr (t := 44) (cc := 9) 7 rfl rfl uX9 (by decide) rfl fw_X9_39 rfl dX9_endText_23 ?_
    refine r_geti (cc := 0) 3 rfl rfl uX0 (by decide) rfl fw_X9_110 dX9_endText_26 ?_
    refine r_isub dX9_endText_29 ?_
    refine r_goto (tgt := 34) dX9_endText_30 (by decide) ?_
    exact r_ireturn dX9_endText_34 rfl
theorem cf_X9_endText : CFv mi_X9_endText 1 := ⟨iw_X9_endText, vw_X9_endText, nw_X9, cw_X9_endText, by unfold plainF; decide +kernel⟩
abbrev si_X9_ended : SI := (cX9_ended, RX9, 2, (some .int), 0, 0)
def f_X9_ended (p1 : Int32) (d : DD) : Option (Int32 × DD) :=
  if p1 = 0 then
  some (d.1 83 1, d)
  else
  if p1 = (1 : Int32) then
    some (d.1 83 2, d)
    else
    some ((-1 : Int32), d)
set_option maxRecDepth 100000 in
set_option maxHeartbeats 4000000 in
theorem am_X9_ended (p1 : Int32) (d : DD) : AM wrI mi_X9_ended 0 0 [.ref 0, .int p1] d (f_X9_ended p1 d) := by
  refine AM_intro (si := si_X9_ended) (lv := [(0, .ref 0), (1, .int p1)]) rfl (by decide +kernel) rfl (Nat.le_of_ble_eq_true rfl) (fun E => ?_)
  unfold f_X9_ended
  refine r_iload_n_1 dX9_ended_0 rfl ?_
  refine r_if_ne (tgt := 12) dX9_ended_1 (by decide) ?_ ?_
  · refine r_iload_n_1 dX9_ended_12 rfl ?_
    refine r_iconst dX9_ended_13 ki_1 ?_
    refine r_icmp_ne (tgt := 27) dX9_ended_14 (by decide) ?_ ?_
    · refine r_iconst dX9_ended_27 ki_m1 ?_
      exact r_ireturn dX9_ended_28 rfl
    · refine r_aload_n_0 dX9_ended_17 rfl ?_
      refine r_getr (t := 83) (cc := 9) 12 rfl rfl uX9 (by decide) rfl fw_X9_78 rfl dX9_ended_18 ?_
      refine r_geti (cc := 4) 2 rfl rfl uX4 (by decide) rfl fw_X9_291 dX9_ended_21 ?_
      refine r_goto (tgt := 28) dX9_ended_24 (by decide) ?_
      exact r_ireturn dX9_ended_28 rfl
  · refine r_aload_n_0 dX9_ended_4 rfl ?_
    refine r_getr (t := 83) (cc := 9) 12 rfl rfl uX9 (by decide) rfl fw_X9_78 rfl dX9_ended_5 ?_
    refine r_geti (cc := 4) 1 rfl rfl uX4 (by decide) rfl fw_X9_288 dX9_ended_8 ?_
    exact r_ireturn dX9_ended_11 rfl
theorem cf_X9_ended : CFv mi_X9_ended 1 := ⟨iw_X9_ended, vw_X9_ended, nw_X9, cw_X9_ended, by unfold plainF; decide +kernel⟩
abbrev si_X9_fault : SI := (cX9_fault, RX9, 1, (some .int), 0, 0)
def f_X9_fault (d : DD) : Option (Int32 × DD) :=
  some (d.1 0 2, d)
set_option maxRecDepth 100000 in
set_option maxHeartbeats 4000000 in
theorem am_X9_fault (d : DD) : AM wrI mi_X9_fault 0 0 [.ref 0] d (f_X9_fault d) := by
  refine AM_intro (si := si_X9_fault) (lv := [(0, .ref 0)]) rfl (by decide +kernel) rfl (Nat.le_of_ble_eq_true rfl) (fun E => ?_)
  unfold f_X9_fault
  refine r_aload_n_0 dX9_fault_0 rfl ?_
  refine r_geti (cc := 9) 2 rfl rfl uX9 (by decide) rfl fw_X9_17 dX9_fault_1 ?_
  exact r_ireturn dX9_fault_4 rfl
theorem cf_X9_fault : CFv mi_X9_fault 0 := ⟨iw_X9_fault, vw_X9_fault, nw_X9, cw_X9_fault, by unfold plainF; decide +kernel⟩
abbrev si_X9_feed : SI := (cX9_feed, RX9, 6, (some .int), 2, 44)
def f_X9_feed (p1 : Int32) (p2 : Int32) (p3 : Int32) (p4 : Int32) (p5 : Int32) (d : DD) : Option (Int32 × DD) :=
  if (940 : Int32) < ((d.1 0 1) + (20 : Int32)) then
  some ((-1 : Int32), d)
  else
  (f_X9_addFour p1 d).bind fun q1 =>
    (f_X9_addFour p2 q1.2).bind fun q2 =>
    (f_X9_addFour p3 q2.2).bind fun q3 =>
    (f_X9_addFour p4 q3.2).bind fun q4 =>
    (f_X9_addFour p5 q4.2).bind fun q5 =>
    some (q5.2.1 0 1, q5.2)
set_option maxRecDepth 100000 in
set_option maxHeartbeats 4000000 in
theorem am_X9_feed (p1 : Int32) (p2 : Int32) (p3 : Int32) (p4 : Int32) (p5 : Int32) (d : DD) : AM wrI mi_X9_feed 2 44 [.ref 0, .int p1, .int p2, .int p3, .int p4, .int p5] d (f_X9_feed p1 p2 p3 p4 p5 d) := by
  refine AM_intro (si := si_X9_feed) (lv := [(0, .ref 0), (1, .int p1), (2, .int p2), (3, .int p3), (4, .int p4), (5, .int p5)]) rfl (by decide +kernel) rfl (Nat.le_of_ble_eq_true rfl) (fun E => ?_)
  unfold f_X9_feed
  refine r_aload_n_0 dX9_feed_0 rfl ?_
  refine r_geti (cc := 9) 1 rfl rfl uX9 (by decide) rfl fw_X9_13 dX9_feed_1 ?_
  refine r_bipush dX9_feed_4 kb_20 ?_
  refine r_iadd dX9_feed_6 ?_
  refine r_sipush dX9_feed_7 ks_940 ?_
  refine r_icmp_le (tgt := 15) dX9_feed_10 (by decide) ?_ ?_
  · refine r_aload_n_0 dX9_feed_15 rfl ?_
    refine r_iload_n_1 dX9_feed_16 rfl ?_
    refine r_callVU (cc := 9) [] (am_X9_addFour p1 d) rfl rfl cf_X9_addFour mw_X9_82 (by decide) dX9_feed_17 rfl (Nat.le_of_ble_eq_true rfl) ⟨rfl, rfl⟩ (fun q1 => ?_)
    refine r_aload_n_0 dX9_feed_20 rfl ?_
    refine r_iload_n_2 dX9_feed_21 rfl ?_
    refine r_callVU (cc := 9) [] (am_X9_addFour p2 q1.2) rfl rfl cf_X9_addFour mw_X9_82 (by decide) dX9_feed_22 rfl (Nat.le_of_ble_eq_true rfl) ⟨rfl, rfl⟩ (fun q2 => ?_)
    refine r_aload_n_0 dX9_feed_25 rfl ?_
    refine r_iload_n_3 dX9_feed_26 rfl ?_
    refine r_callVU (cc := 9) [] (am_X9_addFour p3 q2.2) rfl rfl cf_X9_addFour mw_X9_82 (by decide) dX9_feed_27 rfl (Nat.le_of_ble_eq_true rfl) ⟨rfl, rfl⟩ (fun q3 => ?_)
    refine r_aload_n_0 dX9_feed_30 rfl ?_
    refine r_iload_w_4 dX9_feed_31 ?_
    refine r_callVU (cc := 9) [] (am_X9_addFour p4 q3.2) rfl rfl cf_X9_addFour mw_X9_82 (by decide) dX9_feed_33 rfl (Nat.le_of_ble_eq_true rfl) ⟨rfl, rfl⟩ (fun q4 => ?_)
    refine r_aload_n_0 dX9_feed_36 rfl ?_
    refine r_iload_w_5 dX9_feed_37 ?_
    refine r_callVU (cc := 9) [] (am_X9_addFour p5 q4.2) rfl rfl cf_X9_addFour mw_X9_82 (by decide) dX9_feed_39 rfl (Nat.le_of_ble_eq_true rfl) ⟨rfl, rfl⟩ (fun q5 => ?_)
    refine r_aload_n_0 dX9_feed_42 rfl ?_
    refine r_geti (cc := 9) 1 rfl rfl uX9 (by decide) rfl fw_X9_13 dX9_feed_43 ?_
    exact r_ireturn dX9_feed_46 rfl
  · refine r_iconst dX9_feed_13 ki_m1 ?_
    exact r_ireturn dX9_feed_14 rfl
theorem cf_X9_feed : CFv mi_X9_feed 5 := ⟨iw_X9_feed, vw_X9_feed, nw_X9, cw_X9_feed, by unfold plainF; decide +kernel⟩
abbrev si_X9_fewest : SI := (cX9_fewest, RX9, 3, (some .int), 1, 21)
def f_X9_fewest_4B (k4 : Int32 → Int32 → Int32 → DD → Option (Int32 × DD)) (v0 : Int32) (v1 : Int32) (v2 : Int32) (d : DD) : Option (Int32 × DD) :=
  if v2 < (16 : Int32) then
  if ((iushr v0 v2) &&& (1 : Int32)) = (1 : Int32) then
    (f_J6_bitCount_0f7a4 v2 d).bind fun q1 =>
      bd (mnI v1 q1.1) fun x2 =>
      k4 v0 x2 (v2 + (1 : Int32)) q1.2
    else
    k4 v0 v1 (v2 + (1 : Int32)) d
  else
  some (v1, d)
def f_X9_fewest_4 : Nat → Int32 → Int32 → Int32 → DD → Option (Int32 × DD)
  | 0, _, _, _, _ => none
  | n + 1, v0, v1, v2, d => f_X9_fewest_4B (f_X9_fewest_4 n) v0 v1 v2 d
set_option maxRecDepth 100000 in
set_option maxHeartbeats 4000000 in
theorem w_X9_fewest_4B {E : XE} (k4 : Int32 → Int32 → Int32 → DD → Option (Int32 × DD)) (hk4 : ∀ (v0 : Int32) (v1 : Int32) (v2 : Int32) (d : DD), AW E si_X9_fewest 0 0 (QM E wrI) (k4 v0 v1 v2 d) 4 [(0, .int v0), (1, .int v1), (2, .int v2)] [] d) (v0 : Int32) (v1 : Int32) (v2 : Int32) (d : DD) : AW E si_X9_fewest 0 0 (QM E wrI) (f_X9_fewest_4B k4 v0 v1 v2 d) 4 [(0, .int v0), (1, .int v1), (2, .int v2)] [] d := by
  unfold f_X9_fewest_4B
  refine r_iload_n_2 dX9_fewest_4 rfl ?_
  refine r_bipush dX9_fewest_5 kb_16 ?_
  refine r_icmp_ge (tgt := 34) dX9_fewest_7 (by decide) ?_ ?_
  · refine r_iload_n_1 dX9_fewest_34 rfl ?_
    exact r_ireturn dX9_fewest_35 rfl
  · refine r_iload_n_0 dX9_fewest_10 rfl ?_
    refine r_iload_n_2 dX9_fewest_11 rfl ?_
    refine r_iushr dX9_fewest_12 ?_
    refine r_iconst dX9_fewest_13 ki_1 ?_
    refine r_iand dX9_fewest_14 ?_
    refine r_iconst dX9_fewest_15 ki_1 ?_
    refine r_icmp_ne (tgt := 28) dX9_fewest_16 (by decide) ?_ ?_
    · refine r_iinc_2 dX9_fewest_28 ki_1 (by decide) rfl ?_
      refine r_goto (tgt := 4) dX9_fewest_31 (by decide) ?_
      exact hk4 v0 v1 (v2 + (1 : Int32)) d
    · refine r_iload_n_1 dX9_fewest_19 rfl ?_
      refine r_iload_n_2 dX9_fewest_20 rfl ?_
      refine r_callSI [.int v1] (am_J6_bitCount_0f7a4 v2 d) cf_J6_bitCount_0f7a4 mw_X9_246 (by decide) dX9_fewest_21 rfl (Nat.le_of_ble_eq_true rfl) ⟨rfl, rfl⟩ (fun q1 => ?_)
      refine r_mnI [] mw_X9_251 (by decide) dX9_fewest_24 (Nat.le_of_ble_eq_true rfl) ⟨rfl, rfl⟩ ?_
      refine r_bdI (fun x2 => ?_)
      refine r_istore_n_1 dX9_fewest_27 rfl (by decide) rfl ?_
      refine r_iinc_2 dX9_fewest_28 ki_1 (by decide) rfl ?_
      refine r_goto (tgt := 4) dX9_fewest_31 (by decide) ?_
      exact hk4 v0 x2 (v2 + (1 : Int32)) q1.2
theorem w_X9_fewest_4 {E : XE} (n : Nat) : ∀ (v0 : Int32) (v1 : Int32) (v2 : Int32) (d : DD), AW E si_X9_fewest 0 0 (QM E wrI) (f_X9_fewest_4 n v0 v1 v2 d) 4 [(0, .int v0), (1, .int v1), (2, .int v2)] [] d := by
  induction n with
  | zero => intros; exact r_none
  | succ n ih => intro v0 v1 v2 d; exact w_X9_fewest_4B (f_X9_fewest_4 n) ih v0 v1 v2 d
def f_X9_fewest (p0 : Int32) (d : DD) : Option (Int32 × DD) :=
  f_X9_fewest_4 FU p0 (4 : Int32) (0 : Int32) d
set_option maxRecDepth 100000 in
set_option maxHeartbeats 4000000 in
theorem am_X9_fewest (p0 : Int32) (d : DD) : AM wrI mi_X9_fewest 1 21 [.int p0] d (f_X9_fewest p0 d) := by
  refine AM_intro (si := si_X9_fewest) (lv := [(0, .int p0)]) rfl (by decide +kernel) rfl (Nat.le_of_ble_eq_true rfl) (fun E => ?_)
  unfold f_X9_fewest
  refine r_iconst dX9_fewest_0 ki_4 ?_
  refine r_istore_n_x dX9_fewest_1 rfl (by decide) rfl ?_
  refine r_iconst dX9_fewest_2 ki_0 ?_
  refine r_istore_n_x dX9_fewest_3 rfl (by decide) rfl ?_
  refine r_sub [2, 1, 0] (lv' := [(0, .int p0), (1, .int (4 : Int32)), (2, .int (0 : Int32))]) rfl ?_
  exact w_X9_fewest_4 FU p0 (4 : Int32) (0 : Int32) d
theorem cf_X9_fewest : CFs mi_X9_fewest 1 := ⟨sw_X9_fewest, nw_X9, cw_X9_fewest, by unfold plainF; decide +kernel⟩
abbrev si_X9_surety : SI := (cX9_surety, RX9, 7, (some .int), 3, 67)
def f_X9_surety (p1 : Int32) (p2 : Int32) (d : DD) : Option (Int32 × DD) :=
  (f_X8_possible p1 d).bind fun q1 =>
  (f_X1_passing 2 p1 p2 q1.2).bind fun q2 =>
  if (q1.1 &&& (q2.1 ^^^ (-1 : Int64))) = (0 : Int64) then
  some ((1 : Int32), q2.2)
  else
  if (q1.1 &&& q2.1) = (0 : Int64) then
    some ((0 : Int32), q2.2)
    else
    some ((2 : Int32), q2.2)
set_option maxRecDepth 100000 in
set_option maxHeartbeats 4000000 in
theorem am_X9_surety (p1 : Int32) (p2 : Int32) (d : DD) : AM wrI mi_X9_surety 3 67 [.ref 0, .int p1, .int p2] d (f_X9_surety p1 p2 d) := by
  refine AM_intro (si := si_X9_surety) (lv := [(0, .ref 0), (1, .int p1), (2, .int p2)]) rfl (by decide +kernel) rfl (Nat.le_of_ble_eq_true rfl) (fun E => ?_)
  unfold f_X9_surety
  refine r_aload_n_0 dX9_surety_0 rfl ?_
  refine r_getr (t := 72) (cc := 9) 11 rfl rfl uX9 (by decide) rfl fw_X9_71 rfl dX9_surety_1 ?_
  refine r_iload_n_1 dX9_surety_4 rfl ?_
  refine r_callVL (cc := 8) [] (am_X8_possible p1 d) rfl rfl cf_X8_possible mw_X9_219 (by decide) dX9_surety_5 rfl (Nat.le_of_ble_eq_true rfl) ⟨rfl, rfl⟩ (fun q1 => ?_)
  refine r_lstore_n_x dX9_surety_8 rfl (by decide) rfl ?_
  refine r_aload_n_1 dX9_surety_9 rfl ?_
  refine r_getr (t := 2) (cc := 9) 3 rfl rfl uX9 (by decide) rfl fw_X9_23 rfl dX9_surety_10 ?_
  refine r_iload_n_2 dX9_surety_13 rfl ?_
  refine r_iload_n_3 dX9_surety_14 rfl ?_
  refine r_callVL (cc := 1) [] (am_X1_passing 2 rfl p1 p2 q1.2) rfl rfl cf_X1_passing mw_X9_143 (by decide) dX9_surety_15 rfl (Nat.le_of_ble_eq_true rfl) ⟨rfl, rfl⟩ (fun q2 => ?_)
  refine r_lstore_w_x dX9_surety_18 (by decide) rfl ?_
  refine r_lload_n_1 dX9_surety_20 rfl ?_
  refine r_lload_w_0 dX9_surety_21 ?_
  refine r_ldc2 dX9_surety_23 kw_X9_193 ?_
  refine r_lxor dX9_surety_26 ?_
  refine r_land dX9_surety_27 ?_
  refine r_lconst dX9_surety_28 kl_0 ?_
  refine r_lcmp_ne (tgt := 35) dX9_surety_29 dX9_surety_30 (by decide) ?_ ?_
  · refine r_lload_n_1 dX9_surety_35 rfl ?_
    refine r_lload_w_0 dX9_surety_36 ?_
    refine r_land dX9_surety_38 ?_
    refine r_lconst dX9_surety_39 kl_0 ?_
    refine r_lcmp_ne (tgt := 48) dX9_surety_40 dX9_surety_41 (by decide) ?_ ?_
    · refine r_iconst dX9_surety_48 ki_2 ?_
      exact r_ireturn dX9_surety_49 rfl
    · refine r_iconst dX9_surety_44 ki_0 ?_
      refine r_goto (tgt := 49) dX9_surety_45 (by decide) ?_
      exact r_ireturn dX9_surety_49 rfl
  · refine r_iconst dX9_surety_33 ki_1 ?_
    exact r_ireturn dX9_surety_34 rfl
theorem cf_X9_surety : CFv mi_X9_surety 2 := ⟨iw_X9_surety, vw_X9_surety, nw_X9, cw_X9_surety, by unfold plainF; decide +kernel⟩
abbrev si_X9_hours : SI := (cX9_hours, RX9, 5, (some .int), 6, 135)
def f_X9_hours_46B (k46 : Int32 → Int32 → Int32 → Int32 → DD → Option (Int32 × DD)) (v1 : Int32) (v2 : Int32) (v3 : Int32) (v4 : Int32) (d : DD) : Option (Int32 × DD) :=
  if v4 < (30 : Int32) then
  (f_X9_surety v1 v4 d).bind fun q4 =>
    if q4.1 = v2 then
    bd (v3 ||| ((1 : Int32) <<< (v4 &&& 31))) fun x5 =>
      k46 v1 v2 x5 (v4 + (1 : Int32)) q4.2
    else
    k46 v1 v2 v3 (v4 + (1 : Int32)) q4.2
  else
  some (v3, d)
def f_X9_hours_46 : Nat → Int32 → Int32 → Int32 → Int32 → DD → Option (Int32 × DD)
  | 0, _, _, _, _, _ => none
  | n + 1, v1, v2, v3, v4, d => f_X9_hours_46B (f_X9_hours_46 n) v1 v2 v3 v4 d
set_option maxRecDepth 100000 in
set_option maxHeartbeats 4000000 in
theorem w_X9_hours_46B {E : XE} (k46 : Int32 → Int32 → Int32 → Int32 → DD → Option (Int32 × DD)) (hk46 : ∀ (v1 : Int32) (v2 : Int32) (v3 : Int32) (v4 : Int32) (d : DD), AW E si_X9_hours 0 0 (QM E wrI) (k46 v1 v2 v3 v4 d) 46 [(0, .ref 0), (1, .int v1), (2, .int v2), (3, .int v3), (4, .int v4)] [] d) (v1 : Int32) (v2 : Int32) (v3 : Int32) (v4 : Int32) (d : DD) : AW E si_X9_hours 0 0 (QM E wrI) (f_X9_hours_46B k46 v1 v2 v3 v4 d) 46 [(0, .ref 0), (1, .int v1), (2, .int v2), (3, .int v3), (4, .int v4)] [] d := by
  unfold f_X9_hours_46B
  refine r_iload_w_4 dX9_hours_46 ?_
  refine r_bipush dX9_hours_48 kb_30 ?_
  refine r_icmp_ge (tgt := 77) dX9_hours_50 (by decide) ?_ ?_
  · refine r_iload_n_3 dX9_hours_77 rfl ?_
    exact r_ireturn dX9_hours_78 rfl
  · refine r_aload_n_0 dX9_hours_53 rfl ?_
    refine r_iload_n_1 dX9_hours_54 rfl ?_
    refine r_iload_w_4 dX9_hours_55 ?_
    refine r_callVI (cc := 9) [] (am_X9_surety v1 v4 d) rfl rfl cf_X9_surety mw_X9_215 (by decide) dX9_hours_57 rfl (Nat.le_of_ble_eq_true rfl) ⟨rfl, rfl⟩ (fun q4 => ?_)
    refine r_iload_n_2 dX9_hours_60 rfl ?_
    refine r_icmp_ne (tgt := 71) dX9_hours_61 (by decide) ?_ ?_
    · refine r_iinc_4 dX9_hours_71 ki_1 (by decide) rfl ?_
      refine r_goto (tgt := 46) dX9_hours_74 (by decide) ?_
      exact hk46 v1 v2 v3 (v4 + (1 : Int32)) q4.2
    · refine r_iload_n_3 dX9_hours_64 rfl ?_
      refine r_iconst dX9_hours_65 ki_1 ?_
      refine r_iload_w_4 dX9_hours_66 ?_
      refine r_ishl dX9_hours_68 ?_
      refine r_ior dX9_hours_69 ?_
      refine r_bdI (fun x5 => ?_)
      refine r_istore_n_3 dX9_hours_70 rfl (by decide) rfl ?_
      refine r_iinc_4 dX9_hours_71 ki_1 (by decide) rfl ?_
      refine r_goto (tgt := 46) dX9_hours_74 (by decide) ?_
      exact hk46 v1 v2 x5 (v4 + (1 : Int32)) q4.2
theorem w_X9_hours_46 {E : XE} (n : Nat) : ∀ (v1 : Int32) (v2 : Int32) (v3 : Int32) (v4 : Int32) (d : DD), AW E si_X9_hours 0 0 (QM E wrI) (f_X9_hours_46 n v1 v2 v3 v4 d) 46 [(0, .ref 0), (1, .int v1), (2, .int v2), (3, .int v3), (4, .int v4)] [] d := by
  induction n with
  | zero => intros; exact r_none
  | succ n ih => intro v1 v2 v3 v4 d; exact w_X9_hours_46B (f_X9_hours_46 n) ih v1 v2 v3 v4 d
def f_X9_hours (p1 : Int32) (p2 : Int32) (d : DD) : Option (Int32 × DD) :=
  (f_X1_hasKind 2 p1 d).bind fun q1 =>
  if q1.1 = 0 then
  some ((-1 : Int32), q1.2)
  else
  if p2 < 0 then
    some ((-1 : Int32), q1.2)
    else
    if (2 : Int32) < p2 then
      some ((-1 : Int32), q1.2)
      else
      (f_X8_gatherAll q1.2).bind fun q2 =>
        (f_X8_isEmpty q2.2).bind fun q3 =>
        if q3.1 = 0 then
        f_X9_hours_46 FU p1 p2 (0 : Int32) (0 : Int32) q3.2
        else
        some ((-1 : Int32), q3.2)
set_option maxRecDepth 100000 in
set_option maxHeartbeats 4000000 in
theorem am_X9_hours (p1 : Int32) (p2 : Int32) (d : DD) : AM wrI mi_X9_hours 6 135 [.ref 0, .int p1, .int p2] d (f_X9_hours p1 p2 d) := by
  refine AM_intro (si := si_X9_hours) (lv := [(0, .ref 0), (1, .int p1), (2, .int p2)]) rfl (by decide +kernel) rfl (Nat.le_of_ble_eq_true rfl) (fun E => ?_)
  unfold f_X9_hours
  refine r_aload_n_0 dX9_hours_0 rfl ?_
  refine r_getr (t := 2) (cc := 9) 3 rfl rfl uX9 (by decide) rfl fw_X9_23 rfl dX9_hours_1 ?_
  refine r_iload_n_1 dX9_hours_4 rfl ?_
  refine r_callVI (cc := 1) [] (am_X1_hasKind 2 rfl p1 d) rfl rfl cf_X1_hasKind mw_X9_113 (by decide) dX9_hours_5 rfl (Nat.le_of_ble_eq_true rfl) ⟨rfl, rfl⟩ (fun q1 => ?_)
  refine r_if_eq (tgt := 20) dX9_hours_8 (by decide) ?_ ?_
  · refine r_iconst dX9_hours_20 ki_m1 ?_
    exact r_ireturn dX9_hours_21 rfl
  · refine r_iload_n_2 dX9_hours_11 rfl ?_
    refine r_if_lt (tgt := 20) dX9_hours_12 (by decide) ?_ ?_
    · refine r_iconst dX9_hours_20 ki_m1 ?_
      exact r_ireturn dX9_hours_21 rfl
    · refine r_iload_n_2 dX9_hours_15 rfl ?_
      refine r_iconst dX9_hours_16 ki_2 ?_
      refine r_icmp_le (tgt := 22) dX9_hours_17 (by decide) ?_ ?_
      · refine r_aload_n_0 dX9_hours_22 rfl ?_
        refine r_getr (t := 72) (cc := 9) 11 rfl rfl uX9 (by decide) rfl fw_X9_71 rfl dX9_hours_23 ?_
        refine r_callVU (cc := 8) [] (am_X8_gatherAll q1.2) rfl rfl cf_X8_gatherAll mw_X9_186 (by decide) dX9_hours_26 rfl (Nat.le_of_ble_eq_true rfl) ⟨rfl, rfl⟩ (fun q2 => ?_)
        refine r_aload_n_0 dX9_hours_29 rfl ?_
        refine r_getr (t := 72) (cc := 9) 11 rfl rfl uX9 (by decide) rfl fw_X9_71 rfl dX9_hours_30 ?_
        refine r_callVI (cc := 8) [] (am_X8_isEmpty q2.2) rfl rfl cf_X8_isEmpty mw_X9_211 (by decide) dX9_hours_33 rfl (Nat.le_of_ble_eq_true rfl) ⟨rfl, rfl⟩ (fun q3 => ?_)
        refine r_if_eq (tgt := 41) dX9_hours_36 (by decide) ?_ ?_
        · refine r_iconst dX9_hours_41 ki_0 ?_
          refine r_istore_n_x dX9_hours_42 rfl (by decide) rfl ?_
          refine r_iconst dX9_hours_43 ki_0 ?_
          refine r_istore_w_x dX9_hours_44 (by decide) rfl ?_
          refine r_sub [2, 3, 4, 1, 0] (lv' := [(0, .ref 0), (1, .int p1), (2, .int p2), (3, .int (0 : Int32)), (4, .int (0 : Int32))]) rfl ?_
          exact w_X9_hours_46 FU p1 p2 (0 : Int32) (0 : Int32) q3.2
        · refine r_iconst dX9_hours_39 ki_m1 ?_
          exact r_ireturn dX9_hours_40 rfl
      · refine r_iconst dX9_hours_20 ki_m1 ?_
        exact r_ireturn dX9_hours_21 rfl
theorem cf_X9_hours : CFv mi_X9_hours 2 := ⟨iw_X9_hours, vw_X9_hours, nw_X9, cw_X9_hours, by unfold plainF; decide +kernel⟩
abbrev si_X9_house : SI := (cX9_house, RX9, 2, (some .int), 6, 138)
def f_X9_house_45 (v1 : Int32) (d : DD) : Option (Int32 × DD) :=
  (f_X9_endText v1 d).bind fun q3 =>
  some (q3.1, q3.2)
set_option maxRecDepth 100000 in
set_option maxHeartbeats 4000000 in
theorem w_X9_house_45 {E : XE} (v1 : Int32) (d : DD) : AW E si_X9_house 0 0 (QM E wrI) (f_X9_house_45 v1 d) 45 [(0, .ref 0), (1, .int v1)] [] d := by
  unfold f_X9_house_45
  refine r_aload_n_0 dX9_house_45 rfl ?_
  refine r_iload_n_1 dX9_house_46 rfl ?_
  refine r_callVI (cc := 9) [] (am_X9_endText v1 d) rfl rfl cf_X9_endText mw_X9_103 (by decide) dX9_house_47 rfl (Nat.le_of_ble_eq_true rfl) ⟨rfl, rfl⟩ (fun q3 => ?_)
  exact r_ireturn dX9_house_50 rfl
def f_X9_house (d : DD) : Option (Int32 × DD) :=
  (f_X0_begin 1 (d.1 0 1) (900 : Int32) d).bind fun q1 =>
  (f_X2_readAll q1.2).bind fun q2 =>
  if q2.1 = (-1 : Int32) then
  f_X9_house_45 q2.1 q2.2
  else
  (f_X1_copyFrom 2 50 q2.2).bind fun q4 =>
    f_X9_house_45 q2.1 q4.2
set_option maxRecDepth 100000 in
set_option maxHeartbeats 4000000 in
theorem am_X9_house (d : DD) : AM wrI mi_X9_house 6 138 [.ref 0] d (f_X9_house d) := by
  refine AM_intro (si := si_X9_house) (lv := [(0, .ref 0)]) rfl (by decide +kernel) rfl (Nat.le_of_ble_eq_true rfl) (fun E => ?_)
  unfold f_X9_house
  refine r_aload_n_0 dX9_house_0 rfl ?_
  refine r_getr (t := 44) (cc := 9) 7 rfl rfl uX9 (by decide) rfl fw_X9_39 rfl dX9_house_1 ?_
  refine r_aload_n_0 dX9_house_4 rfl ?_
  refine r_getr (t := 1) (cc := 9) 0 rfl rfl uX9 (by decide) rfl fw_X9_9 rfl dX9_house_5 ?_
  refine r_aload_n_0 dX9_house_8 rfl ?_
  refine r_geti (cc := 9) 1 rfl rfl uX9 (by decide) rfl fw_X9_13 dX9_house_9 ?_
  refine r_sipush dX9_house_12 ks_900 ?_
  refine r_callVU (cc := 0) [] (am_X0_begin 1 rfl (d.1 0 1) (900 : Int32) d) rfl rfl cf_X0_begin mw_X9_90 (by decide) dX9_house_15 rfl (Nat.le_of_ble_eq_true rfl) ⟨rfl, rfl⟩ (fun q1 => ?_)
  refine r_aload_n_0 dX9_house_18 rfl ?_
  refine r_getr (t := 49) (cc := 9) 8 rfl rfl uX9 (by decide) rfl fw_X9_48 rfl dX9_house_19 ?_
  refine r_callVI (cc := 2) [] (am_X2_readAll q1.2) rfl rfl cf_X2_readAll mw_X9_93 (by decide) dX9_house_22 rfl (Nat.le_of_ble_eq_true rfl) ⟨rfl, rfl⟩ (fun q2 => ?_)
  refine r_istore_n_x dX9_house_25 rfl (by decide) rfl ?_
  refine r_iload_n_0 dX9_house_26 rfl ?_
  refine r_iconst dX9_house_27 ki_m1 ?_
  refine r_icmp_eq (tgt := 45) dX9_house_28 (by decide) ?_ ?_
  · refine r_sub [1, 0] (lv' := [(0, .ref 0), (1, .int q2.1)]) rfl ?_
    exact w_X9_house_45 q2.1 q2.2
  · refine r_aload_n_1 dX9_house_31 rfl ?_
    refine r_getr (t := 2) (cc := 9) 3 rfl rfl uX9 (by decide) rfl fw_X9_23 rfl dX9_house_32 ?_
    refine r_aload_n_1 dX9_house_35 rfl ?_
    refine r_getr (t := 49) (cc := 9) 8 rfl rfl uX9 (by decide) rfl fw_X9_48 rfl dX9_house_36 ?_
    refine r_getr (t := 50) (cc := 2) 1 rfl rfl uX2 (by decide) rfl fw_X9_97 rfl dX9_house_39 ?_
    refine r_callVU (cc := 1) [] (am_X1_copyFrom 2 rfl 50 rfl q2.2) rfl rfl cf_X1_copyFrom mw_X9_100 (by decide) dX9_house_42 rfl (Nat.le_of_ble_eq_true rfl) ⟨rfl, rfl⟩ (fun q4 => ?_)
    refine r_sub [1, 0] (lv' := [(0, .ref 0), (1, .int q2.1)]) rfl ?_
    exact w_X9_house_45 q2.1 q4.2
theorem cf_X9_house : CFv mi_X9_house 0 := ⟨iw_X9_house, vw_X9_house, nw_X9, cw_X9_house, by unfold plainF; decide +kernel⟩
abbrev si_X9_imagePlace : SI := (cX9_imagePlace, RX9, 2, (some (.object "WindowTurns$House")), 0, 0)
def f_X9_imagePlace (p1 : Int32) (d : DD) : Option (Option Nat × DD) :=
  if p1 = 0 then
  some (some 16, d)
  else
  if p1 = (1 : Int32) then
    some (some 30, d)
    else
    some (none, d)
set_option maxRecDepth 100000 in
set_option maxHeartbeats 4000000 in
theorem am_X9_imagePlace (p1 : Int32) (d : DD) : AM wrR mi_X9_imagePlace 0 0 [.ref 0, .int p1] d (f_X9_imagePlace p1 d) := by
  refine AM_intro (si := si_X9_imagePlace) (lv := [(0, .ref 0), (1, .int p1)]) rfl (by decide +kernel) rfl (Nat.le_of_ble_eq_true rfl) (fun E => ?_)
  unfold f_X9_imagePlace
  refine r_iload_n_1 dX9_imagePlace_0 rfl ?_
  refine r_if_ne (tgt := 9) dX9_imagePlace_1 (by decide) ?_ ?_
  · refine r_iload_n_1 dX9_imagePlace_9 rfl ?_
    refine r_iconst dX9_imagePlace_10 ki_1 ?_
    refine r_icmp_ne (tgt := 21) dX9_imagePlace_11 (by decide) ?_ ?_
    · refine r_null dX9_imagePlace_21 ?_
      exact r_areturnN dX9_imagePlace_22 rfl
    · refine r_aload_n_0 dX9_imagePlace_14 rfl ?_
      refine r_getr (t := 30) (cc := 9) 5 rfl rfl uX9 (by decide) rfl fw_X9_30 rfl dX9_imagePlace_15 ?_
      refine r_goto (tgt := 22) dX9_imagePlace_18 (by decide) ?_
      exact r_areturn dX9_imagePlace_22 rfl
  · refine r_aload_n_0 dX9_imagePlace_4 rfl ?_
    refine r_getr (t := 16) (cc := 9) 4 rfl rfl uX9 (by decide) rfl fw_X9_27 rfl dX9_imagePlace_5 ?_
    exact r_areturn dX9_imagePlace_8 rfl
theorem cf_X9_imagePlace : CFv mi_X9_imagePlace 1 := ⟨iw_X9_imagePlace, vw_X9_imagePlace, nw_X9, cw_X9_imagePlace, by unfold plainF; decide +kernel⟩
abbrev si_X9_image : SI := (cX9_image, RX9, 3, (some .boolean), 3, 64)
def f_X9_image (p1 : Int32) (d : DD) : Option (Int32 × DD) :=
  (f_X9_imagePlace p1 d).bind fun q1 => match q1.1 with
  | none =>
  some ((0 : Int32), q1.2)
  | some a2 => if kd a2 = 5 then
  (f_X1_copyFrom a2 2 q1.2).bind fun q3 =>
    bd (u1 q3.2 0 6 ((q3.2.1 0 6) ||| ((1 : Int32) <<< (p1 &&& 31)))) fun d4 =>
    some ((1 : Int32), d4)
  else none
set_option maxRecDepth 100000 in
set_option maxHeartbeats 4000000 in
theorem am_X9_image (p1 : Int32) (d : DD) : AM wrI mi_X9_image 3 64 [.ref 0, .int p1] d (f_X9_image p1 d) := by
  refine AM_intro (si := si_X9_image) (lv := [(0, .ref 0), (1, .int p1)]) rfl (by decide +kernel) rfl (Nat.le_of_ble_eq_true rfl) (fun E => ?_)
  unfold f_X9_image
  refine r_aload_n_0 dX9_image_0 rfl ?_
  refine r_iload_n_1 dX9_image_1 rfl ?_
  refine r_callV (cc := 9) [] (am_X9_imagePlace p1 d) rfl rfl cf_X9_imagePlace mw_X9_329 (by decide) dX9_image_2 rfl (Nat.le_of_ble_eq_true rfl) ⟨rfl, rfl⟩ (fun q1 => r_mref ?_ (fun a2 ha2 => ?_))
  · refine r_astoreN_n [] [] [(0, .ref 0), (1, .int p1)] dX9_image_5 rfl (by decide) rfl ?_
    refine r_aloadN_n 0 dX9_image_6 rfl rfl ?_
    refine r_ifnonnullN dX9_image_7 ?_
    refine r_iconst dX9_image_10 ki_0 ?_
    exact r_zreturn dX9_image_11 rfl rfl
  · refine r_astore_n_x dX9_image_5 rfl (by decide) rfl ?_
    refine r_aload_n_0 dX9_image_6 rfl ?_
    refine r_ifnonnull (tgt := 12) dX9_image_7 (by decide) ?_
    refine r_aload_n_0 dX9_image_12 rfl ?_
    refine r_aload_n_1 dX9_image_13 rfl ?_
    refine r_getr (t := 2) (cc := 9) 3 rfl rfl uX9 (by decide) rfl fw_X9_23 rfl dX9_image_14 ?_
    refine r_callVU (cc := 1) [] (am_X1_copyFrom a2 ha2 2 rfl q1.2) ha2 rfl cf_X1_copyFrom mw_X9_100 (by decide) dX9_image_17 rfl (Nat.le_of_ble_eq_true rfl) ⟨rfl, rfl⟩ (fun q3 => ?_)
    refine r_aload_n_1 dX9_image_20 rfl ?_
    refine r_dupa dX9_image_21 ?_
    refine r_geti (cc := 9) 6 rfl rfl uX9 (by decide) rfl fw_X9_33 dX9_image_22 ?_
    refine r_iconst dX9_image_25 ki_1 ?_
    refine r_iload_n_2 dX9_image_26 rfl ?_
    refine r_ishl dX9_image_27 ?_
    refine r_ior dX9_image_28 ?_
    refine r_puti (cc := 9) 6 tyX9 tyX9_ok nmX9 rfl (by decide +kernel) rfl rfl uX9 (by decide) rfl fw_X9_33 dX9_image_29 ?_
    refine r_bd (fun d4 => ?_)
    refine r_iconst dX9_image_32 ki_1 ?_
    exact r_zreturn dX9_image_33 rfl rfl
theorem cf_X9_image : CFv mi_X9_image 1 := ⟨iw_X9_image, vw_X9_image, nw_X9, cw_X9_image, by unfold plainF; decide +kernel⟩
abbrev si_X9_left : SI := (cX9_left, RX9, 3, (some .long), 6, 135)
def f_X9_left (p1 : Int32) (p2 : Int32) (d : DD) : Option (Int64 × DD) :=
  (f_X1_hasPerson 2 p1 d).bind fun q1 =>
  if q1.1 = 0 then
  some ((-1 : Int64), q1.2)
  else
  (f_X9_isHour p2 q1.2).bind fun q2 =>
    if q2.1 = 0 then
    some ((-1 : Int64), q2.2)
    else
    (f_X8_gatherAll q2.2).bind fun q3 =>
      (f_X8_spread p1 p2 q3.2).bind fun q4 =>
      (f_X8_greatest q4.2).bind fun q5 =>
      some (q5.1, q5.2)
set_option maxRecDepth 100000 in
set_option maxHeartbeats 4000000 in
theorem am_X9_left (p1 : Int32) (p2 : Int32) (d : DD) : AM wrL mi_X9_left 6 135 [.ref 0, .int p1, .int p2] d (f_X9_left p1 p2 d) := by
  refine AM_intro (si := si_X9_left) (lv := [(0, .ref 0), (1, .int p1), (2, .int p2)]) rfl (by decide +kernel) rfl (Nat.le_of_ble_eq_true rfl) (fun E => ?_)
  unfold f_X9_left
  refine r_aload_n_0 dX9_left_0 rfl ?_
  refine r_getr (t := 2) (cc := 9) 3 rfl rfl uX9 (by decide) rfl fw_X9_23 rfl dX9_left_1 ?_
  refine r_iload_n_1 dX9_left_4 rfl ?_
  refine r_callVI (cc := 1) [] (am_X1_hasPerson 2 rfl p1 d) rfl rfl cf_X1_hasPerson mw_X9_147 (by decide) dX9_left_5 rfl (Nat.le_of_ble_eq_true rfl) ⟨rfl, rfl⟩ (fun q1 => ?_)
  refine r_if_eq (tgt := 18) dX9_left_8 (by decide) ?_ ?_
  · refine r_ldc2 dX9_left_18 kw_X9_193 ?_
    exact r_lreturn dX9_left_21 rfl
  · refine r_iload_n_2 dX9_left_11 rfl ?_
    refine r_callSI [] (am_X9_isHour p2 q1.2) cf_X9_isHour mw_X9_140 (by decide) dX9_left_12 rfl (Nat.le_of_ble_eq_true rfl) ⟨rfl, rfl⟩ (fun q2 => ?_)
    refine r_if_ne (tgt := 22) dX9_left_15 (by decide) ?_ ?_
    · refine r_aload_n_0 dX9_left_22 rfl ?_
      refine r_getr (t := 72) (cc := 9) 11 rfl rfl uX9 (by decide) rfl fw_X9_71 rfl dX9_left_23 ?_
      refine r_callVU (cc := 8) [] (am_X8_gatherAll q2.2) rfl rfl cf_X8_gatherAll mw_X9_186 (by decide) dX9_left_26 rfl (Nat.le_of_ble_eq_true rfl) ⟨rfl, rfl⟩ (fun q3 => ?_)
      refine r_aload_n_0 dX9_left_29 rfl ?_
      refine r_getr (t := 72) (cc := 9) 11 rfl rfl uX9 (by decide) rfl fw_X9_71 rfl dX9_left_30 ?_
      refine r_iload_n_1 dX9_left_33 rfl ?_
      refine r_iload_n_2 dX9_left_34 rfl ?_
      refine r_callVU (cc := 8) [] (am_X8_spread p1 p2 q3.2) rfl rfl cf_X8_spread mw_X9_262 (by decide) dX9_left_35 rfl (Nat.le_of_ble_eq_true rfl) ⟨rfl, rfl⟩ (fun q4 => ?_)
      refine r_aload_n_0 dX9_left_38 rfl ?_
      refine r_getr (t := 72) (cc := 9) 11 rfl rfl uX9 (by decide) rfl fw_X9_71 rfl dX9_left_39 ?_
      refine r_callVL (cc := 8) [] (am_X8_greatest q4.2) rfl rfl cf_X8_greatest mw_X9_274 (by decide) dX9_left_42 rfl (Nat.le_of_ble_eq_true rfl) ⟨rfl, rfl⟩ (fun q5 => ?_)
      exact r_lreturn dX9_left_45 rfl
    · refine r_ldc2 dX9_left_18 kw_X9_193 ?_
      exact r_lreturn dX9_left_21 rfl
theorem cf_X9_left : CFv mi_X9_left 2 := ⟨iw_X9_left, vw_X9_left, nw_X9, cw_X9_left, by unfold plainF; decide +kernel⟩
abbrev si_X9_liarSet : SI := (cX9_liarSet, RX9, 6, (some .int), 6, 135)
def f_X9_liarSet_45B (k45 : Int32 → Int32 → Int32 → Int32 → Int32 → DD → Option (Int32 × DD)) (v1 : Int32) (v2 : Int32) (v3 : Int32) (v4 : Int32) (v5 : Int32) (d : DD) : Option (Int32 × DD) :=
  if v5 < (16 : Int32) then
  if ((iushr v2 v5) &&& (1 : Int32)) = (1 : Int32) then
    (f_J6_bitCount_0f7a4 v5 d).bind fun q5 =>
      if q5.1 = v3 then
      if v4 = v1 then
        some (v5, q5.2)
        else
        k45 v1 v2 v3 (v4 + (1 : Int32)) (v5 + (1 : Int32)) q5.2
      else
      k45 v1 v2 v3 v4 (v5 + (1 : Int32)) q5.2
    else
    k45 v1 v2 v3 v4 (v5 + (1 : Int32)) d
  else
  if v1 = (-1 : Int32) then
    some (v4, d)
    else
    some ((-1 : Int32), d)
def f_X9_liarSet_45 : Nat → Int32 → Int32 → Int32 → Int32 → Int32 → DD → Option (Int32 × DD)
  | 0, _, _, _, _, _, _ => none
  | n + 1, v1, v2, v3, v4, v5, d => f_X9_liarSet_45B (f_X9_liarSet_45 n) v1 v2 v3 v4 v5 d
set_option maxRecDepth 100000 in
set_option maxHeartbeats 4000000 in
theorem w_X9_liarSet_45B {E : XE} (k45 : Int32 → Int32 → Int32 → Int32 → Int32 → DD → Option (Int32 × DD)) (hk45 : ∀ (v1 : Int32) (v2 : Int32) (v3 : Int32) (v4 : Int32) (v5 : Int32) (d : DD), AW E si_X9_liarSet 0 0 (QM E wrI) (k45 v1 v2 v3 v4 v5 d) 45 [(1, .int v1), (2, .int v2), (3, .int v3), (4, .int v4), (5, .int v5)] [] d) (v1 : Int32) (v2 : Int32) (v3 : Int32) (v4 : Int32) (v5 : Int32) (d : DD) : AW E si_X9_liarSet 0 0 (QM E wrI) (f_X9_liarSet_45B k45 v1 v2 v3 v4 v5 d) 45 [(1, .int v1), (2, .int v2), (3, .int v3), (4, .int v4), (5, .int v5)] [] d := by
  unfold f_X9_liarSet_45B
  refine r_iload_w_4 dX9_liarSet_45 ?_
  refine r_bipush dX9_liarSet_47 kb_16 ?_
  refine r_icmp_ge (tgt := 89) dX9_liarSet_49 (by decide) ?_ ?_
  · refine r_iload_n_0 dX9_liarSet_89 rfl ?_
    refine r_iconst dX9_liarSet_90 ki_m1 ?_
    refine r_icmp_ne (tgt := 99) dX9_liarSet_91 (by decide) ?_ ?_
    · refine r_iconst dX9_liarSet_99 ki_m1 ?_
      exact r_ireturn dX9_liarSet_100 rfl
    · refine r_iload_w_3 dX9_liarSet_94 ?_
      refine r_goto (tgt := 100) dX9_liarSet_96 (by decide) ?_
      exact r_ireturn dX9_liarSet_100 rfl
  · refine r_iload_n_1 dX9_liarSet_52 rfl ?_
    refine r_iload_w_4 dX9_liarSet_53 ?_
    refine r_iushr dX9_liarSet_55 ?_
    refine r_iconst dX9_liarSet_56 ki_1 ?_
    refine r_iand dX9_liarSet_57 ?_
    refine r_iconst dX9_liarSet_58 ki_1 ?_
    refine r_icmp_ne (tgt := 83) dX9_liarSet_59 (by decide) ?_ ?_
    · refine r_iinc_4 dX9_liarSet_83 ki_1 (by decide) rfl ?_
      refine r_goto (tgt := 45) dX9_liarSet_86 (by decide) ?_
      exact hk45 v1 v2 v3 v4 (v5 + (1 : Int32)) d
    · refine r_iload_w_4 dX9_liarSet_62 ?_
      refine r_callSI [] (am_J6_bitCount_0f7a4 v5 d) cf_J6_bitCount_0f7a4 mw_X9_246 (by decide) dX9_liarSet_64 rfl (Nat.le_of_ble_eq_true rfl) ⟨rfl, rfl⟩ (fun q5 => ?_)
      refine r_iload_n_2 dX9_liarSet_67 rfl ?_
      refine r_icmp_ne (tgt := 83) dX9_liarSet_68 (by decide) ?_ ?_
      · refine r_iinc_4 dX9_liarSet_83 ki_1 (by decide) rfl ?_
        refine r_goto (tgt := 45) dX9_liarSet_86 (by decide) ?_
        exact hk45 v1 v2 v3 v4 (v5 + (1 : Int32)) q5.2
      · refine r_iload_w_3 dX9_liarSet_71 ?_
        refine r_iload_n_0 dX9_liarSet_73 rfl ?_
        refine r_icmp_ne (tgt := 80) dX9_liarSet_74 (by decide) ?_ ?_
        · refine r_iinc_3 dX9_liarSet_80 ki_1 (by decide) rfl ?_
          refine r_iinc_4 dX9_liarSet_83 ki_1 (by decide) rfl ?_
          refine r_goto (tgt := 45) dX9_liarSet_86 (by decide) ?_
          exact hk45 v1 v2 v3 (v4 + (1 : Int32)) (v5 + (1 : Int32)) q5.2
        · refine r_iload_w_4 dX9_liarSet_77 ?_
          exact r_ireturn dX9_liarSet_79 rfl
theorem w_X9_liarSet_45 {E : XE} (n : Nat) : ∀ (v1 : Int32) (v2 : Int32) (v3 : Int32) (v4 : Int32) (v5 : Int32) (d : DD), AW E si_X9_liarSet 0 0 (QM E wrI) (f_X9_liarSet_45 n v1 v2 v3 v4 v5 d) 45 [(1, .int v1), (2, .int v2), (3, .int v3), (4, .int v4), (5, .int v5)] [] d := by
  induction n with
  | zero => intros; exact r_none
  | succ n ih => intro v1 v2 v3 v4 v5 d; exact w_X9_liarSet_45B (f_X9_liarSet_45 n) ih v1 v2 v3 v4 v5 d
def f_X9_liarSet (p1 : Int32) (d : DD) : Option (Int32 × DD) :=
  if p1 < (-1 : Int32) then
  some ((-1 : Int32), d)
  else
  (f_X8_gatherAll d).bind fun q1 =>
    (f_X8_isEmpty q1.2).bind fun q2 =>
    if q2.1 = 0 then
    (f_X8_liarSets q2.2).bind fun q3 =>
      (f_X9_fewest q3.1 q3.2).bind fun q4 =>
      f_X9_liarSet_45 FU p1 q3.1 q4.1 (0 : Int32) (0 : Int32) q4.2
    else
    some ((-1 : Int32), q2.2)
set_option maxRecDepth 100000 in
set_option maxHeartbeats 4000000 in
theorem am_X9_liarSet (p1 : Int32) (d : DD) : AM wrI mi_X9_liarSet 6 135 [.ref 0, .int p1] d (f_X9_liarSet p1 d) := by
  refine AM_intro (si := si_X9_liarSet) (lv := [(0, .ref 0), (1, .int p1)]) rfl (by decide +kernel) rfl (Nat.le_of_ble_eq_true rfl) (fun E => ?_)
  unfold f_X9_liarSet
  refine r_iload_n_1 dX9_liarSet_0 rfl ?_
  refine r_iconst dX9_liarSet_1 ki_m1 ?_
  refine r_icmp_ge (tgt := 7) dX9_liarSet_2 (by decide) ?_ ?_
  · refine r_aload_n_0 dX9_liarSet_7 rfl ?_
    refine r_getr (t := 72) (cc := 9) 11 rfl rfl uX9 (by decide) rfl fw_X9_71 rfl dX9_liarSet_8 ?_
    refine r_callVU (cc := 8) [] (am_X8_gatherAll d) rfl rfl cf_X8_gatherAll mw_X9_186 (by decide) dX9_liarSet_11 rfl (Nat.le_of_ble_eq_true rfl) ⟨rfl, rfl⟩ (fun q1 => ?_)
    refine r_aload_n_0 dX9_liarSet_14 rfl ?_
    refine r_getr (t := 72) (cc := 9) 11 rfl rfl uX9 (by decide) rfl fw_X9_71 rfl dX9_liarSet_15 ?_
    refine r_callVI (cc := 8) [] (am_X8_isEmpty q1.2) rfl rfl cf_X8_isEmpty mw_X9_211 (by decide) dX9_liarSet_18 rfl (Nat.le_of_ble_eq_true rfl) ⟨rfl, rfl⟩ (fun q2 => ?_)
    refine r_if_eq (tgt := 26) dX9_liarSet_21 (by decide) ?_ ?_
    · refine r_aload_n_0 dX9_liarSet_26 rfl ?_
      refine r_getr (t := 72) (cc := 9) 11 rfl rfl uX9 (by decide) rfl fw_X9_71 rfl dX9_liarSet_27 ?_
      refine r_callVI (cc := 8) [] (am_X8_liarSets q2.2) rfl rfl cf_X8_liarSets mw_X9_240 (by decide) dX9_liarSet_30 rfl (Nat.le_of_ble_eq_true rfl) ⟨rfl, rfl⟩ (fun q3 => ?_)
      refine r_istore_n_x dX9_liarSet_33 rfl (by decide) rfl ?_
      refine r_iload_n_0 dX9_liarSet_34 rfl ?_
      refine r_callSI [] (am_X9_fewest q3.1 q3.2) cf_X9_fewest mw_X9_243 (by decide) dX9_liarSet_35 rfl (Nat.le_of_ble_eq_true rfl) ⟨rfl, rfl⟩ (fun q4 => ?_)
      refine r_istore_n_x dX9_liarSet_38 rfl (by decide) rfl ?_
      refine r_iconst dX9_liarSet_39 ki_0 ?_
      refine r_istore_w_x dX9_liarSet_40 (by decide) rfl ?_
      refine r_iconst dX9_liarSet_42 ki_0 ?_
      refine r_istore_w_x dX9_liarSet_43 (by decide) rfl ?_
      refine r_sub [5, 3, 2, 1, 0] (lv' := [(1, .int p1), (2, .int q3.1), (3, .int q4.1), (4, .int (0 : Int32)), (5, .int (0 : Int32))]) rfl ?_
      exact w_X9_liarSet_45 FU p1 q3.1 q4.1 (0 : Int32) (0 : Int32) q4.2
    · refine r_iconst dX9_liarSet_24 ki_m1 ?_
      exact r_ireturn dX9_liarSet_25 rfl
  · refine r_iconst dX9_liarSet_5 ki_m1 ?_
    exact r_ireturn dX9_liarSet_6 rfl
theorem cf_X9_liarSet : CFv mi_X9_liarSet 1 := ⟨iw_X9_liarSet, vw_X9_liarSet, nw_X9, cw_X9_liarSet, by unfold plainF; decide +kernel⟩
abbrev si_X9_liars : SI := (cX9_liars, RX9, 1, (some .int), 6, 135)
def f_X9_liars (d : DD) : Option (Int32 × DD) :=
  (f_X8_gatherAll d).bind fun q1 =>
  (f_X8_isEmpty q1.2).bind fun q2 =>
  if q2.1 = 0 then
  (f_X8_liarSets q2.2).bind fun q3 =>
    (f_X9_fewest q3.1 q3.2).bind fun q4 =>
    some (q4.1, q4.2)
  else
  some ((-1 : Int32), q2.2)
set_option maxRecDepth 100000 in
set_option maxHeartbeats 4000000 in
theorem am_X9_liars (d : DD) : AM wrI mi_X9_liars 6 135 [.ref 0] d (f_X9_liars d) := by
  refine AM_intro (si := si_X9_liars) (lv := [(0, .ref 0)]) rfl (by decide +kernel) rfl (Nat.le_of_ble_eq_true rfl) (fun E => ?_)
  unfold f_X9_liars
  refine r_aload_n_0 dX9_liars_0 rfl ?_
  refine r_getr (t := 72) (cc := 9) 11 rfl rfl uX9 (by decide) rfl fw_X9_71 rfl dX9_liars_1 ?_
  refine r_callVU (cc := 8) [] (am_X8_gatherAll d) rfl rfl cf_X8_gatherAll mw_X9_186 (by decide) dX9_liars_4 rfl (Nat.le_of_ble_eq_true rfl) ⟨rfl, rfl⟩ (fun q1 => ?_)
  refine r_aload_n_0 dX9_liars_7 rfl ?_
  refine r_getr (t := 72) (cc := 9) 11 rfl rfl uX9 (by decide) rfl fw_X9_71 rfl dX9_liars_8 ?_
  refine r_callVI (cc := 8) [] (am_X8_isEmpty q1.2) rfl rfl cf_X8_isEmpty mw_X9_211 (by decide) dX9_liars_11 rfl (Nat.le_of_ble_eq_true rfl) ⟨rfl, rfl⟩ (fun q2 => ?_)
  refine r_if_eq (tgt := 21) dX9_liars_14 (by decide) ?_ ?_
  · refine r_aload_n_0 dX9_liars_21 rfl ?_
    refine r_getr (t := 72) (cc := 9) 11 rfl rfl uX9 (by decide) rfl fw_X9_71 rfl dX9_liars_22 ?_
    refine r_callVI (cc := 8) [] (am_X8_liarSets q2.2) rfl rfl cf_X8_liarSets mw_X9_240 (by decide) dX9_liars_25 rfl (Nat.le_of_ble_eq_true rfl) ⟨rfl, rfl⟩ (fun q3 => ?_)
    refine r_callSI [] (am_X9_fewest q3.1 q3.2) cf_X9_fewest mw_X9_243 (by decide) dX9_liars_28 rfl (Nat.le_of_ble_eq_true rfl) ⟨rfl, rfl⟩ (fun q4 => ?_)
    exact r_ireturn dX9_liars_31 rfl
  · refine r_iconst dX9_liars_17 ki_m1 ?_
    refine r_goto (tgt := 31) dX9_liars_18 (by decide) ?_
    exact r_ireturn dX9_liars_31 rfl
theorem cf_X9_liars : CFv mi_X9_liars 0 := ⟨iw_X9_liars, vw_X9_liars, nw_X9, cw_X9_liars, by unfold plainF; decide +kernel⟩
abbrev si_X9_lying : SI := (cX9_lying, RX9, 6, (some .int), 6, 135)
def f_X9_lying_85 (k34 : Int32 → Int32 → Int32 → DD → Option (Int32 × DD)) (v1 : Int32) (v2 : Int32) (v3 : Int32) (t0 : Int32) (d : DD) : Option (Int32 × DD) :=
  if t0 = 0 then
  k34 v1 v2 (v3 + (1 : Int32)) d
  else
  bd (v2 ||| ((1 : Int32) <<< (v3 &&& 31))) fun x4 =>
    k34 v1 x4 (v3 + (1 : Int32)) d
set_option maxRecDepth 100000 in
set_option maxHeartbeats 4000000 in
theorem w_X9_lying_85 {E : XE} (k34 : Int32 → Int32 → Int32 → DD → Option (Int32 × DD)) (hk34 : ∀ (v1 : Int32) (v2 : Int32) (v3 : Int32) (d : DD), AW E si_X9_lying 0 0 (QM E wrI) (k34 v1 v2 v3 d) 34 [(0, .ref 0), (1, .int v1), (2, .int v2), (3, .int v3)] [] d) (v1 : Int32) (v2 : Int32) (v3 : Int32) (t0 : Int32) (d : DD) : AW E si_X9_lying 0 0 (QM E wrI) (f_X9_lying_85 k34 v1 v2 v3 t0 d) 85 [(0, .ref 0), (1, .int v1), (2, .int v2), (3, .int v3)] [.int t0] d := by
  unfold f_X9_lying_85
  refine r_istore_w_x dX9_lying_85 (by decide) rfl ?_
  refine r_iload_w_0 dX9_lying_87 ?_
  refine r_if_eq (tgt := 98) dX9_lying_89 (by decide) ?_ ?_
  · refine r_iinc_4 dX9_lying_98 ki_1 (by decide) rfl ?_
    refine r_goto (tgt := 34) dX9_lying_101 (by decide) ?_
    refine r_sub [1, 2, 3, 4] (lv' := [(0, .ref 0), (1, .int v1), (2, .int v2), (3, .int (v3 + (1 : Int32)))]) rfl ?_
    exact hk34 v1 v2 (v3 + (1 : Int32)) d
  · refine r_iload_n_3 dX9_lying_92 rfl ?_
    refine r_iconst dX9_lying_93 ki_1 ?_
    refine r_iload_n_4 dX9_lying_94 rfl ?_
    refine r_ishl dX9_lying_95 ?_
    refine r_ior dX9_lying_96 ?_
    refine r_bdI (fun x4 => ?_)
    refine r_istore_n_3 dX9_lying_97 rfl (by decide) rfl ?_
    refine r_iinc_4 dX9_lying_98 ki_1 (by decide) rfl ?_
    refine r_goto (tgt := 34) dX9_lying_101 (by decide) ?_
    refine r_sub [1, 2, 3, 4] (lv' := [(0, .ref 0), (1, .int v1), (2, .int x4), (3, .int (v3 + (1 : Int32)))]) rfl ?_
    exact hk34 v1 x4 (v3 + (1 : Int32)) d
def f_X9_lying_34B (k34 : Int32 → Int32 → Int32 → DD → Option (Int32 × DD)) (v1 : Int32) (v2 : Int32) (v3 : Int32) (d : DD) : Option (Int32 × DD) :=
  if v3 < (d.1 2 1) then
  (f_X8_possibleWays v3 d).bind fun q3 =>
    if v1 = 0 then
    if (q3.1 &&& (1 : Int32)) = 0 then
      f_X9_lying_85 k34 v1 v2 v3 (1 : Int32) q3.2
      else
      f_X9_lying_85 k34 v1 v2 v3 (0 : Int32) q3.2
    else
    if q3.1 = (1 : Int32) then
      f_X9_lying_85 k34 v1 v2 v3 (1 : Int32) q3.2
      else
      f_X9_lying_85 k34 v1 v2 v3 (0 : Int32) q3.2
  else
  some (v2, d)
def f_X9_lying_34 : Nat → Int32 → Int32 → Int32 → DD → Option (Int32 × DD)
  | 0, _, _, _, _ => none
  | n + 1, v1, v2, v3, d => f_X9_lying_34B (f_X9_lying_34 n) v1 v2 v3 d
set_option maxRecDepth 100000 in
set_option maxHeartbeats 4000000 in
theorem w_X9_lying_34B {E : XE} (k34 : Int32 → Int32 → Int32 → DD → Option (Int32 × DD)) (hk34 : ∀ (v1 : Int32) (v2 : Int32) (v3 : Int32) (d : DD), AW E si_X9_lying 0 0 (QM E wrI) (k34 v1 v2 v3 d) 34 [(0, .ref 0), (1, .int v1), (2, .int v2), (3, .int v3)] [] d) (v1 : Int32) (v2 : Int32) (v3 : Int32) (d : DD) : AW E si_X9_lying 0 0 (QM E wrI) (f_X9_lying_34B k34 v1 v2 v3 d) 34 [(0, .ref 0), (1, .int v1), (2, .int v2), (3, .int v3)] [] d := by
  unfold f_X9_lying_34B
  refine r_iload_n_3 dX9_lying_34 rfl ?_
  refine r_aload_n_0 dX9_lying_35 rfl ?_
  refine r_getr (t := 2) (cc := 9) 3 rfl rfl uX9 (by decide) rfl fw_X9_23 rfl dX9_lying_36 ?_
  refine r_geti (cc := 1) 1 rfl rfl uX1 (by decide) rfl fw_X9_234 dX9_lying_39 ?_
  refine r_icmp_ge (tgt := 104) dX9_lying_42 (by decide) ?_ ?_
  · refine r_iload_n_2 dX9_lying_104 rfl ?_
    exact r_ireturn dX9_lying_105 rfl
  · refine r_aload_n_0 dX9_lying_45 rfl ?_
    refine r_getr (t := 72) (cc := 9) 11 rfl rfl uX9 (by decide) rfl fw_X9_71 rfl dX9_lying_46 ?_
    refine r_iload_n_3 dX9_lying_49 rfl ?_
    refine r_callVI (cc := 8) [] (am_X8_possibleWays v3 d) rfl rfl cf_X8_possibleWays mw_X9_237 (by decide) dX9_lying_50 rfl (Nat.le_of_ble_eq_true rfl) ⟨rfl, rfl⟩ (fun q3 => ?_)
    refine r_istore_w_x dX9_lying_53 (by decide) rfl ?_
    refine r_iload_n_2 dX9_lying_55 rfl ?_
    refine r_if_ne (tgt := 74) dX9_lying_56 (by decide) ?_ ?_
    · refine r_iload_w_0 dX9_lying_74 ?_
      refine r_iconst dX9_lying_76 ki_1 ?_
      refine r_icmp_ne (tgt := 84) dX9_lying_77 (by decide) ?_ ?_
      · refine r_iconst dX9_lying_84 ki_0 ?_
        refine r_sub [1, 2, 3, 4] (lv' := [(0, .ref 0), (1, .int v1), (2, .int v2), (3, .int v3)]) rfl ?_
        exact w_X9_lying_85 k34 hk34 v1 v2 v3 (0 : Int32) q3.2
      · refine r_iconst dX9_lying_80 ki_1 ?_
        refine r_goto (tgt := 85) dX9_lying_81 (by decide) ?_
        refine r_sub [1, 2, 3, 4] (lv' := [(0, .ref 0), (1, .int v1), (2, .int v2), (3, .int v3)]) rfl ?_
        exact w_X9_lying_85 k34 hk34 v1 v2 v3 (1 : Int32) q3.2
    · refine r_iload_w_0 dX9_lying_59 ?_
      refine r_iconst dX9_lying_61 ki_1 ?_
      refine r_iand dX9_lying_62 ?_
      refine r_if_ne (tgt := 70) dX9_lying_63 (by decide) ?_ ?_
      · refine r_iconst dX9_lying_70 ki_0 ?_
        refine r_goto (tgt := 85) dX9_lying_71 (by decide) ?_
        refine r_sub [1, 2, 3, 4] (lv' := [(0, .ref 0), (1, .int v1), (2, .int v2), (3, .int v3)]) rfl ?_
        exact w_X9_lying_85 k34 hk34 v1 v2 v3 (0 : Int32) q3.2
      · refine r_iconst dX9_lying_66 ki_1 ?_
        refine r_goto (tgt := 85) dX9_lying_67 (by decide) ?_
        refine r_sub [1, 2, 3, 4] (lv' := [(0, .ref 0), (1, .int v1), (2, .int v2), (3, .int v3)]) rfl ?_
        exact w_X9_lying_85 k34 hk34 v1 v2 v3 (1 : Int32) q3.2
theorem w_X9_lying_34 {E : XE} (n : Nat) : ∀ (v1 : Int32) (v2 : Int32) (v3 : Int32) (d : DD), AW E si_X9_lying 0 0 (QM E wrI) (f_X9_lying_34 n v1 v2 v3 d) 34 [(0, .ref 0), (1, .int v1), (2, .int v2), (3, .int v3)] [] d := by
  induction n with
  | zero => intros; exact r_none
  | succ n ih => intro v1 v2 v3 d; exact w_X9_lying_34B (f_X9_lying_34 n) ih v1 v2 v3 d
def f_X9_lying (p1 : Int32) (d : DD) : Option (Int32 × DD) :=
  if p1 < 0 then
  some ((-1 : Int32), d)
  else
  if (1 : Int32) < p1 then
    some ((-1 : Int32), d)
    else
    (f_X8_gatherAll d).bind fun q1 =>
      (f_X8_isEmpty q1.2).bind fun q2 =>
      if q2.1 = 0 then
      f_X9_lying_34 FU p1 (0 : Int32) (0 : Int32) q2.2
      else
      some ((-1 : Int32), q2.2)
set_option maxRecDepth 100000 in
set_option maxHeartbeats 4000000 in
theorem am_X9_lying (p1 : Int32) (d : DD) : AM wrI mi_X9_lying 6 135 [.ref 0, .int p1] d (f_X9_lying p1 d) := by
  refine AM_intro (si := si_X9_lying) (lv := [(0, .ref 0), (1, .int p1)]) rfl (by decide +kernel) rfl (Nat.le_of_ble_eq_true rfl) (fun E => ?_)
  unfold f_X9_lying
  refine r_iload_n_1 dX9_lying_0 rfl ?_
  refine r_if_lt (tgt := 9) dX9_lying_1 (by decide) ?_ ?_
  · refine r_iconst dX9_lying_9 ki_m1 ?_
    exact r_ireturn dX9_lying_10 rfl
  · refine r_iload_n_1 dX9_lying_4 rfl ?_
    refine r_iconst dX9_lying_5 ki_1 ?_
    refine r_icmp_le (tgt := 11) dX9_lying_6 (by decide) ?_ ?_
    · refine r_aload_n_0 dX9_lying_11 rfl ?_
      refine r_getr (t := 72) (cc := 9) 11 rfl rfl uX9 (by decide) rfl fw_X9_71 rfl dX9_lying_12 ?_
      refine r_callVU (cc := 8) [] (am_X8_gatherAll d) rfl rfl cf_X8_gatherAll mw_X9_186 (by decide) dX9_lying_15 rfl (Nat.le_of_ble_eq_true rfl) ⟨rfl, rfl⟩ (fun q1 => ?_)
      refine r_aload_n_0 dX9_lying_18 rfl ?_
      refine r_getr (t := 72) (cc := 9) 11 rfl rfl uX9 (by decide) rfl fw_X9_71 rfl dX9_lying_19 ?_
      refine r_callVI (cc := 8) [] (am_X8_isEmpty q1.2) rfl rfl cf_X8_isEmpty mw_X9_211 (by decide) dX9_lying_22 rfl (Nat.le_of_ble_eq_true rfl) ⟨rfl, rfl⟩ (fun q2 => ?_)
      refine r_if_eq (tgt := 30) dX9_lying_25 (by decide) ?_ ?_
      · refine r_iconst dX9_lying_30 ki_0 ?_
        refine r_istore_n_x dX9_lying_31 rfl (by decide) rfl ?_
        refine r_iconst dX9_lying_32 ki_0 ?_
        refine r_istore_n_x dX9_lying_33 rfl (by decide) rfl ?_
        refine r_sub [2, 3, 1, 0] (lv' := [(0, .ref 0), (1, .int p1), (2, .int (0 : Int32)), (3, .int (0 : Int32))]) rfl ?_
        exact w_X9_lying_34 FU p1 (0 : Int32) (0 : Int32) q2.2
      · refine r_iconst dX9_lying_28 ki_m1 ?_
        exact r_ireturn dX9_lying_29 rfl
    · refine r_iconst dX9_lying_9 ki_m1 ?_
      exact r_ireturn dX9_lying_10 rfl
theorem cf_X9_lying : CFv mi_X9_lying 1 := ⟨iw_X9_lying, vw_X9_lying, nw_X9, cw_X9_lying, by unfold plainF; decide +kernel⟩
